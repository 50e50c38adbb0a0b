def fX9_check_48 (F : Nat) (t0 : Int32) (σ : qS) : Option (Int32 × qS) :=
  some (t0, σ)
def fX9_check_26 (F : Nat) (x1 : Int32) (x2 : Int32) (x3 : Int32) (t1 : Int32) (σ : qS) : Option (Int32 × qS) :=
  bnd2 (fX9_holds F t1 σ) fun v8 s7 => (if v8 = 0 then (bnd2 (fX9_act F x1 4 x2 x3 0 0 0 0 s7) fun v11 s10 => (fX9_check_48 F v11 s10)) else (fX9_check_48 F ((-1)) s7))
def fX9_check (F : Nat) (p1 : Int32) (p2 : Int32) (p3 : Int32) (σ : qS) : Option (Int32 × qS) :=
  bnd2 (fX9_isSession F p1 σ) fun v2 s1 => (if v2 = 0 then (fX9_check_26 F p1 p2 p3 1 s1) else (bnd2 (fX9_barred F p1 s1) fun v5 s4 => (if v5 = 0 then (fX9_check_26 F p1 p2 p3 0 s4) else (fX9_check_26 F p1 p2 p3 2 s4))))
set_option maxRecDepth 100000 in
set_option maxHeartbeats 4000000 in
theorem wX9_check (l : Launch) (D : va_G) (Y : Nat → ClassId) (ad : qAd) (F : Nat) (p1 : Int32) (p2 : Int32) (p3 : Int32) (σ : qS) : qCi l yX9_check cX9_check 4 (some .int) 7 168 D (mL Y) (qT Y) ad [.ref (ad 0 0), .int p1, .int p2, .int p3] σ (fX9_check F p1 p2 p3 σ) := by
  refine q_ofi (by decide) (Nat.le_of_ble_eq_true rfl) "LeasehallModel" rfl (fun p e s m below meth c A Q r0 S0 hf hw hret ls hl => ?_)
  replace hl : lv_has ls 4 [(0, .ref (ad 0 0)), (1, .int p1), (2, .int p2), (3, .int p3)] := hl
  unfold fX9_check at hf
  have b48 : ∀ (t0 : Int32) (σ : qS), fX9_check_48 F t0 σ = some r0 → qAt p l e (qRm 7 168) s m ([.ref (ad 0 0), .int p1, .int p2, .int p3] : List Value).toArray below meth c Q D (mL Y) (qT Y) A ad 4 0 0 48 [] [.int t0] σ := by
    clear hf hw hl ls
    intro t0 σ hf H locs ls hw hl
    unfold fX9_check_48 at hf
    exact hret dX9_check_48 hw hf
  have b26 : ∀ (x1 : Int32) (x2 : Int32) (x3 : Int32) (t1 : Int32) (σ : qS), fX9_check_26 F x1 x2 x3 t1 σ = some r0 → qAt p l e (qRm 7 168) s m ([.ref (ad 0 0), .int p1, .int p2, .int p3] : List Value).toArray below meth c Q D (mL Y) (qT Y) A ad 4 0 0 26 [(0, .ref (ad 0 0)), (1, .int x1), (2, .int x2), (3, .int x3)] [.int t1, .ref (ad 0 0)] σ := by
    clear hf hw hl ls
    intro x1 x2 x3 t1 σ hf H locs ls hw hl
    unfold fX9_check_26 at hf
    refine q_calli S0 hw (As := [.int t1]) (rest := []) (wX9_holds l D Y ad F t1 σ) qyX9_holds kw_1335 ⟨Nat.le_of_ble_eq_true rfl, Nat.le_of_ble_eq_true rfl⟩ dM_0 rfl rfl rfl rfl hl.1 (Nat.le_of_ble_eq_true rfl) dX9_check_26 ⟨Nat.le_refl _, Nat.le_refl _⟩ rfl hf (fun v8 s7 H locs hw hf => ?_)
    refine lv_if_eq (tgt := 36) S0.1 S0.2.1 dX9_check_29 (by decide) (fun c9 => ?_) (fun c9 => ?_)
    · replace hf := q_pos c9 hf
      refine lv_aload_n S0.1 S0.2.1 dX9_check_36 rfl (lv_at hl 0 rfl) ?_
      refine lv_iload_n S0.1 S0.2.1 dX9_check_37 rfl (lv_at hl 1 rfl) ?_
      refine lv_iconst (v := 4) S0.1 S0.2.1 dX9_check_38 (by decide) ?_
      refine lv_iload_n S0.1 S0.2.1 dX9_check_39 rfl (lv_at hl 2 rfl) ?_
      refine lv_iload_n S0.1 S0.2.1 dX9_check_40 rfl (lv_at hl 3 rfl) ?_
      refine lv_iconst (v := 0) S0.1 S0.2.1 dX9_check_41 (by decide) ?_
      refine lv_iconst (v := 0) S0.1 S0.2.1 dX9_check_42 (by decide) ?_
      refine lv_iconst (v := 0) S0.1 S0.2.1 dX9_check_43 (by decide) ?_
      refine lv_iconst (v := 0) S0.1 S0.2.1 dX9_check_44 (by decide) ?_
      refine q_calli S0 hw (As := [.int x1, .int 4, .int x2, .int x3, .int 0, .int 0, .int 0, .int 0]) (rest := []) (wX9_act l D Y ad F x1 4 x2 x3 0 0 0 0 s7) qyX9_act kw_1451 ⟨Nat.le_of_ble_eq_true rfl, Nat.le_of_ble_eq_true rfl⟩ dM_0 rfl rfl rfl rfl hl.1 (Nat.le_of_ble_eq_true rfl) dX9_check_45 ⟨Nat.le_refl _, Nat.le_refl _⟩ rfl hf (fun v11 s10 H locs hw hf => ?_)
      exact b48 v11 s10 hf _ _ _ hw (lv_sub hl [] rfl)
    · replace hf := q_neg c9 hf
      refine lv_iconst (v := (-1)) S0.1 S0.2.1 dX9_check_32 (by decide) ?_
      refine lv_goto (tgt := 48) S0.1 S0.2.1 dX9_check_33 (by decide) ?_
      exact b48 ((-1)) s7 hf _ _ _ hw (lv_sub hl [] rfl)
  refine lv_aload_n S0.1 S0.2.1 dX9_check_0 rfl (lv_at hl 0 rfl) ?_
  refine lv_aload_n S0.1 S0.2.1 dX9_check_1 rfl (lv_at hl 0 rfl) ?_
  refine lv_iload_n S0.1 S0.2.1 dX9_check_2 rfl (lv_at hl 1 rfl) ?_
  refine q_calli S0 hw (As := [.int p1]) (rest := [.ref (ad 0 0)]) (wX9_isSession l D Y ad F p1 σ) qyX9_isSession kw_1343 ⟨Nat.le_of_ble_eq_true rfl, Nat.le_of_ble_eq_true rfl⟩ dM_0 rfl rfl rfl rfl hl.1 (Nat.le_of_ble_eq_true rfl) dX9_check_3 ⟨Nat.le_refl _, Nat.le_refl _⟩ rfl hf (fun v2 s1 H locs hw hf => ?_)
  refine lv_if_ne (tgt := 13) S0.1 S0.2.1 dX9_check_6 (by decide) (fun c3 => ?_) (fun c3 => ?_)
  · replace hf := q_neg c3 hf
    refine lv_aload_n S0.1 S0.2.1 dX9_check_13 rfl (lv_at hl 0 rfl) ?_
    refine lv_iload_n S0.1 S0.2.1 dX9_check_14 rfl (lv_at hl 1 rfl) ?_
    refine q_calli S0 hw (As := [.int p1]) (rest := [.ref (ad 0 0)]) (wX9_barred l D Y ad F p1 s1) qyX9_barred kw_1447 ⟨Nat.le_of_ble_eq_true rfl, Nat.le_of_ble_eq_true rfl⟩ dM_0 rfl rfl rfl rfl hl.1 (Nat.le_of_ble_eq_true rfl) dX9_check_15 ⟨Nat.le_refl _, Nat.le_refl _⟩ rfl hf (fun v5 s4 H locs hw hf => ?_)
    refine lv_if_eq (tgt := 25) S0.1 S0.2.1 dX9_check_18 (by decide) (fun c6 => ?_) (fun c6 => ?_)
    · replace hf := q_pos c6 hf
      refine lv_iconst (v := 0) S0.1 S0.2.1 dX9_check_25 (by decide) ?_
      exact b26 p1 p2 p3 0 s4 hf _ _ _ hw (lv_sub hl [0, 1, 2, 3] rfl)
    · replace hf := q_neg c6 hf
      refine lv_iconst (v := 2) S0.1 S0.2.1 dX9_check_21 (by decide) ?_
      refine lv_goto (tgt := 26) S0.1 S0.2.1 dX9_check_22 (by decide) ?_
      exact b26 p1 p2 p3 2 s4 hf _ _ _ hw (lv_sub hl [0, 1, 2, 3] rfl)
  · replace hf := q_pos c3 hf
    refine lv_iconst (v := 1) S0.1 S0.2.1 dX9_check_9 (by decide) ?_
    refine lv_goto (tgt := 26) S0.1 S0.2.1 dX9_check_10 (by decide) ?_
    exact b26 p1 p2 p3 1 s1 hf _ _ _ hw (lv_sub hl [0, 1, 2, 3] rfl)
def fX9_gather_61 (F : Nat) (σ : qS) : Option qS :=
  some σ
def fX9_gather_36 (F : Nat) (x1 : Int32) (t1 : Int32) (σ : qS) : Option qS :=
  bnd2 (fX9_holds F t1 σ) fun v8 s7 => (if v8 = 0 then (bnd (fX9_does F x1 s7) fun s10 => (inx 10 x1 (nm (qI s10 136 0 x1.toNatClampNeg 1) fun s11 => (inx 10 x1 (nm (qI s11 137 0 x1.toNatClampNeg 0) fun s12 => (fX9_gather_61 F s12)))))) else (fX9_gather_61 F s7))
def fX9_gather_31 (F : Nat) (x1 : Int32) (σ : qS) : Option qS :=
  fX9_gather_36 F x1 2 σ
def fX9_gather (F : Nat) (p1 : Int32) (σ : qS) : Option qS :=
  bnd2 (fX9_isSession F p1 σ) fun v2 s1 => (if v2 = 0 then (fX9_gather_36 F p1 1 s1) else (bnd2 (fX9_ended F p1 s1) fun v5 s4 => (if v5 = 0 then (ldi 10 (s4.1 136 0) p1 fun v13 => (if v13 = 1 then (fX9_gather_31 F p1 s4) else (fX9_gather_36 F p1 0 s4))) else (fX9_gather_31 F p1 s4))))
set_option maxRecDepth 100000 in
set_option maxHeartbeats 4000000 in
theorem wX9_gather (l : Launch) (D : va_G) (Y : Nat → ClassId) (ad : qAd) (F : Nat) (p1 : Int32) (σ : qS) : qCv l yX9_gather cX9_gather 2 none 2 44 D (mL Y) (qT Y) ad [.ref (ad 0 0), .int p1] σ (fX9_gather F p1 σ) := by
  refine q_ofv (by decide) (Nat.le_of_ble_eq_true rfl) "LeasehallModel" rfl (fun p e s m below meth c A Q r0 S0 hf hw hret ls hl => ?_)
  replace hl : lv_has ls 2 [(0, .ref (ad 0 0)), (1, .int p1)] := hl
  unfold fX9_gather at hf
  have b61 : ∀ (σ : qS), fX9_gather_61 F σ = some r0 → qAt p l e (qRm 2 44) s m ([.ref (ad 0 0), .int p1] : List Value).toArray below meth c Q D (mL Y) (qT Y) A ad 2 0 0 61 [] [] σ := by
    clear hf hw hl ls
    intro σ hf H locs ls hw hl
    unfold fX9_gather_61 at hf
    exact hret dX9_gather_61 hw hf
  have b36 : ∀ (x1 : Int32) (t1 : Int32) (σ : qS), fX9_gather_36 F x1 t1 σ = some r0 → qAt p l e (qRm 2 44) s m ([.ref (ad 0 0), .int p1] : List Value).toArray below meth c Q D (mL Y) (qT Y) A ad 2 0 0 36 [(0, .ref (ad 0 0)), (1, .int x1)] [.int t1, .ref (ad 0 0)] σ := by
    clear hf hw hl ls
    intro x1 t1 σ hf H locs ls hw hl
    unfold fX9_gather_36 at hf
    refine q_calli S0 hw (As := [.int t1]) (rest := []) (wX9_holds l D Y ad F t1 σ) qyX9_holds kw_1335 ⟨Nat.le_of_ble_eq_true rfl, Nat.le_of_ble_eq_true rfl⟩ dM_0 rfl rfl rfl rfl hl.1 (Nat.le_of_ble_eq_true rfl) dX9_gather_36 ⟨Nat.le_refl _, Nat.le_refl _⟩ rfl hf (fun v8 s7 H locs hw hf => ?_)
    refine lv_if_ne (tgt := 61) S0.1 S0.2.1 dX9_gather_39 (by decide) (fun c9 => ?_) (fun c9 => ?_)
    · replace hf := q_neg c9 hf
      exact b61 s7 hf _ _ _ hw (lv_sub hl [] rfl)
    · replace hf := q_pos c9 hf
      refine lv_aload_n S0.1 S0.2.1 dX9_gather_42 rfl (lv_at hl 0 rfl) ?_
      refine lv_iload_n S0.1 S0.2.1 dX9_gather_43 rfl (lv_at hl 1 rfl) ?_
      refine q_callv S0 hw (As := [.int x1]) (rest := []) (wX9_does l D Y ad F x1 s7) qyX9_does kw_1415 ⟨Nat.le_of_ble_eq_true rfl, Nat.le_of_ble_eq_true rfl⟩ dM_0 rfl rfl rfl rfl hl.1 (Nat.le_of_ble_eq_true rfl) dX9_gather_44 ⟨Nat.le_refl _, Nat.le_refl _⟩ rfl hf (fun s10 H locs hw hf => ?_)
      refine lv_aload_n S0.1 S0.2.1 dX9_gather_47 rfl (lv_at hl 0 rfl) ?_
      refine gX9_zg S0 hw kw_1184 dX9_gather_48 ?_
      refine lv_iload_n S0.1 S0.2.1 dX9_gather_51 rfl (lv_at hl 1 rfl) ?_
      refine lv_iconst (v := 1) S0.1 S0.2.1 dX9_gather_52 (by decide) ?_
      refine q_iast S0 hw dM_136 (t0 := 0) (fun _ => rfl) rfl dX9_gather_53 hf (fun s11 H locs hw hf => ?_)
      refine lv_aload_n S0.1 S0.2.1 dX9_gather_54 rfl (lv_at hl 0 rfl) ?_
      refine gX9_zn S0 hw kw_1185 dX9_gather_55 ?_
      refine lv_iload_n S0.1 S0.2.1 dX9_gather_58 rfl (lv_at hl 1 rfl) ?_
      refine lv_iconst (v := 0) S0.1 S0.2.1 dX9_gather_59 (by decide) ?_
      refine q_iast S0 hw dM_137 (t0 := 0) (fun _ => rfl) rfl dX9_gather_60 hf (fun s12 H locs hw hf => ?_)
      exact b61 s12 hf _ _ _ hw (lv_sub hl [] rfl)
  have b31 : ∀ (x1 : Int32) (σ : qS), fX9_gather_31 F x1 σ = some r0 → qAt p l e (qRm 2 44) s m ([.ref (ad 0 0), .int p1] : List Value).toArray below meth c Q D (mL Y) (qT Y) A ad 2 0 0 31 [(0, .ref (ad 0 0)), (1, .int x1)] [.ref (ad 0 0)] σ := by
    clear hf hw hl ls
    intro x1 σ hf H locs ls hw hl
    unfold fX9_gather_31 at hf
    refine lv_iconst (v := 2) S0.1 S0.2.1 dX9_gather_31 (by decide) ?_
    refine lv_goto (tgt := 36) S0.1 S0.2.1 dX9_gather_32 (by decide) ?_
    exact b36 x1 2 σ hf _ _ _ hw (lv_sub hl [0, 1] rfl)
  refine lv_aload_n S0.1 S0.2.1 dX9_gather_0 rfl (lv_at hl 0 rfl) ?_
  refine lv_aload_n S0.1 S0.2.1 dX9_gather_1 rfl (lv_at hl 0 rfl) ?_
  refine lv_iload_n S0.1 S0.2.1 dX9_gather_2 rfl (lv_at hl 1 rfl) ?_
  refine q_calli S0 hw (As := [.int p1]) (rest := [.ref (ad 0 0)]) (wX9_isSession l D Y ad F p1 σ) qyX9_isSession kw_1343 ⟨Nat.le_of_ble_eq_true rfl, Nat.le_of_ble_eq_true rfl⟩ dM_0 rfl rfl rfl rfl hl.1 (Nat.le_of_ble_eq_true rfl) dX9_gather_3 ⟨Nat.le_refl _, Nat.le_refl _⟩ rfl hf (fun v2 s1 H locs hw hf => ?_)
  refine lv_if_ne (tgt := 13) S0.1 S0.2.1 dX9_gather_6 (by decide) (fun c3 => ?_) (fun c3 => ?_)
  · replace hf := q_neg c3 hf
    refine lv_aload_n S0.1 S0.2.1 dX9_gather_13 rfl (lv_at hl 0 rfl) ?_
    refine lv_iload_n S0.1 S0.2.1 dX9_gather_14 rfl (lv_at hl 1 rfl) ?_
    refine q_calli S0 hw (As := [.int p1]) (rest := [.ref (ad 0 0)]) (wX9_ended l D Y ad F p1 s1) qyX9_ended kw_1347 ⟨Nat.le_of_ble_eq_true rfl, Nat.le_of_ble_eq_true rfl⟩ dM_0 rfl rfl rfl rfl hl.1 (Nat.le_of_ble_eq_true rfl) dX9_gather_15 ⟨Nat.le_refl _, Nat.le_refl _⟩ rfl hf (fun v5 s4 H locs hw hf => ?_)
    refine lv_if_ne (tgt := 31) S0.1 S0.2.1 dX9_gather_18 (by decide) (fun c6 => ?_) (fun c6 => ?_)
    · replace hf := q_neg c6 hf
      exact b31 p1 s4 hf _ _ _ hw (lv_sub hl [0, 1] rfl)
    · replace hf := q_pos c6 hf
      refine lv_aload_n S0.1 S0.2.1 dX9_gather_21 rfl (lv_at hl 0 rfl) ?_
      refine gX9_zg S0 hw kw_1184 dX9_gather_22 ?_
      refine lv_iload_n S0.1 S0.2.1 dX9_gather_25 rfl (lv_at hl 1 rfl) ?_
      refine q_iald S0 hw dM_136 (t0 := 0) rfl rfl dX9_gather_26 hf (fun v13 hf => ?_)
      refine lv_iconst (v := 1) S0.1 S0.2.1 dX9_gather_27 (by decide) ?_
      refine lv_icmp_ne (tgt := 35) S0.1 S0.2.1 dX9_gather_28 (by decide) (fun c14 => ?_) (fun c14 => ?_)
      · replace hf := q_neg c14 hf
        refine lv_iconst (v := 0) S0.1 S0.2.1 dX9_gather_35 (by decide) ?_
        exact b36 p1 0 s4 hf _ _ _ hw (lv_sub hl [0, 1] rfl)
      · replace hf := q_pos c14 hf
        exact b31 p1 s4 hf _ _ _ hw (lv_sub hl [0, 1] rfl)
  · replace hf := q_pos c3 hf
    refine lv_iconst (v := 1) S0.1 S0.2.1 dX9_gather_9 (by decide) ?_
    refine lv_goto (tgt := 36) S0.1 S0.2.1 dX9_gather_10 (by decide) ?_
    exact b36 p1 1 s1 hf _ _ _ hw (lv_sub hl [0, 1] rfl)
def fX9_done_265 (F : Nat) (t0 : Int32) (σ : qS) : Option (Int32 × qS) :=
  some (t0, σ)
def fX9_done_201 (F : Nat) (k75 : Int32 → Int32 → Int32 → qS → Option (Int32 × qS)) (x1 : Int32) (x3 : Int32) (t0 : Int32) (σ : qS) : Option (Int32 × qS) :=
  nm (x3 + 1) fun v53 => (k75 x1 t0 v53 σ)
def fX9_done_200 (F : Nat) (k75 : Int32 → Int32 → Int32 → qS → Option (Int32 × qS)) (x1 : Int32) (x2 : Int32) (x3 : Int32) (σ : qS) : Option (Int32 × qS) :=
  fX9_done_201 F k75 x1 x3 x2 σ
def fX9_done_172 (F : Nat) (k75 : Int32 → Int32 → Int32 → qS → Option (Int32 × qS)) (x1 : Int32) (x2 : Int32) (x3 : Int32) (t0 : Int32) (σ : qS) : Option (Int32 × qS) :=
  nm (6 * x1) fun v49 => (nm (v49 + x3) fun v50 => (inx 60 v50 (nm (qI σ 139 0 v50.toNatClampNeg t0) fun s51 => (if 0 ≤ x2 then (fX9_done_200 F k75 x1 x2 x3 s51) else (if 0 ≤ t0 then (fX9_done_200 F k75 x1 x2 x3 s51) else (fX9_done_201 F k75 x1 x3 x3 s51))))))
def fX9_done_75 (F : Nat) : Nat → Int32 → Int32 → Int32 → qS → Option (Int32 × qS)
  | 0, _, _, _, _ => none
  | n + 1, x1, x2, x3, σ =>
  ldi 10 (σ.1 137 0) x1 fun v15 => (if v15 ≤ x3 then (if x2 < 0 then (ldi 10 (σ.1 137 0) x1 fun v18 => (if v18 = 0 then (ldi 10 (σ.1 132 0) x1 fun v24 => (nm (σ.1 0 0 26) fun v25 => (bnd (fX9_follows F v24 v25 σ) fun s26 => (nm (s26.1 0 0 26) fun v27 => (some (v27, s26)))))) else (bnd2 (fX9_settles F x1 σ) fun v21 s20 => (if v21 = 0 then (nm (s20.1 0 0 26) fun v23 => (fX9_done_265 F v23 s20)) else (fX9_done_265 F ((-100)) s20))))) else (bnd (fX9_undo F σ) fun s28 => (nm ((-1) - x2) fun v29 => (some (v29, s28))))) else (nm (42 * x1) fun v30 => (nm (7 * x3) fun v31 => (nm (v30 + v31) fun v32 => (if x2 < 0 then (ldi 420 (σ.1 138 0) v32 fun v34 => (nm (v32 + 1) fun v35 => (ldi 420 (σ.1 138 0) v35 fun v36 => (nm (v32 + 2) fun v37 => (ldi 420 (σ.1 138 0) v37 fun v38 => (nm (v32 + 3) fun v39 => (ldi 420 (σ.1 138 0) v39 fun v40 => (nm (v32 + 4) fun v41 => (ldi 420 (σ.1 138 0) v41 fun v42 => (nm (v32 + 5) fun v43 => (ldi 420 (σ.1 138 0) v43 fun v44 => (nm (v32 + 6) fun v45 => (ldi 420 (σ.1 138 0) v45 fun v46 => (bnd2 (fX9_acts F x1 v34 v36 v38 v40 v42 v44 v46 σ) fun v48 s47 => (fX9_done_172 F (fX9_done_75 F n) x1 x2 x3 v48 s47))))))))))))))) else (fX9_done_172 F (fX9_done_75 F n) x1 x2 x3 ((-10)) σ))))))
def fX9_done_35 (F : Nat) (x1 : Int32) (t1 : Int32) (σ : qS) : Option (Int32 × qS) :=
  bnd2 (fX9_holds F t1 σ) fun v8 s7 => (if v8 = 0 then (bnd (fX9_does F x1 s7) fun s10 => (inx 10 x1 (nm (qI s10 136 0 x1.toNatClampNeg 0) fun s11 => (ldi 10 (s11.1 137 0) x1 fun v12 => (inx 10 x1 (nm (qI s11 140 0 x1.toNatClampNeg v12) fun s13 => (bnd (fX9_begin F s13) fun s14 => (fX9_done_75 F F x1 ((-1)) 0 s14)))))))) else (some ((-1), s7)))
def fX9_done_30 (F : Nat) (x1 : Int32) (σ : qS) : Option (Int32 × qS) :=
  fX9_done_35 F x1 2 σ
def fX9_done (F : Nat) (p1 : Int32) (σ : qS) : Option (Int32 × qS) :=
  bnd2 (fX9_isSession F p1 σ) fun v2 s1 => (if v2 = 0 then (fX9_done_35 F p1 1 s1) else (bnd2 (fX9_ended F p1 s1) fun v5 s4 => (if v5 = 0 then (ldi 10 (s4.1 136 0) p1 fun v55 => (if v55 = 0 then (fX9_done_30 F p1 s4) else (fX9_done_35 F p1 0 s4))) else (fX9_done_30 F p1 s4))))
set_option maxRecDepth 100000 in
set_option maxHeartbeats 4000000 in
theorem wX9_done (l : Launch) (D : va_G) (Y : Nat → ClassId) (ad : qAd) (F : Nat) (p1 : Int32) (σ : qS) : qCi l yX9_done cX9_done 6 (some .int) 6 139 D (mL Y) (qT Y) ad [.ref (ad 0 0), .int p1] σ (fX9_done F p1 σ) := by
  refine q_ofi (by decide) (Nat.le_of_ble_eq_true rfl) "LeasehallModel" rfl (fun p e s m below meth c A Q r0 S0 hf hw hret ls hl => ?_)
  replace hl : lv_has ls 6 [(0, .ref (ad 0 0)), (1, .int p1)] := hl
  unfold fX9_done at hf
  have b265 : ∀ (t0 : Int32) (σ : qS), fX9_done_265 F t0 σ = some r0 → qAt p l e (qRm 6 139) s m ([.ref (ad 0 0), .int p1] : List Value).toArray below meth c Q D (mL Y) (qT Y) A ad 6 0 0 265 [] [.int t0] σ := by
    clear hf hw hl ls
    intro t0 σ hf H locs ls hw hl
    unfold fX9_done_265 at hf
    exact hret dX9_done_265 hw hf
  have b201 : ∀ (k75 : Int32 → Int32 → Int32 → qS → Option (Int32 × qS)) (hk75 : ∀ (x1 : Int32) (x2 : Int32) (x3 : Int32) (σ : qS), k75 x1 x2 x3 σ = some r0 → qAt p l e (qRm 6 139) s m ([.ref (ad 0 0), .int p1] : List Value).toArray below meth c Q D (mL Y) (qT Y) A ad 6 0 0 75 [(0, .ref (ad 0 0)), (1, .int x1), (2, .int x2), (3, .int x3)] [] σ) (x1 : Int32) (x3 : Int32) (t0 : Int32) (σ : qS), fX9_done_201 F k75 x1 x3 t0 σ = some r0 → qAt p l e (qRm 6 139) s m ([.ref (ad 0 0), .int p1] : List Value).toArray below meth c Q D (mL Y) (qT Y) A ad 6 0 0 201 [(0, .ref (ad 0 0)), (1, .int x1), (3, .int x3)] [.int t0] σ := by
    clear hf hw hl ls
    intro k75 hk75
    intro x1 x3 t0 σ hf H locs ls hw hl
    unfold fX9_done_201 at hf
    refine lv_istore_n (lv' := [(2, .int t0), (0, .ref (ad 0 0)), (1, .int x1), (3, .int x3)]) S0.1 S0.2.1 dX9_done_201 rfl hl (by decide) rfl (fun ls hl => ?_)
    refine q_iinc S0 (v0 := 1) dX9_done_202 hl (k := 3) rfl (by decide) (by decide) rfl hf (fun v53 ls hl hf => ?_)
    refine lv_goto (tgt := 75) S0.1 S0.2.1 dX9_done_205 (by decide) ?_
    exact hk75 x1 t0 v53 σ hf _ _ _ hw (lv_sub hl [2, 3, 1, 0] rfl)
  have b200 : ∀ (k75 : Int32 → Int32 → Int32 → qS → Option (Int32 × qS)) (hk75 : ∀ (x1 : Int32) (x2 : Int32) (x3 : Int32) (σ : qS), k75 x1 x2 x3 σ = some r0 → qAt p l e (qRm 6 139) s m ([.ref (ad 0 0), .int p1] : List Value).toArray below meth c Q D (mL Y) (qT Y) A ad 6 0 0 75 [(0, .ref (ad 0 0)), (1, .int x1), (2, .int x2), (3, .int x3)] [] σ) (x1 : Int32) (x2 : Int32) (x3 : Int32) (σ : qS), fX9_done_200 F k75 x1 x2 x3 σ = some r0 → qAt p l e (qRm 6 139) s m ([.ref (ad 0 0), .int p1] : List Value).toArray below meth c Q D (mL Y) (qT Y) A ad 6 0 0 200 [(0, .ref (ad 0 0)), (1, .int x1), (2, .int x2), (3, .int x3)] [] σ := by
    clear hf hw hl ls
    intro k75 hk75
    intro x1 x2 x3 σ hf H locs ls hw hl
    unfold fX9_done_200 at hf
    refine lv_iload_n S0.1 S0.2.1 dX9_done_200 rfl (lv_at hl 2 rfl) ?_
    exact b201 k75 hk75 x1 x3 x2 σ hf _ _ _ hw (lv_sub hl [0, 1, 3] rfl)
  have b172 : ∀ (k75 : Int32 → Int32 → Int32 → qS → Option (Int32 × qS)) (hk75 : ∀ (x1 : Int32) (x2 : Int32) (x3 : Int32) (σ : qS), k75 x1 x2 x3 σ = some r0 → qAt p l e (qRm 6 139) s m ([.ref (ad 0 0), .int p1] : List Value).toArray below meth c Q D (mL Y) (qT Y) A ad 6 0 0 75 [(0, .ref (ad 0 0)), (1, .int x1), (2, .int x2), (3, .int x3)] [] σ) (x1 : Int32) (x2 : Int32) (x3 : Int32) (t0 : Int32) (σ : qS), fX9_done_172 F k75 x1 x2 x3 t0 σ = some r0 → qAt p l e (qRm 6 139) s m ([.ref (ad 0 0), .int p1] : List Value).toArray below meth c Q D (mL Y) (qT Y) A ad 6 0 0 172 [(0, .ref (ad 0 0)), (1, .int x1), (2, .int x2), (3, .int x3)] [.int t0] σ := by
    clear hf hw hl ls
    intro k75 hk75
    intro x1 x2 x3 t0 σ hf H locs ls hw hl
    unfold fX9_done_172 at hf
    refine lv_istore (lv' := [(5, .int t0), (0, .ref (ad 0 0)), (1, .int x1), (2, .int x2), (3, .int x3)]) S0.1 S0.2.1 dX9_done_172 hl (by decide) rfl (fun ls hl => ?_)
    refine lv_aload_n S0.1 S0.2.1 dX9_done_174 rfl (lv_at hl 1 rfl) ?_
    refine gX9_answers S0 hw kw_1187 dX9_done_175 ?_
    refine lv_bipush (v := 6) S0.1 S0.2.1 dX9_done_178 (by decide) ?_
    refine lv_iload_n S0.1 S0.2.1 dX9_done_180 rfl (lv_at hl 2 rfl) ?_
    refine lv_imul S0.1 S0.2.1 dX9_done_181 (q_top hf (fun v49 hf => ?_))
    refine lv_iload_n S0.1 S0.2.1 dX9_done_182 rfl (lv_at hl 4 rfl) ?_
    refine lv_iadd S0.1 S0.2.1 dX9_done_183 (q_top hf (fun v50 hf => ?_))
    refine lv_iload S0.1 S0.2.1 dX9_done_184 (lv_at hl 0 rfl) ?_
    refine q_iast S0 hw dM_139 (t0 := 0) (fun _ => rfl) rfl dX9_done_186 hf (fun s51 H locs hw hf => ?_)
    refine lv_iload_n S0.1 S0.2.1 dX9_done_187 rfl (lv_at hl 3 rfl) ?_
    refine lv_if_ge (tgt := 200) S0.1 S0.2.1 dX9_done_188 (by decide) (fun c52 => ?_) (fun c52 => ?_)
    · replace hf := q_pos c52 hf
      exact b200 k75 hk75 x1 x2 x3 s51 hf _ _ _ hw (lv_sub hl [1, 2, 3, 4] rfl)
    · replace hf := q_neg c52 hf
      refine lv_iload S0.1 S0.2.1 dX9_done_191 (lv_at hl 0 rfl) ?_
      refine lv_if_ge (tgt := 200) S0.1 S0.2.1 dX9_done_193 (by decide) (fun c54 => ?_) (fun c54 => ?_)
      · replace hf := q_pos c54 hf
        exact b200 k75 hk75 x1 x2 x3 s51 hf _ _ _ hw (lv_sub hl [1, 2, 3, 4] rfl)
      · replace hf := q_neg c54 hf
        refine lv_iload_n S0.1 S0.2.1 dX9_done_196 rfl (lv_at hl 4 rfl) ?_
        refine lv_goto (tgt := 201) S0.1 S0.2.1 dX9_done_197 (by decide) ?_
        exact b201 k75 hk75 x1 x3 x3 s51 hf _ _ _ hw (lv_sub hl [1, 2, 4] rfl)
  have b75 : ∀ (n : Nat) (x1 : Int32) (x2 : Int32) (x3 : Int32) (σ : qS), fX9_done_75 F n x1 x2 x3 σ = some r0 → qAt p l e (qRm 6 139) s m ([.ref (ad 0 0), .int p1] : List Value).toArray below meth c Q D (mL Y) (qT Y) A ad 6 0 0 75 [(0, .ref (ad 0 0)), (1, .int x1), (2, .int x2), (3, .int x3)] [] σ := by
    clear hf hw hl ls
    intro n
    induction n with
    | zero => intro x1 x2 x3 σ hf; exact absurd hf (by rw [fX9_done_75]; exact nofun)
    | succ n hk75 =>
      intro x1 x2 x3 σ hf H locs ls hw hl
      rw [fX9_done_75] at hf
      refine lv_iload_n S0.1 S0.2.1 dX9_done_75 rfl (lv_at hl 3 rfl) ?_
      refine lv_aload_n S0.1 S0.2.1 dX9_done_76 rfl (lv_at hl 0 rfl) ?_
      refine gX9_zn S0 hw kw_1185 dX9_done_77 ?_
      refine lv_iload_n S0.1 S0.2.1 dX9_done_80 rfl (lv_at hl 1 rfl) ?_
      refine q_iald S0 hw dM_137 (t0 := 0) rfl rfl dX9_done_81 hf (fun v15 hf => ?_)
      refine lv_icmp_ge (tgt := 208) S0.1 S0.2.1 dX9_done_82 (by decide) (fun c16 => ?_) (fun c16 => ?_)
      · replace hf := q_pos c16 hf
        refine lv_iload_n S0.1 S0.2.1 dX9_done_208 rfl (lv_at hl 2 rfl) ?_
        refine lv_if_lt (tgt := 220) S0.1 S0.2.1 dX9_done_209 (by decide) (fun c17 => ?_) (fun c17 => ?_)
        · replace hf := q_pos c17 hf
          refine lv_aload_n S0.1 S0.2.1 dX9_done_220 rfl (lv_at hl 0 rfl) ?_
          refine gX9_zn S0 hw kw_1185 dX9_done_221 ?_
          refine lv_iload_n S0.1 S0.2.1 dX9_done_224 rfl (lv_at hl 1 rfl) ?_
          refine q_iald S0 hw dM_137 (t0 := 0) rfl rfl dX9_done_225 hf (fun v18 hf => ?_)
          refine lv_if_ne (tgt := 248) S0.1 S0.2.1 dX9_done_226 (by decide) (fun c19 => ?_) (fun c19 => ?_)
          · replace hf := q_neg c19 hf
            refine lv_aload_n S0.1 S0.2.1 dX9_done_248 rfl (lv_at hl 0 rfl) ?_
            refine lv_iload_n S0.1 S0.2.1 dX9_done_249 rfl (lv_at hl 1 rfl) ?_
            refine q_calli S0 hw (As := [.int x1]) (rest := []) (wX9_settles l D Y ad F x1 σ) qyX9_settles kw_1499 ⟨Nat.le_of_ble_eq_true rfl, Nat.le_of_ble_eq_true rfl⟩ dM_0 rfl rfl rfl rfl hl.1 (Nat.le_of_ble_eq_true rfl) dX9_done_250 ⟨Nat.le_refl _, Nat.le_refl _⟩ rfl hf (fun v21 s20 H locs hw hf => ?_)
            refine lv_if_eq (tgt := 261) S0.1 S0.2.1 dX9_done_253 (by decide) (fun c22 => ?_) (fun c22 => ?_)
            · replace hf := q_pos c22 hf
              refine lv_aload_n S0.1 S0.2.1 dX9_done_261 rfl (lv_at hl 0 rfl) ?_
              refine gX9_last S0 hw kw_1174 dX9_done_262 hf (fun v23 hf => ?_)
              exact b265 v23 s20 hf _ _ _ hw (lv_sub hl [] rfl)
            · replace hf := q_neg c22 hf
              refine lv_bipush (v := (-100)) S0.1 S0.2.1 dX9_done_256 (by decide) ?_
              refine lv_goto (tgt := 265) S0.1 S0.2.1 dX9_done_258 (by decide) ?_
              exact b265 ((-100)) s20 hf _ _ _ hw (lv_sub hl [] rfl)
          · replace hf := q_pos c19 hf
            refine lv_aload_n S0.1 S0.2.1 dX9_done_229 rfl (lv_at hl 0 rfl) ?_
            refine lv_aload_n S0.1 S0.2.1 dX9_done_230 rfl (lv_at hl 0 rfl) ?_
            refine gX9_zs S0 hw kw_1180 dX9_done_231 ?_
            refine lv_iload_n S0.1 S0.2.1 dX9_done_234 rfl (lv_at hl 1 rfl) ?_
            refine q_iald S0 hw dM_132 (t0 := 0) rfl rfl dX9_done_235 hf (fun v24 hf => ?_)
            refine lv_aload_n S0.1 S0.2.1 dX9_done_236 rfl (lv_at hl 0 rfl) ?_
            refine gX9_last S0 hw kw_1174 dX9_done_237 hf (fun v25 hf => ?_)
            refine q_callv S0 hw (As := [.int v24, .int v25]) (rest := []) (wX9_follows l D Y ad F v24 v25 σ) qyX9_follows kw_1391 ⟨Nat.le_of_ble_eq_true rfl, Nat.le_of_ble_eq_true rfl⟩ dM_0 rfl rfl rfl rfl hl.1 (Nat.le_of_ble_eq_true rfl) dX9_done_240 ⟨Nat.le_refl _, Nat.le_refl _⟩ rfl hf (fun s26 H locs hw hf => ?_)
            refine lv_aload_n S0.1 S0.2.1 dX9_done_243 rfl (lv_at hl 0 rfl) ?_
            refine gX9_last S0 hw kw_1174 dX9_done_244 hf (fun v27 hf => ?_)
            exact hret dX9_done_247 hw hf
        · replace hf := q_neg c17 hf
          refine lv_aload_n S0.1 S0.2.1 dX9_done_212 rfl (lv_at hl 0 rfl) ?_
          refine q_callv S0 hw (As := []) (rest := []) (wX9_undo l D Y ad F σ) qyX9_undo kw_1503 ⟨Nat.le_of_ble_eq_true rfl, Nat.le_of_ble_eq_true rfl⟩ dM_0 rfl rfl rfl rfl hl.1 (Nat.le_of_ble_eq_true rfl) dX9_done_213 ⟨Nat.le_refl _, Nat.le_refl _⟩ rfl hf (fun s28 H locs hw hf => ?_)
          refine lv_iconst (v := (-1)) S0.1 S0.2.1 dX9_done_216 (by decide) ?_
          refine lv_iload_n S0.1 S0.2.1 dX9_done_217 rfl (lv_at hl 2 rfl) ?_
          refine lv_isub S0.1 S0.2.1 dX9_done_218 (q_top hf (fun v29 hf => ?_))
          exact hret dX9_done_219 hw hf
      · replace hf := q_neg c16 hf
        refine lv_bipush (v := 42) S0.1 S0.2.1 dX9_done_85 (by decide) ?_
        refine lv_iload_n S0.1 S0.2.1 dX9_done_87 rfl (lv_at hl 1 rfl) ?_
        refine lv_imul S0.1 S0.2.1 dX9_done_88 (q_top hf (fun v30 hf => ?_))
        refine lv_bipush (v := 7) S0.1 S0.2.1 dX9_done_89 (by decide) ?_
        refine lv_iload_n S0.1 S0.2.1 dX9_done_91 rfl (lv_at hl 3 rfl) ?_
        refine lv_imul S0.1 S0.2.1 dX9_done_92 (q_top hf (fun v31 hf => ?_))
        refine lv_iadd S0.1 S0.2.1 dX9_done_93 (q_top hf (fun v32 hf => ?_))
        refine lv_istore (lv' := [(4, .int v32), (0, .ref (ad 0 0)), (1, .int x1), (2, .int x2), (3, .int x3)]) S0.1 S0.2.1 dX9_done_94 hl (by decide) rfl (fun ls hl => ?_)
        refine lv_iload_n S0.1 S0.2.1 dX9_done_96 rfl (lv_at hl 3 rfl) ?_
        refine lv_if_lt (tgt := 105) S0.1 S0.2.1 dX9_done_97 (by decide) (fun c33 => ?_) (fun c33 => ?_)
        · replace hf := q_pos c33 hf
          refine lv_aload_n S0.1 S0.2.1 dX9_done_105 rfl (lv_at hl 1 rfl) ?_
          refine lv_iload_n S0.1 S0.2.1 dX9_done_106 rfl (lv_at hl 2 rfl) ?_
          refine lv_aload_n S0.1 S0.2.1 dX9_done_107 rfl (lv_at hl 1 rfl) ?_
          refine gX9_za S0 hw kw_1186 dX9_done_108 ?_
          refine lv_iload S0.1 S0.2.1 dX9_done_111 (lv_at hl 0 rfl) ?_
          refine q_iald S0 hw dM_138 (t0 := 0) rfl rfl dX9_done_113 hf (fun v34 hf => ?_)
          refine lv_aload_n S0.1 S0.2.1 dX9_done_114 rfl (lv_at hl 1 rfl) ?_
          refine gX9_za S0 hw kw_1186 dX9_done_115 ?_
          refine lv_iload S0.1 S0.2.1 dX9_done_118 (lv_at hl 0 rfl) ?_
          refine lv_iconst (v := 1) S0.1 S0.2.1 dX9_done_120 (by decide) ?_
          refine lv_iadd S0.1 S0.2.1 dX9_done_121 (q_top hf (fun v35 hf => ?_))
          refine q_iald S0 hw dM_138 (t0 := 0) rfl rfl dX9_done_122 hf (fun v36 hf => ?_)
          refine lv_aload_n S0.1 S0.2.1 dX9_done_123 rfl (lv_at hl 1 rfl) ?_
          refine gX9_za S0 hw kw_1186 dX9_done_124 ?_
          refine lv_iload S0.1 S0.2.1 dX9_done_127 (lv_at hl 0 rfl) ?_
          refine lv_iconst (v := 2) S0.1 S0.2.1 dX9_done_129 (by decide) ?_
          refine lv_iadd S0.1 S0.2.1 dX9_done_130 (q_top hf (fun v37 hf => ?_))
          refine q_iald S0 hw dM_138 (t0 := 0) rfl rfl dX9_done_131 hf (fun v38 hf => ?_)
          refine lv_aload_n S0.1 S0.2.1 dX9_done_132 rfl (lv_at hl 1 rfl) ?_
          refine gX9_za S0 hw kw_1186 dX9_done_133 ?_
          refine lv_iload S0.1 S0.2.1 dX9_done_136 (lv_at hl 0 rfl) ?_
          refine lv_iconst (v := 3) S0.1 S0.2.1 dX9_done_138 (by decide) ?_
          refine lv_iadd S0.1 S0.2.1 dX9_done_139 (q_top hf (fun v39 hf => ?_))
          refine q_iald S0 hw dM_138 (t0 := 0) rfl rfl dX9_done_140 hf (fun v40 hf => ?_)
          refine lv_aload_n S0.1 S0.2.1 dX9_done_141 rfl (lv_at hl 1 rfl) ?_
          refine gX9_za S0 hw kw_1186 dX9_done_142 ?_
          refine lv_iload S0.1 S0.2.1 dX9_done_145 (lv_at hl 0 rfl) ?_
          refine lv_iconst (v := 4) S0.1 S0.2.1 dX9_done_147 (by decide) ?_
          refine lv_iadd S0.1 S0.2.1 dX9_done_148 (q_top hf (fun v41 hf => ?_))
          refine q_iald S0 hw dM_138 (t0 := 0) rfl rfl dX9_done_149 hf (fun v42 hf => ?_)
          refine lv_aload_n S0.1 S0.2.1 dX9_done_150 rfl (lv_at hl 1 rfl) ?_
          refine gX9_za S0 hw kw_1186 dX9_done_151 ?_
          refine lv_iload S0.1 S0.2.1 dX9_done_154 (lv_at hl 0 rfl) ?_
          refine lv_iconst (v := 5) S0.1 S0.2.1 dX9_done_156 (by decide) ?_
          refine lv_iadd S0.1 S0.2.1 dX9_done_157 (q_top hf (fun v43 hf => ?_))
          refine q_iald S0 hw dM_138 (t0 := 0) rfl rfl dX9_done_158 hf (fun v44 hf => ?_)
          refine lv_aload_n S0.1 S0.2.1 dX9_done_159 rfl (lv_at hl 1 rfl) ?_
          refine gX9_za S0 hw kw_1186 dX9_done_160 ?_
          refine lv_iload S0.1 S0.2.1 dX9_done_163 (lv_at hl 0 rfl) ?_
          refine lv_bipush (v := 6) S0.1 S0.2.1 dX9_done_165 (by decide) ?_
          refine lv_iadd S0.1 S0.2.1 dX9_done_167 (q_top hf (fun v45 hf => ?_))
          refine q_iald S0 hw dM_138 (t0 := 0) rfl rfl dX9_done_168 hf (fun v46 hf => ?_)
          refine q_calli S0 hw (As := [.int x1, .int v34, .int v36, .int v38, .int v40, .int v42, .int v44, .int v46]) (rest := []) (wX9_acts l D Y ad F x1 v34 v36 v38 v40 v42 v44 v46 σ) qyX9_acts kw_1455 ⟨Nat.le_of_ble_eq_true rfl, Nat.le_of_ble_eq_true rfl⟩ dM_0 rfl rfl rfl rfl hl.1 (Nat.le_of_ble_eq_true rfl) dX9_done_169 ⟨Nat.le_refl _, Nat.le_refl _⟩ rfl hf (fun v48 s47 H locs hw hf => ?_)
          exact b172 (fX9_done_75 F n) hk75 x1 x2 x3 v48 s47 hf _ _ _ hw (lv_sub hl [1, 2, 3, 4] rfl)
        · replace hf := q_neg c33 hf
          refine lv_bipush (v := (-10)) S0.1 S0.2.1 dX9_done_100 (by decide) ?_
          refine lv_goto (tgt := 172) S0.1 S0.2.1 dX9_done_102 (by decide) ?_
          exact b172 (fX9_done_75 F n) hk75 x1 x2 x3 ((-10)) σ hf _ _ _ hw (lv_sub hl [1, 2, 3, 4] rfl)
  have b35 : ∀ (x1 : Int32) (t1 : Int32) (σ : qS), fX9_done_35 F x1 t1 σ = some r0 → qAt p l e (qRm 6 139) s m ([.ref (ad 0 0), .int p1] : List Value).toArray below meth c Q D (mL Y) (qT Y) A ad 6 0 0 35 [(0, .ref (ad 0 0)), (1, .int x1)] [.int t1, .ref (ad 0 0)] σ := by
    clear hf hw hl ls
    intro x1 t1 σ hf H locs ls hw hl
    unfold fX9_done_35 at hf
    refine q_calli S0 hw (As := [.int t1]) (rest := []) (wX9_holds l D Y ad F t1 σ) qyX9_holds kw_1335 ⟨Nat.le_of_ble_eq_true rfl, Nat.le_of_ble_eq_true rfl⟩ dM_0 rfl rfl rfl rfl hl.1 (Nat.le_of_ble_eq_true rfl) dX9_done_35 ⟨Nat.le_refl _, Nat.le_refl _⟩ rfl hf (fun v8 s7 H locs hw hf => ?_)
    refine lv_if_eq (tgt := 43) S0.1 S0.2.1 dX9_done_38 (by decide) (fun c9 => ?_) (fun c9 => ?_)
    · replace hf := q_pos c9 hf
      refine lv_aload_n S0.1 S0.2.1 dX9_done_43 rfl (lv_at hl 0 rfl) ?_
      refine lv_iload_n S0.1 S0.2.1 dX9_done_44 rfl (lv_at hl 1 rfl) ?_
      refine q_callv S0 hw (As := [.int x1]) (rest := []) (wX9_does l D Y ad F x1 s7) qyX9_does kw_1415 ⟨Nat.le_of_ble_eq_true rfl, Nat.le_of_ble_eq_true rfl⟩ dM_0 rfl rfl rfl rfl hl.1 (Nat.le_of_ble_eq_true rfl) dX9_done_45 ⟨Nat.le_refl _, Nat.le_refl _⟩ rfl hf (fun s10 H locs hw hf => ?_)
      refine lv_aload_n S0.1 S0.2.1 dX9_done_48 rfl (lv_at hl 0 rfl) ?_
      refine gX9_zg S0 hw kw_1184 dX9_done_49 ?_
      refine lv_iload_n S0.1 S0.2.1 dX9_done_52 rfl (lv_at hl 1 rfl) ?_
      refine lv_iconst (v := 0) S0.1 S0.2.1 dX9_done_53 (by decide) ?_
      refine q_iast S0 hw dM_136 (t0 := 0) (fun _ => rfl) rfl dX9_done_54 hf (fun s11 H locs hw hf => ?_)
      refine lv_aload_n S0.1 S0.2.1 dX9_done_55 rfl (lv_at hl 0 rfl) ?_
      refine gX9_answered S0 hw kw_1188 dX9_done_56 ?_
      refine lv_iload_n S0.1 S0.2.1 dX9_done_59 rfl (lv_at hl 1 rfl) ?_
      refine lv_aload_n S0.1 S0.2.1 dX9_done_60 rfl (lv_at hl 0 rfl) ?_
      refine gX9_zn S0 hw kw_1185 dX9_done_61 ?_
      refine lv_iload_n S0.1 S0.2.1 dX9_done_64 rfl (lv_at hl 1 rfl) ?_
      refine q_iald S0 hw dM_137 (t0 := 0) rfl rfl dX9_done_65 hf (fun v12 hf => ?_)
      refine q_iast S0 hw dM_140 (t0 := 0) (fun _ => rfl) rfl dX9_done_66 hf (fun s13 H locs hw hf => ?_)
      refine lv_aload_n S0.1 S0.2.1 dX9_done_67 rfl (lv_at hl 0 rfl) ?_
      refine q_callv S0 hw (As := []) (rest := []) (wX9_begin l D Y ad F s13) qyX9_begin kw_1359 ⟨Nat.le_of_ble_eq_true rfl, Nat.le_of_ble_eq_true rfl⟩ dM_0 rfl rfl rfl rfl hl.1 (Nat.le_of_ble_eq_true rfl) dX9_done_68 ⟨Nat.le_refl _, Nat.le_refl _⟩ rfl hf (fun s14 H locs hw hf => ?_)
      refine lv_iconst (v := (-1)) S0.1 S0.2.1 dX9_done_71 (by decide) ?_
      refine lv_istore_n (lv' := [(2, .int ((-1))), (0, .ref (ad 0 0)), (1, .int x1)]) S0.1 S0.2.1 dX9_done_72 rfl hl (by decide) rfl (fun ls hl => ?_)
      refine lv_iconst (v := 0) S0.1 S0.2.1 dX9_done_73 (by decide) ?_
      refine lv_istore_n (lv' := [(3, .int 0), (2, .int ((-1))), (0, .ref (ad 0 0)), (1, .int x1)]) S0.1 S0.2.1 dX9_done_74 rfl hl (by decide) rfl (fun ls hl => ?_)
      exact b75 F x1 ((-1)) 0 s14 hf _ _ _ hw (lv_sub hl [2, 3, 1, 0] rfl)
    · replace hf := q_neg c9 hf
      refine lv_iconst (v := (-1)) S0.1 S0.2.1 dX9_done_41 (by decide) ?_
      exact hret dX9_done_42 hw hf
  have b30 : ∀ (x1 : Int32) (σ : qS), fX9_done_30 F x1 σ = some r0 → qAt p l e (qRm 6 139) s m ([.ref (ad 0 0), .int p1] : List Value).toArray below meth c Q D (mL Y) (qT Y) A ad 6 0 0 30 [(0, .ref (ad 0 0)), (1, .int x1)] [.ref (ad 0 0)] σ := by
    clear hf hw hl ls
    intro x1 σ hf H locs ls hw hl
    unfold fX9_done_30 at hf
    refine lv_iconst (v := 2) S0.1 S0.2.1 dX9_done_30 (by decide) ?_
    refine lv_goto (tgt := 35) S0.1 S0.2.1 dX9_done_31 (by decide) ?_
    exact b35 x1 2 σ hf _ _ _ hw (lv_sub hl [0, 1] rfl)
  refine lv_aload_n S0.1 S0.2.1 dX9_done_0 rfl (lv_at hl 0 rfl) ?_
  refine lv_aload_n S0.1 S0.2.1 dX9_done_1 rfl (lv_at hl 0 rfl) ?_
  refine lv_iload_n S0.1 S0.2.1 dX9_done_2 rfl (lv_at hl 1 rfl) ?_
  refine q_calli S0 hw (As := [.int p1]) (rest := [.ref (ad 0 0)]) (wX9_isSession l D Y ad F p1 σ) qyX9_isSession kw_1343 ⟨Nat.le_of_ble_eq_true rfl, Nat.le_of_ble_eq_true rfl⟩ dM_0 rfl rfl rfl rfl hl.1 (Nat.le_of_ble_eq_true rfl) dX9_done_3 ⟨Nat.le_refl _, Nat.le_refl _⟩ rfl hf (fun v2 s1 H locs hw hf => ?_)
  refine lv_if_ne (tgt := 13) S0.1 S0.2.1 dX9_done_6 (by decide) (fun c3 => ?_) (fun c3 => ?_)
  · replace hf := q_neg c3 hf
    refine lv_aload_n S0.1 S0.2.1 dX9_done_13 rfl (lv_at hl 0 rfl) ?_
    refine lv_iload_n S0.1 S0.2.1 dX9_done_14 rfl (lv_at hl 1 rfl) ?_
    refine q_calli S0 hw (As := [.int p1]) (rest := [.ref (ad 0 0)]) (wX9_ended l D Y ad F p1 s1) qyX9_ended kw_1347 ⟨Nat.le_of_ble_eq_true rfl, Nat.le_of_ble_eq_true rfl⟩ dM_0 rfl rfl rfl rfl hl.1 (Nat.le_of_ble_eq_true rfl) dX9_done_15 ⟨Nat.le_refl _, Nat.le_refl _⟩ rfl hf (fun v5 s4 H locs hw hf => ?_)
    refine lv_if_ne (tgt := 30) S0.1 S0.2.1 dX9_done_18 (by decide) (fun c6 => ?_) (fun c6 => ?_)
    · replace hf := q_neg c6 hf
      exact b30 p1 s4 hf _ _ _ hw (lv_sub hl [0, 1] rfl)
    · replace hf := q_pos c6 hf
      refine lv_aload_n S0.1 S0.2.1 dX9_done_21 rfl (lv_at hl 0 rfl) ?_
      refine gX9_zg S0 hw kw_1184 dX9_done_22 ?_
      refine lv_iload_n S0.1 S0.2.1 dX9_done_25 rfl (lv_at hl 1 rfl) ?_
      refine q_iald S0 hw dM_136 (t0 := 0) rfl rfl dX9_done_26 hf (fun v55 hf => ?_)
      refine lv_if_ne (tgt := 34) S0.1 S0.2.1 dX9_done_27 (by decide) (fun c56 => ?_) (fun c56 => ?_)
      · replace hf := q_neg c56 hf
        refine lv_iconst (v := 0) S0.1 S0.2.1 dX9_done_34 (by decide) ?_
        exact b35 p1 0 s4 hf _ _ _ hw (lv_sub hl [0, 1] rfl)
      · replace hf := q_pos c56 hf
        exact b30 p1 s4 hf _ _ _ hw (lv_sub hl [0, 1] rfl)
  · replace hf := q_pos c3 hf
    refine lv_iconst (v := 1) S0.1 S0.2.1 dX9_done_9 (by decide) ?_
    refine lv_goto (tgt := 35) S0.1 S0.2.1 dX9_done_10 (by decide) ?_
    exact b35 p1 1 s1 hf _ _ _ hw (lv_sub hl [0, 1] rfl)
def fX9_answer_52 (F : Nat) (t0 : Int32) (σ : qS) : Option (Int32 × qS) :=
  some (t0, σ)
def fX9_answer_18 (F : Nat) (x1 : Int32) (x2 : Int32) (t1 : Int32) (σ : qS) : Option (Int32 × qS) :=
  bnd2 (fX9_holds F t1 σ) fun v5 s4 => (if v5 = 0 then (ldi 10 (s4.1 140 0) x1 fun v7 => (if v7 ≤ x2 then (fX9_answer_52 F ((-100)) s4) else (nm (6 * x1) fun v9 => (nm (v9 + x2) fun v10 => (ldi 60 (s4.1 139 0) v10 fun v11 => (fX9_answer_52 F v11 s4)))))) else (some ((-1), s4)))
def fX9_answer_17 (F : Nat) (x1 : Int32) (x2 : Int32) (σ : qS) : Option (Int32 × qS) :=
  fX9_answer_18 F x1 x2 1 σ
def fX9_answer (F : Nat) (p1 : Int32) (p2 : Int32) (σ : qS) : Option (Int32 × qS) :=
  bnd2 (fX9_isSession F p1 σ) fun v2 s1 => (if v2 = 0 then (fX9_answer_17 F p1 p2 s1) else (if p2 < 0 then (fX9_answer_17 F p1 p2 s1) else (fX9_answer_18 F p1 p2 0 s1)))
set_option maxRecDepth 100000 in
set_option maxHeartbeats 4000000 in
theorem wX9_answer (l : Launch) (D : va_G) (Y : Nat → ClassId) (ad : qAd) (F : Nat) (p1 : Int32) (p2 : Int32) (σ : qS) : qCi l yX9_answer cX9_answer 3 (some .int) 2 44 D (mL Y) (qT Y) ad [.ref (ad 0 0), .int p1, .int p2] σ (fX9_answer F p1 p2 σ) := by
  refine q_ofi (by decide) (Nat.le_of_ble_eq_true rfl) "LeasehallModel" rfl (fun p e s m below meth c A Q r0 S0 hf hw hret ls hl => ?_)
  replace hl : lv_has ls 3 [(0, .ref (ad 0 0)), (1, .int p1), (2, .int p2)] := hl
  unfold fX9_answer at hf
  have b52 : ∀ (t0 : Int32) (σ : qS), fX9_answer_52 F t0 σ = some r0 → qAt p l e (qRm 2 44) s m ([.ref (ad 0 0), .int p1, .int p2] : List Value).toArray below meth c Q D (mL Y) (qT Y) A ad 3 0 0 52 [] [.int t0] σ := by
    clear hf hw hl ls
    intro t0 σ hf H locs ls hw hl
    unfold fX9_answer_52 at hf
    exact hret dX9_answer_52 hw hf
  have b18 : ∀ (x1 : Int32) (x2 : Int32) (t1 : Int32) (σ : qS), fX9_answer_18 F x1 x2 t1 σ = some r0 → qAt p l e (qRm 2 44) s m ([.ref (ad 0 0), .int p1, .int p2] : List Value).toArray below meth c Q D (mL Y) (qT Y) A ad 3 0 0 18 [(0, .ref (ad 0 0)), (1, .int x1), (2, .int x2)] [.int t1, .ref (ad 0 0)] σ := by
    clear hf hw hl ls
    intro x1 x2 t1 σ hf H locs ls hw hl
    unfold fX9_answer_18 at hf
    refine q_calli S0 hw (As := [.int t1]) (rest := []) (wX9_holds l D Y ad F t1 σ) qyX9_holds kw_1335 ⟨Nat.le_of_ble_eq_true rfl, Nat.le_of_ble_eq_true rfl⟩ dM_0 rfl rfl rfl rfl hl.1 (Nat.le_of_ble_eq_true rfl) dX9_answer_18 ⟨Nat.le_refl _, Nat.le_refl _⟩ rfl hf (fun v5 s4 H locs hw hf => ?_)
    refine lv_if_eq (tgt := 26) S0.1 S0.2.1 dX9_answer_21 (by decide) (fun c6 => ?_) (fun c6 => ?_)
    · replace hf := q_pos c6 hf
      refine lv_iload_n S0.1 S0.2.1 dX9_answer_26 rfl (lv_at hl 2 rfl) ?_
      refine lv_aload_n S0.1 S0.2.1 dX9_answer_27 rfl (lv_at hl 0 rfl) ?_
      refine gX9_answered S0 hw kw_1188 dX9_answer_28 ?_
      refine lv_iload_n S0.1 S0.2.1 dX9_answer_31 rfl (lv_at hl 1 rfl) ?_
      refine q_iald S0 hw dM_140 (t0 := 0) rfl rfl dX9_answer_32 hf (fun v7 hf => ?_)
      refine lv_icmp_ge (tgt := 50) S0.1 S0.2.1 dX9_answer_33 (by decide) (fun c8 => ?_) (fun c8 => ?_)
      · replace hf := q_pos c8 hf
        refine lv_bipush (v := (-100)) S0.1 S0.2.1 dX9_answer_50 (by decide) ?_
        exact b52 ((-100)) s4 hf _ _ _ hw (lv_sub hl [] rfl)
      · replace hf := q_neg c8 hf
        refine lv_aload_n S0.1 S0.2.1 dX9_answer_36 rfl (lv_at hl 0 rfl) ?_
        refine gX9_answers S0 hw kw_1187 dX9_answer_37 ?_
        refine lv_bipush (v := 6) S0.1 S0.2.1 dX9_answer_40 (by decide) ?_
        refine lv_iload_n S0.1 S0.2.1 dX9_answer_42 rfl (lv_at hl 1 rfl) ?_
        refine lv_imul S0.1 S0.2.1 dX9_answer_43 (q_top hf (fun v9 hf => ?_))
        refine lv_iload_n S0.1 S0.2.1 dX9_answer_44 rfl (lv_at hl 2 rfl) ?_
        refine lv_iadd S0.1 S0.2.1 dX9_answer_45 (q_top hf (fun v10 hf => ?_))
        refine q_iald S0 hw dM_139 (t0 := 0) rfl rfl dX9_answer_46 hf (fun v11 hf => ?_)
        refine lv_goto (tgt := 52) S0.1 S0.2.1 dX9_answer_47 (by decide) ?_
        exact b52 v11 s4 hf _ _ _ hw (lv_sub hl [] rfl)
    · replace hf := q_neg c6 hf
      refine lv_iconst (v := (-1)) S0.1 S0.2.1 dX9_answer_24 (by decide) ?_
      exact hret dX9_answer_25 hw hf
  have b17 : ∀ (x1 : Int32) (x2 : Int32) (σ : qS), fX9_answer_17 F x1 x2 σ = some r0 → qAt p l e (qRm 2 44) s m ([.ref (ad 0 0), .int p1, .int p2] : List Value).toArray below meth c Q D (mL Y) (qT Y) A ad 3 0 0 17 [(0, .ref (ad 0 0)), (1, .int x1), (2, .int x2)] [.ref (ad 0 0)] σ := by
    clear hf hw hl ls
    intro x1 x2 σ hf H locs ls hw hl
    unfold fX9_answer_17 at hf
    refine lv_iconst (v := 1) S0.1 S0.2.1 dX9_answer_17 (by decide) ?_
    exact b18 x1 x2 1 σ hf _ _ _ hw (lv_sub hl [0, 1, 2] rfl)
  refine lv_aload_n S0.1 S0.2.1 dX9_answer_0 rfl (lv_at hl 0 rfl) ?_
  refine lv_aload_n S0.1 S0.2.1 dX9_answer_1 rfl (lv_at hl 0 rfl) ?_
  refine lv_iload_n S0.1 S0.2.1 dX9_answer_2 rfl (lv_at hl 1 rfl) ?_
  refine q_calli S0 hw (As := [.int p1]) (rest := [.ref (ad 0 0)]) (wX9_isSession l D Y ad F p1 σ) qyX9_isSession kw_1343 ⟨Nat.le_of_ble_eq_true rfl, Nat.le_of_ble_eq_true rfl⟩ dM_0 rfl rfl rfl rfl hl.1 (Nat.le_of_ble_eq_true rfl) dX9_answer_3 ⟨Nat.le_refl _, Nat.le_refl _⟩ rfl hf (fun v2 s1 H locs hw hf => ?_)
  refine lv_if_eq (tgt := 17) S0.1 S0.2.1 dX9_answer_6 (by decide) (fun c3 => ?_) (fun c3 => ?_)
  · replace hf := q_pos c3 hf
    exact b17 p1 p2 s1 hf _ _ _ hw (lv_sub hl [0, 1, 2] rfl)
  · replace hf := q_neg c3 hf
    refine lv_iload_n S0.1 S0.2.1 dX9_answer_9 rfl (lv_at hl 2 rfl) ?_
    refine lv_if_lt (tgt := 17) S0.1 S0.2.1 dX9_answer_10 (by decide) (fun c12 => ?_) (fun c12 => ?_)
    · replace hf := q_pos c12 hf
      exact b17 p1 p2 s1 hf _ _ _ hw (lv_sub hl [0, 1, 2] rfl)
    · replace hf := q_neg c12 hf
      refine lv_iconst (v := 0) S0.1 S0.2.1 dX9_answer_13 (by decide) ?_
      refine lv_goto (tgt := 18) S0.1 S0.2.1 dX9_answer_14 (by decide) ?_
      exact b18 p1 p2 0 s1 hf _ _ _ hw (lv_sub hl [0, 1, 2] rfl)
def fX9_lose_16 (F : Nat) (t1 : Int32) (σ : qS) : Option qS :=
  nm (qI σ 0 0 54 t1) fun s4 => (some s4)
def fX9_lose (F : Nat) (p1 : Int32) (σ : qS) : Option qS :=
  bnd2 (fX9_holds F 0 σ) fun v2 s1 => (if p1 = 0 then (fX9_lose_16 F 1 s1) else (fX9_lose_16 F 2 s1))
set_option maxRecDepth 100000 in
set_option maxHeartbeats 4000000 in
theorem wX9_lose (l : Launch) (D : va_G) (Y : Nat → ClassId) (ad : qAd) (F : Nat) (p1 : Int32) (σ : qS) : qCv l yX9_lose cX9_lose 2 none 1 21 D (mL Y) (qT Y) ad [.ref (ad 0 0), .int p1] σ (fX9_lose F p1 σ) := by
  refine q_ofv (by decide) (Nat.le_of_ble_eq_true rfl) "LeasehallModel" rfl (fun p e s m below meth c A Q r0 S0 hf hw hret ls hl => ?_)
  replace hl : lv_has ls 2 [(0, .ref (ad 0 0)), (1, .int p1)] := hl
  unfold fX9_lose at hf
  have b16 : ∀ (t1 : Int32) (σ : qS), fX9_lose_16 F t1 σ = some r0 → qAt p l e (qRm 1 21) s m ([.ref (ad 0 0), .int p1] : List Value).toArray below meth c Q D (mL Y) (qT Y) A ad 2 0 0 16 [] [.int t1, .ref (ad 0 0)] σ := by
    clear hf hw hl ls
    intro t1 σ hf H locs ls hw hl
    unfold fX9_lose_16 at hf
    refine pX9_losing S0 hw kw_1202 dX9_lose_16 hf (fun s4 H locs hw hf => ?_)
    exact hret dX9_lose_19 hw hf
  refine lv_aload_n S0.1 S0.2.1 dX9_lose_0 rfl (lv_at hl 0 rfl) ?_
  refine lv_iconst (v := 0) S0.1 S0.2.1 dX9_lose_1 (by decide) ?_
  refine q_calli S0 hw (As := [.int 0]) (rest := []) (wX9_holds l D Y ad F 0 σ) qyX9_holds kw_1335 ⟨Nat.le_of_ble_eq_true rfl, Nat.le_of_ble_eq_true rfl⟩ dM_0 rfl rfl rfl rfl hl.1 (Nat.le_of_ble_eq_true rfl) dX9_lose_2 ⟨Nat.le_refl _, Nat.le_refl _⟩ rfl hf (fun v2 s1 H locs hw hf => ?_)
  refine lv_pop S0.1 S0.2.1 dX9_lose_5 rfl ?_
  refine lv_aload_n S0.1 S0.2.1 dX9_lose_6 rfl (lv_at hl 0 rfl) ?_
  refine lv_iload_n S0.1 S0.2.1 dX9_lose_7 rfl (lv_at hl 1 rfl) ?_
  refine lv_if_eq (tgt := 15) S0.1 S0.2.1 dX9_lose_8 (by decide) (fun c3 => ?_) (fun c3 => ?_)
  · replace hf := q_pos c3 hf
    refine lv_iconst (v := 1) S0.1 S0.2.1 dX9_lose_15 (by decide) ?_
    exact b16 1 s1 hf _ _ _ hw (lv_sub hl [] rfl)
  · replace hf := q_neg c3 hf
    refine lv_iconst (v := 2) S0.1 S0.2.1 dX9_lose_11 (by decide) ?_
    refine lv_goto (tgt := 16) S0.1 S0.2.1 dX9_lose_12 (by decide) ?_
    exact b16 2 s1 hf _ _ _ hw (lv_sub hl [] rfl)
def fX9_quota_17 (F : Nat) (x1 : Int32) (x2 : Int32) (t1 : Int32) (σ : qS) : Option (Int32 × qS) :=
  bnd2 (fX9_holds F t1 σ) fun v5 s4 => (if v5 = 0 then (bnd2 (fX9_isThere F 0 x1 s4) fun v8 s7 => (if v8 = 0 then (some ((-1), s7)) else (inx 80 x1 (nm (qI s7 106 0 x1.toNatClampNeg x2) fun s10 => (bnd2 (fX9_below F x1 s10) fun v12 s11 => (some (v12, s11))))))) else (some ((-1), s4)))
def fX9_quota (F : Nat) (p1 : Int32) (p2 : Int32) (σ : qS) : Option (Int32 × qS) :=
  bnd2 (fX9_in F p2 0 80 σ) fun v2 s1 => (if v2 = 0 then (fX9_quota_17 F p1 p2 1 s1) else (fX9_quota_17 F p1 p2 0 s1))
set_option maxRecDepth 100000 in
set_option maxHeartbeats 4000000 in
theorem wX9_quota (l : Launch) (D : va_G) (Y : Nat → ClassId) (ad : qAd) (F : Nat) (p1 : Int32) (p2 : Int32) (σ : qS) : qCi l yX9_quota cX9_quota 3 (some .int) 2 46 D (mL Y) (qT Y) ad [.ref (ad 0 0), .int p1, .int p2] σ (fX9_quota F p1 p2 σ) := by
  refine q_ofi (by decide) (Nat.le_of_ble_eq_true rfl) "LeasehallModel" rfl (fun p e s m below meth c A Q r0 S0 hf hw hret ls hl => ?_)
  replace hl : lv_has ls 3 [(0, .ref (ad 0 0)), (1, .int p1), (2, .int p2)] := hl
  unfold fX9_quota at hf
  have b17 : ∀ (x1 : Int32) (x2 : Int32) (t1 : Int32) (σ : qS), fX9_quota_17 F x1 x2 t1 σ = some r0 → qAt p l e (qRm 2 46) s m ([.ref (ad 0 0), .int p1, .int p2] : List Value).toArray below meth c Q D (mL Y) (qT Y) A ad 3 0 0 17 [(0, .ref (ad 0 0)), (1, .int x1), (2, .int x2)] [.int t1, .ref (ad 0 0)] σ := by
    clear hf hw hl ls
    intro x1 x2 t1 σ hf H locs ls hw hl
    unfold fX9_quota_17 at hf
    refine q_calli S0 hw (As := [.int t1]) (rest := []) (wX9_holds l D Y ad F t1 σ) qyX9_holds kw_1335 ⟨Nat.le_of_ble_eq_true rfl, Nat.le_of_ble_eq_true rfl⟩ dM_0 rfl rfl rfl rfl hl.1 (Nat.le_of_ble_eq_true rfl) dX9_quota_17 ⟨Nat.le_refl _, Nat.le_refl _⟩ rfl hf (fun v5 s4 H locs hw hf => ?_)
    refine lv_if_eq (tgt := 25) S0.1 S0.2.1 dX9_quota_20 (by decide) (fun c6 => ?_) (fun c6 => ?_)
    · replace hf := q_pos c6 hf
      refine lv_aload_n S0.1 S0.2.1 dX9_quota_25 rfl (lv_at hl 0 rfl) ?_
      refine lv_iconst (v := 0) S0.1 S0.2.1 dX9_quota_26 (by decide) ?_
      refine lv_iload_n S0.1 S0.2.1 dX9_quota_27 rfl (lv_at hl 1 rfl) ?_
      refine q_calli S0 hw (As := [.int 0, .int x1]) (rest := []) (wX9_isThere l D Y ad F 0 x1 s4) qyX9_isThere kw_1463 ⟨Nat.le_of_ble_eq_true rfl, Nat.le_of_ble_eq_true rfl⟩ dM_0 rfl rfl rfl rfl hl.1 (Nat.le_of_ble_eq_true rfl) dX9_quota_28 ⟨Nat.le_refl _, Nat.le_refl _⟩ rfl hf (fun v8 s7 H locs hw hf => ?_)
      refine lv_if_ne (tgt := 36) S0.1 S0.2.1 dX9_quota_31 (by decide) (fun c9 => ?_) (fun c9 => ?_)
      · replace hf := q_neg c9 hf
        refine lv_aload_n S0.1 S0.2.1 dX9_quota_36 rfl (lv_at hl 0 rfl) ?_
        refine gX9_quota S0 hw kw_1154 dX9_quota_37 ?_
        refine lv_iload_n S0.1 S0.2.1 dX9_quota_40 rfl (lv_at hl 1 rfl) ?_
        refine lv_iload_n S0.1 S0.2.1 dX9_quota_41 rfl (lv_at hl 2 rfl) ?_
        refine q_iast S0 hw dM_106 (t0 := 0) (fun _ => rfl) rfl dX9_quota_42 hf (fun s10 H locs hw hf => ?_)
        refine lv_aload_n S0.1 S0.2.1 dX9_quota_43 rfl (lv_at hl 0 rfl) ?_
        refine lv_iload_n S0.1 S0.2.1 dX9_quota_44 rfl (lv_at hl 1 rfl) ?_
        refine q_calli S0 hw (As := [.int x1]) (rest := []) (wX9_below l D Y ad F x1 s10) qyX9_below kw_1479 ⟨Nat.le_of_ble_eq_true rfl, Nat.le_of_ble_eq_true rfl⟩ dM_0 rfl rfl rfl rfl hl.1 (Nat.le_of_ble_eq_true rfl) dX9_quota_45 ⟨Nat.le_refl _, Nat.le_refl _⟩ rfl hf (fun v12 s11 H locs hw hf => ?_)
        exact hret dX9_quota_48 hw hf
      · replace hf := q_pos c9 hf
        refine lv_iconst (v := (-1)) S0.1 S0.2.1 dX9_quota_34 (by decide) ?_
        exact hret dX9_quota_35 hw hf
    · replace hf := q_neg c6 hf
      refine lv_iconst (v := (-1)) S0.1 S0.2.1 dX9_quota_23 (by decide) ?_
      exact hret dX9_quota_24 hw hf
  refine lv_aload_n S0.1 S0.2.1 dX9_quota_0 rfl (lv_at hl 0 rfl) ?_
  refine lv_aload_n S0.1 S0.2.1 dX9_quota_1 rfl (lv_at hl 0 rfl) ?_
  refine lv_iload_n S0.1 S0.2.1 dX9_quota_2 rfl (lv_at hl 2 rfl) ?_
  refine lv_iconst (v := 0) S0.1 S0.2.1 dX9_quota_3 (by decide) ?_
  refine lv_bipush (v := 80) S0.1 S0.2.1 dX9_quota_4 (by decide) ?_
  refine q_calli S0 hw (As := [.int p2, .int 0, .int 80]) (rest := [.ref (ad 0 0)]) (wX9_in l D Y ad F p2 0 80 σ) qyX9_in kw_1331 ⟨Nat.le_of_ble_eq_true rfl, Nat.le_of_ble_eq_true rfl⟩ dM_0 rfl rfl rfl rfl hl.1 (Nat.le_of_ble_eq_true rfl) dX9_quota_6 ⟨Nat.le_refl _, Nat.le_refl _⟩ rfl hf (fun v2 s1 H locs hw hf => ?_)
  refine lv_if_eq (tgt := 16) S0.1 S0.2.1 dX9_quota_9 (by decide) (fun c3 => ?_) (fun c3 => ?_)
  · replace hf := q_pos c3 hf
    refine lv_iconst (v := 1) S0.1 S0.2.1 dX9_quota_16 (by decide) ?_
    exact b17 p1 p2 1 s1 hf _ _ _ hw (lv_sub hl [0, 1, 2] rfl)
  · replace hf := q_neg c3 hf
    refine lv_iconst (v := 0) S0.1 S0.2.1 dX9_quota_12 (by decide) ?_
    refine lv_goto (tgt := 17) S0.1 S0.2.1 dX9_quota_13 (by decide) ?_
    exact b17 p1 p2 0 s1 hf _ _ _ hw (lv_sub hl [0, 1, 2] rfl)
theorem qyX9_sees : qY yX9_sees RX9 cX9_sees 4 (some .int) 2 := ⟨⟨kw_1549, kp_74, kw_11, kw_1550⟩, rfl, by decide, by decide, by decide +kernel⟩
def fX9_sees_50 (F : Nat) (t0 : Int32) (σ : qS) : Option (Int32 × qS) :=
  some (t0, σ)
def fX9_sees (F : Nat) (p1 : Int32) (p2 : Int32) (σ : qS) : Option (Int32 × qS) :=
  ldi 10 (σ.1 132 0) p1 fun v1 => (bnd2 (fX9_isThere F v1 p2 σ) fun v3 s2 => (if v3 = 0 then (fX9_sees_50 F ((-1)) s2) else (nm (80 * v1) fun v5 => (nm (v5 + p2) fun v6 => (ldi 400 (s2.1 113 0) v6 fun v7 => (ldi 10 (s2.1 131 0) p1 fun v8 => (bnd2 (fX9_may F v7 v8 s2) fun v10 s9 => (if v10 = 0 then (fX9_sees_50 F ((-2)) s9) else (fX9_sees_50 F 0 s9)))))))))
set_option maxRecDepth 100000 in
set_option maxHeartbeats 4000000 in
theorem wX9_sees (l : Launch) (D : va_G) (Y : Nat → ClassId) (ad : qAd) (F : Nat) (p1 : Int32) (p2 : Int32) (σ : qS) : qCi l yX9_sees cX9_sees 4 (some .int) 2 45 D (mL Y) (qT Y) ad [.ref (ad 0 0), .int p1, .int p2] σ (fX9_sees F p1 p2 σ) := by
  refine q_ofi (by decide) (Nat.le_of_ble_eq_true rfl) "LeasehallModel" rfl (fun p e s m below meth c A Q r0 S0 hf hw hret ls hl => ?_)
  replace hl : lv_has ls 4 [(0, .ref (ad 0 0)), (1, .int p1), (2, .int p2)] := hl
  unfold fX9_sees at hf
  have b50 : ∀ (t0 : Int32) (σ : qS), fX9_sees_50 F t0 σ = some r0 → qAt p l e (qRm 2 45) s m ([.ref (ad 0 0), .int p1, .int p2] : List Value).toArray below meth c Q D (mL Y) (qT Y) A ad 4 0 0 50 [] [.int t0] σ := by
    clear hf hw hl ls
    intro t0 σ hf H locs ls hw hl
    unfold fX9_sees_50 at hf
    exact hret dX9_sees_50 hw hf
  refine lv_aload_n S0.1 S0.2.1 dX9_sees_0 rfl (lv_at hl 0 rfl) ?_
  refine gX9_zs S0 hw kw_1180 dX9_sees_1 ?_
  refine lv_iload_n S0.1 S0.2.1 dX9_sees_4 rfl (lv_at hl 1 rfl) ?_
  refine q_iald S0 hw dM_132 (t0 := 0) rfl rfl dX9_sees_5 hf (fun v1 hf => ?_)
  refine lv_istore_n (lv' := [(3, .int v1), (0, .ref (ad 0 0)), (1, .int p1), (2, .int p2)]) S0.1 S0.2.1 dX9_sees_6 rfl hl (by decide) rfl (fun ls hl => ?_)
  refine lv_aload_n S0.1 S0.2.1 dX9_sees_7 rfl (lv_at hl 1 rfl) ?_
  refine lv_iload_n S0.1 S0.2.1 dX9_sees_8 rfl (lv_at hl 0 rfl) ?_
  refine lv_iload_n S0.1 S0.2.1 dX9_sees_9 rfl (lv_at hl 3 rfl) ?_
  refine q_calli S0 hw (As := [.int v1, .int p2]) (rest := []) (wX9_isThere l D Y ad F v1 p2 σ) qyX9_isThere kw_1463 ⟨Nat.le_of_ble_eq_true rfl, Nat.le_of_ble_eq_true rfl⟩ dM_0 rfl rfl rfl rfl hl.1 (Nat.le_of_ble_eq_true rfl) dX9_sees_10 ⟨Nat.le_refl _, Nat.le_refl _⟩ rfl hf (fun v3 s2 H locs hw hf => ?_)
  refine lv_if_ne (tgt := 20) S0.1 S0.2.1 dX9_sees_13 (by decide) (fun c4 => ?_) (fun c4 => ?_)
  · replace hf := q_neg c4 hf
    refine lv_aload_n S0.1 S0.2.1 dX9_sees_20 rfl (lv_at hl 1 rfl) ?_
    refine lv_aload_n S0.1 S0.2.1 dX9_sees_21 rfl (lv_at hl 1 rfl) ?_
    refine gX9_rr S0 hw kw_1161 dX9_sees_22 ?_
    refine lv_bipush (v := 80) S0.1 S0.2.1 dX9_sees_25 (by decide) ?_
    refine lv_iload_n S0.1 S0.2.1 dX9_sees_27 rfl (lv_at hl 0 rfl) ?_
    refine lv_imul S0.1 S0.2.1 dX9_sees_28 (q_top hf (fun v5 hf => ?_))
    refine lv_iload_n S0.1 S0.2.1 dX9_sees_29 rfl (lv_at hl 3 rfl) ?_
    refine lv_iadd S0.1 S0.2.1 dX9_sees_30 (q_top hf (fun v6 hf => ?_))
    refine q_iald S0 hw dM_113 (t0 := 0) rfl rfl dX9_sees_31 hf (fun v7 hf => ?_)
    refine lv_aload_n S0.1 S0.2.1 dX9_sees_32 rfl (lv_at hl 1 rfl) ?_
    refine gX9_zp S0 hw kw_1179 dX9_sees_33 ?_
    refine lv_iload_n S0.1 S0.2.1 dX9_sees_36 rfl (lv_at hl 2 rfl) ?_
    refine q_iald S0 hw dM_131 (t0 := 0) rfl rfl dX9_sees_37 hf (fun v8 hf => ?_)
    refine q_calli S0 hw (As := [.int v7, .int v8]) (rest := []) (wX9_may l D Y ad F v7 v8 s2) qyX9_may kw_1467 ⟨Nat.le_of_ble_eq_true rfl, Nat.le_of_ble_eq_true rfl⟩ dM_0 rfl rfl rfl rfl hl.1 (Nat.le_of_ble_eq_true rfl) dX9_sees_38 ⟨Nat.le_refl _, Nat.le_refl _⟩ rfl hf (fun v10 s9 H locs hw hf => ?_)
    refine lv_if_eq (tgt := 48) S0.1 S0.2.1 dX9_sees_41 (by decide) (fun c11 => ?_) (fun c11 => ?_)
    · replace hf := q_pos c11 hf
      refine lv_bipush (v := (-2)) S0.1 S0.2.1 dX9_sees_48 (by decide) ?_
      exact b50 ((-2)) s9 hf _ _ _ hw (lv_sub hl [] rfl)
    · replace hf := q_neg c11 hf
      refine lv_iconst (v := 0) S0.1 S0.2.1 dX9_sees_44 (by decide) ?_
      refine lv_goto (tgt := 50) S0.1 S0.2.1 dX9_sees_45 (by decide) ?_
      exact b50 0 s9 hf _ _ _ hw (lv_sub hl [] rfl)
  · replace hf := q_pos c4 hf
    refine lv_iconst (v := (-1)) S0.1 S0.2.1 dX9_sees_16 (by decide) ?_
    refine lv_goto (tgt := 50) S0.1 S0.2.1 dX9_sees_17 (by decide) ?_
    exact b50 ((-1)) s2 hf _ _ _ hw (lv_sub hl [] rfl)
def fX9_read_41 (F : Nat) (x1 : Int32) (x2 : Int32) (x3 : Int32) (t1 : Int32) (σ : qS) : Option (Int32 × qS) :=
  bnd2 (fX9_holds F t1 σ) fun v11 s10 => (if v11 = 0 then (bnd (fX9_does F x1 s10) fun s13 => (bnd2 (fX9_sees F x1 x2 s13) fun v15 s14 => (if 0 ≤ v15 then (ldi 10 (s14.1 132 0) x1 fun v17 => (nm (80 * v17) fun v18 => (nm (v18 + x2) fun v19 => (if x3 = 0 then (ldi 400 (s14.1 109 0) v19 fun v21 => (some (v21, s14))) else (if x3 = 1 then (ldi 400 (s14.1 110 0) v19 fun v23 => (some (v23, s14))) else (if x3 = 2 then (ldi 400 (s14.1 111 0) v19 fun v25 => (some (v25, s14))) else (if x3 = 3 then (ldi 400 (s14.1 112 0) v19 fun v27 => (some (v27, s14))) else (if x3 = 4 then (ldi 80 (s14.1 100 0) x2 fun v29 => (some (v29, s14))) else (if x3 = 5 then (ldi 80 (s14.1 101 0) x2 fun v31 => (some (v31, s14))) else (if x3 = 6 then (ldi 10 (s14.1 132 0) x1 fun v33 => (bnd2 (fX9_children F v33 x2 s14) fun v35 s34 => (some (v35, s34)))) else (if x3 = 7 then (ldi 80 (s14.1 102 0) x2 fun v37 => (some (v37, s14))) else (if x3 = 8 then (ldi 80 (s14.1 104 0) x2 fun v39 => (some (v39, s14))) else (ldi 400 (s14.1 113 0) v19 fun v40 => (ldi 400 (s14.1 114 0) v19 fun v41 => (nm (16 * v41) fun v42 => (nm (v40 + v42) fun v43 => (some (v43, s14)))))))))))))))))) else (some (v15, s14))))) else (some ((-1), s10)))
def fX9_read (F : Nat) (p1 : Int32) (p2 : Int32) (p3 : Int32) (σ : qS) : Option (Int32 × qS) :=
  bnd2 (fX9_isSession F p1 σ) fun v2 s1 => (if v2 = 0 then (fX9_read_41 F p1 p2 p3 1 s1) else (bnd2 (fX9_in F p3 0 9 s1) fun v5 s4 => (if v5 = 0 then (fX9_read_41 F p1 p2 p3 2 s4) else (bnd2 (fX9_ended F p1 s4) fun v8 s7 => (if v8 = 0 then (fX9_read_41 F p1 p2 p3 0 s7) else (fX9_read_41 F p1 p2 p3 3 s7))))))
set_option maxRecDepth 100000 in
set_option maxHeartbeats 4000000 in
theorem wX9_read (l : Launch) (D : va_G) (Y : Nat → ClassId) (ad : qAd) (F : Nat) (p1 : Int32) (p2 : Int32) (p3 : Int32) (σ : qS) : qCi l yX9_read cX9_read 6 (some .int) 3 68 D (mL Y) (qT Y) ad [.ref (ad 0 0), .int p1, .int p2, .int p3] σ (fX9_read F p1 p2 p3 σ) := by
  refine q_ofi (by decide) (Nat.le_of_ble_eq_true rfl) "LeasehallModel" rfl (fun p e s m below meth c A Q r0 S0 hf hw hret ls hl => ?_)
  replace hl : lv_has ls 6 [(0, .ref (ad 0 0)), (1, .int p1), (2, .int p2), (3, .int p3)] := hl
  unfold fX9_read at hf
  have b41 : ∀ (x1 : Int32) (x2 : Int32) (x3 : Int32) (t1 : Int32) (σ : qS), fX9_read_41 F x1 x2 x3 t1 σ = some r0 → qAt p l e (qRm 3 68) s m ([.ref (ad 0 0), .int p1, .int p2, .int p3] : List Value).toArray below meth c Q D (mL Y) (qT Y) A ad 6 0 0 41 [(0, .ref (ad 0 0)), (1, .int x1), (2, .int x2), (3, .int x3)] [.int t1, .ref (ad 0 0)] σ := by
    clear hf hw hl ls
    intro x1 x2 x3 t1 σ hf H locs ls hw hl
    unfold fX9_read_41 at hf
    refine q_calli S0 hw (As := [.int t1]) (rest := []) (wX9_holds l D Y ad F t1 σ) qyX9_holds kw_1335 ⟨Nat.le_of_ble_eq_true rfl, Nat.le_of_ble_eq_true rfl⟩ dM_0 rfl rfl rfl rfl hl.1 (Nat.le_of_ble_eq_true rfl) dX9_read_41 ⟨Nat.le_refl _, Nat.le_refl _⟩ rfl hf (fun v11 s10 H locs hw hf => ?_)
    refine lv_if_eq (tgt := 49) S0.1 S0.2.1 dX9_read_44 (by decide) (fun c12 => ?_) (fun c12 => ?_)
    · replace hf := q_pos c12 hf
      refine lv_aload_n S0.1 S0.2.1 dX9_read_49 rfl (lv_at hl 0 rfl) ?_
      refine lv_iload_n S0.1 S0.2.1 dX9_read_50 rfl (lv_at hl 1 rfl) ?_
      refine q_callv S0 hw (As := [.int x1]) (rest := []) (wX9_does l D Y ad F x1 s10) qyX9_does kw_1415 ⟨Nat.le_of_ble_eq_true rfl, Nat.le_of_ble_eq_true rfl⟩ dM_0 rfl rfl rfl rfl hl.1 (Nat.le_of_ble_eq_true rfl) dX9_read_51 ⟨Nat.le_refl _, Nat.le_refl _⟩ rfl hf (fun s13 H locs hw hf => ?_)
      refine lv_aload_n S0.1 S0.2.1 dX9_read_54 rfl (lv_at hl 0 rfl) ?_
      refine lv_iload_n S0.1 S0.2.1 dX9_read_55 rfl (lv_at hl 1 rfl) ?_
      refine lv_iload_n S0.1 S0.2.1 dX9_read_56 rfl (lv_at hl 2 rfl) ?_
      refine q_calli S0 hw (As := [.int x1, .int x2]) (rest := []) (wX9_sees l D Y ad F x1 x2 s13) qyX9_sees kw_1547 ⟨Nat.le_of_ble_eq_true rfl, Nat.le_of_ble_eq_true rfl⟩ dM_0 rfl rfl rfl rfl hl.1 (Nat.le_of_ble_eq_true rfl) dX9_read_57 ⟨Nat.le_refl _, Nat.le_refl _⟩ rfl hf (fun v15 s14 H locs hw hf => ?_)
      refine lv_istore (lv' := [(4, .int v15), (0, .ref (ad 0 0)), (1, .int x1), (2, .int x2), (3, .int x3)]) S0.1 S0.2.1 dX9_read_60 hl (by decide) rfl (fun ls hl => ?_)
      refine lv_iload S0.1 S0.2.1 dX9_read_62 (lv_at hl 0 rfl) ?_
      refine lv_if_ge (tgt := 70) S0.1 S0.2.1 dX9_read_64 (by decide) (fun c16 => ?_) (fun c16 => ?_)
      · replace hf := q_pos c16 hf
        refine lv_bipush (v := 80) S0.1 S0.2.1 dX9_read_70 (by decide) ?_
        refine lv_aload_n S0.1 S0.2.1 dX9_read_72 rfl (lv_at hl 1 rfl) ?_
        refine gX9_zs S0 hw kw_1180 dX9_read_73 ?_
        refine lv_iload_n S0.1 S0.2.1 dX9_read_76 rfl (lv_at hl 2 rfl) ?_
        refine q_iald S0 hw dM_132 (t0 := 0) rfl rfl dX9_read_77 hf (fun v17 hf => ?_)
        refine lv_imul S0.1 S0.2.1 dX9_read_78 (q_top hf (fun v18 hf => ?_))
        refine lv_iload_n S0.1 S0.2.1 dX9_read_79 rfl (lv_at hl 3 rfl) ?_
        refine lv_iadd S0.1 S0.2.1 dX9_read_80 (q_top hf (fun v19 hf => ?_))
        refine lv_istore (lv' := [(5, .int v19), (4, .int v15), (0, .ref (ad 0 0)), (1, .int x1), (2, .int x2), (3, .int x3)]) S0.1 S0.2.1 dX9_read_81 hl (by decide) rfl (fun ls hl => ?_)
        refine lv_iload_n S0.1 S0.2.1 dX9_read_83 rfl (lv_at hl 5 rfl) ?_
        by_cases c20 : x3 = 0
        · replace hf := q_pos c20 hf
          refine lv_tableIn (tgt := 136) S0.1 S0.2.1 dX9_read_84 (by rw [c20]; decide) (by rw [c20]; decide) (by rw [c20]; rfl) (by decide) ?_
          refine lv_aload_n S0.1 S0.2.1 dX9_read_136 rfl (lv_at hl 2 rfl) ?_
          refine gX9_val S0 hw kw_1157 dX9_read_137 ?_
          refine lv_iload S0.1 S0.2.1 dX9_read_140 (lv_at hl 0 rfl) ?_
          refine q_iald S0 hw dM_109 (t0 := 0) rfl rfl dX9_read_142 hf (fun v21 hf => ?_)
          exact hret dX9_read_143 hw hf
        · replace hf := q_neg c20 hf
          by_cases c22 : x3 = 1
          · replace hf := q_pos c22 hf
            refine lv_tableIn (tgt := 144) S0.1 S0.2.1 dX9_read_84 (by rw [c22]; decide) (by rw [c22]; decide) (by rw [c22]; rfl) (by decide) ?_
            refine lv_aload_n S0.1 S0.2.1 dX9_read_144 rfl (lv_at hl 2 rfl) ?_
            refine gX9_vv S0 hw kw_1158 dX9_read_145 ?_
            refine lv_iload S0.1 S0.2.1 dX9_read_148 (lv_at hl 0 rfl) ?_
            refine q_iald S0 hw dM_110 (t0 := 0) rfl rfl dX9_read_150 hf (fun v23 hf => ?_)
            exact hret dX9_read_151 hw hf
          · replace hf := q_neg c22 hf
            by_cases c24 : x3 = 2
            · replace hf := q_pos c24 hf
              refine lv_tableIn (tgt := 152) S0.1 S0.2.1 dX9_read_84 (by rw [c24]; decide) (by rw [c24]; decide) (by rw [c24]; rfl) (by decide) ?_
              refine lv_aload_n S0.1 S0.2.1 dX9_read_152 rfl (lv_at hl 2 rfl) ?_
              refine gX9_cv S0 hw kw_1159 dX9_read_153 ?_
              refine lv_iload S0.1 S0.2.1 dX9_read_156 (lv_at hl 0 rfl) ?_
              refine q_iald S0 hw dM_111 (t0 := 0) rfl rfl dX9_read_158 hf (fun v25 hf => ?_)
              exact hret dX9_read_159 hw hf
            · replace hf := q_neg c24 hf
              by_cases c26 : x3 = 3
              · replace hf := q_pos c26 hf
                refine lv_tableIn (tgt := 160) S0.1 S0.2.1 dX9_read_84 (by rw [c26]; decide) (by rw [c26]; decide) (by rw [c26]; rfl) (by decide) ?_
                refine lv_aload_n S0.1 S0.2.1 dX9_read_160 rfl (lv_at hl 2 rfl) ?_
                refine gX9_rv S0 hw kw_1160 dX9_read_161 ?_
                refine lv_iload S0.1 S0.2.1 dX9_read_164 (lv_at hl 0 rfl) ?_
                refine q_iald S0 hw dM_112 (t0 := 0) rfl rfl dX9_read_166 hf (fun v27 hf => ?_)
                exact hret dX9_read_167 hw hf
              · replace hf := q_neg c26 hf
                by_cases c28 : x3 = 4
                · replace hf := q_pos c28 hf
                  refine lv_tableIn (tgt := 168) S0.1 S0.2.1 dX9_read_84 (by rw [c28]; decide) (by rw [c28]; decide) (by rw [c28]; rfl) (by decide) ?_
                  refine lv_aload_n S0.1 S0.2.1 dX9_read_168 rfl (lv_at hl 2 rfl) ?_
                  refine gX9_parent S0 hw kw_1148 dX9_read_169 ?_
                  refine lv_iload_n S0.1 S0.2.1 dX9_read_172 rfl (lv_at hl 4 rfl) ?_
                  refine q_iald S0 hw dM_100 (t0 := 0) rfl rfl dX9_read_173 hf (fun v29 hf => ?_)
                  exact hret dX9_read_174 hw hf
                · replace hf := q_neg c28 hf
                  by_cases c30 : x3 = 5
                  · replace hf := q_pos c30 hf
                    refine lv_tableIn (tgt := 175) S0.1 S0.2.1 dX9_read_84 (by rw [c30]; decide) (by rw [c30]; decide) (by rw [c30]; rfl) (by decide) ?_
                    refine lv_aload_n S0.1 S0.2.1 dX9_read_175 rfl (lv_at hl 2 rfl) ?_
                    refine gX9_name S0 hw kw_1149 dX9_read_176 ?_
                    refine lv_iload_n S0.1 S0.2.1 dX9_read_179 rfl (lv_at hl 4 rfl) ?_
                    refine q_iald S0 hw dM_101 (t0 := 0) rfl rfl dX9_read_180 hf (fun v31 hf => ?_)
                    exact hret dX9_read_181 hw hf
                  · replace hf := q_neg c30 hf
                    by_cases c32 : x3 = 6
                    · replace hf := q_pos c32 hf
                      refine lv_tableIn (tgt := 182) S0.1 S0.2.1 dX9_read_84 (by rw [c32]; decide) (by rw [c32]; decide) (by rw [c32]; rfl) (by decide) ?_
                      refine lv_aload_n S0.1 S0.2.1 dX9_read_182 rfl (lv_at hl 2 rfl) ?_
                      refine lv_aload_n S0.1 S0.2.1 dX9_read_183 rfl (lv_at hl 2 rfl) ?_
                      refine gX9_zs S0 hw kw_1180 dX9_read_184 ?_
                      refine lv_iload_n S0.1 S0.2.1 dX9_read_187 rfl (lv_at hl 3 rfl) ?_
                      refine q_iald S0 hw dM_132 (t0 := 0) rfl rfl dX9_read_188 hf (fun v33 hf => ?_)
                      refine lv_iload_n S0.1 S0.2.1 dX9_read_189 rfl (lv_at hl 4 rfl) ?_
                      refine q_calli S0 hw (As := [.int v33, .int x2]) (rest := []) (wX9_children l D Y ad F v33 x2 s14) qyX9_children kw_1383 ⟨Nat.le_of_ble_eq_true rfl, Nat.le_of_ble_eq_true rfl⟩ dM_0 rfl rfl rfl rfl hl.1 (Nat.le_of_ble_eq_true rfl) dX9_read_190 ⟨Nat.le_refl _, Nat.le_refl _⟩ rfl hf (fun v35 s34 H locs hw hf => ?_)
                      exact hret dX9_read_193 hw hf
                    · replace hf := q_neg c32 hf
                      by_cases c36 : x3 = 7
                      · replace hf := q_pos c36 hf
                        refine lv_tableIn (tgt := 194) S0.1 S0.2.1 dX9_read_84 (by rw [c36]; decide) (by rw [c36]; decide) (by rw [c36]; rfl) (by decide) ?_
                        refine lv_aload_n S0.1 S0.2.1 dX9_read_194 rfl (lv_at hl 2 rfl) ?_
                        refine gX9_kind S0 hw kw_1150 dX9_read_195 ?_
                        refine lv_iload_n S0.1 S0.2.1 dX9_read_198 rfl (lv_at hl 4 rfl) ?_
                        refine q_iald S0 hw dM_102 (t0 := 0) rfl rfl dX9_read_199 hf (fun v37 hf => ?_)
                        exact hret dX9_read_200 hw hf
                      · replace hf := q_neg c36 hf
                        by_cases c38 : x3 = 8
                        · replace hf := q_pos c38 hf
                          refine lv_tableIn (tgt := 201) S0.1 S0.2.1 dX9_read_84 (by rw [c38]; decide) (by rw [c38]; decide) (by rw [c38]; rfl) (by decide) ?_
                          refine lv_aload_n S0.1 S0.2.1 dX9_read_201 rfl (lv_at hl 2 rfl) ?_
                          refine gX9_born S0 hw kw_1152 dX9_read_202 ?_
                          refine lv_iload_n S0.1 S0.2.1 dX9_read_205 rfl (lv_at hl 4 rfl) ?_
                          refine q_iald S0 hw dM_104 (t0 := 0) rfl rfl dX9_read_206 hf (fun v39 hf => ?_)
                          exact hret dX9_read_207 hw hf
                        · replace hf := q_neg c38 hf
                          refine lv_tableOut (tgt := 208) S0.1 S0.2.1 dX9_read_84 (by have hc20 := lv_neT c20 (a := 0) (by decide); have hc22 := lv_neT c22 (a := 1) (by decide); have hc24 := lv_neT c24 (a := 2) (by decide); have hc26 := lv_neT c26 (a := 3) (by decide); have hc28 := lv_neT c28 (a := 4) (by decide); have hc30 := lv_neT c30 (a := 5) (by decide); have hc32 := lv_neT c32 (a := 6) (by decide); have hc36 := lv_neT c36 (a := 7) (by decide); have hc38 := lv_neT c38 (a := 8) (by decide); omega) (by decide) ?_
                          refine lv_aload_n S0.1 S0.2.1 dX9_read_208 rfl (lv_at hl 2 rfl) ?_
                          refine gX9_rr S0 hw kw_1161 dX9_read_209 ?_
                          refine lv_iload S0.1 S0.2.1 dX9_read_212 (lv_at hl 0 rfl) ?_
                          refine q_iald S0 hw dM_113 (t0 := 0) rfl rfl dX9_read_214 hf (fun v40 hf => ?_)
                          refine lv_bipush (v := 16) S0.1 S0.2.1 dX9_read_215 (by decide) ?_
                          refine lv_aload_n S0.1 S0.2.1 dX9_read_217 rfl (lv_at hl 2 rfl) ?_
                          refine gX9_rw S0 hw kw_1162 dX9_read_218 ?_
                          refine lv_iload S0.1 S0.2.1 dX9_read_221 (lv_at hl 0 rfl) ?_
                          refine q_iald S0 hw dM_114 (t0 := 0) rfl rfl dX9_read_223 hf (fun v41 hf => ?_)
                          refine lv_imul S0.1 S0.2.1 dX9_read_224 (q_top hf (fun v42 hf => ?_))
                          refine lv_iadd S0.1 S0.2.1 dX9_read_225 (q_top hf (fun v43 hf => ?_))
                          exact hret dX9_read_226 hw hf
      · replace hf := q_neg c16 hf
        refine lv_iload S0.1 S0.2.1 dX9_read_67 (lv_at hl 0 rfl) ?_
        exact hret dX9_read_69 hw hf
    · replace hf := q_neg c12 hf
      refine lv_iconst (v := (-1)) S0.1 S0.2.1 dX9_read_47 (by decide) ?_
      exact hret dX9_read_48 hw hf
  refine lv_aload_n S0.1 S0.2.1 dX9_read_0 rfl (lv_at hl 0 rfl) ?_
  refine lv_aload_n S0.1 S0.2.1 dX9_read_1 rfl (lv_at hl 0 rfl) ?_
  refine lv_iload_n S0.1 S0.2.1 dX9_read_2 rfl (lv_at hl 1 rfl) ?_
  refine q_calli S0 hw (As := [.int p1]) (rest := [.ref (ad 0 0)]) (wX9_isSession l D Y ad F p1 σ) qyX9_isSession kw_1343 ⟨Nat.le_of_ble_eq_true rfl, Nat.le_of_ble_eq_true rfl⟩ dM_0 rfl rfl rfl rfl hl.1 (Nat.le_of_ble_eq_true rfl) dX9_read_3 ⟨Nat.le_refl _, Nat.le_refl _⟩ rfl hf (fun v2 s1 H locs hw hf => ?_)
  refine lv_if_ne (tgt := 13) S0.1 S0.2.1 dX9_read_6 (by decide) (fun c3 => ?_) (fun c3 => ?_)
  · replace hf := q_neg c3 hf
    refine lv_aload_n S0.1 S0.2.1 dX9_read_13 rfl (lv_at hl 0 rfl) ?_
    refine lv_iload_n S0.1 S0.2.1 dX9_read_14 rfl (lv_at hl 3 rfl) ?_
    refine lv_iconst (v := 0) S0.1 S0.2.1 dX9_read_15 (by decide) ?_
    refine lv_bipush (v := 9) S0.1 S0.2.1 dX9_read_16 (by decide) ?_
    refine q_calli S0 hw (As := [.int p3, .int 0, .int 9]) (rest := [.ref (ad 0 0)]) (wX9_in l D Y ad F p3 0 9 s1) qyX9_in kw_1331 ⟨Nat.le_of_ble_eq_true rfl, Nat.le_of_ble_eq_true rfl⟩ dM_0 rfl rfl rfl rfl hl.1 (Nat.le_of_ble_eq_true rfl) dX9_read_18 ⟨Nat.le_refl _, Nat.le_refl _⟩ rfl hf (fun v5 s4 H locs hw hf => ?_)
    refine lv_if_ne (tgt := 28) S0.1 S0.2.1 dX9_read_21 (by decide) (fun c6 => ?_) (fun c6 => ?_)
    · replace hf := q_neg c6 hf
      refine lv_aload_n S0.1 S0.2.1 dX9_read_28 rfl (lv_at hl 0 rfl) ?_
      refine lv_iload_n S0.1 S0.2.1 dX9_read_29 rfl (lv_at hl 1 rfl) ?_
      refine q_calli S0 hw (As := [.int p1]) (rest := [.ref (ad 0 0)]) (wX9_ended l D Y ad F p1 s4) qyX9_ended kw_1347 ⟨Nat.le_of_ble_eq_true rfl, Nat.le_of_ble_eq_true rfl⟩ dM_0 rfl rfl rfl rfl hl.1 (Nat.le_of_ble_eq_true rfl) dX9_read_30 ⟨Nat.le_refl _, Nat.le_refl _⟩ rfl hf (fun v8 s7 H locs hw hf => ?_)
      refine lv_if_eq (tgt := 40) S0.1 S0.2.1 dX9_read_33 (by decide) (fun c9 => ?_) (fun c9 => ?_)
      · replace hf := q_pos c9 hf
        refine lv_iconst (v := 0) S0.1 S0.2.1 dX9_read_40 (by decide) ?_
        exact b41 p1 p2 p3 0 s7 hf _ _ _ hw (lv_sub hl [0, 1, 2, 3] rfl)
      · replace hf := q_neg c9 hf
        refine lv_iconst (v := 3) S0.1 S0.2.1 dX9_read_36 (by decide) ?_
        refine lv_goto (tgt := 41) S0.1 S0.2.1 dX9_read_37 (by decide) ?_
        exact b41 p1 p2 p3 3 s7 hf _ _ _ hw (lv_sub hl [0, 1, 2, 3] rfl)
    · replace hf := q_pos c6 hf
      refine lv_iconst (v := 2) S0.1 S0.2.1 dX9_read_24 (by decide) ?_
      refine lv_goto (tgt := 41) S0.1 S0.2.1 dX9_read_25 (by decide) ?_
      exact b41 p1 p2 p3 2 s4 hf _ _ _ hw (lv_sub hl [0, 1, 2, 3] rfl)
  · replace hf := q_pos c3 hf
    refine lv_iconst (v := 1) S0.1 S0.2.1 dX9_read_9 (by decide) ?_
    refine lv_goto (tgt := 41) S0.1 S0.2.1 dX9_read_10 (by decide) ?_
    exact b41 p1 p2 p3 1 s1 hf _ _ _ hw (lv_sub hl [0, 1, 2, 3] rfl)
theorem qyX9_childAt : qY yX9_childAt RX9 cX9_childAt 10 (some .int) 4 := ⟨⟨kw_1557, kp_75, kw_11, kw_1558⟩, rfl, by decide, by decide, by decide +kernel⟩
def fX9_childAt_140 (F : Nat) (k10 : Int32 → Int32 → Int32 → Int32 → Int32 → Int32 → Int32 → qS → Option (Int32 × qS)) (k23 : Int32 → Int32 → Int32 → Int32 → Int32 → Int32 → Int32 → Int32 → qS → Option (Int32 × qS)) (x1 : Int32) (x2 : Int32) (x3 : Int32) (x4 : Int32) (x5 : Int32) (x7 : Int32) (x8 : Int32) (t0 : Int32) (σ : qS) : Option (Int32 × qS) :=
  nm (x8 + 1) fun v12 => (k23 x1 x2 x3 x4 x5 t0 x7 v12 σ)
def fX9_childAt_138 (F : Nat) (k10 : Int32 → Int32 → Int32 → Int32 → Int32 → Int32 → Int32 → qS → Option (Int32 × qS)) (k23 : Int32 → Int32 → Int32 → Int32 → Int32 → Int32 → Int32 → Int32 → qS → Option (Int32 × qS)) (x1 : Int32) (x2 : Int32) (x3 : Int32) (x4 : Int32) (x5 : Int32) (x6 : Int32) (x7 : Int32) (x8 : Int32) (σ : qS) : Option (Int32 × qS) :=
  fX9_childAt_140 F k10 k23 x1 x2 x3 x4 x5 x7 x8 x6 σ
def fX9_childAt_133 (F : Nat) (k10 : Int32 → Int32 → Int32 → Int32 → Int32 → Int32 → Int32 → qS → Option (Int32 × qS)) (k23 : Int32 → Int32 → Int32 → Int32 → Int32 → Int32 → Int32 → Int32 → qS → Option (Int32 × qS)) (x1 : Int32) (x2 : Int32) (x3 : Int32) (x4 : Int32) (x5 : Int32) (x7 : Int32) (x8 : Int32) (σ : qS) : Option (Int32 × qS) :=
  fX9_childAt_140 F k10 k23 x1 x2 x3 x4 x5 x7 x8 x8 σ
def fX9_childAt_104 (F : Nat) (k10 : Int32 → Int32 → Int32 → Int32 → Int32 → Int32 → Int32 → qS → Option (Int32 × qS)) (k23 : Int32 → Int32 → Int32 → Int32 → Int32 → Int32 → Int32 → Int32 → qS → Option (Int32 × qS)) (x1 : Int32) (x2 : Int32) (x3 : Int32) (x4 : Int32) (x5 : Int32) (x6 : Int32) (x7 : Int32) (x8 : Int32) (t0 : Int32) (σ : qS) : Option (Int32 × qS) :=
  if t0 = 0 then (fX9_childAt_138 F k10 k23 x1 x2 x3 x4 x5 x6 x7 x8 σ) else (if x6 < 0 then (fX9_childAt_133 F k10 k23 x1 x2 x3 x4 x5 x7 x8 σ) else (ldi 80 (σ.1 101 0) x8 fun v14 => (ldi 80 (σ.1 101 0) x6 fun v15 => (if v15 ≤ v14 then (fX9_childAt_138 F k10 k23 x1 x2 x3 x4 x5 x6 x7 x8 σ) else (fX9_childAt_133 F k10 k23 x1 x2 x3 x4 x5 x7 x8 σ)))))
def fX9_childAt_103 (F : Nat) (k10 : Int32 → Int32 → Int32 → Int32 → Int32 → Int32 → Int32 → qS → Option (Int32 × qS)) (k23 : Int32 → Int32 → Int32 → Int32 → Int32 → Int32 → Int32 → Int32 → qS → Option (Int32 × qS)) (x1 : Int32) (x2 : Int32) (x3 : Int32) (x4 : Int32) (x5 : Int32) (x6 : Int32) (x7 : Int32) (x8 : Int32) (σ : qS) : Option (Int32 × qS) :=
  fX9_childAt_104 F k10 k23 x1 x2 x3 x4 x5 x6 x7 x8 0 σ
def fX9_childAt_99 (F : Nat) (k10 : Int32 → Int32 → Int32 → Int32 → Int32 → Int32 → Int32 → qS → Option (Int32 × qS)) (k23 : Int32 → Int32 → Int32 → Int32 → Int32 → Int32 → Int32 → Int32 → qS → Option (Int32 × qS)) (x1 : Int32) (x2 : Int32) (x3 : Int32) (x4 : Int32) (x5 : Int32) (x6 : Int32) (x7 : Int32) (x8 : Int32) (σ : qS) : Option (Int32 × qS) :=
  fX9_childAt_104 F k10 k23 x1 x2 x3 x4 x5 x6 x7 x8 1 σ
def fX9_childAt_23 (F : Nat) (k10 : Int32 → Int32 → Int32 → Int32 → Int32 → Int32 → Int32 → qS → Option (Int32 × qS)) : Nat → Int32 → Int32 → Int32 → Int32 → Int32 → Int32 → Int32 → Int32 → qS → Option (Int32 × qS)
  | 0, _, _, _, _, _, _, _, _, _ => none
  | n + 1, x1, x2, x3, x4, x5, x6, x7, x8, σ =>
  nm (σ.1 0 0 7) fun v2 => (if v2 ≤ x8 then (if 0 ≤ x6 then (ldi 80 (σ.1 101 0) x6 fun v5 => (nm (x7 + 1) fun v6 => (k10 x1 x2 x3 x4 v5 x6 v6 σ))) else (some ((-100), σ))) else (nm (80 * x1) fun v7 => (nm (v7 + x8) fun v8 => (ldi 400 (σ.1 108 0) v8 fun v9 => (if v9 = 1 then (ldi 80 (σ.1 100 0) x8 fun v17 => (if v17 = x2 then (ldi 80 (σ.1 101 0) x8 fun v19 => (if v19 ≤ x5 then (fX9_childAt_103 F k10 (fX9_childAt_23 F k10 n) x1 x2 x3 x4 x5 x6 x7 x8 σ) else (if x4 < 0 then (fX9_childAt_99 F k10 (fX9_childAt_23 F k10 n) x1 x2 x3 x4 x5 x6 x7 x8 σ) else (ldi 80 (σ.1 102 0) x8 fun v22 => (if v22 = 1 then (ldi 80 (σ.1 103 0) x8 fun v24 => (if v24 = x4 then (fX9_childAt_99 F k10 (fX9_childAt_23 F k10 n) x1 x2 x3 x4 x5 x6 x7 x8 σ) else (fX9_childAt_103 F k10 (fX9_childAt_23 F k10 n) x1 x2 x3 x4 x5 x6 x7 x8 σ))) else (fX9_childAt_103 F k10 (fX9_childAt_23 F k10 n) x1 x2 x3 x4 x5 x6 x7 x8 σ)))))) else (fX9_childAt_103 F k10 (fX9_childAt_23 F k10 n) x1 x2 x3 x4 x5 x6 x7 x8 σ))) else (fX9_childAt_103 F k10 (fX9_childAt_23 F k10 n) x1 x2 x3 x4 x5 x6 x7 x8 σ))))))
def fX9_childAt_10 (F : Nat) : Nat → Int32 → Int32 → Int32 → Int32 → Int32 → Int32 → Int32 → qS → Option (Int32 × qS)
  | 0, _, _, _, _, _, _, _, _ => none
  | n + 1, x1, x2, x3, x4, x5, x6, x7, σ =>
  if x3 < x7 then (some (x6, σ)) else (fX9_childAt_23 F (fX9_childAt_10 F n) F x1 x2 x3 x4 x5 ((-100)) x7 1 σ)
def fX9_childAt (F : Nat) (p1 : Int32) (p2 : Int32) (p3 : Int32) (p4 : Int32) (σ : qS) : Option (Int32 × qS) :=
  fX9_childAt_10 F F p1 p2 p3 p4 ((-1)) ((-100)) 0 σ
set_option maxRecDepth 100000 in
set_option maxHeartbeats 4000000 in
theorem wX9_childAt (l : Launch) (D : va_G) (Y : Nat → ClassId) (ad : qAd) (F : Nat) (p1 : Int32) (p2 : Int32) (p3 : Int32) (p4 : Int32) (σ : qS) : qCi l yX9_childAt cX9_childAt 10 (some .int) 0 0 D (mL Y) (qT Y) ad [.ref (ad 0 0), .int p1, .int p2, .int p3, .int p4] σ (fX9_childAt F p1 p2 p3 p4 σ) := by
  refine q_ofi (by decide) (Nat.le_of_ble_eq_true rfl) "LeasehallModel" rfl (fun p e s m below meth c A Q r0 S0 hf hw hret ls hl => ?_)
  replace hl : lv_has ls 10 [(0, .ref (ad 0 0)), (1, .int p1), (2, .int p2), (3, .int p3), (4, .int p4)] := hl
  unfold fX9_childAt at hf
  have b140 : ∀ (k10 : Int32 → Int32 → Int32 → Int32 → Int32 → Int32 → Int32 → qS → Option (Int32 × qS)) (hk10 : ∀ (x1 : Int32) (x2 : Int32) (x3 : Int32) (x4 : Int32) (x5 : Int32) (x6 : Int32) (x7 : Int32) (σ : qS), k10 x1 x2 x3 x4 x5 x6 x7 σ = some r0 → qAt p l e (qRm 0 0) s m ([.ref (ad 0 0), .int p1, .int p2, .int p3, .int p4] : List Value).toArray below meth c Q D (mL Y) (qT Y) A ad 10 0 0 10 [(0, .ref (ad 0 0)), (1, .int x1), (2, .int x2), (3, .int x3), (4, .int x4), (5, .int x5), (6, .int x6), (7, .int x7)] [] σ) (k23 : Int32 → Int32 → Int32 → Int32 → Int32 → Int32 → Int32 → Int32 → qS → Option (Int32 × qS)) (hk23 : ∀ (x1 : Int32) (x2 : Int32) (x3 : Int32) (x4 : Int32) (x5 : Int32) (x6 : Int32) (x7 : Int32) (x8 : Int32) (σ : qS), k23 x1 x2 x3 x4 x5 x6 x7 x8 σ = some r0 → qAt p l e (qRm 0 0) s m ([.ref (ad 0 0), .int p1, .int p2, .int p3, .int p4] : List Value).toArray below meth c Q D (mL Y) (qT Y) A ad 10 0 0 23 [(0, .ref (ad 0 0)), (1, .int x1), (2, .int x2), (3, .int x3), (4, .int x4), (5, .int x5), (6, .int x6), (7, .int x7), (8, .int x8)] [] σ) (x1 : Int32) (x2 : Int32) (x3 : Int32) (x4 : Int32) (x5 : Int32) (x7 : Int32) (x8 : Int32) (t0 : Int32) (σ : qS), fX9_childAt_140 F k10 k23 x1 x2 x3 x4 x5 x7 x8 t0 σ = some r0 → qAt p l e (qRm 0 0) s m ([.ref (ad 0 0), .int p1, .int p2, .int p3, .int p4] : List Value).toArray below meth c Q D (mL Y) (qT Y) A ad 10 0 0 140 [(0, .ref (ad 0 0)), (1, .int x1), (2, .int x2), (3, .int x3), (4, .int x4), (5, .int x5), (7, .int x7), (8, .int x8)] [.int t0] σ := by
    clear hf hw hl ls
    intro k10 hk10 k23 hk23
    intro x1 x2 x3 x4 x5 x7 x8 t0 σ hf H locs ls hw hl
    unfold fX9_childAt_140 at hf
    refine lv_istore (lv' := [(6, .int t0), (0, .ref (ad 0 0)), (1, .int x1), (2, .int x2), (3, .int x3), (4, .int x4), (5, .int x5), (7, .int x7), (8, .int x8)]) S0.1 S0.2.1 dX9_childAt_140 hl (by decide) rfl (fun ls hl => ?_)
    refine q_iinc S0 (v0 := 1) dX9_childAt_142 hl (k := 8) rfl (by decide) (by decide) rfl hf (fun v12 ls hl hf => ?_)
    refine lv_goto (tgt := 23) S0.1 S0.2.1 dX9_childAt_145 (by decide) ?_
    exact hk23 x1 x2 x3 x4 x5 t0 x7 v12 σ hf _ _ _ hw (lv_sub hl [2, 3, 4, 5, 6, 7, 1, 8, 0] rfl)
  have b138 : ∀ (k10 : Int32 → Int32 → Int32 → Int32 → Int32 → Int32 → Int32 → qS → Option (Int32 × qS)) (hk10 : ∀ (x1 : Int32) (x2 : Int32) (x3 : Int32) (x4 : Int32) (x5 : Int32) (x6 : Int32) (x7 : Int32) (σ : qS), k10 x1 x2 x3 x4 x5 x6 x7 σ = some r0 → qAt p l e (qRm 0 0) s m ([.ref (ad 0 0), .int p1, .int p2, .int p3, .int p4] : List Value).toArray below meth c Q D (mL Y) (qT Y) A ad 10 0 0 10 [(0, .ref (ad 0 0)), (1, .int x1), (2, .int x2), (3, .int x3), (4, .int x4), (5, .int x5), (6, .int x6), (7, .int x7)] [] σ) (k23 : Int32 → Int32 → Int32 → Int32 → Int32 → Int32 → Int32 → Int32 → qS → Option (Int32 × qS)) (hk23 : ∀ (x1 : Int32) (x2 : Int32) (x3 : Int32) (x4 : Int32) (x5 : Int32) (x6 : Int32) (x7 : Int32) (x8 : Int32) (σ : qS), k23 x1 x2 x3 x4 x5 x6 x7 x8 σ = some r0 → qAt p l e (qRm 0 0) s m ([.ref (ad 0 0), .int p1, .int p2, .int p3, .int p4] : List Value).toArray below meth c Q D (mL Y) (qT Y) A ad 10 0 0 23 [(0, .ref (ad 0 0)), (1, .int x1), (2, .int x2), (3, .int x3), (4, .int x4), (5, .int x5), (6, .int x6), (7, .int x7), (8, .int x8)] [] σ) (x1 : Int32) (x2 : Int32) (x3 : Int32) (x4 : Int32) (x5 : Int32) (x6 : Int32) (x7 : Int32) (x8 : Int32) (σ : qS), fX9_childAt_138 F k10 k23 x1 x2 x3 x4 x5 x6 x7 x8 σ = some r0 → qAt p l e (qRm 0 0) s m ([.ref (ad 0 0), .int p1, .int p2, .int p3, .int p4] : List Value).toArray below meth c Q D (mL Y) (qT Y) A ad 10 0 0 138 [(0, .ref (ad 0 0)), (1, .int x1), (2, .int x2), (3, .int x3), (4, .int x4), (5, .int x5), (6, .int x6), (7, .int x7), (8, .int x8)] [] σ := by
    clear hf hw hl ls
    intro k10 hk10 k23 hk23
    intro x1 x2 x3 x4 x5 x6 x7 x8 σ hf H locs ls hw hl
    unfold fX9_childAt_138 at hf
    refine lv_iload S0.1 S0.2.1 dX9_childAt_138 (lv_at hl 6 rfl) ?_
    exact b140 k10 hk10 k23 hk23 x1 x2 x3 x4 x5 x7 x8 x6 σ hf _ _ _ hw (lv_sub hl [0, 1, 2, 3, 4, 5, 7, 8] rfl)
  have b133 : ∀ (k10 : Int32 → Int32 → Int32 → Int32 → Int32 → Int32 → Int32 → qS → Option (Int32 × qS)) (hk10 : ∀ (x1 : Int32) (x2 : Int32) (x3 : Int32) (x4 : Int32) (x5 : Int32) (x6 : Int32) (x7 : Int32) (σ : qS), k10 x1 x2 x3 x4 x5 x6 x7 σ = some r0 → qAt p l e (qRm 0 0) s m ([.ref (ad 0 0), .int p1, .int p2, .int p3, .int p4] : List Value).toArray below meth c Q D (mL Y) (qT Y) A ad 10 0 0 10 [(0, .ref (ad 0 0)), (1, .int x1), (2, .int x2), (3, .int x3), (4, .int x4), (5, .int x5), (6, .int x6), (7, .int x7)] [] σ) (k23 : Int32 → Int32 → Int32 → Int32 → Int32 → Int32 → Int32 → Int32 → qS → Option (Int32 × qS)) (hk23 : ∀ (x1 : Int32) (x2 : Int32) (x3 : Int32) (x4 : Int32) (x5 : Int32) (x6 : Int32) (x7 : Int32) (x8 : Int32) (σ : qS), k23 x1 x2 x3 x4 x5 x6 x7 x8 σ = some r0 → qAt p l e (qRm 0 0) s m ([.ref (ad 0 0), .int p1, .int p2, .int p3, .int p4] : List Value).toArray below meth c Q D (mL Y) (qT Y) A ad 10 0 0 23 [(0, .ref (ad 0 0)), (1, .int x1), (2, .int x2), (3, .int x3), (4, .int x4), (5, .int x5), (6, .int x6), (7, .int x7), (8, .int x8)] [] σ) (x1 : Int32) (x2 : Int32) (x3 : Int32) (x4 : Int32) (x5 : Int32) (x7 : Int32) (x8 : Int32) (σ : qS), fX9_childAt_133 F k10 k23 x1 x2 x3 x4 x5 x7 x8 σ = some r0 → qAt p l e (qRm 0 0) s m ([.ref (ad 0 0), .int p1, .int p2, .int p3, .int p4] : List Value).toArray below meth c Q D (mL Y) (qT Y) A ad 10 0 0 133 [(0, .ref (ad 0 0)), (1, .int x1), (2, .int x2), (3, .int x3), (4, .int x4), (5, .int x5), (7, .int x7), (8, .int x8)] [] σ := by
    clear hf hw hl ls
    intro k10 hk10 k23 hk23
    intro x1 x2 x3 x4 x5 x7 x8 σ hf H locs ls hw hl
    unfold fX9_childAt_133 at hf
    refine lv_iload S0.1 S0.2.1 dX9_childAt_133 (lv_at hl 7 rfl) ?_
    refine lv_goto (tgt := 140) S0.1 S0.2.1 dX9_childAt_135 (by decide) ?_
    exact b140 k10 hk10 k23 hk23 x1 x2 x3 x4 x5 x7 x8 x8 σ hf _ _ _ hw (lv_sub hl [0, 1, 2, 3, 4, 5, 6, 7] rfl)
  have b104 : ∀ (k10 : Int32 → Int32 → Int32 → Int32 → Int32 → Int32 → Int32 → qS → Option (Int32 × qS)) (hk10 : ∀ (x1 : Int32) (x2 : Int32) (x3 : Int32) (x4 : Int32) (x5 : Int32) (x6 : Int32) (x7 : Int32) (σ : qS), k10 x1 x2 x3 x4 x5 x6 x7 σ = some r0 → qAt p l e (qRm 0 0) s m ([.ref (ad 0 0), .int p1, .int p2, .int p3, .int p4] : List Value).toArray below meth c Q D (mL Y) (qT Y) A ad 10 0 0 10 [(0, .ref (ad 0 0)), (1, .int x1), (2, .int x2), (3, .int x3), (4, .int x4), (5, .int x5), (6, .int x6), (7, .int x7)] [] σ) (k23 : Int32 → Int32 → Int32 → Int32 → Int32 → Int32 → Int32 → Int32 → qS → Option (Int32 × qS)) (hk23 : ∀ (x1 : Int32) (x2 : Int32) (x3 : Int32) (x4 : Int32) (x5 : Int32) (x6 : Int32) (x7 : Int32) (x8 : Int32) (σ : qS), k23 x1 x2 x3 x4 x5 x6 x7 x8 σ = some r0 → qAt p l e (qRm 0 0) s m ([.ref (ad 0 0), .int p1, .int p2, .int p3, .int p4] : List Value).toArray below meth c Q D (mL Y) (qT Y) A ad 10 0 0 23 [(0, .ref (ad 0 0)), (1, .int x1), (2, .int x2), (3, .int x3), (4, .int x4), (5, .int x5), (6, .int x6), (7, .int x7), (8, .int x8)] [] σ) (x1 : Int32) (x2 : Int32) (x3 : Int32) (x4 : Int32) (x5 : Int32) (x6 : Int32) (x7 : Int32) (x8 : Int32) (t0 : Int32) (σ : qS), fX9_childAt_104 F k10 k23 x1 x2 x3 x4 x5 x6 x7 x8 t0 σ = some r0 → qAt p l e (qRm 0 0) s m ([.ref (ad 0 0), .int p1, .int p2, .int p3, .int p4] : List Value).toArray below meth c Q D (mL Y) (qT Y) A ad 10 0 0 104 [(0, .ref (ad 0 0)), (1, .int x1), (2, .int x2), (3, .int x3), (4, .int x4), (5, .int x5), (6, .int x6), (7, .int x7), (8, .int x8)] [.int t0] σ := by
    clear hf hw hl ls
    intro k10 hk10 k23 hk23
    intro x1 x2 x3 x4 x5 x6 x7 x8 t0 σ hf H locs ls hw hl
    unfold fX9_childAt_104 at hf
    refine lv_istore (lv' := [(9, .int t0), (0, .ref (ad 0 0)), (1, .int x1), (2, .int x2), (3, .int x3), (4, .int x4), (5, .int x5), (6, .int x6), (7, .int x7), (8, .int x8)]) S0.1 S0.2.1 dX9_childAt_104 hl (by decide) rfl (fun ls hl => ?_)
    refine lv_iload S0.1 S0.2.1 dX9_childAt_106 (lv_at hl 0 rfl) ?_
    refine lv_if_eq (tgt := 138) S0.1 S0.2.1 dX9_childAt_108 (by decide) (fun c11 => ?_) (fun c11 => ?_)
    · replace hf := q_pos c11 hf
      exact b138 k10 hk10 k23 hk23 x1 x2 x3 x4 x5 x6 x7 x8 σ hf _ _ _ hw (lv_sub hl [1, 2, 3, 4, 5, 6, 7, 8, 9] rfl)
    · replace hf := q_neg c11 hf
      refine lv_iload S0.1 S0.2.1 dX9_childAt_111 (lv_at hl 7 rfl) ?_
      refine lv_if_lt (tgt := 133) S0.1 S0.2.1 dX9_childAt_113 (by decide) (fun c13 => ?_) (fun c13 => ?_)
      · replace hf := q_pos c13 hf
        exact b133 k10 hk10 k23 hk23 x1 x2 x3 x4 x5 x7 x8 σ hf _ _ _ hw (lv_sub hl [1, 2, 3, 4, 5, 6, 8, 9] rfl)
      · replace hf := q_neg c13 hf
        refine lv_aload_n S0.1 S0.2.1 dX9_childAt_116 rfl (lv_at hl 1 rfl) ?_
        refine gX9_name S0 hw kw_1149 dX9_childAt_117 ?_
        refine lv_iload S0.1 S0.2.1 dX9_childAt_120 (lv_at hl 9 rfl) ?_
        refine q_iald S0 hw dM_101 (t0 := 0) rfl rfl dX9_childAt_122 hf (fun v14 hf => ?_)
        refine lv_aload_n S0.1 S0.2.1 dX9_childAt_123 rfl (lv_at hl 1 rfl) ?_
        refine gX9_name S0 hw kw_1149 dX9_childAt_124 ?_
        refine lv_iload S0.1 S0.2.1 dX9_childAt_127 (lv_at hl 7 rfl) ?_
        refine q_iald S0 hw dM_101 (t0 := 0) rfl rfl dX9_childAt_129 hf (fun v15 hf => ?_)
        refine lv_icmp_ge (tgt := 138) S0.1 S0.2.1 dX9_childAt_130 (by decide) (fun c16 => ?_) (fun c16 => ?_)
        · replace hf := q_pos c16 hf
          exact b138 k10 hk10 k23 hk23 x1 x2 x3 x4 x5 x6 x7 x8 σ hf _ _ _ hw (lv_sub hl [1, 2, 3, 4, 5, 6, 7, 8, 9] rfl)
        · replace hf := q_neg c16 hf
          exact b133 k10 hk10 k23 hk23 x1 x2 x3 x4 x5 x7 x8 σ hf _ _ _ hw (lv_sub hl [1, 2, 3, 4, 5, 6, 8, 9] rfl)
  have b103 : ∀ (k10 : Int32 → Int32 → Int32 → Int32 → Int32 → Int32 → Int32 → qS → Option (Int32 × qS)) (hk10 : ∀ (x1 : Int32) (x2 : Int32) (x3 : Int32) (x4 : Int32) (x5 : Int32) (x6 : Int32) (x7 : Int32) (σ : qS), k10 x1 x2 x3 x4 x5 x6 x7 σ = some r0 → qAt p l e (qRm 0 0) s m ([.ref (ad 0 0), .int p1, .int p2, .int p3, .int p4] : List Value).toArray below meth c Q D (mL Y) (qT Y) A ad 10 0 0 10 [(0, .ref (ad 0 0)), (1, .int x1), (2, .int x2), (3, .int x3), (4, .int x4), (5, .int x5), (6, .int x6), (7, .int x7)] [] σ) (k23 : Int32 → Int32 → Int32 → Int32 → Int32 → Int32 → Int32 → Int32 → qS → Option (Int32 × qS)) (hk23 : ∀ (x1 : Int32) (x2 : Int32) (x3 : Int32) (x4 : Int32) (x5 : Int32) (x6 : Int32) (x7 : Int32) (x8 : Int32) (σ : qS), k23 x1 x2 x3 x4 x5 x6 x7 x8 σ = some r0 → qAt p l e (qRm 0 0) s m ([.ref (ad 0 0), .int p1, .int p2, .int p3, .int p4] : List Value).toArray below meth c Q D (mL Y) (qT Y) A ad 10 0 0 23 [(0, .ref (ad 0 0)), (1, .int x1), (2, .int x2), (3, .int x3), (4, .int x4), (5, .int x5), (6, .int x6), (7, .int x7), (8, .int x8)] [] σ) (x1 : Int32) (x2 : Int32) (x3 : Int32) (x4 : Int32) (x5 : Int32) (x6 : Int32) (x7 : Int32) (x8 : Int32) (σ : qS), fX9_childAt_103 F k10 k23 x1 x2 x3 x4 x5 x6 x7 x8 σ = some r0 → qAt p l e (qRm 0 0) s m ([.ref (ad 0 0), .int p1, .int p2, .int p3, .int p4] : List Value).toArray below meth c Q D (mL Y) (qT Y) A ad 10 0 0 103 [(0, .ref (ad 0 0)), (1, .int x1), (2, .int x2), (3, .int x3), (4, .int x4), (5, .int x5), (6, .int x6), (7, .int x7), (8, .int x8)] [] σ := by
    clear hf hw hl ls
    intro k10 hk10 k23 hk23
    intro x1 x2 x3 x4 x5 x6 x7 x8 σ hf H locs ls hw hl
    unfold fX9_childAt_103 at hf
    refine lv_iconst (v := 0) S0.1 S0.2.1 dX9_childAt_103 (by decide) ?_
    exact b104 k10 hk10 k23 hk23 x1 x2 x3 x4 x5 x6 x7 x8 0 σ hf _ _ _ hw (lv_sub hl [0, 1, 2, 3, 4, 5, 6, 7, 8] rfl)
  have b99 : ∀ (k10 : Int32 → Int32 → Int32 → Int32 → Int32 → Int32 → Int32 → qS → Option (Int32 × qS)) (hk10 : ∀ (x1 : Int32) (x2 : Int32) (x3 : Int32) (x4 : Int32) (x5 : Int32) (x6 : Int32) (x7 : Int32) (σ : qS), k10 x1 x2 x3 x4 x5 x6 x7 σ = some r0 → qAt p l e (qRm 0 0) s m ([.ref (ad 0 0), .int p1, .int p2, .int p3, .int p4] : List Value).toArray below meth c Q D (mL Y) (qT Y) A ad 10 0 0 10 [(0, .ref (ad 0 0)), (1, .int x1), (2, .int x2), (3, .int x3), (4, .int x4), (5, .int x5), (6, .int x6), (7, .int x7)] [] σ) (k23 : Int32 → Int32 → Int32 → Int32 → Int32 → Int32 → Int32 → Int32 → qS → Option (Int32 × qS)) (hk23 : ∀ (x1 : Int32) (x2 : Int32) (x3 : Int32) (x4 : Int32) (x5 : Int32) (x6 : Int32) (x7 : Int32) (x8 : Int32) (σ : qS), k23 x1 x2 x3 x4 x5 x6 x7 x8 σ = some r0 → qAt p l e (qRm 0 0) s m ([.ref (ad 0 0), .int p1, .int p2, .int p3, .int p4] : List Value).toArray below meth c Q D (mL Y) (qT Y) A ad 10 0 0 23 [(0, .ref (ad 0 0)), (1, .int x1), (2, .int x2), (3, .int x3), (4, .int x4), (5, .int x5), (6, .int x6), (7, .int x7), (8, .int x8)] [] σ) (x1 : Int32) (x2 : Int32) (x3 : Int32) (x4 : Int32) (x5 : Int32) (x6 : Int32) (x7 : Int32) (x8 : Int32) (σ : qS), fX9_childAt_99 F k10 k23 x1 x2 x3 x4 x5 x6 x7 x8 σ = some r0 → qAt p l e (qRm 0 0) s m ([.ref (ad 0 0), .int p1, .int p2, .int p3, .int p4] : List Value).toArray below meth c Q D (mL Y) (qT Y) A ad 10 0 0 99 [(0, .ref (ad 0 0)), (1, .int x1), (2, .int x2), (3, .int x3), (4, .int x4), (5, .int x5), (6, .int x6), (7, .int x7), (8, .int x8)] [] σ := by
    clear hf hw hl ls
    intro k10 hk10 k23 hk23
    intro x1 x2 x3 x4 x5 x6 x7 x8 σ hf H locs ls hw hl
    unfold fX9_childAt_99 at hf
    refine lv_iconst (v := 1) S0.1 S0.2.1 dX9_childAt_99 (by decide) ?_
    refine lv_goto (tgt := 104) S0.1 S0.2.1 dX9_childAt_100 (by decide) ?_
    exact b104 k10 hk10 k23 hk23 x1 x2 x3 x4 x5 x6 x7 x8 1 σ hf _ _ _ hw (lv_sub hl [0, 1, 2, 3, 4, 5, 6, 7, 8] rfl)
  have b23 : ∀ (k10 : Int32 → Int32 → Int32 → Int32 → Int32 → Int32 → Int32 → qS → Option (Int32 × qS)) (hk10 : ∀ (x1 : Int32) (x2 : Int32) (x3 : Int32) (x4 : Int32) (x5 : Int32) (x6 : Int32) (x7 : Int32) (σ : qS), k10 x1 x2 x3 x4 x5 x6 x7 σ = some r0 → qAt p l e (qRm 0 0) s m ([.ref (ad 0 0), .int p1, .int p2, .int p3, .int p4] : List Value).toArray below meth c Q D (mL Y) (qT Y) A ad 10 0 0 10 [(0, .ref (ad 0 0)), (1, .int x1), (2, .int x2), (3, .int x3), (4, .int x4), (5, .int x5), (6, .int x6), (7, .int x7)] [] σ) (n : Nat) (x1 : Int32) (x2 : Int32) (x3 : Int32) (x4 : Int32) (x5 : Int32) (x6 : Int32) (x7 : Int32) (x8 : Int32) (σ : qS), fX9_childAt_23 F k10 n x1 x2 x3 x4 x5 x6 x7 x8 σ = some r0 → qAt p l e (qRm 0 0) s m ([.ref (ad 0 0), .int p1, .int p2, .int p3, .int p4] : List Value).toArray below meth c Q D (mL Y) (qT Y) A ad 10 0 0 23 [(0, .ref (ad 0 0)), (1, .int x1), (2, .int x2), (3, .int x3), (4, .int x4), (5, .int x5), (6, .int x6), (7, .int x7), (8, .int x8)] [] σ := by
    clear hf hw hl ls
    intro k10 hk10
    intro n
    induction n with
    | zero => intro x1 x2 x3 x4 x5 x6 x7 x8 σ hf; exact absurd hf (by rw [fX9_childAt_23]; exact nofun)
    | succ n hk23 =>
      intro x1 x2 x3 x4 x5 x6 x7 x8 σ hf H locs ls hw hl
      rw [fX9_childAt_23] at hf
      refine lv_iload S0.1 S0.2.1 dX9_childAt_23 (lv_at hl 8 rfl) ?_
      refine lv_aload_n S0.1 S0.2.1 dX9_childAt_25 rfl (lv_at hl 0 rfl) ?_
      refine gX9_nodes S0 hw kw_1155 dX9_childAt_26 hf (fun v2 hf => ?_)
      refine lv_icmp_ge (tgt := 148) S0.1 S0.2.1 dX9_childAt_29 (by decide) (fun c3 => ?_) (fun c3 => ?_)
      · replace hf := q_pos c3 hf
        refine lv_iload S0.1 S0.2.1 dX9_childAt_148 (lv_at hl 6 rfl) ?_
        refine lv_if_ge (tgt := 156) S0.1 S0.2.1 dX9_childAt_150 (by decide) (fun c4 => ?_) (fun c4 => ?_)
        · replace hf := q_pos c4 hf
          refine lv_aload_n S0.1 S0.2.1 dX9_childAt_156 rfl (lv_at hl 0 rfl) ?_
          refine gX9_name S0 hw kw_1149 dX9_childAt_157 ?_
          refine lv_iload S0.1 S0.2.1 dX9_childAt_160 (lv_at hl 6 rfl) ?_
          refine q_iald S0 hw dM_101 (t0 := 0) rfl rfl dX9_childAt_162 hf (fun v5 hf => ?_)
          refine lv_istore (lv' := [(5, .int v5), (0, .ref (ad 0 0)), (1, .int x1), (2, .int x2), (3, .int x3), (4, .int x4), (6, .int x6), (7, .int x7), (8, .int x8)]) S0.1 S0.2.1 dX9_childAt_163 hl (by decide) rfl (fun ls hl => ?_)
          refine q_iinc S0 (v0 := 1) dX9_childAt_165 hl (k := 7) rfl (by decide) (by decide) rfl hf (fun v6 ls hl hf => ?_)
          refine lv_goto (tgt := 10) S0.1 S0.2.1 dX9_childAt_168 (by decide) ?_
          exact hk10 x1 x2 x3 x4 v5 x6 v6 σ hf _ _ _ hw (lv_sub hl [2, 3, 4, 5, 6, 1, 7, 0] rfl)
        · replace hf := q_neg c4 hf
          refine lv_bipush (v := (-100)) S0.1 S0.2.1 dX9_childAt_153 (by decide) ?_
          exact hret dX9_childAt_155 hw hf
      · replace hf := q_neg c3 hf
        refine lv_aload_n S0.1 S0.2.1 dX9_childAt_32 rfl (lv_at hl 0 rfl) ?_
        refine gX9_is S0 hw kw_1156 dX9_childAt_33 ?_
        refine lv_bipush (v := 80) S0.1 S0.2.1 dX9_childAt_36 (by decide) ?_
        refine lv_iload_n S0.1 S0.2.1 dX9_childAt_38 rfl (lv_at hl 1 rfl) ?_
        refine lv_imul S0.1 S0.2.1 dX9_childAt_39 (q_top hf (fun v7 hf => ?_))
        refine lv_iload S0.1 S0.2.1 dX9_childAt_40 (lv_at hl 8 rfl) ?_
        refine lv_iadd S0.1 S0.2.1 dX9_childAt_42 (q_top hf (fun v8 hf => ?_))
        refine q_iald S0 hw dM_108 (t0 := 0) rfl rfl dX9_childAt_43 hf (fun v9 hf => ?_)
        refine lv_iconst (v := 1) S0.1 S0.2.1 dX9_childAt_44 (by decide) ?_
        refine lv_icmp_ne (tgt := 103) S0.1 S0.2.1 dX9_childAt_45 (by decide) (fun c10 => ?_) (fun c10 => ?_)
        · replace hf := q_neg c10 hf
          exact b103 k10 hk10 (fX9_childAt_23 F k10 n) hk23 x1 x2 x3 x4 x5 x6 x7 x8 σ hf _ _ _ hw (lv_sub hl [0, 1, 2, 3, 4, 5, 6, 7, 8] rfl)
        · replace hf := q_pos c10 hf
          refine lv_aload_n S0.1 S0.2.1 dX9_childAt_48 rfl (lv_at hl 0 rfl) ?_
          refine gX9_parent S0 hw kw_1148 dX9_childAt_49 ?_
          refine lv_iload S0.1 S0.2.1 dX9_childAt_52 (lv_at hl 8 rfl) ?_
          refine q_iald S0 hw dM_100 (t0 := 0) rfl rfl dX9_childAt_54 hf (fun v17 hf => ?_)
          refine lv_iload_n S0.1 S0.2.1 dX9_childAt_55 rfl (lv_at hl 2 rfl) ?_
          refine lv_icmp_ne (tgt := 103) S0.1 S0.2.1 dX9_childAt_56 (by decide) (fun c18 => ?_) (fun c18 => ?_)
          · replace hf := q_neg c18 hf
            exact b103 k10 hk10 (fX9_childAt_23 F k10 n) hk23 x1 x2 x3 x4 x5 x6 x7 x8 σ hf _ _ _ hw (lv_sub hl [0, 1, 2, 3, 4, 5, 6, 7, 8] rfl)
          · replace hf := q_pos c18 hf
            refine lv_aload_n S0.1 S0.2.1 dX9_childAt_59 rfl (lv_at hl 0 rfl) ?_
            refine gX9_name S0 hw kw_1149 dX9_childAt_60 ?_
            refine lv_iload S0.1 S0.2.1 dX9_childAt_63 (lv_at hl 8 rfl) ?_
            refine q_iald S0 hw dM_101 (t0 := 0) rfl rfl dX9_childAt_65 hf (fun v19 hf => ?_)
            refine lv_iload S0.1 S0.2.1 dX9_childAt_66 (lv_at hl 5 rfl) ?_
            refine lv_icmp_le (tgt := 103) S0.1 S0.2.1 dX9_childAt_68 (by decide) (fun c20 => ?_) (fun c20 => ?_)
            · replace hf := q_pos c20 hf
              exact b103 k10 hk10 (fX9_childAt_23 F k10 n) hk23 x1 x2 x3 x4 x5 x6 x7 x8 σ hf _ _ _ hw (lv_sub hl [0, 1, 2, 3, 4, 5, 6, 7, 8] rfl)
            · replace hf := q_neg c20 hf
              refine lv_iload S0.1 S0.2.1 dX9_childAt_71 (lv_at hl 4 rfl) ?_
              refine lv_if_lt (tgt := 99) S0.1 S0.2.1 dX9_childAt_73 (by decide) (fun c21 => ?_) (fun c21 => ?_)
              · replace hf := q_pos c21 hf
                exact b99 k10 hk10 (fX9_childAt_23 F k10 n) hk23 x1 x2 x3 x4 x5 x6 x7 x8 σ hf _ _ _ hw (lv_sub hl [0, 1, 2, 3, 4, 5, 6, 7, 8] rfl)
              · replace hf := q_neg c21 hf
                refine lv_aload_n S0.1 S0.2.1 dX9_childAt_76 rfl (lv_at hl 0 rfl) ?_
                refine gX9_kind S0 hw kw_1150 dX9_childAt_77 ?_
                refine lv_iload S0.1 S0.2.1 dX9_childAt_80 (lv_at hl 8 rfl) ?_
                refine q_iald S0 hw dM_102 (t0 := 0) rfl rfl dX9_childAt_82 hf (fun v22 hf => ?_)
                refine lv_iconst (v := 1) S0.1 S0.2.1 dX9_childAt_83 (by decide) ?_
                refine lv_icmp_ne (tgt := 103) S0.1 S0.2.1 dX9_childAt_84 (by decide) (fun c23 => ?_) (fun c23 => ?_)
                · replace hf := q_neg c23 hf
                  exact b103 k10 hk10 (fX9_childAt_23 F k10 n) hk23 x1 x2 x3 x4 x5 x6 x7 x8 σ hf _ _ _ hw (lv_sub hl [0, 1, 2, 3, 4, 5, 6, 7, 8] rfl)
                · replace hf := q_pos c23 hf
                  refine lv_aload_n S0.1 S0.2.1 dX9_childAt_87 rfl (lv_at hl 0 rfl) ?_
                  refine gX9_whose S0 hw kw_1151 dX9_childAt_88 ?_
                  refine lv_iload S0.1 S0.2.1 dX9_childAt_91 (lv_at hl 8 rfl) ?_
                  refine q_iald S0 hw dM_103 (t0 := 0) rfl rfl dX9_childAt_93 hf (fun v24 hf => ?_)
                  refine lv_iload S0.1 S0.2.1 dX9_childAt_94 (lv_at hl 4 rfl) ?_
                  refine lv_icmp_ne (tgt := 103) S0.1 S0.2.1 dX9_childAt_96 (by decide) (fun c25 => ?_) (fun c25 => ?_)
                  · replace hf := q_neg c25 hf
                    exact b103 k10 hk10 (fX9_childAt_23 F k10 n) hk23 x1 x2 x3 x4 x5 x6 x7 x8 σ hf _ _ _ hw (lv_sub hl [0, 1, 2, 3, 4, 5, 6, 7, 8] rfl)
                  · replace hf := q_pos c25 hf
                    exact b99 k10 hk10 (fX9_childAt_23 F k10 n) hk23 x1 x2 x3 x4 x5 x6 x7 x8 σ hf _ _ _ hw (lv_sub hl [0, 1, 2, 3, 4, 5, 6, 7, 8] rfl)
  have b10 : ∀ (n : Nat) (x1 : Int32) (x2 : Int32) (x3 : Int32) (x4 : Int32) (x5 : Int32) (x6 : Int32) (x7 : Int32) (σ : qS), fX9_childAt_10 F n x1 x2 x3 x4 x5 x6 x7 σ = some r0 → qAt p l e (qRm 0 0) s m ([.ref (ad 0 0), .int p1, .int p2, .int p3, .int p4] : List Value).toArray below meth c Q D (mL Y) (qT Y) A ad 10 0 0 10 [(0, .ref (ad 0 0)), (1, .int x1), (2, .int x2), (3, .int x3), (4, .int x4), (5, .int x5), (6, .int x6), (7, .int x7)] [] σ := by
    clear hf hw hl ls
    intro n
    induction n with
    | zero => intro x1 x2 x3 x4 x5 x6 x7 σ hf; exact absurd hf (by rw [fX9_childAt_10]; exact nofun)
    | succ n hk10 =>
      intro x1 x2 x3 x4 x5 x6 x7 σ hf H locs ls hw hl
      rw [fX9_childAt_10] at hf
      refine lv_iload S0.1 S0.2.1 dX9_childAt_10 (lv_at hl 7 rfl) ?_
      refine lv_iload_n S0.1 S0.2.1 dX9_childAt_12 rfl (lv_at hl 3 rfl) ?_
      refine lv_icmp_gt (tgt := 171) S0.1 S0.2.1 dX9_childAt_13 (by decide) (fun c1 => ?_) (fun c1 => ?_)
      · replace hf := q_pos c1 hf
        refine lv_iload S0.1 S0.2.1 dX9_childAt_171 (lv_at hl 6 rfl) ?_
        exact hret dX9_childAt_173 hw hf
      · replace hf := q_neg c1 hf
        refine lv_bipush (v := (-100)) S0.1 S0.2.1 dX9_childAt_16 (by decide) ?_
        refine lv_istore (lv' := [(6, .int ((-100))), (0, .ref (ad 0 0)), (1, .int x1), (2, .int x2), (3, .int x3), (4, .int x4), (5, .int x5), (7, .int x7)]) S0.1 S0.2.1 dX9_childAt_18 hl (by decide) rfl (fun ls hl => ?_)
        refine lv_iconst (v := 1) S0.1 S0.2.1 dX9_childAt_20 (by decide) ?_
        refine lv_istore (lv' := [(8, .int 1), (6, .int ((-100))), (0, .ref (ad 0 0)), (1, .int x1), (2, .int x2), (3, .int x3), (4, .int x4), (5, .int x5), (7, .int x7)]) S0.1 S0.2.1 dX9_childAt_21 hl (by decide) rfl (fun ls hl => ?_)
        exact b23 (fX9_childAt_10 F n) hk10 F x1 x2 x3 x4 x5 ((-100)) x7 1 σ hf _ _ _ hw (lv_sub hl [2, 3, 4, 5, 6, 7, 1, 8, 0] rfl)
  refine lv_iconst (v := (-1)) S0.1 S0.2.1 dX9_childAt_0 (by decide) ?_
  refine lv_istore (lv' := [(5, .int ((-1))), (0, .ref (ad 0 0)), (1, .int p1), (2, .int p2), (3, .int p3), (4, .int p4)]) S0.1 S0.2.1 dX9_childAt_1 hl (by decide) rfl (fun ls hl => ?_)
  refine lv_bipush (v := (-100)) S0.1 S0.2.1 dX9_childAt_3 (by decide) ?_
  refine lv_istore (lv' := [(6, .int ((-100))), (5, .int ((-1))), (0, .ref (ad 0 0)), (1, .int p1), (2, .int p2), (3, .int p3), (4, .int p4)]) S0.1 S0.2.1 dX9_childAt_5 hl (by decide) rfl (fun ls hl => ?_)
  refine lv_iconst (v := 0) S0.1 S0.2.1 dX9_childAt_7 (by decide) ?_
  refine lv_istore (lv' := [(7, .int 0), (6, .int ((-100))), (5, .int ((-1))), (0, .ref (ad 0 0)), (1, .int p1), (2, .int p2), (3, .int p3), (4, .int p4)]) S0.1 S0.2.1 dX9_childAt_8 hl (by decide) rfl (fun ls hl => ?_)
  exact b10 F p1 p2 p3 p4 ((-1)) ((-100)) 0 σ hf _ _ _ hw (lv_sub hl [3, 4, 5, 6, 7, 2, 1, 0] rfl)
def fX9_child_74 (F : Nat) (t0 : Int32) (σ : qS) : Option (Int32 × qS) :=
  some (t0, σ)
def fX9_child_30 (F : Nat) (x1 : Int32) (x2 : Int32) (x3 : Int32) (t1 : Int32) (σ : qS) : Option (Int32 × qS) :=
  bnd2 (fX9_holds F t1 σ) fun v5 s4 => (if v5 = 0 then (bnd (fX9_does F x1 s4) fun s7 => (bnd2 (fX9_sees F x1 x2 s7) fun v9 s8 => (if 0 ≤ v9 then (ldi 10 (s8.1 132 0) x1 fun v11 => (bnd2 (fX9_childAt F v11 x2 x3 ((-1)) s8) fun v13 s12 => (fX9_child_74 F v13 s12))) else (fX9_child_74 F v9 s8)))) else (some ((-1), s4)))
def fX9_child_13 (F : Nat) (x1 : Int32) (x2 : Int32) (x3 : Int32) (σ : qS) : Option (Int32 × qS) :=
  fX9_child_30 F x1 x2 x3 1 σ
def fX9_child (F : Nat) (p1 : Int32) (p2 : Int32) (p3 : Int32) (σ : qS) : Option (Int32 × qS) :=
  bnd2 (fX9_isSession F p1 σ) fun v2 s1 => (if v2 = 0 then (fX9_child_13 F p1 p2 p3 s1) else (if 0 ≤ p3 then (bnd2 (fX9_ended F p1 s1) fun v16 s15 => (if v16 = 0 then (fX9_child_30 F p1 p2 p3 0 s15) else (fX9_child_30 F p1 p2 p3 2 s15))) else (fX9_child_13 F p1 p2 p3 s1)))
set_option maxRecDepth 100000 in
set_option maxHeartbeats 4000000 in
theorem wX9_child (l : Launch) (D : va_G) (Y : Nat → ClassId) (ad : qAd) (F : Nat) (p1 : Int32) (p2 : Int32) (p3 : Int32) (σ : qS) : qCi l yX9_child cX9_child 5 (some .int) 3 68 D (mL Y) (qT Y) ad [.ref (ad 0 0), .int p1, .int p2, .int p3] σ (fX9_child F p1 p2 p3 σ) := by
  refine q_ofi (by decide) (Nat.le_of_ble_eq_true rfl) "LeasehallModel" rfl (fun p e s m below meth c A Q r0 S0 hf hw hret ls hl => ?_)
  replace hl : lv_has ls 5 [(0, .ref (ad 0 0)), (1, .int p1), (2, .int p2), (3, .int p3)] := hl
  unfold fX9_child at hf
  have b74 : ∀ (t0 : Int32) (σ : qS), fX9_child_74 F t0 σ = some r0 → qAt p l e (qRm 3 68) s m ([.ref (ad 0 0), .int p1, .int p2, .int p3] : List Value).toArray below meth c Q D (mL Y) (qT Y) A ad 5 0 0 74 [] [.int t0] σ := by
    clear hf hw hl ls
    intro t0 σ hf H locs ls hw hl
    unfold fX9_child_74 at hf
    exact hret dX9_child_74 hw hf
  have b30 : ∀ (x1 : Int32) (x2 : Int32) (x3 : Int32) (t1 : Int32) (σ : qS), fX9_child_30 F x1 x2 x3 t1 σ = some r0 → qAt p l e (qRm 3 68) s m ([.ref (ad 0 0), .int p1, .int p2, .int p3] : List Value).toArray below meth c Q D (mL Y) (qT Y) A ad 5 0 0 30 [(0, .ref (ad 0 0)), (1, .int x1), (2, .int x2), (3, .int x3)] [.int t1, .ref (ad 0 0)] σ := by
    clear hf hw hl ls
    intro x1 x2 x3 t1 σ hf H locs ls hw hl
    unfold fX9_child_30 at hf
    refine q_calli S0 hw (As := [.int t1]) (rest := []) (wX9_holds l D Y ad F t1 σ) qyX9_holds kw_1335 ⟨Nat.le_of_ble_eq_true rfl, Nat.le_of_ble_eq_true rfl⟩ dM_0 rfl rfl rfl rfl hl.1 (Nat.le_of_ble_eq_true rfl) dX9_child_30 ⟨Nat.le_refl _, Nat.le_refl _⟩ rfl hf (fun v5 s4 H locs hw hf => ?_)
    refine lv_if_eq (tgt := 38) S0.1 S0.2.1 dX9_child_33 (by decide) (fun c6 => ?_) (fun c6 => ?_)
    · replace hf := q_pos c6 hf
      refine lv_aload_n S0.1 S0.2.1 dX9_child_38 rfl (lv_at hl 0 rfl) ?_
      refine lv_iload_n S0.1 S0.2.1 dX9_child_39 rfl (lv_at hl 1 rfl) ?_
      refine q_callv S0 hw (As := [.int x1]) (rest := []) (wX9_does l D Y ad F x1 s4) qyX9_does kw_1415 ⟨Nat.le_of_ble_eq_true rfl, Nat.le_of_ble_eq_true rfl⟩ dM_0 rfl rfl rfl rfl hl.1 (Nat.le_of_ble_eq_true rfl) dX9_child_40 ⟨Nat.le_refl _, Nat.le_refl _⟩ rfl hf (fun s7 H locs hw hf => ?_)
      refine lv_aload_n S0.1 S0.2.1 dX9_child_43 rfl (lv_at hl 0 rfl) ?_
      refine lv_iload_n S0.1 S0.2.1 dX9_child_44 rfl (lv_at hl 1 rfl) ?_
      refine lv_iload_n S0.1 S0.2.1 dX9_child_45 rfl (lv_at hl 2 rfl) ?_
      refine q_calli S0 hw (As := [.int x1, .int x2]) (rest := []) (wX9_sees l D Y ad F x1 x2 s7) qyX9_sees kw_1547 ⟨Nat.le_of_ble_eq_true rfl, Nat.le_of_ble_eq_true rfl⟩ dM_0 rfl rfl rfl rfl hl.1 (Nat.le_of_ble_eq_true rfl) dX9_child_46 ⟨Nat.le_refl _, Nat.le_refl _⟩ rfl hf (fun v9 s8 H locs hw hf => ?_)
      refine lv_istore (lv' := [(4, .int v9), (0, .ref (ad 0 0)), (1, .int x1), (2, .int x2), (3, .int x3)]) S0.1 S0.2.1 dX9_child_49 hl (by decide) rfl (fun ls hl => ?_)
      refine lv_iload S0.1 S0.2.1 dX9_child_51 (lv_at hl 0 rfl) ?_
      refine lv_if_ge (tgt := 61) S0.1 S0.2.1 dX9_child_53 (by decide) (fun c10 => ?_) (fun c10 => ?_)
      · replace hf := q_pos c10 hf
        refine lv_aload_n S0.1 S0.2.1 dX9_child_61 rfl (lv_at hl 1 rfl) ?_
        refine lv_aload_n S0.1 S0.2.1 dX9_child_62 rfl (lv_at hl 1 rfl) ?_
        refine gX9_zs S0 hw kw_1180 dX9_child_63 ?_
        refine lv_iload_n S0.1 S0.2.1 dX9_child_66 rfl (lv_at hl 2 rfl) ?_
        refine q_iald S0 hw dM_132 (t0 := 0) rfl rfl dX9_child_67 hf (fun v11 hf => ?_)
        refine lv_iload_n S0.1 S0.2.1 dX9_child_68 rfl (lv_at hl 3 rfl) ?_
        refine lv_iload_n S0.1 S0.2.1 dX9_child_69 rfl (lv_at hl 4 rfl) ?_
        refine lv_iconst (v := (-1)) S0.1 S0.2.1 dX9_child_70 (by decide) ?_
        refine q_calli S0 hw (As := [.int v11, .int x2, .int x3, .int ((-1))]) (rest := []) (wX9_childAt l D Y ad F v11 x2 x3 ((-1)) s8) qyX9_childAt kw_1555 ⟨Nat.le_of_ble_eq_true rfl, Nat.le_of_ble_eq_true rfl⟩ dM_0 rfl rfl rfl rfl hl.1 (Nat.le_of_ble_eq_true rfl) dX9_child_71 ⟨Nat.le_refl _, Nat.le_refl _⟩ rfl hf (fun v13 s12 H locs hw hf => ?_)
        exact b74 v13 s12 hf _ _ _ hw (lv_sub hl [] rfl)
      · replace hf := q_neg c10 hf
        refine lv_iload S0.1 S0.2.1 dX9_child_56 (lv_at hl 0 rfl) ?_
        refine lv_goto (tgt := 74) S0.1 S0.2.1 dX9_child_58 (by decide) ?_
        exact b74 v9 s8 hf _ _ _ hw (lv_sub hl [] rfl)
    · replace hf := q_neg c6 hf
      refine lv_iconst (v := (-1)) S0.1 S0.2.1 dX9_child_36 (by decide) ?_
      exact hret dX9_child_37 hw hf
  have b13 : ∀ (x1 : Int32) (x2 : Int32) (x3 : Int32) (σ : qS), fX9_child_13 F x1 x2 x3 σ = some r0 → qAt p l e (qRm 3 68) s m ([.ref (ad 0 0), .int p1, .int p2, .int p3] : List Value).toArray below meth c Q D (mL Y) (qT Y) A ad 5 0 0 13 [(0, .ref (ad 0 0)), (1, .int x1), (2, .int x2), (3, .int x3)] [.ref (ad 0 0)] σ := by
    clear hf hw hl ls
    intro x1 x2 x3 σ hf H locs ls hw hl
    unfold fX9_child_13 at hf
    refine lv_iconst (v := 1) S0.1 S0.2.1 dX9_child_13 (by decide) ?_
    refine lv_goto (tgt := 30) S0.1 S0.2.1 dX9_child_14 (by decide) ?_
    exact b30 x1 x2 x3 1 σ hf _ _ _ hw (lv_sub hl [0, 1, 2, 3] rfl)
  refine lv_aload_n S0.1 S0.2.1 dX9_child_0 rfl (lv_at hl 0 rfl) ?_
  refine lv_aload_n S0.1 S0.2.1 dX9_child_1 rfl (lv_at hl 0 rfl) ?_
  refine lv_iload_n S0.1 S0.2.1 dX9_child_2 rfl (lv_at hl 1 rfl) ?_
  refine q_calli S0 hw (As := [.int p1]) (rest := [.ref (ad 0 0)]) (wX9_isSession l D Y ad F p1 σ) qyX9_isSession kw_1343 ⟨Nat.le_of_ble_eq_true rfl, Nat.le_of_ble_eq_true rfl⟩ dM_0 rfl rfl rfl rfl hl.1 (Nat.le_of_ble_eq_true rfl) dX9_child_3 ⟨Nat.le_refl _, Nat.le_refl _⟩ rfl hf (fun v2 s1 H locs hw hf => ?_)
  refine lv_if_eq (tgt := 13) S0.1 S0.2.1 dX9_child_6 (by decide) (fun c3 => ?_) (fun c3 => ?_)
  · replace hf := q_pos c3 hf
    exact b13 p1 p2 p3 s1 hf _ _ _ hw (lv_sub hl [0, 1, 2, 3] rfl)
  · replace hf := q_neg c3 hf
    refine lv_iload_n S0.1 S0.2.1 dX9_child_9 rfl (lv_at hl 3 rfl) ?_
    refine lv_if_ge (tgt := 17) S0.1 S0.2.1 dX9_child_10 (by decide) (fun c14 => ?_) (fun c14 => ?_)
    · replace hf := q_pos c14 hf
      refine lv_aload_n S0.1 S0.2.1 dX9_child_17 rfl (lv_at hl 0 rfl) ?_
      refine lv_iload_n S0.1 S0.2.1 dX9_child_18 rfl (lv_at hl 1 rfl) ?_
      refine q_calli S0 hw (As := [.int p1]) (rest := [.ref (ad 0 0)]) (wX9_ended l D Y ad F p1 s1) qyX9_ended kw_1347 ⟨Nat.le_of_ble_eq_true rfl, Nat.le_of_ble_eq_true rfl⟩ dM_0 rfl rfl rfl rfl hl.1 (Nat.le_of_ble_eq_true rfl) dX9_child_19 ⟨Nat.le_refl _, Nat.le_refl _⟩ rfl hf (fun v16 s15 H locs hw hf => ?_)
      refine lv_if_eq (tgt := 29) S0.1 S0.2.1 dX9_child_22 (by decide) (fun c17 => ?_) (fun c17 => ?_)
      · replace hf := q_pos c17 hf
        refine lv_iconst (v := 0) S0.1 S0.2.1 dX9_child_29 (by decide) ?_
        exact b30 p1 p2 p3 0 s15 hf _ _ _ hw (lv_sub hl [0, 1, 2, 3] rfl)
      · replace hf := q_neg c17 hf
        refine lv_iconst (v := 2) S0.1 S0.2.1 dX9_child_25 (by decide) ?_
        refine lv_goto (tgt := 30) S0.1 S0.2.1 dX9_child_26 (by decide) ?_
        exact b30 p1 p2 p3 2 s15 hf _ _ _ hw (lv_sub hl [0, 1, 2, 3] rfl)
    · replace hf := q_neg c14 hf
      exact b13 p1 p2 p3 s1 hf _ _ _ hw (lv_sub hl [0, 1, 2, 3] rfl)
def fX9_watch_51 (F : Nat) (x1 : Int32) (x2 : Int32) (x3 : Int32) (t1 : Int32) (σ : qS) : Option (Int32 × qS) :=
  bnd2 (fX9_holds F t1 σ) fun v11 s10 => (if v11 = 0 then (bnd (fX9_does F x1 s10) fun s13 => (bnd2 (fX9_sees F x1 x2 s13) fun v15 s14 => (if 0 ≤ v15 then (nm (8 * x1) fun v17 => (ldi 10 (s14.1 143 0) x1 fun v18 => (nm (v17 + v18) fun v19 => (inx 80 v19 (nm (qI s14 141 0 v19.toNatClampNeg x2) fun s20 => (nm (8 * x1) fun v21 => (ldi 10 (s20.1 143 0) x1 fun v22 => (nm (v21 + v22) fun v23 => (inx 80 v23 (nm (qI s20 142 0 v23.toNatClampNeg x3) fun s24 => (ldi 10 (s24.1 143 0) x1 fun v25 => (nm (v25 + 1) fun v26 => (inx 10 x1 (nm (qI s24 143 0 x1.toNatClampNeg v26) fun s27 => (ldi 10 (s27.1 143 0) x1 fun v28 => (some (v28, s27))))))))))))))))) else (some (v15, s14))))) else (some ((-1), s10)))
def fX9_watch_46 (F : Nat) (x1 : Int32) (x2 : Int32) (x3 : Int32) (σ : qS) : Option (Int32 × qS) :=
  fX9_watch_51 F x1 x2 x3 3 σ
def fX9_watch (F : Nat) (p1 : Int32) (p2 : Int32) (p3 : Int32) (σ : qS) : Option (Int32 × qS) :=
  bnd2 (fX9_isSession F p1 σ) fun v2 s1 => (if v2 = 0 then (fX9_watch_51 F p1 p2 p3 1 s1) else (bnd2 (fX9_in F p3 0 2 s1) fun v5 s4 => (if v5 = 0 then (fX9_watch_51 F p1 p2 p3 2 s4) else (bnd2 (fX9_ended F p1 s4) fun v8 s7 => (if v8 = 0 then (ldi 10 (s7.1 143 0) p1 fun v29 => (if v29 = 8 then (fX9_watch_46 F p1 p2 p3 s7) else (fX9_watch_51 F p1 p2 p3 0 s7))) else (fX9_watch_46 F p1 p2 p3 s7))))))
set_option maxRecDepth 100000 in
set_option maxHeartbeats 4000000 in
theorem wX9_watch (l : Launch) (D : va_G) (Y : Nat → ClassId) (ad : qAd) (F : Nat) (p1 : Int32) (p2 : Int32) (p3 : Int32) (σ : qS) : qCi l yX9_watch cX9_watch 5 (some .int) 3 68 D (mL Y) (qT Y) ad [.ref (ad 0 0), .int p1, .int p2, .int p3] σ (fX9_watch F p1 p2 p3 σ) := by
  refine q_ofi (by decide) (Nat.le_of_ble_eq_true rfl) "LeasehallModel" rfl (fun p e s m below meth c A Q r0 S0 hf hw hret ls hl => ?_)
  replace hl : lv_has ls 5 [(0, .ref (ad 0 0)), (1, .int p1), (2, .int p2), (3, .int p3)] := hl
  unfold fX9_watch at hf
  have b51 : ∀ (x1 : Int32) (x2 : Int32) (x3 : Int32) (t1 : Int32) (σ : qS), fX9_watch_51 F x1 x2 x3 t1 σ = some r0 → qAt p l e (qRm 3 68) s m ([.ref (ad 0 0), .int p1, .int p2, .int p3] : List Value).toArray below meth c Q D (mL Y) (qT Y) A ad 5 0 0 51 [(0, .ref (ad 0 0)), (1, .int x1), (2, .int x2), (3, .int x3)] [.int t1, .ref (ad 0 0)] σ := by
    clear hf hw hl ls
    intro x1 x2 x3 t1 σ hf H locs ls hw hl
    unfold fX9_watch_51 at hf
    refine q_calli S0 hw (As := [.int t1]) (rest := []) (wX9_holds l D Y ad F t1 σ) qyX9_holds kw_1335 ⟨Nat.le_of_ble_eq_true rfl, Nat.le_of_ble_eq_true rfl⟩ dM_0 rfl rfl rfl rfl hl.1 (Nat.le_of_ble_eq_true rfl) dX9_watch_51 ⟨Nat.le_refl _, Nat.le_refl _⟩ rfl hf (fun v11 s10 H locs hw hf => ?_)
    refine lv_if_eq (tgt := 59) S0.1 S0.2.1 dX9_watch_54 (by decide) (fun c12 => ?_) (fun c12 => ?_)
    · replace hf := q_pos c12 hf
      refine lv_aload_n S0.1 S0.2.1 dX9_watch_59 rfl (lv_at hl 0 rfl) ?_
      refine lv_iload_n S0.1 S0.2.1 dX9_watch_60 rfl (lv_at hl 1 rfl) ?_
      refine q_callv S0 hw (As := [.int x1]) (rest := []) (wX9_does l D Y ad F x1 s10) qyX9_does kw_1415 ⟨Nat.le_of_ble_eq_true rfl, Nat.le_of_ble_eq_true rfl⟩ dM_0 rfl rfl rfl rfl hl.1 (Nat.le_of_ble_eq_true rfl) dX9_watch_61 ⟨Nat.le_refl _, Nat.le_refl _⟩ rfl hf (fun s13 H locs hw hf => ?_)
      refine lv_aload_n S0.1 S0.2.1 dX9_watch_64 rfl (lv_at hl 0 rfl) ?_
      refine lv_iload_n S0.1 S0.2.1 dX9_watch_65 rfl (lv_at hl 1 rfl) ?_
      refine lv_iload_n S0.1 S0.2.1 dX9_watch_66 rfl (lv_at hl 2 rfl) ?_
      refine q_calli S0 hw (As := [.int x1, .int x2]) (rest := []) (wX9_sees l D Y ad F x1 x2 s13) qyX9_sees kw_1547 ⟨Nat.le_of_ble_eq_true rfl, Nat.le_of_ble_eq_true rfl⟩ dM_0 rfl rfl rfl rfl hl.1 (Nat.le_of_ble_eq_true rfl) dX9_watch_67 ⟨Nat.le_refl _, Nat.le_refl _⟩ rfl hf (fun v15 s14 H locs hw hf => ?_)
      refine lv_istore (lv' := [(4, .int v15), (0, .ref (ad 0 0)), (1, .int x1), (2, .int x2), (3, .int x3)]) S0.1 S0.2.1 dX9_watch_70 hl (by decide) rfl (fun ls hl => ?_)
      refine lv_iload S0.1 S0.2.1 dX9_watch_72 (lv_at hl 0 rfl) ?_
      refine lv_if_ge (tgt := 80) S0.1 S0.2.1 dX9_watch_74 (by decide) (fun c16 => ?_) (fun c16 => ?_)
      · replace hf := q_pos c16 hf
        refine lv_aload_n S0.1 S0.2.1 dX9_watch_80 rfl (lv_at hl 1 rfl) ?_
        refine gX9_wn S0 hw kw_1189 dX9_watch_81 ?_
        refine lv_bipush (v := 8) S0.1 S0.2.1 dX9_watch_84 (by decide) ?_
        refine lv_iload_n S0.1 S0.2.1 dX9_watch_86 rfl (lv_at hl 2 rfl) ?_
        refine lv_imul S0.1 S0.2.1 dX9_watch_87 (q_top hf (fun v17 hf => ?_))
        refine lv_aload_n S0.1 S0.2.1 dX9_watch_88 rfl (lv_at hl 1 rfl) ?_
        refine gX9_watches S0 hw kw_1191 dX9_watch_89 ?_
        refine lv_iload_n S0.1 S0.2.1 dX9_watch_92 rfl (lv_at hl 2 rfl) ?_
        refine q_iald S0 hw dM_143 (t0 := 0) rfl rfl dX9_watch_93 hf (fun v18 hf => ?_)
        refine lv_iadd S0.1 S0.2.1 dX9_watch_94 (q_top hf (fun v19 hf => ?_))
        refine lv_iload_n S0.1 S0.2.1 dX9_watch_95 rfl (lv_at hl 3 rfl) ?_
        refine q_iast S0 hw dM_141 (t0 := 0) (fun _ => rfl) rfl dX9_watch_96 hf (fun s20 H locs hw hf => ?_)
        refine lv_aload_n S0.1 S0.2.1 dX9_watch_97 rfl (lv_at hl 1 rfl) ?_
        refine gX9_wk S0 hw kw_1190 dX9_watch_98 ?_
        refine lv_bipush (v := 8) S0.1 S0.2.1 dX9_watch_101 (by decide) ?_
        refine lv_iload_n S0.1 S0.2.1 dX9_watch_103 rfl (lv_at hl 2 rfl) ?_
        refine lv_imul S0.1 S0.2.1 dX9_watch_104 (q_top hf (fun v21 hf => ?_))
        refine lv_aload_n S0.1 S0.2.1 dX9_watch_105 rfl (lv_at hl 1 rfl) ?_
        refine gX9_watches S0 hw kw_1191 dX9_watch_106 ?_
        refine lv_iload_n S0.1 S0.2.1 dX9_watch_109 rfl (lv_at hl 2 rfl) ?_
        refine q_iald S0 hw dM_143 (t0 := 0) rfl rfl dX9_watch_110 hf (fun v22 hf => ?_)
        refine lv_iadd S0.1 S0.2.1 dX9_watch_111 (q_top hf (fun v23 hf => ?_))
        refine lv_iload_n S0.1 S0.2.1 dX9_watch_112 rfl (lv_at hl 4 rfl) ?_
        refine q_iast S0 hw dM_142 (t0 := 0) (fun _ => rfl) rfl dX9_watch_113 hf (fun s24 H locs hw hf => ?_)
        refine lv_aload_n S0.1 S0.2.1 dX9_watch_114 rfl (lv_at hl 1 rfl) ?_
        refine gX9_watches S0 hw kw_1191 dX9_watch_115 ?_
        refine lv_iload_n S0.1 S0.2.1 dX9_watch_118 rfl (lv_at hl 2 rfl) ?_
        refine lv_dup2_11 S0.1 S0.2.1 dX9_watch_119 rfl rfl ?_
        refine q_iald S0 hw dM_143 (t0 := 0) rfl rfl dX9_watch_120 hf (fun v25 hf => ?_)
        refine lv_iconst (v := 1) S0.1 S0.2.1 dX9_watch_121 (by decide) ?_
        refine lv_iadd S0.1 S0.2.1 dX9_watch_122 (q_top hf (fun v26 hf => ?_))
        refine q_iast S0 hw dM_143 (t0 := 0) (fun _ => rfl) rfl dX9_watch_123 hf (fun s27 H locs hw hf => ?_)
        refine lv_aload_n S0.1 S0.2.1 dX9_watch_124 rfl (lv_at hl 1 rfl) ?_
        refine gX9_watches S0 hw kw_1191 dX9_watch_125 ?_
        refine lv_iload_n S0.1 S0.2.1 dX9_watch_128 rfl (lv_at hl 2 rfl) ?_
        refine q_iald S0 hw dM_143 (t0 := 0) rfl rfl dX9_watch_129 hf (fun v28 hf => ?_)
        exact hret dX9_watch_130 hw hf
      · replace hf := q_neg c16 hf
        refine lv_iload S0.1 S0.2.1 dX9_watch_77 (lv_at hl 0 rfl) ?_
        exact hret dX9_watch_79 hw hf
    · replace hf := q_neg c12 hf
      refine lv_iconst (v := (-1)) S0.1 S0.2.1 dX9_watch_57 (by decide) ?_
      exact hret dX9_watch_58 hw hf
  have b46 : ∀ (x1 : Int32) (x2 : Int32) (x3 : Int32) (σ : qS), fX9_watch_46 F x1 x2 x3 σ = some r0 → qAt p l e (qRm 3 68) s m ([.ref (ad 0 0), .int p1, .int p2, .int p3] : List Value).toArray below meth c Q D (mL Y) (qT Y) A ad 5 0 0 46 [(0, .ref (ad 0 0)), (1, .int x1), (2, .int x2), (3, .int x3)] [.ref (ad 0 0)] σ := by
    clear hf hw hl ls
    intro x1 x2 x3 σ hf H locs ls hw hl
    unfold fX9_watch_46 at hf
    refine lv_iconst (v := 3) S0.1 S0.2.1 dX9_watch_46 (by decide) ?_
    refine lv_goto (tgt := 51) S0.1 S0.2.1 dX9_watch_47 (by decide) ?_
    exact b51 x1 x2 x3 3 σ hf _ _ _ hw (lv_sub hl [0, 1, 2, 3] rfl)
  refine lv_aload_n S0.1 S0.2.1 dX9_watch_0 rfl (lv_at hl 0 rfl) ?_
  refine lv_aload_n S0.1 S0.2.1 dX9_watch_1 rfl (lv_at hl 0 rfl) ?_
  refine lv_iload_n S0.1 S0.2.1 dX9_watch_2 rfl (lv_at hl 1 rfl) ?_
  refine q_calli S0 hw (As := [.int p1]) (rest := [.ref (ad 0 0)]) (wX9_isSession l D Y ad F p1 σ) qyX9_isSession kw_1343 ⟨Nat.le_of_ble_eq_true rfl, Nat.le_of_ble_eq_true rfl⟩ dM_0 rfl rfl rfl rfl hl.1 (Nat.le_of_ble_eq_true rfl) dX9_watch_3 ⟨Nat.le_refl _, Nat.le_refl _⟩ rfl hf (fun v2 s1 H locs hw hf => ?_)
  refine lv_if_ne (tgt := 13) S0.1 S0.2.1 dX9_watch_6 (by decide) (fun c3 => ?_) (fun c3 => ?_)
  · replace hf := q_neg c3 hf
    refine lv_aload_n S0.1 S0.2.1 dX9_watch_13 rfl (lv_at hl 0 rfl) ?_
    refine lv_iload_n S0.1 S0.2.1 dX9_watch_14 rfl (lv_at hl 3 rfl) ?_
    refine lv_iconst (v := 0) S0.1 S0.2.1 dX9_watch_15 (by decide) ?_
    refine lv_iconst (v := 2) S0.1 S0.2.1 dX9_watch_16 (by decide) ?_
    refine q_calli S0 hw (As := [.int p3, .int 0, .int 2]) (rest := [.ref (ad 0 0)]) (wX9_in l D Y ad F p3 0 2 s1) qyX9_in kw_1331 ⟨Nat.le_of_ble_eq_true rfl, Nat.le_of_ble_eq_true rfl⟩ dM_0 rfl rfl rfl rfl hl.1 (Nat.le_of_ble_eq_true rfl) dX9_watch_17 ⟨Nat.le_refl _, Nat.le_refl _⟩ rfl hf (fun v5 s4 H locs hw hf => ?_)
    refine lv_if_ne (tgt := 27) S0.1 S0.2.1 dX9_watch_20 (by decide) (fun c6 => ?_) (fun c6 => ?_)
    · replace hf := q_neg c6 hf
      refine lv_aload_n S0.1 S0.2.1 dX9_watch_27 rfl (lv_at hl 0 rfl) ?_
      refine lv_iload_n S0.1 S0.2.1 dX9_watch_28 rfl (lv_at hl 1 rfl) ?_
      refine q_calli S0 hw (As := [.int p1]) (rest := [.ref (ad 0 0)]) (wX9_ended l D Y ad F p1 s4) qyX9_ended kw_1347 ⟨Nat.le_of_ble_eq_true rfl, Nat.le_of_ble_eq_true rfl⟩ dM_0 rfl rfl rfl rfl hl.1 (Nat.le_of_ble_eq_true rfl) dX9_watch_29 ⟨Nat.le_refl _, Nat.le_refl _⟩ rfl hf (fun v8 s7 H locs hw hf => ?_)
      refine lv_if_ne (tgt := 46) S0.1 S0.2.1 dX9_watch_32 (by decide) (fun c9 => ?_) (fun c9 => ?_)
      · replace hf := q_neg c9 hf
        exact b46 p1 p2 p3 s7 hf _ _ _ hw (lv_sub hl [0, 1, 2, 3] rfl)
      · replace hf := q_pos c9 hf
        refine lv_aload_n S0.1 S0.2.1 dX9_watch_35 rfl (lv_at hl 0 rfl) ?_
        refine gX9_watches S0 hw kw_1191 dX9_watch_36 ?_
        refine lv_iload_n S0.1 S0.2.1 dX9_watch_39 rfl (lv_at hl 1 rfl) ?_
        refine q_iald S0 hw dM_143 (t0 := 0) rfl rfl dX9_watch_40 hf (fun v29 hf => ?_)
        refine lv_bipush (v := 8) S0.1 S0.2.1 dX9_watch_41 (by decide) ?_
        refine lv_icmp_ne (tgt := 50) S0.1 S0.2.1 dX9_watch_43 (by decide) (fun c30 => ?_) (fun c30 => ?_)
        · replace hf := q_neg c30 hf
          refine lv_iconst (v := 0) S0.1 S0.2.1 dX9_watch_50 (by decide) ?_
          exact b51 p1 p2 p3 0 s7 hf _ _ _ hw (lv_sub hl [0, 1, 2, 3] rfl)
        · replace hf := q_pos c30 hf
          exact b46 p1 p2 p3 s7 hf _ _ _ hw (lv_sub hl [0, 1, 2, 3] rfl)
    · replace hf := q_pos c6 hf
      refine lv_iconst (v := 2) S0.1 S0.2.1 dX9_watch_23 (by decide) ?_
      refine lv_goto (tgt := 51) S0.1 S0.2.1 dX9_watch_24 (by decide) ?_
      exact b51 p1 p2 p3 2 s4 hf _ _ _ hw (lv_sub hl [0, 1, 2, 3] rfl)
  · replace hf := q_pos c3 hf
    refine lv_iconst (v := 1) S0.1 S0.2.1 dX9_watch_9 (by decide) ?_
    refine lv_goto (tgt := 51) S0.1 S0.2.1 dX9_watch_10 (by decide) ?_
    exact b51 p1 p2 p3 1 s1 hf _ _ _ hw (lv_sub hl [0, 1, 2, 3] rfl)
def fX9_hear_26 (F : Nat) (x1 : Int32) (t1 : Int32) (σ : qS) : Option (Int32 × qS) :=
  bnd2 (fX9_holds F t1 σ) fun v8 s7 => (if v8 = 0 then (bnd (fX9_does F x1 s7) fun s10 => (ldi 10 (s10.1 145 0) x1 fun v11 => (ldi 10 (s10.1 146 0) x1 fun v12 => (if v11 = v12 then (some ((-100), s10)) else (ldi 10 (s10.1 145 0) x1 fun v14 => (nm (v14 + 1) fun v15 => (inx 10 x1 (nm (qI s10 145 0 x1.toNatClampNeg v15) fun s16 => (nm (8000 * x1) fun v17 => (ldi 10 (s16.1 145 0) x1 fun v18 => (nm (v17 + v18) fun v19 => (nm (v19 - 1) fun v20 => (ldi 80000 (s16.1 144 0) v20 fun v21 => (some (v21, s16))))))))))))))) else (some ((-1), s7)))
def fX9_hear (F : Nat) (p1 : Int32) (σ : qS) : Option (Int32 × qS) :=
  bnd2 (fX9_isSession F p1 σ) fun v2 s1 => (if v2 = 0 then (fX9_hear_26 F p1 1 s1) else (bnd2 (fX9_ended F p1 s1) fun v5 s4 => (if v5 = 0 then (fX9_hear_26 F p1 0 s4) else (fX9_hear_26 F p1 2 s4))))
set_option maxRecDepth 100000 in
set_option maxHeartbeats 4000000 in
theorem wX9_hear (l : Launch) (D : va_G) (Y : Nat → ClassId) (ad : qAd) (F : Nat) (p1 : Int32) (σ : qS) : qCi l yX9_hear cX9_hear 2 (some .int) 2 44 D (mL Y) (qT Y) ad [.ref (ad 0 0), .int p1] σ (fX9_hear F p1 σ) := by
  refine q_ofi (by decide) (Nat.le_of_ble_eq_true rfl) "LeasehallModel" rfl (fun p e s m below meth c A Q r0 S0 hf hw hret ls hl => ?_)
  replace hl : lv_has ls 2 [(0, .ref (ad 0 0)), (1, .int p1)] := hl
  unfold fX9_hear at hf
  have b26 : ∀ (x1 : Int32) (t1 : Int32) (σ : qS), fX9_hear_26 F x1 t1 σ = some r0 → qAt p l e (qRm 2 44) s m ([.ref (ad 0 0), .int p1] : List Value).toArray below meth c Q D (mL Y) (qT Y) A ad 2 0 0 26 [(0, .ref (ad 0 0)), (1, .int x1)] [.int t1, .ref (ad 0 0)] σ := by
    clear hf hw hl ls
    intro x1 t1 σ hf H locs ls hw hl
    unfold fX9_hear_26 at hf
    refine q_calli S0 hw (As := [.int t1]) (rest := []) (wX9_holds l D Y ad F t1 σ) qyX9_holds kw_1335 ⟨Nat.le_of_ble_eq_true rfl, Nat.le_of_ble_eq_true rfl⟩ dM_0 rfl rfl rfl rfl hl.1 (Nat.le_of_ble_eq_true rfl) dX9_hear_26 ⟨Nat.le_refl _, Nat.le_refl _⟩ rfl hf (fun v8 s7 H locs hw hf => ?_)
    refine lv_if_eq (tgt := 34) S0.1 S0.2.1 dX9_hear_29 (by decide) (fun c9 => ?_) (fun c9 => ?_)
    · replace hf := q_pos c9 hf
      refine lv_aload_n S0.1 S0.2.1 dX9_hear_34 rfl (lv_at hl 0 rfl) ?_
      refine lv_iload_n S0.1 S0.2.1 dX9_hear_35 rfl (lv_at hl 1 rfl) ?_
      refine q_callv S0 hw (As := [.int x1]) (rest := []) (wX9_does l D Y ad F x1 s7) qyX9_does kw_1415 ⟨Nat.le_of_ble_eq_true rfl, Nat.le_of_ble_eq_true rfl⟩ dM_0 rfl rfl rfl rfl hl.1 (Nat.le_of_ble_eq_true rfl) dX9_hear_36 ⟨Nat.le_refl _, Nat.le_refl _⟩ rfl hf (fun s10 H locs hw hf => ?_)
      refine lv_aload_n S0.1 S0.2.1 dX9_hear_39 rfl (lv_at hl 0 rfl) ?_
      refine gX9_heard S0 hw kw_1193 dX9_hear_40 ?_
      refine lv_iload_n S0.1 S0.2.1 dX9_hear_43 rfl (lv_at hl 1 rfl) ?_
      refine q_iald S0 hw dM_145 (t0 := 0) rfl rfl dX9_hear_44 hf (fun v11 hf => ?_)
      refine lv_aload_n S0.1 S0.2.1 dX9_hear_45 rfl (lv_at hl 0 rfl) ?_
      refine gX9_tells S0 hw kw_1194 dX9_hear_46 ?_
      refine lv_iload_n S0.1 S0.2.1 dX9_hear_49 rfl (lv_at hl 1 rfl) ?_
      refine q_iald S0 hw dM_146 (t0 := 0) rfl rfl dX9_hear_50 hf (fun v12 hf => ?_)
      refine lv_icmp_ne (tgt := 57) S0.1 S0.2.1 dX9_hear_51 (by decide) (fun c13 => ?_) (fun c13 => ?_)
      · replace hf := q_neg c13 hf
        refine lv_aload_n S0.1 S0.2.1 dX9_hear_57 rfl (lv_at hl 0 rfl) ?_
        refine gX9_heard S0 hw kw_1193 dX9_hear_58 ?_
        refine lv_iload_n S0.1 S0.2.1 dX9_hear_61 rfl (lv_at hl 1 rfl) ?_
        refine lv_dup2_11 S0.1 S0.2.1 dX9_hear_62 rfl rfl ?_
        refine q_iald S0 hw dM_145 (t0 := 0) rfl rfl dX9_hear_63 hf (fun v14 hf => ?_)
        refine lv_iconst (v := 1) S0.1 S0.2.1 dX9_hear_64 (by decide) ?_
        refine lv_iadd S0.1 S0.2.1 dX9_hear_65 (q_top hf (fun v15 hf => ?_))
        refine q_iast S0 hw dM_145 (t0 := 0) (fun _ => rfl) rfl dX9_hear_66 hf (fun s16 H locs hw hf => ?_)
        refine lv_aload_n S0.1 S0.2.1 dX9_hear_67 rfl (lv_at hl 0 rfl) ?_
        refine gX9_told S0 hw kw_1192 dX9_hear_68 ?_
        refine lv_sipush (v := 8000) S0.1 S0.2.1 dX9_hear_71 (by decide) ?_
        refine lv_iload_n S0.1 S0.2.1 dX9_hear_74 rfl (lv_at hl 1 rfl) ?_
        refine lv_imul S0.1 S0.2.1 dX9_hear_75 (q_top hf (fun v17 hf => ?_))
        refine lv_aload_n S0.1 S0.2.1 dX9_hear_76 rfl (lv_at hl 0 rfl) ?_
        refine gX9_heard S0 hw kw_1193 dX9_hear_77 ?_
        refine lv_iload_n S0.1 S0.2.1 dX9_hear_80 rfl (lv_at hl 1 rfl) ?_
        refine q_iald S0 hw dM_145 (t0 := 0) rfl rfl dX9_hear_81 hf (fun v18 hf => ?_)
        refine lv_iadd S0.1 S0.2.1 dX9_hear_82 (q_top hf (fun v19 hf => ?_))
        refine lv_iconst (v := 1) S0.1 S0.2.1 dX9_hear_83 (by decide) ?_
        refine lv_isub S0.1 S0.2.1 dX9_hear_84 (q_top hf (fun v20 hf => ?_))
        refine q_iald S0 hw dM_144 (t0 := 0) rfl rfl dX9_hear_85 hf (fun v21 hf => ?_)
        exact hret dX9_hear_86 hw hf
      · replace hf := q_pos c13 hf
        refine lv_bipush (v := (-100)) S0.1 S0.2.1 dX9_hear_54 (by decide) ?_
        exact hret dX9_hear_56 hw hf
    · replace hf := q_neg c9 hf
      refine lv_iconst (v := (-1)) S0.1 S0.2.1 dX9_hear_32 (by decide) ?_
      exact hret dX9_hear_33 hw hf
  refine lv_aload_n S0.1 S0.2.1 dX9_hear_0 rfl (lv_at hl 0 rfl) ?_
  refine lv_aload_n S0.1 S0.2.1 dX9_hear_1 rfl (lv_at hl 0 rfl) ?_
  refine lv_iload_n S0.1 S0.2.1 dX9_hear_2 rfl (lv_at hl 1 rfl) ?_
  refine q_calli S0 hw (As := [.int p1]) (rest := [.ref (ad 0 0)]) (wX9_isSession l D Y ad F p1 σ) qyX9_isSession kw_1343 ⟨Nat.le_of_ble_eq_true rfl, Nat.le_of_ble_eq_true rfl⟩ dM_0 rfl rfl rfl rfl hl.1 (Nat.le_of_ble_eq_true rfl) dX9_hear_3 ⟨Nat.le_refl _, Nat.le_refl _⟩ rfl hf (fun v2 s1 H locs hw hf => ?_)
  refine lv_if_ne (tgt := 13) S0.1 S0.2.1 dX9_hear_6 (by decide) (fun c3 => ?_) (fun c3 => ?_)
  · replace hf := q_neg c3 hf
    refine lv_aload_n S0.1 S0.2.1 dX9_hear_13 rfl (lv_at hl 0 rfl) ?_
    refine lv_iload_n S0.1 S0.2.1 dX9_hear_14 rfl (lv_at hl 1 rfl) ?_
    refine q_calli S0 hw (As := [.int p1]) (rest := [.ref (ad 0 0)]) (wX9_ended l D Y ad F p1 s1) qyX9_ended kw_1347 ⟨Nat.le_of_ble_eq_true rfl, Nat.le_of_ble_eq_true rfl⟩ dM_0 rfl rfl rfl rfl hl.1 (Nat.le_of_ble_eq_true rfl) dX9_hear_15 ⟨Nat.le_refl _, Nat.le_refl _⟩ rfl hf (fun v5 s4 H locs hw hf => ?_)
    refine lv_if_eq (tgt := 25) S0.1 S0.2.1 dX9_hear_18 (by decide) (fun c6 => ?_) (fun c6 => ?_)
    · replace hf := q_pos c6 hf
      refine lv_iconst (v := 0) S0.1 S0.2.1 dX9_hear_25 (by decide) ?_
      exact b26 p1 0 s4 hf _ _ _ hw (lv_sub hl [0, 1] rfl)
    · replace hf := q_neg c6 hf
      refine lv_iconst (v := 2) S0.1 S0.2.1 dX9_hear_21 (by decide) ?_
      refine lv_goto (tgt := 26) S0.1 S0.2.1 dX9_hear_22 (by decide) ?_
      exact b26 p1 2 s4 hf _ _ _ hw (lv_sub hl [0, 1] rfl)
  · replace hf := q_pos c3 hf
    refine lv_iconst (v := 1) S0.1 S0.2.1 dX9_hear_9 (by decide) ?_
    refine lv_goto (tgt := 26) S0.1 S0.2.1 dX9_hear_10 (by decide) ?_
    exact b26 p1 1 s1 hf _ _ _ hw (lv_sub hl [0, 1] rfl)

def fX9_want_66 (F : Nat) (t0 : Int32) (σ : qS) : Option (Int32 × qS) :=
  some (t0, σ)
def fX9_want_61 (F : Nat) (t1 : Int32) (t2 : Int32) (t3 : Int32) (t4 : Int32) (t5 : Int32) (t6 : Int32) (σ : qS) : Option (Int32 × qS) :=
  bnd2 (fX9_act F t1 t2 t3 t4 t5 t6 1 ((-1)) σ) fun v12 s11 => (fX9_want_66 F v12 s11)
def fX9_want_36 (F : Nat) (x1 : Int32) (x2 : Int32) (x3 : Int32) (t1 : Int32) (σ : qS) : Option (Int32 × qS) :=
  bnd2 (fX9_holds F t1 σ) fun v8 s7 => (if v8 = 0 then (if x3 = 0 then (fX9_want_61 F x1 0 x2 0 1 0 s7) else (fX9_want_61 F x1 0 x2 0 1 1 s7)) else (fX9_want_66 F ((-1)) s7))
def fX9_want_31 (F : Nat) (x1 : Int32) (x2 : Int32) (x3 : Int32) (σ : qS) : Option (Int32 × qS) :=
  fX9_want_36 F x1 x2 x3 2 σ
def fX9_want (F : Nat) (p1 : Int32) (p2 : Int32) (p3 : Int32) (σ : qS) : Option (Int32 × qS) :=
  bnd2 (fX9_isSession F p1 σ) fun v2 s1 => (if v2 = 0 then (fX9_want_36 F p1 p2 p3 1 s1) else (bnd2 (fX9_ended F p1 s1) fun v5 s4 => (if v5 = 0 then (ldi 10 (s4.1 136 0) p1 fun v13 => (if v13 = 1 then (fX9_want_31 F p1 p2 p3 s4) else (fX9_want_36 F p1 p2 p3 0 s4))) else (fX9_want_31 F p1 p2 p3 s4))))
set_option maxRecDepth 100000 in
set_option maxHeartbeats 4000000 in
theorem wX9_want (l : Launch) (D : va_G) (Y : Nat → ClassId) (ad : qAd) (F : Nat) (p1 : Int32) (p2 : Int32) (p3 : Int32) (σ : qS) : qCi l yX9_want cX9_want 4 (some .int) 7 168 D (mL Y) (qT Y) ad [.ref (ad 0 0), .int p1, .int p2, .int p3] σ (fX9_want F p1 p2 p3 σ) := by
  refine q_ofi (by decide) (Nat.le_of_ble_eq_true rfl) "LeasehallModel" rfl (fun p e s m below meth c A Q r0 S0 hf hw hret ls hl => ?_)
  replace hl : lv_has ls 4 [(0, .ref (ad 0 0)), (1, .int p1), (2, .int p2), (3, .int p3)] := hl
  unfold fX9_want at hf
  have b66 : ∀ (t0 : Int32) (σ : qS), fX9_want_66 F t0 σ = some r0 → qAt p l e (qRm 7 168) s m ([.ref (ad 0 0), .int p1, .int p2, .int p3] : List Value).toArray below meth c Q D (mL Y) (qT Y) A ad 4 0 0 66 [] [.int t0] σ := by
    clear hf hw hl ls
    intro t0 σ hf H locs ls hw hl
    unfold fX9_want_66 at hf
    exact hret dX9_want_66 hw hf
  have b61 : ∀ (t1 : Int32) (t2 : Int32) (t3 : Int32) (t4 : Int32) (t5 : Int32) (t6 : Int32) (σ : qS), fX9_want_61 F t1 t2 t3 t4 t5 t6 σ = some r0 → qAt p l e (qRm 7 168) s m ([.ref (ad 0 0), .int p1, .int p2, .int p3] : List Value).toArray below meth c Q D (mL Y) (qT Y) A ad 4 0 0 61 [] [.int t6, .int t5, .int t4, .int t3, .int t2, .int t1, .ref (ad 0 0)] σ := by
    clear hf hw hl ls
    intro t1 t2 t3 t4 t5 t6 σ hf H locs ls hw hl
    unfold fX9_want_61 at hf
    refine lv_iconst (v := 1) S0.1 S0.2.1 dX9_want_61 (by decide) ?_
    refine lv_iconst (v := (-1)) S0.1 S0.2.1 dX9_want_62 (by decide) ?_
    refine q_calli S0 hw (As := [.int t1, .int t2, .int t3, .int t4, .int t5, .int t6, .int 1, .int ((-1))]) (rest := []) (wX9_act l D Y ad F t1 t2 t3 t4 t5 t6 1 ((-1)) σ) qyX9_act kw_1451 ⟨Nat.le_of_ble_eq_true rfl, Nat.le_of_ble_eq_true rfl⟩ dM_0 rfl rfl rfl rfl hl.1 (Nat.le_of_ble_eq_true rfl) dX9_want_63 ⟨Nat.le_refl _, Nat.le_refl _⟩ rfl hf (fun v12 s11 H locs hw hf => ?_)
    exact b66 v12 s11 hf _ _ _ hw (lv_sub hl [] rfl)
  have b36 : ∀ (x1 : Int32) (x2 : Int32) (x3 : Int32) (t1 : Int32) (σ : qS), fX9_want_36 F x1 x2 x3 t1 σ = some r0 → qAt p l e (qRm 7 168) s m ([.ref (ad 0 0), .int p1, .int p2, .int p3] : List Value).toArray below meth c Q D (mL Y) (qT Y) A ad 4 0 0 36 [(0, .ref (ad 0 0)), (1, .int x1), (2, .int x2), (3, .int x3)] [.int t1, .ref (ad 0 0)] σ := by
    clear hf hw hl ls
    intro x1 x2 x3 t1 σ hf H locs ls hw hl
    unfold fX9_want_36 at hf
    refine q_calli S0 hw (As := [.int t1]) (rest := []) (wX9_holds l D Y ad F t1 σ) qyX9_holds kw_1335 ⟨Nat.le_of_ble_eq_true rfl, Nat.le_of_ble_eq_true rfl⟩ dM_0 rfl rfl rfl rfl hl.1 (Nat.le_of_ble_eq_true rfl) dX9_want_36 ⟨Nat.le_refl _, Nat.le_refl _⟩ rfl hf (fun v8 s7 H locs hw hf => ?_)
    refine lv_if_eq (tgt := 46) S0.1 S0.2.1 dX9_want_39 (by decide) (fun c9 => ?_) (fun c9 => ?_)
    · replace hf := q_pos c9 hf
      refine lv_aload_n S0.1 S0.2.1 dX9_want_46 rfl (lv_at hl 0 rfl) ?_
      refine lv_iload_n S0.1 S0.2.1 dX9_want_47 rfl (lv_at hl 1 rfl) ?_
      refine lv_iconst (v := 0) S0.1 S0.2.1 dX9_want_48 (by decide) ?_
      refine lv_iload_n S0.1 S0.2.1 dX9_want_49 rfl (lv_at hl 2 rfl) ?_
      refine lv_iconst (v := 0) S0.1 S0.2.1 dX9_want_50 (by decide) ?_
      refine lv_iconst (v := 1) S0.1 S0.2.1 dX9_want_51 (by decide) ?_
      refine lv_iload_n S0.1 S0.2.1 dX9_want_52 rfl (lv_at hl 3 rfl) ?_
      refine lv_if_eq (tgt := 60) S0.1 S0.2.1 dX9_want_53 (by decide) (fun c10 => ?_) (fun c10 => ?_)
      · replace hf := q_pos c10 hf
        refine lv_iconst (v := 0) S0.1 S0.2.1 dX9_want_60 (by decide) ?_
        exact b61 x1 0 x2 0 1 0 s7 hf _ _ _ hw (lv_sub hl [] rfl)
      · replace hf := q_neg c10 hf
        refine lv_iconst (v := 1) S0.1 S0.2.1 dX9_want_56 (by decide) ?_
        refine lv_goto (tgt := 61) S0.1 S0.2.1 dX9_want_57 (by decide) ?_
        exact b61 x1 0 x2 0 1 1 s7 hf _ _ _ hw (lv_sub hl [] rfl)
    · replace hf := q_neg c9 hf
      refine lv_iconst (v := (-1)) S0.1 S0.2.1 dX9_want_42 (by decide) ?_
      refine lv_goto (tgt := 66) S0.1 S0.2.1 dX9_want_43 (by decide) ?_
      exact b66 ((-1)) s7 hf _ _ _ hw (lv_sub hl [] rfl)
  have b31 : ∀ (x1 : Int32) (x2 : Int32) (x3 : Int32) (σ : qS), fX9_want_31 F x1 x2 x3 σ = some r0 → qAt p l e (qRm 7 168) s m ([.ref (ad 0 0), .int p1, .int p2, .int p3] : List Value).toArray below meth c Q D (mL Y) (qT Y) A ad 4 0 0 31 [(0, .ref (ad 0 0)), (1, .int x1), (2, .int x2), (3, .int x3)] [.ref (ad 0 0)] σ := by
    clear hf hw hl ls
    intro x1 x2 x3 σ hf H locs ls hw hl
    unfold fX9_want_31 at hf
    refine lv_iconst (v := 2) S0.1 S0.2.1 dX9_want_31 (by decide) ?_
    refine lv_goto (tgt := 36) S0.1 S0.2.1 dX9_want_32 (by decide) ?_
    exact b36 x1 x2 x3 2 σ hf _ _ _ hw (lv_sub hl [0, 1, 2, 3] rfl)
  refine lv_aload_n S0.1 S0.2.1 dX9_want_0 rfl (lv_at hl 0 rfl) ?_
  refine lv_aload_n S0.1 S0.2.1 dX9_want_1 rfl (lv_at hl 0 rfl) ?_
  refine lv_iload_n S0.1 S0.2.1 dX9_want_2 rfl (lv_at hl 1 rfl) ?_
  refine q_calli S0 hw (As := [.int p1]) (rest := [.ref (ad 0 0)]) (wX9_isSession l D Y ad F p1 σ) qyX9_isSession kw_1343 ⟨Nat.le_of_ble_eq_true rfl, Nat.le_of_ble_eq_true rfl⟩ dM_0 rfl rfl rfl rfl hl.1 (Nat.le_of_ble_eq_true rfl) dX9_want_3 ⟨Nat.le_refl _, Nat.le_refl _⟩ rfl hf (fun v2 s1 H locs hw hf => ?_)
  refine lv_if_ne (tgt := 13) S0.1 S0.2.1 dX9_want_6 (by decide) (fun c3 => ?_) (fun c3 => ?_)
  · replace hf := q_neg c3 hf
    refine lv_aload_n S0.1 S0.2.1 dX9_want_13 rfl (lv_at hl 0 rfl) ?_
    refine lv_iload_n S0.1 S0.2.1 dX9_want_14 rfl (lv_at hl 1 rfl) ?_
    refine q_calli S0 hw (As := [.int p1]) (rest := [.ref (ad 0 0)]) (wX9_ended l D Y ad F p1 s1) qyX9_ended kw_1347 ⟨Nat.le_of_ble_eq_true rfl, Nat.le_of_ble_eq_true rfl⟩ dM_0 rfl rfl rfl rfl hl.1 (Nat.le_of_ble_eq_true rfl) dX9_want_15 ⟨Nat.le_refl _, Nat.le_refl _⟩ rfl hf (fun v5 s4 H locs hw hf => ?_)
    refine lv_if_ne (tgt := 31) S0.1 S0.2.1 dX9_want_18 (by decide) (fun c6 => ?_) (fun c6 => ?_)
    · replace hf := q_neg c6 hf
      exact b31 p1 p2 p3 s4 hf _ _ _ hw (lv_sub hl [0, 1, 2, 3] rfl)
    · replace hf := q_pos c6 hf
      refine lv_aload_n S0.1 S0.2.1 dX9_want_21 rfl (lv_at hl 0 rfl) ?_
      refine gX9_zg S0 hw kw_1184 dX9_want_22 ?_
      refine lv_iload_n S0.1 S0.2.1 dX9_want_25 rfl (lv_at hl 1 rfl) ?_
      refine q_iald S0 hw dM_136 (t0 := 0) rfl rfl dX9_want_26 hf (fun v13 hf => ?_)
      refine lv_iconst (v := 1) S0.1 S0.2.1 dX9_want_27 (by decide) ?_
      refine lv_icmp_ne (tgt := 35) S0.1 S0.2.1 dX9_want_28 (by decide) (fun c14 => ?_) (fun c14 => ?_)
      · replace hf := q_neg c14 hf
        refine lv_iconst (v := 0) S0.1 S0.2.1 dX9_want_35 (by decide) ?_
        exact b36 p1 p2 p3 0 s4 hf _ _ _ hw (lv_sub hl [0, 1, 2, 3] rfl)
      · replace hf := q_pos c14 hf
        exact b31 p1 p2 p3 s4 hf _ _ _ hw (lv_sub hl [0, 1, 2, 3] rfl)
  · replace hf := q_pos c3 hf
    refine lv_iconst (v := 1) S0.1 S0.2.1 dX9_want_9 (by decide) ?_
    refine lv_goto (tgt := 36) S0.1 S0.2.1 dX9_want_10 (by decide) ?_
    exact b36 p1 p2 p3 1 s1 hf _ _ _ hw (lv_sub hl [0, 1, 2, 3] rfl)
def fX9_has_248 (F : Nat) (t0 : Int32) (σ : qS) : Option (Int32 × qS) :=
  some (t0, σ)
def fX9_has_231 (F : Nat) (x4 : Int32) (x5 : Int32) (σ : qS) : Option (Int32 × qS) :=
  if x5 = 0 then (fX9_has_248 F ((-100)) σ) else (ldi 80 (σ.1 104 0) x4 fun v22 => (fX9_has_248 F v22 σ))
def fX9_has_230 (F : Nat) (x4 : Int32) (x5 : Int32) (t1 : Int32) (t2 : Int32) (σ : qS) : Option (Int32 × qS) :=
  inx 800 t1 (nm (qI σ 147 0 t1.toNatClampNeg t2) fun s26 => (fX9_has_231 F x4 x5 s26))
def fX9_has_199 (F : Nat) (x1 : Int32) (x2 : Int32) (x4 : Int32) (x5 : Int32) (σ : qS) : Option (Int32 × qS) :=
  bnd2 (fX9_in F x2 0 79 σ) fun v19 s18 => (if v19 = 0 then (fX9_has_231 F x4 x5 s18) else (nm (80 * x1) fun v23 => (nm (v23 + x2) fun v24 => (if x5 = 0 then (fX9_has_230 F x4 x5 v24 0 s18) else (fX9_has_230 F x4 x5 v24 1 s18)))))
def fX9_has_191 (F : Nat) (k85 : Int32 → Int32 → Int32 → Int32 → Int32 → Int32 → qS → Option (Int32 × qS)) (x1 : Int32) (x2 : Int32) (x3 : Int32) (x4 : Int32) (x6 : Int32) (t0 : Int32) (σ : qS) : Option (Int32 × qS) :=
  nm (x6 + 1) fun v33 => (k85 x1 x2 x3 x4 t0 v33 σ)
def fX9_has_186 (F : Nat) (k85 : Int32 → Int32 → Int32 → Int32 → Int32 → Int32 → qS → Option (Int32 × qS)) (x1 : Int32) (x2 : Int32) (x3 : Int32) (x4 : Int32) (x6 : Int32) (σ : qS) : Option (Int32 × qS) :=
  fX9_has_191 F k85 x1 x2 x3 x4 x6 1 σ
def fX9_has_190 (F : Nat) (k85 : Int32 → Int32 → Int32 → Int32 → Int32 → Int32 → qS → Option (Int32 × qS)) (x1 : Int32) (x2 : Int32) (x3 : Int32) (x4 : Int32) (x6 : Int32) (σ : qS) : Option (Int32 × qS) :=
  fX9_has_191 F k85 x1 x2 x3 x4 x6 0 σ
def fX9_has_148 (F : Nat) (k85 : Int32 → Int32 → Int32 → Int32 → Int32 → Int32 → qS → Option (Int32 × qS)) (x1 : Int32) (x2 : Int32) (x3 : Int32) (x4 : Int32) (x6 : Int32) (t0 : Int32) (σ : qS) : Option (Int32 × qS) :=
  if t0 = 0 then (fX9_has_186 F k85 x1 x2 x3 x4 x6 σ) else (nm (80 * x3) fun v34 => (nm (v34 + x4) fun v35 => (ldi 400 (σ.1 109 0) v35 fun v36 => (if v36 = 1 then (nm (80 * x3) fun v38 => (nm (v38 + x6) fun v39 => (ldi 400 (σ.1 109 0) v39 fun v40 => (if v40 = 0 then (fX9_has_190 F k85 x1 x2 x3 x4 x6 σ) else (fX9_has_186 F k85 x1 x2 x3 x4 x6 σ))))) else (fX9_has_190 F k85 x1 x2 x3 x4 x6 σ)))))
def fX9_has_147 (F : Nat) (k85 : Int32 → Int32 → Int32 → Int32 → Int32 → Int32 → qS → Option (Int32 × qS)) (x1 : Int32) (x2 : Int32) (x3 : Int32) (x4 : Int32) (x6 : Int32) (σ : qS) : Option (Int32 × qS) :=
  fX9_has_148 F k85 x1 x2 x3 x4 x6 0 σ
def fX9_has_85 (F : Nat) : Nat → Int32 → Int32 → Int32 → Int32 → Int32 → Int32 → qS → Option (Int32 × qS)
  | 0, _, _, _, _, _, _, _ => none
  | n + 1, x1, x2, x3, x4, x5, x6, σ =>
  nm (σ.1 0 0 7) fun v16 => (if v16 ≤ x6 then (fX9_has_199 F x1 x2 x4 x5 σ) else (if x5 = 0 then (fX9_has_199 F x1 x2 x4 x5 σ) else (nm (80 * x3) fun v28 => (nm (v28 + x6) fun v29 => (ldi 400 (σ.1 108 0) v29 fun v30 => (if v30 = 1 then (ldi 80 (σ.1 100 0) x6 fun v42 => (if v42 = x2 then (ldi 80 (σ.1 101 0) x6 fun v44 => (ldi 80 (σ.1 101 0) x4 fun v45 => (if v45 ≤ v44 then (fX9_has_147 F (fX9_has_85 F n) x1 x2 x3 x4 x6 σ) else (fX9_has_148 F (fX9_has_85 F n) x1 x2 x3 x4 x6 1 σ)))) else (fX9_has_147 F (fX9_has_85 F n) x1 x2 x3 x4 x6 σ))) else (fX9_has_147 F (fX9_has_85 F n) x1 x2 x3 x4 x6 σ)))))))
def fX9_has_80 (F : Nat) (x1 : Int32) (x2 : Int32) (x3 : Int32) (x4 : Int32) (t0 : Int32) (σ : qS) : Option (Int32 × qS) :=
  fX9_has_85 F F x1 x2 x3 x4 t0 1 σ
def fX9_has_68 (F : Nat) (x1 : Int32) (x2 : Int32) (x3 : Int32) (t0 : Int32) (σ : qS) : Option (Int32 × qS) :=
  if t0 < 0 then (fX9_has_80 F x1 x2 x3 t0 0 σ) else (fX9_has_80 F x1 x2 x3 t0 1 σ)
def fX9_has_26 (F : Nat) (x1 : Int32) (x2 : Int32) (t1 : Int32) (σ : qS) : Option (Int32 × qS) :=
  bnd2 (fX9_holds F t1 σ) fun v8 s7 => (if v8 = 0 then (bnd (fX9_does F x1 s7) fun s10 => (ldi 10 (s10.1 132 0) x1 fun v11 => (bnd2 (fX9_isThere F v11 x2 s10) fun v13 s12 => (if v13 = 0 then (fX9_has_68 F x1 x2 v11 ((-100)) s12) else (bnd2 (fX9_childAt F v11 x2 0 x1 s12) fun v48 s47 => (fX9_has_68 F x1 x2 v11 v48 s47)))))) else (some ((-1), s7)))
def fX9_has (F : Nat) (p1 : Int32) (p2 : Int32) (σ : qS) : Option (Int32 × qS) :=
  bnd2 (fX9_isSession F p1 σ) fun v2 s1 => (if v2 = 0 then (fX9_has_26 F p1 p2 1 s1) else (bnd2 (fX9_ended F p1 s1) fun v5 s4 => (if v5 = 0 then (fX9_has_26 F p1 p2 0 s4) else (fX9_has_26 F p1 p2 2 s4))))
set_option maxRecDepth 100000 in
set_option maxHeartbeats 4000000 in
theorem wX9_has (l : Launch) (D : va_G) (Y : Nat → ClassId) (ad : qAd) (F : Nat) (p1 : Int32) (p2 : Int32) (σ : qS) : qCi l yX9_has cX9_has 8 (some .int) 2 45 D (mL Y) (qT Y) ad [.ref (ad 0 0), .int p1, .int p2] σ (fX9_has F p1 p2 σ) := by
  refine q_ofi (by decide) (Nat.le_of_ble_eq_true rfl) "LeasehallModel" rfl (fun p e s m below meth c A Q r0 S0 hf hw hret ls hl => ?_)
  replace hl : lv_has ls 8 [(0, .ref (ad 0 0)), (1, .int p1), (2, .int p2)] := hl
  unfold fX9_has at hf
  have b248 : ∀ (t0 : Int32) (σ : qS), fX9_has_248 F t0 σ = some r0 → qAt p l e (qRm 2 45) s m ([.ref (ad 0 0), .int p1, .int p2] : List Value).toArray below meth c Q D (mL Y) (qT Y) A ad 8 0 0 248 [] [.int t0] σ := by
    clear hf hw hl ls
    intro t0 σ hf H locs ls hw hl
    unfold fX9_has_248 at hf
    exact hret dX9_has_248 hw hf
  have b231 : ∀ (x4 : Int32) (x5 : Int32) (σ : qS), fX9_has_231 F x4 x5 σ = some r0 → qAt p l e (qRm 2 45) s m ([.ref (ad 0 0), .int p1, .int p2] : List Value).toArray below meth c Q D (mL Y) (qT Y) A ad 8 0 0 231 [(0, .ref (ad 0 0)), (4, .int x4), (5, .int x5)] [] σ := by
    clear hf hw hl ls
    intro x4 x5 σ hf H locs ls hw hl
    unfold fX9_has_231 at hf
    refine lv_iload S0.1 S0.2.1 dX9_has_231 (lv_at hl 2 rfl) ?_
    refine lv_if_eq (tgt := 246) S0.1 S0.2.1 dX9_has_233 (by decide) (fun c21 => ?_) (fun c21 => ?_)
    · replace hf := q_pos c21 hf
      refine lv_bipush (v := (-100)) S0.1 S0.2.1 dX9_has_246 (by decide) ?_
      exact b248 ((-100)) σ hf _ _ _ hw (lv_sub hl [] rfl)
    · replace hf := q_neg c21 hf
      refine lv_aload_n S0.1 S0.2.1 dX9_has_236 rfl (lv_at hl 0 rfl) ?_
      refine gX9_born S0 hw kw_1152 dX9_has_237 ?_
      refine lv_iload S0.1 S0.2.1 dX9_has_240 (lv_at hl 1 rfl) ?_
      refine q_iald S0 hw dM_104 (t0 := 0) rfl rfl dX9_has_242 hf (fun v22 hf => ?_)
      refine lv_goto (tgt := 248) S0.1 S0.2.1 dX9_has_243 (by decide) ?_
      exact b248 v22 σ hf _ _ _ hw (lv_sub hl [] rfl)
  have b230 : ∀ (x4 : Int32) (x5 : Int32) (t1 : Int32) (t2 : Int32) (σ : qS), fX9_has_230 F x4 x5 t1 t2 σ = some r0 → qAt p l e (qRm 2 45) s m ([.ref (ad 0 0), .int p1, .int p2] : List Value).toArray below meth c Q D (mL Y) (qT Y) A ad 8 0 0 230 [(0, .ref (ad 0 0)), (4, .int x4), (5, .int x5)] [.int t2, .int t1, .ref (ad 147 0)] σ := by
    clear hf hw hl ls
    intro x4 x5 t1 t2 σ hf H locs ls hw hl
    unfold fX9_has_230 at hf
    refine q_iast S0 hw dM_147 (t0 := 0) (fun _ => rfl) rfl dX9_has_230 hf (fun s26 H locs hw hf => ?_)
    exact b231 x4 x5 s26 hf _ _ _ hw (lv_sub hl [0, 1, 2] rfl)
  have b199 : ∀ (x1 : Int32) (x2 : Int32) (x4 : Int32) (x5 : Int32) (σ : qS), fX9_has_199 F x1 x2 x4 x5 σ = some r0 → qAt p l e (qRm 2 45) s m ([.ref (ad 0 0), .int p1, .int p2] : List Value).toArray below meth c Q D (mL Y) (qT Y) A ad 8 0 0 199 [(0, .ref (ad 0 0)), (1, .int x1), (2, .int x2), (4, .int x4), (5, .int x5)] [] σ := by
    clear hf hw hl ls
    intro x1 x2 x4 x5 σ hf H locs ls hw hl
    unfold fX9_has_199 at hf
    refine lv_aload_n S0.1 S0.2.1 dX9_has_199 rfl (lv_at hl 0 rfl) ?_
    refine lv_iload_n S0.1 S0.2.1 dX9_has_200 rfl (lv_at hl 2 rfl) ?_
    refine lv_iconst (v := 0) S0.1 S0.2.1 dX9_has_201 (by decide) ?_
    refine lv_bipush (v := 79) S0.1 S0.2.1 dX9_has_202 (by decide) ?_
    refine q_calli S0 hw (As := [.int x2, .int 0, .int 79]) (rest := []) (wX9_in l D Y ad F x2 0 79 σ) qyX9_in kw_1331 ⟨Nat.le_of_ble_eq_true rfl, Nat.le_of_ble_eq_true rfl⟩ dM_0 rfl rfl rfl rfl hl.1 (Nat.le_of_ble_eq_true rfl) dX9_has_204 ⟨Nat.le_refl _, Nat.le_refl _⟩ rfl hf (fun v19 s18 H locs hw hf => ?_)
    refine lv_if_eq (tgt := 231) S0.1 S0.2.1 dX9_has_207 (by decide) (fun c20 => ?_) (fun c20 => ?_)
    · replace hf := q_pos c20 hf
      exact b231 x4 x5 s18 hf _ _ _ hw (lv_sub hl [0, 3, 4] rfl)
    · replace hf := q_neg c20 hf
      refine lv_aload_n S0.1 S0.2.1 dX9_has_210 rfl (lv_at hl 0 rfl) ?_
      refine gX9_believes S0 hw kw_1195 dX9_has_211 ?_
      refine lv_bipush (v := 80) S0.1 S0.2.1 dX9_has_214 (by decide) ?_
      refine lv_iload_n S0.1 S0.2.1 dX9_has_216 rfl (lv_at hl 1 rfl) ?_
      refine lv_imul S0.1 S0.2.1 dX9_has_217 (q_top hf (fun v23 hf => ?_))
      refine lv_iload_n S0.1 S0.2.1 dX9_has_218 rfl (lv_at hl 2 rfl) ?_
      refine lv_iadd S0.1 S0.2.1 dX9_has_219 (q_top hf (fun v24 hf => ?_))
      refine lv_iload S0.1 S0.2.1 dX9_has_220 (lv_at hl 4 rfl) ?_
      refine lv_if_eq (tgt := 229) S0.1 S0.2.1 dX9_has_222 (by decide) (fun c25 => ?_) (fun c25 => ?_)
      · replace hf := q_pos c25 hf
        refine lv_iconst (v := 0) S0.1 S0.2.1 dX9_has_229 (by decide) ?_
        exact b230 x4 x5 v24 0 s18 hf _ _ _ hw (lv_sub hl [0, 3, 4] rfl)
      · replace hf := q_neg c25 hf
        refine lv_iconst (v := 1) S0.1 S0.2.1 dX9_has_225 (by decide) ?_
        refine lv_goto (tgt := 230) S0.1 S0.2.1 dX9_has_226 (by decide) ?_
        exact b230 x4 x5 v24 1 s18 hf _ _ _ hw (lv_sub hl [0, 3, 4] rfl)
  have b191 : ∀ (k85 : Int32 → Int32 → Int32 → Int32 → Int32 → Int32 → qS → Option (Int32 × qS)) (hk85 : ∀ (x1 : Int32) (x2 : Int32) (x3 : Int32) (x4 : Int32) (x5 : Int32) (x6 : Int32) (σ : qS), k85 x1 x2 x3 x4 x5 x6 σ = some r0 → qAt p l e (qRm 2 45) s m ([.ref (ad 0 0), .int p1, .int p2] : List Value).toArray below meth c Q D (mL Y) (qT Y) A ad 8 0 0 85 [(0, .ref (ad 0 0)), (1, .int x1), (2, .int x2), (3, .int x3), (4, .int x4), (5, .int x5), (6, .int x6)] [] σ) (x1 : Int32) (x2 : Int32) (x3 : Int32) (x4 : Int32) (x6 : Int32) (t0 : Int32) (σ : qS), fX9_has_191 F k85 x1 x2 x3 x4 x6 t0 σ = some r0 → qAt p l e (qRm 2 45) s m ([.ref (ad 0 0), .int p1, .int p2] : List Value).toArray below meth c Q D (mL Y) (qT Y) A ad 8 0 0 191 [(0, .ref (ad 0 0)), (1, .int x1), (2, .int x2), (3, .int x3), (4, .int x4), (6, .int x6)] [.int t0] σ := by
    clear hf hw hl ls
    intro k85 hk85
    intro x1 x2 x3 x4 x6 t0 σ hf H locs ls hw hl
    unfold fX9_has_191 at hf
    refine lv_istore (lv' := [(5, .int t0), (0, .ref (ad 0 0)), (1, .int x1), (2, .int x2), (3, .int x3), (4, .int x4), (6, .int x6)]) S0.1 S0.2.1 dX9_has_191 hl (by decide) rfl (fun ls hl => ?_)
    refine q_iinc S0 (v0 := 1) dX9_has_193 hl (k := 6) rfl (by decide) (by decide) rfl hf (fun v33 ls hl hf => ?_)
    refine lv_goto (tgt := 85) S0.1 S0.2.1 dX9_has_196 (by decide) ?_
    exact hk85 x1 x2 x3 x4 t0 v33 σ hf _ _ _ hw (lv_sub hl [2, 3, 4, 5, 6, 1, 0] rfl)
  have b186 : ∀ (k85 : Int32 → Int32 → Int32 → Int32 → Int32 → Int32 → qS → Option (Int32 × qS)) (hk85 : ∀ (x1 : Int32) (x2 : Int32) (x3 : Int32) (x4 : Int32) (x5 : Int32) (x6 : Int32) (σ : qS), k85 x1 x2 x3 x4 x5 x6 σ = some r0 → qAt p l e (qRm 2 45) s m ([.ref (ad 0 0), .int p1, .int p2] : List Value).toArray below meth c Q D (mL Y) (qT Y) A ad 8 0 0 85 [(0, .ref (ad 0 0)), (1, .int x1), (2, .int x2), (3, .int x3), (4, .int x4), (5, .int x5), (6, .int x6)] [] σ) (x1 : Int32) (x2 : Int32) (x3 : Int32) (x4 : Int32) (x6 : Int32) (σ : qS), fX9_has_186 F k85 x1 x2 x3 x4 x6 σ = some r0 → qAt p l e (qRm 2 45) s m ([.ref (ad 0 0), .int p1, .int p2] : List Value).toArray below meth c Q D (mL Y) (qT Y) A ad 8 0 0 186 [(0, .ref (ad 0 0)), (1, .int x1), (2, .int x2), (3, .int x3), (4, .int x4), (6, .int x6)] [] σ := by
    clear hf hw hl ls
    intro k85 hk85
    intro x1 x2 x3 x4 x6 σ hf H locs ls hw hl
    unfold fX9_has_186 at hf
    refine lv_iconst (v := 1) S0.1 S0.2.1 dX9_has_186 (by decide) ?_
    refine lv_goto (tgt := 191) S0.1 S0.2.1 dX9_has_187 (by decide) ?_
    exact b191 k85 hk85 x1 x2 x3 x4 x6 1 σ hf _ _ _ hw (lv_sub hl [0, 1, 2, 3, 4, 5] rfl)
  have b190 : ∀ (k85 : Int32 → Int32 → Int32 → Int32 → Int32 → Int32 → qS → Option (Int32 × qS)) (hk85 : ∀ (x1 : Int32) (x2 : Int32) (x3 : Int32) (x4 : Int32) (x5 : Int32) (x6 : Int32) (σ : qS), k85 x1 x2 x3 x4 x5 x6 σ = some r0 → qAt p l e (qRm 2 45) s m ([.ref (ad 0 0), .int p1, .int p2] : List Value).toArray below meth c Q D (mL Y) (qT Y) A ad 8 0 0 85 [(0, .ref (ad 0 0)), (1, .int x1), (2, .int x2), (3, .int x3), (4, .int x4), (5, .int x5), (6, .int x6)] [] σ) (x1 : Int32) (x2 : Int32) (x3 : Int32) (x4 : Int32) (x6 : Int32) (σ : qS), fX9_has_190 F k85 x1 x2 x3 x4 x6 σ = some r0 → qAt p l e (qRm 2 45) s m ([.ref (ad 0 0), .int p1, .int p2] : List Value).toArray below meth c Q D (mL Y) (qT Y) A ad 8 0 0 190 [(0, .ref (ad 0 0)), (1, .int x1), (2, .int x2), (3, .int x3), (4, .int x4), (6, .int x6)] [] σ := by
    clear hf hw hl ls
    intro k85 hk85
    intro x1 x2 x3 x4 x6 σ hf H locs ls hw hl
    unfold fX9_has_190 at hf
    refine lv_iconst (v := 0) S0.1 S0.2.1 dX9_has_190 (by decide) ?_
    exact b191 k85 hk85 x1 x2 x3 x4 x6 0 σ hf _ _ _ hw (lv_sub hl [0, 1, 2, 3, 4, 5] rfl)
  have b148 : ∀ (k85 : Int32 → Int32 → Int32 → Int32 → Int32 → Int32 → qS → Option (Int32 × qS)) (hk85 : ∀ (x1 : Int32) (x2 : Int32) (x3 : Int32) (x4 : Int32) (x5 : Int32) (x6 : Int32) (σ : qS), k85 x1 x2 x3 x4 x5 x6 σ = some r0 → qAt p l e (qRm 2 45) s m ([.ref (ad 0 0), .int p1, .int p2] : List Value).toArray below meth c Q D (mL Y) (qT Y) A ad 8 0 0 85 [(0, .ref (ad 0 0)), (1, .int x1), (2, .int x2), (3, .int x3), (4, .int x4), (5, .int x5), (6, .int x6)] [] σ) (x1 : Int32) (x2 : Int32) (x3 : Int32) (x4 : Int32) (x6 : Int32) (t0 : Int32) (σ : qS), fX9_has_148 F k85 x1 x2 x3 x4 x6 t0 σ = some r0 → qAt p l e (qRm 2 45) s m ([.ref (ad 0 0), .int p1, .int p2] : List Value).toArray below meth c Q D (mL Y) (qT Y) A ad 8 0 0 148 [(0, .ref (ad 0 0)), (1, .int x1), (2, .int x2), (3, .int x3), (4, .int x4), (6, .int x6)] [.int t0] σ := by
    clear hf hw hl ls
    intro k85 hk85
    intro x1 x2 x3 x4 x6 t0 σ hf H locs ls hw hl
    unfold fX9_has_148 at hf
    refine lv_istore (lv' := [(7, .int t0), (0, .ref (ad 0 0)), (1, .int x1), (2, .int x2), (3, .int x3), (4, .int x4), (6, .int x6)]) S0.1 S0.2.1 dX9_has_148 hl (by decide) rfl (fun ls hl => ?_)
    refine lv_iload S0.1 S0.2.1 dX9_has_150 (lv_at hl 0 rfl) ?_
    refine lv_if_eq (tgt := 186) S0.1 S0.2.1 dX9_has_152 (by decide) (fun c32 => ?_) (fun c32 => ?_)
    · replace hf := q_pos c32 hf
      exact b186 k85 hk85 x1 x2 x3 x4 x6 σ hf _ _ _ hw (lv_sub hl [1, 2, 3, 4, 5, 6] rfl)
    · replace hf := q_neg c32 hf
      refine lv_aload_n S0.1 S0.2.1 dX9_has_155 rfl (lv_at hl 1 rfl) ?_
      refine gX9_val S0 hw kw_1157 dX9_has_156 ?_
      refine lv_bipush (v := 80) S0.1 S0.2.1 dX9_has_159 (by decide) ?_
      refine lv_iload_n S0.1 S0.2.1 dX9_has_161 rfl (lv_at hl 4 rfl) ?_
      refine lv_imul S0.1 S0.2.1 dX9_has_162 (q_top hf (fun v34 hf => ?_))
      refine lv_iload S0.1 S0.2.1 dX9_has_163 (lv_at hl 5 rfl) ?_
      refine lv_iadd S0.1 S0.2.1 dX9_has_165 (q_top hf (fun v35 hf => ?_))
      refine q_iald S0 hw dM_109 (t0 := 0) rfl rfl dX9_has_166 hf (fun v36 hf => ?_)
      refine lv_iconst (v := 1) S0.1 S0.2.1 dX9_has_167 (by decide) ?_
      refine lv_icmp_ne (tgt := 190) S0.1 S0.2.1 dX9_has_168 (by decide) (fun c37 => ?_) (fun c37 => ?_)
      · replace hf := q_neg c37 hf
        exact b190 k85 hk85 x1 x2 x3 x4 x6 σ hf _ _ _ hw (lv_sub hl [1, 2, 3, 4, 5, 6] rfl)
      · replace hf := q_pos c37 hf
        refine lv_aload_n S0.1 S0.2.1 dX9_has_171 rfl (lv_at hl 1 rfl) ?_
        refine gX9_val S0 hw kw_1157 dX9_has_172 ?_
        refine lv_bipush (v := 80) S0.1 S0.2.1 dX9_has_175 (by decide) ?_
        refine lv_iload_n S0.1 S0.2.1 dX9_has_177 rfl (lv_at hl 4 rfl) ?_
        refine lv_imul S0.1 S0.2.1 dX9_has_178 (q_top hf (fun v38 hf => ?_))
        refine lv_iload S0.1 S0.2.1 dX9_has_179 (lv_at hl 6 rfl) ?_
        refine lv_iadd S0.1 S0.2.1 dX9_has_181 (q_top hf (fun v39 hf => ?_))
        refine q_iald S0 hw dM_109 (t0 := 0) rfl rfl dX9_has_182 hf (fun v40 hf => ?_)
        refine lv_if_eq (tgt := 190) S0.1 S0.2.1 dX9_has_183 (by decide) (fun c41 => ?_) (fun c41 => ?_)
        · replace hf := q_pos c41 hf
          exact b190 k85 hk85 x1 x2 x3 x4 x6 σ hf _ _ _ hw (lv_sub hl [1, 2, 3, 4, 5, 6] rfl)
        · replace hf := q_neg c41 hf
          exact b186 k85 hk85 x1 x2 x3 x4 x6 σ hf _ _ _ hw (lv_sub hl [1, 2, 3, 4, 5, 6] rfl)
  have b147 : ∀ (k85 : Int32 → Int32 → Int32 → Int32 → Int32 → Int32 → qS → Option (Int32 × qS)) (hk85 : ∀ (x1 : Int32) (x2 : Int32) (x3 : Int32) (x4 : Int32) (x5 : Int32) (x6 : Int32) (σ : qS), k85 x1 x2 x3 x4 x5 x6 σ = some r0 → qAt p l e (qRm 2 45) s m ([.ref (ad 0 0), .int p1, .int p2] : List Value).toArray below meth c Q D (mL Y) (qT Y) A ad 8 0 0 85 [(0, .ref (ad 0 0)), (1, .int x1), (2, .int x2), (3, .int x3), (4, .int x4), (5, .int x5), (6, .int x6)] [] σ) (x1 : Int32) (x2 : Int32) (x3 : Int32) (x4 : Int32) (x6 : Int32) (σ : qS), fX9_has_147 F k85 x1 x2 x3 x4 x6 σ = some r0 → qAt p l e (qRm 2 45) s m ([.ref (ad 0 0), .int p1, .int p2] : List Value).toArray below meth c Q D (mL Y) (qT Y) A ad 8 0 0 147 [(0, .ref (ad 0 0)), (1, .int x1), (2, .int x2), (3, .int x3), (4, .int x4), (6, .int x6)] [] σ := by
    clear hf hw hl ls
    intro k85 hk85
    intro x1 x2 x3 x4 x6 σ hf H locs ls hw hl
    unfold fX9_has_147 at hf
    refine lv_iconst (v := 0) S0.1 S0.2.1 dX9_has_147 (by decide) ?_
    exact b148 k85 hk85 x1 x2 x3 x4 x6 0 σ hf _ _ _ hw (lv_sub hl [0, 1, 2, 3, 4, 5] rfl)
  have b85 : ∀ (n : Nat) (x1 : Int32) (x2 : Int32) (x3 : Int32) (x4 : Int32) (x5 : Int32) (x6 : Int32) (σ : qS), fX9_has_85 F n x1 x2 x3 x4 x5 x6 σ = some r0 → qAt p l e (qRm 2 45) s m ([.ref (ad 0 0), .int p1, .int p2] : List Value).toArray below meth c Q D (mL Y) (qT Y) A ad 8 0 0 85 [(0, .ref (ad 0 0)), (1, .int x1), (2, .int x2), (3, .int x3), (4, .int x4), (5, .int x5), (6, .int x6)] [] σ := by
    clear hf hw hl ls
    intro n
    induction n with
    | zero => intro x1 x2 x3 x4 x5 x6 σ hf; exact absurd hf (by rw [fX9_has_85]; exact nofun)
    | succ n hk85 =>
      intro x1 x2 x3 x4 x5 x6 σ hf H locs ls hw hl
      rw [fX9_has_85] at hf
      refine lv_iload S0.1 S0.2.1 dX9_has_85 (lv_at hl 6 rfl) ?_
      refine lv_aload_n S0.1 S0.2.1 dX9_has_87 rfl (lv_at hl 0 rfl) ?_
      refine gX9_nodes S0 hw kw_1155 dX9_has_88 hf (fun v16 hf => ?_)
      refine lv_icmp_ge (tgt := 199) S0.1 S0.2.1 dX9_has_91 (by decide) (fun c17 => ?_) (fun c17 => ?_)
      · replace hf := q_pos c17 hf
        exact b199 x1 x2 x4 x5 σ hf _ _ _ hw (lv_sub hl [0, 1, 2, 4, 5] rfl)
      · replace hf := q_neg c17 hf
        refine lv_iload S0.1 S0.2.1 dX9_has_94 (lv_at hl 5 rfl) ?_
        refine lv_if_eq (tgt := 199) S0.1 S0.2.1 dX9_has_96 (by decide) (fun c27 => ?_) (fun c27 => ?_)
        · replace hf := q_pos c27 hf
          exact b199 x1 x2 x4 x5 σ hf _ _ _ hw (lv_sub hl [0, 1, 2, 4, 5] rfl)
        · replace hf := q_neg c27 hf
          refine lv_aload_n S0.1 S0.2.1 dX9_has_99 rfl (lv_at hl 0 rfl) ?_
          refine gX9_is S0 hw kw_1156 dX9_has_100 ?_
          refine lv_bipush (v := 80) S0.1 S0.2.1 dX9_has_103 (by decide) ?_
          refine lv_iload_n S0.1 S0.2.1 dX9_has_105 rfl (lv_at hl 3 rfl) ?_
          refine lv_imul S0.1 S0.2.1 dX9_has_106 (q_top hf (fun v28 hf => ?_))
          refine lv_iload S0.1 S0.2.1 dX9_has_107 (lv_at hl 6 rfl) ?_
          refine lv_iadd S0.1 S0.2.1 dX9_has_109 (q_top hf (fun v29 hf => ?_))
          refine q_iald S0 hw dM_108 (t0 := 0) rfl rfl dX9_has_110 hf (fun v30 hf => ?_)
          refine lv_iconst (v := 1) S0.1 S0.2.1 dX9_has_111 (by decide) ?_
          refine lv_icmp_ne (tgt := 147) S0.1 S0.2.1 dX9_has_112 (by decide) (fun c31 => ?_) (fun c31 => ?_)
          · replace hf := q_neg c31 hf
            exact b147 (fX9_has_85 F n) hk85 x1 x2 x3 x4 x6 σ hf _ _ _ hw (lv_sub hl [0, 1, 2, 3, 4, 6] rfl)
          · replace hf := q_pos c31 hf
            refine lv_aload_n S0.1 S0.2.1 dX9_has_115 rfl (lv_at hl 0 rfl) ?_
            refine gX9_parent S0 hw kw_1148 dX9_has_116 ?_
            refine lv_iload S0.1 S0.2.1 dX9_has_119 (lv_at hl 6 rfl) ?_
            refine q_iald S0 hw dM_100 (t0 := 0) rfl rfl dX9_has_121 hf (fun v42 hf => ?_)
            refine lv_iload_n S0.1 S0.2.1 dX9_has_122 rfl (lv_at hl 2 rfl) ?_
            refine lv_icmp_ne (tgt := 147) S0.1 S0.2.1 dX9_has_123 (by decide) (fun c43 => ?_) (fun c43 => ?_)
            · replace hf := q_neg c43 hf
              exact b147 (fX9_has_85 F n) hk85 x1 x2 x3 x4 x6 σ hf _ _ _ hw (lv_sub hl [0, 1, 2, 3, 4, 6] rfl)
            · replace hf := q_pos c43 hf
              refine lv_aload_n S0.1 S0.2.1 dX9_has_126 rfl (lv_at hl 0 rfl) ?_
              refine gX9_name S0 hw kw_1149 dX9_has_127 ?_
              refine lv_iload S0.1 S0.2.1 dX9_has_130 (lv_at hl 6 rfl) ?_
              refine q_iald S0 hw dM_101 (t0 := 0) rfl rfl dX9_has_132 hf (fun v44 hf => ?_)
              refine lv_aload_n S0.1 S0.2.1 dX9_has_133 rfl (lv_at hl 0 rfl) ?_
              refine gX9_name S0 hw kw_1149 dX9_has_134 ?_
              refine lv_iload S0.1 S0.2.1 dX9_has_137 (lv_at hl 4 rfl) ?_
              refine q_iald S0 hw dM_101 (t0 := 0) rfl rfl dX9_has_139 hf (fun v45 hf => ?_)
              refine lv_icmp_ge (tgt := 147) S0.1 S0.2.1 dX9_has_140 (by decide) (fun c46 => ?_) (fun c46 => ?_)
              · replace hf := q_pos c46 hf
                exact b147 (fX9_has_85 F n) hk85 x1 x2 x3 x4 x6 σ hf _ _ _ hw (lv_sub hl [0, 1, 2, 3, 4, 6] rfl)
              · replace hf := q_neg c46 hf
                refine lv_iconst (v := 1) S0.1 S0.2.1 dX9_has_143 (by decide) ?_
                refine lv_goto (tgt := 148) S0.1 S0.2.1 dX9_has_144 (by decide) ?_
                exact b148 (fX9_has_85 F n) hk85 x1 x2 x3 x4 x6 1 σ hf _ _ _ hw (lv_sub hl [0, 1, 2, 3, 4, 6] rfl)
  have b80 : ∀ (x1 : Int32) (x2 : Int32) (x3 : Int32) (x4 : Int32) (t0 : Int32) (σ : qS), fX9_has_80 F x1 x2 x3 x4 t0 σ = some r0 → qAt p l e (qRm 2 45) s m ([.ref (ad 0 0), .int p1, .int p2] : List Value).toArray below meth c Q D (mL Y) (qT Y) A ad 8 0 0 80 [(0, .ref (ad 0 0)), (1, .int x1), (2, .int x2), (3, .int x3), (4, .int x4)] [.int t0] σ := by
    clear hf hw hl ls
    intro x1 x2 x3 x4 t0 σ hf H locs ls hw hl
    unfold fX9_has_80 at hf
    refine lv_istore (lv' := [(5, .int t0), (0, .ref (ad 0 0)), (1, .int x1), (2, .int x2), (3, .int x3), (4, .int x4)]) S0.1 S0.2.1 dX9_has_80 hl (by decide) rfl (fun ls hl => ?_)
    refine lv_iconst (v := 1) S0.1 S0.2.1 dX9_has_82 (by decide) ?_
    refine lv_istore (lv' := [(6, .int 1), (5, .int t0), (0, .ref (ad 0 0)), (1, .int x1), (2, .int x2), (3, .int x3), (4, .int x4)]) S0.1 S0.2.1 dX9_has_83 hl (by decide) rfl (fun ls hl => ?_)
    exact b85 F x1 x2 x3 x4 t0 1 σ hf _ _ _ hw (lv_sub hl [2, 3, 4, 5, 6, 1, 0] rfl)
  have b68 : ∀ (x1 : Int32) (x2 : Int32) (x3 : Int32) (t0 : Int32) (σ : qS), fX9_has_68 F x1 x2 x3 t0 σ = some r0 → qAt p l e (qRm 2 45) s m ([.ref (ad 0 0), .int p1, .int p2] : List Value).toArray below meth c Q D (mL Y) (qT Y) A ad 8 0 0 68 [(0, .ref (ad 0 0)), (1, .int x1), (2, .int x2), (3, .int x3)] [.int t0] σ := by
    clear hf hw hl ls
    intro x1 x2 x3 t0 σ hf H locs ls hw hl
    unfold fX9_has_68 at hf
    refine lv_istore (lv' := [(4, .int t0), (0, .ref (ad 0 0)), (1, .int x1), (2, .int x2), (3, .int x3)]) S0.1 S0.2.1 dX9_has_68 hl (by decide) rfl (fun ls hl => ?_)
    refine lv_iload S0.1 S0.2.1 dX9_has_70 (lv_at hl 0 rfl) ?_
    refine lv_if_lt (tgt := 79) S0.1 S0.2.1 dX9_has_72 (by decide) (fun c15 => ?_) (fun c15 => ?_)
    · replace hf := q_pos c15 hf
      refine lv_iconst (v := 0) S0.1 S0.2.1 dX9_has_79 (by decide) ?_
      exact b80 x1 x2 x3 t0 0 σ hf _ _ _ hw (lv_sub hl [1, 2, 3, 4, 0] rfl)
    · replace hf := q_neg c15 hf
      refine lv_iconst (v := 1) S0.1 S0.2.1 dX9_has_75 (by decide) ?_
      refine lv_goto (tgt := 80) S0.1 S0.2.1 dX9_has_76 (by decide) ?_
      exact b80 x1 x2 x3 t0 1 σ hf _ _ _ hw (lv_sub hl [1, 2, 3, 4, 0] rfl)
  have b26 : ∀ (x1 : Int32) (x2 : Int32) (t1 : Int32) (σ : qS), fX9_has_26 F x1 x2 t1 σ = some r0 → qAt p l e (qRm 2 45) s m ([.ref (ad 0 0), .int p1, .int p2] : List Value).toArray below meth c Q D (mL Y) (qT Y) A ad 8 0 0 26 [(0, .ref (ad 0 0)), (1, .int x1), (2, .int x2)] [.int t1, .ref (ad 0 0)] σ := by
    clear hf hw hl ls
    intro x1 x2 t1 σ hf H locs ls hw hl
    unfold fX9_has_26 at hf
    refine q_calli S0 hw (As := [.int t1]) (rest := []) (wX9_holds l D Y ad F t1 σ) qyX9_holds kw_1335 ⟨Nat.le_of_ble_eq_true rfl, Nat.le_of_ble_eq_true rfl⟩ dM_0 rfl rfl rfl rfl hl.1 (Nat.le_of_ble_eq_true rfl) dX9_has_26 ⟨Nat.le_refl _, Nat.le_refl _⟩ rfl hf (fun v8 s7 H locs hw hf => ?_)
    refine lv_if_eq (tgt := 34) S0.1 S0.2.1 dX9_has_29 (by decide) (fun c9 => ?_) (fun c9 => ?_)
    · replace hf := q_pos c9 hf
      refine lv_aload_n S0.1 S0.2.1 dX9_has_34 rfl (lv_at hl 0 rfl) ?_
      refine lv_iload_n S0.1 S0.2.1 dX9_has_35 rfl (lv_at hl 1 rfl) ?_
      refine q_callv S0 hw (As := [.int x1]) (rest := []) (wX9_does l D Y ad F x1 s7) qyX9_does kw_1415 ⟨Nat.le_of_ble_eq_true rfl, Nat.le_of_ble_eq_true rfl⟩ dM_0 rfl rfl rfl rfl hl.1 (Nat.le_of_ble_eq_true rfl) dX9_has_36 ⟨Nat.le_refl _, Nat.le_refl _⟩ rfl hf (fun s10 H locs hw hf => ?_)
      refine lv_aload_n S0.1 S0.2.1 dX9_has_39 rfl (lv_at hl 0 rfl) ?_
      refine gX9_zs S0 hw kw_1180 dX9_has_40 ?_
      refine lv_iload_n S0.1 S0.2.1 dX9_has_43 rfl (lv_at hl 1 rfl) ?_
      refine q_iald S0 hw dM_132 (t0 := 0) rfl rfl dX9_has_44 hf (fun v11 hf => ?_)
      refine lv_istore_n (lv' := [(3, .int v11), (0, .ref (ad 0 0)), (1, .int x1), (2, .int x2)]) S0.1 S0.2.1 dX9_has_45 rfl hl (by decide) rfl (fun ls hl => ?_)
      refine lv_aload_n S0.1 S0.2.1 dX9_has_46 rfl (lv_at hl 1 rfl) ?_
      refine lv_iload_n S0.1 S0.2.1 dX9_has_47 rfl (lv_at hl 0 rfl) ?_
      refine lv_iload_n S0.1 S0.2.1 dX9_has_48 rfl (lv_at hl 3 rfl) ?_
      refine q_calli S0 hw (As := [.int v11, .int x2]) (rest := []) (wX9_isThere l D Y ad F v11 x2 s10) qyX9_isThere kw_1463 ⟨Nat.le_of_ble_eq_true rfl, Nat.le_of_ble_eq_true rfl⟩ dM_0 rfl rfl rfl rfl hl.1 (Nat.le_of_ble_eq_true rfl) dX9_has_49 ⟨Nat.le_refl _, Nat.le_refl _⟩ rfl hf (fun v13 s12 H locs hw hf => ?_)
      refine lv_if_eq (tgt := 66) S0.1 S0.2.1 dX9_has_52 (by decide) (fun c14 => ?_) (fun c14 => ?_)
      · replace hf := q_pos c14 hf
        refine lv_bipush (v := (-100)) S0.1 S0.2.1 dX9_has_66 (by decide) ?_
        exact b68 x1 x2 v11 ((-100)) s12 hf _ _ _ hw (lv_sub hl [1, 2, 3, 0] rfl)
      · replace hf := q_neg c14 hf
        refine lv_aload_n S0.1 S0.2.1 dX9_has_55 rfl (lv_at hl 1 rfl) ?_
        refine lv_iload_n S0.1 S0.2.1 dX9_has_56 rfl (lv_at hl 0 rfl) ?_
        refine lv_iload_n S0.1 S0.2.1 dX9_has_57 rfl (lv_at hl 3 rfl) ?_
        refine lv_iconst (v := 0) S0.1 S0.2.1 dX9_has_58 (by decide) ?_
        refine lv_iload_n S0.1 S0.2.1 dX9_has_59 rfl (lv_at hl 2 rfl) ?_
        refine q_calli S0 hw (As := [.int v11, .int x2, .int 0, .int x1]) (rest := []) (wX9_childAt l D Y ad F v11 x2 0 x1 s12) qyX9_childAt kw_1555 ⟨Nat.le_of_ble_eq_true rfl, Nat.le_of_ble_eq_true rfl⟩ dM_0 rfl rfl rfl rfl hl.1 (Nat.le_of_ble_eq_true rfl) dX9_has_60 ⟨Nat.le_refl _, Nat.le_refl _⟩ rfl hf (fun v48 s47 H locs hw hf => ?_)
        refine lv_goto (tgt := 68) S0.1 S0.2.1 dX9_has_63 (by decide) ?_
        exact b68 x1 x2 v11 v48 s47 hf _ _ _ hw (lv_sub hl [1, 2, 3, 0] rfl)
    · replace hf := q_neg c9 hf
      refine lv_iconst (v := (-1)) S0.1 S0.2.1 dX9_has_32 (by decide) ?_
      exact hret dX9_has_33 hw hf
  refine lv_aload_n S0.1 S0.2.1 dX9_has_0 rfl (lv_at hl 0 rfl) ?_
  refine lv_aload_n S0.1 S0.2.1 dX9_has_1 rfl (lv_at hl 0 rfl) ?_
  refine lv_iload_n S0.1 S0.2.1 dX9_has_2 rfl (lv_at hl 1 rfl) ?_
  refine q_calli S0 hw (As := [.int p1]) (rest := [.ref (ad 0 0)]) (wX9_isSession l D Y ad F p1 σ) qyX9_isSession kw_1343 ⟨Nat.le_of_ble_eq_true rfl, Nat.le_of_ble_eq_true rfl⟩ dM_0 rfl rfl rfl rfl hl.1 (Nat.le_of_ble_eq_true rfl) dX9_has_3 ⟨Nat.le_refl _, Nat.le_refl _⟩ rfl hf (fun v2 s1 H locs hw hf => ?_)
  refine lv_if_ne (tgt := 13) S0.1 S0.2.1 dX9_has_6 (by decide) (fun c3 => ?_) (fun c3 => ?_)
  · replace hf := q_neg c3 hf
    refine lv_aload_n S0.1 S0.2.1 dX9_has_13 rfl (lv_at hl 0 rfl) ?_
    refine lv_iload_n S0.1 S0.2.1 dX9_has_14 rfl (lv_at hl 1 rfl) ?_
    refine q_calli S0 hw (As := [.int p1]) (rest := [.ref (ad 0 0)]) (wX9_ended l D Y ad F p1 s1) qyX9_ended kw_1347 ⟨Nat.le_of_ble_eq_true rfl, Nat.le_of_ble_eq_true rfl⟩ dM_0 rfl rfl rfl rfl hl.1 (Nat.le_of_ble_eq_true rfl) dX9_has_15 ⟨Nat.le_refl _, Nat.le_refl _⟩ rfl hf (fun v5 s4 H locs hw hf => ?_)
    refine lv_if_eq (tgt := 25) S0.1 S0.2.1 dX9_has_18 (by decide) (fun c6 => ?_) (fun c6 => ?_)
    · replace hf := q_pos c6 hf
      refine lv_iconst (v := 0) S0.1 S0.2.1 dX9_has_25 (by decide) ?_
      exact b26 p1 p2 0 s4 hf _ _ _ hw (lv_sub hl [0, 1, 2] rfl)
    · replace hf := q_neg c6 hf
      refine lv_iconst (v := 2) S0.1 S0.2.1 dX9_has_21 (by decide) ?_
      refine lv_goto (tgt := 26) S0.1 S0.2.1 dX9_has_22 (by decide) ?_
      exact b26 p1 p2 2 s4 hf _ _ _ hw (lv_sub hl [0, 1, 2] rfl)
  · replace hf := q_pos c3 hf
    refine lv_iconst (v := 1) S0.1 S0.2.1 dX9_has_9 (by decide) ?_
    refine lv_goto (tgt := 26) S0.1 S0.2.1 dX9_has_10 (by decide) ?_
    exact b26 p1 p2 1 s1 hf _ _ _ hw (lv_sub hl [0, 1, 2] rfl)
def fX9_giveUp_84 (F : Nat) (x1 : Int32) (t0 : Int32) (σ : qS) : Option (Int32 × qS) :=
  if 0 ≤ t0 then (bnd (fX9_begin F σ) fun s18 => (bnd2 (fX9_goes F t0 s18) fun v20 s19 => (bnd (fX9_commit F s19) fun s21 => (ldi 10 (s21.1 132 0) x1 fun v22 => (nm (s21.1 0 0 26) fun v23 => (bnd (fX9_follows F v22 v23 s21) fun s24 => (some (v20, s24)))))))) else (some (0, σ))
def fX9_giveUp_62 (F : Nat) (x1 : Int32) (x2 : Int32) (σ : qS) : Option (Int32 × qS) :=
  bnd2 (fX9_isThere F 0 x2 σ) fun v15 s14 => (if v15 = 0 then (fX9_giveUp_84 F x1 ((-100)) s14) else (bnd2 (fX9_childAt F 0 x2 0 x1 s14) fun v26 s25 => (fX9_giveUp_84 F x1 v26 s25)))
def fX9_giveUp_26 (F : Nat) (x1 : Int32) (x2 : Int32) (t1 : Int32) (σ : qS) : Option (Int32 × qS) :=
  bnd2 (fX9_holds F t1 σ) fun v8 s7 => (if v8 = 0 then (bnd (fX9_does F x1 s7) fun s10 => (bnd2 (fX9_in F x2 0 79 s10) fun v12 s11 => (if v12 = 0 then (fX9_giveUp_62 F x1 x2 s11) else (nm (80 * x1) fun v27 => (nm (v27 + x2) fun v28 => (inx 800 v28 (nm (qI s11 147 0 v28.toNatClampNeg 0) fun s29 => (fX9_giveUp_62 F x1 x2 s29)))))))) else (some ((-1), s7)))
def fX9_giveUp (F : Nat) (p1 : Int32) (p2 : Int32) (σ : qS) : Option (Int32 × qS) :=
  bnd2 (fX9_isSession F p1 σ) fun v2 s1 => (if v2 = 0 then (fX9_giveUp_26 F p1 p2 1 s1) else (bnd2 (fX9_ended F p1 s1) fun v5 s4 => (if v5 = 0 then (fX9_giveUp_26 F p1 p2 0 s4) else (fX9_giveUp_26 F p1 p2 2 s4))))
set_option maxRecDepth 100000 in
set_option maxHeartbeats 4000000 in
theorem wX9_giveUp (l : Launch) (D : va_G) (Y : Nat → ClassId) (ad : qAd) (F : Nat) (p1 : Int32) (p2 : Int32) (σ : qS) : qCi l yX9_giveUp cX9_giveUp 5 (some .int) 5 117 D (mL Y) (qT Y) ad [.ref (ad 0 0), .int p1, .int p2] σ (fX9_giveUp F p1 p2 σ) := by
  refine q_ofi (by decide) (Nat.le_of_ble_eq_true rfl) "LeasehallModel" rfl (fun p e s m below meth c A Q r0 S0 hf hw hret ls hl => ?_)
  replace hl : lv_has ls 5 [(0, .ref (ad 0 0)), (1, .int p1), (2, .int p2)] := hl
  unfold fX9_giveUp at hf
  have b84 : ∀ (x1 : Int32) (t0 : Int32) (σ : qS), fX9_giveUp_84 F x1 t0 σ = some r0 → qAt p l e (qRm 5 117) s m ([.ref (ad 0 0), .int p1, .int p2] : List Value).toArray below meth c Q D (mL Y) (qT Y) A ad 5 0 0 84 [(0, .ref (ad 0 0)), (1, .int x1)] [.int t0] σ := by
    clear hf hw hl ls
    intro x1 t0 σ hf H locs ls hw hl
    unfold fX9_giveUp_84 at hf
    refine lv_istore_n (lv' := [(3, .int t0), (0, .ref (ad 0 0)), (1, .int x1)]) S0.1 S0.2.1 dX9_giveUp_84 rfl hl (by decide) rfl (fun ls hl => ?_)
    refine lv_iload_n S0.1 S0.2.1 dX9_giveUp_85 rfl (lv_at hl 0 rfl) ?_
    refine lv_if_ge (tgt := 91) S0.1 S0.2.1 dX9_giveUp_86 (by decide) (fun c17 => ?_) (fun c17 => ?_)
    · replace hf := q_pos c17 hf
      refine lv_aload_n S0.1 S0.2.1 dX9_giveUp_91 rfl (lv_at hl 1 rfl) ?_
      refine q_callv S0 hw (As := []) (rest := []) (wX9_begin l D Y ad F σ) qyX9_begin kw_1359 ⟨Nat.le_of_ble_eq_true rfl, Nat.le_of_ble_eq_true rfl⟩ dM_0 rfl rfl rfl rfl hl.1 (Nat.le_of_ble_eq_true rfl) dX9_giveUp_92 ⟨Nat.le_refl _, Nat.le_refl _⟩ rfl hf (fun s18 H locs hw hf => ?_)
      refine lv_aload_n S0.1 S0.2.1 dX9_giveUp_95 rfl (lv_at hl 1 rfl) ?_
      refine lv_iload_n S0.1 S0.2.1 dX9_giveUp_96 rfl (lv_at hl 0 rfl) ?_
      refine q_calli S0 hw (As := [.int t0]) (rest := []) (wX9_goes l D Y ad F t0 s18) qyX9_goes kw_1367 ⟨Nat.le_of_ble_eq_true rfl, Nat.le_of_ble_eq_true rfl⟩ dM_0 rfl rfl rfl rfl hl.1 (Nat.le_of_ble_eq_true rfl) dX9_giveUp_97 ⟨Nat.le_refl _, Nat.le_refl _⟩ rfl hf (fun v20 s19 H locs hw hf => ?_)
      refine lv_istore (lv' := [(4, .int v20), (3, .int t0), (0, .ref (ad 0 0)), (1, .int x1)]) S0.1 S0.2.1 dX9_giveUp_100 hl (by decide) rfl (fun ls hl => ?_)
      refine lv_aload_n S0.1 S0.2.1 dX9_giveUp_102 rfl (lv_at hl 2 rfl) ?_
      refine q_callv S0 hw (As := []) (rest := []) (wX9_commit l D Y ad F s19) qyX9_commit kw_1387 ⟨Nat.le_of_ble_eq_true rfl, Nat.le_of_ble_eq_true rfl⟩ dM_0 rfl rfl rfl rfl hl.1 (Nat.le_of_ble_eq_true rfl) dX9_giveUp_103 ⟨Nat.le_refl _, Nat.le_refl _⟩ rfl hf (fun s21 H locs hw hf => ?_)
      refine lv_aload_n S0.1 S0.2.1 dX9_giveUp_106 rfl (lv_at hl 2 rfl) ?_
      refine lv_aload_n S0.1 S0.2.1 dX9_giveUp_107 rfl (lv_at hl 2 rfl) ?_
      refine gX9_zs S0 hw kw_1180 dX9_giveUp_108 ?_
      refine lv_iload_n S0.1 S0.2.1 dX9_giveUp_111 rfl (lv_at hl 3 rfl) ?_
      refine q_iald S0 hw dM_132 (t0 := 0) rfl rfl dX9_giveUp_112 hf (fun v22 hf => ?_)
      refine lv_aload_n S0.1 S0.2.1 dX9_giveUp_113 rfl (lv_at hl 2 rfl) ?_
      refine gX9_last S0 hw kw_1174 dX9_giveUp_114 hf (fun v23 hf => ?_)
      refine q_callv S0 hw (As := [.int v22, .int v23]) (rest := []) (wX9_follows l D Y ad F v22 v23 s21) qyX9_follows kw_1391 ⟨Nat.le_of_ble_eq_true rfl, Nat.le_of_ble_eq_true rfl⟩ dM_0 rfl rfl rfl rfl hl.1 (Nat.le_of_ble_eq_true rfl) dX9_giveUp_117 ⟨Nat.le_refl _, Nat.le_refl _⟩ rfl hf (fun s24 H locs hw hf => ?_)
      refine lv_iload S0.1 S0.2.1 dX9_giveUp_120 (lv_at hl 0 rfl) ?_
      exact hret dX9_giveUp_122 hw hf
    · replace hf := q_neg c17 hf
      refine lv_iconst (v := 0) S0.1 S0.2.1 dX9_giveUp_89 (by decide) ?_
      exact hret dX9_giveUp_90 hw hf
  have b62 : ∀ (x1 : Int32) (x2 : Int32) (σ : qS), fX9_giveUp_62 F x1 x2 σ = some r0 → qAt p l e (qRm 5 117) s m ([.ref (ad 0 0), .int p1, .int p2] : List Value).toArray below meth c Q D (mL Y) (qT Y) A ad 5 0 0 62 [(0, .ref (ad 0 0)), (1, .int x1), (2, .int x2)] [] σ := by
    clear hf hw hl ls
    intro x1 x2 σ hf H locs ls hw hl
    unfold fX9_giveUp_62 at hf
    refine lv_aload_n S0.1 S0.2.1 dX9_giveUp_62 rfl (lv_at hl 0 rfl) ?_
    refine lv_iconst (v := 0) S0.1 S0.2.1 dX9_giveUp_63 (by decide) ?_
    refine lv_iload_n S0.1 S0.2.1 dX9_giveUp_64 rfl (lv_at hl 2 rfl) ?_
    refine q_calli S0 hw (As := [.int 0, .int x2]) (rest := []) (wX9_isThere l D Y ad F 0 x2 σ) qyX9_isThere kw_1463 ⟨Nat.le_of_ble_eq_true rfl, Nat.le_of_ble_eq_true rfl⟩ dM_0 rfl rfl rfl rfl hl.1 (Nat.le_of_ble_eq_true rfl) dX9_giveUp_65 ⟨Nat.le_refl _, Nat.le_refl _⟩ rfl hf (fun v15 s14 H locs hw hf => ?_)
    refine lv_if_eq (tgt := 82) S0.1 S0.2.1 dX9_giveUp_68 (by decide) (fun c16 => ?_) (fun c16 => ?_)
    · replace hf := q_pos c16 hf
      refine lv_bipush (v := (-100)) S0.1 S0.2.1 dX9_giveUp_82 (by decide) ?_
      exact b84 x1 ((-100)) s14 hf _ _ _ hw (lv_sub hl [0, 1] rfl)
    · replace hf := q_neg c16 hf
      refine lv_aload_n S0.1 S0.2.1 dX9_giveUp_71 rfl (lv_at hl 0 rfl) ?_
      refine lv_iconst (v := 0) S0.1 S0.2.1 dX9_giveUp_72 (by decide) ?_
      refine lv_iload_n S0.1 S0.2.1 dX9_giveUp_73 rfl (lv_at hl 2 rfl) ?_
      refine lv_iconst (v := 0) S0.1 S0.2.1 dX9_giveUp_74 (by decide) ?_
      refine lv_iload_n S0.1 S0.2.1 dX9_giveUp_75 rfl (lv_at hl 1 rfl) ?_
      refine q_calli S0 hw (As := [.int 0, .int x2, .int 0, .int x1]) (rest := []) (wX9_childAt l D Y ad F 0 x2 0 x1 s14) qyX9_childAt kw_1555 ⟨Nat.le_of_ble_eq_true rfl, Nat.le_of_ble_eq_true rfl⟩ dM_0 rfl rfl rfl rfl hl.1 (Nat.le_of_ble_eq_true rfl) dX9_giveUp_76 ⟨Nat.le_refl _, Nat.le_refl _⟩ rfl hf (fun v26 s25 H locs hw hf => ?_)
      refine lv_goto (tgt := 84) S0.1 S0.2.1 dX9_giveUp_79 (by decide) ?_
      exact b84 x1 v26 s25 hf _ _ _ hw (lv_sub hl [0, 1] rfl)
  have b26 : ∀ (x1 : Int32) (x2 : Int32) (t1 : Int32) (σ : qS), fX9_giveUp_26 F x1 x2 t1 σ = some r0 → qAt p l e (qRm 5 117) s m ([.ref (ad 0 0), .int p1, .int p2] : List Value).toArray below meth c Q D (mL Y) (qT Y) A ad 5 0 0 26 [(0, .ref (ad 0 0)), (1, .int x1), (2, .int x2)] [.int t1, .ref (ad 0 0)] σ := by
    clear hf hw hl ls
    intro x1 x2 t1 σ hf H locs ls hw hl
    unfold fX9_giveUp_26 at hf
    refine q_calli S0 hw (As := [.int t1]) (rest := []) (wX9_holds l D Y ad F t1 σ) qyX9_holds kw_1335 ⟨Nat.le_of_ble_eq_true rfl, Nat.le_of_ble_eq_true rfl⟩ dM_0 rfl rfl rfl rfl hl.1 (Nat.le_of_ble_eq_true rfl) dX9_giveUp_26 ⟨Nat.le_refl _, Nat.le_refl _⟩ rfl hf (fun v8 s7 H locs hw hf => ?_)
    refine lv_if_eq (tgt := 34) S0.1 S0.2.1 dX9_giveUp_29 (by decide) (fun c9 => ?_) (fun c9 => ?_)
    · replace hf := q_pos c9 hf
      refine lv_aload_n S0.1 S0.2.1 dX9_giveUp_34 rfl (lv_at hl 0 rfl) ?_
      refine lv_iload_n S0.1 S0.2.1 dX9_giveUp_35 rfl (lv_at hl 1 rfl) ?_
      refine q_callv S0 hw (As := [.int x1]) (rest := []) (wX9_does l D Y ad F x1 s7) qyX9_does kw_1415 ⟨Nat.le_of_ble_eq_true rfl, Nat.le_of_ble_eq_true rfl⟩ dM_0 rfl rfl rfl rfl hl.1 (Nat.le_of_ble_eq_true rfl) dX9_giveUp_36 ⟨Nat.le_refl _, Nat.le_refl _⟩ rfl hf (fun s10 H locs hw hf => ?_)
      refine lv_aload_n S0.1 S0.2.1 dX9_giveUp_39 rfl (lv_at hl 0 rfl) ?_
      refine lv_iload_n S0.1 S0.2.1 dX9_giveUp_40 rfl (lv_at hl 2 rfl) ?_
      refine lv_iconst (v := 0) S0.1 S0.2.1 dX9_giveUp_41 (by decide) ?_
      refine lv_bipush (v := 79) S0.1 S0.2.1 dX9_giveUp_42 (by decide) ?_
      refine q_calli S0 hw (As := [.int x2, .int 0, .int 79]) (rest := []) (wX9_in l D Y ad F x2 0 79 s10) qyX9_in kw_1331 ⟨Nat.le_of_ble_eq_true rfl, Nat.le_of_ble_eq_true rfl⟩ dM_0 rfl rfl rfl rfl hl.1 (Nat.le_of_ble_eq_true rfl) dX9_giveUp_44 ⟨Nat.le_refl _, Nat.le_refl _⟩ rfl hf (fun v12 s11 H locs hw hf => ?_)
      refine lv_if_eq (tgt := 62) S0.1 S0.2.1 dX9_giveUp_47 (by decide) (fun c13 => ?_) (fun c13 => ?_)
      · replace hf := q_pos c13 hf
        exact b62 x1 x2 s11 hf _ _ _ hw (lv_sub hl [0, 1, 2] rfl)
      · replace hf := q_neg c13 hf
        refine lv_aload_n S0.1 S0.2.1 dX9_giveUp_50 rfl (lv_at hl 0 rfl) ?_
        refine gX9_believes S0 hw kw_1195 dX9_giveUp_51 ?_
        refine lv_bipush (v := 80) S0.1 S0.2.1 dX9_giveUp_54 (by decide) ?_
        refine lv_iload_n S0.1 S0.2.1 dX9_giveUp_56 rfl (lv_at hl 1 rfl) ?_
        refine lv_imul S0.1 S0.2.1 dX9_giveUp_57 (q_top hf (fun v27 hf => ?_))
        refine lv_iload_n S0.1 S0.2.1 dX9_giveUp_58 rfl (lv_at hl 2 rfl) ?_
        refine lv_iadd S0.1 S0.2.1 dX9_giveUp_59 (q_top hf (fun v28 hf => ?_))
        refine lv_iconst (v := 0) S0.1 S0.2.1 dX9_giveUp_60 (by decide) ?_
        refine q_iast S0 hw dM_147 (t0 := 0) (fun _ => rfl) rfl dX9_giveUp_61 hf (fun s29 H locs hw hf => ?_)
        exact b62 x1 x2 s29 hf _ _ _ hw (lv_sub hl [0, 1, 2] rfl)
    · replace hf := q_neg c9 hf
      refine lv_iconst (v := (-1)) S0.1 S0.2.1 dX9_giveUp_32 (by decide) ?_
      exact hret dX9_giveUp_33 hw hf
  refine lv_aload_n S0.1 S0.2.1 dX9_giveUp_0 rfl (lv_at hl 0 rfl) ?_
  refine lv_aload_n S0.1 S0.2.1 dX9_giveUp_1 rfl (lv_at hl 0 rfl) ?_
  refine lv_iload_n S0.1 S0.2.1 dX9_giveUp_2 rfl (lv_at hl 1 rfl) ?_
  refine q_calli S0 hw (As := [.int p1]) (rest := [.ref (ad 0 0)]) (wX9_isSession l D Y ad F p1 σ) qyX9_isSession kw_1343 ⟨Nat.le_of_ble_eq_true rfl, Nat.le_of_ble_eq_true rfl⟩ dM_0 rfl rfl rfl rfl hl.1 (Nat.le_of_ble_eq_true rfl) dX9_giveUp_3 ⟨Nat.le_refl _, Nat.le_refl _⟩ rfl hf (fun v2 s1 H locs hw hf => ?_)
  refine lv_if_ne (tgt := 13) S0.1 S0.2.1 dX9_giveUp_6 (by decide) (fun c3 => ?_) (fun c3 => ?_)
  · replace hf := q_neg c3 hf
    refine lv_aload_n S0.1 S0.2.1 dX9_giveUp_13 rfl (lv_at hl 0 rfl) ?_
    refine lv_iload_n S0.1 S0.2.1 dX9_giveUp_14 rfl (lv_at hl 1 rfl) ?_
    refine q_calli S0 hw (As := [.int p1]) (rest := [.ref (ad 0 0)]) (wX9_ended l D Y ad F p1 s1) qyX9_ended kw_1347 ⟨Nat.le_of_ble_eq_true rfl, Nat.le_of_ble_eq_true rfl⟩ dM_0 rfl rfl rfl rfl hl.1 (Nat.le_of_ble_eq_true rfl) dX9_giveUp_15 ⟨Nat.le_refl _, Nat.le_refl _⟩ rfl hf (fun v5 s4 H locs hw hf => ?_)
    refine lv_if_eq (tgt := 25) S0.1 S0.2.1 dX9_giveUp_18 (by decide) (fun c6 => ?_) (fun c6 => ?_)
    · replace hf := q_pos c6 hf
      refine lv_iconst (v := 0) S0.1 S0.2.1 dX9_giveUp_25 (by decide) ?_
      exact b26 p1 p2 0 s4 hf _ _ _ hw (lv_sub hl [0, 1, 2] rfl)
    · replace hf := q_neg c6 hf
      refine lv_iconst (v := 2) S0.1 S0.2.1 dX9_giveUp_21 (by decide) ?_
      refine lv_goto (tgt := 26) S0.1 S0.2.1 dX9_giveUp_22 (by decide) ?_
      exact b26 p1 p2 2 s4 hf _ _ _ hw (lv_sub hl [0, 1, 2] rfl)
  · replace hf := q_pos c3 hf
    refine lv_iconst (v := 1) S0.1 S0.2.1 dX9_giveUp_9 (by decide) ?_
    refine lv_goto (tgt := 26) S0.1 S0.2.1 dX9_giveUp_10 (by decide) ?_
    exact b26 p1 p2 1 s1 hf _ _ _ hw (lv_sub hl [0, 1, 2] rfl)
def fX9_believers_60 (F : Nat) (x2 : Int32) (σ : qS) : Option (Int32 × qS) :=
  some (x2, σ)
def fX9_believers_52 (F : Nat) (k10 : Int32 → Int32 → Int32 → qS → Option (Int32 × qS)) (x1 : Int32) (x3 : Int32) (t0 : Int32) (t1 : Int32) (σ : qS) : Option (Int32 × qS) :=
  nm (t0 ||| t1) fun v12 => (nm (x3 + 1) fun v13 => (k10 x1 v12 v13 σ))
def fX9_believers_10 (F : Nat) : Nat → Int32 → Int32 → Int32 → qS → Option (Int32 × qS)
  | 0, _, _, _, _ => none
  | n + 1, x1, x2, x3, σ =>
  nm (σ.1 0 0 48) fun v3 => (if v3 ≤ x3 then (fX9_believers_60 F x2 σ) else (bnd2 (fX9_in F x1 0 79 σ) fun v6 s5 => (if v6 = 0 then (fX9_believers_60 F x2 s5) else (nm (80 * x3) fun v8 => (nm (v8 + x1) fun v9 => (ldi 800 (s5.1 147 0) v9 fun v10 => (if v10 = 1 then (nm (1 <<< (x3 &&& 31)) fun v14 => (fX9_believers_52 F (fX9_believers_10 F n) x1 x3 x2 v14 s5)) else (fX9_believers_52 F (fX9_believers_10 F n) x1 x3 x2 0 s5))))))))
def fX9_believers (F : Nat) (p1 : Int32) (σ : qS) : Option (Int32 × qS) :=
  bnd2 (fX9_holds F 0 σ) fun v2 s1 => (fX9_believers_10 F F p1 0 0 s1)
set_option maxRecDepth 100000 in
set_option maxHeartbeats 4000000 in
theorem wX9_believers (l : Launch) (D : va_G) (Y : Nat → ClassId) (ad : qAd) (F : Nat) (p1 : Int32) (σ : qS) : qCi l yX9_believers cX9_believers 4 (some .int) 1 23 D (mL Y) (qT Y) ad [.ref (ad 0 0), .int p1] σ (fX9_believers F p1 σ) := by
  refine q_ofi (by decide) (Nat.le_of_ble_eq_true rfl) "LeasehallModel" rfl (fun p e s m below meth c A Q r0 S0 hf hw hret ls hl => ?_)
  replace hl : lv_has ls 4 [(0, .ref (ad 0 0)), (1, .int p1)] := hl
  unfold fX9_believers at hf
  have b60 : ∀ (x2 : Int32) (σ : qS), fX9_believers_60 F x2 σ = some r0 → qAt p l e (qRm 1 23) s m ([.ref (ad 0 0), .int p1] : List Value).toArray below meth c Q D (mL Y) (qT Y) A ad 4 0 0 60 [(2, .int x2)] [] σ := by
    clear hf hw hl ls
    intro x2 σ hf H locs ls hw hl
    unfold fX9_believers_60 at hf
    refine lv_iload_n S0.1 S0.2.1 dX9_believers_60 rfl (lv_at hl 0 rfl) ?_
    exact hret dX9_believers_61 hw hf
  have b52 : ∀ (k10 : Int32 → Int32 → Int32 → qS → Option (Int32 × qS)) (hk10 : ∀ (x1 : Int32) (x2 : Int32) (x3 : Int32) (σ : qS), k10 x1 x2 x3 σ = some r0 → qAt p l e (qRm 1 23) s m ([.ref (ad 0 0), .int p1] : List Value).toArray below meth c Q D (mL Y) (qT Y) A ad 4 0 0 10 [(0, .ref (ad 0 0)), (1, .int x1), (2, .int x2), (3, .int x3)] [] σ) (x1 : Int32) (x3 : Int32) (t0 : Int32) (t1 : Int32) (σ : qS), fX9_believers_52 F k10 x1 x3 t0 t1 σ = some r0 → qAt p l e (qRm 1 23) s m ([.ref (ad 0 0), .int p1] : List Value).toArray below meth c Q D (mL Y) (qT Y) A ad 4 0 0 52 [(0, .ref (ad 0 0)), (1, .int x1), (3, .int x3)] [.int t1, .int t0] σ := by
    clear hf hw hl ls
    intro k10 hk10
    intro x1 x3 t0 t1 σ hf H locs ls hw hl
    unfold fX9_believers_52 at hf
    refine lv_ior S0.1 S0.2.1 dX9_believers_52 (q_top hf (fun v12 hf => ?_))
    refine lv_istore_n (lv' := [(2, .int v12), (0, .ref (ad 0 0)), (1, .int x1), (3, .int x3)]) S0.1 S0.2.1 dX9_believers_53 rfl hl (by decide) rfl (fun ls hl => ?_)
    refine q_iinc S0 (v0 := 1) dX9_believers_54 hl (k := 3) rfl (by decide) (by decide) rfl hf (fun v13 ls hl hf => ?_)
    refine lv_goto (tgt := 10) S0.1 S0.2.1 dX9_believers_57 (by decide) ?_
    exact hk10 x1 v12 v13 σ hf _ _ _ hw (lv_sub hl [2, 3, 1, 0] rfl)
  have b10 : ∀ (n : Nat) (x1 : Int32) (x2 : Int32) (x3 : Int32) (σ : qS), fX9_believers_10 F n x1 x2 x3 σ = some r0 → qAt p l e (qRm 1 23) s m ([.ref (ad 0 0), .int p1] : List Value).toArray below meth c Q D (mL Y) (qT Y) A ad 4 0 0 10 [(0, .ref (ad 0 0)), (1, .int x1), (2, .int x2), (3, .int x3)] [] σ := by
    clear hf hw hl ls
    intro n
    induction n with
    | zero => intro x1 x2 x3 σ hf; exact absurd hf (by rw [fX9_believers_10]; exact nofun)
    | succ n hk10 =>
      intro x1 x2 x3 σ hf H locs ls hw hl
      rw [fX9_believers_10] at hf
      refine lv_iload_n S0.1 S0.2.1 dX9_believers_10 rfl (lv_at hl 3 rfl) ?_
      refine lv_aload_n S0.1 S0.2.1 dX9_believers_11 rfl (lv_at hl 0 rfl) ?_
      refine gX9_sessions S0 hw kw_1196 dX9_believers_12 hf (fun v3 hf => ?_)
      refine lv_icmp_ge (tgt := 60) S0.1 S0.2.1 dX9_believers_15 (by decide) (fun c4 => ?_) (fun c4 => ?_)
      · replace hf := q_pos c4 hf
        exact b60 x2 σ hf _ _ _ hw (lv_sub hl [2] rfl)
      · replace hf := q_neg c4 hf
        refine lv_aload_n S0.1 S0.2.1 dX9_believers_18 rfl (lv_at hl 0 rfl) ?_
        refine lv_iload_n S0.1 S0.2.1 dX9_believers_19 rfl (lv_at hl 1 rfl) ?_
        refine lv_iconst (v := 0) S0.1 S0.2.1 dX9_believers_20 (by decide) ?_
        refine lv_bipush (v := 79) S0.1 S0.2.1 dX9_believers_21 (by decide) ?_
        refine q_calli S0 hw (As := [.int x1, .int 0, .int 79]) (rest := []) (wX9_in l D Y ad F x1 0 79 σ) qyX9_in kw_1331 ⟨Nat.le_of_ble_eq_true rfl, Nat.le_of_ble_eq_true rfl⟩ dM_0 rfl rfl rfl rfl hl.1 (Nat.le_of_ble_eq_true rfl) dX9_believers_23 ⟨Nat.le_refl _, Nat.le_refl _⟩ rfl hf (fun v6 s5 H locs hw hf => ?_)
        refine lv_if_eq (tgt := 60) S0.1 S0.2.1 dX9_believers_26 (by decide) (fun c7 => ?_) (fun c7 => ?_)
        · replace hf := q_pos c7 hf
          exact b60 x2 s5 hf _ _ _ hw (lv_sub hl [2] rfl)
        · replace hf := q_neg c7 hf
          refine lv_iload_n S0.1 S0.2.1 dX9_believers_29 rfl (lv_at hl 2 rfl) ?_
          refine lv_aload_n S0.1 S0.2.1 dX9_believers_30 rfl (lv_at hl 0 rfl) ?_
          refine gX9_believes S0 hw kw_1195 dX9_believers_31 ?_
          refine lv_bipush (v := 80) S0.1 S0.2.1 dX9_believers_34 (by decide) ?_
          refine lv_iload_n S0.1 S0.2.1 dX9_believers_36 rfl (lv_at hl 3 rfl) ?_
          refine lv_imul S0.1 S0.2.1 dX9_believers_37 (q_top hf (fun v8 hf => ?_))
          refine lv_iload_n S0.1 S0.2.1 dX9_believers_38 rfl (lv_at hl 1 rfl) ?_
          refine lv_iadd S0.1 S0.2.1 dX9_believers_39 (q_top hf (fun v9 hf => ?_))
          refine q_iald S0 hw dM_147 (t0 := 0) rfl rfl dX9_believers_40 hf (fun v10 hf => ?_)
          refine lv_iconst (v := 1) S0.1 S0.2.1 dX9_believers_41 (by decide) ?_
          refine lv_icmp_ne (tgt := 51) S0.1 S0.2.1 dX9_believers_42 (by decide) (fun c11 => ?_) (fun c11 => ?_)
          · replace hf := q_neg c11 hf
            refine lv_iconst (v := 0) S0.1 S0.2.1 dX9_believers_51 (by decide) ?_
            exact b52 (fX9_believers_10 F n) hk10 x1 x3 x2 0 s5 hf _ _ _ hw (lv_sub hl [0, 1, 3] rfl)
          · replace hf := q_pos c11 hf
            refine lv_iconst (v := 1) S0.1 S0.2.1 dX9_believers_45 (by decide) ?_
            refine lv_iload_n S0.1 S0.2.1 dX9_believers_46 rfl (lv_at hl 3 rfl) ?_
            refine lv_ishl S0.1 S0.2.1 dX9_believers_47 (q_top hf (fun v14 hf => ?_))
            refine lv_goto (tgt := 52) S0.1 S0.2.1 dX9_believers_48 (by decide) ?_
            exact b52 (fX9_believers_10 F n) hk10 x1 x3 x2 v14 s5 hf _ _ _ hw (lv_sub hl [0, 1, 3] rfl)
  refine lv_aload_n S0.1 S0.2.1 dX9_believers_0 rfl (lv_at hl 0 rfl) ?_
  refine lv_iconst (v := 0) S0.1 S0.2.1 dX9_believers_1 (by decide) ?_
  refine q_calli S0 hw (As := [.int 0]) (rest := []) (wX9_holds l D Y ad F 0 σ) qyX9_holds kw_1335 ⟨Nat.le_of_ble_eq_true rfl, Nat.le_of_ble_eq_true rfl⟩ dM_0 rfl rfl rfl rfl hl.1 (Nat.le_of_ble_eq_true rfl) dX9_believers_2 ⟨Nat.le_refl _, Nat.le_refl _⟩ rfl hf (fun v2 s1 H locs hw hf => ?_)
  refine lv_pop S0.1 S0.2.1 dX9_believers_5 rfl ?_
  refine lv_iconst (v := 0) S0.1 S0.2.1 dX9_believers_6 (by decide) ?_
  refine lv_istore_n (lv' := [(2, .int 0), (0, .ref (ad 0 0)), (1, .int p1)]) S0.1 S0.2.1 dX9_believers_7 rfl hl (by decide) rfl (fun ls hl => ?_)
  refine lv_iconst (v := 0) S0.1 S0.2.1 dX9_believers_8 (by decide) ?_
  refine lv_istore_n (lv' := [(3, .int 0), (2, .int 0), (0, .ref (ad 0 0)), (1, .int p1)]) S0.1 S0.2.1 dX9_believers_9 rfl hl (by decide) rfl (fun ls hl => ?_)
  exact b10 F p1 0 0 s1 hf _ _ _ hw (lv_sub hl [2, 3, 1, 0] rfl)
def fX9_isOpen_88 (F : Nat) (t0 : Int32) (σ : qS) : Option (Int32 × qS) :=
  gbl t0 (some (t0, σ))
def fX9_isOpen_87 (F : Nat) (σ : qS) : Option (Int32 × qS) :=
  fX9_isOpen_88 F 0 σ
def fX9_isOpen_41 (F : Nat) (x1 : Int32) (x2 : Int32) (x3 : Int32) (t1 : Int32) (σ : qS) : Option (Int32 × qS) :=
  bnd2 (fX9_holds F t1 σ) fun v11 s10 => (if v11 = 0 then (bnd (fX9_does F x1 s10) fun s13 => (ldi 10 (s13.1 132 0) x1 fun v14 => (bnd2 (fX9_isThere F v14 x2 s13) fun v16 s15 => (if v16 = 0 then (fX9_isOpen_87 F s15) else (ldi 10 (s15.1 132 0) x1 fun v18 => (bnd2 (fX9_children F v18 x2 s15) fun v20 s19 => (if v20 < x3 then (fX9_isOpen_87 F s19) else (fX9_isOpen_88 F 1 s19)))))))) else (gbl 0 (some (0, s10))))
def fX9_isOpen (F : Nat) (p1 : Int32) (p2 : Int32) (p3 : Int32) (σ : qS) : Option (Int32 × qS) :=
  bnd2 (fX9_isSession F p1 σ) fun v2 s1 => (if v2 = 0 then (fX9_isOpen_41 F p1 p2 p3 1 s1) else (bnd2 (fX9_in F p3 1 80 s1) fun v5 s4 => (if v5 = 0 then (fX9_isOpen_41 F p1 p2 p3 2 s4) else (bnd2 (fX9_ended F p1 s4) fun v8 s7 => (if v8 = 0 then (fX9_isOpen_41 F p1 p2 p3 0 s7) else (fX9_isOpen_41 F p1 p2 p3 3 s7))))))
set_option maxRecDepth 100000 in
set_option maxHeartbeats 4000000 in
theorem wX9_isOpen (l : Launch) (D : va_G) (Y : Nat → ClassId) (ad : qAd) (F : Nat) (p1 : Int32) (p2 : Int32) (p3 : Int32) (σ : qS) : qCi l yX9_isOpen cX9_isOpen 4 (some .boolean) 2 45 D (mL Y) (qT Y) ad [.ref (ad 0 0), .int p1, .int p2, .int p3] σ (fX9_isOpen F p1 p2 p3 σ) := by
  refine q_ofz (by decide) (Nat.le_of_ble_eq_true rfl) "LeasehallModel" rfl (fun p e s m below meth c A Q r0 S0 hf hw hret ls hl => ?_)
  replace hl : lv_has ls 4 [(0, .ref (ad 0 0)), (1, .int p1), (2, .int p2), (3, .int p3)] := hl
  unfold fX9_isOpen at hf
  have b88 : ∀ (t0 : Int32) (σ : qS), fX9_isOpen_88 F t0 σ = some r0 → qAt p l e (qRm 2 45) s m ([.ref (ad 0 0), .int p1, .int p2, .int p3] : List Value).toArray below meth c Q D (mL Y) (qT Y) A ad 4 0 0 88 [] [.int t0] σ := by
    clear hf hw hl ls
    intro t0 σ hf H locs ls hw hl
    unfold fX9_isOpen_88 at hf
    exact hret dX9_isOpen_88 hw hf
  have b87 : ∀ (σ : qS), fX9_isOpen_87 F σ = some r0 → qAt p l e (qRm 2 45) s m ([.ref (ad 0 0), .int p1, .int p2, .int p3] : List Value).toArray below meth c Q D (mL Y) (qT Y) A ad 4 0 0 87 [] [] σ := by
    clear hf hw hl ls
    intro σ hf H locs ls hw hl
    unfold fX9_isOpen_87 at hf
    refine lv_iconst (v := 0) S0.1 S0.2.1 dX9_isOpen_87 (by decide) ?_
    exact b88 0 σ hf _ _ _ hw (lv_sub hl [] rfl)
  have b41 : ∀ (x1 : Int32) (x2 : Int32) (x3 : Int32) (t1 : Int32) (σ : qS), fX9_isOpen_41 F x1 x2 x3 t1 σ = some r0 → qAt p l e (qRm 2 45) s m ([.ref (ad 0 0), .int p1, .int p2, .int p3] : List Value).toArray below meth c Q D (mL Y) (qT Y) A ad 4 0 0 41 [(0, .ref (ad 0 0)), (1, .int x1), (2, .int x2), (3, .int x3)] [.int t1, .ref (ad 0 0)] σ := by
    clear hf hw hl ls
    intro x1 x2 x3 t1 σ hf H locs ls hw hl
    unfold fX9_isOpen_41 at hf
    refine q_calli S0 hw (As := [.int t1]) (rest := []) (wX9_holds l D Y ad F t1 σ) qyX9_holds kw_1335 ⟨Nat.le_of_ble_eq_true rfl, Nat.le_of_ble_eq_true rfl⟩ dM_0 rfl rfl rfl rfl hl.1 (Nat.le_of_ble_eq_true rfl) dX9_isOpen_41 ⟨Nat.le_refl _, Nat.le_refl _⟩ rfl hf (fun v11 s10 H locs hw hf => ?_)
    refine lv_if_eq (tgt := 49) S0.1 S0.2.1 dX9_isOpen_44 (by decide) (fun c12 => ?_) (fun c12 => ?_)
    · replace hf := q_pos c12 hf
      refine lv_aload_n S0.1 S0.2.1 dX9_isOpen_49 rfl (lv_at hl 0 rfl) ?_
      refine lv_iload_n S0.1 S0.2.1 dX9_isOpen_50 rfl (lv_at hl 1 rfl) ?_
      refine q_callv S0 hw (As := [.int x1]) (rest := []) (wX9_does l D Y ad F x1 s10) qyX9_does kw_1415 ⟨Nat.le_of_ble_eq_true rfl, Nat.le_of_ble_eq_true rfl⟩ dM_0 rfl rfl rfl rfl hl.1 (Nat.le_of_ble_eq_true rfl) dX9_isOpen_51 ⟨Nat.le_refl _, Nat.le_refl _⟩ rfl hf (fun s13 H locs hw hf => ?_)
      refine lv_aload_n S0.1 S0.2.1 dX9_isOpen_54 rfl (lv_at hl 0 rfl) ?_
      refine lv_aload_n S0.1 S0.2.1 dX9_isOpen_55 rfl (lv_at hl 0 rfl) ?_
      refine gX9_zs S0 hw kw_1180 dX9_isOpen_56 ?_
      refine lv_iload_n S0.1 S0.2.1 dX9_isOpen_59 rfl (lv_at hl 1 rfl) ?_
      refine q_iald S0 hw dM_132 (t0 := 0) rfl rfl dX9_isOpen_60 hf (fun v14 hf => ?_)
      refine lv_iload_n S0.1 S0.2.1 dX9_isOpen_61 rfl (lv_at hl 2 rfl) ?_
      refine q_calli S0 hw (As := [.int v14, .int x2]) (rest := []) (wX9_isThere l D Y ad F v14 x2 s13) qyX9_isThere kw_1463 ⟨Nat.le_of_ble_eq_true rfl, Nat.le_of_ble_eq_true rfl⟩ dM_0 rfl rfl rfl rfl hl.1 (Nat.le_of_ble_eq_true rfl) dX9_isOpen_62 ⟨Nat.le_refl _, Nat.le_refl _⟩ rfl hf (fun v16 s15 H locs hw hf => ?_)
      refine lv_if_eq (tgt := 87) S0.1 S0.2.1 dX9_isOpen_65 (by decide) (fun c17 => ?_) (fun c17 => ?_)
      · replace hf := q_pos c17 hf
        exact b87 s15 hf _ _ _ hw (lv_sub hl [] rfl)
      · replace hf := q_neg c17 hf
        refine lv_aload_n S0.1 S0.2.1 dX9_isOpen_68 rfl (lv_at hl 0 rfl) ?_
        refine lv_aload_n S0.1 S0.2.1 dX9_isOpen_69 rfl (lv_at hl 0 rfl) ?_
        refine gX9_zs S0 hw kw_1180 dX9_isOpen_70 ?_
        refine lv_iload_n S0.1 S0.2.1 dX9_isOpen_73 rfl (lv_at hl 1 rfl) ?_
        refine q_iald S0 hw dM_132 (t0 := 0) rfl rfl dX9_isOpen_74 hf (fun v18 hf => ?_)
        refine lv_iload_n S0.1 S0.2.1 dX9_isOpen_75 rfl (lv_at hl 2 rfl) ?_
        refine q_calli S0 hw (As := [.int v18, .int x2]) (rest := []) (wX9_children l D Y ad F v18 x2 s15) qyX9_children kw_1383 ⟨Nat.le_of_ble_eq_true rfl, Nat.le_of_ble_eq_true rfl⟩ dM_0 rfl rfl rfl rfl hl.1 (Nat.le_of_ble_eq_true rfl) dX9_isOpen_76 ⟨Nat.le_refl _, Nat.le_refl _⟩ rfl hf (fun v20 s19 H locs hw hf => ?_)
        refine lv_iload_n S0.1 S0.2.1 dX9_isOpen_79 rfl (lv_at hl 3 rfl) ?_
        refine lv_icmp_lt (tgt := 87) S0.1 S0.2.1 dX9_isOpen_80 (by decide) (fun c21 => ?_) (fun c21 => ?_)
        · replace hf := q_pos c21 hf
          exact b87 s19 hf _ _ _ hw (lv_sub hl [] rfl)
        · replace hf := q_neg c21 hf
          refine lv_iconst (v := 1) S0.1 S0.2.1 dX9_isOpen_83 (by decide) ?_
          refine lv_goto (tgt := 88) S0.1 S0.2.1 dX9_isOpen_84 (by decide) ?_
          exact b88 1 s19 hf _ _ _ hw (lv_sub hl [] rfl)
    · replace hf := q_neg c12 hf
      refine lv_iconst (v := 0) S0.1 S0.2.1 dX9_isOpen_47 (by decide) ?_
      exact hret dX9_isOpen_48 hw hf
  refine lv_aload_n S0.1 S0.2.1 dX9_isOpen_0 rfl (lv_at hl 0 rfl) ?_
  refine lv_aload_n S0.1 S0.2.1 dX9_isOpen_1 rfl (lv_at hl 0 rfl) ?_
  refine lv_iload_n S0.1 S0.2.1 dX9_isOpen_2 rfl (lv_at hl 1 rfl) ?_
  refine q_calli S0 hw (As := [.int p1]) (rest := [.ref (ad 0 0)]) (wX9_isSession l D Y ad F p1 σ) qyX9_isSession kw_1343 ⟨Nat.le_of_ble_eq_true rfl, Nat.le_of_ble_eq_true rfl⟩ dM_0 rfl rfl rfl rfl hl.1 (Nat.le_of_ble_eq_true rfl) dX9_isOpen_3 ⟨Nat.le_refl _, Nat.le_refl _⟩ rfl hf (fun v2 s1 H locs hw hf => ?_)
  refine lv_if_ne (tgt := 13) S0.1 S0.2.1 dX9_isOpen_6 (by decide) (fun c3 => ?_) (fun c3 => ?_)
  · replace hf := q_neg c3 hf
    refine lv_aload_n S0.1 S0.2.1 dX9_isOpen_13 rfl (lv_at hl 0 rfl) ?_
    refine lv_iload_n S0.1 S0.2.1 dX9_isOpen_14 rfl (lv_at hl 3 rfl) ?_
    refine lv_iconst (v := 1) S0.1 S0.2.1 dX9_isOpen_15 (by decide) ?_
    refine lv_bipush (v := 80) S0.1 S0.2.1 dX9_isOpen_16 (by decide) ?_
    refine q_calli S0 hw (As := [.int p3, .int 1, .int 80]) (rest := [.ref (ad 0 0)]) (wX9_in l D Y ad F p3 1 80 s1) qyX9_in kw_1331 ⟨Nat.le_of_ble_eq_true rfl, Nat.le_of_ble_eq_true rfl⟩ dM_0 rfl rfl rfl rfl hl.1 (Nat.le_of_ble_eq_true rfl) dX9_isOpen_18 ⟨Nat.le_refl _, Nat.le_refl _⟩ rfl hf (fun v5 s4 H locs hw hf => ?_)
    refine lv_if_ne (tgt := 28) S0.1 S0.2.1 dX9_isOpen_21 (by decide) (fun c6 => ?_) (fun c6 => ?_)
    · replace hf := q_neg c6 hf
      refine lv_aload_n S0.1 S0.2.1 dX9_isOpen_28 rfl (lv_at hl 0 rfl) ?_
      refine lv_iload_n S0.1 S0.2.1 dX9_isOpen_29 rfl (lv_at hl 1 rfl) ?_
      refine q_calli S0 hw (As := [.int p1]) (rest := [.ref (ad 0 0)]) (wX9_ended l D Y ad F p1 s4) qyX9_ended kw_1347 ⟨Nat.le_of_ble_eq_true rfl, Nat.le_of_ble_eq_true rfl⟩ dM_0 rfl rfl rfl rfl hl.1 (Nat.le_of_ble_eq_true rfl) dX9_isOpen_30 ⟨Nat.le_refl _, Nat.le_refl _⟩ rfl hf (fun v8 s7 H locs hw hf => ?_)
      refine lv_if_eq (tgt := 40) S0.1 S0.2.1 dX9_isOpen_33 (by decide) (fun c9 => ?_) (fun c9 => ?_)
      · replace hf := q_pos c9 hf
        refine lv_iconst (v := 0) S0.1 S0.2.1 dX9_isOpen_40 (by decide) ?_
        exact b41 p1 p2 p3 0 s7 hf _ _ _ hw (lv_sub hl [0, 1, 2, 3] rfl)
      · replace hf := q_neg c9 hf
        refine lv_iconst (v := 3) S0.1 S0.2.1 dX9_isOpen_36 (by decide) ?_
        refine lv_goto (tgt := 41) S0.1 S0.2.1 dX9_isOpen_37 (by decide) ?_
        exact b41 p1 p2 p3 3 s7 hf _ _ _ hw (lv_sub hl [0, 1, 2, 3] rfl)
    · replace hf := q_pos c6 hf
      refine lv_iconst (v := 2) S0.1 S0.2.1 dX9_isOpen_24 (by decide) ?_
      refine lv_goto (tgt := 41) S0.1 S0.2.1 dX9_isOpen_25 (by decide) ?_
      exact b41 p1 p2 p3 2 s4 hf _ _ _ hw (lv_sub hl [0, 1, 2, 3] rfl)
  · replace hf := q_pos c3 hf
    refine lv_iconst (v := 1) S0.1 S0.2.1 dX9_isOpen_9 (by decide) ?_
    refine lv_goto (tgt := 41) S0.1 S0.2.1 dX9_isOpen_10 (by decide) ?_
    exact b41 p1 p2 p3 1 s1 hf _ _ _ hw (lv_sub hl [0, 1, 2, 3] rfl)
def fX9_takeFirst_215 (F : Nat) (t0 : Int32) (σ : qS) : Option (Int32 × qS) :=
  some (t0, σ)
def fX9_takeFirst_167 (F : Nat) (k88 : Int32 → Int32 → Int32 → Int32 → qS → Option (Int32 × qS)) (x1 : Int32) (x2 : Int32) (x4 : Int32) (t0 : Int32) (σ : qS) : Option (Int32 × qS) :=
  nm (x4 + 1) fun v32 => (k88 x1 x2 t0 v32 σ)
def fX9_takeFirst_166 (F : Nat) (k88 : Int32 → Int32 → Int32 → Int32 → qS → Option (Int32 × qS)) (x1 : Int32) (x2 : Int32) (x3 : Int32) (x4 : Int32) (σ : qS) : Option (Int32 × qS) :=
  fX9_takeFirst_167 F k88 x1 x2 x4 x3 σ
def fX9_takeFirst_161 (F : Nat) (k88 : Int32 → Int32 → Int32 → Int32 → qS → Option (Int32 × qS)) (x1 : Int32) (x2 : Int32) (x4 : Int32) (σ : qS) : Option (Int32 × qS) :=
  fX9_takeFirst_167 F k88 x1 x2 x4 x4 σ
def fX9_takeFirst_134 (F : Nat) (k88 : Int32 → Int32 → Int32 → Int32 → qS → Option (Int32 × qS)) (x1 : Int32) (x2 : Int32) (x3 : Int32) (x4 : Int32) (t0 : Int32) (σ : qS) : Option (Int32 × qS) :=
  if t0 = 0 then (fX9_takeFirst_166 F k88 x1 x2 x3 x4 σ) else (if x3 < 0 then (fX9_takeFirst_161 F k88 x1 x2 x4 σ) else (ldi 80 (σ.1 101 0) x4 fun v34 => (ldi 80 (σ.1 101 0) x3 fun v35 => (if v35 ≤ v34 then (fX9_takeFirst_166 F k88 x1 x2 x3 x4 σ) else (fX9_takeFirst_161 F k88 x1 x2 x4 σ)))))
def fX9_takeFirst_133 (F : Nat) (k88 : Int32 → Int32 → Int32 → Int32 → qS → Option (Int32 × qS)) (x1 : Int32) (x2 : Int32) (x3 : Int32) (x4 : Int32) (σ : qS) : Option (Int32 × qS) :=
  fX9_takeFirst_134 F k88 x1 x2 x3 x4 0 σ
def fX9_takeFirst_88 (F : Nat) : Nat → Int32 → Int32 → Int32 → Int32 → qS → Option (Int32 × qS)
  | 0, _, _, _, _, _ => none
  | n + 1, x1, x2, x3, x4, σ =>
  nm (σ.1 0 0 7) fun v19 => (if v19 ≤ x4 then (if 0 ≤ x3 then (ldi 400 (σ.1 109 0) x3 fun v22 => (bnd (fX9_begin F σ) fun s23 => (bnd2 (fX9_goes F x3 s23) fun v25 s24 => (bnd2 (fX9_settles F x1 s24) fun v27 s26 => (if v27 = 0 then (fX9_takeFirst_215 F v22 s26) else (fX9_takeFirst_215 F ((-9)) s26)))))) else (some ((-100), σ))) else (ldi 400 (σ.1 108 0) x4 fun v29 => (if v29 = 1 then (ldi 80 (σ.1 100 0) x4 fun v37 => (if v37 = x2 then (bnd2 (fX9_children F 0 x4 σ) fun v40 s39 => (if v40 = 0 then (fX9_takeFirst_134 F (fX9_takeFirst_88 F n) x1 x2 x3 x4 1 s39) else (fX9_takeFirst_133 F (fX9_takeFirst_88 F n) x1 x2 x3 x4 s39))) else (fX9_takeFirst_133 F (fX9_takeFirst_88 F n) x1 x2 x3 x4 σ))) else (fX9_takeFirst_133 F (fX9_takeFirst_88 F n) x1 x2 x3 x4 σ))))
def fX9_takeFirst_36 (F : Nat) (x1 : Int32) (x2 : Int32) (t1 : Int32) (σ : qS) : Option (Int32 × qS) :=
  bnd2 (fX9_holds F t1 σ) fun v8 s7 => (if v8 = 0 then (bnd (fX9_does F x1 s7) fun s10 => (bnd2 (fX9_isThere F 0 x2 s10) fun v12 s11 => (if v12 = 0 then (some ((-1), s11)) else (ldi 400 (s11.1 114 0) x2 fun v14 => (ldi 10 (s11.1 131 0) x1 fun v15 => (bnd2 (fX9_may F v14 v15 s11) fun v17 s16 => (if v17 = 0 then (some ((-2), s16)) else (fX9_takeFirst_88 F F x1 x2 ((-100)) 1 s16)))))))) else (some ((-1), s7)))
def fX9_takeFirst_31 (F : Nat) (x1 : Int32) (x2 : Int32) (σ : qS) : Option (Int32 × qS) :=
  fX9_takeFirst_36 F x1 x2 2 σ
def fX9_takeFirst (F : Nat) (p1 : Int32) (p2 : Int32) (σ : qS) : Option (Int32 × qS) :=
  bnd2 (fX9_isSession F p1 σ) fun v2 s1 => (if v2 = 0 then (fX9_takeFirst_36 F p1 p2 1 s1) else (bnd2 (fX9_ended F p1 s1) fun v5 s4 => (if v5 = 0 then (ldi 10 (s4.1 136 0) p1 fun v42 => (if v42 = 1 then (fX9_takeFirst_31 F p1 p2 s4) else (fX9_takeFirst_36 F p1 p2 0 s4))) else (fX9_takeFirst_31 F p1 p2 s4))))
set_option maxRecDepth 100000 in
set_option maxHeartbeats 4000000 in
theorem wX9_takeFirst (l : Launch) (D : va_G) (Y : Nat → ClassId) (ad : qAd) (F : Nat) (p1 : Int32) (p2 : Int32) (σ : qS) : qCi l yX9_takeFirst cX9_takeFirst 6 (some .int) 6 139 D (mL Y) (qT Y) ad [.ref (ad 0 0), .int p1, .int p2] σ (fX9_takeFirst F p1 p2 σ) := by
  refine q_ofi (by decide) (Nat.le_of_ble_eq_true rfl) "LeasehallModel" rfl (fun p e s m below meth c A Q r0 S0 hf hw hret ls hl => ?_)
  replace hl : lv_has ls 6 [(0, .ref (ad 0 0)), (1, .int p1), (2, .int p2)] := hl
  unfold fX9_takeFirst at hf
  have b215 : ∀ (t0 : Int32) (σ : qS), fX9_takeFirst_215 F t0 σ = some r0 → qAt p l e (qRm 6 139) s m ([.ref (ad 0 0), .int p1, .int p2] : List Value).toArray below meth c Q D (mL Y) (qT Y) A ad 6 0 0 215 [] [.int t0] σ := by
    clear hf hw hl ls
    intro t0 σ hf H locs ls hw hl
    unfold fX9_takeFirst_215 at hf
    exact hret dX9_takeFirst_215 hw hf
  have b167 : ∀ (k88 : Int32 → Int32 → Int32 → Int32 → qS → Option (Int32 × qS)) (hk88 : ∀ (x1 : Int32) (x2 : Int32) (x3 : Int32) (x4 : Int32) (σ : qS), k88 x1 x2 x3 x4 σ = some r0 → qAt p l e (qRm 6 139) s m ([.ref (ad 0 0), .int p1, .int p2] : List Value).toArray below meth c Q D (mL Y) (qT Y) A ad 6 0 0 88 [(0, .ref (ad 0 0)), (1, .int x1), (2, .int x2), (3, .int x3), (4, .int x4)] [] σ) (x1 : Int32) (x2 : Int32) (x4 : Int32) (t0 : Int32) (σ : qS), fX9_takeFirst_167 F k88 x1 x2 x4 t0 σ = some r0 → qAt p l e (qRm 6 139) s m ([.ref (ad 0 0), .int p1, .int p2] : List Value).toArray below meth c Q D (mL Y) (qT Y) A ad 6 0 0 167 [(0, .ref (ad 0 0)), (1, .int x1), (2, .int x2), (4, .int x4)] [.int t0] σ := by
    clear hf hw hl ls
    intro k88 hk88
    intro x1 x2 x4 t0 σ hf H locs ls hw hl
    unfold fX9_takeFirst_167 at hf
    refine lv_istore_n (lv' := [(3, .int t0), (0, .ref (ad 0 0)), (1, .int x1), (2, .int x2), (4, .int x4)]) S0.1 S0.2.1 dX9_takeFirst_167 rfl hl (by decide) rfl (fun ls hl => ?_)
    refine q_iinc S0 (v0 := 1) dX9_takeFirst_168 hl (k := 4) rfl (by decide) (by decide) rfl hf (fun v32 ls hl hf => ?_)
    refine lv_goto (tgt := 88) S0.1 S0.2.1 dX9_takeFirst_171 (by decide) ?_
    exact hk88 x1 x2 t0 v32 σ hf _ _ _ hw (lv_sub hl [2, 3, 4, 1, 0] rfl)
  have b166 : ∀ (k88 : Int32 → Int32 → Int32 → Int32 → qS → Option (Int32 × qS)) (hk88 : ∀ (x1 : Int32) (x2 : Int32) (x3 : Int32) (x4 : Int32) (σ : qS), k88 x1 x2 x3 x4 σ = some r0 → qAt p l e (qRm 6 139) s m ([.ref (ad 0 0), .int p1, .int p2] : List Value).toArray below meth c Q D (mL Y) (qT Y) A ad 6 0 0 88 [(0, .ref (ad 0 0)), (1, .int x1), (2, .int x2), (3, .int x3), (4, .int x4)] [] σ) (x1 : Int32) (x2 : Int32) (x3 : Int32) (x4 : Int32) (σ : qS), fX9_takeFirst_166 F k88 x1 x2 x3 x4 σ = some r0 → qAt p l e (qRm 6 139) s m ([.ref (ad 0 0), .int p1, .int p2] : List Value).toArray below meth c Q D (mL Y) (qT Y) A ad 6 0 0 166 [(0, .ref (ad 0 0)), (1, .int x1), (2, .int x2), (3, .int x3), (4, .int x4)] [] σ := by
    clear hf hw hl ls
    intro k88 hk88
    intro x1 x2 x3 x4 σ hf H locs ls hw hl
    unfold fX9_takeFirst_166 at hf
    refine lv_iload_n S0.1 S0.2.1 dX9_takeFirst_166 rfl (lv_at hl 3 rfl) ?_
    exact b167 k88 hk88 x1 x2 x4 x3 σ hf _ _ _ hw (lv_sub hl [0, 1, 2, 4] rfl)
  have b161 : ∀ (k88 : Int32 → Int32 → Int32 → Int32 → qS → Option (Int32 × qS)) (hk88 : ∀ (x1 : Int32) (x2 : Int32) (x3 : Int32) (x4 : Int32) (σ : qS), k88 x1 x2 x3 x4 σ = some r0 → qAt p l e (qRm 6 139) s m ([.ref (ad 0 0), .int p1, .int p2] : List Value).toArray below meth c Q D (mL Y) (qT Y) A ad 6 0 0 88 [(0, .ref (ad 0 0)), (1, .int x1), (2, .int x2), (3, .int x3), (4, .int x4)] [] σ) (x1 : Int32) (x2 : Int32) (x4 : Int32) (σ : qS), fX9_takeFirst_161 F k88 x1 x2 x4 σ = some r0 → qAt p l e (qRm 6 139) s m ([.ref (ad 0 0), .int p1, .int p2] : List Value).toArray below meth c Q D (mL Y) (qT Y) A ad 6 0 0 161 [(0, .ref (ad 0 0)), (1, .int x1), (2, .int x2), (4, .int x4)] [] σ := by
    clear hf hw hl ls
    intro k88 hk88
    intro x1 x2 x4 σ hf H locs ls hw hl
    unfold fX9_takeFirst_161 at hf
    refine lv_iload S0.1 S0.2.1 dX9_takeFirst_161 (lv_at hl 3 rfl) ?_
    refine lv_goto (tgt := 167) S0.1 S0.2.1 dX9_takeFirst_163 (by decide) ?_
    exact b167 k88 hk88 x1 x2 x4 x4 σ hf _ _ _ hw (lv_sub hl [0, 1, 2, 3] rfl)
  have b134 : ∀ (k88 : Int32 → Int32 → Int32 → Int32 → qS → Option (Int32 × qS)) (hk88 : ∀ (x1 : Int32) (x2 : Int32) (x3 : Int32) (x4 : Int32) (σ : qS), k88 x1 x2 x3 x4 σ = some r0 → qAt p l e (qRm 6 139) s m ([.ref (ad 0 0), .int p1, .int p2] : List Value).toArray below meth c Q D (mL Y) (qT Y) A ad 6 0 0 88 [(0, .ref (ad 0 0)), (1, .int x1), (2, .int x2), (3, .int x3), (4, .int x4)] [] σ) (x1 : Int32) (x2 : Int32) (x3 : Int32) (x4 : Int32) (t0 : Int32) (σ : qS), fX9_takeFirst_134 F k88 x1 x2 x3 x4 t0 σ = some r0 → qAt p l e (qRm 6 139) s m ([.ref (ad 0 0), .int p1, .int p2] : List Value).toArray below meth c Q D (mL Y) (qT Y) A ad 6 0 0 134 [(0, .ref (ad 0 0)), (1, .int x1), (2, .int x2), (3, .int x3), (4, .int x4)] [.int t0] σ := by
    clear hf hw hl ls
    intro k88 hk88
    intro x1 x2 x3 x4 t0 σ hf H locs ls hw hl
    unfold fX9_takeFirst_134 at hf
    refine lv_istore (lv' := [(5, .int t0), (0, .ref (ad 0 0)), (1, .int x1), (2, .int x2), (3, .int x3), (4, .int x4)]) S0.1 S0.2.1 dX9_takeFirst_134 hl (by decide) rfl (fun ls hl => ?_)
    refine lv_iload S0.1 S0.2.1 dX9_takeFirst_136 (lv_at hl 0 rfl) ?_
    refine lv_if_eq (tgt := 166) S0.1 S0.2.1 dX9_takeFirst_138 (by decide) (fun c31 => ?_) (fun c31 => ?_)
    · replace hf := q_pos c31 hf
      exact b166 k88 hk88 x1 x2 x3 x4 σ hf _ _ _ hw (lv_sub hl [1, 2, 3, 4, 5] rfl)
    · replace hf := q_neg c31 hf
      refine lv_iload_n S0.1 S0.2.1 dX9_takeFirst_141 rfl (lv_at hl 4 rfl) ?_
      refine lv_if_lt (tgt := 161) S0.1 S0.2.1 dX9_takeFirst_142 (by decide) (fun c33 => ?_) (fun c33 => ?_)
      · replace hf := q_pos c33 hf
        exact b161 k88 hk88 x1 x2 x4 σ hf _ _ _ hw (lv_sub hl [1, 2, 3, 5] rfl)
      · replace hf := q_neg c33 hf
        refine lv_aload_n S0.1 S0.2.1 dX9_takeFirst_145 rfl (lv_at hl 1 rfl) ?_
        refine gX9_name S0 hw kw_1149 dX9_takeFirst_146 ?_
        refine lv_iload S0.1 S0.2.1 dX9_takeFirst_149 (lv_at hl 5 rfl) ?_
        refine q_iald S0 hw dM_101 (t0 := 0) rfl rfl dX9_takeFirst_151 hf (fun v34 hf => ?_)
        refine lv_aload_n S0.1 S0.2.1 dX9_takeFirst_152 rfl (lv_at hl 1 rfl) ?_
        refine gX9_name S0 hw kw_1149 dX9_takeFirst_153 ?_
        refine lv_iload_n S0.1 S0.2.1 dX9_takeFirst_156 rfl (lv_at hl 4 rfl) ?_
        refine q_iald S0 hw dM_101 (t0 := 0) rfl rfl dX9_takeFirst_157 hf (fun v35 hf => ?_)
        refine lv_icmp_ge (tgt := 166) S0.1 S0.2.1 dX9_takeFirst_158 (by decide) (fun c36 => ?_) (fun c36 => ?_)
        · replace hf := q_pos c36 hf
          exact b166 k88 hk88 x1 x2 x3 x4 σ hf _ _ _ hw (lv_sub hl [1, 2, 3, 4, 5] rfl)
        · replace hf := q_neg c36 hf
          exact b161 k88 hk88 x1 x2 x4 σ hf _ _ _ hw (lv_sub hl [1, 2, 3, 5] rfl)
  have b133 : ∀ (k88 : Int32 → Int32 → Int32 → Int32 → qS → Option (Int32 × qS)) (hk88 : ∀ (x1 : Int32) (x2 : Int32) (x3 : Int32) (x4 : Int32) (σ : qS), k88 x1 x2 x3 x4 σ = some r0 → qAt p l e (qRm 6 139) s m ([.ref (ad 0 0), .int p1, .int p2] : List Value).toArray below meth c Q D (mL Y) (qT Y) A ad 6 0 0 88 [(0, .ref (ad 0 0)), (1, .int x1), (2, .int x2), (3, .int x3), (4, .int x4)] [] σ) (x1 : Int32) (x2 : Int32) (x3 : Int32) (x4 : Int32) (σ : qS), fX9_takeFirst_133 F k88 x1 x2 x3 x4 σ = some r0 → qAt p l e (qRm 6 139) s m ([.ref (ad 0 0), .int p1, .int p2] : List Value).toArray below meth c Q D (mL Y) (qT Y) A ad 6 0 0 133 [(0, .ref (ad 0 0)), (1, .int x1), (2, .int x2), (3, .int x3), (4, .int x4)] [] σ := by
    clear hf hw hl ls
    intro k88 hk88
    intro x1 x2 x3 x4 σ hf H locs ls hw hl
    unfold fX9_takeFirst_133 at hf
    refine lv_iconst (v := 0) S0.1 S0.2.1 dX9_takeFirst_133 (by decide) ?_
    exact b134 k88 hk88 x1 x2 x3 x4 0 σ hf _ _ _ hw (lv_sub hl [0, 1, 2, 3, 4] rfl)
  have b88 : ∀ (n : Nat) (x1 : Int32) (x2 : Int32) (x3 : Int32) (x4 : Int32) (σ : qS), fX9_takeFirst_88 F n x1 x2 x3 x4 σ = some r0 → qAt p l e (qRm 6 139) s m ([.ref (ad 0 0), .int p1, .int p2] : List Value).toArray below meth c Q D (mL Y) (qT Y) A ad 6 0 0 88 [(0, .ref (ad 0 0)), (1, .int x1), (2, .int x2), (3, .int x3), (4, .int x4)] [] σ := by
    clear hf hw hl ls
    intro n
    induction n with
    | zero => intro x1 x2 x3 x4 σ hf; exact absurd hf (by rw [fX9_takeFirst_88]; exact nofun)
    | succ n hk88 =>
      intro x1 x2 x3 x4 σ hf H locs ls hw hl
      rw [fX9_takeFirst_88] at hf
      refine lv_iload S0.1 S0.2.1 dX9_takeFirst_88 (lv_at hl 4 rfl) ?_
      refine lv_aload_n S0.1 S0.2.1 dX9_takeFirst_90 rfl (lv_at hl 0 rfl) ?_
      refine gX9_nodes S0 hw kw_1155 dX9_takeFirst_91 hf (fun v19 hf => ?_)
      refine lv_icmp_ge (tgt := 174) S0.1 S0.2.1 dX9_takeFirst_94 (by decide) (fun c20 => ?_) (fun c20 => ?_)
      · replace hf := q_pos c20 hf
        refine lv_iload_n S0.1 S0.2.1 dX9_takeFirst_174 rfl (lv_at hl 3 rfl) ?_
        refine lv_if_ge (tgt := 181) S0.1 S0.2.1 dX9_takeFirst_175 (by decide) (fun c21 => ?_) (fun c21 => ?_)
        · replace hf := q_pos c21 hf
          refine lv_aload_n S0.1 S0.2.1 dX9_takeFirst_181 rfl (lv_at hl 0 rfl) ?_
          refine gX9_val S0 hw kw_1157 dX9_takeFirst_182 ?_
          refine lv_iload_n S0.1 S0.2.1 dX9_takeFirst_185 rfl (lv_at hl 3 rfl) ?_
          refine q_iald S0 hw dM_109 (t0 := 0) rfl rfl dX9_takeFirst_186 hf (fun v22 hf => ?_)
          refine lv_istore (lv' := [(4, .int v22), (0, .ref (ad 0 0)), (1, .int x1), (2, .int x2), (3, .int x3)]) S0.1 S0.2.1 dX9_takeFirst_187 hl (by decide) rfl (fun ls hl => ?_)
          refine lv_aload_n S0.1 S0.2.1 dX9_takeFirst_189 rfl (lv_at hl 1 rfl) ?_
          refine q_callv S0 hw (As := []) (rest := []) (wX9_begin l D Y ad F σ) qyX9_begin kw_1359 ⟨Nat.le_of_ble_eq_true rfl, Nat.le_of_ble_eq_true rfl⟩ dM_0 rfl rfl rfl rfl hl.1 (Nat.le_of_ble_eq_true rfl) dX9_takeFirst_190 ⟨Nat.le_refl _, Nat.le_refl _⟩ rfl hf (fun s23 H locs hw hf => ?_)
          refine lv_aload_n S0.1 S0.2.1 dX9_takeFirst_193 rfl (lv_at hl 1 rfl) ?_
          refine lv_iload_n S0.1 S0.2.1 dX9_takeFirst_194 rfl (lv_at hl 4 rfl) ?_
          refine q_calli S0 hw (As := [.int x3]) (rest := []) (wX9_goes l D Y ad F x3 s23) qyX9_goes kw_1367 ⟨Nat.le_of_ble_eq_true rfl, Nat.le_of_ble_eq_true rfl⟩ dM_0 rfl rfl rfl rfl hl.1 (Nat.le_of_ble_eq_true rfl) dX9_takeFirst_195 ⟨Nat.le_refl _, Nat.le_refl _⟩ rfl hf (fun v25 s24 H locs hw hf => ?_)
          refine lv_istore (lv' := [(5, .int v25), (4, .int v22), (0, .ref (ad 0 0)), (1, .int x1), (2, .int x2), (3, .int x3)]) S0.1 S0.2.1 dX9_takeFirst_198 hl (by decide) rfl (fun ls hl => ?_)
          refine lv_aload_n S0.1 S0.2.1 dX9_takeFirst_200 rfl (lv_at hl 2 rfl) ?_
          refine lv_iload_n S0.1 S0.2.1 dX9_takeFirst_201 rfl (lv_at hl 3 rfl) ?_
          refine q_calli S0 hw (As := [.int x1]) (rest := []) (wX9_settles l D Y ad F x1 s24) qyX9_settles kw_1499 ⟨Nat.le_of_ble_eq_true rfl, Nat.le_of_ble_eq_true rfl⟩ dM_0 rfl rfl rfl rfl hl.1 (Nat.le_of_ble_eq_true rfl) dX9_takeFirst_202 ⟨Nat.le_refl _, Nat.le_refl _⟩ rfl hf (fun v27 s26 H locs hw hf => ?_)
          refine lv_if_eq (tgt := 213) S0.1 S0.2.1 dX9_takeFirst_205 (by decide) (fun c28 => ?_) (fun c28 => ?_)
          · replace hf := q_pos c28 hf
            refine lv_iload S0.1 S0.2.1 dX9_takeFirst_213 (lv_at hl 1 rfl) ?_
            exact b215 v22 s26 hf _ _ _ hw (lv_sub hl [] rfl)
          · replace hf := q_neg c28 hf
            refine lv_bipush (v := (-9)) S0.1 S0.2.1 dX9_takeFirst_208 (by decide) ?_
            refine lv_goto (tgt := 215) S0.1 S0.2.1 dX9_takeFirst_210 (by decide) ?_
            exact b215 ((-9)) s26 hf _ _ _ hw (lv_sub hl [] rfl)
        · replace hf := q_neg c21 hf
          refine lv_bipush (v := (-100)) S0.1 S0.2.1 dX9_takeFirst_178 (by decide) ?_
          exact hret dX9_takeFirst_180 hw hf
      · replace hf := q_neg c20 hf
        refine lv_aload_n S0.1 S0.2.1 dX9_takeFirst_97 rfl (lv_at hl 0 rfl) ?_
        refine gX9_is S0 hw kw_1156 dX9_takeFirst_98 ?_
        refine lv_iload S0.1 S0.2.1 dX9_takeFirst_101 (lv_at hl 4 rfl) ?_
        refine q_iald S0 hw dM_108 (t0 := 0) rfl rfl dX9_takeFirst_103 hf (fun v29 hf => ?_)
        refine lv_iconst (v := 1) S0.1 S0.2.1 dX9_takeFirst_104 (by decide) ?_
        refine lv_icmp_ne (tgt := 133) S0.1 S0.2.1 dX9_takeFirst_105 (by decide) (fun c30 => ?_) (fun c30 => ?_)
        · replace hf := q_neg c30 hf
          exact b133 (fX9_takeFirst_88 F n) hk88 x1 x2 x3 x4 σ hf _ _ _ hw (lv_sub hl [0, 1, 2, 3, 4] rfl)
        · replace hf := q_pos c30 hf
          refine lv_aload_n S0.1 S0.2.1 dX9_takeFirst_108 rfl (lv_at hl 0 rfl) ?_
          refine gX9_parent S0 hw kw_1148 dX9_takeFirst_109 ?_
          refine lv_iload S0.1 S0.2.1 dX9_takeFirst_112 (lv_at hl 4 rfl) ?_
          refine q_iald S0 hw dM_100 (t0 := 0) rfl rfl dX9_takeFirst_114 hf (fun v37 hf => ?_)
          refine lv_iload_n S0.1 S0.2.1 dX9_takeFirst_115 rfl (lv_at hl 2 rfl) ?_
          refine lv_icmp_ne (tgt := 133) S0.1 S0.2.1 dX9_takeFirst_116 (by decide) (fun c38 => ?_) (fun c38 => ?_)
          · replace hf := q_neg c38 hf
            exact b133 (fX9_takeFirst_88 F n) hk88 x1 x2 x3 x4 σ hf _ _ _ hw (lv_sub hl [0, 1, 2, 3, 4] rfl)
          · replace hf := q_pos c38 hf
            refine lv_aload_n S0.1 S0.2.1 dX9_takeFirst_119 rfl (lv_at hl 0 rfl) ?_
            refine lv_iconst (v := 0) S0.1 S0.2.1 dX9_takeFirst_120 (by decide) ?_
            refine lv_iload S0.1 S0.2.1 dX9_takeFirst_121 (lv_at hl 4 rfl) ?_
            refine q_calli S0 hw (As := [.int 0, .int x4]) (rest := []) (wX9_children l D Y ad F 0 x4 σ) qyX9_children kw_1383 ⟨Nat.le_of_ble_eq_true rfl, Nat.le_of_ble_eq_true rfl⟩ dM_0 rfl rfl rfl rfl hl.1 (Nat.le_of_ble_eq_true rfl) dX9_takeFirst_123 ⟨Nat.le_refl _, Nat.le_refl _⟩ rfl hf (fun v40 s39 H locs hw hf => ?_)
            refine lv_if_ne (tgt := 133) S0.1 S0.2.1 dX9_takeFirst_126 (by decide) (fun c41 => ?_) (fun c41 => ?_)
            · replace hf := q_neg c41 hf
              exact b133 (fX9_takeFirst_88 F n) hk88 x1 x2 x3 x4 s39 hf _ _ _ hw (lv_sub hl [0, 1, 2, 3, 4] rfl)
            · replace hf := q_pos c41 hf
              refine lv_iconst (v := 1) S0.1 S0.2.1 dX9_takeFirst_129 (by decide) ?_
              refine lv_goto (tgt := 134) S0.1 S0.2.1 dX9_takeFirst_130 (by decide) ?_
              exact b134 (fX9_takeFirst_88 F n) hk88 x1 x2 x3 x4 1 s39 hf _ _ _ hw (lv_sub hl [0, 1, 2, 3, 4] rfl)
  have b36 : ∀ (x1 : Int32) (x2 : Int32) (t1 : Int32) (σ : qS), fX9_takeFirst_36 F x1 x2 t1 σ = some r0 → qAt p l e (qRm 6 139) s m ([.ref (ad 0 0), .int p1, .int p2] : List Value).toArray below meth c Q D (mL Y) (qT Y) A ad 6 0 0 36 [(0, .ref (ad 0 0)), (1, .int x1), (2, .int x2)] [.int t1, .ref (ad 0 0)] σ := by
    clear hf hw hl ls
    intro x1 x2 t1 σ hf H locs ls hw hl
    unfold fX9_takeFirst_36 at hf
    refine q_calli S0 hw (As := [.int t1]) (rest := []) (wX9_holds l D Y ad F t1 σ) qyX9_holds kw_1335 ⟨Nat.le_of_ble_eq_true rfl, Nat.le_of_ble_eq_true rfl⟩ dM_0 rfl rfl rfl rfl hl.1 (Nat.le_of_ble_eq_true rfl) dX9_takeFirst_36 ⟨Nat.le_refl _, Nat.le_refl _⟩ rfl hf (fun v8 s7 H locs hw hf => ?_)
    refine lv_if_eq (tgt := 44) S0.1 S0.2.1 dX9_takeFirst_39 (by decide) (fun c9 => ?_) (fun c9 => ?_)
    · replace hf := q_pos c9 hf
      refine lv_aload_n S0.1 S0.2.1 dX9_takeFirst_44 rfl (lv_at hl 0 rfl) ?_
      refine lv_iload_n S0.1 S0.2.1 dX9_takeFirst_45 rfl (lv_at hl 1 rfl) ?_
      refine q_callv S0 hw (As := [.int x1]) (rest := []) (wX9_does l D Y ad F x1 s7) qyX9_does kw_1415 ⟨Nat.le_of_ble_eq_true rfl, Nat.le_of_ble_eq_true rfl⟩ dM_0 rfl rfl rfl rfl hl.1 (Nat.le_of_ble_eq_true rfl) dX9_takeFirst_46 ⟨Nat.le_refl _, Nat.le_refl _⟩ rfl hf (fun s10 H locs hw hf => ?_)
      refine lv_aload_n S0.1 S0.2.1 dX9_takeFirst_49 rfl (lv_at hl 0 rfl) ?_
      refine lv_iconst (v := 0) S0.1 S0.2.1 dX9_takeFirst_50 (by decide) ?_
      refine lv_iload_n S0.1 S0.2.1 dX9_takeFirst_51 rfl (lv_at hl 2 rfl) ?_
      refine q_calli S0 hw (As := [.int 0, .int x2]) (rest := []) (wX9_isThere l D Y ad F 0 x2 s10) qyX9_isThere kw_1463 ⟨Nat.le_of_ble_eq_true rfl, Nat.le_of_ble_eq_true rfl⟩ dM_0 rfl rfl rfl rfl hl.1 (Nat.le_of_ble_eq_true rfl) dX9_takeFirst_52 ⟨Nat.le_refl _, Nat.le_refl _⟩ rfl hf (fun v12 s11 H locs hw hf => ?_)
      refine lv_if_ne (tgt := 60) S0.1 S0.2.1 dX9_takeFirst_55 (by decide) (fun c13 => ?_) (fun c13 => ?_)
      · replace hf := q_neg c13 hf
        refine lv_aload_n S0.1 S0.2.1 dX9_takeFirst_60 rfl (lv_at hl 0 rfl) ?_
        refine lv_aload_n S0.1 S0.2.1 dX9_takeFirst_61 rfl (lv_at hl 0 rfl) ?_
        refine gX9_rw S0 hw kw_1162 dX9_takeFirst_62 ?_
        refine lv_iload_n S0.1 S0.2.1 dX9_takeFirst_65 rfl (lv_at hl 2 rfl) ?_
        refine q_iald S0 hw dM_114 (t0 := 0) rfl rfl dX9_takeFirst_66 hf (fun v14 hf => ?_)
        refine lv_aload_n S0.1 S0.2.1 dX9_takeFirst_67 rfl (lv_at hl 0 rfl) ?_
        refine gX9_zp S0 hw kw_1179 dX9_takeFirst_68 ?_
        refine lv_iload_n S0.1 S0.2.1 dX9_takeFirst_71 rfl (lv_at hl 1 rfl) ?_
        refine q_iald S0 hw dM_131 (t0 := 0) rfl rfl dX9_takeFirst_72 hf (fun v15 hf => ?_)
        refine q_calli S0 hw (As := [.int v14, .int v15]) (rest := []) (wX9_may l D Y ad F v14 v15 s11) qyX9_may kw_1467 ⟨Nat.le_of_ble_eq_true rfl, Nat.le_of_ble_eq_true rfl⟩ dM_0 rfl rfl rfl rfl hl.1 (Nat.le_of_ble_eq_true rfl) dX9_takeFirst_73 ⟨Nat.le_refl _, Nat.le_refl _⟩ rfl hf (fun v17 s16 H locs hw hf => ?_)
        refine lv_if_ne (tgt := 82) S0.1 S0.2.1 dX9_takeFirst_76 (by decide) (fun c18 => ?_) (fun c18 => ?_)
        · replace hf := q_neg c18 hf
          refine lv_bipush (v := (-100)) S0.1 S0.2.1 dX9_takeFirst_82 (by decide) ?_
          refine lv_istore_n (lv' := [(3, .int ((-100))), (0, .ref (ad 0 0)), (1, .int x1), (2, .int x2)]) S0.1 S0.2.1 dX9_takeFirst_84 rfl hl (by decide) rfl (fun ls hl => ?_)
          refine lv_iconst (v := 1) S0.1 S0.2.1 dX9_takeFirst_85 (by decide) ?_
          refine lv_istore (lv' := [(4, .int 1), (3, .int ((-100))), (0, .ref (ad 0 0)), (1, .int x1), (2, .int x2)]) S0.1 S0.2.1 dX9_takeFirst_86 hl (by decide) rfl (fun ls hl => ?_)
          exact b88 F x1 x2 ((-100)) 1 s16 hf _ _ _ hw (lv_sub hl [2, 3, 4, 1, 0] rfl)
        · replace hf := q_pos c18 hf
          refine lv_bipush (v := (-2)) S0.1 S0.2.1 dX9_takeFirst_79 (by decide) ?_
          exact hret dX9_takeFirst_81 hw hf
      · replace hf := q_pos c13 hf
        refine lv_iconst (v := (-1)) S0.1 S0.2.1 dX9_takeFirst_58 (by decide) ?_
        exact hret dX9_takeFirst_59 hw hf
    · replace hf := q_neg c9 hf
      refine lv_iconst (v := (-1)) S0.1 S0.2.1 dX9_takeFirst_42 (by decide) ?_
      exact hret dX9_takeFirst_43 hw hf
  have b31 : ∀ (x1 : Int32) (x2 : Int32) (σ : qS), fX9_takeFirst_31 F x1 x2 σ = some r0 → qAt p l e (qRm 6 139) s m ([.ref (ad 0 0), .int p1, .int p2] : List Value).toArray below meth c Q D (mL Y) (qT Y) A ad 6 0 0 31 [(0, .ref (ad 0 0)), (1, .int x1), (2, .int x2)] [.ref (ad 0 0)] σ := by
    clear hf hw hl ls
    intro x1 x2 σ hf H locs ls hw hl
    unfold fX9_takeFirst_31 at hf
    refine lv_iconst (v := 2) S0.1 S0.2.1 dX9_takeFirst_31 (by decide) ?_
    refine lv_goto (tgt := 36) S0.1 S0.2.1 dX9_takeFirst_32 (by decide) ?_
    exact b36 x1 x2 2 σ hf _ _ _ hw (lv_sub hl [0, 1, 2] rfl)
  refine lv_aload_n S0.1 S0.2.1 dX9_takeFirst_0 rfl (lv_at hl 0 rfl) ?_
  refine lv_aload_n S0.1 S0.2.1 dX9_takeFirst_1 rfl (lv_at hl 0 rfl) ?_
  refine lv_iload_n S0.1 S0.2.1 dX9_takeFirst_2 rfl (lv_at hl 1 rfl) ?_
  refine q_calli S0 hw (As := [.int p1]) (rest := [.ref (ad 0 0)]) (wX9_isSession l D Y ad F p1 σ) qyX9_isSession kw_1343 ⟨Nat.le_of_ble_eq_true rfl, Nat.le_of_ble_eq_true rfl⟩ dM_0 rfl rfl rfl rfl hl.1 (Nat.le_of_ble_eq_true rfl) dX9_takeFirst_3 ⟨Nat.le_refl _, Nat.le_refl _⟩ rfl hf (fun v2 s1 H locs hw hf => ?_)
  refine lv_if_ne (tgt := 13) S0.1 S0.2.1 dX9_takeFirst_6 (by decide) (fun c3 => ?_) (fun c3 => ?_)
  · replace hf := q_neg c3 hf
    refine lv_aload_n S0.1 S0.2.1 dX9_takeFirst_13 rfl (lv_at hl 0 rfl) ?_
    refine lv_iload_n S0.1 S0.2.1 dX9_takeFirst_14 rfl (lv_at hl 1 rfl) ?_
    refine q_calli S0 hw (As := [.int p1]) (rest := [.ref (ad 0 0)]) (wX9_ended l D Y ad F p1 s1) qyX9_ended kw_1347 ⟨Nat.le_of_ble_eq_true rfl, Nat.le_of_ble_eq_true rfl⟩ dM_0 rfl rfl rfl rfl hl.1 (Nat.le_of_ble_eq_true rfl) dX9_takeFirst_15 ⟨Nat.le_refl _, Nat.le_refl _⟩ rfl hf (fun v5 s4 H locs hw hf => ?_)
    refine lv_if_ne (tgt := 31) S0.1 S0.2.1 dX9_takeFirst_18 (by decide) (fun c6 => ?_) (fun c6 => ?_)
    · replace hf := q_neg c6 hf
      exact b31 p1 p2 s4 hf _ _ _ hw (lv_sub hl [0, 1, 2] rfl)
    · replace hf := q_pos c6 hf
      refine lv_aload_n S0.1 S0.2.1 dX9_takeFirst_21 rfl (lv_at hl 0 rfl) ?_
      refine gX9_zg S0 hw kw_1184 dX9_takeFirst_22 ?_
      refine lv_iload_n S0.1 S0.2.1 dX9_takeFirst_25 rfl (lv_at hl 1 rfl) ?_
      refine q_iald S0 hw dM_136 (t0 := 0) rfl rfl dX9_takeFirst_26 hf (fun v42 hf => ?_)
      refine lv_iconst (v := 1) S0.1 S0.2.1 dX9_takeFirst_27 (by decide) ?_
      refine lv_icmp_ne (tgt := 35) S0.1 S0.2.1 dX9_takeFirst_28 (by decide) (fun c43 => ?_) (fun c43 => ?_)
      · replace hf := q_neg c43 hf
        refine lv_iconst (v := 0) S0.1 S0.2.1 dX9_takeFirst_35 (by decide) ?_
        exact b36 p1 p2 0 s4 hf _ _ _ hw (lv_sub hl [0, 1, 2] rfl)
      · replace hf := q_pos c43 hf
        exact b31 p1 p2 s4 hf _ _ _ hw (lv_sub hl [0, 1, 2] rfl)
  · replace hf := q_pos c3 hf
    refine lv_iconst (v := 1) S0.1 S0.2.1 dX9_takeFirst_9 (by decide) ?_
    refine lv_goto (tgt := 36) S0.1 S0.2.1 dX9_takeFirst_10 (by decide) ?_
    exact b36 p1 p2 1 s1 hf _ _ _ hw (lv_sub hl [0, 1, 2] rfl)
def fX9_store_32 (F : Nat) (σ : qS) : Option (Int32 × qS) :=
  gbl 0 (some (0, σ))
def fX9_store_18 (F : Nat) (x1 : Int32) (x2 : Int32) (t1 : Int32) (σ : qS) : Option (Int32 × qS) :=
  bnd2 (fX9_holds F t1 σ) fun v5 s4 => (if v5 = 0 then (nm (s4.1 0 0 55) fun v7 => (if v7 ≤ x1 then (nm (qI s4 0 0 55 x1) fun s9 => (nm (qI s9 0 0 56 x2) fun s10 => (gbl 1 (some (1, s10))))) else (fX9_store_32 F s4))) else (fX9_store_32 F s4))
def fX9_store (F : Nat) (p1 : Int32) (p2 : Int32) (σ : qS) : Option (Int32 × qS) :=
  bnd2 (fX9_in F p1 0 10000 σ) fun v2 s1 => (if v2 = 0 then (fX9_store_18 F p1 p2 1 s1) else (fX9_store_18 F p1 p2 0 s1))
set_option maxRecDepth 100000 in
set_option maxHeartbeats 4000000 in
theorem wX9_store (l : Launch) (D : va_G) (Y : Nat → ClassId) (ad : qAd) (F : Nat) (p1 : Int32) (p2 : Int32) (σ : qS) : qCi l yX9_store cX9_store 3 (some .boolean) 1 23 D (mL Y) (qT Y) ad [.ref (ad 0 0), .int p1, .int p2] σ (fX9_store F p1 p2 σ) := by
  refine q_ofz (by decide) (Nat.le_of_ble_eq_true rfl) "LeasehallModel" rfl (fun p e s m below meth c A Q r0 S0 hf hw hret ls hl => ?_)
  replace hl : lv_has ls 3 [(0, .ref (ad 0 0)), (1, .int p1), (2, .int p2)] := hl
  unfold fX9_store at hf
  have b32 : ∀ (σ : qS), fX9_store_32 F σ = some r0 → qAt p l e (qRm 1 23) s m ([.ref (ad 0 0), .int p1, .int p2] : List Value).toArray below meth c Q D (mL Y) (qT Y) A ad 3 0 0 32 [] [] σ := by
    clear hf hw hl ls
    intro σ hf H locs ls hw hl
    unfold fX9_store_32 at hf
    refine lv_iconst (v := 0) S0.1 S0.2.1 dX9_store_32 (by decide) ?_
    exact hret dX9_store_33 hw hf
  have b18 : ∀ (x1 : Int32) (x2 : Int32) (t1 : Int32) (σ : qS), fX9_store_18 F x1 x2 t1 σ = some r0 → qAt p l e (qRm 1 23) s m ([.ref (ad 0 0), .int p1, .int p2] : List Value).toArray below meth c Q D (mL Y) (qT Y) A ad 3 0 0 18 [(0, .ref (ad 0 0)), (1, .int x1), (2, .int x2)] [.int t1, .ref (ad 0 0)] σ := by
    clear hf hw hl ls
    intro x1 x2 t1 σ hf H locs ls hw hl
    unfold fX9_store_18 at hf
    refine q_calli S0 hw (As := [.int t1]) (rest := []) (wX9_holds l D Y ad F t1 σ) qyX9_holds kw_1335 ⟨Nat.le_of_ble_eq_true rfl, Nat.le_of_ble_eq_true rfl⟩ dM_0 rfl rfl rfl rfl hl.1 (Nat.le_of_ble_eq_true rfl) dX9_store_18 ⟨Nat.le_refl _, Nat.le_refl _⟩ rfl hf (fun v5 s4 H locs hw hf => ?_)
    refine lv_if_ne (tgt := 32) S0.1 S0.2.1 dX9_store_21 (by decide) (fun c6 => ?_) (fun c6 => ?_)
    · replace hf := q_neg c6 hf
      exact b32 s4 hf _ _ _ hw (lv_sub hl [] rfl)
    · replace hf := q_pos c6 hf
      refine lv_iload_n S0.1 S0.2.1 dX9_store_24 rfl (lv_at hl 1 rfl) ?_
      refine lv_aload_n S0.1 S0.2.1 dX9_store_25 rfl (lv_at hl 0 rfl) ?_
      refine gX9_fence S0 hw kw_1203 dX9_store_26 hf (fun v7 hf => ?_)
      refine lv_icmp_ge (tgt := 34) S0.1 S0.2.1 dX9_store_29 (by decide) (fun c8 => ?_) (fun c8 => ?_)
      · replace hf := q_pos c8 hf
        refine lv_aload_n S0.1 S0.2.1 dX9_store_34 rfl (lv_at hl 0 rfl) ?_
        refine lv_iload_n S0.1 S0.2.1 dX9_store_35 rfl (lv_at hl 1 rfl) ?_
        refine pX9_fence S0 hw kw_1203 dX9_store_36 hf (fun s9 H locs hw hf => ?_)
        refine lv_aload_n S0.1 S0.2.1 dX9_store_39 rfl (lv_at hl 0 rfl) ?_
        refine lv_iload_n S0.1 S0.2.1 dX9_store_40 rfl (lv_at hl 2 rfl) ?_
        refine pX9_stored S0 hw kw_1204 dX9_store_41 hf (fun s10 H locs hw hf => ?_)
        refine lv_iconst (v := 1) S0.1 S0.2.1 dX9_store_44 (by decide) ?_
        exact hret dX9_store_45 hw hf
      · replace hf := q_neg c8 hf
        exact b32 s4 hf _ _ _ hw (lv_sub hl [] rfl)
  refine lv_aload_n S0.1 S0.2.1 dX9_store_0 rfl (lv_at hl 0 rfl) ?_
  refine lv_aload_n S0.1 S0.2.1 dX9_store_1 rfl (lv_at hl 0 rfl) ?_
  refine lv_iload_n S0.1 S0.2.1 dX9_store_2 rfl (lv_at hl 1 rfl) ?_
  refine lv_iconst (v := 0) S0.1 S0.2.1 dX9_store_3 (by decide) ?_
  refine lv_sipush (v := 10000) S0.1 S0.2.1 dX9_store_4 (by decide) ?_
  refine q_calli S0 hw (As := [.int p1, .int 0, .int 10000]) (rest := [.ref (ad 0 0)]) (wX9_in l D Y ad F p1 0 10000 σ) qyX9_in kw_1331 ⟨Nat.le_of_ble_eq_true rfl, Nat.le_of_ble_eq_true rfl⟩ dM_0 rfl rfl rfl rfl hl.1 (Nat.le_of_ble_eq_true rfl) dX9_store_7 ⟨Nat.le_refl _, Nat.le_refl _⟩ rfl hf (fun v2 s1 H locs hw hf => ?_)
  refine lv_if_eq (tgt := 17) S0.1 S0.2.1 dX9_store_10 (by decide) (fun c3 => ?_) (fun c3 => ?_)
  · replace hf := q_pos c3 hf
    refine lv_iconst (v := 1) S0.1 S0.2.1 dX9_store_17 (by decide) ?_
    exact b18 p1 p2 1 s1 hf _ _ _ hw (lv_sub hl [0, 1, 2] rfl)
  · replace hf := q_neg c3 hf
    refine lv_iconst (v := 0) S0.1 S0.2.1 dX9_store_13 (by decide) ?_
    refine lv_goto (tgt := 18) S0.1 S0.2.1 dX9_store_14 (by decide) ?_
    exact b18 p1 p2 0 s1 hf _ _ _ hw (lv_sub hl [0, 1, 2] rfl)
def fX9_stored (F : Nat) (σ : qS) : Option (Int32 × qS) :=
  bnd2 (fX9_holds F 0 σ) fun v2 s1 => (nm (s1.1 0 0 56) fun v3 => (some (v3, s1)))
set_option maxRecDepth 100000 in
set_option maxHeartbeats 4000000 in
theorem wX9_stored (l : Launch) (D : va_G) (Y : Nat → ClassId) (ad : qAd) (F : Nat) (σ : qS) : qCi l yX9_stored cX9_stored 1 (some .int) 1 21 D (mL Y) (qT Y) ad [.ref (ad 0 0)] σ (fX9_stored F σ) := by
  refine q_ofi (by decide) (Nat.le_of_ble_eq_true rfl) "LeasehallModel" rfl (fun p e s m below meth c A Q r0 S0 hf hw hret ls hl => ?_)
  replace hl : lv_has ls 1 [(0, .ref (ad 0 0))] := hl
  unfold fX9_stored at hf
  refine lv_aload_n S0.1 S0.2.1 dX9_stored_0 rfl (lv_at hl 0 rfl) ?_
  refine lv_iconst (v := 0) S0.1 S0.2.1 dX9_stored_1 (by decide) ?_
  refine q_calli S0 hw (As := [.int 0]) (rest := []) (wX9_holds l D Y ad F 0 σ) qyX9_holds kw_1335 ⟨Nat.le_of_ble_eq_true rfl, Nat.le_of_ble_eq_true rfl⟩ dM_0 rfl rfl rfl rfl hl.1 (Nat.le_of_ble_eq_true rfl) dX9_stored_2 ⟨Nat.le_refl _, Nat.le_refl _⟩ rfl hf (fun v2 s1 H locs hw hf => ?_)
  refine lv_pop S0.1 S0.2.1 dX9_stored_5 rfl ?_
  refine lv_aload_n S0.1 S0.2.1 dX9_stored_6 rfl (lv_at hl 0 rfl) ?_
  refine gX9_stored S0 hw kw_1204 dX9_stored_7 hf (fun v3 hf => ?_)
  exact hret dX9_stored_10 hw hf
def fX9_valueAt_142 (F : Nat) (x3 : Int32) (σ : qS) : Option (Int32 × qS) :=
  some (x3, σ)
def fX9_valueAt_136 (F : Nat) (k53 : Int32 → Int32 → Int32 → Int32 → qS → Option (Int32 × qS)) (x1 : Int32) (x2 : Int32) (x3 : Int32) (x4 : Int32) (σ : qS) : Option (Int32 × qS) :=
  nm (x4 + 1) fun v19 => (k53 x1 x2 x3 v19 σ)
def fX9_valueAt_135 (F : Nat) (k53 : Int32 → Int32 → Int32 → Int32 → qS → Option (Int32 × qS)) (x1 : Int32) (x2 : Int32) (x4 : Int32) (t0 : Int32) (σ : qS) : Option (Int32 × qS) :=
  fX9_valueAt_136 F k53 x1 x2 t0 x4 σ
def fX9_valueAt_53 (F : Nat) : Nat → Int32 → Int32 → Int32 → Int32 → qS → Option (Int32 × qS)
  | 0, _, _, _, _, _ => none
  | n + 1, x1, x2, x3, x4, σ =>
  nm (σ.1 0 0 25) fun v11 => (if v11 ≤ x4 then (fX9_valueAt_142 F x3 σ) else (ldi 90000 (σ.1 120 0) x4 fun v13 => (if x2 < v13 then (fX9_valueAt_142 F x3 σ) else (ldi 90000 (σ.1 121 0) x4 fun v15 => (if v15 = 4 then (fX9_valueAt_136 F (fX9_valueAt_53 F n) x1 x2 ((-100)) x4 σ) else (ldi 90000 (σ.1 122 0) x4 fun v17 => (if v17 = x1 then (ldi 90000 (σ.1 121 0) x4 fun v20 => (if v20 = 3 then (fX9_valueAt_136 F (fX9_valueAt_53 F n) x1 x2 x3 x4 σ) else (ldi 90000 (σ.1 121 0) x4 fun v22 => (if v22 = 2 then (fX9_valueAt_135 F (fX9_valueAt_53 F n) x1 x2 x4 ((-100)) σ) else (ldi 90000 (σ.1 123 0) x4 fun v24 => (fX9_valueAt_135 F (fX9_valueAt_53 F n) x1 x2 x4 v24 σ)))))) else (fX9_valueAt_136 F (fX9_valueAt_53 F n) x1 x2 x3 x4 σ))))))))
def fX9_valueAt_49 (F : Nat) (x1 : Int32) (x2 : Int32) (t0 : Int32) (σ : qS) : Option (Int32 × qS) :=
  fX9_valueAt_53 F F x1 x2 t0 0 σ
def fX9_valueAt_31 (F : Nat) (x1 : Int32) (x2 : Int32) (t1 : Int32) (σ : qS) : Option (Int32 × qS) :=
  bnd2 (fX9_holds F t1 σ) fun v8 s7 => (if v8 = 0 then (if x1 = 0 then (fX9_valueAt_49 F x1 x2 0 s7) else (fX9_valueAt_49 F x1 x2 ((-100)) s7)) else (some ((-1), s7)))
def fX9_valueAt (F : Nat) (p1 : Int32) (p2 : Int32) (σ : qS) : Option (Int32 × qS) :=
  nm (σ.1 0 0 26) fun v1 => (bnd2 (fX9_in F p2 0 v1 σ) fun v3 s2 => (if v3 = 0 then (fX9_valueAt_31 F p1 p2 1 s2) else (nm (s2.1 0 0 28) fun v5 => (if v5 ≤ p2 then (fX9_valueAt_31 F p1 p2 0 s2) else (fX9_valueAt_31 F p1 p2 2 s2)))))
set_option maxRecDepth 100000 in
set_option maxHeartbeats 4000000 in
theorem wX9_valueAt (l : Launch) (D : va_G) (Y : Nat → ClassId) (ad : qAd) (F : Nat) (p1 : Int32) (p2 : Int32) (σ : qS) : qCi l yX9_valueAt cX9_valueAt 5 (some .int) 1 23 D (mL Y) (qT Y) ad [.ref (ad 0 0), .int p1, .int p2] σ (fX9_valueAt F p1 p2 σ) := by
  refine q_ofi (by decide) (Nat.le_of_ble_eq_true rfl) "LeasehallModel" rfl (fun p e s m below meth c A Q r0 S0 hf hw hret ls hl => ?_)
  replace hl : lv_has ls 5 [(0, .ref (ad 0 0)), (1, .int p1), (2, .int p2)] := hl
  unfold fX9_valueAt at hf
  have b142 : ∀ (x3 : Int32) (σ : qS), fX9_valueAt_142 F x3 σ = some r0 → qAt p l e (qRm 1 23) s m ([.ref (ad 0 0), .int p1, .int p2] : List Value).toArray below meth c Q D (mL Y) (qT Y) A ad 5 0 0 142 [(3, .int x3)] [] σ := by
    clear hf hw hl ls
    intro x3 σ hf H locs ls hw hl
    unfold fX9_valueAt_142 at hf
    refine lv_iload_n S0.1 S0.2.1 dX9_valueAt_142 rfl (lv_at hl 0 rfl) ?_
    exact hret dX9_valueAt_143 hw hf
  have b136 : ∀ (k53 : Int32 → Int32 → Int32 → Int32 → qS → Option (Int32 × qS)) (hk53 : ∀ (x1 : Int32) (x2 : Int32) (x3 : Int32) (x4 : Int32) (σ : qS), k53 x1 x2 x3 x4 σ = some r0 → qAt p l e (qRm 1 23) s m ([.ref (ad 0 0), .int p1, .int p2] : List Value).toArray below meth c Q D (mL Y) (qT Y) A ad 5 0 0 53 [(0, .ref (ad 0 0)), (1, .int x1), (2, .int x2), (3, .int x3), (4, .int x4)] [] σ) (x1 : Int32) (x2 : Int32) (x3 : Int32) (x4 : Int32) (σ : qS), fX9_valueAt_136 F k53 x1 x2 x3 x4 σ = some r0 → qAt p l e (qRm 1 23) s m ([.ref (ad 0 0), .int p1, .int p2] : List Value).toArray below meth c Q D (mL Y) (qT Y) A ad 5 0 0 136 [(0, .ref (ad 0 0)), (1, .int x1), (2, .int x2), (3, .int x3), (4, .int x4)] [] σ := by
    clear hf hw hl ls
    intro k53 hk53
    intro x1 x2 x3 x4 σ hf H locs ls hw hl
    unfold fX9_valueAt_136 at hf
    refine q_iinc S0 (v0 := 1) dX9_valueAt_136 hl (k := 4) rfl (by decide) (by decide) rfl hf (fun v19 ls hl hf => ?_)
    refine lv_goto (tgt := 53) S0.1 S0.2.1 dX9_valueAt_139 (by decide) ?_
    exact hk53 x1 x2 x3 v19 σ hf _ _ _ hw (lv_sub hl [1, 2, 3, 4, 0] rfl)
  have b135 : ∀ (k53 : Int32 → Int32 → Int32 → Int32 → qS → Option (Int32 × qS)) (hk53 : ∀ (x1 : Int32) (x2 : Int32) (x3 : Int32) (x4 : Int32) (σ : qS), k53 x1 x2 x3 x4 σ = some r0 → qAt p l e (qRm 1 23) s m ([.ref (ad 0 0), .int p1, .int p2] : List Value).toArray below meth c Q D (mL Y) (qT Y) A ad 5 0 0 53 [(0, .ref (ad 0 0)), (1, .int x1), (2, .int x2), (3, .int x3), (4, .int x4)] [] σ) (x1 : Int32) (x2 : Int32) (x4 : Int32) (t0 : Int32) (σ : qS), fX9_valueAt_135 F k53 x1 x2 x4 t0 σ = some r0 → qAt p l e (qRm 1 23) s m ([.ref (ad 0 0), .int p1, .int p2] : List Value).toArray below meth c Q D (mL Y) (qT Y) A ad 5 0 0 135 [(0, .ref (ad 0 0)), (1, .int x1), (2, .int x2), (4, .int x4)] [.int t0] σ := by
    clear hf hw hl ls
    intro k53 hk53
    intro x1 x2 x4 t0 σ hf H locs ls hw hl
    unfold fX9_valueAt_135 at hf
    refine lv_istore_n (lv' := [(3, .int t0), (0, .ref (ad 0 0)), (1, .int x1), (2, .int x2), (4, .int x4)]) S0.1 S0.2.1 dX9_valueAt_135 rfl hl (by decide) rfl (fun ls hl => ?_)
    exact b136 k53 hk53 x1 x2 t0 x4 σ hf _ _ _ hw (lv_sub hl [1, 2, 3, 0, 4] rfl)
  have b53 : ∀ (n : Nat) (x1 : Int32) (x2 : Int32) (x3 : Int32) (x4 : Int32) (σ : qS), fX9_valueAt_53 F n x1 x2 x3 x4 σ = some r0 → qAt p l e (qRm 1 23) s m ([.ref (ad 0 0), .int p1, .int p2] : List Value).toArray below meth c Q D (mL Y) (qT Y) A ad 5 0 0 53 [(0, .ref (ad 0 0)), (1, .int x1), (2, .int x2), (3, .int x3), (4, .int x4)] [] σ := by
    clear hf hw hl ls
    intro n
    induction n with
    | zero => intro x1 x2 x3 x4 σ hf; exact absurd hf (by rw [fX9_valueAt_53]; exact nofun)
    | succ n hk53 =>
      intro x1 x2 x3 x4 σ hf H locs ls hw hl
      rw [fX9_valueAt_53] at hf
      refine lv_iload S0.1 S0.2.1 dX9_valueAt_53 (lv_at hl 4 rfl) ?_
      refine lv_aload_n S0.1 S0.2.1 dX9_valueAt_55 rfl (lv_at hl 0 rfl) ?_
      refine gX9_steps S0 hw kw_1173 dX9_valueAt_56 hf (fun v11 hf => ?_)
      refine lv_icmp_ge (tgt := 142) S0.1 S0.2.1 dX9_valueAt_59 (by decide) (fun c12 => ?_) (fun c12 => ?_)
      · replace hf := q_pos c12 hf
        exact b142 x3 σ hf _ _ _ hw (lv_sub hl [3] rfl)
      · replace hf := q_neg c12 hf
        refine lv_aload_n S0.1 S0.2.1 dX9_valueAt_62 rfl (lv_at hl 0 rfl) ?_
        refine gX9_sc S0 hw kw_1168 dX9_valueAt_63 ?_
        refine lv_iload S0.1 S0.2.1 dX9_valueAt_66 (lv_at hl 4 rfl) ?_
        refine q_iald S0 hw dM_120 (t0 := 0) rfl rfl dX9_valueAt_68 hf (fun v13 hf => ?_)
        refine lv_iload_n S0.1 S0.2.1 dX9_valueAt_69 rfl (lv_at hl 2 rfl) ?_
        refine lv_icmp_gt (tgt := 142) S0.1 S0.2.1 dX9_valueAt_70 (by decide) (fun c14 => ?_) (fun c14 => ?_)
        · replace hf := q_pos c14 hf
          exact b142 x3 σ hf _ _ _ hw (lv_sub hl [3] rfl)
        · replace hf := q_neg c14 hf
          refine lv_aload_n S0.1 S0.2.1 dX9_valueAt_73 rfl (lv_at hl 0 rfl) ?_
          refine gX9_sk S0 hw kw_1169 dX9_valueAt_74 ?_
          refine lv_iload S0.1 S0.2.1 dX9_valueAt_77 (lv_at hl 4 rfl) ?_
          refine q_iald S0 hw dM_121 (t0 := 0) rfl rfl dX9_valueAt_79 hf (fun v15 hf => ?_)
          refine lv_iconst (v := 4) S0.1 S0.2.1 dX9_valueAt_80 (by decide) ?_
          refine lv_icmp_ne (tgt := 90) S0.1 S0.2.1 dX9_valueAt_81 (by decide) (fun c16 => ?_) (fun c16 => ?_)
          · replace hf := q_neg c16 hf
            refine lv_aload_n S0.1 S0.2.1 dX9_valueAt_90 rfl (lv_at hl 0 rfl) ?_
            refine gX9_sn S0 hw kw_1170 dX9_valueAt_91 ?_
            refine lv_iload S0.1 S0.2.1 dX9_valueAt_94 (lv_at hl 4 rfl) ?_
            refine q_iald S0 hw dM_122 (t0 := 0) rfl rfl dX9_valueAt_96 hf (fun v17 hf => ?_)
            refine lv_iload_n S0.1 S0.2.1 dX9_valueAt_97 rfl (lv_at hl 1 rfl) ?_
            refine lv_icmp_ne (tgt := 136) S0.1 S0.2.1 dX9_valueAt_98 (by decide) (fun c18 => ?_) (fun c18 => ?_)
            · replace hf := q_neg c18 hf
              exact b136 (fX9_valueAt_53 F n) hk53 x1 x2 x3 x4 σ hf _ _ _ hw (lv_sub hl [0, 1, 2, 3, 4] rfl)
            · replace hf := q_pos c18 hf
              refine lv_aload_n S0.1 S0.2.1 dX9_valueAt_101 rfl (lv_at hl 0 rfl) ?_
              refine gX9_sk S0 hw kw_1169 dX9_valueAt_102 ?_
              refine lv_iload S0.1 S0.2.1 dX9_valueAt_105 (lv_at hl 4 rfl) ?_
              refine q_iald S0 hw dM_121 (t0 := 0) rfl rfl dX9_valueAt_107 hf (fun v20 hf => ?_)
              refine lv_iconst (v := 3) S0.1 S0.2.1 dX9_valueAt_108 (by decide) ?_
              refine lv_icmp_eq (tgt := 136) S0.1 S0.2.1 dX9_valueAt_109 (by decide) (fun c21 => ?_) (fun c21 => ?_)
              · replace hf := q_pos c21 hf
                exact b136 (fX9_valueAt_53 F n) hk53 x1 x2 x3 x4 σ hf _ _ _ hw (lv_sub hl [0, 1, 2, 3, 4] rfl)
              · replace hf := q_neg c21 hf
                refine lv_aload_n S0.1 S0.2.1 dX9_valueAt_112 rfl (lv_at hl 0 rfl) ?_
                refine gX9_sk S0 hw kw_1169 dX9_valueAt_113 ?_
                refine lv_iload S0.1 S0.2.1 dX9_valueAt_116 (lv_at hl 4 rfl) ?_
                refine q_iald S0 hw dM_121 (t0 := 0) rfl rfl dX9_valueAt_118 hf (fun v22 hf => ?_)
                refine lv_iconst (v := 2) S0.1 S0.2.1 dX9_valueAt_119 (by decide) ?_
                refine lv_icmp_ne (tgt := 128) S0.1 S0.2.1 dX9_valueAt_120 (by decide) (fun c23 => ?_) (fun c23 => ?_)
                · replace hf := q_neg c23 hf
                  refine lv_aload_n S0.1 S0.2.1 dX9_valueAt_128 rfl (lv_at hl 0 rfl) ?_
                  refine gX9_sv S0 hw kw_1171 dX9_valueAt_129 ?_
                  refine lv_iload S0.1 S0.2.1 dX9_valueAt_132 (lv_at hl 4 rfl) ?_
                  refine q_iald S0 hw dM_123 (t0 := 0) rfl rfl dX9_valueAt_134 hf (fun v24 hf => ?_)
                  exact b135 (fX9_valueAt_53 F n) hk53 x1 x2 x4 v24 σ hf _ _ _ hw (lv_sub hl [0, 1, 2, 4] rfl)
                · replace hf := q_pos c23 hf
                  refine lv_bipush (v := (-100)) S0.1 S0.2.1 dX9_valueAt_123 (by decide) ?_
                  refine lv_goto (tgt := 135) S0.1 S0.2.1 dX9_valueAt_125 (by decide) ?_
                  exact b135 (fX9_valueAt_53 F n) hk53 x1 x2 x4 ((-100)) σ hf _ _ _ hw (lv_sub hl [0, 1, 2, 4] rfl)
          · replace hf := q_pos c16 hf
            refine lv_bipush (v := (-100)) S0.1 S0.2.1 dX9_valueAt_84 (by decide) ?_
            refine lv_istore_n (lv' := [(3, .int ((-100))), (0, .ref (ad 0 0)), (1, .int x1), (2, .int x2), (4, .int x4)]) S0.1 S0.2.1 dX9_valueAt_86 rfl hl (by decide) rfl (fun ls hl => ?_)
            refine lv_goto (tgt := 136) S0.1 S0.2.1 dX9_valueAt_87 (by decide) ?_
            exact b136 (fX9_valueAt_53 F n) hk53 x1 x2 ((-100)) x4 σ hf _ _ _ hw (lv_sub hl [1, 2, 3, 0, 4] rfl)
  have b49 : ∀ (x1 : Int32) (x2 : Int32) (t0 : Int32) (σ : qS), fX9_valueAt_49 F x1 x2 t0 σ = some r0 → qAt p l e (qRm 1 23) s m ([.ref (ad 0 0), .int p1, .int p2] : List Value).toArray below meth c Q D (mL Y) (qT Y) A ad 5 0 0 49 [(0, .ref (ad 0 0)), (1, .int x1), (2, .int x2)] [.int t0] σ := by
    clear hf hw hl ls
    intro x1 x2 t0 σ hf H locs ls hw hl
    unfold fX9_valueAt_49 at hf
    refine lv_istore_n (lv' := [(3, .int t0), (0, .ref (ad 0 0)), (1, .int x1), (2, .int x2)]) S0.1 S0.2.1 dX9_valueAt_49 rfl hl (by decide) rfl (fun ls hl => ?_)
    refine lv_iconst (v := 0) S0.1 S0.2.1 dX9_valueAt_50 (by decide) ?_
    refine lv_istore (lv' := [(4, .int 0), (3, .int t0), (0, .ref (ad 0 0)), (1, .int x1), (2, .int x2)]) S0.1 S0.2.1 dX9_valueAt_51 hl (by decide) rfl (fun ls hl => ?_)
    exact b53 F x1 x2 t0 0 σ hf _ _ _ hw (lv_sub hl [2, 3, 4, 1, 0] rfl)
  have b31 : ∀ (x1 : Int32) (x2 : Int32) (t1 : Int32) (σ : qS), fX9_valueAt_31 F x1 x2 t1 σ = some r0 → qAt p l e (qRm 1 23) s m ([.ref (ad 0 0), .int p1, .int p2] : List Value).toArray below meth c Q D (mL Y) (qT Y) A ad 5 0 0 31 [(0, .ref (ad 0 0)), (1, .int x1), (2, .int x2)] [.int t1, .ref (ad 0 0)] σ := by
    clear hf hw hl ls
    intro x1 x2 t1 σ hf H locs ls hw hl
    unfold fX9_valueAt_31 at hf
    refine q_calli S0 hw (As := [.int t1]) (rest := []) (wX9_holds l D Y ad F t1 σ) qyX9_holds kw_1335 ⟨Nat.le_of_ble_eq_true rfl, Nat.le_of_ble_eq_true rfl⟩ dM_0 rfl rfl rfl rfl hl.1 (Nat.le_of_ble_eq_true rfl) dX9_valueAt_31 ⟨Nat.le_refl _, Nat.le_refl _⟩ rfl hf (fun v8 s7 H locs hw hf => ?_)
    refine lv_if_eq (tgt := 39) S0.1 S0.2.1 dX9_valueAt_34 (by decide) (fun c9 => ?_) (fun c9 => ?_)
    · replace hf := q_pos c9 hf
      refine lv_iload_n S0.1 S0.2.1 dX9_valueAt_39 rfl (lv_at hl 1 rfl) ?_
      refine lv_if_ne (tgt := 47) S0.1 S0.2.1 dX9_valueAt_40 (by decide) (fun c10 => ?_) (fun c10 => ?_)
      · replace hf := q_neg c10 hf
        refine lv_bipush (v := (-100)) S0.1 S0.2.1 dX9_valueAt_47 (by decide) ?_
        exact b49 x1 x2 ((-100)) s7 hf _ _ _ hw (lv_sub hl [0, 1, 2] rfl)
      · replace hf := q_pos c10 hf
        refine lv_iconst (v := 0) S0.1 S0.2.1 dX9_valueAt_43 (by decide) ?_
        refine lv_goto (tgt := 49) S0.1 S0.2.1 dX9_valueAt_44 (by decide) ?_
        exact b49 x1 x2 0 s7 hf _ _ _ hw (lv_sub hl [0, 1, 2] rfl)
    · replace hf := q_neg c9 hf
      refine lv_iconst (v := (-1)) S0.1 S0.2.1 dX9_valueAt_37 (by decide) ?_
      exact hret dX9_valueAt_38 hw hf
  refine lv_aload_n S0.1 S0.2.1 dX9_valueAt_0 rfl (lv_at hl 0 rfl) ?_
  refine lv_aload_n S0.1 S0.2.1 dX9_valueAt_1 rfl (lv_at hl 0 rfl) ?_
  refine lv_iload_n S0.1 S0.2.1 dX9_valueAt_2 rfl (lv_at hl 2 rfl) ?_
  refine lv_iconst (v := 0) S0.1 S0.2.1 dX9_valueAt_3 (by decide) ?_
  refine lv_aload_n S0.1 S0.2.1 dX9_valueAt_4 rfl (lv_at hl 0 rfl) ?_
  refine gX9_last S0 hw kw_1174 dX9_valueAt_5 hf (fun v1 hf => ?_)
  refine q_calli S0 hw (As := [.int p2, .int 0, .int v1]) (rest := [.ref (ad 0 0)]) (wX9_in l D Y ad F p2 0 v1 σ) qyX9_in kw_1331 ⟨Nat.le_of_ble_eq_true rfl, Nat.le_of_ble_eq_true rfl⟩ dM_0 rfl rfl rfl rfl hl.1 (Nat.le_of_ble_eq_true rfl) dX9_valueAt_8 ⟨Nat.le_refl _, Nat.le_refl _⟩ rfl hf (fun v3 s2 H locs hw hf => ?_)
  refine lv_if_ne (tgt := 18) S0.1 S0.2.1 dX9_valueAt_11 (by decide) (fun c4 => ?_) (fun c4 => ?_)
  · replace hf := q_neg c4 hf
    refine lv_iload_n S0.1 S0.2.1 dX9_valueAt_18 rfl (lv_at hl 2 rfl) ?_
    refine lv_aload_n S0.1 S0.2.1 dX9_valueAt_19 rfl (lv_at hl 0 rfl) ?_
    refine gX9_compacted S0 hw kw_1176 dX9_valueAt_20 hf (fun v5 hf => ?_)
    refine lv_icmp_ge (tgt := 30) S0.1 S0.2.1 dX9_valueAt_23 (by decide) (fun c6 => ?_) (fun c6 => ?_)
    · replace hf := q_pos c6 hf
      refine lv_iconst (v := 0) S0.1 S0.2.1 dX9_valueAt_30 (by decide) ?_
      exact b31 p1 p2 0 s2 hf _ _ _ hw (lv_sub hl [0, 1, 2] rfl)
    · replace hf := q_neg c6 hf
      refine lv_iconst (v := 2) S0.1 S0.2.1 dX9_valueAt_26 (by decide) ?_
      refine lv_goto (tgt := 31) S0.1 S0.2.1 dX9_valueAt_27 (by decide) ?_
      exact b31 p1 p2 2 s2 hf _ _ _ hw (lv_sub hl [0, 1, 2] rfl)
  · replace hf := q_pos c4 hf
    refine lv_iconst (v := 1) S0.1 S0.2.1 dX9_valueAt_14 (by decide) ?_
    refine lv_goto (tgt := 31) S0.1 S0.2.1 dX9_valueAt_15 (by decide) ?_
    exact b31 p1 p2 1 s2 hf _ _ _ hw (lv_sub hl [0, 1, 2] rfl)
def fX9_changedAt_119 (F : Nat) (k56 : Int32 → Int32 → Int32 → Int32 → qS → Option (Int32 × qS)) (x1 : Int32) (x4 : Int32) (x5 : Int32) (x6 : Int32) (σ : qS) : Option (Int32 × qS) :=
  nm (x6 + 1) fun v15 => (k56 x1 x4 x5 v15 σ)
def fX9_changedAt_56 (F : Nat) : Nat → Int32 → Int32 → Int32 → Int32 → qS → Option (Int32 × qS)
  | 0, _, _, _, _, _ => none
  | n + 1, x1, x4, x5, x6, σ =>
  nm (σ.1 0 0 25) fun v11 => (if v11 ≤ x6 then (some ((-100), σ)) else (ldi 90000 (σ.1 122 0) x6 fun v13 => (if v13 = x1 then (ldi 90000 (σ.1 121 0) x6 fun v16 => (if 3 ≤ v16 then (fX9_changedAt_119 F (fX9_changedAt_56 F n) x1 x4 x5 x6 σ) else (ldi 90000 (σ.1 120 0) x6 fun v18 => (if v18 ≤ x5 then (fX9_changedAt_119 F (fX9_changedAt_56 F n) x1 x4 x5 x6 σ) else (ldi 90000 (σ.1 120 0) x6 fun v20 => (if x4 = 0 then (some (v20, σ)) else (nm (x4 + (-1)) fun v22 => (fX9_changedAt_119 F (fX9_changedAt_56 F n) x1 v22 v20 x6 σ)))))))) else (fX9_changedAt_119 F (fX9_changedAt_56 F n) x1 x4 x5 x6 σ))))
def fX9_changedAt_39 (F : Nat) (x1 : Int32) (x2 : Int32) (x3 : Int32) (t1 : Int32) (σ : qS) : Option (Int32 × qS) :=
  bnd2 (fX9_holds F t1 σ) fun v9 s8 => (if v9 = 0 then (fX9_changedAt_56 F F x1 x3 x2 0 s8) else (some ((-1), s8)))
def fX9_changedAt (F : Nat) (p1 : Int32) (p2 : Int32) (p3 : Int32) (σ : qS) : Option (Int32 × qS) :=
  if 0 ≤ p3 then (nm (σ.1 0 0 26) fun v2 => (bnd2 (fX9_in F p2 0 v2 σ) fun v4 s3 => (if v4 = 0 then (fX9_changedAt_39 F p1 p2 p3 2 s3) else (nm (s3.1 0 0 28) fun v6 => (if v6 ≤ p2 then (fX9_changedAt_39 F p1 p2 p3 0 s3) else (fX9_changedAt_39 F p1 p2 p3 3 s3)))))) else (fX9_changedAt_39 F p1 p2 p3 1 σ)
set_option maxRecDepth 100000 in
set_option maxHeartbeats 4000000 in
theorem wX9_changedAt (l : Launch) (D : va_G) (Y : Nat → ClassId) (ad : qAd) (F : Nat) (p1 : Int32) (p2 : Int32) (p3 : Int32) (σ : qS) : qCi l yX9_changedAt cX9_changedAt 7 (some .int) 1 23 D (mL Y) (qT Y) ad [.ref (ad 0 0), .int p1, .int p2, .int p3] σ (fX9_changedAt F p1 p2 p3 σ) := by
  refine q_ofi (by decide) (Nat.le_of_ble_eq_true rfl) "LeasehallModel" rfl (fun p e s m below meth c A Q r0 S0 hf hw hret ls hl => ?_)
  replace hl : lv_has ls 7 [(0, .ref (ad 0 0)), (1, .int p1), (2, .int p2), (3, .int p3)] := hl
  unfold fX9_changedAt at hf
  have b119 : ∀ (k56 : Int32 → Int32 → Int32 → Int32 → qS → Option (Int32 × qS)) (hk56 : ∀ (x1 : Int32) (x4 : Int32) (x5 : Int32) (x6 : Int32) (σ : qS), k56 x1 x4 x5 x6 σ = some r0 → qAt p l e (qRm 1 23) s m ([.ref (ad 0 0), .int p1, .int p2, .int p3] : List Value).toArray below meth c Q D (mL Y) (qT Y) A ad 7 0 0 56 [(0, .ref (ad 0 0)), (1, .int x1), (4, .int x4), (5, .int x5), (6, .int x6)] [] σ) (x1 : Int32) (x4 : Int32) (x5 : Int32) (x6 : Int32) (σ : qS), fX9_changedAt_119 F k56 x1 x4 x5 x6 σ = some r0 → qAt p l e (qRm 1 23) s m ([.ref (ad 0 0), .int p1, .int p2, .int p3] : List Value).toArray below meth c Q D (mL Y) (qT Y) A ad 7 0 0 119 [(0, .ref (ad 0 0)), (1, .int x1), (4, .int x4), (5, .int x5), (6, .int x6)] [] σ := by
    clear hf hw hl ls
    intro k56 hk56
    intro x1 x4 x5 x6 σ hf H locs ls hw hl
    unfold fX9_changedAt_119 at hf
    refine q_iinc S0 (v0 := 1) dX9_changedAt_119 hl (k := 4) rfl (by decide) (by decide) rfl hf (fun v15 ls hl hf => ?_)
    refine lv_goto (tgt := 56) S0.1 S0.2.1 dX9_changedAt_122 (by decide) ?_
    exact hk56 x1 x4 x5 v15 σ hf _ _ _ hw (lv_sub hl [1, 2, 3, 4, 0] rfl)
  have b56 : ∀ (n : Nat) (x1 : Int32) (x4 : Int32) (x5 : Int32) (x6 : Int32) (σ : qS), fX9_changedAt_56 F n x1 x4 x5 x6 σ = some r0 → qAt p l e (qRm 1 23) s m ([.ref (ad 0 0), .int p1, .int p2, .int p3] : List Value).toArray below meth c Q D (mL Y) (qT Y) A ad 7 0 0 56 [(0, .ref (ad 0 0)), (1, .int x1), (4, .int x4), (5, .int x5), (6, .int x6)] [] σ := by
    clear hf hw hl ls
    intro n
    induction n with
    | zero => intro x1 x4 x5 x6 σ hf; exact absurd hf (by rw [fX9_changedAt_56]; exact nofun)
    | succ n hk56 =>
      intro x1 x4 x5 x6 σ hf H locs ls hw hl
      rw [fX9_changedAt_56] at hf
      refine lv_iload S0.1 S0.2.1 dX9_changedAt_56 (lv_at hl 4 rfl) ?_
      refine lv_aload_n S0.1 S0.2.1 dX9_changedAt_58 rfl (lv_at hl 0 rfl) ?_
      refine gX9_steps S0 hw kw_1173 dX9_changedAt_59 hf (fun v11 hf => ?_)
      refine lv_icmp_ge (tgt := 125) S0.1 S0.2.1 dX9_changedAt_62 (by decide) (fun c12 => ?_) (fun c12 => ?_)
      · replace hf := q_pos c12 hf
        refine lv_bipush (v := (-100)) S0.1 S0.2.1 dX9_changedAt_125 (by decide) ?_
        exact hret dX9_changedAt_127 hw hf
      · replace hf := q_neg c12 hf
        refine lv_aload_n S0.1 S0.2.1 dX9_changedAt_65 rfl (lv_at hl 0 rfl) ?_
        refine gX9_sn S0 hw kw_1170 dX9_changedAt_66 ?_
        refine lv_iload S0.1 S0.2.1 dX9_changedAt_69 (lv_at hl 4 rfl) ?_
        refine q_iald S0 hw dM_122 (t0 := 0) rfl rfl dX9_changedAt_71 hf (fun v13 hf => ?_)
        refine lv_iload_n S0.1 S0.2.1 dX9_changedAt_72 rfl (lv_at hl 1 rfl) ?_
        refine lv_icmp_ne (tgt := 119) S0.1 S0.2.1 dX9_changedAt_73 (by decide) (fun c14 => ?_) (fun c14 => ?_)
        · replace hf := q_neg c14 hf
          exact b119 (fX9_changedAt_56 F n) hk56 x1 x4 x5 x6 σ hf _ _ _ hw (lv_sub hl [0, 1, 2, 3, 4] rfl)
        · replace hf := q_pos c14 hf
          refine lv_aload_n S0.1 S0.2.1 dX9_changedAt_76 rfl (lv_at hl 0 rfl) ?_
          refine gX9_sk S0 hw kw_1169 dX9_changedAt_77 ?_
          refine lv_iload S0.1 S0.2.1 dX9_changedAt_80 (lv_at hl 4 rfl) ?_
          refine q_iald S0 hw dM_121 (t0 := 0) rfl rfl dX9_changedAt_82 hf (fun v16 hf => ?_)
          refine lv_iconst (v := 3) S0.1 S0.2.1 dX9_changedAt_83 (by decide) ?_
          refine lv_icmp_ge (tgt := 119) S0.1 S0.2.1 dX9_changedAt_84 (by decide) (fun c17 => ?_) (fun c17 => ?_)
          · replace hf := q_pos c17 hf
            exact b119 (fX9_changedAt_56 F n) hk56 x1 x4 x5 x6 σ hf _ _ _ hw (lv_sub hl [0, 1, 2, 3, 4] rfl)
          · replace hf := q_neg c17 hf
            refine lv_aload_n S0.1 S0.2.1 dX9_changedAt_87 rfl (lv_at hl 0 rfl) ?_
            refine gX9_sc S0 hw kw_1168 dX9_changedAt_88 ?_
            refine lv_iload S0.1 S0.2.1 dX9_changedAt_91 (lv_at hl 4 rfl) ?_
            refine q_iald S0 hw dM_120 (t0 := 0) rfl rfl dX9_changedAt_93 hf (fun v18 hf => ?_)
            refine lv_iload S0.1 S0.2.1 dX9_changedAt_94 (lv_at hl 3 rfl) ?_
            refine lv_icmp_le (tgt := 119) S0.1 S0.2.1 dX9_changedAt_96 (by decide) (fun c19 => ?_) (fun c19 => ?_)
            · replace hf := q_pos c19 hf
              exact b119 (fX9_changedAt_56 F n) hk56 x1 x4 x5 x6 σ hf _ _ _ hw (lv_sub hl [0, 1, 2, 3, 4] rfl)
            · replace hf := q_neg c19 hf
              refine lv_aload_n S0.1 S0.2.1 dX9_changedAt_99 rfl (lv_at hl 0 rfl) ?_
              refine gX9_sc S0 hw kw_1168 dX9_changedAt_100 ?_
              refine lv_iload S0.1 S0.2.1 dX9_changedAt_103 (lv_at hl 4 rfl) ?_
              refine q_iald S0 hw dM_120 (t0 := 0) rfl rfl dX9_changedAt_105 hf (fun v20 hf => ?_)
              refine lv_istore (lv' := [(5, .int v20), (0, .ref (ad 0 0)), (1, .int x1), (4, .int x4), (6, .int x6)]) S0.1 S0.2.1 dX9_changedAt_106 hl (by decide) rfl (fun ls hl => ?_)
              refine lv_iload S0.1 S0.2.1 dX9_changedAt_108 (lv_at hl 3 rfl) ?_
              refine lv_if_ne (tgt := 116) S0.1 S0.2.1 dX9_changedAt_110 (by decide) (fun c21 => ?_) (fun c21 => ?_)
              · replace hf := q_neg c21 hf
                refine q_iinc S0 (v0 := (-1)) dX9_changedAt_116 hl (k := 3) rfl (by decide) (by decide) rfl hf (fun v22 ls hl hf => ?_)
                exact b119 (fX9_changedAt_56 F n) hk56 x1 v22 v20 x6 σ hf _ _ _ hw (lv_sub hl [2, 3, 0, 1, 4] rfl)
              · replace hf := q_pos c21 hf
                refine lv_iload S0.1 S0.2.1 dX9_changedAt_113 (lv_at hl 0 rfl) ?_
                exact hret dX9_changedAt_115 hw hf
  have b39 : ∀ (x1 : Int32) (x2 : Int32) (x3 : Int32) (t1 : Int32) (σ : qS), fX9_changedAt_39 F x1 x2 x3 t1 σ = some r0 → qAt p l e (qRm 1 23) s m ([.ref (ad 0 0), .int p1, .int p2, .int p3] : List Value).toArray below meth c Q D (mL Y) (qT Y) A ad 7 0 0 39 [(0, .ref (ad 0 0)), (1, .int x1), (2, .int x2), (3, .int x3)] [.int t1, .ref (ad 0 0)] σ := by
    clear hf hw hl ls
    intro x1 x2 x3 t1 σ hf H locs ls hw hl
    unfold fX9_changedAt_39 at hf
    refine q_calli S0 hw (As := [.int t1]) (rest := []) (wX9_holds l D Y ad F t1 σ) qyX9_holds kw_1335 ⟨Nat.le_of_ble_eq_true rfl, Nat.le_of_ble_eq_true rfl⟩ dM_0 rfl rfl rfl rfl hl.1 (Nat.le_of_ble_eq_true rfl) dX9_changedAt_39 ⟨Nat.le_refl _, Nat.le_refl _⟩ rfl hf (fun v9 s8 H locs hw hf => ?_)
    refine lv_if_eq (tgt := 47) S0.1 S0.2.1 dX9_changedAt_42 (by decide) (fun c10 => ?_) (fun c10 => ?_)
    · replace hf := q_pos c10 hf
      refine lv_iload_n S0.1 S0.2.1 dX9_changedAt_47 rfl (lv_at hl 3 rfl) ?_
      refine lv_istore (lv' := [(4, .int x3), (0, .ref (ad 0 0)), (1, .int x1), (2, .int x2), (3, .int x3)]) S0.1 S0.2.1 dX9_changedAt_48 hl (by decide) rfl (fun ls hl => ?_)
      refine lv_iload_n S0.1 S0.2.1 dX9_changedAt_50 rfl (lv_at hl 3 rfl) ?_
      refine lv_istore (lv' := [(5, .int x2), (4, .int x3), (0, .ref (ad 0 0)), (1, .int x1), (2, .int x2), (3, .int x3)]) S0.1 S0.2.1 dX9_changedAt_51 hl (by decide) rfl (fun ls hl => ?_)
      refine lv_iconst (v := 0) S0.1 S0.2.1 dX9_changedAt_53 (by decide) ?_
      refine lv_istore (lv' := [(6, .int 0), (5, .int x2), (4, .int x3), (0, .ref (ad 0 0)), (1, .int x1), (2, .int x2), (3, .int x3)]) S0.1 S0.2.1 dX9_changedAt_54 hl (by decide) rfl (fun ls hl => ?_)
      exact b56 F x1 x3 x2 0 s8 hf _ _ _ hw (lv_sub hl [3, 4, 2, 1, 0] rfl)
    · replace hf := q_neg c10 hf
      refine lv_iconst (v := (-1)) S0.1 S0.2.1 dX9_changedAt_45 (by decide) ?_
      exact hret dX9_changedAt_46 hw hf
  refine lv_aload_n S0.1 S0.2.1 dX9_changedAt_0 rfl (lv_at hl 0 rfl) ?_
  refine lv_iload_n S0.1 S0.2.1 dX9_changedAt_1 rfl (lv_at hl 3 rfl) ?_
  refine lv_if_ge (tgt := 9) S0.1 S0.2.1 dX9_changedAt_2 (by decide) (fun c1 => ?_) (fun c1 => ?_)
  · replace hf := q_pos c1 hf
    refine lv_aload_n S0.1 S0.2.1 dX9_changedAt_9 rfl (lv_at hl 0 rfl) ?_
    refine lv_iload_n S0.1 S0.2.1 dX9_changedAt_10 rfl (lv_at hl 2 rfl) ?_
    refine lv_iconst (v := 0) S0.1 S0.2.1 dX9_changedAt_11 (by decide) ?_
    refine lv_aload_n S0.1 S0.2.1 dX9_changedAt_12 rfl (lv_at hl 0 rfl) ?_
    refine gX9_last S0 hw kw_1174 dX9_changedAt_13 hf (fun v2 hf => ?_)
    refine q_calli S0 hw (As := [.int p2, .int 0, .int v2]) (rest := [.ref (ad 0 0)]) (wX9_in l D Y ad F p2 0 v2 σ) qyX9_in kw_1331 ⟨Nat.le_of_ble_eq_true rfl, Nat.le_of_ble_eq_true rfl⟩ dM_0 rfl rfl rfl rfl hl.1 (Nat.le_of_ble_eq_true rfl) dX9_changedAt_16 ⟨Nat.le_refl _, Nat.le_refl _⟩ rfl hf (fun v4 s3 H locs hw hf => ?_)
    refine lv_if_ne (tgt := 26) S0.1 S0.2.1 dX9_changedAt_19 (by decide) (fun c5 => ?_) (fun c5 => ?_)
    · replace hf := q_neg c5 hf
      refine lv_iload_n S0.1 S0.2.1 dX9_changedAt_26 rfl (lv_at hl 2 rfl) ?_
      refine lv_aload_n S0.1 S0.2.1 dX9_changedAt_27 rfl (lv_at hl 0 rfl) ?_
      refine gX9_compacted S0 hw kw_1176 dX9_changedAt_28 hf (fun v6 hf => ?_)
      refine lv_icmp_ge (tgt := 38) S0.1 S0.2.1 dX9_changedAt_31 (by decide) (fun c7 => ?_) (fun c7 => ?_)
      · replace hf := q_pos c7 hf
        refine lv_iconst (v := 0) S0.1 S0.2.1 dX9_changedAt_38 (by decide) ?_
        exact b39 p1 p2 p3 0 s3 hf _ _ _ hw (lv_sub hl [0, 1, 2, 3] rfl)
      · replace hf := q_neg c7 hf
        refine lv_iconst (v := 3) S0.1 S0.2.1 dX9_changedAt_34 (by decide) ?_
        refine lv_goto (tgt := 39) S0.1 S0.2.1 dX9_changedAt_35 (by decide) ?_
        exact b39 p1 p2 p3 3 s3 hf _ _ _ hw (lv_sub hl [0, 1, 2, 3] rfl)
    · replace hf := q_pos c5 hf
      refine lv_iconst (v := 2) S0.1 S0.2.1 dX9_changedAt_22 (by decide) ?_
      refine lv_goto (tgt := 39) S0.1 S0.2.1 dX9_changedAt_23 (by decide) ?_
      exact b39 p1 p2 p3 2 s3 hf _ _ _ hw (lv_sub hl [0, 1, 2, 3] rfl)
  · replace hf := q_neg c1 hf
    refine lv_iconst (v := 1) S0.1 S0.2.1 dX9_changedAt_5 (by decide) ?_
    refine lv_goto (tgt := 39) S0.1 S0.2.1 dX9_changedAt_6 (by decide) ?_
    exact b39 p1 p2 p3 1 σ hf _ _ _ hw (lv_sub hl [0, 1, 2, 3] rfl)

theorem qyX9_below : qY yX9_below RX9 cX9_below 4 (some .int) 1 := ⟨⟨kw_1481, kp_67, kw_11, kw_1482⟩, rfl, by decide, by decide, by decide +kernel⟩
def fX9_below_42 (F : Nat) (k4 : Int32 → Int32 → Int32 → qS → Option (Int32 × qS)) (x1 : Int32) (x3 : Int32) (t0 : Int32) (t1 : Int32) (σ : qS) : Option (Int32 × qS) :=
  nm (t0 + t1) fun v4 => (nm (x3 + 1) fun v5 => (k4 x1 v4 v5 σ))
def fX9_below_41 (F : Nat) (k4 : Int32 → Int32 → Int32 → qS → Option (Int32 × qS)) (x1 : Int32) (x3 : Int32) (t0 : Int32) (σ : qS) : Option (Int32 × qS) :=
  fX9_below_42 F k4 x1 x3 t0 0 σ
def fX9_below_4 (F : Nat) : Nat → Int32 → Int32 → Int32 → qS → Option (Int32 × qS)
  | 0, _, _, _, _ => none
  | n + 1, x1, x2, x3, σ =>
  nm (σ.1 0 0 7) fun v1 => (if v1 ≤ x3 then (some (x2, σ)) else (if x3 = x1 then (fX9_below_41 F (fX9_below_4 F n) x1 x3 x2 σ) else (ldi 400 (σ.1 108 0) x3 fun v6 => (if v6 = 1 then (bnd2 (fX9_isBelow F x3 x1 σ) fun v9 s8 => (if v9 = 0 then (fX9_below_41 F (fX9_below_4 F n) x1 x3 x2 s8) else (fX9_below_42 F (fX9_below_4 F n) x1 x3 x2 1 s8))) else (fX9_below_41 F (fX9_below_4 F n) x1 x3 x2 σ)))))
def fX9_below (F : Nat) (p1 : Int32) (σ : qS) : Option (Int32 × qS) :=
  fX9_below_4 F F p1 0 1 σ
set_option maxRecDepth 100000 in
set_option maxHeartbeats 4000000 in
theorem wX9_below (l : Launch) (D : va_G) (Y : Nat → ClassId) (ad : qAd) (F : Nat) (p1 : Int32) (σ : qS) : qCi l yX9_below cX9_below 4 (some .int) 1 23 D (mL Y) (qT Y) ad [.ref (ad 0 0), .int p1] σ (fX9_below F p1 σ) := by
  refine q_ofi (by decide) (Nat.le_of_ble_eq_true rfl) "LeasehallModel" rfl (fun p e s m below meth c A Q r0 S0 hf hw hret ls hl => ?_)
  replace hl : lv_has ls 4 [(0, .ref (ad 0 0)), (1, .int p1)] := hl
  unfold fX9_below at hf
  have b42 : ∀ (k4 : Int32 → Int32 → Int32 → qS → Option (Int32 × qS)) (hk4 : ∀ (x1 : Int32) (x2 : Int32) (x3 : Int32) (σ : qS), k4 x1 x2 x3 σ = some r0 → qAt p l e (qRm 1 23) s m ([.ref (ad 0 0), .int p1] : List Value).toArray below meth c Q D (mL Y) (qT Y) A ad 4 0 0 4 [(0, .ref (ad 0 0)), (1, .int x1), (2, .int x2), (3, .int x3)] [] σ) (x1 : Int32) (x3 : Int32) (t0 : Int32) (t1 : Int32) (σ : qS), fX9_below_42 F k4 x1 x3 t0 t1 σ = some r0 → qAt p l e (qRm 1 23) s m ([.ref (ad 0 0), .int p1] : List Value).toArray below meth c Q D (mL Y) (qT Y) A ad 4 0 0 42 [(0, .ref (ad 0 0)), (1, .int x1), (3, .int x3)] [.int t1, .int t0] σ := by
    clear hf hw hl ls
    intro k4 hk4
    intro x1 x3 t0 t1 σ hf H locs ls hw hl
    unfold fX9_below_42 at hf
    refine lv_iadd S0.1 S0.2.1 dX9_below_42 (q_top hf (fun v4 hf => ?_))
    refine lv_istore_n (lv' := [(2, .int v4), (0, .ref (ad 0 0)), (1, .int x1), (3, .int x3)]) S0.1 S0.2.1 dX9_below_43 rfl hl (by decide) rfl (fun ls hl => ?_)
    refine q_iinc S0 (v0 := 1) dX9_below_44 hl (k := 3) rfl (by decide) (by decide) rfl hf (fun v5 ls hl hf => ?_)
    refine lv_goto (tgt := 4) S0.1 S0.2.1 dX9_below_47 (by decide) ?_
    exact hk4 x1 v4 v5 σ hf _ _ _ hw (lv_sub hl [2, 3, 1, 0] rfl)
  have b41 : ∀ (k4 : Int32 → Int32 → Int32 → qS → Option (Int32 × qS)) (hk4 : ∀ (x1 : Int32) (x2 : Int32) (x3 : Int32) (σ : qS), k4 x1 x2 x3 σ = some r0 → qAt p l e (qRm 1 23) s m ([.ref (ad 0 0), .int p1] : List Value).toArray below meth c Q D (mL Y) (qT Y) A ad 4 0 0 4 [(0, .ref (ad 0 0)), (1, .int x1), (2, .int x2), (3, .int x3)] [] σ) (x1 : Int32) (x3 : Int32) (t0 : Int32) (σ : qS), fX9_below_41 F k4 x1 x3 t0 σ = some r0 → qAt p l e (qRm 1 23) s m ([.ref (ad 0 0), .int p1] : List Value).toArray below meth c Q D (mL Y) (qT Y) A ad 4 0 0 41 [(0, .ref (ad 0 0)), (1, .int x1), (3, .int x3)] [.int t0] σ := by
    clear hf hw hl ls
    intro k4 hk4
    intro x1 x3 t0 σ hf H locs ls hw hl
    unfold fX9_below_41 at hf
    refine lv_iconst (v := 0) S0.1 S0.2.1 dX9_below_41 (by decide) ?_
    exact b42 k4 hk4 x1 x3 t0 0 σ hf _ _ _ hw (lv_sub hl [0, 1, 2] rfl)
  have b4 : ∀ (n : Nat) (x1 : Int32) (x2 : Int32) (x3 : Int32) (σ : qS), fX9_below_4 F n x1 x2 x3 σ = some r0 → qAt p l e (qRm 1 23) s m ([.ref (ad 0 0), .int p1] : List Value).toArray below meth c Q D (mL Y) (qT Y) A ad 4 0 0 4 [(0, .ref (ad 0 0)), (1, .int x1), (2, .int x2), (3, .int x3)] [] σ := by
    clear hf hw hl ls
    intro n
    induction n with
    | zero => intro x1 x2 x3 σ hf; exact absurd hf (by rw [fX9_below_4]; exact nofun)
    | succ n hk4 =>
      intro x1 x2 x3 σ hf H locs ls hw hl
      rw [fX9_below_4] at hf
      refine lv_iload_n S0.1 S0.2.1 dX9_below_4 rfl (lv_at hl 3 rfl) ?_
      refine lv_aload_n S0.1 S0.2.1 dX9_below_5 rfl (lv_at hl 0 rfl) ?_
      refine gX9_nodes S0 hw kw_1155 dX9_below_6 hf (fun v1 hf => ?_)
      refine lv_icmp_ge (tgt := 50) S0.1 S0.2.1 dX9_below_9 (by decide) (fun c2 => ?_) (fun c2 => ?_)
      · replace hf := q_pos c2 hf
        refine lv_iload_n S0.1 S0.2.1 dX9_below_50 rfl (lv_at hl 2 rfl) ?_
        exact hret dX9_below_51 hw hf
      · replace hf := q_neg c2 hf
        refine lv_iload_n S0.1 S0.2.1 dX9_below_12 rfl (lv_at hl 2 rfl) ?_
        refine lv_iload_n S0.1 S0.2.1 dX9_below_13 rfl (lv_at hl 3 rfl) ?_
        refine lv_iload_n S0.1 S0.2.1 dX9_below_14 rfl (lv_at hl 1 rfl) ?_
        refine lv_icmp_eq (tgt := 41) S0.1 S0.2.1 dX9_below_15 (by decide) (fun c3 => ?_) (fun c3 => ?_)
        · replace hf := q_pos c3 hf
          exact b41 (fX9_below_4 F n) hk4 x1 x3 x2 σ hf _ _ _ hw (lv_sub hl [0, 1, 3] rfl)
        · replace hf := q_neg c3 hf
          refine lv_aload_n S0.1 S0.2.1 dX9_below_18 rfl (lv_at hl 0 rfl) ?_
          refine gX9_is S0 hw kw_1156 dX9_below_19 ?_
          refine lv_iload_n S0.1 S0.2.1 dX9_below_22 rfl (lv_at hl 3 rfl) ?_
          refine q_iald S0 hw dM_108 (t0 := 0) rfl rfl dX9_below_23 hf (fun v6 hf => ?_)
          refine lv_iconst (v := 1) S0.1 S0.2.1 dX9_below_24 (by decide) ?_
          refine lv_icmp_ne (tgt := 41) S0.1 S0.2.1 dX9_below_25 (by decide) (fun c7 => ?_) (fun c7 => ?_)
          · replace hf := q_neg c7 hf
            exact b41 (fX9_below_4 F n) hk4 x1 x3 x2 σ hf _ _ _ hw (lv_sub hl [0, 1, 3] rfl)
          · replace hf := q_pos c7 hf
            refine lv_aload_n S0.1 S0.2.1 dX9_below_28 rfl (lv_at hl 0 rfl) ?_
            refine lv_iload_n S0.1 S0.2.1 dX9_below_29 rfl (lv_at hl 3 rfl) ?_
            refine lv_iload_n S0.1 S0.2.1 dX9_below_30 rfl (lv_at hl 1 rfl) ?_
            refine q_calli S0 hw (As := [.int x3, .int x1]) (rest := [.int x2]) (wX9_isBelow l D Y ad F x3 x1 σ) qyX9_isBelow kw_1403 ⟨Nat.le_of_ble_eq_true rfl, Nat.le_of_ble_eq_true rfl⟩ dM_0 rfl rfl rfl rfl hl.1 (Nat.le_of_ble_eq_true rfl) dX9_below_31 ⟨Nat.le_refl _, Nat.le_refl _⟩ rfl hf (fun v9 s8 H locs hw hf => ?_)
            refine lv_if_eq (tgt := 41) S0.1 S0.2.1 dX9_below_34 (by decide) (fun c10 => ?_) (fun c10 => ?_)
            · replace hf := q_pos c10 hf
              exact b41 (fX9_below_4 F n) hk4 x1 x3 x2 s8 hf _ _ _ hw (lv_sub hl [0, 1, 3] rfl)
            · replace hf := q_neg c10 hf
              refine lv_iconst (v := 1) S0.1 S0.2.1 dX9_below_37 (by decide) ?_
              refine lv_goto (tgt := 42) S0.1 S0.2.1 dX9_below_38 (by decide) ?_
              exact b42 (fX9_below_4 F n) hk4 x1 x3 x2 1 s8 hf _ _ _ hw (lv_sub hl [0, 1, 3] rfl)
  refine lv_iconst (v := 0) S0.1 S0.2.1 dX9_below_0 (by decide) ?_
  refine lv_istore_n (lv' := [(2, .int 0), (0, .ref (ad 0 0)), (1, .int p1)]) S0.1 S0.2.1 dX9_below_1 rfl hl (by decide) rfl (fun ls hl => ?_)
  refine lv_iconst (v := 1) S0.1 S0.2.1 dX9_below_2 (by decide) ?_
  refine lv_istore_n (lv' := [(3, .int 1), (2, .int 0), (0, .ref (ad 0 0)), (1, .int p1)]) S0.1 S0.2.1 dX9_below_3 rfl hl (by decide) rfl (fun ls hl => ?_)
  exact b4 F p1 0 1 σ hf _ _ _ hw (lv_sub hl [2, 3, 1, 0] rfl)
theorem qyX9_named : qY yX9_named RX9 cX9_named 5 (some .int) 2 := ⟨⟨kw_1473, kp_65, kw_11, kw_1474⟩, rfl, by decide, by decide, by decide +kernel⟩
def fX9_named_53 (F : Nat) (k5 : Int32 → Int32 → Int32 → Int32 → qS → Option (Int32 × qS)) (x1 : Int32) (x2 : Int32) (x4 : Int32) (t0 : Int32) (σ : qS) : Option (Int32 × qS) :=
  nm (x4 + 1) fun v5 => (k5 x1 x2 t0 v5 σ)
def fX9_named_52 (F : Nat) (k5 : Int32 → Int32 → Int32 → Int32 → qS → Option (Int32 × qS)) (x1 : Int32) (x2 : Int32) (x3 : Int32) (x4 : Int32) (σ : qS) : Option (Int32 × qS) :=
  fX9_named_53 F k5 x1 x2 x4 x3 σ
def fX9_named_5 (F : Nat) : Nat → Int32 → Int32 → Int32 → Int32 → qS → Option (Int32 × qS)
  | 0, _, _, _, _, _ => none
  | n + 1, x1, x2, x3, x4, σ =>
  nm (σ.1 0 0 7) fun v1 => (if v1 ≤ x4 then (some (x3, σ)) else (ldi 400 (σ.1 108 0) x4 fun v3 => (if v3 = 1 then (ldi 80 (σ.1 100 0) x4 fun v6 => (if v6 = x1 then (ldi 80 (σ.1 101 0) x4 fun v8 => (if v8 = x2 then (fX9_named_53 F (fX9_named_5 F n) x1 x2 x4 x4 σ) else (fX9_named_52 F (fX9_named_5 F n) x1 x2 x3 x4 σ))) else (fX9_named_52 F (fX9_named_5 F n) x1 x2 x3 x4 σ))) else (fX9_named_52 F (fX9_named_5 F n) x1 x2 x3 x4 σ))))
def fX9_named (F : Nat) (p1 : Int32) (p2 : Int32) (σ : qS) : Option (Int32 × qS) :=
  fX9_named_5 F F p1 p2 ((-1)) 1 σ
set_option maxRecDepth 100000 in
set_option maxHeartbeats 4000000 in
theorem wX9_named (l : Launch) (D : va_G) (Y : Nat → ClassId) (ad : qAd) (F : Nat) (p1 : Int32) (p2 : Int32) (σ : qS) : qCi l yX9_named cX9_named 5 (some .int) 0 0 D (mL Y) (qT Y) ad [.ref (ad 0 0), .int p1, .int p2] σ (fX9_named F p1 p2 σ) := by
  refine q_ofi (by decide) (Nat.le_of_ble_eq_true rfl) "LeasehallModel" rfl (fun p e s m below meth c A Q r0 S0 hf hw hret ls hl => ?_)
  replace hl : lv_has ls 5 [(0, .ref (ad 0 0)), (1, .int p1), (2, .int p2)] := hl
  unfold fX9_named at hf
  have b53 : ∀ (k5 : Int32 → Int32 → Int32 → Int32 → qS → Option (Int32 × qS)) (hk5 : ∀ (x1 : Int32) (x2 : Int32) (x3 : Int32) (x4 : Int32) (σ : qS), k5 x1 x2 x3 x4 σ = some r0 → qAt p l e (qRm 0 0) s m ([.ref (ad 0 0), .int p1, .int p2] : List Value).toArray below meth c Q D (mL Y) (qT Y) A ad 5 0 0 5 [(0, .ref (ad 0 0)), (1, .int x1), (2, .int x2), (3, .int x3), (4, .int x4)] [] σ) (x1 : Int32) (x2 : Int32) (x4 : Int32) (t0 : Int32) (σ : qS), fX9_named_53 F k5 x1 x2 x4 t0 σ = some r0 → qAt p l e (qRm 0 0) s m ([.ref (ad 0 0), .int p1, .int p2] : List Value).toArray below meth c Q D (mL Y) (qT Y) A ad 5 0 0 53 [(0, .ref (ad 0 0)), (1, .int x1), (2, .int x2), (4, .int x4)] [.int t0] σ := by
    clear hf hw hl ls
    intro k5 hk5
    intro x1 x2 x4 t0 σ hf H locs ls hw hl
    unfold fX9_named_53 at hf
    refine lv_istore_n (lv' := [(3, .int t0), (0, .ref (ad 0 0)), (1, .int x1), (2, .int x2), (4, .int x4)]) S0.1 S0.2.1 dX9_named_53 rfl hl (by decide) rfl (fun ls hl => ?_)
    refine q_iinc S0 (v0 := 1) dX9_named_54 hl (k := 4) rfl (by decide) (by decide) rfl hf (fun v5 ls hl hf => ?_)
    refine lv_goto (tgt := 5) S0.1 S0.2.1 dX9_named_57 (by decide) ?_
    exact hk5 x1 x2 t0 v5 σ hf _ _ _ hw (lv_sub hl [2, 3, 4, 1, 0] rfl)
  have b52 : ∀ (k5 : Int32 → Int32 → Int32 → Int32 → qS → Option (Int32 × qS)) (hk5 : ∀ (x1 : Int32) (x2 : Int32) (x3 : Int32) (x4 : Int32) (σ : qS), k5 x1 x2 x3 x4 σ = some r0 → qAt p l e (qRm 0 0) s m ([.ref (ad 0 0), .int p1, .int p2] : List Value).toArray below meth c Q D (mL Y) (qT Y) A ad 5 0 0 5 [(0, .ref (ad 0 0)), (1, .int x1), (2, .int x2), (3, .int x3), (4, .int x4)] [] σ) (x1 : Int32) (x2 : Int32) (x3 : Int32) (x4 : Int32) (σ : qS), fX9_named_52 F k5 x1 x2 x3 x4 σ = some r0 → qAt p l e (qRm 0 0) s m ([.ref (ad 0 0), .int p1, .int p2] : List Value).toArray below meth c Q D (mL Y) (qT Y) A ad 5 0 0 52 [(0, .ref (ad 0 0)), (1, .int x1), (2, .int x2), (3, .int x3), (4, .int x4)] [] σ := by
    clear hf hw hl ls
    intro k5 hk5
    intro x1 x2 x3 x4 σ hf H locs ls hw hl
    unfold fX9_named_52 at hf
    refine lv_iload_n S0.1 S0.2.1 dX9_named_52 rfl (lv_at hl 3 rfl) ?_
    exact b53 k5 hk5 x1 x2 x4 x3 σ hf _ _ _ hw (lv_sub hl [0, 1, 2, 4] rfl)
  have b5 : ∀ (n : Nat) (x1 : Int32) (x2 : Int32) (x3 : Int32) (x4 : Int32) (σ : qS), fX9_named_5 F n x1 x2 x3 x4 σ = some r0 → qAt p l e (qRm 0 0) s m ([.ref (ad 0 0), .int p1, .int p2] : List Value).toArray below meth c Q D (mL Y) (qT Y) A ad 5 0 0 5 [(0, .ref (ad 0 0)), (1, .int x1), (2, .int x2), (3, .int x3), (4, .int x4)] [] σ := by
    clear hf hw hl ls
    intro n
    induction n with
    | zero => intro x1 x2 x3 x4 σ hf; exact absurd hf (by rw [fX9_named_5]; exact nofun)
    | succ n hk5 =>
      intro x1 x2 x3 x4 σ hf H locs ls hw hl
      rw [fX9_named_5] at hf
      refine lv_iload S0.1 S0.2.1 dX9_named_5 (lv_at hl 4 rfl) ?_
      refine lv_aload_n S0.1 S0.2.1 dX9_named_7 rfl (lv_at hl 0 rfl) ?_
      refine gX9_nodes S0 hw kw_1155 dX9_named_8 hf (fun v1 hf => ?_)
      refine lv_icmp_ge (tgt := 60) S0.1 S0.2.1 dX9_named_11 (by decide) (fun c2 => ?_) (fun c2 => ?_)
      · replace hf := q_pos c2 hf
        refine lv_iload_n S0.1 S0.2.1 dX9_named_60 rfl (lv_at hl 3 rfl) ?_
        exact hret dX9_named_61 hw hf
      · replace hf := q_neg c2 hf
        refine lv_aload_n S0.1 S0.2.1 dX9_named_14 rfl (lv_at hl 0 rfl) ?_
        refine gX9_is S0 hw kw_1156 dX9_named_15 ?_
        refine lv_iload S0.1 S0.2.1 dX9_named_18 (lv_at hl 4 rfl) ?_
        refine q_iald S0 hw dM_108 (t0 := 0) rfl rfl dX9_named_20 hf (fun v3 hf => ?_)
        refine lv_iconst (v := 1) S0.1 S0.2.1 dX9_named_21 (by decide) ?_
        refine lv_icmp_ne (tgt := 52) S0.1 S0.2.1 dX9_named_22 (by decide) (fun c4 => ?_) (fun c4 => ?_)
        · replace hf := q_neg c4 hf
          exact b52 (fX9_named_5 F n) hk5 x1 x2 x3 x4 σ hf _ _ _ hw (lv_sub hl [0, 1, 2, 3, 4] rfl)
        · replace hf := q_pos c4 hf
          refine lv_aload_n S0.1 S0.2.1 dX9_named_25 rfl (lv_at hl 0 rfl) ?_
          refine gX9_parent S0 hw kw_1148 dX9_named_26 ?_
          refine lv_iload S0.1 S0.2.1 dX9_named_29 (lv_at hl 4 rfl) ?_
          refine q_iald S0 hw dM_100 (t0 := 0) rfl rfl dX9_named_31 hf (fun v6 hf => ?_)
          refine lv_iload_n S0.1 S0.2.1 dX9_named_32 rfl (lv_at hl 1 rfl) ?_
          refine lv_icmp_ne (tgt := 52) S0.1 S0.2.1 dX9_named_33 (by decide) (fun c7 => ?_) (fun c7 => ?_)
          · replace hf := q_neg c7 hf
            exact b52 (fX9_named_5 F n) hk5 x1 x2 x3 x4 σ hf _ _ _ hw (lv_sub hl [0, 1, 2, 3, 4] rfl)
          · replace hf := q_pos c7 hf
            refine lv_aload_n S0.1 S0.2.1 dX9_named_36 rfl (lv_at hl 0 rfl) ?_
            refine gX9_name S0 hw kw_1149 dX9_named_37 ?_
            refine lv_iload S0.1 S0.2.1 dX9_named_40 (lv_at hl 4 rfl) ?_
            refine q_iald S0 hw dM_101 (t0 := 0) rfl rfl dX9_named_42 hf (fun v8 hf => ?_)
            refine lv_iload_n S0.1 S0.2.1 dX9_named_43 rfl (lv_at hl 2 rfl) ?_
            refine lv_icmp_ne (tgt := 52) S0.1 S0.2.1 dX9_named_44 (by decide) (fun c9 => ?_) (fun c9 => ?_)
            · replace hf := q_neg c9 hf
              exact b52 (fX9_named_5 F n) hk5 x1 x2 x3 x4 σ hf _ _ _ hw (lv_sub hl [0, 1, 2, 3, 4] rfl)
            · replace hf := q_pos c9 hf
              refine lv_iload S0.1 S0.2.1 dX9_named_47 (lv_at hl 4 rfl) ?_
              refine lv_goto (tgt := 53) S0.1 S0.2.1 dX9_named_49 (by decide) ?_
              exact b53 (fX9_named_5 F n) hk5 x1 x2 x4 x4 σ hf _ _ _ hw (lv_sub hl [0, 1, 2, 4] rfl)
  refine lv_iconst (v := (-1)) S0.1 S0.2.1 dX9_named_0 (by decide) ?_
  refine lv_istore_n (lv' := [(3, .int ((-1))), (0, .ref (ad 0 0)), (1, .int p1), (2, .int p2)]) S0.1 S0.2.1 dX9_named_1 rfl hl (by decide) rfl (fun ls hl => ?_)
  refine lv_iconst (v := 1) S0.1 S0.2.1 dX9_named_2 (by decide) ?_
  refine lv_istore (lv' := [(4, .int 1), (3, .int ((-1))), (0, .ref (ad 0 0)), (1, .int p1), (2, .int p2)]) S0.1 S0.2.1 dX9_named_3 hl (by decide) rfl (fun ls hl => ?_)
  exact b5 F p1 p2 ((-1)) 1 σ hf _ _ _ hw (lv_sub hl [2, 3, 4, 1, 0] rfl)
theorem qyX9_fills : qY yX9_fills RX9 cX9_fills 4 (some .boolean) 1 := ⟨⟨kw_1477, kp_66, kw_11, kw_1478⟩, rfl, by decide, by decide, by decide +kernel⟩
def fX9_fills_39 (F : Nat) (k4 : Int32 → Int32 → qS → Option (Int32 × qS)) (x3 : Int32) (t0 : Int32) (t1 : Int32) (σ : qS) : Option (Int32 × qS) :=
  nm (t0 ||| t1) fun v4 => (ldi 80 (σ.1 100 0) x3 fun v5 => (k4 v4 v5 σ))
def fX9_fills_38 (F : Nat) (k4 : Int32 → Int32 → qS → Option (Int32 × qS)) (x3 : Int32) (t0 : Int32) (σ : qS) : Option (Int32 × qS) :=
  fX9_fills_39 F k4 x3 t0 0 σ
def fX9_fills_4 (F : Nat) : Nat → Int32 → Int32 → qS → Option (Int32 × qS)
  | 0, _, _, _ => none
  | n + 1, x2, x3, σ =>
  if x3 < 0 then (gbl x2 (some (x2, σ))) else (ldi 80 (σ.1 106 0) x3 fun v2 => (if v2 < 0 then (fX9_fills_38 F (fX9_fills_4 F n) x3 x2 σ) else (bnd2 (fX9_below F x3 σ) fun v7 s6 => (nm (v7 + 1) fun v8 => (ldi 80 (s6.1 106 0) x3 fun v9 => (if v8 ≤ v9 then (fX9_fills_38 F (fX9_fills_4 F n) x3 x2 s6) else (fX9_fills_39 F (fX9_fills_4 F n) x3 x2 1 s6)))))))
def fX9_fills (F : Nat) (p1 : Int32) (σ : qS) : Option (Int32 × qS) :=
  fX9_fills_4 F F 0 p1 σ
set_option maxRecDepth 100000 in
set_option maxHeartbeats 4000000 in
theorem wX9_fills (l : Launch) (D : va_G) (Y : Nat → ClassId) (ad : qAd) (F : Nat) (p1 : Int32) (σ : qS) : qCi l yX9_fills cX9_fills 4 (some .boolean) 2 46 D (mL Y) (qT Y) ad [.ref (ad 0 0), .int p1] σ (fX9_fills F p1 σ) := by
  refine q_ofz (by decide) (Nat.le_of_ble_eq_true rfl) "LeasehallModel" rfl (fun p e s m below meth c A Q r0 S0 hf hw hret ls hl => ?_)
  replace hl : lv_has ls 4 [(0, .ref (ad 0 0)), (1, .int p1)] := hl
  unfold fX9_fills at hf
  have b39 : ∀ (k4 : Int32 → Int32 → qS → Option (Int32 × qS)) (hk4 : ∀ (x2 : Int32) (x3 : Int32) (σ : qS), k4 x2 x3 σ = some r0 → qAt p l e (qRm 2 46) s m ([.ref (ad 0 0), .int p1] : List Value).toArray below meth c Q D (mL Y) (qT Y) A ad 4 0 0 4 [(0, .ref (ad 0 0)), (2, .int x2), (3, .int x3)] [] σ) (x3 : Int32) (t0 : Int32) (t1 : Int32) (σ : qS), fX9_fills_39 F k4 x3 t0 t1 σ = some r0 → qAt p l e (qRm 2 46) s m ([.ref (ad 0 0), .int p1] : List Value).toArray below meth c Q D (mL Y) (qT Y) A ad 4 0 0 39 [(0, .ref (ad 0 0)), (3, .int x3)] [.int t1, .int t0] σ := by
    clear hf hw hl ls
    intro k4 hk4
    intro x3 t0 t1 σ hf H locs ls hw hl
    unfold fX9_fills_39 at hf
    refine lv_ior S0.1 S0.2.1 dX9_fills_39 (q_top hf (fun v4 hf => ?_))
    refine lv_istore_n (lv' := [(2, .int v4), (0, .ref (ad 0 0)), (3, .int x3)]) S0.1 S0.2.1 dX9_fills_40 rfl hl (by decide) rfl (fun ls hl => ?_)
    refine lv_aload_n S0.1 S0.2.1 dX9_fills_41 rfl (lv_at hl 1 rfl) ?_
    refine gX9_parent S0 hw kw_1148 dX9_fills_42 ?_
    refine lv_iload_n S0.1 S0.2.1 dX9_fills_45 rfl (lv_at hl 2 rfl) ?_
    refine q_iald S0 hw dM_100 (t0 := 0) rfl rfl dX9_fills_46 hf (fun v5 hf => ?_)
    refine lv_istore_n (lv' := [(3, .int v5), (2, .int v4), (0, .ref (ad 0 0))]) S0.1 S0.2.1 dX9_fills_47 rfl hl (by decide) rfl (fun ls hl => ?_)
    refine lv_goto (tgt := 4) S0.1 S0.2.1 dX9_fills_48 (by decide) ?_
    exact hk4 v4 v5 σ hf _ _ _ hw (lv_sub hl [2, 1, 0] rfl)
  have b38 : ∀ (k4 : Int32 → Int32 → qS → Option (Int32 × qS)) (hk4 : ∀ (x2 : Int32) (x3 : Int32) (σ : qS), k4 x2 x3 σ = some r0 → qAt p l e (qRm 2 46) s m ([.ref (ad 0 0), .int p1] : List Value).toArray below meth c Q D (mL Y) (qT Y) A ad 4 0 0 4 [(0, .ref (ad 0 0)), (2, .int x2), (3, .int x3)] [] σ) (x3 : Int32) (t0 : Int32) (σ : qS), fX9_fills_38 F k4 x3 t0 σ = some r0 → qAt p l e (qRm 2 46) s m ([.ref (ad 0 0), .int p1] : List Value).toArray below meth c Q D (mL Y) (qT Y) A ad 4 0 0 38 [(0, .ref (ad 0 0)), (3, .int x3)] [.int t0] σ := by
    clear hf hw hl ls
    intro k4 hk4
    intro x3 t0 σ hf H locs ls hw hl
    unfold fX9_fills_38 at hf
    refine lv_iconst (v := 0) S0.1 S0.2.1 dX9_fills_38 (by decide) ?_
    exact b39 k4 hk4 x3 t0 0 σ hf _ _ _ hw (lv_sub hl [0, 1] rfl)
  have b4 : ∀ (n : Nat) (x2 : Int32) (x3 : Int32) (σ : qS), fX9_fills_4 F n x2 x3 σ = some r0 → qAt p l e (qRm 2 46) s m ([.ref (ad 0 0), .int p1] : List Value).toArray below meth c Q D (mL Y) (qT Y) A ad 4 0 0 4 [(0, .ref (ad 0 0)), (2, .int x2), (3, .int x3)] [] σ := by
    clear hf hw hl ls
    intro n
    induction n with
    | zero => intro x2 x3 σ hf; exact absurd hf (by rw [fX9_fills_4]; exact nofun)
    | succ n hk4 =>
      intro x2 x3 σ hf H locs ls hw hl
      rw [fX9_fills_4] at hf
      refine lv_iload_n S0.1 S0.2.1 dX9_fills_4 rfl (lv_at hl 2 rfl) ?_
      refine lv_if_lt (tgt := 51) S0.1 S0.2.1 dX9_fills_5 (by decide) (fun c1 => ?_) (fun c1 => ?_)
      · replace hf := q_pos c1 hf
        refine lv_iload_n S0.1 S0.2.1 dX9_fills_51 rfl (lv_at hl 1 rfl) ?_
        exact hret dX9_fills_52 hw hf
      · replace hf := q_neg c1 hf
        refine lv_iload_n S0.1 S0.2.1 dX9_fills_8 rfl (lv_at hl 1 rfl) ?_
        refine lv_aload_n S0.1 S0.2.1 dX9_fills_9 rfl (lv_at hl 0 rfl) ?_
        refine gX9_quota S0 hw kw_1154 dX9_fills_10 ?_
        refine lv_iload_n S0.1 S0.2.1 dX9_fills_13 rfl (lv_at hl 2 rfl) ?_
        refine q_iald S0 hw dM_106 (t0 := 0) rfl rfl dX9_fills_14 hf (fun v2 hf => ?_)
        refine lv_if_lt (tgt := 38) S0.1 S0.2.1 dX9_fills_15 (by decide) (fun c3 => ?_) (fun c3 => ?_)
        · replace hf := q_pos c3 hf
          exact b38 (fX9_fills_4 F n) hk4 x3 x2 σ hf _ _ _ hw (lv_sub hl [0, 2] rfl)
        · replace hf := q_neg c3 hf
          refine lv_aload_n S0.1 S0.2.1 dX9_fills_18 rfl (lv_at hl 0 rfl) ?_
          refine lv_iload_n S0.1 S0.2.1 dX9_fills_19 rfl (lv_at hl 2 rfl) ?_
          refine q_calli S0 hw (As := [.int x3]) (rest := [.int x2]) (wX9_below l D Y ad F x3 σ) qyX9_below kw_1479 ⟨Nat.le_of_ble_eq_true rfl, Nat.le_of_ble_eq_true rfl⟩ dM_0 rfl rfl rfl rfl hl.1 (Nat.le_of_ble_eq_true rfl) dX9_fills_20 ⟨Nat.le_refl _, Nat.le_refl _⟩ rfl hf (fun v7 s6 H locs hw hf => ?_)
          refine lv_iconst (v := 1) S0.1 S0.2.1 dX9_fills_23 (by decide) ?_
          refine lv_iadd S0.1 S0.2.1 dX9_fills_24 (q_top hf (fun v8 hf => ?_))
          refine lv_aload_n S0.1 S0.2.1 dX9_fills_25 rfl (lv_at hl 0 rfl) ?_
          refine gX9_quota S0 hw kw_1154 dX9_fills_26 ?_
          refine lv_iload_n S0.1 S0.2.1 dX9_fills_29 rfl (lv_at hl 2 rfl) ?_
          refine q_iald S0 hw dM_106 (t0 := 0) rfl rfl dX9_fills_30 hf (fun v9 hf => ?_)
          refine lv_icmp_le (tgt := 38) S0.1 S0.2.1 dX9_fills_31 (by decide) (fun c10 => ?_) (fun c10 => ?_)
          · replace hf := q_pos c10 hf
            exact b38 (fX9_fills_4 F n) hk4 x3 x2 s6 hf _ _ _ hw (lv_sub hl [0, 2] rfl)
          · replace hf := q_neg c10 hf
            refine lv_iconst (v := 1) S0.1 S0.2.1 dX9_fills_34 (by decide) ?_
            refine lv_goto (tgt := 39) S0.1 S0.2.1 dX9_fills_35 (by decide) ?_
            exact b39 (fX9_fills_4 F n) hk4 x3 x2 1 s6 hf _ _ _ hw (lv_sub hl [0, 2] rfl)
  refine lv_iconst (v := 0) S0.1 S0.2.1 dX9_fills_0 (by decide) ?_
  refine lv_istore_n (lv' := [(2, .int 0), (0, .ref (ad 0 0)), (1, .int p1)]) S0.1 S0.2.1 dX9_fills_1 rfl hl (by decide) rfl (fun ls hl => ?_)
  refine lv_iload_n S0.1 S0.2.1 dX9_fills_2 rfl (lv_at hl 2 rfl) ?_
  refine lv_istore_n (lv' := [(3, .int p1), (2, .int 0), (0, .ref (ad 0 0)), (1, .int p1)]) S0.1 S0.2.1 dX9_fills_3 rfl hl (by decide) rfl (fun ls hl => ?_)
  exact b4 F 0 p1 σ hf _ _ _ hw (lv_sub hl [2, 1, 0] rfl)
theorem qyX9_may : qY yX9_may RX9 cX9_may 3 (some .boolean) 2 := ⟨⟨kw_1469, kp_64, kw_11, kw_1470⟩, rfl, by decide, by decide, by decide +kernel⟩
def fX9_may_14 (F : Nat) (t0 : Int32) (σ : qS) : Option (Int32 × qS) :=
  gbl t0 (some (t0, σ))
def fX9_may (F : Nat) (p1 : Int32) (p2 : Int32) (σ : qS) : Option (Int32 × qS) :=
  nm (p1 >>> (p2 &&& 31)) fun v1 => (nm (v1 &&& 1) fun v2 => (if v2 = 1 then (fX9_may_14 F 1 σ) else (fX9_may_14 F 0 σ)))
set_option maxRecDepth 100000 in
set_option maxHeartbeats 4000000 in
theorem wX9_may (l : Launch) (D : va_G) (Y : Nat → ClassId) (ad : qAd) (F : Nat) (p1 : Int32) (p2 : Int32) (σ : qS) : qCi l yX9_may cX9_may 3 (some .boolean) 0 0 D (mL Y) (qT Y) ad [.ref (ad 0 0), .int p1, .int p2] σ (fX9_may F p1 p2 σ) := by
  refine q_ofz (by decide) (Nat.le_of_ble_eq_true rfl) "LeasehallModel" rfl (fun p e s m below meth c A Q r0 S0 hf hw hret ls hl => ?_)
  replace hl : lv_has ls 3 [(0, .ref (ad 0 0)), (1, .int p1), (2, .int p2)] := hl
  unfold fX9_may at hf
  have b14 : ∀ (t0 : Int32) (σ : qS), fX9_may_14 F t0 σ = some r0 → qAt p l e (qRm 0 0) s m ([.ref (ad 0 0), .int p1, .int p2] : List Value).toArray below meth c Q D (mL Y) (qT Y) A ad 3 0 0 14 [] [.int t0] σ := by
    clear hf hw hl ls
    intro t0 σ hf H locs ls hw hl
    unfold fX9_may_14 at hf
    exact hret dX9_may_14 hw hf
  refine lv_iload_n S0.1 S0.2.1 dX9_may_0 rfl (lv_at hl 1 rfl) ?_
  refine lv_iload_n S0.1 S0.2.1 dX9_may_1 rfl (lv_at hl 2 rfl) ?_
  refine lv_ishr S0.1 S0.2.1 dX9_may_2 (q_top hf (fun v1 hf => ?_))
  refine lv_iconst (v := 1) S0.1 S0.2.1 dX9_may_3 (by decide) ?_
  refine lv_iand S0.1 S0.2.1 dX9_may_4 (q_top hf (fun v2 hf => ?_))
  refine lv_iconst (v := 1) S0.1 S0.2.1 dX9_may_5 (by decide) ?_
  refine lv_icmp_ne (tgt := 13) S0.1 S0.2.1 dX9_may_6 (by decide) (fun c3 => ?_) (fun c3 => ?_)
  · replace hf := q_neg c3 hf
    refine lv_iconst (v := 0) S0.1 S0.2.1 dX9_may_13 (by decide) ?_
    exact b14 0 σ hf _ _ _ hw (lv_sub hl [] rfl)
  · replace hf := q_pos c3 hf
    refine lv_iconst (v := 1) S0.1 S0.2.1 dX9_may_9 (by decide) ?_
    refine lv_goto (tgt := 14) S0.1 S0.2.1 dX9_may_10 (by decide) ?_
    exact b14 1 σ hf _ _ _ hw (lv_sub hl [] rfl)
theorem qyX9_makes : qY yX9_makes RX9 cX9_makes 9 (some .int) 7 := ⟨⟨kw_1461, kp_62, kw_11, kw_1462⟩, rfl, by decide, by decide, by decide +kernel⟩
def fX9_makes_70 (F : Nat) (σ : qS) : Option (Int32 × qS) :=
  some ((-5), σ)
def fX9_makes_211 (F : Nat) (x5 : Int32) (x8 : Int32) (t1 : Int32) (t2 : Int32) (σ : qS) : Option (Int32 × qS) :=
  inx 80 t1 (nm (qI σ 103 0 t1.toNatClampNeg t2) fun s34 => (nm (s34.1 0 0 27) fun v35 => (inx 80 x8 (nm (qI s34 104 0 x8.toNatClampNeg v35) fun s36 => (bnd (fX9_step F 0 x8 x5 0 s36) fun s37 => (some (x8, s37)))))))
def fX9_makes_146 (F : Nat) (x1 : Int32) (x2 : Int32) (x4 : Int32) (x5 : Int32) (x6 : Int32) (x7 : Int32) (x8 : Int32) (t1 : Int32) (t2 : Int32) (σ : qS) : Option (Int32 × qS) :=
  inx 80 t1 (nm (qI σ 101 0 t1.toNatClampNeg t2) fun s25 => (ldi 80 (s25.1 105 0) x2 fun v26 => (nm (v26 + x4) fun v27 => (inx 80 x2 (nm (qI s25 105 0 x2.toNatClampNeg v27) fun s28 => (inx 80 x8 (nm (qI s28 105 0 x8.toNatClampNeg 0) fun s29 => (inx 80 x8 (nm (qI s29 106 0 x8.toNatClampNeg ((-1))) fun s30 => (inx 80 x8 (nm (qI s30 102 0 x8.toNatClampNeg x6) fun s31 => (if x6 = 1 then (fX9_makes_211 F x5 x8 x8 x1 s31) else (if x6 = 2 then (fX9_makes_211 F x5 x8 x8 x7 s31) else (fX9_makes_211 F x5 x8 x8 ((-1)) s31))))))))))))))
def fX9_makes_50 (F : Nat) (x1 : Int32) (x2 : Int32) (x3 : Int32) (x4 : Int32) (x5 : Int32) (x6 : Int32) (x7 : Int32) (σ : qS) : Option (Int32 × qS) :=
  ldi 80 (σ.1 102 0) x2 fun v10 => (if v10 = 1 then (fX9_makes_70 F σ) else (ldi 80 (σ.1 102 0) x2 fun v12 => (if v12 = 2 then (fX9_makes_70 F σ) else (bnd2 (fX9_fills F x2 σ) fun v15 s14 => (if v15 = 0 then (nm (s14.1 0 0 7) fun v17 => (if v17 = 80 then (some ((-8), s14)) else (nm (s14.1 0 0 7) fun v19 => (nm (s14.1 0 0 7) fun v20 => (nm (v20 + 1) fun v21 => (nm (qI s14 0 0 7 v21) fun s22 => (inx 80 v19 (nm (qI s22 100 0 v19.toNatClampNeg x2) fun s23 => (if x4 = 1 then (ldi 80 (s23.1 105 0) x2 fun v38 => (nm (1000 + v38) fun v39 => (fX9_makes_146 F x1 x2 x4 x5 x6 x7 v19 v19 v39 s23))) else (fX9_makes_146 F x1 x2 x4 x5 x6 x7 v19 v19 x3 s23)))))))))) else (some ((-7), s14)))))))
def fX9_makes (F : Nat) (p1 : Int32) (p2 : Int32) (p3 : Int32) (p4 : Int32) (p5 : Int32) (p6 : Int32) (p7 : Int32) (σ : qS) : Option (Int32 × qS) :=
  bnd2 (fX9_isThere F 0 p2 σ) fun v2 s1 => (if v2 = 0 then (some ((-1), s1)) else (ldi 400 (s1.1 114 0) p2 fun v4 => (ldi 10 (s1.1 131 0) p1 fun v5 => (bnd2 (fX9_may F v4 v5 s1) fun v7 s6 => (if v7 = 0 then (some ((-2), s6)) else (if p4 = 0 then (bnd2 (fX9_named F p2 p3 s6) fun v41 s40 => (if v41 < 0 then (fX9_makes_50 F p1 p2 p3 p4 p5 p6 p7 s40) else (some ((-4), s40)))) else (fX9_makes_50 F p1 p2 p3 p4 p5 p6 p7 s6)))))))
set_option maxRecDepth 100000 in
set_option maxHeartbeats 4000000 in
theorem wX9_makes (l : Launch) (D : va_G) (Y : Nat → ClassId) (ad : qAd) (F : Nat) (p1 : Int32) (p2 : Int32) (p3 : Int32) (p4 : Int32) (p5 : Int32) (p6 : Int32) (p7 : Int32) (σ : qS) : qCi l yX9_makes cX9_makes 9 (some .int) 3 69 D (mL Y) (qT Y) ad [.ref (ad 0 0), .int p1, .int p2, .int p3, .int p4, .int p5, .int p6, .int p7] σ (fX9_makes F p1 p2 p3 p4 p5 p6 p7 σ) := by
  refine q_ofi (by decide) (Nat.le_of_ble_eq_true rfl) "LeasehallModel" rfl (fun p e s m below meth c A Q r0 S0 hf hw hret ls hl => ?_)
  replace hl : lv_has ls 9 [(0, .ref (ad 0 0)), (1, .int p1), (2, .int p2), (3, .int p3), (4, .int p4), (5, .int p5), (6, .int p6), (7, .int p7)] := hl
  unfold fX9_makes at hf
  have b70 : ∀ (σ : qS), fX9_makes_70 F σ = some r0 → qAt p l e (qRm 3 69) s m ([.ref (ad 0 0), .int p1, .int p2, .int p3, .int p4, .int p5, .int p6, .int p7] : List Value).toArray below meth c Q D (mL Y) (qT Y) A ad 9 0 0 70 [] [] σ := by
    clear hf hw hl ls
    intro σ hf H locs ls hw hl
    unfold fX9_makes_70 at hf
    refine lv_bipush (v := (-5)) S0.1 S0.2.1 dX9_makes_70 (by decide) ?_
    exact hret dX9_makes_72 hw hf
  have b211 : ∀ (x5 : Int32) (x8 : Int32) (t1 : Int32) (t2 : Int32) (σ : qS), fX9_makes_211 F x5 x8 t1 t2 σ = some r0 → qAt p l e (qRm 3 69) s m ([.ref (ad 0 0), .int p1, .int p2, .int p3, .int p4, .int p5, .int p6, .int p7] : List Value).toArray below meth c Q D (mL Y) (qT Y) A ad 9 0 0 211 [(0, .ref (ad 0 0)), (5, .int x5), (8, .int x8)] [.int t2, .int t1, .ref (ad 103 0)] σ := by
    clear hf hw hl ls
    intro x5 x8 t1 t2 σ hf H locs ls hw hl
    unfold fX9_makes_211 at hf
    refine q_iast S0 hw dM_103 (t0 := 0) (fun _ => rfl) rfl dX9_makes_211 hf (fun s34 H locs hw hf => ?_)
    refine lv_aload_n S0.1 S0.2.1 dX9_makes_212 rfl (lv_at hl 0 rfl) ?_
    refine gX9_born S0 hw kw_1152 dX9_makes_213 ?_
    refine lv_iload S0.1 S0.2.1 dX9_makes_216 (lv_at hl 2 rfl) ?_
    refine lv_aload_n S0.1 S0.2.1 dX9_makes_218 rfl (lv_at hl 0 rfl) ?_
    refine gX9_now S0 hw kw_1175 dX9_makes_219 hf (fun v35 hf => ?_)
    refine q_iast S0 hw dM_104 (t0 := 0) (fun _ => rfl) rfl dX9_makes_222 hf (fun s36 H locs hw hf => ?_)
    refine lv_aload_n S0.1 S0.2.1 dX9_makes_223 rfl (lv_at hl 0 rfl) ?_
    refine lv_iconst (v := 0) S0.1 S0.2.1 dX9_makes_224 (by decide) ?_
    refine lv_iload S0.1 S0.2.1 dX9_makes_225 (lv_at hl 2 rfl) ?_
    refine lv_iload S0.1 S0.2.1 dX9_makes_227 (lv_at hl 1 rfl) ?_
    refine lv_iconst (v := 0) S0.1 S0.2.1 dX9_makes_229 (by decide) ?_
    refine q_callv S0 hw (As := [.int 0, .int x8, .int x5, .int 0]) (rest := []) (wX9_step l D Y ad F 0 x8 x5 0 s36) qyX9_step kw_1371 ⟨Nat.le_of_ble_eq_true rfl, Nat.le_of_ble_eq_true rfl⟩ dM_0 rfl rfl rfl rfl hl.1 (Nat.le_of_ble_eq_true rfl) dX9_makes_230 ⟨Nat.le_refl _, Nat.le_refl _⟩ rfl hf (fun s37 H locs hw hf => ?_)
    refine lv_iload S0.1 S0.2.1 dX9_makes_233 (lv_at hl 2 rfl) ?_
    exact hret dX9_makes_235 hw hf
  have b146 : ∀ (x1 : Int32) (x2 : Int32) (x4 : Int32) (x5 : Int32) (x6 : Int32) (x7 : Int32) (x8 : Int32) (t1 : Int32) (t2 : Int32) (σ : qS), fX9_makes_146 F x1 x2 x4 x5 x6 x7 x8 t1 t2 σ = some r0 → qAt p l e (qRm 3 69) s m ([.ref (ad 0 0), .int p1, .int p2, .int p3, .int p4, .int p5, .int p6, .int p7] : List Value).toArray below meth c Q D (mL Y) (qT Y) A ad 9 0 0 146 [(0, .ref (ad 0 0)), (1, .int x1), (2, .int x2), (4, .int x4), (5, .int x5), (6, .int x6), (7, .int x7), (8, .int x8)] [.int t2, .int t1, .ref (ad 101 0)] σ := by
    clear hf hw hl ls
    intro x1 x2 x4 x5 x6 x7 x8 t1 t2 σ hf H locs ls hw hl
    unfold fX9_makes_146 at hf
    refine q_iast S0 hw dM_101 (t0 := 0) (fun _ => rfl) rfl dX9_makes_146 hf (fun s25 H locs hw hf => ?_)
    refine lv_aload_n S0.1 S0.2.1 dX9_makes_147 rfl (lv_at hl 0 rfl) ?_
    refine gX9_counted S0 hw kw_1153 dX9_makes_148 ?_
    refine lv_iload_n S0.1 S0.2.1 dX9_makes_151 rfl (lv_at hl 2 rfl) ?_
    refine lv_dup2_11 S0.1 S0.2.1 dX9_makes_152 rfl rfl ?_
    refine q_iald S0 hw dM_105 (t0 := 0) rfl rfl dX9_makes_153 hf (fun v26 hf => ?_)
    refine lv_iload S0.1 S0.2.1 dX9_makes_154 (lv_at hl 3 rfl) ?_
    refine lv_iadd S0.1 S0.2.1 dX9_makes_156 (q_top hf (fun v27 hf => ?_))
    refine q_iast S0 hw dM_105 (t0 := 0) (fun _ => rfl) rfl dX9_makes_157 hf (fun s28 H locs hw hf => ?_)
    refine lv_aload_n S0.1 S0.2.1 dX9_makes_158 rfl (lv_at hl 0 rfl) ?_
    refine gX9_counted S0 hw kw_1153 dX9_makes_159 ?_
    refine lv_iload S0.1 S0.2.1 dX9_makes_162 (lv_at hl 7 rfl) ?_
    refine lv_iconst (v := 0) S0.1 S0.2.1 dX9_makes_164 (by decide) ?_
    refine q_iast S0 hw dM_105 (t0 := 0) (fun _ => rfl) rfl dX9_makes_165 hf (fun s29 H locs hw hf => ?_)
    refine lv_aload_n S0.1 S0.2.1 dX9_makes_166 rfl (lv_at hl 0 rfl) ?_
    refine gX9_quota S0 hw kw_1154 dX9_makes_167 ?_
    refine lv_iload S0.1 S0.2.1 dX9_makes_170 (lv_at hl 7 rfl) ?_
    refine lv_iconst (v := (-1)) S0.1 S0.2.1 dX9_makes_172 (by decide) ?_
    refine q_iast S0 hw dM_106 (t0 := 0) (fun _ => rfl) rfl dX9_makes_173 hf (fun s30 H locs hw hf => ?_)
    refine lv_aload_n S0.1 S0.2.1 dX9_makes_174 rfl (lv_at hl 0 rfl) ?_
    refine gX9_kind S0 hw kw_1150 dX9_makes_175 ?_
    refine lv_iload S0.1 S0.2.1 dX9_makes_178 (lv_at hl 7 rfl) ?_
    refine lv_iload S0.1 S0.2.1 dX9_makes_180 (lv_at hl 5 rfl) ?_
    refine q_iast S0 hw dM_102 (t0 := 0) (fun _ => rfl) rfl dX9_makes_182 hf (fun s31 H locs hw hf => ?_)
    refine lv_aload_n S0.1 S0.2.1 dX9_makes_183 rfl (lv_at hl 0 rfl) ?_
    refine gX9_whose S0 hw kw_1151 dX9_makes_184 ?_
    refine lv_iload S0.1 S0.2.1 dX9_makes_187 (lv_at hl 7 rfl) ?_
    refine lv_iload S0.1 S0.2.1 dX9_makes_189 (lv_at hl 5 rfl) ?_
    refine lv_iconst (v := 1) S0.1 S0.2.1 dX9_makes_191 (by decide) ?_
    refine lv_icmp_ne (tgt := 199) S0.1 S0.2.1 dX9_makes_192 (by decide) (fun c32 => ?_) (fun c32 => ?_)
    · replace hf := q_neg c32 hf
      refine lv_iload S0.1 S0.2.1 dX9_makes_199 (lv_at hl 5 rfl) ?_
      refine lv_iconst (v := 2) S0.1 S0.2.1 dX9_makes_201 (by decide) ?_
      refine lv_icmp_ne (tgt := 210) S0.1 S0.2.1 dX9_makes_202 (by decide) (fun c33 => ?_) (fun c33 => ?_)
      · replace hf := q_neg c33 hf
        refine lv_iconst (v := (-1)) S0.1 S0.2.1 dX9_makes_210 (by decide) ?_
        exact b211 x5 x8 x8 ((-1)) s31 hf _ _ _ hw (lv_sub hl [0, 4, 7] rfl)
      · replace hf := q_pos c33 hf
        refine lv_iload S0.1 S0.2.1 dX9_makes_205 (lv_at hl 6 rfl) ?_
        refine lv_goto (tgt := 211) S0.1 S0.2.1 dX9_makes_207 (by decide) ?_
        exact b211 x5 x8 x8 x7 s31 hf _ _ _ hw (lv_sub hl [0, 4, 7] rfl)
    · replace hf := q_pos c32 hf
      refine lv_iload_n S0.1 S0.2.1 dX9_makes_195 rfl (lv_at hl 1 rfl) ?_
      refine lv_goto (tgt := 211) S0.1 S0.2.1 dX9_makes_196 (by decide) ?_
      exact b211 x5 x8 x8 x1 s31 hf _ _ _ hw (lv_sub hl [0, 4, 7] rfl)
  have b50 : ∀ (x1 : Int32) (x2 : Int32) (x3 : Int32) (x4 : Int32) (x5 : Int32) (x6 : Int32) (x7 : Int32) (σ : qS), fX9_makes_50 F x1 x2 x3 x4 x5 x6 x7 σ = some r0 → qAt p l e (qRm 3 69) s m ([.ref (ad 0 0), .int p1, .int p2, .int p3, .int p4, .int p5, .int p6, .int p7] : List Value).toArray below meth c Q D (mL Y) (qT Y) A ad 9 0 0 50 [(0, .ref (ad 0 0)), (1, .int x1), (2, .int x2), (3, .int x3), (4, .int x4), (5, .int x5), (6, .int x6), (7, .int x7)] [] σ := by
    clear hf hw hl ls
    intro x1 x2 x3 x4 x5 x6 x7 σ hf H locs ls hw hl
    unfold fX9_makes_50 at hf
    refine lv_aload_n S0.1 S0.2.1 dX9_makes_50 rfl (lv_at hl 0 rfl) ?_
    refine gX9_kind S0 hw kw_1150 dX9_makes_51 ?_
    refine lv_iload_n S0.1 S0.2.1 dX9_makes_54 rfl (lv_at hl 2 rfl) ?_
    refine q_iald S0 hw dM_102 (t0 := 0) rfl rfl dX9_makes_55 hf (fun v10 hf => ?_)
    refine lv_iconst (v := 1) S0.1 S0.2.1 dX9_makes_56 (by decide) ?_
    refine lv_icmp_eq (tgt := 70) S0.1 S0.2.1 dX9_makes_57 (by decide) (fun c11 => ?_) (fun c11 => ?_)
    · replace hf := q_pos c11 hf
      exact b70 σ hf _ _ _ hw (lv_sub hl [] rfl)
    · replace hf := q_neg c11 hf
      refine lv_aload_n S0.1 S0.2.1 dX9_makes_60 rfl (lv_at hl 0 rfl) ?_
      refine gX9_kind S0 hw kw_1150 dX9_makes_61 ?_
      refine lv_iload_n S0.1 S0.2.1 dX9_makes_64 rfl (lv_at hl 2 rfl) ?_
      refine q_iald S0 hw dM_102 (t0 := 0) rfl rfl dX9_makes_65 hf (fun v12 hf => ?_)
      refine lv_iconst (v := 2) S0.1 S0.2.1 dX9_makes_66 (by decide) ?_
      refine lv_icmp_ne (tgt := 73) S0.1 S0.2.1 dX9_makes_67 (by decide) (fun c13 => ?_) (fun c13 => ?_)
      · replace hf := q_neg c13 hf
        refine lv_aload_n S0.1 S0.2.1 dX9_makes_73 rfl (lv_at hl 0 rfl) ?_
        refine lv_iload_n S0.1 S0.2.1 dX9_makes_74 rfl (lv_at hl 2 rfl) ?_
        refine q_calli S0 hw (As := [.int x2]) (rest := []) (wX9_fills l D Y ad F x2 σ) qyX9_fills kw_1475 ⟨Nat.le_of_ble_eq_true rfl, Nat.le_of_ble_eq_true rfl⟩ dM_0 rfl rfl rfl rfl hl.1 (Nat.le_of_ble_eq_true rfl) dX9_makes_75 ⟨Nat.le_refl _, Nat.le_refl _⟩ rfl hf (fun v15 s14 H locs hw hf => ?_)
        refine lv_if_eq (tgt := 84) S0.1 S0.2.1 dX9_makes_78 (by decide) (fun c16 => ?_) (fun c16 => ?_)
        · replace hf := q_pos c16 hf
          refine lv_aload_n S0.1 S0.2.1 dX9_makes_84 rfl (lv_at hl 0 rfl) ?_
          refine gX9_nodes S0 hw kw_1155 dX9_makes_85 hf (fun v17 hf => ?_)
          refine lv_bipush (v := 80) S0.1 S0.2.1 dX9_makes_88 (by decide) ?_
          refine lv_icmp_ne (tgt := 96) S0.1 S0.2.1 dX9_makes_90 (by decide) (fun c18 => ?_) (fun c18 => ?_)
          · replace hf := q_neg c18 hf
            refine lv_aload_n S0.1 S0.2.1 dX9_makes_96 rfl (lv_at hl 0 rfl) ?_
            refine gX9_nodes S0 hw kw_1155 dX9_makes_97 hf (fun v19 hf => ?_)
            refine lv_istore (lv' := [(8, .int v19), (0, .ref (ad 0 0)), (1, .int x1), (2, .int x2), (3, .int x3), (4, .int x4), (5, .int x5), (6, .int x6), (7, .int x7)]) S0.1 S0.2.1 dX9_makes_100 hl (by decide) rfl (fun ls hl => ?_)
            refine lv_aload_n S0.1 S0.2.1 dX9_makes_102 rfl (lv_at hl 1 rfl) ?_
            refine lv_dup S0.1 S0.2.1 dX9_makes_103 rfl ?_
            refine gX9_nodes S0 hw kw_1155 dX9_makes_104 hf (fun v20 hf => ?_)
            refine lv_iconst (v := 1) S0.1 S0.2.1 dX9_makes_107 (by decide) ?_
            refine lv_iadd S0.1 S0.2.1 dX9_makes_108 (q_top hf (fun v21 hf => ?_))
            refine pX9_nodes S0 hw kw_1155 dX9_makes_109 hf (fun s22 H locs hw hf => ?_)
            refine lv_aload_n S0.1 S0.2.1 dX9_makes_112 rfl (lv_at hl 1 rfl) ?_
            refine gX9_parent S0 hw kw_1148 dX9_makes_113 ?_
            refine lv_iload S0.1 S0.2.1 dX9_makes_116 (lv_at hl 0 rfl) ?_
            refine lv_iload_n S0.1 S0.2.1 dX9_makes_118 rfl (lv_at hl 3 rfl) ?_
            refine q_iast S0 hw dM_100 (t0 := 0) (fun _ => rfl) rfl dX9_makes_119 hf (fun s23 H locs hw hf => ?_)
            refine lv_aload_n S0.1 S0.2.1 dX9_makes_120 rfl (lv_at hl 1 rfl) ?_
            refine gX9_name S0 hw kw_1149 dX9_makes_121 ?_
            refine lv_iload S0.1 S0.2.1 dX9_makes_124 (lv_at hl 0 rfl) ?_
            refine lv_iload S0.1 S0.2.1 dX9_makes_126 (lv_at hl 5 rfl) ?_
            refine lv_iconst (v := 1) S0.1 S0.2.1 dX9_makes_128 (by decide) ?_
            refine lv_icmp_ne (tgt := 145) S0.1 S0.2.1 dX9_makes_129 (by decide) (fun c24 => ?_) (fun c24 => ?_)
            · replace hf := q_neg c24 hf
              refine lv_iload_n S0.1 S0.2.1 dX9_makes_145 rfl (lv_at hl 4 rfl) ?_
              exact b146 x1 x2 x4 x5 x6 x7 v19 v19 x3 s23 hf _ _ _ hw (lv_sub hl [1, 2, 3, 5, 6, 7, 8, 0] rfl)
            · replace hf := q_pos c24 hf
              refine lv_sipush (v := 1000) S0.1 S0.2.1 dX9_makes_132 (by decide) ?_
              refine lv_aload_n S0.1 S0.2.1 dX9_makes_135 rfl (lv_at hl 1 rfl) ?_
              refine gX9_counted S0 hw kw_1153 dX9_makes_136 ?_
              refine lv_iload_n S0.1 S0.2.1 dX9_makes_139 rfl (lv_at hl 3 rfl) ?_
              refine q_iald S0 hw dM_105 (t0 := 0) rfl rfl dX9_makes_140 hf (fun v38 hf => ?_)
              refine lv_iadd S0.1 S0.2.1 dX9_makes_141 (q_top hf (fun v39 hf => ?_))
              refine lv_goto (tgt := 146) S0.1 S0.2.1 dX9_makes_142 (by decide) ?_
              exact b146 x1 x2 x4 x5 x6 x7 v19 v19 v39 s23 hf _ _ _ hw (lv_sub hl [1, 2, 3, 5, 6, 7, 8, 0] rfl)
          · replace hf := q_pos c18 hf
            refine lv_bipush (v := (-8)) S0.1 S0.2.1 dX9_makes_93 (by decide) ?_
            exact hret dX9_makes_95 hw hf
        · replace hf := q_neg c16 hf
          refine lv_bipush (v := (-7)) S0.1 S0.2.1 dX9_makes_81 (by decide) ?_
          exact hret dX9_makes_83 hw hf
      · replace hf := q_pos c13 hf
        exact b70 σ hf _ _ _ hw (lv_sub hl [] rfl)
  refine lv_aload_n S0.1 S0.2.1 dX9_makes_0 rfl (lv_at hl 0 rfl) ?_
  refine lv_iconst (v := 0) S0.1 S0.2.1 dX9_makes_1 (by decide) ?_
  refine lv_iload_n S0.1 S0.2.1 dX9_makes_2 rfl (lv_at hl 2 rfl) ?_
  refine q_calli S0 hw (As := [.int 0, .int p2]) (rest := []) (wX9_isThere l D Y ad F 0 p2 σ) qyX9_isThere kw_1463 ⟨Nat.le_of_ble_eq_true rfl, Nat.le_of_ble_eq_true rfl⟩ dM_0 rfl rfl rfl rfl hl.1 (Nat.le_of_ble_eq_true rfl) dX9_makes_3 ⟨Nat.le_refl _, Nat.le_refl _⟩ rfl hf (fun v2 s1 H locs hw hf => ?_)
  refine lv_if_ne (tgt := 11) S0.1 S0.2.1 dX9_makes_6 (by decide) (fun c3 => ?_) (fun c3 => ?_)
  · replace hf := q_neg c3 hf
    refine lv_aload_n S0.1 S0.2.1 dX9_makes_11 rfl (lv_at hl 0 rfl) ?_
    refine lv_aload_n S0.1 S0.2.1 dX9_makes_12 rfl (lv_at hl 0 rfl) ?_
    refine gX9_rw S0 hw kw_1162 dX9_makes_13 ?_
    refine lv_iload_n S0.1 S0.2.1 dX9_makes_16 rfl (lv_at hl 2 rfl) ?_
    refine q_iald S0 hw dM_114 (t0 := 0) rfl rfl dX9_makes_17 hf (fun v4 hf => ?_)
    refine lv_aload_n S0.1 S0.2.1 dX9_makes_18 rfl (lv_at hl 0 rfl) ?_
    refine gX9_zp S0 hw kw_1179 dX9_makes_19 ?_
    refine lv_iload_n S0.1 S0.2.1 dX9_makes_22 rfl (lv_at hl 1 rfl) ?_
    refine q_iald S0 hw dM_131 (t0 := 0) rfl rfl dX9_makes_23 hf (fun v5 hf => ?_)
    refine q_calli S0 hw (As := [.int v4, .int v5]) (rest := []) (wX9_may l D Y ad F v4 v5 s1) qyX9_may kw_1467 ⟨Nat.le_of_ble_eq_true rfl, Nat.le_of_ble_eq_true rfl⟩ dM_0 rfl rfl rfl rfl hl.1 (Nat.le_of_ble_eq_true rfl) dX9_makes_24 ⟨Nat.le_refl _, Nat.le_refl _⟩ rfl hf (fun v7 s6 H locs hw hf => ?_)
    refine lv_if_ne (tgt := 33) S0.1 S0.2.1 dX9_makes_27 (by decide) (fun c8 => ?_) (fun c8 => ?_)
    · replace hf := q_neg c8 hf
      refine lv_iload S0.1 S0.2.1 dX9_makes_33 (lv_at hl 4 rfl) ?_
      refine lv_if_ne (tgt := 50) S0.1 S0.2.1 dX9_makes_35 (by decide) (fun c9 => ?_) (fun c9 => ?_)
      · replace hf := q_neg c9 hf
        exact b50 p1 p2 p3 p4 p5 p6 p7 s6 hf _ _ _ hw (lv_sub hl [0, 1, 2, 3, 4, 5, 6, 7] rfl)
      · replace hf := q_pos c9 hf
        refine lv_aload_n S0.1 S0.2.1 dX9_makes_38 rfl (lv_at hl 0 rfl) ?_
        refine lv_iload_n S0.1 S0.2.1 dX9_makes_39 rfl (lv_at hl 2 rfl) ?_
        refine lv_iload_n S0.1 S0.2.1 dX9_makes_40 rfl (lv_at hl 3 rfl) ?_
        refine q_calli S0 hw (As := [.int p2, .int p3]) (rest := []) (wX9_named l D Y ad F p2 p3 s6) qyX9_named kw_1471 ⟨Nat.le_of_ble_eq_true rfl, Nat.le_of_ble_eq_true rfl⟩ dM_0 rfl rfl rfl rfl hl.1 (Nat.le_of_ble_eq_true rfl) dX9_makes_41 ⟨Nat.le_refl _, Nat.le_refl _⟩ rfl hf (fun v41 s40 H locs hw hf => ?_)
        refine lv_if_lt (tgt := 50) S0.1 S0.2.1 dX9_makes_44 (by decide) (fun c42 => ?_) (fun c42 => ?_)
        · replace hf := q_pos c42 hf
          exact b50 p1 p2 p3 p4 p5 p6 p7 s40 hf _ _ _ hw (lv_sub hl [0, 1, 2, 3, 4, 5, 6, 7] rfl)
        · replace hf := q_neg c42 hf
          refine lv_bipush (v := (-4)) S0.1 S0.2.1 dX9_makes_47 (by decide) ?_
          exact hret dX9_makes_49 hw hf
    · replace hf := q_pos c8 hf
      refine lv_bipush (v := (-2)) S0.1 S0.2.1 dX9_makes_30 (by decide) ?_
      exact hret dX9_makes_32 hw hf
  · replace hf := q_pos c3 hf
    refine lv_iconst (v := (-1)) S0.1 S0.2.1 dX9_makes_9 (by decide) ?_
    exact hret dX9_makes_10 hw hf
theorem qyX9_sets : qY yX9_sets RX9 cX9_sets 5 (some .int) 4 := ⟨⟨kw_1485, kp_68, kw_11, kw_1486⟩, rfl, by decide, by decide, by decide +kernel⟩
def fX9_sets_48 (F : Nat) (x2 : Int32) (x3 : Int32) (σ : qS) : Option (Int32 × qS) :=
  bnd (fX9_step F 1 x2 x3 0 σ) fun s9 => (ldi 400 (s9.1 110 0) x2 fun v10 => (some (v10, s9)))
def fX9_sets (F : Nat) (p1 : Int32) (p2 : Int32) (p3 : Int32) (p4 : Int32) (σ : qS) : Option (Int32 × qS) :=
  bnd2 (fX9_isThere F 0 p2 σ) fun v2 s1 => (if v2 = 0 then (some ((-1), s1)) else (ldi 400 (s1.1 114 0) p2 fun v4 => (bnd2 (fX9_may F v4 p1 s1) fun v6 s5 => (if v6 = 0 then (some ((-2), s5)) else (if p4 = (-1) then (fX9_sets_48 F p2 p3 s5) else (ldi 400 (s5.1 110 0) p2 fun v11 => (if p4 = v11 then (fX9_sets_48 F p2 p3 s5) else (some ((-3), s5)))))))))
set_option maxRecDepth 100000 in
set_option maxHeartbeats 4000000 in
theorem wX9_sets (l : Launch) (D : va_G) (Y : Nat → ClassId) (ad : qAd) (F : Nat) (p1 : Int32) (p2 : Int32) (p3 : Int32) (p4 : Int32) (σ : qS) : qCi l yX9_sets cX9_sets 5 (some .int) 2 48 D (mL Y) (qT Y) ad [.ref (ad 0 0), .int p1, .int p2, .int p3, .int p4] σ (fX9_sets F p1 p2 p3 p4 σ) := by
  refine q_ofi (by decide) (Nat.le_of_ble_eq_true rfl) "LeasehallModel" rfl (fun p e s m below meth c A Q r0 S0 hf hw hret ls hl => ?_)
  replace hl : lv_has ls 5 [(0, .ref (ad 0 0)), (1, .int p1), (2, .int p2), (3, .int p3), (4, .int p4)] := hl
  unfold fX9_sets at hf
  have b48 : ∀ (x2 : Int32) (x3 : Int32) (σ : qS), fX9_sets_48 F x2 x3 σ = some r0 → qAt p l e (qRm 2 48) s m ([.ref (ad 0 0), .int p1, .int p2, .int p3, .int p4] : List Value).toArray below meth c Q D (mL Y) (qT Y) A ad 5 0 0 48 [(0, .ref (ad 0 0)), (2, .int x2), (3, .int x3)] [] σ := by
    clear hf hw hl ls
    intro x2 x3 σ hf H locs ls hw hl
    unfold fX9_sets_48 at hf
    refine lv_aload_n S0.1 S0.2.1 dX9_sets_48 rfl (lv_at hl 0 rfl) ?_
    refine lv_iconst (v := 1) S0.1 S0.2.1 dX9_sets_49 (by decide) ?_
    refine lv_iload_n S0.1 S0.2.1 dX9_sets_50 rfl (lv_at hl 1 rfl) ?_
    refine lv_iload_n S0.1 S0.2.1 dX9_sets_51 rfl (lv_at hl 2 rfl) ?_
    refine lv_iconst (v := 0) S0.1 S0.2.1 dX9_sets_52 (by decide) ?_
    refine q_callv S0 hw (As := [.int 1, .int x2, .int x3, .int 0]) (rest := []) (wX9_step l D Y ad F 1 x2 x3 0 σ) qyX9_step kw_1371 ⟨Nat.le_of_ble_eq_true rfl, Nat.le_of_ble_eq_true rfl⟩ dM_0 rfl rfl rfl rfl hl.1 (Nat.le_of_ble_eq_true rfl) dX9_sets_53 ⟨Nat.le_refl _, Nat.le_refl _⟩ rfl hf (fun s9 H locs hw hf => ?_)
    refine lv_aload_n S0.1 S0.2.1 dX9_sets_56 rfl (lv_at hl 0 rfl) ?_
    refine gX9_vv S0 hw kw_1158 dX9_sets_57 ?_
    refine lv_iload_n S0.1 S0.2.1 dX9_sets_60 rfl (lv_at hl 1 rfl) ?_
    refine q_iald S0 hw dM_110 (t0 := 0) rfl rfl dX9_sets_61 hf (fun v10 hf => ?_)
    exact hret dX9_sets_62 hw hf
  refine lv_aload_n S0.1 S0.2.1 dX9_sets_0 rfl (lv_at hl 0 rfl) ?_
  refine lv_iconst (v := 0) S0.1 S0.2.1 dX9_sets_1 (by decide) ?_
  refine lv_iload_n S0.1 S0.2.1 dX9_sets_2 rfl (lv_at hl 2 rfl) ?_
  refine q_calli S0 hw (As := [.int 0, .int p2]) (rest := []) (wX9_isThere l D Y ad F 0 p2 σ) qyX9_isThere kw_1463 ⟨Nat.le_of_ble_eq_true rfl, Nat.le_of_ble_eq_true rfl⟩ dM_0 rfl rfl rfl rfl hl.1 (Nat.le_of_ble_eq_true rfl) dX9_sets_3 ⟨Nat.le_refl _, Nat.le_refl _⟩ rfl hf (fun v2 s1 H locs hw hf => ?_)
  refine lv_if_ne (tgt := 11) S0.1 S0.2.1 dX9_sets_6 (by decide) (fun c3 => ?_) (fun c3 => ?_)
  · replace hf := q_neg c3 hf
    refine lv_aload_n S0.1 S0.2.1 dX9_sets_11 rfl (lv_at hl 0 rfl) ?_
    refine lv_aload_n S0.1 S0.2.1 dX9_sets_12 rfl (lv_at hl 0 rfl) ?_
    refine gX9_rw S0 hw kw_1162 dX9_sets_13 ?_
    refine lv_iload_n S0.1 S0.2.1 dX9_sets_16 rfl (lv_at hl 2 rfl) ?_
    refine q_iald S0 hw dM_114 (t0 := 0) rfl rfl dX9_sets_17 hf (fun v4 hf => ?_)
    refine lv_iload_n S0.1 S0.2.1 dX9_sets_18 rfl (lv_at hl 1 rfl) ?_
    refine q_calli S0 hw (As := [.int v4, .int p1]) (rest := []) (wX9_may l D Y ad F v4 p1 s1) qyX9_may kw_1467 ⟨Nat.le_of_ble_eq_true rfl, Nat.le_of_ble_eq_true rfl⟩ dM_0 rfl rfl rfl rfl hl.1 (Nat.le_of_ble_eq_true rfl) dX9_sets_19 ⟨Nat.le_refl _, Nat.le_refl _⟩ rfl hf (fun v6 s5 H locs hw hf => ?_)
    refine lv_if_ne (tgt := 28) S0.1 S0.2.1 dX9_sets_22 (by decide) (fun c7 => ?_) (fun c7 => ?_)
    · replace hf := q_neg c7 hf
      refine lv_iload S0.1 S0.2.1 dX9_sets_28 (lv_at hl 4 rfl) ?_
      refine lv_iconst (v := (-1)) S0.1 S0.2.1 dX9_sets_30 (by decide) ?_
      refine lv_icmp_eq (tgt := 48) S0.1 S0.2.1 dX9_sets_31 (by decide) (fun c8 => ?_) (fun c8 => ?_)
      · replace hf := q_pos c8 hf
        exact b48 p2 p3 s5 hf _ _ _ hw (lv_sub hl [0, 2, 3] rfl)
      · replace hf := q_neg c8 hf
        refine lv_iload S0.1 S0.2.1 dX9_sets_34 (lv_at hl 4 rfl) ?_
        refine lv_aload_n S0.1 S0.2.1 dX9_sets_36 rfl (lv_at hl 0 rfl) ?_
        refine gX9_vv S0 hw kw_1158 dX9_sets_37 ?_
        refine lv_iload_n S0.1 S0.2.1 dX9_sets_40 rfl (lv_at hl 2 rfl) ?_
        refine q_iald S0 hw dM_110 (t0 := 0) rfl rfl dX9_sets_41 hf (fun v11 hf => ?_)
        refine lv_icmp_eq (tgt := 48) S0.1 S0.2.1 dX9_sets_42 (by decide) (fun c12 => ?_) (fun c12 => ?_)
        · replace hf := q_pos c12 hf
          exact b48 p2 p3 s5 hf _ _ _ hw (lv_sub hl [0, 2, 3] rfl)
        · replace hf := q_neg c12 hf
          refine lv_bipush (v := (-3)) S0.1 S0.2.1 dX9_sets_45 (by decide) ?_
          exact hret dX9_sets_47 hw hf
    · replace hf := q_pos c7 hf
      refine lv_bipush (v := (-2)) S0.1 S0.2.1 dX9_sets_25 (by decide) ?_
      exact hret dX9_sets_27 hw hf
  · replace hf := q_pos c3 hf
    refine lv_iconst (v := (-1)) S0.1 S0.2.1 dX9_sets_9 (by decide) ?_
    exact hret dX9_sets_10 hw hf
theorem qyX9_goes : qY yX9_goes RX9 cX9_goes 5 (some .int) 1 := ⟨⟨kw_1369, kp_47, kw_11, kw_1370⟩, rfl, by decide, by decide, by decide +kernel⟩
def fX9_goes_58 (F : Nat) (k7 : Int32 → Int32 → Int32 → qS → Option (Int32 × qS)) (x2 : Int32) (x3 : Int32) (t0 : Int32) (σ : qS) : Option (Int32 × qS) :=
  k7 x2 x3 t0 σ
def fX9_goes_57 (F : Nat) (k7 : Int32 → Int32 → Int32 → qS → Option (Int32 × qS)) (x2 : Int32) (x3 : Int32) (σ : qS) : Option (Int32 × qS) :=
  fX9_goes_58 F k7 x2 x3 0 σ
def fX9_goes_7 (F : Nat) : Nat → Int32 → Int32 → Int32 → qS → Option (Int32 × qS)
  | 0, _, _, _, _ => none
  | n + 1, x2, x3, x4, σ =>
  if x4 = 0 then (some (x2, σ)) else (bnd (fX9_step F 2 x3 0 0 σ) fun s2 => (nm (x2 + 1) fun v3 => (ldi 80 (s2.1 100 0) x3 fun v4 => (if v4 ≤ 0 then (fX9_goes_57 F (fX9_goes_7 F n) v3 v4 s2) else (ldi 80 (s2.1 102 0) v4 fun v6 => (if v6 = 3 then (bnd2 (fX9_children F 0 v4 s2) fun v9 s8 => (if v9 = 0 then (fX9_goes_58 F (fX9_goes_7 F n) v3 v4 1 s8) else (fX9_goes_57 F (fX9_goes_7 F n) v3 v4 s8))) else (fX9_goes_57 F (fX9_goes_7 F n) v3 v4 s2)))))))
def fX9_goes (F : Nat) (p1 : Int32) (σ : qS) : Option (Int32 × qS) :=
  fX9_goes_7 F F 0 p1 1 σ
set_option maxRecDepth 100000 in
set_option maxHeartbeats 4000000 in
theorem wX9_goes (l : Launch) (D : va_G) (Y : Nat → ClassId) (ad : qAd) (F : Nat) (p1 : Int32) (σ : qS) : qCi l yX9_goes cX9_goes 5 (some .int) 2 48 D (mL Y) (qT Y) ad [.ref (ad 0 0), .int p1] σ (fX9_goes F p1 σ) := by
  refine q_ofi (by decide) (Nat.le_of_ble_eq_true rfl) "LeasehallModel" rfl (fun p e s m below meth c A Q r0 S0 hf hw hret ls hl => ?_)
  replace hl : lv_has ls 5 [(0, .ref (ad 0 0)), (1, .int p1)] := hl
  unfold fX9_goes at hf
  have b58 : ∀ (k7 : Int32 → Int32 → Int32 → qS → Option (Int32 × qS)) (hk7 : ∀ (x2 : Int32) (x3 : Int32) (x4 : Int32) (σ : qS), k7 x2 x3 x4 σ = some r0 → qAt p l e (qRm 2 48) s m ([.ref (ad 0 0), .int p1] : List Value).toArray below meth c Q D (mL Y) (qT Y) A ad 5 0 0 7 [(0, .ref (ad 0 0)), (2, .int x2), (3, .int x3), (4, .int x4)] [] σ) (x2 : Int32) (x3 : Int32) (t0 : Int32) (σ : qS), fX9_goes_58 F k7 x2 x3 t0 σ = some r0 → qAt p l e (qRm 2 48) s m ([.ref (ad 0 0), .int p1] : List Value).toArray below meth c Q D (mL Y) (qT Y) A ad 5 0 0 58 [(0, .ref (ad 0 0)), (2, .int x2), (3, .int x3)] [.int t0] σ := by
    clear hf hw hl ls
    intro k7 hk7
    intro x2 x3 t0 σ hf H locs ls hw hl
    unfold fX9_goes_58 at hf
    refine lv_istore (lv' := [(4, .int t0), (0, .ref (ad 0 0)), (2, .int x2), (3, .int x3)]) S0.1 S0.2.1 dX9_goes_58 hl (by decide) rfl (fun ls hl => ?_)
    refine lv_goto (tgt := 7) S0.1 S0.2.1 dX9_goes_60 (by decide) ?_
    exact hk7 x2 x3 t0 σ hf _ _ _ hw (lv_sub hl [1, 2, 3, 0] rfl)
  have b57 : ∀ (k7 : Int32 → Int32 → Int32 → qS → Option (Int32 × qS)) (hk7 : ∀ (x2 : Int32) (x3 : Int32) (x4 : Int32) (σ : qS), k7 x2 x3 x4 σ = some r0 → qAt p l e (qRm 2 48) s m ([.ref (ad 0 0), .int p1] : List Value).toArray below meth c Q D (mL Y) (qT Y) A ad 5 0 0 7 [(0, .ref (ad 0 0)), (2, .int x2), (3, .int x3), (4, .int x4)] [] σ) (x2 : Int32) (x3 : Int32) (σ : qS), fX9_goes_57 F k7 x2 x3 σ = some r0 → qAt p l e (qRm 2 48) s m ([.ref (ad 0 0), .int p1] : List Value).toArray below meth c Q D (mL Y) (qT Y) A ad 5 0 0 57 [(0, .ref (ad 0 0)), (2, .int x2), (3, .int x3)] [] σ := by
    clear hf hw hl ls
    intro k7 hk7
    intro x2 x3 σ hf H locs ls hw hl
    unfold fX9_goes_57 at hf
    refine lv_iconst (v := 0) S0.1 S0.2.1 dX9_goes_57 (by decide) ?_
    exact b58 k7 hk7 x2 x3 0 σ hf _ _ _ hw (lv_sub hl [0, 1, 2] rfl)
  have b7 : ∀ (n : Nat) (x2 : Int32) (x3 : Int32) (x4 : Int32) (σ : qS), fX9_goes_7 F n x2 x3 x4 σ = some r0 → qAt p l e (qRm 2 48) s m ([.ref (ad 0 0), .int p1] : List Value).toArray below meth c Q D (mL Y) (qT Y) A ad 5 0 0 7 [(0, .ref (ad 0 0)), (2, .int x2), (3, .int x3), (4, .int x4)] [] σ := by
    clear hf hw hl ls
    intro n
    induction n with
    | zero => intro x2 x3 x4 σ hf; exact absurd hf (by rw [fX9_goes_7]; exact nofun)
    | succ n hk7 =>
      intro x2 x3 x4 σ hf H locs ls hw hl
      rw [fX9_goes_7] at hf
      refine lv_iload S0.1 S0.2.1 dX9_goes_7 (lv_at hl 3 rfl) ?_
      refine lv_if_eq (tgt := 63) S0.1 S0.2.1 dX9_goes_9 (by decide) (fun c1 => ?_) (fun c1 => ?_)
      · replace hf := q_pos c1 hf
        refine lv_iload_n S0.1 S0.2.1 dX9_goes_63 rfl (lv_at hl 1 rfl) ?_
        exact hret dX9_goes_64 hw hf
      · replace hf := q_neg c1 hf
        refine lv_aload_n S0.1 S0.2.1 dX9_goes_12 rfl (lv_at hl 0 rfl) ?_
        refine lv_iconst (v := 2) S0.1 S0.2.1 dX9_goes_13 (by decide) ?_
        refine lv_iload_n S0.1 S0.2.1 dX9_goes_14 rfl (lv_at hl 2 rfl) ?_
        refine lv_iconst (v := 0) S0.1 S0.2.1 dX9_goes_15 (by decide) ?_
        refine lv_iconst (v := 0) S0.1 S0.2.1 dX9_goes_16 (by decide) ?_
        refine q_callv S0 hw (As := [.int 2, .int x3, .int 0, .int 0]) (rest := []) (wX9_step l D Y ad F 2 x3 0 0 σ) qyX9_step kw_1371 ⟨Nat.le_of_ble_eq_true rfl, Nat.le_of_ble_eq_true rfl⟩ dM_0 rfl rfl rfl rfl hl.1 (Nat.le_of_ble_eq_true rfl) dX9_goes_17 ⟨Nat.le_refl _, Nat.le_refl _⟩ rfl hf (fun s2 H locs hw hf => ?_)
        refine q_iinc S0 (v0 := 1) dX9_goes_20 hl (k := 1) rfl (by decide) (by decide) rfl hf (fun v3 ls hl hf => ?_)
        refine lv_aload_n S0.1 S0.2.1 dX9_goes_23 rfl (lv_at hl 1 rfl) ?_
        refine gX9_parent S0 hw kw_1148 dX9_goes_24 ?_
        refine lv_iload_n S0.1 S0.2.1 dX9_goes_27 rfl (lv_at hl 2 rfl) ?_
        refine q_iald S0 hw dM_100 (t0 := 0) rfl rfl dX9_goes_28 hf (fun v4 hf => ?_)
        refine lv_istore_n (lv' := [(3, .int v4), (2, .int v3), (0, .ref (ad 0 0)), (4, .int x4)]) S0.1 S0.2.1 dX9_goes_29 rfl hl (by decide) rfl (fun ls hl => ?_)
        refine lv_iload_n S0.1 S0.2.1 dX9_goes_30 rfl (lv_at hl 0 rfl) ?_
        refine lv_if_le (tgt := 57) S0.1 S0.2.1 dX9_goes_31 (by decide) (fun c5 => ?_) (fun c5 => ?_)
        · replace hf := q_pos c5 hf
          exact b57 (fX9_goes_7 F n) hk7 v3 v4 s2 hf _ _ _ hw (lv_sub hl [2, 1, 0] rfl)
        · replace hf := q_neg c5 hf
          refine lv_aload_n S0.1 S0.2.1 dX9_goes_34 rfl (lv_at hl 2 rfl) ?_
          refine gX9_kind S0 hw kw_1150 dX9_goes_35 ?_
          refine lv_iload_n S0.1 S0.2.1 dX9_goes_38 rfl (lv_at hl 0 rfl) ?_
          refine q_iald S0 hw dM_102 (t0 := 0) rfl rfl dX9_goes_39 hf (fun v6 hf => ?_)
          refine lv_iconst (v := 3) S0.1 S0.2.1 dX9_goes_40 (by decide) ?_
          refine lv_icmp_ne (tgt := 57) S0.1 S0.2.1 dX9_goes_41 (by decide) (fun c7 => ?_) (fun c7 => ?_)
          · replace hf := q_neg c7 hf
            exact b57 (fX9_goes_7 F n) hk7 v3 v4 s2 hf _ _ _ hw (lv_sub hl [2, 1, 0] rfl)
          · replace hf := q_pos c7 hf
            refine lv_aload_n S0.1 S0.2.1 dX9_goes_44 rfl (lv_at hl 2 rfl) ?_
            refine lv_iconst (v := 0) S0.1 S0.2.1 dX9_goes_45 (by decide) ?_
            refine lv_iload_n S0.1 S0.2.1 dX9_goes_46 rfl (lv_at hl 0 rfl) ?_
            refine q_calli S0 hw (As := [.int 0, .int v4]) (rest := []) (wX9_children l D Y ad F 0 v4 s2) qyX9_children kw_1383 ⟨Nat.le_of_ble_eq_true rfl, Nat.le_of_ble_eq_true rfl⟩ dM_0 rfl rfl rfl rfl hl.1 (Nat.le_of_ble_eq_true rfl) dX9_goes_47 ⟨Nat.le_refl _, Nat.le_refl _⟩ rfl hf (fun v9 s8 H locs hw hf => ?_)
            refine lv_if_ne (tgt := 57) S0.1 S0.2.1 dX9_goes_50 (by decide) (fun c10 => ?_) (fun c10 => ?_)
            · replace hf := q_neg c10 hf
              exact b57 (fX9_goes_7 F n) hk7 v3 v4 s8 hf _ _ _ hw (lv_sub hl [2, 1, 0] rfl)
            · replace hf := q_pos c10 hf
              refine lv_iconst (v := 1) S0.1 S0.2.1 dX9_goes_53 (by decide) ?_
              refine lv_goto (tgt := 58) S0.1 S0.2.1 dX9_goes_54 (by decide) ?_
              exact b58 (fX9_goes_7 F n) hk7 v3 v4 1 s8 hf _ _ _ hw (lv_sub hl [2, 1, 0] rfl)
  refine lv_iconst (v := 0) S0.1 S0.2.1 dX9_goes_0 (by decide) ?_
  refine lv_istore_n (lv' := [(2, .int 0), (0, .ref (ad 0 0)), (1, .int p1)]) S0.1 S0.2.1 dX9_goes_1 rfl hl (by decide) rfl (fun ls hl => ?_)
  refine lv_iload_n S0.1 S0.2.1 dX9_goes_2 rfl (lv_at hl 2 rfl) ?_
  refine lv_istore_n (lv' := [(3, .int p1), (2, .int 0), (0, .ref (ad 0 0)), (1, .int p1)]) S0.1 S0.2.1 dX9_goes_3 rfl hl (by decide) rfl (fun ls hl => ?_)
  refine lv_iconst (v := 1) S0.1 S0.2.1 dX9_goes_4 (by decide) ?_
  refine lv_istore (lv' := [(4, .int 1), (3, .int p1), (2, .int 0), (0, .ref (ad 0 0)), (1, .int p1)]) S0.1 S0.2.1 dX9_goes_5 hl (by decide) rfl (fun ls hl => ?_)
  exact b7 F 0 p1 1 σ hf _ _ _ hw (lv_sub hl [3, 2, 1, 0] rfl)
theorem qyX9_deletes : qY yX9_deletes RX9 cX9_deletes 4 (some .int) 3 := ⟨⟨kw_1489, kp_69, kw_11, kw_1490⟩, rfl, by decide, by decide, by decide +kernel⟩
def fX9_deletes_78 (F : Nat) (t0 : Int32) (σ : qS) : Option (Int32 × qS) :=
  some (t0, σ)
def fX9_deletes_68 (F : Nat) (σ : qS) : Option (Int32 × qS) :=
  fX9_deletes_78 F ((-6)) σ
def fX9_deletes_55 (F : Nat) (x2 : Int32) (σ : qS) : Option (Int32 × qS) :=
  if x2 = 0 then (fX9_deletes_68 F σ) else (bnd2 (fX9_children F 0 x2 σ) fun v8 s7 => (if v8 ≤ 0 then (bnd2 (fX9_goes F x2 s7) fun v11 s10 => (fX9_deletes_78 F v11 s10)) else (fX9_deletes_68 F s7)))
def fX9_deletes_37 (F : Nat) (x2 : Int32) (x3 : Int32) (σ : qS) : Option (Int32 × qS) :=
  if x3 = (-1) then (fX9_deletes_55 F x2 σ) else (ldi 400 (σ.1 110 0) x2 fun v12 => (if x3 = v12 then (fX9_deletes_55 F x2 σ) else (some ((-3), σ))))
def fX9_deletes (F : Nat) (p1 : Int32) (p2 : Int32) (p3 : Int32) (σ : qS) : Option (Int32 × qS) :=
  bnd2 (fX9_isThere F 0 p2 σ) fun v2 s1 => (if v2 = 0 then (some ((-1), s1)) else (if p2 ≤ 0 then (fX9_deletes_37 F p2 p3 s1) else (ldi 80 (s1.1 100 0) p2 fun v14 => (ldi 400 (s1.1 114 0) v14 fun v15 => (bnd2 (fX9_may F v15 p1 s1) fun v17 s16 => (if v17 = 0 then (some ((-2), s16)) else (fX9_deletes_37 F p2 p3 s16)))))))
set_option maxRecDepth 100000 in
set_option maxHeartbeats 4000000 in
theorem wX9_deletes (l : Launch) (D : va_G) (Y : Nat → ClassId) (ad : qAd) (F : Nat) (p1 : Int32) (p2 : Int32) (p3 : Int32) (σ : qS) : qCi l yX9_deletes cX9_deletes 4 (some .int) 3 72 D (mL Y) (qT Y) ad [.ref (ad 0 0), .int p1, .int p2, .int p3] σ (fX9_deletes F p1 p2 p3 σ) := by
  refine q_ofi (by decide) (Nat.le_of_ble_eq_true rfl) "LeasehallModel" rfl (fun p e s m below meth c A Q r0 S0 hf hw hret ls hl => ?_)
  replace hl : lv_has ls 4 [(0, .ref (ad 0 0)), (1, .int p1), (2, .int p2), (3, .int p3)] := hl
  unfold fX9_deletes at hf
  have b78 : ∀ (t0 : Int32) (σ : qS), fX9_deletes_78 F t0 σ = some r0 → qAt p l e (qRm 3 72) s m ([.ref (ad 0 0), .int p1, .int p2, .int p3] : List Value).toArray below meth c Q D (mL Y) (qT Y) A ad 4 0 0 78 [] [.int t0] σ := by
    clear hf hw hl ls
    intro t0 σ hf H locs ls hw hl
    unfold fX9_deletes_78 at hf
    exact hret dX9_deletes_78 hw hf
  have b68 : ∀ (σ : qS), fX9_deletes_68 F σ = some r0 → qAt p l e (qRm 3 72) s m ([.ref (ad 0 0), .int p1, .int p2, .int p3] : List Value).toArray below meth c Q D (mL Y) (qT Y) A ad 4 0 0 68 [] [] σ := by
    clear hf hw hl ls
    intro σ hf H locs ls hw hl
    unfold fX9_deletes_68 at hf
    refine lv_bipush (v := (-6)) S0.1 S0.2.1 dX9_deletes_68 (by decide) ?_
    refine lv_goto (tgt := 78) S0.1 S0.2.1 dX9_deletes_70 (by decide) ?_
    exact b78 ((-6)) σ hf _ _ _ hw (lv_sub hl [] rfl)
  have b55 : ∀ (x2 : Int32) (σ : qS), fX9_deletes_55 F x2 σ = some r0 → qAt p l e (qRm 3 72) s m ([.ref (ad 0 0), .int p1, .int p2, .int p3] : List Value).toArray below meth c Q D (mL Y) (qT Y) A ad 4 0 0 55 [(0, .ref (ad 0 0)), (2, .int x2)] [] σ := by
    clear hf hw hl ls
    intro x2 σ hf H locs ls hw hl
    unfold fX9_deletes_55 at hf
    refine lv_iload_n S0.1 S0.2.1 dX9_deletes_55 rfl (lv_at hl 1 rfl) ?_
    refine lv_if_eq (tgt := 68) S0.1 S0.2.1 dX9_deletes_56 (by decide) (fun c6 => ?_) (fun c6 => ?_)
    · replace hf := q_pos c6 hf
      exact b68 σ hf _ _ _ hw (lv_sub hl [] rfl)
    · replace hf := q_neg c6 hf
      refine lv_aload_n S0.1 S0.2.1 dX9_deletes_59 rfl (lv_at hl 0 rfl) ?_
      refine lv_iconst (v := 0) S0.1 S0.2.1 dX9_deletes_60 (by decide) ?_
      refine lv_iload_n S0.1 S0.2.1 dX9_deletes_61 rfl (lv_at hl 1 rfl) ?_
      refine q_calli S0 hw (As := [.int 0, .int x2]) (rest := []) (wX9_children l D Y ad F 0 x2 σ) qyX9_children kw_1383 ⟨Nat.le_of_ble_eq_true rfl, Nat.le_of_ble_eq_true rfl⟩ dM_0 rfl rfl rfl rfl hl.1 (Nat.le_of_ble_eq_true rfl) dX9_deletes_62 ⟨Nat.le_refl _, Nat.le_refl _⟩ rfl hf (fun v8 s7 H locs hw hf => ?_)
      refine lv_if_le (tgt := 73) S0.1 S0.2.1 dX9_deletes_65 (by decide) (fun c9 => ?_) (fun c9 => ?_)
      · replace hf := q_pos c9 hf
        refine lv_aload_n S0.1 S0.2.1 dX9_deletes_73 rfl (lv_at hl 0 rfl) ?_
        refine lv_iload_n S0.1 S0.2.1 dX9_deletes_74 rfl (lv_at hl 1 rfl) ?_
        refine q_calli S0 hw (As := [.int x2]) (rest := []) (wX9_goes l D Y ad F x2 s7) qyX9_goes kw_1367 ⟨Nat.le_of_ble_eq_true rfl, Nat.le_of_ble_eq_true rfl⟩ dM_0 rfl rfl rfl rfl hl.1 (Nat.le_of_ble_eq_true rfl) dX9_deletes_75 ⟨Nat.le_refl _, Nat.le_refl _⟩ rfl hf (fun v11 s10 H locs hw hf => ?_)
        exact b78 v11 s10 hf _ _ _ hw (lv_sub hl [] rfl)
      · replace hf := q_neg c9 hf
        exact b68 s7 hf _ _ _ hw (lv_sub hl [] rfl)
  have b37 : ∀ (x2 : Int32) (x3 : Int32) (σ : qS), fX9_deletes_37 F x2 x3 σ = some r0 → qAt p l e (qRm 3 72) s m ([.ref (ad 0 0), .int p1, .int p2, .int p3] : List Value).toArray below meth c Q D (mL Y) (qT Y) A ad 4 0 0 37 [(0, .ref (ad 0 0)), (2, .int x2), (3, .int x3)] [] σ := by
    clear hf hw hl ls
    intro x2 x3 σ hf H locs ls hw hl
    unfold fX9_deletes_37 at hf
    refine lv_iload_n S0.1 S0.2.1 dX9_deletes_37 rfl (lv_at hl 2 rfl) ?_
    refine lv_iconst (v := (-1)) S0.1 S0.2.1 dX9_deletes_38 (by decide) ?_
    refine lv_icmp_eq (tgt := 55) S0.1 S0.2.1 dX9_deletes_39 (by decide) (fun c5 => ?_) (fun c5 => ?_)
    · replace hf := q_pos c5 hf
      exact b55 x2 σ hf _ _ _ hw (lv_sub hl [0, 1] rfl)
    · replace hf := q_neg c5 hf
      refine lv_iload_n S0.1 S0.2.1 dX9_deletes_42 rfl (lv_at hl 2 rfl) ?_
      refine lv_aload_n S0.1 S0.2.1 dX9_deletes_43 rfl (lv_at hl 0 rfl) ?_
      refine gX9_vv S0 hw kw_1158 dX9_deletes_44 ?_
      refine lv_iload_n S0.1 S0.2.1 dX9_deletes_47 rfl (lv_at hl 1 rfl) ?_
      refine q_iald S0 hw dM_110 (t0 := 0) rfl rfl dX9_deletes_48 hf (fun v12 hf => ?_)
      refine lv_icmp_eq (tgt := 55) S0.1 S0.2.1 dX9_deletes_49 (by decide) (fun c13 => ?_) (fun c13 => ?_)
      · replace hf := q_pos c13 hf
        exact b55 x2 σ hf _ _ _ hw (lv_sub hl [0, 1] rfl)
      · replace hf := q_neg c13 hf
        refine lv_bipush (v := (-3)) S0.1 S0.2.1 dX9_deletes_52 (by decide) ?_
        exact hret dX9_deletes_54 hw hf
  refine lv_aload_n S0.1 S0.2.1 dX9_deletes_0 rfl (lv_at hl 0 rfl) ?_
  refine lv_iconst (v := 0) S0.1 S0.2.1 dX9_deletes_1 (by decide) ?_
  refine lv_iload_n S0.1 S0.2.1 dX9_deletes_2 rfl (lv_at hl 2 rfl) ?_
  refine q_calli S0 hw (As := [.int 0, .int p2]) (rest := []) (wX9_isThere l D Y ad F 0 p2 σ) qyX9_isThere kw_1463 ⟨Nat.le_of_ble_eq_true rfl, Nat.le_of_ble_eq_true rfl⟩ dM_0 rfl rfl rfl rfl hl.1 (Nat.le_of_ble_eq_true rfl) dX9_deletes_3 ⟨Nat.le_refl _, Nat.le_refl _⟩ rfl hf (fun v2 s1 H locs hw hf => ?_)
  refine lv_if_ne (tgt := 11) S0.1 S0.2.1 dX9_deletes_6 (by decide) (fun c3 => ?_) (fun c3 => ?_)
  · replace hf := q_neg c3 hf
    refine lv_iload_n S0.1 S0.2.1 dX9_deletes_11 rfl (lv_at hl 2 rfl) ?_
    refine lv_if_le (tgt := 37) S0.1 S0.2.1 dX9_deletes_12 (by decide) (fun c4 => ?_) (fun c4 => ?_)
    · replace hf := q_pos c4 hf
      exact b37 p2 p3 s1 hf _ _ _ hw (lv_sub hl [0, 2, 3] rfl)
    · replace hf := q_neg c4 hf
      refine lv_aload_n S0.1 S0.2.1 dX9_deletes_15 rfl (lv_at hl 0 rfl) ?_
      refine lv_aload_n S0.1 S0.2.1 dX9_deletes_16 rfl (lv_at hl 0 rfl) ?_
      refine gX9_rw S0 hw kw_1162 dX9_deletes_17 ?_
      refine lv_aload_n S0.1 S0.2.1 dX9_deletes_20 rfl (lv_at hl 0 rfl) ?_
      refine gX9_parent S0 hw kw_1148 dX9_deletes_21 ?_
      refine lv_iload_n S0.1 S0.2.1 dX9_deletes_24 rfl (lv_at hl 2 rfl) ?_
      refine q_iald S0 hw dM_100 (t0 := 0) rfl rfl dX9_deletes_25 hf (fun v14 hf => ?_)
      refine q_iald S0 hw dM_114 (t0 := 0) rfl rfl dX9_deletes_26 hf (fun v15 hf => ?_)
      refine lv_iload_n S0.1 S0.2.1 dX9_deletes_27 rfl (lv_at hl 1 rfl) ?_
      refine q_calli S0 hw (As := [.int v15, .int p1]) (rest := []) (wX9_may l D Y ad F v15 p1 s1) qyX9_may kw_1467 ⟨Nat.le_of_ble_eq_true rfl, Nat.le_of_ble_eq_true rfl⟩ dM_0 rfl rfl rfl rfl hl.1 (Nat.le_of_ble_eq_true rfl) dX9_deletes_28 ⟨Nat.le_refl _, Nat.le_refl _⟩ rfl hf (fun v17 s16 H locs hw hf => ?_)
      refine lv_if_ne (tgt := 37) S0.1 S0.2.1 dX9_deletes_31 (by decide) (fun c18 => ?_) (fun c18 => ?_)
      · replace hf := q_neg c18 hf
        exact b37 p2 p3 s16 hf _ _ _ hw (lv_sub hl [0, 2, 3] rfl)
      · replace hf := q_pos c18 hf
        refine lv_bipush (v := (-2)) S0.1 S0.2.1 dX9_deletes_34 (by decide) ?_
        exact hret dX9_deletes_36 hw hf
  · replace hf := q_pos c3 hf
    refine lv_iconst (v := (-1)) S0.1 S0.2.1 dX9_deletes_9 (by decide) ?_
    exact hret dX9_deletes_10 hw hf
theorem qyX9_gives : qY yX9_gives RX9 cX9_gives 8 (some .int) 5 := ⟨⟨kw_1493, kp_70, kw_11, kw_1494⟩, rfl, by decide, by decide, by decide +kernel⟩
def fX9_gives_89 (F : Nat) (k34 : Int32 → Int32 → Int32 → Int32 → Int32 → Int32 → qS → Option (Int32 × qS)) (x2 : Int32) (x3 : Int32) (x4 : Int32) (x5 : Int32) (x6 : Int32) (x7 : Int32) (σ : qS) : Option (Int32 × qS) :=
  nm (x7 + 1) fun v13 => (k34 x2 x3 x4 x5 x6 v13 σ)
def fX9_gives_76 (F : Nat) (k34 : Int32 → Int32 → Int32 → Int32 → Int32 → Int32 → qS → Option (Int32 × qS)) (x2 : Int32) (x3 : Int32) (x4 : Int32) (x5 : Int32) (x6 : Int32) (x7 : Int32) (σ : qS) : Option (Int32 × qS) :=
  bnd (fX9_step F 3 x7 x3 x4 σ) fun s11 => (nm (x6 + 1) fun v12 => (fX9_gives_89 F k34 x2 x3 x4 x5 v12 x7 s11))
def fX9_gives_34 (F : Nat) : Nat → Int32 → Int32 → Int32 → Int32 → Int32 → Int32 → qS → Option (Int32 × qS)
  | 0, _, _, _, _, _, _, _ => none
  | n + 1, x2, x3, x4, x5, x6, x7, σ =>
  nm (σ.1 0 0 7) fun v8 => (if v8 ≤ x7 then (some (x6, σ)) else (if x7 = x2 then (fX9_gives_76 F (fX9_gives_34 F n) x2 x3 x4 x5 x6 x7 σ) else (if x5 = 1 then (ldi 400 (σ.1 108 0) x7 fun v15 => (if v15 = 1 then (bnd2 (fX9_isBelow F x7 x2 σ) fun v18 s17 => (if v18 = 0 then (fX9_gives_89 F (fX9_gives_34 F n) x2 x3 x4 x5 x6 x7 s17) else (fX9_gives_76 F (fX9_gives_34 F n) x2 x3 x4 x5 x6 x7 s17))) else (fX9_gives_89 F (fX9_gives_34 F n) x2 x3 x4 x5 x6 x7 σ))) else (fX9_gives_89 F (fX9_gives_34 F n) x2 x3 x4 x5 x6 x7 σ))))
def fX9_gives (F : Nat) (p1 : Int32) (p2 : Int32) (p3 : Int32) (p4 : Int32) (p5 : Int32) (σ : qS) : Option (Int32 × qS) :=
  bnd2 (fX9_isThere F 0 p2 σ) fun v2 s1 => (if v2 = 0 then (some ((-1), s1)) else (ldi 400 (s1.1 114 0) p2 fun v4 => (bnd2 (fX9_may F v4 p1 s1) fun v6 s5 => (if v6 = 0 then (some ((-2), s5)) else (fX9_gives_34 F F p2 p3 p4 p5 0 0 s5)))))
set_option maxRecDepth 100000 in
set_option maxHeartbeats 4000000 in
theorem wX9_gives (l : Launch) (D : va_G) (Y : Nat → ClassId) (ad : qAd) (F : Nat) (p1 : Int32) (p2 : Int32) (p3 : Int32) (p4 : Int32) (p5 : Int32) (σ : qS) : qCi l yX9_gives cX9_gives 8 (some .int) 2 48 D (mL Y) (qT Y) ad [.ref (ad 0 0), .int p1, .int p2, .int p3, .int p4, .int p5] σ (fX9_gives F p1 p2 p3 p4 p5 σ) := by
  refine q_ofi (by decide) (Nat.le_of_ble_eq_true rfl) "LeasehallModel" rfl (fun p e s m below meth c A Q r0 S0 hf hw hret ls hl => ?_)
  replace hl : lv_has ls 8 [(0, .ref (ad 0 0)), (1, .int p1), (2, .int p2), (3, .int p3), (4, .int p4), (5, .int p5)] := hl
  unfold fX9_gives at hf
  have b89 : ∀ (k34 : Int32 → Int32 → Int32 → Int32 → Int32 → Int32 → qS → Option (Int32 × qS)) (hk34 : ∀ (x2 : Int32) (x3 : Int32) (x4 : Int32) (x5 : Int32) (x6 : Int32) (x7 : Int32) (σ : qS), k34 x2 x3 x4 x5 x6 x7 σ = some r0 → qAt p l e (qRm 2 48) s m ([.ref (ad 0 0), .int p1, .int p2, .int p3, .int p4, .int p5] : List Value).toArray below meth c Q D (mL Y) (qT Y) A ad 8 0 0 34 [(0, .ref (ad 0 0)), (2, .int x2), (3, .int x3), (4, .int x4), (5, .int x5), (6, .int x6), (7, .int x7)] [] σ) (x2 : Int32) (x3 : Int32) (x4 : Int32) (x5 : Int32) (x6 : Int32) (x7 : Int32) (σ : qS), fX9_gives_89 F k34 x2 x3 x4 x5 x6 x7 σ = some r0 → qAt p l e (qRm 2 48) s m ([.ref (ad 0 0), .int p1, .int p2, .int p3, .int p4, .int p5] : List Value).toArray below meth c Q D (mL Y) (qT Y) A ad 8 0 0 89 [(0, .ref (ad 0 0)), (2, .int x2), (3, .int x3), (4, .int x4), (5, .int x5), (6, .int x6), (7, .int x7)] [] σ := by
    clear hf hw hl ls
    intro k34 hk34
    intro x2 x3 x4 x5 x6 x7 σ hf H locs ls hw hl
    unfold fX9_gives_89 at hf
    refine q_iinc S0 (v0 := 1) dX9_gives_89 hl (k := 6) rfl (by decide) (by decide) rfl hf (fun v13 ls hl hf => ?_)
    refine lv_goto (tgt := 34) S0.1 S0.2.1 dX9_gives_92 (by decide) ?_
    exact hk34 x2 x3 x4 x5 x6 v13 σ hf _ _ _ hw (lv_sub hl [1, 2, 3, 4, 5, 6, 0] rfl)
  have b76 : ∀ (k34 : Int32 → Int32 → Int32 → Int32 → Int32 → Int32 → qS → Option (Int32 × qS)) (hk34 : ∀ (x2 : Int32) (x3 : Int32) (x4 : Int32) (x5 : Int32) (x6 : Int32) (x7 : Int32) (σ : qS), k34 x2 x3 x4 x5 x6 x7 σ = some r0 → qAt p l e (qRm 2 48) s m ([.ref (ad 0 0), .int p1, .int p2, .int p3, .int p4, .int p5] : List Value).toArray below meth c Q D (mL Y) (qT Y) A ad 8 0 0 34 [(0, .ref (ad 0 0)), (2, .int x2), (3, .int x3), (4, .int x4), (5, .int x5), (6, .int x6), (7, .int x7)] [] σ) (x2 : Int32) (x3 : Int32) (x4 : Int32) (x5 : Int32) (x6 : Int32) (x7 : Int32) (σ : qS), fX9_gives_76 F k34 x2 x3 x4 x5 x6 x7 σ = some r0 → qAt p l e (qRm 2 48) s m ([.ref (ad 0 0), .int p1, .int p2, .int p3, .int p4, .int p5] : List Value).toArray below meth c Q D (mL Y) (qT Y) A ad 8 0 0 76 [(0, .ref (ad 0 0)), (2, .int x2), (3, .int x3), (4, .int x4), (5, .int x5), (6, .int x6), (7, .int x7)] [] σ := by
    clear hf hw hl ls
    intro k34 hk34
    intro x2 x3 x4 x5 x6 x7 σ hf H locs ls hw hl
    unfold fX9_gives_76 at hf
    refine lv_aload_n S0.1 S0.2.1 dX9_gives_76 rfl (lv_at hl 0 rfl) ?_
    refine lv_iconst (v := 3) S0.1 S0.2.1 dX9_gives_77 (by decide) ?_
    refine lv_iload S0.1 S0.2.1 dX9_gives_78 (lv_at hl 6 rfl) ?_
    refine lv_iload_n S0.1 S0.2.1 dX9_gives_80 rfl (lv_at hl 2 rfl) ?_
    refine lv_iload S0.1 S0.2.1 dX9_gives_81 (lv_at hl 3 rfl) ?_
    refine q_callv S0 hw (As := [.int 3, .int x7, .int x3, .int x4]) (rest := []) (wX9_step l D Y ad F 3 x7 x3 x4 σ) qyX9_step kw_1371 ⟨Nat.le_of_ble_eq_true rfl, Nat.le_of_ble_eq_true rfl⟩ dM_0 rfl rfl rfl rfl hl.1 (Nat.le_of_ble_eq_true rfl) dX9_gives_83 ⟨Nat.le_refl _, Nat.le_refl _⟩ rfl hf (fun s11 H locs hw hf => ?_)
    refine q_iinc S0 (v0 := 1) dX9_gives_86 hl (k := 5) rfl (by decide) (by decide) rfl hf (fun v12 ls hl hf => ?_)
    exact b89 k34 hk34 x2 x3 x4 x5 v12 x7 s11 hf _ _ _ hw (lv_sub hl [1, 2, 3, 4, 5, 0, 6] rfl)
  have b34 : ∀ (n : Nat) (x2 : Int32) (x3 : Int32) (x4 : Int32) (x5 : Int32) (x6 : Int32) (x7 : Int32) (σ : qS), fX9_gives_34 F n x2 x3 x4 x5 x6 x7 σ = some r0 → qAt p l e (qRm 2 48) s m ([.ref (ad 0 0), .int p1, .int p2, .int p3, .int p4, .int p5] : List Value).toArray below meth c Q D (mL Y) (qT Y) A ad 8 0 0 34 [(0, .ref (ad 0 0)), (2, .int x2), (3, .int x3), (4, .int x4), (5, .int x5), (6, .int x6), (7, .int x7)] [] σ := by
    clear hf hw hl ls
    intro n
    induction n with
    | zero => intro x2 x3 x4 x5 x6 x7 σ hf; exact absurd hf (by rw [fX9_gives_34]; exact nofun)
    | succ n hk34 =>
      intro x2 x3 x4 x5 x6 x7 σ hf H locs ls hw hl
      rw [fX9_gives_34] at hf
      refine lv_iload S0.1 S0.2.1 dX9_gives_34 (lv_at hl 6 rfl) ?_
      refine lv_aload_n S0.1 S0.2.1 dX9_gives_36 rfl (lv_at hl 0 rfl) ?_
      refine gX9_nodes S0 hw kw_1155 dX9_gives_37 hf (fun v8 hf => ?_)
      refine lv_icmp_ge (tgt := 95) S0.1 S0.2.1 dX9_gives_40 (by decide) (fun c9 => ?_) (fun c9 => ?_)
      · replace hf := q_pos c9 hf
        refine lv_iload S0.1 S0.2.1 dX9_gives_95 (lv_at hl 5 rfl) ?_
        exact hret dX9_gives_97 hw hf
      · replace hf := q_neg c9 hf
        refine lv_iload S0.1 S0.2.1 dX9_gives_43 (lv_at hl 6 rfl) ?_
        refine lv_iload_n S0.1 S0.2.1 dX9_gives_45 rfl (lv_at hl 1 rfl) ?_
        refine lv_icmp_eq (tgt := 76) S0.1 S0.2.1 dX9_gives_46 (by decide) (fun c10 => ?_) (fun c10 => ?_)
        · replace hf := q_pos c10 hf
          exact b76 (fX9_gives_34 F n) hk34 x2 x3 x4 x5 x6 x7 σ hf _ _ _ hw (lv_sub hl [0, 1, 2, 3, 4, 5, 6] rfl)
        · replace hf := q_neg c10 hf
          refine lv_iload S0.1 S0.2.1 dX9_gives_49 (lv_at hl 4 rfl) ?_
          refine lv_iconst (v := 1) S0.1 S0.2.1 dX9_gives_51 (by decide) ?_
          refine lv_icmp_ne (tgt := 89) S0.1 S0.2.1 dX9_gives_52 (by decide) (fun c14 => ?_) (fun c14 => ?_)
          · replace hf := q_neg c14 hf
            exact b89 (fX9_gives_34 F n) hk34 x2 x3 x4 x5 x6 x7 σ hf _ _ _ hw (lv_sub hl [0, 1, 2, 3, 4, 5, 6] rfl)
          · replace hf := q_pos c14 hf
            refine lv_aload_n S0.1 S0.2.1 dX9_gives_55 rfl (lv_at hl 0 rfl) ?_
            refine gX9_is S0 hw kw_1156 dX9_gives_56 ?_
            refine lv_iload S0.1 S0.2.1 dX9_gives_59 (lv_at hl 6 rfl) ?_
            refine q_iald S0 hw dM_108 (t0 := 0) rfl rfl dX9_gives_61 hf (fun v15 hf => ?_)
            refine lv_iconst (v := 1) S0.1 S0.2.1 dX9_gives_62 (by decide) ?_
            refine lv_icmp_ne (tgt := 89) S0.1 S0.2.1 dX9_gives_63 (by decide) (fun c16 => ?_) (fun c16 => ?_)
            · replace hf := q_neg c16 hf
              exact b89 (fX9_gives_34 F n) hk34 x2 x3 x4 x5 x6 x7 σ hf _ _ _ hw (lv_sub hl [0, 1, 2, 3, 4, 5, 6] rfl)
            · replace hf := q_pos c16 hf
              refine lv_aload_n S0.1 S0.2.1 dX9_gives_66 rfl (lv_at hl 0 rfl) ?_
              refine lv_iload S0.1 S0.2.1 dX9_gives_67 (lv_at hl 6 rfl) ?_
              refine lv_iload_n S0.1 S0.2.1 dX9_gives_69 rfl (lv_at hl 1 rfl) ?_
              refine q_calli S0 hw (As := [.int x7, .int x2]) (rest := []) (wX9_isBelow l D Y ad F x7 x2 σ) qyX9_isBelow kw_1403 ⟨Nat.le_of_ble_eq_true rfl, Nat.le_of_ble_eq_true rfl⟩ dM_0 rfl rfl rfl rfl hl.1 (Nat.le_of_ble_eq_true rfl) dX9_gives_70 ⟨Nat.le_refl _, Nat.le_refl _⟩ rfl hf (fun v18 s17 H locs hw hf => ?_)
              refine lv_if_eq (tgt := 89) S0.1 S0.2.1 dX9_gives_73 (by decide) (fun c19 => ?_) (fun c19 => ?_)
              · replace hf := q_pos c19 hf
                exact b89 (fX9_gives_34 F n) hk34 x2 x3 x4 x5 x6 x7 s17 hf _ _ _ hw (lv_sub hl [0, 1, 2, 3, 4, 5, 6] rfl)
              · replace hf := q_neg c19 hf
                exact b76 (fX9_gives_34 F n) hk34 x2 x3 x4 x5 x6 x7 s17 hf _ _ _ hw (lv_sub hl [0, 1, 2, 3, 4, 5, 6] rfl)
  refine lv_aload_n S0.1 S0.2.1 dX9_gives_0 rfl (lv_at hl 0 rfl) ?_
  refine lv_iconst (v := 0) S0.1 S0.2.1 dX9_gives_1 (by decide) ?_
  refine lv_iload_n S0.1 S0.2.1 dX9_gives_2 rfl (lv_at hl 2 rfl) ?_
  refine q_calli S0 hw (As := [.int 0, .int p2]) (rest := []) (wX9_isThere l D Y ad F 0 p2 σ) qyX9_isThere kw_1463 ⟨Nat.le_of_ble_eq_true rfl, Nat.le_of_ble_eq_true rfl⟩ dM_0 rfl rfl rfl rfl hl.1 (Nat.le_of_ble_eq_true rfl) dX9_gives_3 ⟨Nat.le_refl _, Nat.le_refl _⟩ rfl hf (fun v2 s1 H locs hw hf => ?_)
  refine lv_if_ne (tgt := 11) S0.1 S0.2.1 dX9_gives_6 (by decide) (fun c3 => ?_) (fun c3 => ?_)
  · replace hf := q_neg c3 hf
    refine lv_aload_n S0.1 S0.2.1 dX9_gives_11 rfl (lv_at hl 0 rfl) ?_
    refine lv_aload_n S0.1 S0.2.1 dX9_gives_12 rfl (lv_at hl 0 rfl) ?_
    refine gX9_rw S0 hw kw_1162 dX9_gives_13 ?_
    refine lv_iload_n S0.1 S0.2.1 dX9_gives_16 rfl (lv_at hl 2 rfl) ?_
    refine q_iald S0 hw dM_114 (t0 := 0) rfl rfl dX9_gives_17 hf (fun v4 hf => ?_)
    refine lv_iload_n S0.1 S0.2.1 dX9_gives_18 rfl (lv_at hl 1 rfl) ?_
    refine q_calli S0 hw (As := [.int v4, .int p1]) (rest := []) (wX9_may l D Y ad F v4 p1 s1) qyX9_may kw_1467 ⟨Nat.le_of_ble_eq_true rfl, Nat.le_of_ble_eq_true rfl⟩ dM_0 rfl rfl rfl rfl hl.1 (Nat.le_of_ble_eq_true rfl) dX9_gives_19 ⟨Nat.le_refl _, Nat.le_refl _⟩ rfl hf (fun v6 s5 H locs hw hf => ?_)
    refine lv_if_ne (tgt := 28) S0.1 S0.2.1 dX9_gives_22 (by decide) (fun c7 => ?_) (fun c7 => ?_)
    · replace hf := q_neg c7 hf
      refine lv_iconst (v := 0) S0.1 S0.2.1 dX9_gives_28 (by decide) ?_
      refine lv_istore (lv' := [(6, .int 0), (0, .ref (ad 0 0)), (1, .int p1), (2, .int p2), (3, .int p3), (4, .int p4), (5, .int p5)]) S0.1 S0.2.1 dX9_gives_29 hl (by decide) rfl (fun ls hl => ?_)
      refine lv_iconst (v := 0) S0.1 S0.2.1 dX9_gives_31 (by decide) ?_
      refine lv_istore (lv' := [(7, .int 0), (6, .int 0), (0, .ref (ad 0 0)), (1, .int p1), (2, .int p2), (3, .int p3), (4, .int p4), (5, .int p5)]) S0.1 S0.2.1 dX9_gives_32 hl (by decide) rfl (fun ls hl => ?_)
      exact b34 F p2 p3 p4 p5 0 0 s5 hf _ _ _ hw (lv_sub hl [2, 4, 5, 6, 7, 1, 0] rfl)
    · replace hf := q_pos c7 hf
      refine lv_bipush (v := (-2)) S0.1 S0.2.1 dX9_gives_25 (by decide) ?_
      exact hret dX9_gives_27 hw hf
  · replace hf := q_pos c3 hf
    refine lv_iconst (v := (-1)) S0.1 S0.2.1 dX9_gives_9 (by decide) ?_
    exact hret dX9_gives_10 hw hf
theorem qyX9_checks : qY yX9_checks RX9 cX9_checks 4 (some .int) 3 := ⟨⟨kw_1497, kp_71, kw_11, kw_1498⟩, rfl, by decide, by decide, by decide +kernel⟩
def fX9_checks_54 (F : Nat) (t0 : Int32) (σ : qS) : Option (Int32 × qS) :=
  some (t0, σ)
def fX9_checks_48 (F : Nat) (x2 : Int32) (σ : qS) : Option (Int32 × qS) :=
  ldi 400 (σ.1 110 0) x2 fun v9 => (fX9_checks_54 F v9 σ)
def fX9_checks (F : Nat) (p1 : Int32) (p2 : Int32) (p3 : Int32) (σ : qS) : Option (Int32 × qS) :=
  bnd2 (fX9_isThere F 0 p2 σ) fun v2 s1 => (if v2 = 0 then (some ((-1), s1)) else (ldi 400 (s1.1 113 0) p2 fun v4 => (bnd2 (fX9_may F v4 p1 s1) fun v6 s5 => (if v6 = 0 then (some ((-2), s5)) else (if p3 = (-1) then (fX9_checks_48 F p2 s5) else (ldi 400 (s5.1 110 0) p2 fun v10 => (if p3 = v10 then (fX9_checks_48 F p2 s5) else (fX9_checks_54 F ((-3)) s5))))))))
set_option maxRecDepth 100000 in
set_option maxHeartbeats 4000000 in
theorem wX9_checks (l : Launch) (D : va_G) (Y : Nat → ClassId) (ad : qAd) (F : Nat) (p1 : Int32) (p2 : Int32) (p3 : Int32) (σ : qS) : qCi l yX9_checks cX9_checks 4 (some .int) 2 45 D (mL Y) (qT Y) ad [.ref (ad 0 0), .int p1, .int p2, .int p3] σ (fX9_checks F p1 p2 p3 σ) := by
  refine q_ofi (by decide) (Nat.le_of_ble_eq_true rfl) "LeasehallModel" rfl (fun p e s m below meth c A Q r0 S0 hf hw hret ls hl => ?_)
  replace hl : lv_has ls 4 [(0, .ref (ad 0 0)), (1, .int p1), (2, .int p2), (3, .int p3)] := hl
  unfold fX9_checks at hf
  have b54 : ∀ (t0 : Int32) (σ : qS), fX9_checks_54 F t0 σ = some r0 → qAt p l e (qRm 2 45) s m ([.ref (ad 0 0), .int p1, .int p2, .int p3] : List Value).toArray below meth c Q D (mL Y) (qT Y) A ad 4 0 0 54 [] [.int t0] σ := by
    clear hf hw hl ls
    intro t0 σ hf H locs ls hw hl
    unfold fX9_checks_54 at hf
    exact hret dX9_checks_54 hw hf
  have b48 : ∀ (x2 : Int32) (σ : qS), fX9_checks_48 F x2 σ = some r0 → qAt p l e (qRm 2 45) s m ([.ref (ad 0 0), .int p1, .int p2, .int p3] : List Value).toArray below meth c Q D (mL Y) (qT Y) A ad 4 0 0 48 [(0, .ref (ad 0 0)), (2, .int x2)] [] σ := by
    clear hf hw hl ls
    intro x2 σ hf H locs ls hw hl
    unfold fX9_checks_48 at hf
    refine lv_aload_n S0.1 S0.2.1 dX9_checks_48 rfl (lv_at hl 0 rfl) ?_
    refine gX9_vv S0 hw kw_1158 dX9_checks_49 ?_
    refine lv_iload_n S0.1 S0.2.1 dX9_checks_52 rfl (lv_at hl 1 rfl) ?_
    refine q_iald S0 hw dM_110 (t0 := 0) rfl rfl dX9_checks_53 hf (fun v9 hf => ?_)
    exact b54 v9 σ hf _ _ _ hw (lv_sub hl [] rfl)
  refine lv_aload_n S0.1 S0.2.1 dX9_checks_0 rfl (lv_at hl 0 rfl) ?_
  refine lv_iconst (v := 0) S0.1 S0.2.1 dX9_checks_1 (by decide) ?_
  refine lv_iload_n S0.1 S0.2.1 dX9_checks_2 rfl (lv_at hl 2 rfl) ?_
  refine q_calli S0 hw (As := [.int 0, .int p2]) (rest := []) (wX9_isThere l D Y ad F 0 p2 σ) qyX9_isThere kw_1463 ⟨Nat.le_of_ble_eq_true rfl, Nat.le_of_ble_eq_true rfl⟩ dM_0 rfl rfl rfl rfl hl.1 (Nat.le_of_ble_eq_true rfl) dX9_checks_3 ⟨Nat.le_refl _, Nat.le_refl _⟩ rfl hf (fun v2 s1 H locs hw hf => ?_)
  refine lv_if_ne (tgt := 11) S0.1 S0.2.1 dX9_checks_6 (by decide) (fun c3 => ?_) (fun c3 => ?_)
  · replace hf := q_neg c3 hf
    refine lv_aload_n S0.1 S0.2.1 dX9_checks_11 rfl (lv_at hl 0 rfl) ?_
    refine lv_aload_n S0.1 S0.2.1 dX9_checks_12 rfl (lv_at hl 0 rfl) ?_
    refine gX9_rr S0 hw kw_1161 dX9_checks_13 ?_
    refine lv_iload_n S0.1 S0.2.1 dX9_checks_16 rfl (lv_at hl 2 rfl) ?_
    refine q_iald S0 hw dM_113 (t0 := 0) rfl rfl dX9_checks_17 hf (fun v4 hf => ?_)
    refine lv_iload_n S0.1 S0.2.1 dX9_checks_18 rfl (lv_at hl 1 rfl) ?_
    refine q_calli S0 hw (As := [.int v4, .int p1]) (rest := []) (wX9_may l D Y ad F v4 p1 s1) qyX9_may kw_1467 ⟨Nat.le_of_ble_eq_true rfl, Nat.le_of_ble_eq_true rfl⟩ dM_0 rfl rfl rfl rfl hl.1 (Nat.le_of_ble_eq_true rfl) dX9_checks_19 ⟨Nat.le_refl _, Nat.le_refl _⟩ rfl hf (fun v6 s5 H locs hw hf => ?_)
    refine lv_if_ne (tgt := 28) S0.1 S0.2.1 dX9_checks_22 (by decide) (fun c7 => ?_) (fun c7 => ?_)
    · replace hf := q_neg c7 hf
      refine lv_iload_n S0.1 S0.2.1 dX9_checks_28 rfl (lv_at hl 3 rfl) ?_
      refine lv_iconst (v := (-1)) S0.1 S0.2.1 dX9_checks_29 (by decide) ?_
      refine lv_icmp_eq (tgt := 48) S0.1 S0.2.1 dX9_checks_30 (by decide) (fun c8 => ?_) (fun c8 => ?_)
      · replace hf := q_pos c8 hf
        exact b48 p2 s5 hf _ _ _ hw (lv_sub hl [0, 2] rfl)
      · replace hf := q_neg c8 hf
        refine lv_iload_n S0.1 S0.2.1 dX9_checks_33 rfl (lv_at hl 3 rfl) ?_
        refine lv_aload_n S0.1 S0.2.1 dX9_checks_34 rfl (lv_at hl 0 rfl) ?_
        refine gX9_vv S0 hw kw_1158 dX9_checks_35 ?_
        refine lv_iload_n S0.1 S0.2.1 dX9_checks_38 rfl (lv_at hl 2 rfl) ?_
        refine q_iald S0 hw dM_110 (t0 := 0) rfl rfl dX9_checks_39 hf (fun v10 hf => ?_)
        refine lv_icmp_eq (tgt := 48) S0.1 S0.2.1 dX9_checks_40 (by decide) (fun c11 => ?_) (fun c11 => ?_)
        · replace hf := q_pos c11 hf
          exact b48 p2 s5 hf _ _ _ hw (lv_sub hl [0, 2] rfl)
        · replace hf := q_neg c11 hf
          refine lv_bipush (v := (-3)) S0.1 S0.2.1 dX9_checks_43 (by decide) ?_
          refine lv_goto (tgt := 54) S0.1 S0.2.1 dX9_checks_45 (by decide) ?_
          exact b54 ((-3)) s5 hf _ _ _ hw (lv_sub hl [] rfl)
    · replace hf := q_pos c7 hf
      refine lv_bipush (v := (-2)) S0.1 S0.2.1 dX9_checks_25 (by decide) ?_
      exact hret dX9_checks_27 hw hf
  · replace hf := q_pos c3 hf
    refine lv_iconst (v := (-1)) S0.1 S0.2.1 dX9_checks_9 (by decide) ?_
    exact hret dX9_checks_10 hw hf
theorem qyX9_acts : qY yX9_acts RX9 cX9_acts 9 (some .int) 8 := ⟨⟨kw_1457, kp_61, kw_11, kw_1458⟩, rfl, by decide, by decide, by decide +kernel⟩
def fX9_acts (F : Nat) (p1 : Int32) (p2 : Int32) (p3 : Int32) (p4 : Int32) (p5 : Int32) (p6 : Int32) (p7 : Int32) (p8 : Int32) (σ : qS) : Option (Int32 × qS) :=
  if p2 = 0 then (bnd2 (fX9_makes F p1 p3 p4 p5 p6 p7 p8 σ) fun v3 s2 => (some (v3, s2))) else (if p2 = 1 then (ldi 10 (σ.1 131 0) p1 fun v5 => (bnd2 (fX9_sets F v5 p3 p4 p5 σ) fun v7 s6 => (some (v7, s6)))) else (if p2 = 2 then (ldi 10 (σ.1 131 0) p1 fun v9 => (bnd2 (fX9_deletes F v9 p3 p4 σ) fun v11 s10 => (some (v11, s10)))) else (if p2 = 3 then (ldi 10 (σ.1 131 0) p1 fun v13 => (bnd2 (fX9_gives F v13 p3 p4 p5 p6 σ) fun v15 s14 => (some (v15, s14)))) else (ldi 10 (σ.1 131 0) p1 fun v16 => (bnd2 (fX9_checks F v16 p3 p4 σ) fun v18 s17 => (some (v18, s17)))))))
set_option maxRecDepth 100000 in
set_option maxHeartbeats 4000000 in
theorem wX9_acts (l : Launch) (D : va_G) (Y : Nat → ClassId) (ad : qAd) (F : Nat) (p1 : Int32) (p2 : Int32) (p3 : Int32) (p4 : Int32) (p5 : Int32) (p6 : Int32) (p7 : Int32) (p8 : Int32) (σ : qS) : qCi l yX9_acts cX9_acts 9 (some .int) 4 97 D (mL Y) (qT Y) ad [.ref (ad 0 0), .int p1, .int p2, .int p3, .int p4, .int p5, .int p6, .int p7, .int p8] σ (fX9_acts F p1 p2 p3 p4 p5 p6 p7 p8 σ) := by
  refine q_ofi (by decide) (Nat.le_of_ble_eq_true rfl) "LeasehallModel" rfl (fun p e s m below meth c A Q r0 S0 hf hw hret ls hl => ?_)
  replace hl : lv_has ls 9 [(0, .ref (ad 0 0)), (1, .int p1), (2, .int p2), (3, .int p3), (4, .int p4), (5, .int p5), (6, .int p6), (7, .int p7), (8, .int p8)] := hl
  unfold fX9_acts at hf
  refine lv_iload_n S0.1 S0.2.1 dX9_acts_0 rfl (lv_at hl 2 rfl) ?_
  by_cases c1 : p2 = 0
  · replace hf := q_pos c1 hf
    refine lv_tableIn (tgt := 32) S0.1 S0.2.1 dX9_acts_1 (by rw [c1]; decide) (by rw [c1]; decide) (by rw [c1]; rfl) (by decide) ?_
    refine lv_aload_n S0.1 S0.2.1 dX9_acts_32 rfl (lv_at hl 0 rfl) ?_
    refine lv_iload_n S0.1 S0.2.1 dX9_acts_33 rfl (lv_at hl 1 rfl) ?_
    refine lv_iload_n S0.1 S0.2.1 dX9_acts_34 rfl (lv_at hl 3 rfl) ?_
    refine lv_iload S0.1 S0.2.1 dX9_acts_35 (lv_at hl 4 rfl) ?_
    refine lv_iload S0.1 S0.2.1 dX9_acts_37 (lv_at hl 5 rfl) ?_
    refine lv_iload S0.1 S0.2.1 dX9_acts_39 (lv_at hl 6 rfl) ?_
    refine lv_iload S0.1 S0.2.1 dX9_acts_41 (lv_at hl 7 rfl) ?_
    refine lv_iload S0.1 S0.2.1 dX9_acts_43 (lv_at hl 8 rfl) ?_
    refine q_calli S0 hw (As := [.int p1, .int p3, .int p4, .int p5, .int p6, .int p7, .int p8]) (rest := []) (wX9_makes l D Y ad F p1 p3 p4 p5 p6 p7 p8 σ) qyX9_makes kw_1459 ⟨Nat.le_of_ble_eq_true rfl, Nat.le_of_ble_eq_true rfl⟩ dM_0 rfl rfl rfl rfl hl.1 (Nat.le_of_ble_eq_true rfl) dX9_acts_45 ⟨Nat.le_refl _, Nat.le_refl _⟩ rfl hf (fun v3 s2 H locs hw hf => ?_)
    exact hret dX9_acts_48 hw hf
  · replace hf := q_neg c1 hf
    by_cases c4 : p2 = 1
    · replace hf := q_pos c4 hf
      refine lv_tableIn (tgt := 49) S0.1 S0.2.1 dX9_acts_1 (by rw [c4]; decide) (by rw [c4]; decide) (by rw [c4]; rfl) (by decide) ?_
      refine lv_aload_n S0.1 S0.2.1 dX9_acts_49 rfl (lv_at hl 0 rfl) ?_
      refine lv_aload_n S0.1 S0.2.1 dX9_acts_50 rfl (lv_at hl 0 rfl) ?_
      refine gX9_zp S0 hw kw_1179 dX9_acts_51 ?_
      refine lv_iload_n S0.1 S0.2.1 dX9_acts_54 rfl (lv_at hl 1 rfl) ?_
      refine q_iald S0 hw dM_131 (t0 := 0) rfl rfl dX9_acts_55 hf (fun v5 hf => ?_)
      refine lv_iload_n S0.1 S0.2.1 dX9_acts_56 rfl (lv_at hl 3 rfl) ?_
      refine lv_iload S0.1 S0.2.1 dX9_acts_57 (lv_at hl 4 rfl) ?_
      refine lv_iload S0.1 S0.2.1 dX9_acts_59 (lv_at hl 5 rfl) ?_
      refine q_calli S0 hw (As := [.int v5, .int p3, .int p4, .int p5]) (rest := []) (wX9_sets l D Y ad F v5 p3 p4 p5 σ) qyX9_sets kw_1483 ⟨Nat.le_of_ble_eq_true rfl, Nat.le_of_ble_eq_true rfl⟩ dM_0 rfl rfl rfl rfl hl.1 (Nat.le_of_ble_eq_true rfl) dX9_acts_61 ⟨Nat.le_refl _, Nat.le_refl _⟩ rfl hf (fun v7 s6 H locs hw hf => ?_)
      exact hret dX9_acts_64 hw hf
    · replace hf := q_neg c4 hf
      by_cases c8 : p2 = 2
      · replace hf := q_pos c8 hf
        refine lv_tableIn (tgt := 65) S0.1 S0.2.1 dX9_acts_1 (by rw [c8]; decide) (by rw [c8]; decide) (by rw [c8]; rfl) (by decide) ?_
        refine lv_aload_n S0.1 S0.2.1 dX9_acts_65 rfl (lv_at hl 0 rfl) ?_
        refine lv_aload_n S0.1 S0.2.1 dX9_acts_66 rfl (lv_at hl 0 rfl) ?_
        refine gX9_zp S0 hw kw_1179 dX9_acts_67 ?_
        refine lv_iload_n S0.1 S0.2.1 dX9_acts_70 rfl (lv_at hl 1 rfl) ?_
        refine q_iald S0 hw dM_131 (t0 := 0) rfl rfl dX9_acts_71 hf (fun v9 hf => ?_)
        refine lv_iload_n S0.1 S0.2.1 dX9_acts_72 rfl (lv_at hl 3 rfl) ?_
        refine lv_iload S0.1 S0.2.1 dX9_acts_73 (lv_at hl 4 rfl) ?_
        refine q_calli S0 hw (As := [.int v9, .int p3, .int p4]) (rest := []) (wX9_deletes l D Y ad F v9 p3 p4 σ) qyX9_deletes kw_1487 ⟨Nat.le_of_ble_eq_true rfl, Nat.le_of_ble_eq_true rfl⟩ dM_0 rfl rfl rfl rfl hl.1 (Nat.le_of_ble_eq_true rfl) dX9_acts_75 ⟨Nat.le_refl _, Nat.le_refl _⟩ rfl hf (fun v11 s10 H locs hw hf => ?_)
        exact hret dX9_acts_78 hw hf
      · replace hf := q_neg c8 hf
        by_cases c12 : p2 = 3
        · replace hf := q_pos c12 hf
          refine lv_tableIn (tgt := 79) S0.1 S0.2.1 dX9_acts_1 (by rw [c12]; decide) (by rw [c12]; decide) (by rw [c12]; rfl) (by decide) ?_
          refine lv_aload_n S0.1 S0.2.1 dX9_acts_79 rfl (lv_at hl 0 rfl) ?_
          refine lv_aload_n S0.1 S0.2.1 dX9_acts_80 rfl (lv_at hl 0 rfl) ?_
          refine gX9_zp S0 hw kw_1179 dX9_acts_81 ?_
          refine lv_iload_n S0.1 S0.2.1 dX9_acts_84 rfl (lv_at hl 1 rfl) ?_
          refine q_iald S0 hw dM_131 (t0 := 0) rfl rfl dX9_acts_85 hf (fun v13 hf => ?_)
          refine lv_iload_n S0.1 S0.2.1 dX9_acts_86 rfl (lv_at hl 3 rfl) ?_
          refine lv_iload S0.1 S0.2.1 dX9_acts_87 (lv_at hl 4 rfl) ?_
          refine lv_iload S0.1 S0.2.1 dX9_acts_89 (lv_at hl 5 rfl) ?_
          refine lv_iload S0.1 S0.2.1 dX9_acts_91 (lv_at hl 6 rfl) ?_
          refine q_calli S0 hw (As := [.int v13, .int p3, .int p4, .int p5, .int p6]) (rest := []) (wX9_gives l D Y ad F v13 p3 p4 p5 p6 σ) qyX9_gives kw_1491 ⟨Nat.le_of_ble_eq_true rfl, Nat.le_of_ble_eq_true rfl⟩ dM_0 rfl rfl rfl rfl hl.1 (Nat.le_of_ble_eq_true rfl) dX9_acts_93 ⟨Nat.le_refl _, Nat.le_refl _⟩ rfl hf (fun v15 s14 H locs hw hf => ?_)
          exact hret dX9_acts_96 hw hf
        · replace hf := q_neg c12 hf
          refine lv_tableOut (tgt := 97) S0.1 S0.2.1 dX9_acts_1 (by have hc1 := lv_neT c1 (a := 0) (by decide); have hc4 := lv_neT c4 (a := 1) (by decide); have hc8 := lv_neT c8 (a := 2) (by decide); have hc12 := lv_neT c12 (a := 3) (by decide); omega) (by decide) ?_
          refine lv_aload_n S0.1 S0.2.1 dX9_acts_97 rfl (lv_at hl 0 rfl) ?_
          refine lv_aload_n S0.1 S0.2.1 dX9_acts_98 rfl (lv_at hl 0 rfl) ?_
          refine gX9_zp S0 hw kw_1179 dX9_acts_99 ?_
          refine lv_iload_n S0.1 S0.2.1 dX9_acts_102 rfl (lv_at hl 1 rfl) ?_
          refine q_iald S0 hw dM_131 (t0 := 0) rfl rfl dX9_acts_103 hf (fun v16 hf => ?_)
          refine lv_iload_n S0.1 S0.2.1 dX9_acts_104 rfl (lv_at hl 3 rfl) ?_
          refine lv_iload S0.1 S0.2.1 dX9_acts_105 (lv_at hl 4 rfl) ?_
          refine q_calli S0 hw (As := [.int v16, .int p3, .int p4]) (rest := []) (wX9_checks l D Y ad F v16 p3 p4 σ) qyX9_checks kw_1495 ⟨Nat.le_of_ble_eq_true rfl, Nat.le_of_ble_eq_true rfl⟩ dM_0 rfl rfl rfl rfl hl.1 (Nat.le_of_ble_eq_true rfl) dX9_acts_107 ⟨Nat.le_refl _, Nat.le_refl _⟩ rfl hf (fun v18 s17 H locs hw hf => ?_)
          exact hret dX9_acts_110 hw hf
theorem qyX9_settles : qY yX9_settles RX9 cX9_settles 3 (some .boolean) 1 := ⟨⟨kw_1501, kp_72, kw_11, kw_1502⟩, rfl, by decide, by decide, by decide +kernel⟩
def fX9_settles_46 (F : Nat) (x2 : Int32) (σ : qS) : Option (Int32 × qS) :=
  nm (qI σ 0 0 54 0) fun s9 => (gbl x2 (some (x2, s9)))
def fX9_settles_12 (F : Nat) (x1 : Int32) (t0 : Int32) (σ : qS) : Option (Int32 × qS) :=
  nm (σ.1 0 0 54) fun v3 => (if v3 = 1 then (bnd (fX9_undo F σ) fun s10 => (fX9_settles_46 F t0 s10)) else (bnd (fX9_commit F σ) fun s5 => (ldi 10 (s5.1 132 0) x1 fun v6 => (nm (s5.1 0 0 26) fun v7 => (bnd (fX9_follows F v6 v7 s5) fun s8 => (fX9_settles_46 F t0 s8))))))
def fX9_settles (F : Nat) (p1 : Int32) (σ : qS) : Option (Int32 × qS) :=
  nm (σ.1 0 0 54) fun v1 => (if v1 ≤ 0 then (fX9_settles_12 F p1 0 σ) else (fX9_settles_12 F p1 1 σ))
set_option maxRecDepth 100000 in
set_option maxHeartbeats 4000000 in
theorem wX9_settles (l : Launch) (D : va_G) (Y : Nat → ClassId) (ad : qAd) (F : Nat) (p1 : Int32) (σ : qS) : qCi l yX9_settles cX9_settles 3 (some .boolean) 5 117 D (mL Y) (qT Y) ad [.ref (ad 0 0), .int p1] σ (fX9_settles F p1 σ) := by
  refine q_ofz (by decide) (Nat.le_of_ble_eq_true rfl) "LeasehallModel" rfl (fun p e s m below meth c A Q r0 S0 hf hw hret ls hl => ?_)
  replace hl : lv_has ls 3 [(0, .ref (ad 0 0)), (1, .int p1)] := hl
  unfold fX9_settles at hf
  have b46 : ∀ (x2 : Int32) (σ : qS), fX9_settles_46 F x2 σ = some r0 → qAt p l e (qRm 5 117) s m ([.ref (ad 0 0), .int p1] : List Value).toArray below meth c Q D (mL Y) (qT Y) A ad 3 0 0 46 [(0, .ref (ad 0 0)), (2, .int x2)] [] σ := by
    clear hf hw hl ls
    intro x2 σ hf H locs ls hw hl
    unfold fX9_settles_46 at hf
    refine lv_aload_n S0.1 S0.2.1 dX9_settles_46 rfl (lv_at hl 0 rfl) ?_
    refine lv_iconst (v := 0) S0.1 S0.2.1 dX9_settles_47 (by decide) ?_
    refine pX9_losing S0 hw kw_1202 dX9_settles_48 hf (fun s9 H locs hw hf => ?_)
    refine lv_iload_n S0.1 S0.2.1 dX9_settles_51 rfl (lv_at hl 1 rfl) ?_
    exact hret dX9_settles_52 hw hf
  have b12 : ∀ (x1 : Int32) (t0 : Int32) (σ : qS), fX9_settles_12 F x1 t0 σ = some r0 → qAt p l e (qRm 5 117) s m ([.ref (ad 0 0), .int p1] : List Value).toArray below meth c Q D (mL Y) (qT Y) A ad 3 0 0 12 [(0, .ref (ad 0 0)), (1, .int x1)] [.int t0] σ := by
    clear hf hw hl ls
    intro x1 t0 σ hf H locs ls hw hl
    unfold fX9_settles_12 at hf
    refine lv_istore_n (lv' := [(2, .int t0), (0, .ref (ad 0 0)), (1, .int x1)]) S0.1 S0.2.1 dX9_settles_12 rfl hl (by decide) rfl (fun ls hl => ?_)
    refine lv_aload_n S0.1 S0.2.1 dX9_settles_13 rfl (lv_at hl 1 rfl) ?_
    refine gX9_losing S0 hw kw_1202 dX9_settles_14 hf (fun v3 hf => ?_)
    refine lv_iconst (v := 1) S0.1 S0.2.1 dX9_settles_17 (by decide) ?_
    refine lv_icmp_ne (tgt := 28) S0.1 S0.2.1 dX9_settles_18 (by decide) (fun c4 => ?_) (fun c4 => ?_)
    · replace hf := q_neg c4 hf
      refine lv_aload_n S0.1 S0.2.1 dX9_settles_28 rfl (lv_at hl 1 rfl) ?_
      refine q_callv S0 hw (As := []) (rest := []) (wX9_commit l D Y ad F σ) qyX9_commit kw_1387 ⟨Nat.le_of_ble_eq_true rfl, Nat.le_of_ble_eq_true rfl⟩ dM_0 rfl rfl rfl rfl hl.1 (Nat.le_of_ble_eq_true rfl) dX9_settles_29 ⟨Nat.le_refl _, Nat.le_refl _⟩ rfl hf (fun s5 H locs hw hf => ?_)
      refine lv_aload_n S0.1 S0.2.1 dX9_settles_32 rfl (lv_at hl 1 rfl) ?_
      refine lv_aload_n S0.1 S0.2.1 dX9_settles_33 rfl (lv_at hl 1 rfl) ?_
      refine gX9_zs S0 hw kw_1180 dX9_settles_34 ?_
      refine lv_iload_n S0.1 S0.2.1 dX9_settles_37 rfl (lv_at hl 2 rfl) ?_
      refine q_iald S0 hw dM_132 (t0 := 0) rfl rfl dX9_settles_38 hf (fun v6 hf => ?_)
      refine lv_aload_n S0.1 S0.2.1 dX9_settles_39 rfl (lv_at hl 1 rfl) ?_
      refine gX9_last S0 hw kw_1174 dX9_settles_40 hf (fun v7 hf => ?_)
      refine q_callv S0 hw (As := [.int v6, .int v7]) (rest := []) (wX9_follows l D Y ad F v6 v7 s5) qyX9_follows kw_1391 ⟨Nat.le_of_ble_eq_true rfl, Nat.le_of_ble_eq_true rfl⟩ dM_0 rfl rfl rfl rfl hl.1 (Nat.le_of_ble_eq_true rfl) dX9_settles_43 ⟨Nat.le_refl _, Nat.le_refl _⟩ rfl hf (fun s8 H locs hw hf => ?_)
      exact b46 t0 s8 hf _ _ _ hw (lv_sub hl [1, 0] rfl)
    · replace hf := q_pos c4 hf
      refine lv_aload_n S0.1 S0.2.1 dX9_settles_21 rfl (lv_at hl 1 rfl) ?_
      refine q_callv S0 hw (As := []) (rest := []) (wX9_undo l D Y ad F σ) qyX9_undo kw_1503 ⟨Nat.le_of_ble_eq_true rfl, Nat.le_of_ble_eq_true rfl⟩ dM_0 rfl rfl rfl rfl hl.1 (Nat.le_of_ble_eq_true rfl) dX9_settles_22 ⟨Nat.le_refl _, Nat.le_refl _⟩ rfl hf (fun s10 H locs hw hf => ?_)
      refine lv_goto (tgt := 46) S0.1 S0.2.1 dX9_settles_25 (by decide) ?_
      exact b46 t0 s10 hf _ _ _ hw (lv_sub hl [1, 0] rfl)
  refine lv_aload_n S0.1 S0.2.1 dX9_settles_0 rfl (lv_at hl 0 rfl) ?_
  refine gX9_losing S0 hw kw_1202 dX9_settles_1 hf (fun v1 hf => ?_)
  refine lv_if_le (tgt := 11) S0.1 S0.2.1 dX9_settles_4 (by decide) (fun c2 => ?_) (fun c2 => ?_)
  · replace hf := q_pos c2 hf
    refine lv_iconst (v := 0) S0.1 S0.2.1 dX9_settles_11 (by decide) ?_
    exact b12 p1 0 σ hf _ _ _ hw (lv_sub hl [0, 1] rfl)
  · replace hf := q_neg c2 hf
    refine lv_iconst (v := 1) S0.1 S0.2.1 dX9_settles_7 (by decide) ?_
    refine lv_goto (tgt := 12) S0.1 S0.2.1 dX9_settles_8 (by decide) ?_
    exact b12 p1 1 σ hf _ _ _ hw (lv_sub hl [0, 1] rfl)
theorem qyX9_act : qY yX9_act RX9 cX9_act 10 (some .int) 8 := ⟨⟨kw_1453, kp_60, kw_11, kw_1454⟩, rfl, by decide, by decide, by decide +kernel⟩
def fX9_act_164 (F : Nat) (t0 : Int32) (σ : qS) : Option (Int32 × qS) :=
  some (t0, σ)
def fX9_act (F : Nat) (p1 : Int32) (p2 : Int32) (p3 : Int32) (p4 : Int32) (p5 : Int32) (p6 : Int32) (p7 : Int32) (p8 : Int32) (σ : qS) : Option (Int32 × qS) :=
  bnd (fX9_does F p1 σ) fun s1 => (ldi 10 (s1.1 136 0) p1 fun v2 => (if v2 = 1 then (nm (42 * p1) fun v11 => (ldi 10 (s1.1 137 0) p1 fun v12 => (nm (7 * v12) fun v13 => (nm (v11 + v13) fun v14 => (inx 420 v14 (nm (qI s1 138 0 v14.toNatClampNeg p2) fun s15 => (nm (v14 + 1) fun v16 => (inx 420 v16 (nm (qI s15 138 0 v16.toNatClampNeg p3) fun s17 => (nm (v14 + 2) fun v18 => (inx 420 v18 (nm (qI s17 138 0 v18.toNatClampNeg p4) fun s19 => (nm (v14 + 3) fun v20 => (inx 420 v20 (nm (qI s19 138 0 v20.toNatClampNeg p5) fun s21 => (nm (v14 + 4) fun v22 => (inx 420 v22 (nm (qI s21 138 0 v22.toNatClampNeg p6) fun s23 => (nm (v14 + 5) fun v24 => (inx 420 v24 (nm (qI s23 138 0 v24.toNatClampNeg p7) fun s25 => (nm (v14 + 6) fun v26 => (inx 420 v26 (nm (qI s25 138 0 v26.toNatClampNeg p8) fun s27 => (ldi 10 (s27.1 137 0) p1 fun v28 => (nm (v28 + 1) fun v29 => (inx 10 p1 (nm (qI s27 137 0 p1.toNatClampNeg v29) fun s30 => (some ((-11), s30)))))))))))))))))))))))))))))) else (bnd (fX9_begin F s1) fun s4 => (bnd2 (fX9_acts F p1 p2 p3 p4 p5 p6 p7 p8 s4) fun v6 s5 => (if 0 ≤ v6 then (bnd2 (fX9_settles F p1 s5) fun v9 s8 => (if v9 = 0 then (fX9_act_164 F v6 s8) else (fX9_act_164 F ((-9)) s8))) else (some (v6, s5)))))))
set_option maxRecDepth 100000 in
set_option maxHeartbeats 4000000 in
theorem wX9_act (l : Launch) (D : va_G) (Y : Nat → ClassId) (ad : qAd) (F : Nat) (p1 : Int32) (p2 : Int32) (p3 : Int32) (p4 : Int32) (p5 : Int32) (p6 : Int32) (p7 : Int32) (p8 : Int32) (σ : qS) : qCi l yX9_act cX9_act 10 (some .int) 6 139 D (mL Y) (qT Y) ad [.ref (ad 0 0), .int p1, .int p2, .int p3, .int p4, .int p5, .int p6, .int p7, .int p8] σ (fX9_act F p1 p2 p3 p4 p5 p6 p7 p8 σ) := by
  refine q_ofi (by decide) (Nat.le_of_ble_eq_true rfl) "LeasehallModel" rfl (fun p e s m below meth c A Q r0 S0 hf hw hret ls hl => ?_)
  replace hl : lv_has ls 10 [(0, .ref (ad 0 0)), (1, .int p1), (2, .int p2), (3, .int p3), (4, .int p4), (5, .int p5), (6, .int p6), (7, .int p7), (8, .int p8)] := hl
  unfold fX9_act at hf
  have b164 : ∀ (t0 : Int32) (σ : qS), fX9_act_164 F t0 σ = some r0 → qAt p l e (qRm 6 139) s m ([.ref (ad 0 0), .int p1, .int p2, .int p3, .int p4, .int p5, .int p6, .int p7, .int p8] : List Value).toArray below meth c Q D (mL Y) (qT Y) A ad 10 0 0 164 [] [.int t0] σ := by
    clear hf hw hl ls
    intro t0 σ hf H locs ls hw hl
    unfold fX9_act_164 at hf
    exact hret dX9_act_164 hw hf
  refine lv_aload_n S0.1 S0.2.1 dX9_act_0 rfl (lv_at hl 0 rfl) ?_
  refine lv_iload_n S0.1 S0.2.1 dX9_act_1 rfl (lv_at hl 1 rfl) ?_
  refine q_callv S0 hw (As := [.int p1]) (rest := []) (wX9_does l D Y ad F p1 σ) qyX9_does kw_1415 ⟨Nat.le_of_ble_eq_true rfl, Nat.le_of_ble_eq_true rfl⟩ dM_0 rfl rfl rfl rfl hl.1 (Nat.le_of_ble_eq_true rfl) dX9_act_2 ⟨Nat.le_refl _, Nat.le_refl _⟩ rfl hf (fun s1 H locs hw hf => ?_)
  refine lv_aload_n S0.1 S0.2.1 dX9_act_5 rfl (lv_at hl 0 rfl) ?_
  refine gX9_zg S0 hw kw_1184 dX9_act_6 ?_
  refine lv_iload_n S0.1 S0.2.1 dX9_act_9 rfl (lv_at hl 1 rfl) ?_
  refine q_iald S0 hw dM_136 (t0 := 0) rfl rfl dX9_act_10 hf (fun v2 hf => ?_)
  refine lv_iconst (v := 1) S0.1 S0.2.1 dX9_act_11 (by decide) ?_
  refine lv_icmp_ne (tgt := 118) S0.1 S0.2.1 dX9_act_12 (by decide) (fun c3 => ?_) (fun c3 => ?_)
  · replace hf := q_neg c3 hf
    refine lv_aload_n S0.1 S0.2.1 dX9_act_118 rfl (lv_at hl 0 rfl) ?_
    refine q_callv S0 hw (As := []) (rest := []) (wX9_begin l D Y ad F s1) qyX9_begin kw_1359 ⟨Nat.le_of_ble_eq_true rfl, Nat.le_of_ble_eq_true rfl⟩ dM_0 rfl rfl rfl rfl hl.1 (Nat.le_of_ble_eq_true rfl) dX9_act_119 ⟨Nat.le_refl _, Nat.le_refl _⟩ rfl hf (fun s4 H locs hw hf => ?_)
    refine lv_aload_n S0.1 S0.2.1 dX9_act_122 rfl (lv_at hl 0 rfl) ?_
    refine lv_iload_n S0.1 S0.2.1 dX9_act_123 rfl (lv_at hl 1 rfl) ?_
    refine lv_iload_n S0.1 S0.2.1 dX9_act_124 rfl (lv_at hl 2 rfl) ?_
    refine lv_iload_n S0.1 S0.2.1 dX9_act_125 rfl (lv_at hl 3 rfl) ?_
    refine lv_iload S0.1 S0.2.1 dX9_act_126 (lv_at hl 4 rfl) ?_
    refine lv_iload S0.1 S0.2.1 dX9_act_128 (lv_at hl 5 rfl) ?_
    refine lv_iload S0.1 S0.2.1 dX9_act_130 (lv_at hl 6 rfl) ?_
    refine lv_iload S0.1 S0.2.1 dX9_act_132 (lv_at hl 7 rfl) ?_
    refine lv_iload S0.1 S0.2.1 dX9_act_134 (lv_at hl 8 rfl) ?_
    refine q_calli S0 hw (As := [.int p1, .int p2, .int p3, .int p4, .int p5, .int p6, .int p7, .int p8]) (rest := []) (wX9_acts l D Y ad F p1 p2 p3 p4 p5 p6 p7 p8 s4) qyX9_acts kw_1455 ⟨Nat.le_of_ble_eq_true rfl, Nat.le_of_ble_eq_true rfl⟩ dM_0 rfl rfl rfl rfl hl.1 (Nat.le_of_ble_eq_true rfl) dX9_act_136 ⟨Nat.le_refl _, Nat.le_refl _⟩ rfl hf (fun v6 s5 H locs hw hf => ?_)
    refine lv_istore (lv' := [(9, .int v6), (0, .ref (ad 0 0)), (1, .int p1), (2, .int p2), (3, .int p3), (4, .int p4), (5, .int p5), (6, .int p6), (7, .int p7), (8, .int p8)]) S0.1 S0.2.1 dX9_act_139 hl (by decide) rfl (fun ls hl => ?_)
    refine lv_iload S0.1 S0.2.1 dX9_act_141 (lv_at hl 0 rfl) ?_
    refine lv_if_ge (tgt := 149) S0.1 S0.2.1 dX9_act_143 (by decide) (fun c7 => ?_) (fun c7 => ?_)
    · replace hf := q_pos c7 hf
      refine lv_aload_n S0.1 S0.2.1 dX9_act_149 rfl (lv_at hl 1 rfl) ?_
      refine lv_iload_n S0.1 S0.2.1 dX9_act_150 rfl (lv_at hl 2 rfl) ?_
      refine q_calli S0 hw (As := [.int p1]) (rest := []) (wX9_settles l D Y ad F p1 s5) qyX9_settles kw_1499 ⟨Nat.le_of_ble_eq_true rfl, Nat.le_of_ble_eq_true rfl⟩ dM_0 rfl rfl rfl rfl hl.1 (Nat.le_of_ble_eq_true rfl) dX9_act_151 ⟨Nat.le_refl _, Nat.le_refl _⟩ rfl hf (fun v9 s8 H locs hw hf => ?_)
      refine lv_if_eq (tgt := 162) S0.1 S0.2.1 dX9_act_154 (by decide) (fun c10 => ?_) (fun c10 => ?_)
      · replace hf := q_pos c10 hf
        refine lv_iload S0.1 S0.2.1 dX9_act_162 (lv_at hl 0 rfl) ?_
        exact b164 v6 s8 hf _ _ _ hw (lv_sub hl [] rfl)
      · replace hf := q_neg c10 hf
        refine lv_bipush (v := (-9)) S0.1 S0.2.1 dX9_act_157 (by decide) ?_
        refine lv_goto (tgt := 164) S0.1 S0.2.1 dX9_act_159 (by decide) ?_
        exact b164 ((-9)) s8 hf _ _ _ hw (lv_sub hl [] rfl)
    · replace hf := q_neg c7 hf
      refine lv_iload S0.1 S0.2.1 dX9_act_146 (lv_at hl 0 rfl) ?_
      exact hret dX9_act_148 hw hf
  · replace hf := q_pos c3 hf
    refine lv_bipush (v := 42) S0.1 S0.2.1 dX9_act_15 (by decide) ?_
    refine lv_iload_n S0.1 S0.2.1 dX9_act_17 rfl (lv_at hl 1 rfl) ?_
    refine lv_imul S0.1 S0.2.1 dX9_act_18 (q_top hf (fun v11 hf => ?_))
    refine lv_bipush (v := 7) S0.1 S0.2.1 dX9_act_19 (by decide) ?_
    refine lv_aload_n S0.1 S0.2.1 dX9_act_21 rfl (lv_at hl 0 rfl) ?_
    refine gX9_zn S0 hw kw_1185 dX9_act_22 ?_
    refine lv_iload_n S0.1 S0.2.1 dX9_act_25 rfl (lv_at hl 1 rfl) ?_
    refine q_iald S0 hw dM_137 (t0 := 0) rfl rfl dX9_act_26 hf (fun v12 hf => ?_)
    refine lv_imul S0.1 S0.2.1 dX9_act_27 (q_top hf (fun v13 hf => ?_))
    refine lv_iadd S0.1 S0.2.1 dX9_act_28 (q_top hf (fun v14 hf => ?_))
    refine lv_istore (lv' := [(9, .int v14), (0, .ref (ad 0 0)), (1, .int p1), (2, .int p2), (3, .int p3), (4, .int p4), (5, .int p5), (6, .int p6), (7, .int p7), (8, .int p8)]) S0.1 S0.2.1 dX9_act_29 hl (by decide) rfl (fun ls hl => ?_)
    refine lv_aload_n S0.1 S0.2.1 dX9_act_31 rfl (lv_at hl 1 rfl) ?_
    refine gX9_za S0 hw kw_1186 dX9_act_32 ?_
    refine lv_iload S0.1 S0.2.1 dX9_act_35 (lv_at hl 0 rfl) ?_
    refine lv_iload_n S0.1 S0.2.1 dX9_act_37 rfl (lv_at hl 3 rfl) ?_
    refine q_iast S0 hw dM_138 (t0 := 0) (fun _ => rfl) rfl dX9_act_38 hf (fun s15 H locs hw hf => ?_)
    refine lv_aload_n S0.1 S0.2.1 dX9_act_39 rfl (lv_at hl 1 rfl) ?_
    refine gX9_za S0 hw kw_1186 dX9_act_40 ?_
    refine lv_iload S0.1 S0.2.1 dX9_act_43 (lv_at hl 0 rfl) ?_
    refine lv_iconst (v := 1) S0.1 S0.2.1 dX9_act_45 (by decide) ?_
    refine lv_iadd S0.1 S0.2.1 dX9_act_46 (q_top hf (fun v16 hf => ?_))
    refine lv_iload_n S0.1 S0.2.1 dX9_act_47 rfl (lv_at hl 4 rfl) ?_
    refine q_iast S0 hw dM_138 (t0 := 0) (fun _ => rfl) rfl dX9_act_48 hf (fun s17 H locs hw hf => ?_)
    refine lv_aload_n S0.1 S0.2.1 dX9_act_49 rfl (lv_at hl 1 rfl) ?_
    refine gX9_za S0 hw kw_1186 dX9_act_50 ?_
    refine lv_iload S0.1 S0.2.1 dX9_act_53 (lv_at hl 0 rfl) ?_
    refine lv_iconst (v := 2) S0.1 S0.2.1 dX9_act_55 (by decide) ?_
    refine lv_iadd S0.1 S0.2.1 dX9_act_56 (q_top hf (fun v18 hf => ?_))
    refine lv_iload S0.1 S0.2.1 dX9_act_57 (lv_at hl 5 rfl) ?_
    refine q_iast S0 hw dM_138 (t0 := 0) (fun _ => rfl) rfl dX9_act_59 hf (fun s19 H locs hw hf => ?_)
    refine lv_aload_n S0.1 S0.2.1 dX9_act_60 rfl (lv_at hl 1 rfl) ?_
    refine gX9_za S0 hw kw_1186 dX9_act_61 ?_
    refine lv_iload S0.1 S0.2.1 dX9_act_64 (lv_at hl 0 rfl) ?_
    refine lv_iconst (v := 3) S0.1 S0.2.1 dX9_act_66 (by decide) ?_
    refine lv_iadd S0.1 S0.2.1 dX9_act_67 (q_top hf (fun v20 hf => ?_))
    refine lv_iload S0.1 S0.2.1 dX9_act_68 (lv_at hl 6 rfl) ?_
    refine q_iast S0 hw dM_138 (t0 := 0) (fun _ => rfl) rfl dX9_act_70 hf (fun s21 H locs hw hf => ?_)
    refine lv_aload_n S0.1 S0.2.1 dX9_act_71 rfl (lv_at hl 1 rfl) ?_
    refine gX9_za S0 hw kw_1186 dX9_act_72 ?_
    refine lv_iload S0.1 S0.2.1 dX9_act_75 (lv_at hl 0 rfl) ?_
    refine lv_iconst (v := 4) S0.1 S0.2.1 dX9_act_77 (by decide) ?_
    refine lv_iadd S0.1 S0.2.1 dX9_act_78 (q_top hf (fun v22 hf => ?_))
    refine lv_iload S0.1 S0.2.1 dX9_act_79 (lv_at hl 7 rfl) ?_
    refine q_iast S0 hw dM_138 (t0 := 0) (fun _ => rfl) rfl dX9_act_81 hf (fun s23 H locs hw hf => ?_)
    refine lv_aload_n S0.1 S0.2.1 dX9_act_82 rfl (lv_at hl 1 rfl) ?_
    refine gX9_za S0 hw kw_1186 dX9_act_83 ?_
    refine lv_iload S0.1 S0.2.1 dX9_act_86 (lv_at hl 0 rfl) ?_
    refine lv_iconst (v := 5) S0.1 S0.2.1 dX9_act_88 (by decide) ?_
    refine lv_iadd S0.1 S0.2.1 dX9_act_89 (q_top hf (fun v24 hf => ?_))
    refine lv_iload S0.1 S0.2.1 dX9_act_90 (lv_at hl 8 rfl) ?_
    refine q_iast S0 hw dM_138 (t0 := 0) (fun _ => rfl) rfl dX9_act_92 hf (fun s25 H locs hw hf => ?_)
    refine lv_aload_n S0.1 S0.2.1 dX9_act_93 rfl (lv_at hl 1 rfl) ?_
    refine gX9_za S0 hw kw_1186 dX9_act_94 ?_
    refine lv_iload S0.1 S0.2.1 dX9_act_97 (lv_at hl 0 rfl) ?_
    refine lv_bipush (v := 6) S0.1 S0.2.1 dX9_act_99 (by decide) ?_
    refine lv_iadd S0.1 S0.2.1 dX9_act_101 (q_top hf (fun v26 hf => ?_))
    refine lv_iload S0.1 S0.2.1 dX9_act_102 (lv_at hl 9 rfl) ?_
    refine q_iast S0 hw dM_138 (t0 := 0) (fun _ => rfl) rfl dX9_act_104 hf (fun s27 H locs hw hf => ?_)
    refine lv_aload_n S0.1 S0.2.1 dX9_act_105 rfl (lv_at hl 1 rfl) ?_
    refine gX9_zn S0 hw kw_1185 dX9_act_106 ?_
    refine lv_iload_n S0.1 S0.2.1 dX9_act_109 rfl (lv_at hl 2 rfl) ?_
    refine lv_dup2_11 S0.1 S0.2.1 dX9_act_110 rfl rfl ?_
    refine q_iald S0 hw dM_137 (t0 := 0) rfl rfl dX9_act_111 hf (fun v28 hf => ?_)
    refine lv_iconst (v := 1) S0.1 S0.2.1 dX9_act_112 (by decide) ?_
    refine lv_iadd S0.1 S0.2.1 dX9_act_113 (q_top hf (fun v29 hf => ?_))
    refine q_iast S0 hw dM_137 (t0 := 0) (fun _ => rfl) rfl dX9_act_114 hf (fun s30 H locs hw hf => ?_)
    refine lv_bipush (v := (-11)) S0.1 S0.2.1 dX9_act_115 (by decide) ?_
    exact hret dX9_act_117 hw hf
theorem qyX9_barred : qY yX9_barred RX9 cX9_barred 2 (some .boolean) 1 := ⟨⟨kw_1449, kp_59, kw_11, kw_1450⟩, rfl, by decide, by decide, by decide +kernel⟩
def fX9_barred_34 (F : Nat) (t0 : Int32) (σ : qS) : Option (Int32 × qS) :=
  gbl t0 (some (t0, σ))
def fX9_barred_29 (F : Nat) (σ : qS) : Option (Int32 × qS) :=
  fX9_barred_34 F 1 σ
def fX9_barred_33 (F : Nat) (σ : qS) : Option (Int32 × qS) :=
  fX9_barred_34 F 0 σ
def fX9_barred (F : Nat) (p1 : Int32) (σ : qS) : Option (Int32 × qS) :=
  bnd2 (fX9_ended F p1 σ) fun v2 s1 => (if v2 = 0 then (ldi 10 (s1.1 136 0) p1 fun v4 => (if v4 = 1 then (ldi 10 (s1.1 137 0) p1 fun v6 => (if v6 = 6 then (fX9_barred_29 F s1) else (fX9_barred_33 F s1))) else (fX9_barred_33 F s1))) else (fX9_barred_29 F s1))
set_option maxRecDepth 100000 in
set_option maxHeartbeats 4000000 in
theorem wX9_barred (l : Launch) (D : va_G) (Y : Nat → ClassId) (ad : qAd) (F : Nat) (p1 : Int32) (σ : qS) : qCi l yX9_barred cX9_barred 2 (some .boolean) 1 22 D (mL Y) (qT Y) ad [.ref (ad 0 0), .int p1] σ (fX9_barred F p1 σ) := by
  refine q_ofz (by decide) (Nat.le_of_ble_eq_true rfl) "LeasehallModel" rfl (fun p e s m below meth c A Q r0 S0 hf hw hret ls hl => ?_)
  replace hl : lv_has ls 2 [(0, .ref (ad 0 0)), (1, .int p1)] := hl
  unfold fX9_barred at hf
  have b34 : ∀ (t0 : Int32) (σ : qS), fX9_barred_34 F t0 σ = some r0 → qAt p l e (qRm 1 22) s m ([.ref (ad 0 0), .int p1] : List Value).toArray below meth c Q D (mL Y) (qT Y) A ad 2 0 0 34 [] [.int t0] σ := by
    clear hf hw hl ls
    intro t0 σ hf H locs ls hw hl
    unfold fX9_barred_34 at hf
    exact hret dX9_barred_34 hw hf
  have b29 : ∀ (σ : qS), fX9_barred_29 F σ = some r0 → qAt p l e (qRm 1 22) s m ([.ref (ad 0 0), .int p1] : List Value).toArray below meth c Q D (mL Y) (qT Y) A ad 2 0 0 29 [] [] σ := by
    clear hf hw hl ls
    intro σ hf H locs ls hw hl
    unfold fX9_barred_29 at hf
    refine lv_iconst (v := 1) S0.1 S0.2.1 dX9_barred_29 (by decide) ?_
    refine lv_goto (tgt := 34) S0.1 S0.2.1 dX9_barred_30 (by decide) ?_
    exact b34 1 σ hf _ _ _ hw (lv_sub hl [] rfl)
  have b33 : ∀ (σ : qS), fX9_barred_33 F σ = some r0 → qAt p l e (qRm 1 22) s m ([.ref (ad 0 0), .int p1] : List Value).toArray below meth c Q D (mL Y) (qT Y) A ad 2 0 0 33 [] [] σ := by
    clear hf hw hl ls
    intro σ hf H locs ls hw hl
    unfold fX9_barred_33 at hf
    refine lv_iconst (v := 0) S0.1 S0.2.1 dX9_barred_33 (by decide) ?_
    exact b34 0 σ hf _ _ _ hw (lv_sub hl [] rfl)
  refine lv_aload_n S0.1 S0.2.1 dX9_barred_0 rfl (lv_at hl 0 rfl) ?_
  refine lv_iload_n S0.1 S0.2.1 dX9_barred_1 rfl (lv_at hl 1 rfl) ?_
  refine q_calli S0 hw (As := [.int p1]) (rest := []) (wX9_ended l D Y ad F p1 σ) qyX9_ended kw_1347 ⟨Nat.le_of_ble_eq_true rfl, Nat.le_of_ble_eq_true rfl⟩ dM_0 rfl rfl rfl rfl hl.1 (Nat.le_of_ble_eq_true rfl) dX9_barred_2 ⟨Nat.le_refl _, Nat.le_refl _⟩ rfl hf (fun v2 s1 H locs hw hf => ?_)
  refine lv_if_ne (tgt := 29) S0.1 S0.2.1 dX9_barred_5 (by decide) (fun c3 => ?_) (fun c3 => ?_)
  · replace hf := q_neg c3 hf
    exact b29 s1 hf _ _ _ hw (lv_sub hl [] rfl)
  · replace hf := q_pos c3 hf
    refine lv_aload_n S0.1 S0.2.1 dX9_barred_8 rfl (lv_at hl 0 rfl) ?_
    refine gX9_zg S0 hw kw_1184 dX9_barred_9 ?_
    refine lv_iload_n S0.1 S0.2.1 dX9_barred_12 rfl (lv_at hl 1 rfl) ?_
    refine q_iald S0 hw dM_136 (t0 := 0) rfl rfl dX9_barred_13 hf (fun v4 hf => ?_)
    refine lv_iconst (v := 1) S0.1 S0.2.1 dX9_barred_14 (by decide) ?_
    refine lv_icmp_ne (tgt := 33) S0.1 S0.2.1 dX9_barred_15 (by decide) (fun c5 => ?_) (fun c5 => ?_)
    · replace hf := q_neg c5 hf
      exact b33 s1 hf _ _ _ hw (lv_sub hl [] rfl)
    · replace hf := q_pos c5 hf
      refine lv_aload_n S0.1 S0.2.1 dX9_barred_18 rfl (lv_at hl 0 rfl) ?_
      refine gX9_zn S0 hw kw_1185 dX9_barred_19 ?_
      refine lv_iload_n S0.1 S0.2.1 dX9_barred_22 rfl (lv_at hl 1 rfl) ?_
      refine q_iald S0 hw dM_137 (t0 := 0) rfl rfl dX9_barred_23 hf (fun v6 hf => ?_)
      refine lv_bipush (v := 6) S0.1 S0.2.1 dX9_barred_24 (by decide) ?_
      refine lv_icmp_ne (tgt := 33) S0.1 S0.2.1 dX9_barred_26 (by decide) (fun c7 => ?_) (fun c7 => ?_)
      · replace hf := q_neg c7 hf
        exact b33 s1 hf _ _ _ hw (lv_sub hl [] rfl)
      · replace hf := q_pos c7 hf
        exact b29 s1 hf _ _ _ hw (lv_sub hl [] rfl)
def fX9_open_54 (F : Nat) (x1 : Int32) (x2 : Int32) (x3 : Int32) (t1 : Int32) (σ : qS) : Option (Int32 × qS) :=
  bnd2 (fX9_holds F t1 σ) fun v5 s4 => (if v5 = 0 then (nm (s4.1 0 0 48) fun v7 => (inx 10 v7 (nm (qI s4 131 0 v7.toNatClampNeg x1) fun s8 => (nm (s8.1 0 0 48) fun v9 => (inx 10 v9 (nm (qI s8 132 0 v9.toNatClampNeg x2) fun s10 => (nm (s10.1 0 0 48) fun v11 => (inx 10 v11 (nm (qI s10 133 0 v11.toNatClampNeg x3) fun s12 => (nm (s12.1 0 0 48) fun v13 => (nm (s12.1 0 0 53) fun v14 => (inx 10 v13 (nm (qI s12 134 0 v13.toNatClampNeg v14) fun s15 => (nm (s15.1 0 0 48) fun v16 => (nm (v16 + 1) fun v17 => (nm (qI s15 0 0 48 v17) fun s18 => (nm (s18.1 0 0 48) fun v19 => (nm (v19 - 1) fun v20 => (some (v20, s18)))))))))))))))))))) else (some ((-1), s4)))
def fX9_open_21 (F : Nat) (x1 : Int32) (x2 : Int32) (x3 : Int32) (σ : qS) : Option (Int32 × qS) :=
  fX9_open_54 F x1 x2 x3 1 σ
def fX9_open (F : Nat) (p1 : Int32) (p2 : Int32) (p3 : Int32) (σ : qS) : Option (Int32 × qS) :=
  bnd2 (fX9_in F p1 0 3 σ) fun v2 s1 => (if v2 = 0 then (fX9_open_21 F p1 p2 p3 s1) else (bnd2 (fX9_in F p2 0 2 s1) fun v22 s21 => (if v22 = 0 then (fX9_open_21 F p1 p2 p3 s21) else (bnd2 (fX9_in F p3 1 50 s21) fun v25 s24 => (if v25 = 0 then (fX9_open_54 F p1 p2 p3 2 s24) else (nm (s24.1 0 0 48) fun v27 => (if v27 = 10 then (fX9_open_54 F p1 p2 p3 3 s24) else (fX9_open_54 F p1 p2 p3 0 s24))))))))
set_option maxRecDepth 100000 in
set_option maxHeartbeats 4000000 in
theorem wX9_open (l : Launch) (D : va_G) (Y : Nat → ClassId) (ad : qAd) (F : Nat) (p1 : Int32) (p2 : Int32) (p3 : Int32) (σ : qS) : qCi l yX9_open cX9_open 4 (some .int) 1 23 D (mL Y) (qT Y) ad [.ref (ad 0 0), .int p1, .int p2, .int p3] σ (fX9_open F p1 p2 p3 σ) := by
  refine q_ofi (by decide) (Nat.le_of_ble_eq_true rfl) "LeasehallModel" rfl (fun p e s m below meth c A Q r0 S0 hf hw hret ls hl => ?_)
  replace hl : lv_has ls 4 [(0, .ref (ad 0 0)), (1, .int p1), (2, .int p2), (3, .int p3)] := hl
  unfold fX9_open at hf
  have b54 : ∀ (x1 : Int32) (x2 : Int32) (x3 : Int32) (t1 : Int32) (σ : qS), fX9_open_54 F x1 x2 x3 t1 σ = some r0 → qAt p l e (qRm 1 23) s m ([.ref (ad 0 0), .int p1, .int p2, .int p3] : List Value).toArray below meth c Q D (mL Y) (qT Y) A ad 4 0 0 54 [(0, .ref (ad 0 0)), (1, .int x1), (2, .int x2), (3, .int x3)] [.int t1, .ref (ad 0 0)] σ := by
    clear hf hw hl ls
    intro x1 x2 x3 t1 σ hf H locs ls hw hl
    unfold fX9_open_54 at hf
    refine q_calli S0 hw (As := [.int t1]) (rest := []) (wX9_holds l D Y ad F t1 σ) qyX9_holds kw_1335 ⟨Nat.le_of_ble_eq_true rfl, Nat.le_of_ble_eq_true rfl⟩ dM_0 rfl rfl rfl rfl hl.1 (Nat.le_of_ble_eq_true rfl) dX9_open_54 ⟨Nat.le_refl _, Nat.le_refl _⟩ rfl hf (fun v5 s4 H locs hw hf => ?_)
    refine lv_if_eq (tgt := 62) S0.1 S0.2.1 dX9_open_57 (by decide) (fun c6 => ?_) (fun c6 => ?_)
    · replace hf := q_pos c6 hf
      refine lv_aload_n S0.1 S0.2.1 dX9_open_62 rfl (lv_at hl 0 rfl) ?_
      refine gX9_zp S0 hw kw_1179 dX9_open_63 ?_
      refine lv_aload_n S0.1 S0.2.1 dX9_open_66 rfl (lv_at hl 0 rfl) ?_
      refine gX9_sessions S0 hw kw_1196 dX9_open_67 hf (fun v7 hf => ?_)
      refine lv_iload_n S0.1 S0.2.1 dX9_open_70 rfl (lv_at hl 1 rfl) ?_
      refine q_iast S0 hw dM_131 (t0 := 0) (fun _ => rfl) rfl dX9_open_71 hf (fun s8 H locs hw hf => ?_)
      refine lv_aload_n S0.1 S0.2.1 dX9_open_72 rfl (lv_at hl 0 rfl) ?_
      refine gX9_zs S0 hw kw_1180 dX9_open_73 ?_
      refine lv_aload_n S0.1 S0.2.1 dX9_open_76 rfl (lv_at hl 0 rfl) ?_
      refine gX9_sessions S0 hw kw_1196 dX9_open_77 hf (fun v9 hf => ?_)
      refine lv_iload_n S0.1 S0.2.1 dX9_open_80 rfl (lv_at hl 2 rfl) ?_
      refine q_iast S0 hw dM_132 (t0 := 0) (fun _ => rfl) rfl dX9_open_81 hf (fun s10 H locs hw hf => ?_)
      refine lv_aload_n S0.1 S0.2.1 dX9_open_82 rfl (lv_at hl 0 rfl) ?_
      refine gX9_zt S0 hw kw_1181 dX9_open_83 ?_
      refine lv_aload_n S0.1 S0.2.1 dX9_open_86 rfl (lv_at hl 0 rfl) ?_
      refine gX9_sessions S0 hw kw_1196 dX9_open_87 hf (fun v11 hf => ?_)
      refine lv_iload_n S0.1 S0.2.1 dX9_open_90 rfl (lv_at hl 3 rfl) ?_
      refine q_iast S0 hw dM_133 (t0 := 0) (fun _ => rfl) rfl dX9_open_91 hf (fun s12 H locs hw hf => ?_)
      refine lv_aload_n S0.1 S0.2.1 dX9_open_92 rfl (lv_at hl 0 rfl) ?_
      refine gX9_zl S0 hw kw_1182 dX9_open_93 ?_
      refine lv_aload_n S0.1 S0.2.1 dX9_open_96 rfl (lv_at hl 0 rfl) ?_
      refine gX9_sessions S0 hw kw_1196 dX9_open_97 hf (fun v13 hf => ?_)
      refine lv_aload_n S0.1 S0.2.1 dX9_open_100 rfl (lv_at hl 0 rfl) ?_
      refine gX9_time S0 hw kw_1201 dX9_open_101 hf (fun v14 hf => ?_)
      refine q_iast S0 hw dM_134 (t0 := 0) (fun _ => rfl) rfl dX9_open_104 hf (fun s15 H locs hw hf => ?_)
      refine lv_aload_n S0.1 S0.2.1 dX9_open_105 rfl (lv_at hl 0 rfl) ?_
      refine lv_dup S0.1 S0.2.1 dX9_open_106 rfl ?_
      refine gX9_sessions S0 hw kw_1196 dX9_open_107 hf (fun v16 hf => ?_)
      refine lv_iconst (v := 1) S0.1 S0.2.1 dX9_open_110 (by decide) ?_
      refine lv_iadd S0.1 S0.2.1 dX9_open_111 (q_top hf (fun v17 hf => ?_))
      refine pX9_sessions S0 hw kw_1196 dX9_open_112 hf (fun s18 H locs hw hf => ?_)
      refine lv_aload_n S0.1 S0.2.1 dX9_open_115 rfl (lv_at hl 0 rfl) ?_
      refine gX9_sessions S0 hw kw_1196 dX9_open_116 hf (fun v19 hf => ?_)
      refine lv_iconst (v := 1) S0.1 S0.2.1 dX9_open_119 (by decide) ?_
      refine lv_isub S0.1 S0.2.1 dX9_open_120 (q_top hf (fun v20 hf => ?_))
      exact hret dX9_open_121 hw hf
    · replace hf := q_neg c6 hf
      refine lv_iconst (v := (-1)) S0.1 S0.2.1 dX9_open_60 (by decide) ?_
      exact hret dX9_open_61 hw hf
  have b21 : ∀ (x1 : Int32) (x2 : Int32) (x3 : Int32) (σ : qS), fX9_open_21 F x1 x2 x3 σ = some r0 → qAt p l e (qRm 1 23) s m ([.ref (ad 0 0), .int p1, .int p2, .int p3] : List Value).toArray below meth c Q D (mL Y) (qT Y) A ad 4 0 0 21 [(0, .ref (ad 0 0)), (1, .int x1), (2, .int x2), (3, .int x3)] [.ref (ad 0 0)] σ := by
    clear hf hw hl ls
    intro x1 x2 x3 σ hf H locs ls hw hl
    unfold fX9_open_21 at hf
    refine lv_iconst (v := 1) S0.1 S0.2.1 dX9_open_21 (by decide) ?_
    refine lv_goto (tgt := 54) S0.1 S0.2.1 dX9_open_22 (by decide) ?_
    exact b54 x1 x2 x3 1 σ hf _ _ _ hw (lv_sub hl [0, 1, 2, 3] rfl)
  refine lv_aload_n S0.1 S0.2.1 dX9_open_0 rfl (lv_at hl 0 rfl) ?_
  refine lv_aload_n S0.1 S0.2.1 dX9_open_1 rfl (lv_at hl 0 rfl) ?_
  refine lv_iload_n S0.1 S0.2.1 dX9_open_2 rfl (lv_at hl 1 rfl) ?_
  refine lv_iconst (v := 0) S0.1 S0.2.1 dX9_open_3 (by decide) ?_
  refine lv_iconst (v := 3) S0.1 S0.2.1 dX9_open_4 (by decide) ?_
  refine q_calli S0 hw (As := [.int p1, .int 0, .int 3]) (rest := [.ref (ad 0 0)]) (wX9_in l D Y ad F p1 0 3 σ) qyX9_in kw_1331 ⟨Nat.le_of_ble_eq_true rfl, Nat.le_of_ble_eq_true rfl⟩ dM_0 rfl rfl rfl rfl hl.1 (Nat.le_of_ble_eq_true rfl) dX9_open_5 ⟨Nat.le_refl _, Nat.le_refl _⟩ rfl hf (fun v2 s1 H locs hw hf => ?_)
  refine lv_if_eq (tgt := 21) S0.1 S0.2.1 dX9_open_8 (by decide) (fun c3 => ?_) (fun c3 => ?_)
  · replace hf := q_pos c3 hf
    exact b21 p1 p2 p3 s1 hf _ _ _ hw (lv_sub hl [0, 1, 2, 3] rfl)
  · replace hf := q_neg c3 hf
    refine lv_aload_n S0.1 S0.2.1 dX9_open_11 rfl (lv_at hl 0 rfl) ?_
    refine lv_iload_n S0.1 S0.2.1 dX9_open_12 rfl (lv_at hl 2 rfl) ?_
    refine lv_iconst (v := 0) S0.1 S0.2.1 dX9_open_13 (by decide) ?_
    refine lv_iconst (v := 2) S0.1 S0.2.1 dX9_open_14 (by decide) ?_
    refine q_calli S0 hw (As := [.int p2, .int 0, .int 2]) (rest := [.ref (ad 0 0)]) (wX9_in l D Y ad F p2 0 2 s1) qyX9_in kw_1331 ⟨Nat.le_of_ble_eq_true rfl, Nat.le_of_ble_eq_true rfl⟩ dM_0 rfl rfl rfl rfl hl.1 (Nat.le_of_ble_eq_true rfl) dX9_open_15 ⟨Nat.le_refl _, Nat.le_refl _⟩ rfl hf (fun v22 s21 H locs hw hf => ?_)
    refine lv_if_ne (tgt := 25) S0.1 S0.2.1 dX9_open_18 (by decide) (fun c23 => ?_) (fun c23 => ?_)
    · replace hf := q_neg c23 hf
      refine lv_aload_n S0.1 S0.2.1 dX9_open_25 rfl (lv_at hl 0 rfl) ?_
      refine lv_iload_n S0.1 S0.2.1 dX9_open_26 rfl (lv_at hl 3 rfl) ?_
      refine lv_iconst (v := 1) S0.1 S0.2.1 dX9_open_27 (by decide) ?_
      refine lv_bipush (v := 50) S0.1 S0.2.1 dX9_open_28 (by decide) ?_
      refine q_calli S0 hw (As := [.int p3, .int 1, .int 50]) (rest := [.ref (ad 0 0)]) (wX9_in l D Y ad F p3 1 50 s21) qyX9_in kw_1331 ⟨Nat.le_of_ble_eq_true rfl, Nat.le_of_ble_eq_true rfl⟩ dM_0 rfl rfl rfl rfl hl.1 (Nat.le_of_ble_eq_true rfl) dX9_open_30 ⟨Nat.le_refl _, Nat.le_refl _⟩ rfl hf (fun v25 s24 H locs hw hf => ?_)
      refine lv_if_ne (tgt := 40) S0.1 S0.2.1 dX9_open_33 (by decide) (fun c26 => ?_) (fun c26 => ?_)
      · replace hf := q_neg c26 hf
        refine lv_aload_n S0.1 S0.2.1 dX9_open_40 rfl (lv_at hl 0 rfl) ?_
        refine gX9_sessions S0 hw kw_1196 dX9_open_41 hf (fun v27 hf => ?_)
        refine lv_bipush (v := 10) S0.1 S0.2.1 dX9_open_44 (by decide) ?_
        refine lv_icmp_ne (tgt := 53) S0.1 S0.2.1 dX9_open_46 (by decide) (fun c28 => ?_) (fun c28 => ?_)
        · replace hf := q_neg c28 hf
          refine lv_iconst (v := 0) S0.1 S0.2.1 dX9_open_53 (by decide) ?_
          exact b54 p1 p2 p3 0 s24 hf _ _ _ hw (lv_sub hl [0, 1, 2, 3] rfl)
        · replace hf := q_pos c28 hf
          refine lv_iconst (v := 3) S0.1 S0.2.1 dX9_open_49 (by decide) ?_
          refine lv_goto (tgt := 54) S0.1 S0.2.1 dX9_open_50 (by decide) ?_
          exact b54 p1 p2 p3 3 s24 hf _ _ _ hw (lv_sub hl [0, 1, 2, 3] rfl)
      · replace hf := q_pos c26 hf
        refine lv_iconst (v := 2) S0.1 S0.2.1 dX9_open_36 (by decide) ?_
        refine lv_goto (tgt := 54) S0.1 S0.2.1 dX9_open_37 (by decide) ?_
        exact b54 p1 p2 p3 2 s24 hf _ _ _ hw (lv_sub hl [0, 1, 2, 3] rfl)
    · replace hf := q_pos c23 hf
      exact b21 p1 p2 p3 s21 hf _ _ _ hw (lv_sub hl [0, 1, 2, 3] rfl)

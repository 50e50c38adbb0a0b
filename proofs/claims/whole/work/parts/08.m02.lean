theorem qyX9_ends : qY yX9_ends RX9 cX9_ends 5 (some .int) 2 := ⟨⟨kw_1357, kp_44, kw_11, kw_1358⟩, rfl, by decide, by decide, by decide +kernel⟩
def fX9_ends_62 (F : Nat) (k9 : Int32 → Int32 → Int32 → Int32 → qS → Option (Int32 × qS)) (x1 : Int32) (x2 : Int32) (x4 : Int32) (t0 : Int32) (t1 : Int32) (σ : qS) : Option (Int32 × qS) :=
  nm (t0 + t1) fun v7 => (nm (x4 + 1) fun v8 => (k9 x1 x2 v7 v8 σ))
def fX9_ends_61 (F : Nat) (k9 : Int32 → Int32 → Int32 → Int32 → qS → Option (Int32 × qS)) (x1 : Int32) (x2 : Int32) (x4 : Int32) (t0 : Int32) (σ : qS) : Option (Int32 × qS) :=
  fX9_ends_62 F k9 x1 x2 x4 t0 0 σ
def fX9_ends_9 (F : Nat) : Nat → Int32 → Int32 → Int32 → Int32 → qS → Option (Int32 × qS)
  | 0, _, _, _, _, _ => none
  | n + 1, x1, x2, x3, x4, σ =>
  nm (σ.1 0 0 7) fun v2 => (if v2 ≤ x4 then (bnd (fX9_commit F σ) fun s4 => (some (x3, s4))) else (ldi 400 (σ.1 108 0) x4 fun v5 => (if v5 = 1 then (ldi 80 (σ.1 102 0) x4 fun v9 => (if v9 = x1 then (ldi 80 (σ.1 103 0) x4 fun v11 => (if v11 = x2 then (bnd2 (fX9_goes F x4 σ) fun v14 s13 => (fX9_ends_62 F (fX9_ends_9 F n) x1 x2 x4 x3 v14 s13)) else (fX9_ends_61 F (fX9_ends_9 F n) x1 x2 x4 x3 σ))) else (fX9_ends_61 F (fX9_ends_9 F n) x1 x2 x4 x3 σ))) else (fX9_ends_61 F (fX9_ends_9 F n) x1 x2 x4 x3 σ))))
def fX9_ends (F : Nat) (p1 : Int32) (p2 : Int32) (σ : qS) : Option (Int32 × qS) :=
  bnd (fX9_begin F σ) fun s1 => (fX9_ends_9 F F p1 p2 0 1 s1)
set_option maxRecDepth 100000 in
set_option maxHeartbeats 4000000 in
theorem wX9_ends (l : Launch) (D : va_G) (Y : Nat → ClassId) (ad : qAd) (F : Nat) (p1 : Int32) (p2 : Int32) (σ : qS) : qCi l yX9_ends cX9_ends 5 (some .int) 5 117 D (mL Y) (qT Y) ad [.ref (ad 0 0), .int p1, .int p2] σ (fX9_ends F p1 p2 σ) := by
  refine q_ofi (by decide) (Nat.le_of_ble_eq_true rfl) "LeasehallModel" rfl (fun p e s m below meth c A Q r0 S0 hf hw hret ls hl => ?_)
  replace hl : lv_has ls 5 [(0, .ref (ad 0 0)), (1, .int p1), (2, .int p2)] := hl
  unfold fX9_ends at hf
  have b62 : ∀ (k9 : Int32 → Int32 → Int32 → Int32 → qS → Option (Int32 × qS)) (hk9 : ∀ (x1 : Int32) (x2 : Int32) (x3 : Int32) (x4 : Int32) (σ : qS), k9 x1 x2 x3 x4 σ = some r0 → qAt p l e (qRm 5 117) s m ([.ref (ad 0 0), .int p1, .int p2] : List Value).toArray below meth c Q D (mL Y) (qT Y) A ad 5 0 0 9 [(0, .ref (ad 0 0)), (1, .int x1), (2, .int x2), (3, .int x3), (4, .int x4)] [] σ) (x1 : Int32) (x2 : Int32) (x4 : Int32) (t0 : Int32) (t1 : Int32) (σ : qS), fX9_ends_62 F k9 x1 x2 x4 t0 t1 σ = some r0 → qAt p l e (qRm 5 117) s m ([.ref (ad 0 0), .int p1, .int p2] : List Value).toArray below meth c Q D (mL Y) (qT Y) A ad 5 0 0 62 [(0, .ref (ad 0 0)), (1, .int x1), (2, .int x2), (4, .int x4)] [.int t1, .int t0] σ := by
    clear hf hw hl ls
    intro k9 hk9
    intro x1 x2 x4 t0 t1 σ hf H locs ls hw hl
    unfold fX9_ends_62 at hf
    refine lv_iadd S0.1 S0.2.1 dX9_ends_62 (q_top hf (fun v7 hf => ?_))
    refine lv_istore_n (lv' := [(3, .int v7), (0, .ref (ad 0 0)), (1, .int x1), (2, .int x2), (4, .int x4)]) S0.1 S0.2.1 dX9_ends_63 rfl hl (by decide) rfl (fun ls hl => ?_)
    refine q_iinc S0 (v0 := 1) dX9_ends_64 hl (k := 4) rfl (by decide) (by decide) rfl hf (fun v8 ls hl hf => ?_)
    refine lv_goto (tgt := 9) S0.1 S0.2.1 dX9_ends_67 (by decide) ?_
    exact hk9 x1 x2 v7 v8 σ hf _ _ _ hw (lv_sub hl [2, 3, 4, 1, 0] rfl)
  have b61 : ∀ (k9 : Int32 → Int32 → Int32 → Int32 → qS → Option (Int32 × qS)) (hk9 : ∀ (x1 : Int32) (x2 : Int32) (x3 : Int32) (x4 : Int32) (σ : qS), k9 x1 x2 x3 x4 σ = some r0 → qAt p l e (qRm 5 117) s m ([.ref (ad 0 0), .int p1, .int p2] : List Value).toArray below meth c Q D (mL Y) (qT Y) A ad 5 0 0 9 [(0, .ref (ad 0 0)), (1, .int x1), (2, .int x2), (3, .int x3), (4, .int x4)] [] σ) (x1 : Int32) (x2 : Int32) (x4 : Int32) (t0 : Int32) (σ : qS), fX9_ends_61 F k9 x1 x2 x4 t0 σ = some r0 → qAt p l e (qRm 5 117) s m ([.ref (ad 0 0), .int p1, .int p2] : List Value).toArray below meth c Q D (mL Y) (qT Y) A ad 5 0 0 61 [(0, .ref (ad 0 0)), (1, .int x1), (2, .int x2), (4, .int x4)] [.int t0] σ := by
    clear hf hw hl ls
    intro k9 hk9
    intro x1 x2 x4 t0 σ hf H locs ls hw hl
    unfold fX9_ends_61 at hf
    refine lv_iconst (v := 0) S0.1 S0.2.1 dX9_ends_61 (by decide) ?_
    exact b62 k9 hk9 x1 x2 x4 t0 0 σ hf _ _ _ hw (lv_sub hl [0, 1, 2, 3] rfl)
  have b9 : ∀ (n : Nat) (x1 : Int32) (x2 : Int32) (x3 : Int32) (x4 : Int32) (σ : qS), fX9_ends_9 F n x1 x2 x3 x4 σ = some r0 → qAt p l e (qRm 5 117) s m ([.ref (ad 0 0), .int p1, .int p2] : List Value).toArray below meth c Q D (mL Y) (qT Y) A ad 5 0 0 9 [(0, .ref (ad 0 0)), (1, .int x1), (2, .int x2), (3, .int x3), (4, .int x4)] [] σ := by
    clear hf hw hl ls
    intro n
    induction n with
    | zero => intro x1 x2 x3 x4 σ hf; exact absurd hf (by rw [fX9_ends_9]; exact nofun)
    | succ n hk9 =>
      intro x1 x2 x3 x4 σ hf H locs ls hw hl
      rw [fX9_ends_9] at hf
      refine lv_iload S0.1 S0.2.1 dX9_ends_9 (lv_at hl 4 rfl) ?_
      refine lv_aload_n S0.1 S0.2.1 dX9_ends_11 rfl (lv_at hl 0 rfl) ?_
      refine gX9_nodes S0 hw kw_1155 dX9_ends_12 hf (fun v2 hf => ?_)
      refine lv_icmp_ge (tgt := 70) S0.1 S0.2.1 dX9_ends_15 (by decide) (fun c3 => ?_) (fun c3 => ?_)
      · replace hf := q_pos c3 hf
        refine lv_aload_n S0.1 S0.2.1 dX9_ends_70 rfl (lv_at hl 0 rfl) ?_
        refine q_callv S0 hw (As := []) (rest := []) (wX9_commit l D Y ad F σ) qyX9_commit kw_1387 ⟨Nat.le_of_ble_eq_true rfl, Nat.le_of_ble_eq_true rfl⟩ dM_0 rfl rfl rfl rfl hl.1 (Nat.le_of_ble_eq_true rfl) dX9_ends_71 ⟨Nat.le_refl _, Nat.le_refl _⟩ rfl hf (fun s4 H locs hw hf => ?_)
        refine lv_iload_n S0.1 S0.2.1 dX9_ends_74 rfl (lv_at hl 3 rfl) ?_
        exact hret dX9_ends_75 hw hf
      · replace hf := q_neg c3 hf
        refine lv_iload_n S0.1 S0.2.1 dX9_ends_18 rfl (lv_at hl 3 rfl) ?_
        refine lv_aload_n S0.1 S0.2.1 dX9_ends_19 rfl (lv_at hl 0 rfl) ?_
        refine gX9_is S0 hw kw_1156 dX9_ends_20 ?_
        refine lv_iload S0.1 S0.2.1 dX9_ends_23 (lv_at hl 4 rfl) ?_
        refine q_iald S0 hw dM_108 (t0 := 0) rfl rfl dX9_ends_25 hf (fun v5 hf => ?_)
        refine lv_iconst (v := 1) S0.1 S0.2.1 dX9_ends_26 (by decide) ?_
        refine lv_icmp_ne (tgt := 61) S0.1 S0.2.1 dX9_ends_27 (by decide) (fun c6 => ?_) (fun c6 => ?_)
        · replace hf := q_neg c6 hf
          exact b61 (fX9_ends_9 F n) hk9 x1 x2 x4 x3 σ hf _ _ _ hw (lv_sub hl [0, 1, 2, 4] rfl)
        · replace hf := q_pos c6 hf
          refine lv_aload_n S0.1 S0.2.1 dX9_ends_30 rfl (lv_at hl 0 rfl) ?_
          refine gX9_kind S0 hw kw_1150 dX9_ends_31 ?_
          refine lv_iload S0.1 S0.2.1 dX9_ends_34 (lv_at hl 4 rfl) ?_
          refine q_iald S0 hw dM_102 (t0 := 0) rfl rfl dX9_ends_36 hf (fun v9 hf => ?_)
          refine lv_iload_n S0.1 S0.2.1 dX9_ends_37 rfl (lv_at hl 1 rfl) ?_
          refine lv_icmp_ne (tgt := 61) S0.1 S0.2.1 dX9_ends_38 (by decide) (fun c10 => ?_) (fun c10 => ?_)
          · replace hf := q_neg c10 hf
            exact b61 (fX9_ends_9 F n) hk9 x1 x2 x4 x3 σ hf _ _ _ hw (lv_sub hl [0, 1, 2, 4] rfl)
          · replace hf := q_pos c10 hf
            refine lv_aload_n S0.1 S0.2.1 dX9_ends_41 rfl (lv_at hl 0 rfl) ?_
            refine gX9_whose S0 hw kw_1151 dX9_ends_42 ?_
            refine lv_iload S0.1 S0.2.1 dX9_ends_45 (lv_at hl 4 rfl) ?_
            refine q_iald S0 hw dM_103 (t0 := 0) rfl rfl dX9_ends_47 hf (fun v11 hf => ?_)
            refine lv_iload_n S0.1 S0.2.1 dX9_ends_48 rfl (lv_at hl 2 rfl) ?_
            refine lv_icmp_ne (tgt := 61) S0.1 S0.2.1 dX9_ends_49 (by decide) (fun c12 => ?_) (fun c12 => ?_)
            · replace hf := q_neg c12 hf
              exact b61 (fX9_ends_9 F n) hk9 x1 x2 x4 x3 σ hf _ _ _ hw (lv_sub hl [0, 1, 2, 4] rfl)
            · replace hf := q_pos c12 hf
              refine lv_aload_n S0.1 S0.2.1 dX9_ends_52 rfl (lv_at hl 0 rfl) ?_
              refine lv_iload S0.1 S0.2.1 dX9_ends_53 (lv_at hl 4 rfl) ?_
              refine q_calli S0 hw (As := [.int x4]) (rest := [.int x3]) (wX9_goes l D Y ad F x4 σ) qyX9_goes kw_1367 ⟨Nat.le_of_ble_eq_true rfl, Nat.le_of_ble_eq_true rfl⟩ dM_0 rfl rfl rfl rfl hl.1 (Nat.le_of_ble_eq_true rfl) dX9_ends_55 ⟨Nat.le_refl _, Nat.le_refl _⟩ rfl hf (fun v14 s13 H locs hw hf => ?_)
              refine lv_goto (tgt := 62) S0.1 S0.2.1 dX9_ends_58 (by decide) ?_
              exact b62 (fX9_ends_9 F n) hk9 x1 x2 x4 x3 v14 s13 hf _ _ _ hw (lv_sub hl [0, 1, 2, 4] rfl)
  refine lv_aload_n S0.1 S0.2.1 dX9_ends_0 rfl (lv_at hl 0 rfl) ?_
  refine q_callv S0 hw (As := []) (rest := []) (wX9_begin l D Y ad F σ) qyX9_begin kw_1359 ⟨Nat.le_of_ble_eq_true rfl, Nat.le_of_ble_eq_true rfl⟩ dM_0 rfl rfl rfl rfl hl.1 (Nat.le_of_ble_eq_true rfl) dX9_ends_1 ⟨Nat.le_refl _, Nat.le_refl _⟩ rfl hf (fun s1 H locs hw hf => ?_)
  refine lv_iconst (v := 0) S0.1 S0.2.1 dX9_ends_4 (by decide) ?_
  refine lv_istore_n (lv' := [(3, .int 0), (0, .ref (ad 0 0)), (1, .int p1), (2, .int p2)]) S0.1 S0.2.1 dX9_ends_5 rfl hl (by decide) rfl (fun ls hl => ?_)
  refine lv_iconst (v := 1) S0.1 S0.2.1 dX9_ends_6 (by decide) ?_
  refine lv_istore (lv' := [(4, .int 1), (3, .int 0), (0, .ref (ad 0 0)), (1, .int p1), (2, .int p2)]) S0.1 S0.2.1 dX9_ends_7 hl (by decide) rfl (fun ls hl => ?_)
  exact b9 F p1 p2 0 1 s1 hf _ _ _ hw (lv_sub hl [2, 3, 4, 1, 0] rfl)
theorem qyX9_stop : qY yX9_stop RX9 cX9_stop 2 (some .int) 1 := ⟨⟨kw_1353, kp_43, kw_11, kw_1354⟩, rfl, by decide, by decide, by decide +kernel⟩
def fX9_stop (F : Nat) (p1 : Int32) (σ : qS) : Option (Int32 × qS) :=
  inx 10 p1 (nm (qI σ 135 0 p1.toNatClampNeg 1) fun s1 => (inx 10 p1 (nm (qI s1 136 0 p1.toNatClampNeg 0) fun s2 => (inx 10 p1 (nm (qI s2 143 0 p1.toNatClampNeg 0) fun s3 => (inx 10 p1 (nm (qI s3 146 0 p1.toNatClampNeg 0) fun s4 => (inx 10 p1 (nm (qI s4 145 0 p1.toNatClampNeg 0) fun s5 => (bnd2 (fX9_ends F 1 p1 s5) fun v7 s6 => (some (v7, s6))))))))))))
set_option maxRecDepth 100000 in
set_option maxHeartbeats 4000000 in
theorem wX9_stop (l : Launch) (D : va_G) (Y : Nat → ClassId) (ad : qAd) (F : Nat) (p1 : Int32) (σ : qS) : qCi l yX9_stop cX9_stop 2 (some .int) 6 141 D (mL Y) (qT Y) ad [.ref (ad 0 0), .int p1] σ (fX9_stop F p1 σ) := by
  refine q_ofi (by decide) (Nat.le_of_ble_eq_true rfl) "LeasehallModel" rfl (fun p e s m below meth c A Q r0 S0 hf hw hret ls hl => ?_)
  replace hl : lv_has ls 2 [(0, .ref (ad 0 0)), (1, .int p1)] := hl
  unfold fX9_stop at hf
  refine lv_aload_n S0.1 S0.2.1 dX9_stop_0 rfl (lv_at hl 0 rfl) ?_
  refine gX9_ze S0 hw kw_1183 dX9_stop_1 ?_
  refine lv_iload_n S0.1 S0.2.1 dX9_stop_4 rfl (lv_at hl 1 rfl) ?_
  refine lv_iconst (v := 1) S0.1 S0.2.1 dX9_stop_5 (by decide) ?_
  refine q_iast S0 hw dM_135 (t0 := 0) (fun _ => rfl) rfl dX9_stop_6 hf (fun s1 H locs hw hf => ?_)
  refine lv_aload_n S0.1 S0.2.1 dX9_stop_7 rfl (lv_at hl 0 rfl) ?_
  refine gX9_zg S0 hw kw_1184 dX9_stop_8 ?_
  refine lv_iload_n S0.1 S0.2.1 dX9_stop_11 rfl (lv_at hl 1 rfl) ?_
  refine lv_iconst (v := 0) S0.1 S0.2.1 dX9_stop_12 (by decide) ?_
  refine q_iast S0 hw dM_136 (t0 := 0) (fun _ => rfl) rfl dX9_stop_13 hf (fun s2 H locs hw hf => ?_)
  refine lv_aload_n S0.1 S0.2.1 dX9_stop_14 rfl (lv_at hl 0 rfl) ?_
  refine gX9_watches S0 hw kw_1191 dX9_stop_15 ?_
  refine lv_iload_n S0.1 S0.2.1 dX9_stop_18 rfl (lv_at hl 1 rfl) ?_
  refine lv_iconst (v := 0) S0.1 S0.2.1 dX9_stop_19 (by decide) ?_
  refine q_iast S0 hw dM_143 (t0 := 0) (fun _ => rfl) rfl dX9_stop_20 hf (fun s3 H locs hw hf => ?_)
  refine lv_aload_n S0.1 S0.2.1 dX9_stop_21 rfl (lv_at hl 0 rfl) ?_
  refine gX9_tells S0 hw kw_1194 dX9_stop_22 ?_
  refine lv_iload_n S0.1 S0.2.1 dX9_stop_25 rfl (lv_at hl 1 rfl) ?_
  refine lv_iconst (v := 0) S0.1 S0.2.1 dX9_stop_26 (by decide) ?_
  refine q_iast S0 hw dM_146 (t0 := 0) (fun _ => rfl) rfl dX9_stop_27 hf (fun s4 H locs hw hf => ?_)
  refine lv_aload_n S0.1 S0.2.1 dX9_stop_28 rfl (lv_at hl 0 rfl) ?_
  refine gX9_heard S0 hw kw_1193 dX9_stop_29 ?_
  refine lv_iload_n S0.1 S0.2.1 dX9_stop_32 rfl (lv_at hl 1 rfl) ?_
  refine lv_iconst (v := 0) S0.1 S0.2.1 dX9_stop_33 (by decide) ?_
  refine q_iast S0 hw dM_145 (t0 := 0) (fun _ => rfl) rfl dX9_stop_34 hf (fun s5 H locs hw hf => ?_)
  refine lv_aload_n S0.1 S0.2.1 dX9_stop_35 rfl (lv_at hl 0 rfl) ?_
  refine lv_iconst (v := 1) S0.1 S0.2.1 dX9_stop_36 (by decide) ?_
  refine lv_iload_n S0.1 S0.2.1 dX9_stop_37 rfl (lv_at hl 1 rfl) ?_
  refine q_calli S0 hw (As := [.int 1, .int p1]) (rest := []) (wX9_ends l D Y ad F 1 p1 s5) qyX9_ends kw_1355 ⟨Nat.le_of_ble_eq_true rfl, Nat.le_of_ble_eq_true rfl⟩ dM_0 rfl rfl rfl rfl hl.1 (Nat.le_of_ble_eq_true rfl) dX9_stop_38 ⟨Nat.le_refl _, Nat.le_refl _⟩ rfl hf (fun v7 s6 H locs hw hf => ?_)
  exact hret dX9_stop_41 hw hf
def fX9_close_36 (F : Nat) : Nat → Int32 → Int32 → qS → Option (Int32 × qS)
  | 0, _, _, _ => none
  | n + 1, x1, x2, σ =>
  if 80 ≤ x2 then (bnd2 (fX9_stop F x1 σ) fun v12 s11 => (some (v12, s11))) else (nm (80 * x1) fun v13 => (nm (v13 + x2) fun v14 => (inx 800 v14 (nm (qI σ 147 0 v14.toNatClampNeg 0) fun s15 => (nm (x2 + 1) fun v16 => (fX9_close_36 F n x1 v16 s15))))))
def fX9_close_26 (F : Nat) (x1 : Int32) (t1 : Int32) (σ : qS) : Option (Int32 × qS) :=
  bnd2 (fX9_holds F t1 σ) fun v8 s7 => (if v8 = 0 then (fX9_close_36 F F x1 0 s7) else (some ((-1), s7)))
def fX9_close (F : Nat) (p1 : Int32) (σ : qS) : Option (Int32 × qS) :=
  bnd2 (fX9_isSession F p1 σ) fun v2 s1 => (if v2 = 0 then (fX9_close_26 F p1 1 s1) else (bnd2 (fX9_ended F p1 s1) fun v5 s4 => (if v5 = 0 then (fX9_close_26 F p1 0 s4) else (fX9_close_26 F p1 2 s4))))
set_option maxRecDepth 100000 in
set_option maxHeartbeats 4000000 in
theorem wX9_close (l : Launch) (D : va_G) (Y : Nat → ClassId) (ad : qAd) (F : Nat) (p1 : Int32) (σ : qS) : qCi l yX9_close cX9_close 3 (some .int) 7 162 D (mL Y) (qT Y) ad [.ref (ad 0 0), .int p1] σ (fX9_close F p1 σ) := by
  refine q_ofi (by decide) (Nat.le_of_ble_eq_true rfl) "LeasehallModel" rfl (fun p e s m below meth c A Q r0 S0 hf hw hret ls hl => ?_)
  replace hl : lv_has ls 3 [(0, .ref (ad 0 0)), (1, .int p1)] := hl
  unfold fX9_close at hf
  have b36 : ∀ (n : Nat) (x1 : Int32) (x2 : Int32) (σ : qS), fX9_close_36 F n x1 x2 σ = some r0 → qAt p l e (qRm 7 162) s m ([.ref (ad 0 0), .int p1] : List Value).toArray below meth c Q D (mL Y) (qT Y) A ad 3 0 0 36 [(0, .ref (ad 0 0)), (1, .int x1), (2, .int x2)] [] σ := by
    clear hf hw hl ls
    intro n
    induction n with
    | zero => intro x1 x2 σ hf; exact absurd hf (by rw [fX9_close_36]; exact nofun)
    | succ n hk36 =>
      intro x1 x2 σ hf H locs ls hw hl
      rw [fX9_close_36] at hf
      refine lv_iload_n S0.1 S0.2.1 dX9_close_36 rfl (lv_at hl 2 rfl) ?_
      refine lv_bipush (v := 80) S0.1 S0.2.1 dX9_close_37 (by decide) ?_
      refine lv_icmp_ge (tgt := 60) S0.1 S0.2.1 dX9_close_39 (by decide) (fun c10 => ?_) (fun c10 => ?_)
      · replace hf := q_pos c10 hf
        refine lv_aload_n S0.1 S0.2.1 dX9_close_60 rfl (lv_at hl 0 rfl) ?_
        refine lv_iload_n S0.1 S0.2.1 dX9_close_61 rfl (lv_at hl 1 rfl) ?_
        refine q_calli S0 hw (As := [.int x1]) (rest := []) (wX9_stop l D Y ad F x1 σ) qyX9_stop kw_1351 ⟨Nat.le_of_ble_eq_true rfl, Nat.le_of_ble_eq_true rfl⟩ dM_0 rfl rfl rfl rfl hl.1 (Nat.le_of_ble_eq_true rfl) dX9_close_62 ⟨Nat.le_refl _, Nat.le_refl _⟩ rfl hf (fun v12 s11 H locs hw hf => ?_)
        exact hret dX9_close_65 hw hf
      · replace hf := q_neg c10 hf
        refine lv_aload_n S0.1 S0.2.1 dX9_close_42 rfl (lv_at hl 0 rfl) ?_
        refine gX9_believes S0 hw kw_1195 dX9_close_43 ?_
        refine lv_bipush (v := 80) S0.1 S0.2.1 dX9_close_46 (by decide) ?_
        refine lv_iload_n S0.1 S0.2.1 dX9_close_48 rfl (lv_at hl 1 rfl) ?_
        refine lv_imul S0.1 S0.2.1 dX9_close_49 (q_top hf (fun v13 hf => ?_))
        refine lv_iload_n S0.1 S0.2.1 dX9_close_50 rfl (lv_at hl 2 rfl) ?_
        refine lv_iadd S0.1 S0.2.1 dX9_close_51 (q_top hf (fun v14 hf => ?_))
        refine lv_iconst (v := 0) S0.1 S0.2.1 dX9_close_52 (by decide) ?_
        refine q_iast S0 hw dM_147 (t0 := 0) (fun _ => rfl) rfl dX9_close_53 hf (fun s15 H locs hw hf => ?_)
        refine q_iinc S0 (v0 := 1) dX9_close_54 hl (k := 2) rfl (by decide) (by decide) rfl hf (fun v16 ls hl hf => ?_)
        refine lv_goto (tgt := 36) S0.1 S0.2.1 dX9_close_57 (by decide) ?_
        exact hk36 x1 v16 s15 hf _ _ _ hw (lv_sub hl [1, 2, 0] rfl)
  have b26 : ∀ (x1 : Int32) (t1 : Int32) (σ : qS), fX9_close_26 F x1 t1 σ = some r0 → qAt p l e (qRm 7 162) s m ([.ref (ad 0 0), .int p1] : List Value).toArray below meth c Q D (mL Y) (qT Y) A ad 3 0 0 26 [(0, .ref (ad 0 0)), (1, .int x1)] [.int t1, .ref (ad 0 0)] σ := by
    clear hf hw hl ls
    intro x1 t1 σ hf H locs ls hw hl
    unfold fX9_close_26 at hf
    refine q_calli S0 hw (As := [.int t1]) (rest := []) (wX9_holds l D Y ad F t1 σ) qyX9_holds kw_1335 ⟨Nat.le_of_ble_eq_true rfl, Nat.le_of_ble_eq_true rfl⟩ dM_0 rfl rfl rfl rfl hl.1 (Nat.le_of_ble_eq_true rfl) dX9_close_26 ⟨Nat.le_refl _, Nat.le_refl _⟩ rfl hf (fun v8 s7 H locs hw hf => ?_)
    refine lv_if_eq (tgt := 34) S0.1 S0.2.1 dX9_close_29 (by decide) (fun c9 => ?_) (fun c9 => ?_)
    · replace hf := q_pos c9 hf
      refine lv_iconst (v := 0) S0.1 S0.2.1 dX9_close_34 (by decide) ?_
      refine lv_istore_n (lv' := [(2, .int 0), (0, .ref (ad 0 0)), (1, .int x1)]) S0.1 S0.2.1 dX9_close_35 rfl hl (by decide) rfl (fun ls hl => ?_)
      exact b36 F x1 0 s7 hf _ _ _ hw (lv_sub hl [1, 2, 0] rfl)
    · replace hf := q_neg c9 hf
      refine lv_iconst (v := (-1)) S0.1 S0.2.1 dX9_close_32 (by decide) ?_
      exact hret dX9_close_33 hw hf
  refine lv_aload_n S0.1 S0.2.1 dX9_close_0 rfl (lv_at hl 0 rfl) ?_
  refine lv_aload_n S0.1 S0.2.1 dX9_close_1 rfl (lv_at hl 0 rfl) ?_
  refine lv_iload_n S0.1 S0.2.1 dX9_close_2 rfl (lv_at hl 1 rfl) ?_
  refine q_calli S0 hw (As := [.int p1]) (rest := [.ref (ad 0 0)]) (wX9_isSession l D Y ad F p1 σ) qyX9_isSession kw_1343 ⟨Nat.le_of_ble_eq_true rfl, Nat.le_of_ble_eq_true rfl⟩ dM_0 rfl rfl rfl rfl hl.1 (Nat.le_of_ble_eq_true rfl) dX9_close_3 ⟨Nat.le_refl _, Nat.le_refl _⟩ rfl hf (fun v2 s1 H locs hw hf => ?_)
  refine lv_if_ne (tgt := 13) S0.1 S0.2.1 dX9_close_6 (by decide) (fun c3 => ?_) (fun c3 => ?_)
  · replace hf := q_neg c3 hf
    refine lv_aload_n S0.1 S0.2.1 dX9_close_13 rfl (lv_at hl 0 rfl) ?_
    refine lv_iload_n S0.1 S0.2.1 dX9_close_14 rfl (lv_at hl 1 rfl) ?_
    refine q_calli S0 hw (As := [.int p1]) (rest := [.ref (ad 0 0)]) (wX9_ended l D Y ad F p1 s1) qyX9_ended kw_1347 ⟨Nat.le_of_ble_eq_true rfl, Nat.le_of_ble_eq_true rfl⟩ dM_0 rfl rfl rfl rfl hl.1 (Nat.le_of_ble_eq_true rfl) dX9_close_15 ⟨Nat.le_refl _, Nat.le_refl _⟩ rfl hf (fun v5 s4 H locs hw hf => ?_)
    refine lv_if_eq (tgt := 25) S0.1 S0.2.1 dX9_close_18 (by decide) (fun c6 => ?_) (fun c6 => ?_)
    · replace hf := q_pos c6 hf
      refine lv_iconst (v := 0) S0.1 S0.2.1 dX9_close_25 (by decide) ?_
      exact b26 p1 0 s4 hf _ _ _ hw (lv_sub hl [0, 1] rfl)
    · replace hf := q_neg c6 hf
      refine lv_iconst (v := 2) S0.1 S0.2.1 dX9_close_21 (by decide) ?_
      refine lv_goto (tgt := 26) S0.1 S0.2.1 dX9_close_22 (by decide) ?_
      exact b26 p1 2 s4 hf _ _ _ hw (lv_sub hl [0, 1] rfl)
  · replace hf := q_pos c3 hf
    refine lv_iconst (v := 1) S0.1 S0.2.1 dX9_close_9 (by decide) ?_
    refine lv_goto (tgt := 26) S0.1 S0.2.1 dX9_close_10 (by decide) ?_
    exact b26 p1 1 s1 hf _ _ _ hw (lv_sub hl [0, 1] rfl)
def fX9_ping_26 (F : Nat) (x1 : Int32) (t1 : Int32) (σ : qS) : Option (Int32 × qS) :=
  bnd2 (fX9_holds F t1 σ) fun v8 s7 => (if v8 = 0 then (bnd (fX9_does F x1 s7) fun s10 => (ldi 10 (s10.1 132 0) x1 fun v11 => (ldi 3 (s10.1 130 0) v11 fun v12 => (some (v12, s10))))) else (some ((-1), s7)))
def fX9_ping (F : Nat) (p1 : Int32) (σ : qS) : Option (Int32 × qS) :=
  bnd2 (fX9_isSession F p1 σ) fun v2 s1 => (if v2 = 0 then (fX9_ping_26 F p1 1 s1) else (bnd2 (fX9_ended F p1 s1) fun v5 s4 => (if v5 = 0 then (fX9_ping_26 F p1 0 s4) else (fX9_ping_26 F p1 2 s4))))
set_option maxRecDepth 100000 in
set_option maxHeartbeats 4000000 in
theorem wX9_ping (l : Launch) (D : va_G) (Y : Nat → ClassId) (ad : qAd) (F : Nat) (p1 : Int32) (σ : qS) : qCi l yX9_ping cX9_ping 2 (some .int) 2 44 D (mL Y) (qT Y) ad [.ref (ad 0 0), .int p1] σ (fX9_ping F p1 σ) := by
  refine q_ofi (by decide) (Nat.le_of_ble_eq_true rfl) "LeasehallModel" rfl (fun p e s m below meth c A Q r0 S0 hf hw hret ls hl => ?_)
  replace hl : lv_has ls 2 [(0, .ref (ad 0 0)), (1, .int p1)] := hl
  unfold fX9_ping at hf
  have b26 : ∀ (x1 : Int32) (t1 : Int32) (σ : qS), fX9_ping_26 F x1 t1 σ = some r0 → qAt p l e (qRm 2 44) s m ([.ref (ad 0 0), .int p1] : List Value).toArray below meth c Q D (mL Y) (qT Y) A ad 2 0 0 26 [(0, .ref (ad 0 0)), (1, .int x1)] [.int t1, .ref (ad 0 0)] σ := by
    clear hf hw hl ls
    intro x1 t1 σ hf H locs ls hw hl
    unfold fX9_ping_26 at hf
    refine q_calli S0 hw (As := [.int t1]) (rest := []) (wX9_holds l D Y ad F t1 σ) qyX9_holds kw_1335 ⟨Nat.le_of_ble_eq_true rfl, Nat.le_of_ble_eq_true rfl⟩ dM_0 rfl rfl rfl rfl hl.1 (Nat.le_of_ble_eq_true rfl) dX9_ping_26 ⟨Nat.le_refl _, Nat.le_refl _⟩ rfl hf (fun v8 s7 H locs hw hf => ?_)
    refine lv_if_eq (tgt := 34) S0.1 S0.2.1 dX9_ping_29 (by decide) (fun c9 => ?_) (fun c9 => ?_)
    · replace hf := q_pos c9 hf
      refine lv_aload_n S0.1 S0.2.1 dX9_ping_34 rfl (lv_at hl 0 rfl) ?_
      refine lv_iload_n S0.1 S0.2.1 dX9_ping_35 rfl (lv_at hl 1 rfl) ?_
      refine q_callv S0 hw (As := [.int x1]) (rest := []) (wX9_does l D Y ad F x1 s7) qyX9_does kw_1415 ⟨Nat.le_of_ble_eq_true rfl, Nat.le_of_ble_eq_true rfl⟩ dM_0 rfl rfl rfl rfl hl.1 (Nat.le_of_ble_eq_true rfl) dX9_ping_36 ⟨Nat.le_refl _, Nat.le_refl _⟩ rfl hf (fun s10 H locs hw hf => ?_)
      refine lv_aload_n S0.1 S0.2.1 dX9_ping_39 rfl (lv_at hl 0 rfl) ?_
      refine gX9_got S0 hw kw_1178 dX9_ping_40 ?_
      refine lv_aload_n S0.1 S0.2.1 dX9_ping_43 rfl (lv_at hl 0 rfl) ?_
      refine gX9_zs S0 hw kw_1180 dX9_ping_44 ?_
      refine lv_iload_n S0.1 S0.2.1 dX9_ping_47 rfl (lv_at hl 1 rfl) ?_
      refine q_iald S0 hw dM_132 (t0 := 0) rfl rfl dX9_ping_48 hf (fun v11 hf => ?_)
      refine q_iald S0 hw dM_130 (t0 := 0) rfl rfl dX9_ping_49 hf (fun v12 hf => ?_)
      exact hret dX9_ping_50 hw hf
    · replace hf := q_neg c9 hf
      refine lv_iconst (v := (-1)) S0.1 S0.2.1 dX9_ping_32 (by decide) ?_
      exact hret dX9_ping_33 hw hf
  refine lv_aload_n S0.1 S0.2.1 dX9_ping_0 rfl (lv_at hl 0 rfl) ?_
  refine lv_aload_n S0.1 S0.2.1 dX9_ping_1 rfl (lv_at hl 0 rfl) ?_
  refine lv_iload_n S0.1 S0.2.1 dX9_ping_2 rfl (lv_at hl 1 rfl) ?_
  refine q_calli S0 hw (As := [.int p1]) (rest := [.ref (ad 0 0)]) (wX9_isSession l D Y ad F p1 σ) qyX9_isSession kw_1343 ⟨Nat.le_of_ble_eq_true rfl, Nat.le_of_ble_eq_true rfl⟩ dM_0 rfl rfl rfl rfl hl.1 (Nat.le_of_ble_eq_true rfl) dX9_ping_3 ⟨Nat.le_refl _, Nat.le_refl _⟩ rfl hf (fun v2 s1 H locs hw hf => ?_)
  refine lv_if_ne (tgt := 13) S0.1 S0.2.1 dX9_ping_6 (by decide) (fun c3 => ?_) (fun c3 => ?_)
  · replace hf := q_neg c3 hf
    refine lv_aload_n S0.1 S0.2.1 dX9_ping_13 rfl (lv_at hl 0 rfl) ?_
    refine lv_iload_n S0.1 S0.2.1 dX9_ping_14 rfl (lv_at hl 1 rfl) ?_
    refine q_calli S0 hw (As := [.int p1]) (rest := [.ref (ad 0 0)]) (wX9_ended l D Y ad F p1 s1) qyX9_ended kw_1347 ⟨Nat.le_of_ble_eq_true rfl, Nat.le_of_ble_eq_true rfl⟩ dM_0 rfl rfl rfl rfl hl.1 (Nat.le_of_ble_eq_true rfl) dX9_ping_15 ⟨Nat.le_refl _, Nat.le_refl _⟩ rfl hf (fun v5 s4 H locs hw hf => ?_)
    refine lv_if_eq (tgt := 25) S0.1 S0.2.1 dX9_ping_18 (by decide) (fun c6 => ?_) (fun c6 => ?_)
    · replace hf := q_pos c6 hf
      refine lv_iconst (v := 0) S0.1 S0.2.1 dX9_ping_25 (by decide) ?_
      exact b26 p1 0 s4 hf _ _ _ hw (lv_sub hl [0, 1] rfl)
    · replace hf := q_neg c6 hf
      refine lv_iconst (v := 2) S0.1 S0.2.1 dX9_ping_21 (by decide) ?_
      refine lv_goto (tgt := 26) S0.1 S0.2.1 dX9_ping_22 (by decide) ?_
      exact b26 p1 2 s4 hf _ _ _ hw (lv_sub hl [0, 1] rfl)
  · replace hf := q_pos c3 hf
    refine lv_iconst (v := 1) S0.1 S0.2.1 dX9_ping_9 (by decide) ?_
    refine lv_goto (tgt := 26) S0.1 S0.2.1 dX9_ping_10 (by decide) ?_
    exact b26 p1 1 s1 hf _ _ _ hw (lv_sub hl [0, 1] rfl)
def fX9_move_86 (F : Nat) : Nat → Int32 → Int32 → Int32 → qS → Option (Int32 × qS)
  | 0, _, _, _, _ => none
  | n + 1, x1, x2, x4, σ =>
  ldi 3 (σ.1 129 0) x2 fun v14 => (if v14 ≤ x4 then (inx 10 x1 (nm (qI σ 132 0 x1.toNatClampNeg x2) fun s16 => (gbl 1 (some (1, s16))))) else (bnd (fX9_watched F x1 x4 σ) fun s17 => (nm (x4 + 1) fun v18 => (fX9_move_86 F n x1 x2 v18 s17))))
def fX9_move_36 (F : Nat) (x1 : Int32) (x2 : Int32) (t1 : Int32) (σ : qS) : Option (Int32 × qS) :=
  bnd2 (fX9_holds F t1 σ) fun v5 s4 => (if v5 = 0 then (bnd (fX9_does F x1 s4) fun s7 => (ldi 3 (s7.1 130 0) x2 fun v8 => (ldi 10 (s7.1 132 0) x1 fun v9 => (ldi 3 (s7.1 130 0) v9 fun v10 => (if v10 ≤ v8 then (ldi 10 (s7.1 132 0) x1 fun v12 => (ldi 3 (s7.1 129 0) v12 fun v13 => (fX9_move_86 F F x1 x2 v13 s7))) else (gbl 0 (some (0, s7)))))))) else (gbl 0 (some (0, s4))))
def fX9_move_19 (F : Nat) (x1 : Int32) (x2 : Int32) (σ : qS) : Option (Int32 × qS) :=
  fX9_move_36 F x1 x2 1 σ
def fX9_move (F : Nat) (p1 : Int32) (p2 : Int32) (σ : qS) : Option (Int32 × qS) :=
  bnd2 (fX9_isSession F p1 σ) fun v2 s1 => (if v2 = 0 then (fX9_move_19 F p1 p2 s1) else (bnd2 (fX9_in F p2 0 2 s1) fun v20 s19 => (if v20 = 0 then (fX9_move_19 F p1 p2 s19) else (bnd2 (fX9_ended F p1 s19) fun v23 s22 => (if v23 = 0 then (fX9_move_36 F p1 p2 0 s22) else (fX9_move_36 F p1 p2 2 s22))))))
set_option maxRecDepth 100000 in
set_option maxHeartbeats 4000000 in
theorem wX9_move (l : Launch) (D : va_G) (Y : Nat → ClassId) (ad : qAd) (F : Nat) (p1 : Int32) (p2 : Int32) (σ : qS) : qCi l yX9_move cX9_move 5 (some .boolean) 2 52 D (mL Y) (qT Y) ad [.ref (ad 0 0), .int p1, .int p2] σ (fX9_move F p1 p2 σ) := by
  refine q_ofz (by decide) (Nat.le_of_ble_eq_true rfl) "LeasehallModel" rfl (fun p e s m below meth c A Q r0 S0 hf hw hret ls hl => ?_)
  replace hl : lv_has ls 5 [(0, .ref (ad 0 0)), (1, .int p1), (2, .int p2)] := hl
  unfold fX9_move at hf
  have b86 : ∀ (n : Nat) (x1 : Int32) (x2 : Int32) (x4 : Int32) (σ : qS), fX9_move_86 F n x1 x2 x4 σ = some r0 → qAt p l e (qRm 2 52) s m ([.ref (ad 0 0), .int p1, .int p2] : List Value).toArray below meth c Q D (mL Y) (qT Y) A ad 5 0 0 86 [(0, .ref (ad 0 0)), (1, .int x1), (2, .int x2), (4, .int x4)] [] σ := by
    clear hf hw hl ls
    intro n
    induction n with
    | zero => intro x1 x2 x4 σ hf; exact absurd hf (by rw [fX9_move_86]; exact nofun)
    | succ n hk86 =>
      intro x1 x2 x4 σ hf H locs ls hw hl
      rw [fX9_move_86] at hf
      refine lv_iload S0.1 S0.2.1 dX9_move_86 (lv_at hl 3 rfl) ?_
      refine lv_aload_n S0.1 S0.2.1 dX9_move_88 rfl (lv_at hl 0 rfl) ?_
      refine gX9_pos S0 hw kw_1177 dX9_move_89 ?_
      refine lv_iload_n S0.1 S0.2.1 dX9_move_92 rfl (lv_at hl 2 rfl) ?_
      refine q_iald S0 hw dM_129 (t0 := 0) rfl rfl dX9_move_93 hf (fun v14 hf => ?_)
      refine lv_icmp_ge (tgt := 110) S0.1 S0.2.1 dX9_move_94 (by decide) (fun c15 => ?_) (fun c15 => ?_)
      · replace hf := q_pos c15 hf
        refine lv_aload_n S0.1 S0.2.1 dX9_move_110 rfl (lv_at hl 0 rfl) ?_
        refine gX9_zs S0 hw kw_1180 dX9_move_111 ?_
        refine lv_iload_n S0.1 S0.2.1 dX9_move_114 rfl (lv_at hl 1 rfl) ?_
        refine lv_iload_n S0.1 S0.2.1 dX9_move_115 rfl (lv_at hl 2 rfl) ?_
        refine q_iast S0 hw dM_132 (t0 := 0) (fun _ => rfl) rfl dX9_move_116 hf (fun s16 H locs hw hf => ?_)
        refine lv_iconst (v := 1) S0.1 S0.2.1 dX9_move_117 (by decide) ?_
        exact hret dX9_move_118 hw hf
      · replace hf := q_neg c15 hf
        refine lv_aload_n S0.1 S0.2.1 dX9_move_97 rfl (lv_at hl 0 rfl) ?_
        refine lv_iload_n S0.1 S0.2.1 dX9_move_98 rfl (lv_at hl 1 rfl) ?_
        refine lv_iload S0.1 S0.2.1 dX9_move_99 (lv_at hl 3 rfl) ?_
        refine q_callv S0 hw (As := [.int x1, .int x4]) (rest := []) (wX9_watched l D Y ad F x1 x4 σ) qyX9_watched kw_1399 ⟨Nat.le_of_ble_eq_true rfl, Nat.le_of_ble_eq_true rfl⟩ dM_0 rfl rfl rfl rfl hl.1 (Nat.le_of_ble_eq_true rfl) dX9_move_101 ⟨Nat.le_refl _, Nat.le_refl _⟩ rfl hf (fun s17 H locs hw hf => ?_)
        refine q_iinc S0 (v0 := 1) dX9_move_104 hl (k := 3) rfl (by decide) (by decide) rfl hf (fun v18 ls hl hf => ?_)
        refine lv_goto (tgt := 86) S0.1 S0.2.1 dX9_move_107 (by decide) ?_
        exact hk86 x1 x2 v18 s17 hf _ _ _ hw (lv_sub hl [1, 2, 3, 0] rfl)
  have b36 : ∀ (x1 : Int32) (x2 : Int32) (t1 : Int32) (σ : qS), fX9_move_36 F x1 x2 t1 σ = some r0 → qAt p l e (qRm 2 52) s m ([.ref (ad 0 0), .int p1, .int p2] : List Value).toArray below meth c Q D (mL Y) (qT Y) A ad 5 0 0 36 [(0, .ref (ad 0 0)), (1, .int x1), (2, .int x2)] [.int t1, .ref (ad 0 0)] σ := by
    clear hf hw hl ls
    intro x1 x2 t1 σ hf H locs ls hw hl
    unfold fX9_move_36 at hf
    refine q_calli S0 hw (As := [.int t1]) (rest := []) (wX9_holds l D Y ad F t1 σ) qyX9_holds kw_1335 ⟨Nat.le_of_ble_eq_true rfl, Nat.le_of_ble_eq_true rfl⟩ dM_0 rfl rfl rfl rfl hl.1 (Nat.le_of_ble_eq_true rfl) dX9_move_36 ⟨Nat.le_refl _, Nat.le_refl _⟩ rfl hf (fun v5 s4 H locs hw hf => ?_)
    refine lv_if_eq (tgt := 44) S0.1 S0.2.1 dX9_move_39 (by decide) (fun c6 => ?_) (fun c6 => ?_)
    · replace hf := q_pos c6 hf
      refine lv_aload_n S0.1 S0.2.1 dX9_move_44 rfl (lv_at hl 0 rfl) ?_
      refine lv_iload_n S0.1 S0.2.1 dX9_move_45 rfl (lv_at hl 1 rfl) ?_
      refine q_callv S0 hw (As := [.int x1]) (rest := []) (wX9_does l D Y ad F x1 s4) qyX9_does kw_1415 ⟨Nat.le_of_ble_eq_true rfl, Nat.le_of_ble_eq_true rfl⟩ dM_0 rfl rfl rfl rfl hl.1 (Nat.le_of_ble_eq_true rfl) dX9_move_46 ⟨Nat.le_refl _, Nat.le_refl _⟩ rfl hf (fun s7 H locs hw hf => ?_)
      refine lv_aload_n S0.1 S0.2.1 dX9_move_49 rfl (lv_at hl 0 rfl) ?_
      refine gX9_got S0 hw kw_1178 dX9_move_50 ?_
      refine lv_iload_n S0.1 S0.2.1 dX9_move_53 rfl (lv_at hl 2 rfl) ?_
      refine q_iald S0 hw dM_130 (t0 := 0) rfl rfl dX9_move_54 hf (fun v8 hf => ?_)
      refine lv_aload_n S0.1 S0.2.1 dX9_move_55 rfl (lv_at hl 0 rfl) ?_
      refine gX9_got S0 hw kw_1178 dX9_move_56 ?_
      refine lv_aload_n S0.1 S0.2.1 dX9_move_59 rfl (lv_at hl 0 rfl) ?_
      refine gX9_zs S0 hw kw_1180 dX9_move_60 ?_
      refine lv_iload_n S0.1 S0.2.1 dX9_move_63 rfl (lv_at hl 1 rfl) ?_
      refine q_iald S0 hw dM_132 (t0 := 0) rfl rfl dX9_move_64 hf (fun v9 hf => ?_)
      refine q_iald S0 hw dM_130 (t0 := 0) rfl rfl dX9_move_65 hf (fun v10 hf => ?_)
      refine lv_icmp_ge (tgt := 71) S0.1 S0.2.1 dX9_move_66 (by decide) (fun c11 => ?_) (fun c11 => ?_)
      · replace hf := q_pos c11 hf
        refine lv_aload_n S0.1 S0.2.1 dX9_move_71 rfl (lv_at hl 0 rfl) ?_
        refine gX9_pos S0 hw kw_1177 dX9_move_72 ?_
        refine lv_aload_n S0.1 S0.2.1 dX9_move_75 rfl (lv_at hl 0 rfl) ?_
        refine gX9_zs S0 hw kw_1180 dX9_move_76 ?_
        refine lv_iload_n S0.1 S0.2.1 dX9_move_79 rfl (lv_at hl 1 rfl) ?_
        refine q_iald S0 hw dM_132 (t0 := 0) rfl rfl dX9_move_80 hf (fun v12 hf => ?_)
        refine q_iald S0 hw dM_129 (t0 := 0) rfl rfl dX9_move_81 hf (fun v13 hf => ?_)
        refine lv_istore_n (lv' := [(3, .int v13), (0, .ref (ad 0 0)), (1, .int x1), (2, .int x2)]) S0.1 S0.2.1 dX9_move_82 rfl hl (by decide) rfl (fun ls hl => ?_)
        refine lv_iload_n S0.1 S0.2.1 dX9_move_83 rfl (lv_at hl 0 rfl) ?_
        refine lv_istore (lv' := [(4, .int v13), (3, .int v13), (0, .ref (ad 0 0)), (1, .int x1), (2, .int x2)]) S0.1 S0.2.1 dX9_move_84 hl (by decide) rfl (fun ls hl => ?_)
        exact b86 F x1 x2 v13 s7 hf _ _ _ hw (lv_sub hl [2, 3, 4, 0] rfl)
      · replace hf := q_neg c11 hf
        refine lv_iconst (v := 0) S0.1 S0.2.1 dX9_move_69 (by decide) ?_
        exact hret dX9_move_70 hw hf
    · replace hf := q_neg c6 hf
      refine lv_iconst (v := 0) S0.1 S0.2.1 dX9_move_42 (by decide) ?_
      exact hret dX9_move_43 hw hf
  have b19 : ∀ (x1 : Int32) (x2 : Int32) (σ : qS), fX9_move_19 F x1 x2 σ = some r0 → qAt p l e (qRm 2 52) s m ([.ref (ad 0 0), .int p1, .int p2] : List Value).toArray below meth c Q D (mL Y) (qT Y) A ad 5 0 0 19 [(0, .ref (ad 0 0)), (1, .int x1), (2, .int x2)] [.ref (ad 0 0)] σ := by
    clear hf hw hl ls
    intro x1 x2 σ hf H locs ls hw hl
    unfold fX9_move_19 at hf
    refine lv_iconst (v := 1) S0.1 S0.2.1 dX9_move_19 (by decide) ?_
    refine lv_goto (tgt := 36) S0.1 S0.2.1 dX9_move_20 (by decide) ?_
    exact b36 x1 x2 1 σ hf _ _ _ hw (lv_sub hl [0, 1, 2] rfl)
  refine lv_aload_n S0.1 S0.2.1 dX9_move_0 rfl (lv_at hl 0 rfl) ?_
  refine lv_aload_n S0.1 S0.2.1 dX9_move_1 rfl (lv_at hl 0 rfl) ?_
  refine lv_iload_n S0.1 S0.2.1 dX9_move_2 rfl (lv_at hl 1 rfl) ?_
  refine q_calli S0 hw (As := [.int p1]) (rest := [.ref (ad 0 0)]) (wX9_isSession l D Y ad F p1 σ) qyX9_isSession kw_1343 ⟨Nat.le_of_ble_eq_true rfl, Nat.le_of_ble_eq_true rfl⟩ dM_0 rfl rfl rfl rfl hl.1 (Nat.le_of_ble_eq_true rfl) dX9_move_3 ⟨Nat.le_refl _, Nat.le_refl _⟩ rfl hf (fun v2 s1 H locs hw hf => ?_)
  refine lv_if_eq (tgt := 19) S0.1 S0.2.1 dX9_move_6 (by decide) (fun c3 => ?_) (fun c3 => ?_)
  · replace hf := q_pos c3 hf
    exact b19 p1 p2 s1 hf _ _ _ hw (lv_sub hl [0, 1, 2] rfl)
  · replace hf := q_neg c3 hf
    refine lv_aload_n S0.1 S0.2.1 dX9_move_9 rfl (lv_at hl 0 rfl) ?_
    refine lv_iload_n S0.1 S0.2.1 dX9_move_10 rfl (lv_at hl 2 rfl) ?_
    refine lv_iconst (v := 0) S0.1 S0.2.1 dX9_move_11 (by decide) ?_
    refine lv_iconst (v := 2) S0.1 S0.2.1 dX9_move_12 (by decide) ?_
    refine q_calli S0 hw (As := [.int p2, .int 0, .int 2]) (rest := [.ref (ad 0 0)]) (wX9_in l D Y ad F p2 0 2 s1) qyX9_in kw_1331 ⟨Nat.le_of_ble_eq_true rfl, Nat.le_of_ble_eq_true rfl⟩ dM_0 rfl rfl rfl rfl hl.1 (Nat.le_of_ble_eq_true rfl) dX9_move_13 ⟨Nat.le_refl _, Nat.le_refl _⟩ rfl hf (fun v20 s19 H locs hw hf => ?_)
    refine lv_if_ne (tgt := 23) S0.1 S0.2.1 dX9_move_16 (by decide) (fun c21 => ?_) (fun c21 => ?_)
    · replace hf := q_neg c21 hf
      refine lv_aload_n S0.1 S0.2.1 dX9_move_23 rfl (lv_at hl 0 rfl) ?_
      refine lv_iload_n S0.1 S0.2.1 dX9_move_24 rfl (lv_at hl 1 rfl) ?_
      refine q_calli S0 hw (As := [.int p1]) (rest := [.ref (ad 0 0)]) (wX9_ended l D Y ad F p1 s19) qyX9_ended kw_1347 ⟨Nat.le_of_ble_eq_true rfl, Nat.le_of_ble_eq_true rfl⟩ dM_0 rfl rfl rfl rfl hl.1 (Nat.le_of_ble_eq_true rfl) dX9_move_25 ⟨Nat.le_refl _, Nat.le_refl _⟩ rfl hf (fun v23 s22 H locs hw hf => ?_)
      refine lv_if_eq (tgt := 35) S0.1 S0.2.1 dX9_move_28 (by decide) (fun c24 => ?_) (fun c24 => ?_)
      · replace hf := q_pos c24 hf
        refine lv_iconst (v := 0) S0.1 S0.2.1 dX9_move_35 (by decide) ?_
        exact b36 p1 p2 0 s22 hf _ _ _ hw (lv_sub hl [0, 1, 2] rfl)
      · replace hf := q_neg c24 hf
        refine lv_iconst (v := 2) S0.1 S0.2.1 dX9_move_31 (by decide) ?_
        refine lv_goto (tgt := 36) S0.1 S0.2.1 dX9_move_32 (by decide) ?_
        exact b36 p1 p2 2 s22 hf _ _ _ hw (lv_sub hl [0, 1, 2] rfl)
    · replace hf := q_pos c21 hf
      exact b19 p1 p2 s19 hf _ _ _ hw (lv_sub hl [0, 1, 2] rfl)
def fX9_sync_26 (F : Nat) (x1 : Int32) (t1 : Int32) (σ : qS) : Option (Int32 × qS) :=
  bnd2 (fX9_holds F t1 σ) fun v8 s7 => (if v8 = 0 then (bnd (fX9_does F x1 s7) fun s10 => (ldi 10 (s10.1 132 0) x1 fun v11 => (ldi 3 (s10.1 130 0) v11 fun v12 => (ldi 10 (s10.1 132 0) x1 fun v13 => (nm (s10.1 0 0 26) fun v14 => (bnd (fX9_follows F v13 v14 s10) fun s15 => (nm (s15.1 0 0 26) fun v16 => (nm (v16 - v12) fun v17 => (some (v17, s15)))))))))) else (some ((-1), s7)))
def fX9_sync (F : Nat) (p1 : Int32) (σ : qS) : Option (Int32 × qS) :=
  bnd2 (fX9_isSession F p1 σ) fun v2 s1 => (if v2 = 0 then (fX9_sync_26 F p1 1 s1) else (bnd2 (fX9_ended F p1 s1) fun v5 s4 => (if v5 = 0 then (fX9_sync_26 F p1 0 s4) else (fX9_sync_26 F p1 2 s4))))
set_option maxRecDepth 100000 in
set_option maxHeartbeats 4000000 in
theorem wX9_sync (l : Launch) (D : va_G) (Y : Nat → ClassId) (ad : qAd) (F : Nat) (p1 : Int32) (σ : qS) : qCi l yX9_sync cX9_sync 3 (some .int) 4 97 D (mL Y) (qT Y) ad [.ref (ad 0 0), .int p1] σ (fX9_sync F p1 σ) := by
  refine q_ofi (by decide) (Nat.le_of_ble_eq_true rfl) "LeasehallModel" rfl (fun p e s m below meth c A Q r0 S0 hf hw hret ls hl => ?_)
  replace hl : lv_has ls 3 [(0, .ref (ad 0 0)), (1, .int p1)] := hl
  unfold fX9_sync at hf
  have b26 : ∀ (x1 : Int32) (t1 : Int32) (σ : qS), fX9_sync_26 F x1 t1 σ = some r0 → qAt p l e (qRm 4 97) s m ([.ref (ad 0 0), .int p1] : List Value).toArray below meth c Q D (mL Y) (qT Y) A ad 3 0 0 26 [(0, .ref (ad 0 0)), (1, .int x1)] [.int t1, .ref (ad 0 0)] σ := by
    clear hf hw hl ls
    intro x1 t1 σ hf H locs ls hw hl
    unfold fX9_sync_26 at hf
    refine q_calli S0 hw (As := [.int t1]) (rest := []) (wX9_holds l D Y ad F t1 σ) qyX9_holds kw_1335 ⟨Nat.le_of_ble_eq_true rfl, Nat.le_of_ble_eq_true rfl⟩ dM_0 rfl rfl rfl rfl hl.1 (Nat.le_of_ble_eq_true rfl) dX9_sync_26 ⟨Nat.le_refl _, Nat.le_refl _⟩ rfl hf (fun v8 s7 H locs hw hf => ?_)
    refine lv_if_eq (tgt := 34) S0.1 S0.2.1 dX9_sync_29 (by decide) (fun c9 => ?_) (fun c9 => ?_)
    · replace hf := q_pos c9 hf
      refine lv_aload_n S0.1 S0.2.1 dX9_sync_34 rfl (lv_at hl 0 rfl) ?_
      refine lv_iload_n S0.1 S0.2.1 dX9_sync_35 rfl (lv_at hl 1 rfl) ?_
      refine q_callv S0 hw (As := [.int x1]) (rest := []) (wX9_does l D Y ad F x1 s7) qyX9_does kw_1415 ⟨Nat.le_of_ble_eq_true rfl, Nat.le_of_ble_eq_true rfl⟩ dM_0 rfl rfl rfl rfl hl.1 (Nat.le_of_ble_eq_true rfl) dX9_sync_36 ⟨Nat.le_refl _, Nat.le_refl _⟩ rfl hf (fun s10 H locs hw hf => ?_)
      refine lv_aload_n S0.1 S0.2.1 dX9_sync_39 rfl (lv_at hl 0 rfl) ?_
      refine gX9_got S0 hw kw_1178 dX9_sync_40 ?_
      refine lv_aload_n S0.1 S0.2.1 dX9_sync_43 rfl (lv_at hl 0 rfl) ?_
      refine gX9_zs S0 hw kw_1180 dX9_sync_44 ?_
      refine lv_iload_n S0.1 S0.2.1 dX9_sync_47 rfl (lv_at hl 1 rfl) ?_
      refine q_iald S0 hw dM_132 (t0 := 0) rfl rfl dX9_sync_48 hf (fun v11 hf => ?_)
      refine q_iald S0 hw dM_130 (t0 := 0) rfl rfl dX9_sync_49 hf (fun v12 hf => ?_)
      refine lv_istore_n (lv' := [(2, .int v12), (0, .ref (ad 0 0)), (1, .int x1)]) S0.1 S0.2.1 dX9_sync_50 rfl hl (by decide) rfl (fun ls hl => ?_)
      refine lv_aload_n S0.1 S0.2.1 dX9_sync_51 rfl (lv_at hl 1 rfl) ?_
      refine lv_aload_n S0.1 S0.2.1 dX9_sync_52 rfl (lv_at hl 1 rfl) ?_
      refine gX9_zs S0 hw kw_1180 dX9_sync_53 ?_
      refine lv_iload_n S0.1 S0.2.1 dX9_sync_56 rfl (lv_at hl 2 rfl) ?_
      refine q_iald S0 hw dM_132 (t0 := 0) rfl rfl dX9_sync_57 hf (fun v13 hf => ?_)
      refine lv_aload_n S0.1 S0.2.1 dX9_sync_58 rfl (lv_at hl 1 rfl) ?_
      refine gX9_last S0 hw kw_1174 dX9_sync_59 hf (fun v14 hf => ?_)
      refine q_callv S0 hw (As := [.int v13, .int v14]) (rest := []) (wX9_follows l D Y ad F v13 v14 s10) qyX9_follows kw_1391 ⟨Nat.le_of_ble_eq_true rfl, Nat.le_of_ble_eq_true rfl⟩ dM_0 rfl rfl rfl rfl hl.1 (Nat.le_of_ble_eq_true rfl) dX9_sync_62 ⟨Nat.le_refl _, Nat.le_refl _⟩ rfl hf (fun s15 H locs hw hf => ?_)
      refine lv_aload_n S0.1 S0.2.1 dX9_sync_65 rfl (lv_at hl 1 rfl) ?_
      refine gX9_last S0 hw kw_1174 dX9_sync_66 hf (fun v16 hf => ?_)
      refine lv_iload_n S0.1 S0.2.1 dX9_sync_69 rfl (lv_at hl 0 rfl) ?_
      refine lv_isub S0.1 S0.2.1 dX9_sync_70 (q_top hf (fun v17 hf => ?_))
      exact hret dX9_sync_71 hw hf
    · replace hf := q_neg c9 hf
      refine lv_iconst (v := (-1)) S0.1 S0.2.1 dX9_sync_32 (by decide) ?_
      exact hret dX9_sync_33 hw hf
  refine lv_aload_n S0.1 S0.2.1 dX9_sync_0 rfl (lv_at hl 0 rfl) ?_
  refine lv_aload_n S0.1 S0.2.1 dX9_sync_1 rfl (lv_at hl 0 rfl) ?_
  refine lv_iload_n S0.1 S0.2.1 dX9_sync_2 rfl (lv_at hl 1 rfl) ?_
  refine q_calli S0 hw (As := [.int p1]) (rest := [.ref (ad 0 0)]) (wX9_isSession l D Y ad F p1 σ) qyX9_isSession kw_1343 ⟨Nat.le_of_ble_eq_true rfl, Nat.le_of_ble_eq_true rfl⟩ dM_0 rfl rfl rfl rfl hl.1 (Nat.le_of_ble_eq_true rfl) dX9_sync_3 ⟨Nat.le_refl _, Nat.le_refl _⟩ rfl hf (fun v2 s1 H locs hw hf => ?_)
  refine lv_if_ne (tgt := 13) S0.1 S0.2.1 dX9_sync_6 (by decide) (fun c3 => ?_) (fun c3 => ?_)
  · replace hf := q_neg c3 hf
    refine lv_aload_n S0.1 S0.2.1 dX9_sync_13 rfl (lv_at hl 0 rfl) ?_
    refine lv_iload_n S0.1 S0.2.1 dX9_sync_14 rfl (lv_at hl 1 rfl) ?_
    refine q_calli S0 hw (As := [.int p1]) (rest := [.ref (ad 0 0)]) (wX9_ended l D Y ad F p1 s1) qyX9_ended kw_1347 ⟨Nat.le_of_ble_eq_true rfl, Nat.le_of_ble_eq_true rfl⟩ dM_0 rfl rfl rfl rfl hl.1 (Nat.le_of_ble_eq_true rfl) dX9_sync_15 ⟨Nat.le_refl _, Nat.le_refl _⟩ rfl hf (fun v5 s4 H locs hw hf => ?_)
    refine lv_if_eq (tgt := 25) S0.1 S0.2.1 dX9_sync_18 (by decide) (fun c6 => ?_) (fun c6 => ?_)
    · replace hf := q_pos c6 hf
      refine lv_iconst (v := 0) S0.1 S0.2.1 dX9_sync_25 (by decide) ?_
      exact b26 p1 0 s4 hf _ _ _ hw (lv_sub hl [0, 1] rfl)
    · replace hf := q_neg c6 hf
      refine lv_iconst (v := 2) S0.1 S0.2.1 dX9_sync_21 (by decide) ?_
      refine lv_goto (tgt := 26) S0.1 S0.2.1 dX9_sync_22 (by decide) ?_
      exact b26 p1 2 s4 hf _ _ _ hw (lv_sub hl [0, 1] rfl)
  · replace hf := q_pos c3 hf
    refine lv_iconst (v := 1) S0.1 S0.2.1 dX9_sync_9 (by decide) ?_
    refine lv_goto (tgt := 26) S0.1 S0.2.1 dX9_sync_10 (by decide) ?_
    exact b26 p1 1 s1 hf _ _ _ hw (lv_sub hl [0, 1] rfl)
def fX9_follow_66 (F : Nat) (x1 : Int32) (x3 : Int32) (t0 : Int32) (σ : qS) : Option (Int32 × qS) :=
  bnd (fX9_follows F x1 t0 σ) fun s15 => (nm (t0 - x3) fun v16 => (some (v16, s15)))
def fX9_follow_31 (F : Nat) (x1 : Int32) (x2 : Int32) (t1 : Int32) (σ : qS) : Option (Int32 × qS) :=
  bnd2 (fX9_holds F t1 σ) fun v8 s7 => (if v8 = 0 then (ldi 3 (s7.1 130 0) x1 fun v10 => (nm (v10 + x2) fun v11 => (nm (s7.1 0 0 26) fun v12 => (if v11 ≤ v12 then (nm (v10 + x2) fun v14 => (fX9_follow_66 F x1 v10 v14 s7)) else (nm (s7.1 0 0 26) fun v17 => (fX9_follow_66 F x1 v10 v17 s7)))))) else (some ((-1), s7)))
def fX9_follow (F : Nat) (p1 : Int32) (p2 : Int32) (σ : qS) : Option (Int32 × qS) :=
  bnd2 (fX9_in F p1 0 2 σ) fun v2 s1 => (if v2 = 0 then (fX9_follow_31 F p1 p2 1 s1) else (bnd2 (fX9_in F p2 1 20 s1) fun v5 s4 => (if v5 = 0 then (fX9_follow_31 F p1 p2 2 s4) else (fX9_follow_31 F p1 p2 0 s4))))
set_option maxRecDepth 100000 in
set_option maxHeartbeats 4000000 in
theorem wX9_follow (l : Launch) (D : va_G) (Y : Nat → ClassId) (ad : qAd) (F : Nat) (p1 : Int32) (p2 : Int32) (σ : qS) : qCi l yX9_follow cX9_follow 5 (some .int) 4 97 D (mL Y) (qT Y) ad [.ref (ad 0 0), .int p1, .int p2] σ (fX9_follow F p1 p2 σ) := by
  refine q_ofi (by decide) (Nat.le_of_ble_eq_true rfl) "LeasehallModel" rfl (fun p e s m below meth c A Q r0 S0 hf hw hret ls hl => ?_)
  replace hl : lv_has ls 5 [(0, .ref (ad 0 0)), (1, .int p1), (2, .int p2)] := hl
  unfold fX9_follow at hf
  have b66 : ∀ (x1 : Int32) (x3 : Int32) (t0 : Int32) (σ : qS), fX9_follow_66 F x1 x3 t0 σ = some r0 → qAt p l e (qRm 4 97) s m ([.ref (ad 0 0), .int p1, .int p2] : List Value).toArray below meth c Q D (mL Y) (qT Y) A ad 5 0 0 66 [(0, .ref (ad 0 0)), (1, .int x1), (3, .int x3)] [.int t0] σ := by
    clear hf hw hl ls
    intro x1 x3 t0 σ hf H locs ls hw hl
    unfold fX9_follow_66 at hf
    refine lv_istore (lv' := [(4, .int t0), (0, .ref (ad 0 0)), (1, .int x1), (3, .int x3)]) S0.1 S0.2.1 dX9_follow_66 hl (by decide) rfl (fun ls hl => ?_)
    refine lv_aload_n S0.1 S0.2.1 dX9_follow_68 rfl (lv_at hl 1 rfl) ?_
    refine lv_iload_n S0.1 S0.2.1 dX9_follow_69 rfl (lv_at hl 2 rfl) ?_
    refine lv_iload S0.1 S0.2.1 dX9_follow_70 (lv_at hl 0 rfl) ?_
    refine q_callv S0 hw (As := [.int x1, .int t0]) (rest := []) (wX9_follows l D Y ad F x1 t0 σ) qyX9_follows kw_1391 ⟨Nat.le_of_ble_eq_true rfl, Nat.le_of_ble_eq_true rfl⟩ dM_0 rfl rfl rfl rfl hl.1 (Nat.le_of_ble_eq_true rfl) dX9_follow_72 ⟨Nat.le_refl _, Nat.le_refl _⟩ rfl hf (fun s15 H locs hw hf => ?_)
    refine lv_iload S0.1 S0.2.1 dX9_follow_75 (lv_at hl 0 rfl) ?_
    refine lv_iload_n S0.1 S0.2.1 dX9_follow_77 rfl (lv_at hl 3 rfl) ?_
    refine lv_isub S0.1 S0.2.1 dX9_follow_78 (q_top hf (fun v16 hf => ?_))
    exact hret dX9_follow_79 hw hf
  have b31 : ∀ (x1 : Int32) (x2 : Int32) (t1 : Int32) (σ : qS), fX9_follow_31 F x1 x2 t1 σ = some r0 → qAt p l e (qRm 4 97) s m ([.ref (ad 0 0), .int p1, .int p2] : List Value).toArray below meth c Q D (mL Y) (qT Y) A ad 5 0 0 31 [(0, .ref (ad 0 0)), (1, .int x1), (2, .int x2)] [.int t1, .ref (ad 0 0)] σ := by
    clear hf hw hl ls
    intro x1 x2 t1 σ hf H locs ls hw hl
    unfold fX9_follow_31 at hf
    refine q_calli S0 hw (As := [.int t1]) (rest := []) (wX9_holds l D Y ad F t1 σ) qyX9_holds kw_1335 ⟨Nat.le_of_ble_eq_true rfl, Nat.le_of_ble_eq_true rfl⟩ dM_0 rfl rfl rfl rfl hl.1 (Nat.le_of_ble_eq_true rfl) dX9_follow_31 ⟨Nat.le_refl _, Nat.le_refl _⟩ rfl hf (fun v8 s7 H locs hw hf => ?_)
    refine lv_if_eq (tgt := 39) S0.1 S0.2.1 dX9_follow_34 (by decide) (fun c9 => ?_) (fun c9 => ?_)
    · replace hf := q_pos c9 hf
      refine lv_aload_n S0.1 S0.2.1 dX9_follow_39 rfl (lv_at hl 0 rfl) ?_
      refine gX9_got S0 hw kw_1178 dX9_follow_40 ?_
      refine lv_iload_n S0.1 S0.2.1 dX9_follow_43 rfl (lv_at hl 1 rfl) ?_
      refine q_iald S0 hw dM_130 (t0 := 0) rfl rfl dX9_follow_44 hf (fun v10 hf => ?_)
      refine lv_istore_n (lv' := [(3, .int v10), (0, .ref (ad 0 0)), (1, .int x1), (2, .int x2)]) S0.1 S0.2.1 dX9_follow_45 rfl hl (by decide) rfl (fun ls hl => ?_)
      refine lv_iload_n S0.1 S0.2.1 dX9_follow_46 rfl (lv_at hl 0 rfl) ?_
      refine lv_iload_n S0.1 S0.2.1 dX9_follow_47 rfl (lv_at hl 3 rfl) ?_
      refine lv_iadd S0.1 S0.2.1 dX9_follow_48 (q_top hf (fun v11 hf => ?_))
      refine lv_aload_n S0.1 S0.2.1 dX9_follow_49 rfl (lv_at hl 1 rfl) ?_
      refine gX9_last S0 hw kw_1174 dX9_follow_50 hf (fun v12 hf => ?_)
      refine lv_icmp_le (tgt := 63) S0.1 S0.2.1 dX9_follow_53 (by decide) (fun c13 => ?_) (fun c13 => ?_)
      · replace hf := q_pos c13 hf
        refine lv_iload_n S0.1 S0.2.1 dX9_follow_63 rfl (lv_at hl 0 rfl) ?_
        refine lv_iload_n S0.1 S0.2.1 dX9_follow_64 rfl (lv_at hl 3 rfl) ?_
        refine lv_iadd S0.1 S0.2.1 dX9_follow_65 (q_top hf (fun v14 hf => ?_))
        exact b66 x1 v10 v14 s7 hf _ _ _ hw (lv_sub hl [1, 2, 0] rfl)
      · replace hf := q_neg c13 hf
        refine lv_aload_n S0.1 S0.2.1 dX9_follow_56 rfl (lv_at hl 1 rfl) ?_
        refine gX9_last S0 hw kw_1174 dX9_follow_57 hf (fun v17 hf => ?_)
        refine lv_goto (tgt := 66) S0.1 S0.2.1 dX9_follow_60 (by decide) ?_
        exact b66 x1 v10 v17 s7 hf _ _ _ hw (lv_sub hl [1, 2, 0] rfl)
    · replace hf := q_neg c9 hf
      refine lv_iconst (v := (-1)) S0.1 S0.2.1 dX9_follow_37 (by decide) ?_
      exact hret dX9_follow_38 hw hf
  refine lv_aload_n S0.1 S0.2.1 dX9_follow_0 rfl (lv_at hl 0 rfl) ?_
  refine lv_aload_n S0.1 S0.2.1 dX9_follow_1 rfl (lv_at hl 0 rfl) ?_
  refine lv_iload_n S0.1 S0.2.1 dX9_follow_2 rfl (lv_at hl 1 rfl) ?_
  refine lv_iconst (v := 0) S0.1 S0.2.1 dX9_follow_3 (by decide) ?_
  refine lv_iconst (v := 2) S0.1 S0.2.1 dX9_follow_4 (by decide) ?_
  refine q_calli S0 hw (As := [.int p1, .int 0, .int 2]) (rest := [.ref (ad 0 0)]) (wX9_in l D Y ad F p1 0 2 σ) qyX9_in kw_1331 ⟨Nat.le_of_ble_eq_true rfl, Nat.le_of_ble_eq_true rfl⟩ dM_0 rfl rfl rfl rfl hl.1 (Nat.le_of_ble_eq_true rfl) dX9_follow_5 ⟨Nat.le_refl _, Nat.le_refl _⟩ rfl hf (fun v2 s1 H locs hw hf => ?_)
  refine lv_if_ne (tgt := 15) S0.1 S0.2.1 dX9_follow_8 (by decide) (fun c3 => ?_) (fun c3 => ?_)
  · replace hf := q_neg c3 hf
    refine lv_aload_n S0.1 S0.2.1 dX9_follow_15 rfl (lv_at hl 0 rfl) ?_
    refine lv_iload_n S0.1 S0.2.1 dX9_follow_16 rfl (lv_at hl 2 rfl) ?_
    refine lv_iconst (v := 1) S0.1 S0.2.1 dX9_follow_17 (by decide) ?_
    refine lv_bipush (v := 20) S0.1 S0.2.1 dX9_follow_18 (by decide) ?_
    refine q_calli S0 hw (As := [.int p2, .int 1, .int 20]) (rest := [.ref (ad 0 0)]) (wX9_in l D Y ad F p2 1 20 s1) qyX9_in kw_1331 ⟨Nat.le_of_ble_eq_true rfl, Nat.le_of_ble_eq_true rfl⟩ dM_0 rfl rfl rfl rfl hl.1 (Nat.le_of_ble_eq_true rfl) dX9_follow_20 ⟨Nat.le_refl _, Nat.le_refl _⟩ rfl hf (fun v5 s4 H locs hw hf => ?_)
    refine lv_if_eq (tgt := 30) S0.1 S0.2.1 dX9_follow_23 (by decide) (fun c6 => ?_) (fun c6 => ?_)
    · replace hf := q_pos c6 hf
      refine lv_iconst (v := 2) S0.1 S0.2.1 dX9_follow_30 (by decide) ?_
      exact b31 p1 p2 2 s4 hf _ _ _ hw (lv_sub hl [0, 1, 2] rfl)
    · replace hf := q_neg c6 hf
      refine lv_iconst (v := 0) S0.1 S0.2.1 dX9_follow_26 (by decide) ?_
      refine lv_goto (tgt := 31) S0.1 S0.2.1 dX9_follow_27 (by decide) ?_
      exact b31 p1 p2 0 s4 hf _ _ _ hw (lv_sub hl [0, 1, 2] rfl)
  · replace hf := q_pos c3 hf
    refine lv_iconst (v := 1) S0.1 S0.2.1 dX9_follow_11 (by decide) ?_
    refine lv_goto (tgt := 31) S0.1 S0.2.1 dX9_follow_12 (by decide) ?_
    exact b31 p1 p2 1 s1 hf _ _ _ hw (lv_sub hl [0, 1, 2] rfl)
def fX9_pass_148 (F : Nat) (k27 : Int32 → Int32 → qS → Option (Int32 × qS)) (k96 : Int32 → Int32 → Int32 → qS → Option (Int32 × qS)) (x1 : Int32) (x2 : Int32) (x3 : Int32) (σ : qS) : Option (Int32 × qS) :=
  nm (x3 + 1) fun v19 => (k96 x1 x2 v19 σ)
def fX9_pass_96 (F : Nat) (k27 : Int32 → Int32 → qS → Option (Int32 × qS)) : Nat → Int32 → Int32 → Int32 → qS → Option (Int32 × qS)
  | 0, _, _, _, _ => none
  | n + 1, x1, x2, x3, σ =>
  nm (σ.1 0 0 52) fun v14 => (if v14 ≤ x3 then (nm (x2 + 1) fun v16 => (k27 x1 v16 σ)) else (ldi 10 (σ.1 151 0) x3 fun v17 => (if v17 = 0 then (nm (σ.1 0 0 53) fun v20 => (ldi 10 (σ.1 150 0) x3 fun v21 => (nm (v20 - v21) fun v22 => (ldi 10 (σ.1 149 0) x3 fun v23 => (if v22 < v23 then (fX9_pass_148 F k27 (fX9_pass_96 F k27 n) x1 x2 x3 σ) else (inx 10 x3 (nm (qI σ 151 0 x3.toNatClampNeg 1) fun s25 => (bnd2 (fX9_ends F 2 x3 s25) fun v27 s26 => (fX9_pass_148 F k27 (fX9_pass_96 F k27 n) x1 x2 x3 s26))))))))) else (fX9_pass_148 F k27 (fX9_pass_96 F k27 n) x1 x2 x3 σ))))
def fX9_pass_88 (F : Nat) (k27 : Int32 → Int32 → qS → Option (Int32 × qS)) (k44 : Int32 → Int32 → Int32 → qS → Option (Int32 × qS)) (x1 : Int32) (x2 : Int32) (x3 : Int32) (σ : qS) : Option (Int32 × qS) :=
  nm (x3 + 1) fun v30 => (k44 x1 x2 v30 σ)
def fX9_pass_44 (F : Nat) (k27 : Int32 → Int32 → qS → Option (Int32 × qS)) : Nat → Int32 → Int32 → Int32 → qS → Option (Int32 × qS)
  | 0, _, _, _, _ => none
  | n + 1, x1, x2, x3, σ =>
  nm (σ.1 0 0 48) fun v12 => (if v12 ≤ x3 then (fX9_pass_96 F k27 F x1 x2 0 σ) else (ldi 10 (σ.1 135 0) x3 fun v28 => (if v28 = 0 then (nm (σ.1 0 0 53) fun v31 => (ldi 10 (σ.1 134 0) x3 fun v32 => (nm (v31 - v32) fun v33 => (ldi 10 (σ.1 133 0) x3 fun v34 => (if v33 < v34 then (fX9_pass_88 F k27 (fX9_pass_44 F k27 n) x1 x2 x3 σ) else (bnd2 (fX9_stop F x3 σ) fun v37 s36 => (fX9_pass_88 F k27 (fX9_pass_44 F k27 n) x1 x2 x3 s36))))))) else (fX9_pass_88 F k27 (fX9_pass_44 F k27 n) x1 x2 x3 σ))))
def fX9_pass_27 (F : Nat) : Nat → Int32 → Int32 → qS → Option (Int32 × qS)
  | 0, _, _, _ => none
  | n + 1, x1, x2, σ =>
  if x1 ≤ x2 then (nm (σ.1 0 0 53) fun v8 => (some (v8, σ))) else (nm (σ.1 0 0 53) fun v9 => (nm (v9 + 1) fun v10 => (nm (qI σ 0 0 53 v10) fun s11 => (fX9_pass_44 F (fX9_pass_27 F n) F x1 x2 0 s11))))
def fX9_pass_17 (F : Nat) (x1 : Int32) (t1 : Int32) (σ : qS) : Option (Int32 × qS) :=
  bnd2 (fX9_holds F t1 σ) fun v5 s4 => (if v5 = 0 then (fX9_pass_27 F F x1 0 s4) else (some ((-1), s4)))
def fX9_pass (F : Nat) (p1 : Int32) (σ : qS) : Option (Int32 × qS) :=
  bnd2 (fX9_in F p1 1 50 σ) fun v2 s1 => (if v2 = 0 then (fX9_pass_17 F p1 1 s1) else (fX9_pass_17 F p1 0 s1))
set_option maxRecDepth 100000 in
set_option maxHeartbeats 4000000 in
theorem wX9_pass (l : Launch) (D : va_G) (Y : Nat → ClassId) (ad : qAd) (F : Nat) (p1 : Int32) (σ : qS) : qCi l yX9_pass cX9_pass 5 (some .int) 7 162 D (mL Y) (qT Y) ad [.ref (ad 0 0), .int p1] σ (fX9_pass F p1 σ) := by
  refine q_ofi (by decide) (Nat.le_of_ble_eq_true rfl) "LeasehallModel" rfl (fun p e s m below meth c A Q r0 S0 hf hw hret ls hl => ?_)
  replace hl : lv_has ls 5 [(0, .ref (ad 0 0)), (1, .int p1)] := hl
  unfold fX9_pass at hf
  have b148 : ∀ (k27 : Int32 → Int32 → qS → Option (Int32 × qS)) (hk27 : ∀ (x1 : Int32) (x2 : Int32) (σ : qS), k27 x1 x2 σ = some r0 → qAt p l e (qRm 7 162) s m ([.ref (ad 0 0), .int p1] : List Value).toArray below meth c Q D (mL Y) (qT Y) A ad 5 0 0 27 [(0, .ref (ad 0 0)), (1, .int x1), (2, .int x2)] [] σ) (k96 : Int32 → Int32 → Int32 → qS → Option (Int32 × qS)) (hk96 : ∀ (x1 : Int32) (x2 : Int32) (x3 : Int32) (σ : qS), k96 x1 x2 x3 σ = some r0 → qAt p l e (qRm 7 162) s m ([.ref (ad 0 0), .int p1] : List Value).toArray below meth c Q D (mL Y) (qT Y) A ad 5 0 0 96 [(0, .ref (ad 0 0)), (1, .int x1), (2, .int x2), (3, .int x3)] [] σ) (x1 : Int32) (x2 : Int32) (x3 : Int32) (σ : qS), fX9_pass_148 F k27 k96 x1 x2 x3 σ = some r0 → qAt p l e (qRm 7 162) s m ([.ref (ad 0 0), .int p1] : List Value).toArray below meth c Q D (mL Y) (qT Y) A ad 5 0 0 148 [(0, .ref (ad 0 0)), (1, .int x1), (2, .int x2), (3, .int x3)] [] σ := by
    clear hf hw hl ls
    intro k27 hk27 k96 hk96
    intro x1 x2 x3 σ hf H locs ls hw hl
    unfold fX9_pass_148 at hf
    refine q_iinc S0 (v0 := 1) dX9_pass_148 hl (k := 3) rfl (by decide) (by decide) rfl hf (fun v19 ls hl hf => ?_)
    refine lv_goto (tgt := 96) S0.1 S0.2.1 dX9_pass_151 (by decide) ?_
    exact hk96 x1 x2 v19 σ hf _ _ _ hw (lv_sub hl [1, 2, 3, 0] rfl)
  have b96 : ∀ (k27 : Int32 → Int32 → qS → Option (Int32 × qS)) (hk27 : ∀ (x1 : Int32) (x2 : Int32) (σ : qS), k27 x1 x2 σ = some r0 → qAt p l e (qRm 7 162) s m ([.ref (ad 0 0), .int p1] : List Value).toArray below meth c Q D (mL Y) (qT Y) A ad 5 0 0 27 [(0, .ref (ad 0 0)), (1, .int x1), (2, .int x2)] [] σ) (n : Nat) (x1 : Int32) (x2 : Int32) (x3 : Int32) (σ : qS), fX9_pass_96 F k27 n x1 x2 x3 σ = some r0 → qAt p l e (qRm 7 162) s m ([.ref (ad 0 0), .int p1] : List Value).toArray below meth c Q D (mL Y) (qT Y) A ad 5 0 0 96 [(0, .ref (ad 0 0)), (1, .int x1), (2, .int x2), (3, .int x3)] [] σ := by
    clear hf hw hl ls
    intro k27 hk27
    intro n
    induction n with
    | zero => intro x1 x2 x3 σ hf; exact absurd hf (by rw [fX9_pass_96]; exact nofun)
    | succ n hk96 =>
      intro x1 x2 x3 σ hf H locs ls hw hl
      rw [fX9_pass_96] at hf
      refine lv_iload_n S0.1 S0.2.1 dX9_pass_96 rfl (lv_at hl 3 rfl) ?_
      refine lv_aload_n S0.1 S0.2.1 dX9_pass_97 rfl (lv_at hl 0 rfl) ?_
      refine gX9_leases S0 hw kw_1200 dX9_pass_98 hf (fun v14 hf => ?_)
      refine lv_icmp_ge (tgt := 154) S0.1 S0.2.1 dX9_pass_101 (by decide) (fun c15 => ?_) (fun c15 => ?_)
      · replace hf := q_pos c15 hf
        refine q_iinc S0 (v0 := 1) dX9_pass_154 hl (k := 2) rfl (by decide) (by decide) rfl hf (fun v16 ls hl hf => ?_)
        refine lv_goto (tgt := 27) S0.1 S0.2.1 dX9_pass_157 (by decide) ?_
        exact hk27 x1 v16 σ hf _ _ _ hw (lv_sub hl [1, 2, 0] rfl)
      · replace hf := q_neg c15 hf
        refine lv_aload_n S0.1 S0.2.1 dX9_pass_104 rfl (lv_at hl 0 rfl) ?_
        refine gX9_le S0 hw kw_1199 dX9_pass_105 ?_
        refine lv_iload_n S0.1 S0.2.1 dX9_pass_108 rfl (lv_at hl 3 rfl) ?_
        refine q_iald S0 hw dM_151 (t0 := 0) rfl rfl dX9_pass_109 hf (fun v17 hf => ?_)
        refine lv_if_ne (tgt := 148) S0.1 S0.2.1 dX9_pass_110 (by decide) (fun c18 => ?_) (fun c18 => ?_)
        · replace hf := q_neg c18 hf
          exact b148 k27 hk27 (fX9_pass_96 F k27 n) hk96 x1 x2 x3 σ hf _ _ _ hw (lv_sub hl [0, 1, 2, 3] rfl)
        · replace hf := q_pos c18 hf
          refine lv_aload_n S0.1 S0.2.1 dX9_pass_113 rfl (lv_at hl 0 rfl) ?_
          refine gX9_time S0 hw kw_1201 dX9_pass_114 hf (fun v20 hf => ?_)
          refine lv_aload_n S0.1 S0.2.1 dX9_pass_117 rfl (lv_at hl 0 rfl) ?_
          refine gX9_lr S0 hw kw_1198 dX9_pass_118 ?_
          refine lv_iload_n S0.1 S0.2.1 dX9_pass_121 rfl (lv_at hl 3 rfl) ?_
          refine q_iald S0 hw dM_150 (t0 := 0) rfl rfl dX9_pass_122 hf (fun v21 hf => ?_)
          refine lv_isub S0.1 S0.2.1 dX9_pass_123 (q_top hf (fun v22 hf => ?_))
          refine lv_aload_n S0.1 S0.2.1 dX9_pass_124 rfl (lv_at hl 0 rfl) ?_
          refine gX9_lt S0 hw kw_1197 dX9_pass_125 ?_
          refine lv_iload_n S0.1 S0.2.1 dX9_pass_128 rfl (lv_at hl 3 rfl) ?_
          refine q_iald S0 hw dM_149 (t0 := 0) rfl rfl dX9_pass_129 hf (fun v23 hf => ?_)
          refine lv_icmp_lt (tgt := 148) S0.1 S0.2.1 dX9_pass_130 (by decide) (fun c24 => ?_) (fun c24 => ?_)
          · replace hf := q_pos c24 hf
            exact b148 k27 hk27 (fX9_pass_96 F k27 n) hk96 x1 x2 x3 σ hf _ _ _ hw (lv_sub hl [0, 1, 2, 3] rfl)
          · replace hf := q_neg c24 hf
            refine lv_aload_n S0.1 S0.2.1 dX9_pass_133 rfl (lv_at hl 0 rfl) ?_
            refine gX9_le S0 hw kw_1199 dX9_pass_134 ?_
            refine lv_iload_n S0.1 S0.2.1 dX9_pass_137 rfl (lv_at hl 3 rfl) ?_
            refine lv_iconst (v := 1) S0.1 S0.2.1 dX9_pass_138 (by decide) ?_
            refine q_iast S0 hw dM_151 (t0 := 0) (fun _ => rfl) rfl dX9_pass_139 hf (fun s25 H locs hw hf => ?_)
            refine lv_aload_n S0.1 S0.2.1 dX9_pass_140 rfl (lv_at hl 0 rfl) ?_
            refine lv_iconst (v := 2) S0.1 S0.2.1 dX9_pass_141 (by decide) ?_
            refine lv_iload_n S0.1 S0.2.1 dX9_pass_142 rfl (lv_at hl 3 rfl) ?_
            refine q_calli S0 hw (As := [.int 2, .int x3]) (rest := []) (wX9_ends l D Y ad F 2 x3 s25) qyX9_ends kw_1355 ⟨Nat.le_of_ble_eq_true rfl, Nat.le_of_ble_eq_true rfl⟩ dM_0 rfl rfl rfl rfl hl.1 (Nat.le_of_ble_eq_true rfl) dX9_pass_143 ⟨Nat.le_refl _, Nat.le_refl _⟩ rfl hf (fun v27 s26 H locs hw hf => ?_)
            refine lv_istore (lv' := [(4, .int v27), (0, .ref (ad 0 0)), (1, .int x1), (2, .int x2), (3, .int x3)]) S0.1 S0.2.1 dX9_pass_146 hl (by decide) rfl (fun ls hl => ?_)
            exact b148 k27 hk27 (fX9_pass_96 F k27 n) hk96 x1 x2 x3 s26 hf _ _ _ hw (lv_sub hl [1, 2, 3, 4] rfl)
  have b88 : ∀ (k27 : Int32 → Int32 → qS → Option (Int32 × qS)) (hk27 : ∀ (x1 : Int32) (x2 : Int32) (σ : qS), k27 x1 x2 σ = some r0 → qAt p l e (qRm 7 162) s m ([.ref (ad 0 0), .int p1] : List Value).toArray below meth c Q D (mL Y) (qT Y) A ad 5 0 0 27 [(0, .ref (ad 0 0)), (1, .int x1), (2, .int x2)] [] σ) (k44 : Int32 → Int32 → Int32 → qS → Option (Int32 × qS)) (hk44 : ∀ (x1 : Int32) (x2 : Int32) (x3 : Int32) (σ : qS), k44 x1 x2 x3 σ = some r0 → qAt p l e (qRm 7 162) s m ([.ref (ad 0 0), .int p1] : List Value).toArray below meth c Q D (mL Y) (qT Y) A ad 5 0 0 44 [(0, .ref (ad 0 0)), (1, .int x1), (2, .int x2), (3, .int x3)] [] σ) (x1 : Int32) (x2 : Int32) (x3 : Int32) (σ : qS), fX9_pass_88 F k27 k44 x1 x2 x3 σ = some r0 → qAt p l e (qRm 7 162) s m ([.ref (ad 0 0), .int p1] : List Value).toArray below meth c Q D (mL Y) (qT Y) A ad 5 0 0 88 [(0, .ref (ad 0 0)), (1, .int x1), (2, .int x2), (3, .int x3)] [] σ := by
    clear hf hw hl ls
    intro k27 hk27 k44 hk44
    intro x1 x2 x3 σ hf H locs ls hw hl
    unfold fX9_pass_88 at hf
    refine q_iinc S0 (v0 := 1) dX9_pass_88 hl (k := 3) rfl (by decide) (by decide) rfl hf (fun v30 ls hl hf => ?_)
    refine lv_goto (tgt := 44) S0.1 S0.2.1 dX9_pass_91 (by decide) ?_
    exact hk44 x1 x2 v30 σ hf _ _ _ hw (lv_sub hl [1, 2, 3, 0] rfl)
  have b44 : ∀ (k27 : Int32 → Int32 → qS → Option (Int32 × qS)) (hk27 : ∀ (x1 : Int32) (x2 : Int32) (σ : qS), k27 x1 x2 σ = some r0 → qAt p l e (qRm 7 162) s m ([.ref (ad 0 0), .int p1] : List Value).toArray below meth c Q D (mL Y) (qT Y) A ad 5 0 0 27 [(0, .ref (ad 0 0)), (1, .int x1), (2, .int x2)] [] σ) (n : Nat) (x1 : Int32) (x2 : Int32) (x3 : Int32) (σ : qS), fX9_pass_44 F k27 n x1 x2 x3 σ = some r0 → qAt p l e (qRm 7 162) s m ([.ref (ad 0 0), .int p1] : List Value).toArray below meth c Q D (mL Y) (qT Y) A ad 5 0 0 44 [(0, .ref (ad 0 0)), (1, .int x1), (2, .int x2), (3, .int x3)] [] σ := by
    clear hf hw hl ls
    intro k27 hk27
    intro n
    induction n with
    | zero => intro x1 x2 x3 σ hf; exact absurd hf (by rw [fX9_pass_44]; exact nofun)
    | succ n hk44 =>
      intro x1 x2 x3 σ hf H locs ls hw hl
      rw [fX9_pass_44] at hf
      refine lv_iload_n S0.1 S0.2.1 dX9_pass_44 rfl (lv_at hl 3 rfl) ?_
      refine lv_aload_n S0.1 S0.2.1 dX9_pass_45 rfl (lv_at hl 0 rfl) ?_
      refine gX9_sessions S0 hw kw_1196 dX9_pass_46 hf (fun v12 hf => ?_)
      refine lv_icmp_ge (tgt := 94) S0.1 S0.2.1 dX9_pass_49 (by decide) (fun c13 => ?_) (fun c13 => ?_)
      · replace hf := q_pos c13 hf
        refine lv_iconst (v := 0) S0.1 S0.2.1 dX9_pass_94 (by decide) ?_
        refine lv_istore_n (lv' := [(3, .int 0), (0, .ref (ad 0 0)), (1, .int x1), (2, .int x2)]) S0.1 S0.2.1 dX9_pass_95 rfl hl (by decide) rfl (fun ls hl => ?_)
        exact b96 k27 hk27 F x1 x2 0 σ hf _ _ _ hw (lv_sub hl [1, 2, 3, 0] rfl)
      · replace hf := q_neg c13 hf
        refine lv_aload_n S0.1 S0.2.1 dX9_pass_52 rfl (lv_at hl 0 rfl) ?_
        refine gX9_ze S0 hw kw_1183 dX9_pass_53 ?_
        refine lv_iload_n S0.1 S0.2.1 dX9_pass_56 rfl (lv_at hl 3 rfl) ?_
        refine q_iald S0 hw dM_135 (t0 := 0) rfl rfl dX9_pass_57 hf (fun v28 hf => ?_)
        refine lv_if_ne (tgt := 88) S0.1 S0.2.1 dX9_pass_58 (by decide) (fun c29 => ?_) (fun c29 => ?_)
        · replace hf := q_neg c29 hf
          exact b88 k27 hk27 (fX9_pass_44 F k27 n) hk44 x1 x2 x3 σ hf _ _ _ hw (lv_sub hl [0, 1, 2, 3] rfl)
        · replace hf := q_pos c29 hf
          refine lv_aload_n S0.1 S0.2.1 dX9_pass_61 rfl (lv_at hl 0 rfl) ?_
          refine gX9_time S0 hw kw_1201 dX9_pass_62 hf (fun v31 hf => ?_)
          refine lv_aload_n S0.1 S0.2.1 dX9_pass_65 rfl (lv_at hl 0 rfl) ?_
          refine gX9_zl S0 hw kw_1182 dX9_pass_66 ?_
          refine lv_iload_n S0.1 S0.2.1 dX9_pass_69 rfl (lv_at hl 3 rfl) ?_
          refine q_iald S0 hw dM_134 (t0 := 0) rfl rfl dX9_pass_70 hf (fun v32 hf => ?_)
          refine lv_isub S0.1 S0.2.1 dX9_pass_71 (q_top hf (fun v33 hf => ?_))
          refine lv_aload_n S0.1 S0.2.1 dX9_pass_72 rfl (lv_at hl 0 rfl) ?_
          refine gX9_zt S0 hw kw_1181 dX9_pass_73 ?_
          refine lv_iload_n S0.1 S0.2.1 dX9_pass_76 rfl (lv_at hl 3 rfl) ?_
          refine q_iald S0 hw dM_133 (t0 := 0) rfl rfl dX9_pass_77 hf (fun v34 hf => ?_)
          refine lv_icmp_lt (tgt := 88) S0.1 S0.2.1 dX9_pass_78 (by decide) (fun c35 => ?_) (fun c35 => ?_)
          · replace hf := q_pos c35 hf
            exact b88 k27 hk27 (fX9_pass_44 F k27 n) hk44 x1 x2 x3 σ hf _ _ _ hw (lv_sub hl [0, 1, 2, 3] rfl)
          · replace hf := q_neg c35 hf
            refine lv_aload_n S0.1 S0.2.1 dX9_pass_81 rfl (lv_at hl 0 rfl) ?_
            refine lv_iload_n S0.1 S0.2.1 dX9_pass_82 rfl (lv_at hl 3 rfl) ?_
            refine q_calli S0 hw (As := [.int x3]) (rest := []) (wX9_stop l D Y ad F x3 σ) qyX9_stop kw_1351 ⟨Nat.le_of_ble_eq_true rfl, Nat.le_of_ble_eq_true rfl⟩ dM_0 rfl rfl rfl rfl hl.1 (Nat.le_of_ble_eq_true rfl) dX9_pass_83 ⟨Nat.le_refl _, Nat.le_refl _⟩ rfl hf (fun v37 s36 H locs hw hf => ?_)
            refine lv_istore (lv' := [(4, .int v37), (0, .ref (ad 0 0)), (1, .int x1), (2, .int x2), (3, .int x3)]) S0.1 S0.2.1 dX9_pass_86 hl (by decide) rfl (fun ls hl => ?_)
            exact b88 k27 hk27 (fX9_pass_44 F k27 n) hk44 x1 x2 x3 s36 hf _ _ _ hw (lv_sub hl [1, 2, 3, 4] rfl)
  have b27 : ∀ (n : Nat) (x1 : Int32) (x2 : Int32) (σ : qS), fX9_pass_27 F n x1 x2 σ = some r0 → qAt p l e (qRm 7 162) s m ([.ref (ad 0 0), .int p1] : List Value).toArray below meth c Q D (mL Y) (qT Y) A ad 5 0 0 27 [(0, .ref (ad 0 0)), (1, .int x1), (2, .int x2)] [] σ := by
    clear hf hw hl ls
    intro n
    induction n with
    | zero => intro x1 x2 σ hf; exact absurd hf (by rw [fX9_pass_27]; exact nofun)
    | succ n hk27 =>
      intro x1 x2 σ hf H locs ls hw hl
      rw [fX9_pass_27] at hf
      refine lv_iload_n S0.1 S0.2.1 dX9_pass_27 rfl (lv_at hl 2 rfl) ?_
      refine lv_iload_n S0.1 S0.2.1 dX9_pass_28 rfl (lv_at hl 1 rfl) ?_
      refine lv_icmp_ge (tgt := 160) S0.1 S0.2.1 dX9_pass_29 (by decide) (fun c7 => ?_) (fun c7 => ?_)
      · replace hf := q_pos c7 hf
        refine lv_aload_n S0.1 S0.2.1 dX9_pass_160 rfl (lv_at hl 0 rfl) ?_
        refine gX9_time S0 hw kw_1201 dX9_pass_161 hf (fun v8 hf => ?_)
        exact hret dX9_pass_164 hw hf
      · replace hf := q_neg c7 hf
        refine lv_aload_n S0.1 S0.2.1 dX9_pass_32 rfl (lv_at hl 0 rfl) ?_
        refine lv_dup S0.1 S0.2.1 dX9_pass_33 rfl ?_
        refine gX9_time S0 hw kw_1201 dX9_pass_34 hf (fun v9 hf => ?_)
        refine lv_iconst (v := 1) S0.1 S0.2.1 dX9_pass_37 (by decide) ?_
        refine lv_iadd S0.1 S0.2.1 dX9_pass_38 (q_top hf (fun v10 hf => ?_))
        refine pX9_time S0 hw kw_1201 dX9_pass_39 hf (fun s11 H locs hw hf => ?_)
        refine lv_iconst (v := 0) S0.1 S0.2.1 dX9_pass_42 (by decide) ?_
        refine lv_istore_n (lv' := [(3, .int 0), (0, .ref (ad 0 0)), (1, .int x1), (2, .int x2)]) S0.1 S0.2.1 dX9_pass_43 rfl hl (by decide) rfl (fun ls hl => ?_)
        exact b44 (fX9_pass_27 F n) hk27 F x1 x2 0 s11 hf _ _ _ hw (lv_sub hl [1, 2, 3, 0] rfl)
  have b17 : ∀ (x1 : Int32) (t1 : Int32) (σ : qS), fX9_pass_17 F x1 t1 σ = some r0 → qAt p l e (qRm 7 162) s m ([.ref (ad 0 0), .int p1] : List Value).toArray below meth c Q D (mL Y) (qT Y) A ad 5 0 0 17 [(0, .ref (ad 0 0)), (1, .int x1)] [.int t1, .ref (ad 0 0)] σ := by
    clear hf hw hl ls
    intro x1 t1 σ hf H locs ls hw hl
    unfold fX9_pass_17 at hf
    refine q_calli S0 hw (As := [.int t1]) (rest := []) (wX9_holds l D Y ad F t1 σ) qyX9_holds kw_1335 ⟨Nat.le_of_ble_eq_true rfl, Nat.le_of_ble_eq_true rfl⟩ dM_0 rfl rfl rfl rfl hl.1 (Nat.le_of_ble_eq_true rfl) dX9_pass_17 ⟨Nat.le_refl _, Nat.le_refl _⟩ rfl hf (fun v5 s4 H locs hw hf => ?_)
    refine lv_if_eq (tgt := 25) S0.1 S0.2.1 dX9_pass_20 (by decide) (fun c6 => ?_) (fun c6 => ?_)
    · replace hf := q_pos c6 hf
      refine lv_iconst (v := 0) S0.1 S0.2.1 dX9_pass_25 (by decide) ?_
      refine lv_istore_n (lv' := [(2, .int 0), (0, .ref (ad 0 0)), (1, .int x1)]) S0.1 S0.2.1 dX9_pass_26 rfl hl (by decide) rfl (fun ls hl => ?_)
      exact b27 F x1 0 s4 hf _ _ _ hw (lv_sub hl [1, 2, 0] rfl)
    · replace hf := q_neg c6 hf
      refine lv_iconst (v := (-1)) S0.1 S0.2.1 dX9_pass_23 (by decide) ?_
      exact hret dX9_pass_24 hw hf
  refine lv_aload_n S0.1 S0.2.1 dX9_pass_0 rfl (lv_at hl 0 rfl) ?_
  refine lv_aload_n S0.1 S0.2.1 dX9_pass_1 rfl (lv_at hl 0 rfl) ?_
  refine lv_iload_n S0.1 S0.2.1 dX9_pass_2 rfl (lv_at hl 1 rfl) ?_
  refine lv_iconst (v := 1) S0.1 S0.2.1 dX9_pass_3 (by decide) ?_
  refine lv_bipush (v := 50) S0.1 S0.2.1 dX9_pass_4 (by decide) ?_
  refine q_calli S0 hw (As := [.int p1, .int 1, .int 50]) (rest := [.ref (ad 0 0)]) (wX9_in l D Y ad F p1 1 50 σ) qyX9_in kw_1331 ⟨Nat.le_of_ble_eq_true rfl, Nat.le_of_ble_eq_true rfl⟩ dM_0 rfl rfl rfl rfl hl.1 (Nat.le_of_ble_eq_true rfl) dX9_pass_6 ⟨Nat.le_refl _, Nat.le_refl _⟩ rfl hf (fun v2 s1 H locs hw hf => ?_)
  refine lv_if_eq (tgt := 16) S0.1 S0.2.1 dX9_pass_9 (by decide) (fun c3 => ?_) (fun c3 => ?_)
  · replace hf := q_pos c3 hf
    refine lv_iconst (v := 1) S0.1 S0.2.1 dX9_pass_16 (by decide) ?_
    exact b17 p1 1 s1 hf _ _ _ hw (lv_sub hl [0, 1] rfl)
  · replace hf := q_neg c3 hf
    refine lv_iconst (v := 0) S0.1 S0.2.1 dX9_pass_12 (by decide) ?_
    refine lv_goto (tgt := 17) S0.1 S0.2.1 dX9_pass_13 (by decide) ?_
    exact b17 p1 0 s1 hf _ _ _ hw (lv_sub hl [0, 1] rfl)
def fX9_lease_30 (F : Nat) (x1 : Int32) (t1 : Int32) (σ : qS) : Option (Int32 × qS) :=
  bnd2 (fX9_holds F t1 σ) fun v7 s6 => (if v7 = 0 then (nm (s6.1 0 0 52) fun v9 => (inx 10 v9 (nm (qI s6 149 0 v9.toNatClampNeg x1) fun s10 => (nm (s10.1 0 0 52) fun v11 => (nm (s10.1 0 0 53) fun v12 => (inx 10 v11 (nm (qI s10 150 0 v11.toNatClampNeg v12) fun s13 => (nm (s13.1 0 0 52) fun v14 => (nm (v14 + 1) fun v15 => (nm (qI s13 0 0 52 v15) fun s16 => (nm (s16.1 0 0 52) fun v17 => (nm (v17 - 1) fun v18 => (some (v18, s16)))))))))))))) else (some ((-1), s6)))
def fX9_lease (F : Nat) (p1 : Int32) (σ : qS) : Option (Int32 × qS) :=
  bnd2 (fX9_in F p1 1 50 σ) fun v2 s1 => (if v2 = 0 then (fX9_lease_30 F p1 1 s1) else (nm (s1.1 0 0 52) fun v4 => (if v4 = 10 then (fX9_lease_30 F p1 2 s1) else (fX9_lease_30 F p1 0 s1))))
set_option maxRecDepth 100000 in
set_option maxHeartbeats 4000000 in
theorem wX9_lease (l : Launch) (D : va_G) (Y : Nat → ClassId) (ad : qAd) (F : Nat) (p1 : Int32) (σ : qS) : qCi l yX9_lease cX9_lease 2 (some .int) 1 23 D (mL Y) (qT Y) ad [.ref (ad 0 0), .int p1] σ (fX9_lease F p1 σ) := by
  refine q_ofi (by decide) (Nat.le_of_ble_eq_true rfl) "LeasehallModel" rfl (fun p e s m below meth c A Q r0 S0 hf hw hret ls hl => ?_)
  replace hl : lv_has ls 2 [(0, .ref (ad 0 0)), (1, .int p1)] := hl
  unfold fX9_lease at hf
  have b30 : ∀ (x1 : Int32) (t1 : Int32) (σ : qS), fX9_lease_30 F x1 t1 σ = some r0 → qAt p l e (qRm 1 23) s m ([.ref (ad 0 0), .int p1] : List Value).toArray below meth c Q D (mL Y) (qT Y) A ad 2 0 0 30 [(0, .ref (ad 0 0)), (1, .int x1)] [.int t1, .ref (ad 0 0)] σ := by
    clear hf hw hl ls
    intro x1 t1 σ hf H locs ls hw hl
    unfold fX9_lease_30 at hf
    refine q_calli S0 hw (As := [.int t1]) (rest := []) (wX9_holds l D Y ad F t1 σ) qyX9_holds kw_1335 ⟨Nat.le_of_ble_eq_true rfl, Nat.le_of_ble_eq_true rfl⟩ dM_0 rfl rfl rfl rfl hl.1 (Nat.le_of_ble_eq_true rfl) dX9_lease_30 ⟨Nat.le_refl _, Nat.le_refl _⟩ rfl hf (fun v7 s6 H locs hw hf => ?_)
    refine lv_if_eq (tgt := 38) S0.1 S0.2.1 dX9_lease_33 (by decide) (fun c8 => ?_) (fun c8 => ?_)
    · replace hf := q_pos c8 hf
      refine lv_aload_n S0.1 S0.2.1 dX9_lease_38 rfl (lv_at hl 0 rfl) ?_
      refine gX9_lt S0 hw kw_1197 dX9_lease_39 ?_
      refine lv_aload_n S0.1 S0.2.1 dX9_lease_42 rfl (lv_at hl 0 rfl) ?_
      refine gX9_leases S0 hw kw_1200 dX9_lease_43 hf (fun v9 hf => ?_)
      refine lv_iload_n S0.1 S0.2.1 dX9_lease_46 rfl (lv_at hl 1 rfl) ?_
      refine q_iast S0 hw dM_149 (t0 := 0) (fun _ => rfl) rfl dX9_lease_47 hf (fun s10 H locs hw hf => ?_)
      refine lv_aload_n S0.1 S0.2.1 dX9_lease_48 rfl (lv_at hl 0 rfl) ?_
      refine gX9_lr S0 hw kw_1198 dX9_lease_49 ?_
      refine lv_aload_n S0.1 S0.2.1 dX9_lease_52 rfl (lv_at hl 0 rfl) ?_
      refine gX9_leases S0 hw kw_1200 dX9_lease_53 hf (fun v11 hf => ?_)
      refine lv_aload_n S0.1 S0.2.1 dX9_lease_56 rfl (lv_at hl 0 rfl) ?_
      refine gX9_time S0 hw kw_1201 dX9_lease_57 hf (fun v12 hf => ?_)
      refine q_iast S0 hw dM_150 (t0 := 0) (fun _ => rfl) rfl dX9_lease_60 hf (fun s13 H locs hw hf => ?_)
      refine lv_aload_n S0.1 S0.2.1 dX9_lease_61 rfl (lv_at hl 0 rfl) ?_
      refine lv_dup S0.1 S0.2.1 dX9_lease_62 rfl ?_
      refine gX9_leases S0 hw kw_1200 dX9_lease_63 hf (fun v14 hf => ?_)
      refine lv_iconst (v := 1) S0.1 S0.2.1 dX9_lease_66 (by decide) ?_
      refine lv_iadd S0.1 S0.2.1 dX9_lease_67 (q_top hf (fun v15 hf => ?_))
      refine pX9_leases S0 hw kw_1200 dX9_lease_68 hf (fun s16 H locs hw hf => ?_)
      refine lv_aload_n S0.1 S0.2.1 dX9_lease_71 rfl (lv_at hl 0 rfl) ?_
      refine gX9_leases S0 hw kw_1200 dX9_lease_72 hf (fun v17 hf => ?_)
      refine lv_iconst (v := 1) S0.1 S0.2.1 dX9_lease_75 (by decide) ?_
      refine lv_isub S0.1 S0.2.1 dX9_lease_76 (q_top hf (fun v18 hf => ?_))
      exact hret dX9_lease_77 hw hf
    · replace hf := q_neg c8 hf
      refine lv_iconst (v := (-1)) S0.1 S0.2.1 dX9_lease_36 (by decide) ?_
      exact hret dX9_lease_37 hw hf
  refine lv_aload_n S0.1 S0.2.1 dX9_lease_0 rfl (lv_at hl 0 rfl) ?_
  refine lv_aload_n S0.1 S0.2.1 dX9_lease_1 rfl (lv_at hl 0 rfl) ?_
  refine lv_iload_n S0.1 S0.2.1 dX9_lease_2 rfl (lv_at hl 1 rfl) ?_
  refine lv_iconst (v := 1) S0.1 S0.2.1 dX9_lease_3 (by decide) ?_
  refine lv_bipush (v := 50) S0.1 S0.2.1 dX9_lease_4 (by decide) ?_
  refine q_calli S0 hw (As := [.int p1, .int 1, .int 50]) (rest := [.ref (ad 0 0)]) (wX9_in l D Y ad F p1 1 50 σ) qyX9_in kw_1331 ⟨Nat.le_of_ble_eq_true rfl, Nat.le_of_ble_eq_true rfl⟩ dM_0 rfl rfl rfl rfl hl.1 (Nat.le_of_ble_eq_true rfl) dX9_lease_6 ⟨Nat.le_refl _, Nat.le_refl _⟩ rfl hf (fun v2 s1 H locs hw hf => ?_)
  refine lv_if_ne (tgt := 16) S0.1 S0.2.1 dX9_lease_9 (by decide) (fun c3 => ?_) (fun c3 => ?_)
  · replace hf := q_neg c3 hf
    refine lv_aload_n S0.1 S0.2.1 dX9_lease_16 rfl (lv_at hl 0 rfl) ?_
    refine gX9_leases S0 hw kw_1200 dX9_lease_17 hf (fun v4 hf => ?_)
    refine lv_bipush (v := 10) S0.1 S0.2.1 dX9_lease_20 (by decide) ?_
    refine lv_icmp_ne (tgt := 29) S0.1 S0.2.1 dX9_lease_22 (by decide) (fun c5 => ?_) (fun c5 => ?_)
    · replace hf := q_neg c5 hf
      refine lv_iconst (v := 0) S0.1 S0.2.1 dX9_lease_29 (by decide) ?_
      exact b30 p1 0 s1 hf _ _ _ hw (lv_sub hl [0, 1] rfl)
    · replace hf := q_pos c5 hf
      refine lv_iconst (v := 2) S0.1 S0.2.1 dX9_lease_25 (by decide) ?_
      refine lv_goto (tgt := 30) S0.1 S0.2.1 dX9_lease_26 (by decide) ?_
      exact b30 p1 2 s1 hf _ _ _ hw (lv_sub hl [0, 1] rfl)
  · replace hf := q_pos c3 hf
    refine lv_iconst (v := 1) S0.1 S0.2.1 dX9_lease_12 (by decide) ?_
    refine lv_goto (tgt := 30) S0.1 S0.2.1 dX9_lease_13 (by decide) ?_
    exact b30 p1 1 s1 hf _ _ _ hw (lv_sub hl [0, 1] rfl)
def fX9_renew_35 (F : Nat) (x1 : Int32) (t1 : Int32) (σ : qS) : Option (Int32 × qS) :=
  bnd2 (fX9_holds F t1 σ) fun v9 s8 => (if v9 = 0 then (nm (s8.1 0 0 53) fun v11 => (inx 10 x1 (nm (qI s8 150 0 x1.toNatClampNeg v11) fun s12 => (nm (s12.1 0 0 53) fun v13 => (ldi 10 (s12.1 149 0) x1 fun v14 => (nm (v13 + v14) fun v15 => (some (v15, s12)))))))) else (some ((-1), s8)))
def fX9_renew (F : Nat) (p1 : Int32) (σ : qS) : Option (Int32 × qS) :=
  nm (σ.1 0 0 52) fun v1 => (nm (v1 - 1) fun v2 => (bnd2 (fX9_in F p1 0 v2 σ) fun v4 s3 => (if v4 = 0 then (fX9_renew_35 F p1 1 s3) else (ldi 10 (s3.1 151 0) p1 fun v6 => (if v6 = 1 then (fX9_renew_35 F p1 2 s3) else (fX9_renew_35 F p1 0 s3))))))
set_option maxRecDepth 100000 in
set_option maxHeartbeats 4000000 in
theorem wX9_renew (l : Launch) (D : va_G) (Y : Nat → ClassId) (ad : qAd) (F : Nat) (p1 : Int32) (σ : qS) : qCi l yX9_renew cX9_renew 2 (some .int) 1 23 D (mL Y) (qT Y) ad [.ref (ad 0 0), .int p1] σ (fX9_renew F p1 σ) := by
  refine q_ofi (by decide) (Nat.le_of_ble_eq_true rfl) "LeasehallModel" rfl (fun p e s m below meth c A Q r0 S0 hf hw hret ls hl => ?_)
  replace hl : lv_has ls 2 [(0, .ref (ad 0 0)), (1, .int p1)] := hl
  unfold fX9_renew at hf
  have b35 : ∀ (x1 : Int32) (t1 : Int32) (σ : qS), fX9_renew_35 F x1 t1 σ = some r0 → qAt p l e (qRm 1 23) s m ([.ref (ad 0 0), .int p1] : List Value).toArray below meth c Q D (mL Y) (qT Y) A ad 2 0 0 35 [(0, .ref (ad 0 0)), (1, .int x1)] [.int t1, .ref (ad 0 0)] σ := by
    clear hf hw hl ls
    intro x1 t1 σ hf H locs ls hw hl
    unfold fX9_renew_35 at hf
    refine q_calli S0 hw (As := [.int t1]) (rest := []) (wX9_holds l D Y ad F t1 σ) qyX9_holds kw_1335 ⟨Nat.le_of_ble_eq_true rfl, Nat.le_of_ble_eq_true rfl⟩ dM_0 rfl rfl rfl rfl hl.1 (Nat.le_of_ble_eq_true rfl) dX9_renew_35 ⟨Nat.le_refl _, Nat.le_refl _⟩ rfl hf (fun v9 s8 H locs hw hf => ?_)
    refine lv_if_eq (tgt := 43) S0.1 S0.2.1 dX9_renew_38 (by decide) (fun c10 => ?_) (fun c10 => ?_)
    · replace hf := q_pos c10 hf
      refine lv_aload_n S0.1 S0.2.1 dX9_renew_43 rfl (lv_at hl 0 rfl) ?_
      refine gX9_lr S0 hw kw_1198 dX9_renew_44 ?_
      refine lv_iload_n S0.1 S0.2.1 dX9_renew_47 rfl (lv_at hl 1 rfl) ?_
      refine lv_aload_n S0.1 S0.2.1 dX9_renew_48 rfl (lv_at hl 0 rfl) ?_
      refine gX9_time S0 hw kw_1201 dX9_renew_49 hf (fun v11 hf => ?_)
      refine q_iast S0 hw dM_150 (t0 := 0) (fun _ => rfl) rfl dX9_renew_52 hf (fun s12 H locs hw hf => ?_)
      refine lv_aload_n S0.1 S0.2.1 dX9_renew_53 rfl (lv_at hl 0 rfl) ?_
      refine gX9_time S0 hw kw_1201 dX9_renew_54 hf (fun v13 hf => ?_)
      refine lv_aload_n S0.1 S0.2.1 dX9_renew_57 rfl (lv_at hl 0 rfl) ?_
      refine gX9_lt S0 hw kw_1197 dX9_renew_58 ?_
      refine lv_iload_n S0.1 S0.2.1 dX9_renew_61 rfl (lv_at hl 1 rfl) ?_
      refine q_iald S0 hw dM_149 (t0 := 0) rfl rfl dX9_renew_62 hf (fun v14 hf => ?_)
      refine lv_iadd S0.1 S0.2.1 dX9_renew_63 (q_top hf (fun v15 hf => ?_))
      exact hret dX9_renew_64 hw hf
    · replace hf := q_neg c10 hf
      refine lv_iconst (v := (-1)) S0.1 S0.2.1 dX9_renew_41 (by decide) ?_
      exact hret dX9_renew_42 hw hf
  refine lv_aload_n S0.1 S0.2.1 dX9_renew_0 rfl (lv_at hl 0 rfl) ?_
  refine lv_aload_n S0.1 S0.2.1 dX9_renew_1 rfl (lv_at hl 0 rfl) ?_
  refine lv_iload_n S0.1 S0.2.1 dX9_renew_2 rfl (lv_at hl 1 rfl) ?_
  refine lv_iconst (v := 0) S0.1 S0.2.1 dX9_renew_3 (by decide) ?_
  refine lv_aload_n S0.1 S0.2.1 dX9_renew_4 rfl (lv_at hl 0 rfl) ?_
  refine gX9_leases S0 hw kw_1200 dX9_renew_5 hf (fun v1 hf => ?_)
  refine lv_iconst (v := 1) S0.1 S0.2.1 dX9_renew_8 (by decide) ?_
  refine lv_isub S0.1 S0.2.1 dX9_renew_9 (q_top hf (fun v2 hf => ?_))
  refine q_calli S0 hw (As := [.int p1, .int 0, .int v2]) (rest := [.ref (ad 0 0)]) (wX9_in l D Y ad F p1 0 v2 σ) qyX9_in kw_1331 ⟨Nat.le_of_ble_eq_true rfl, Nat.le_of_ble_eq_true rfl⟩ dM_0 rfl rfl rfl rfl hl.1 (Nat.le_of_ble_eq_true rfl) dX9_renew_10 ⟨Nat.le_refl _, Nat.le_refl _⟩ rfl hf (fun v4 s3 H locs hw hf => ?_)
  refine lv_if_ne (tgt := 20) S0.1 S0.2.1 dX9_renew_13 (by decide) (fun c5 => ?_) (fun c5 => ?_)
  · replace hf := q_neg c5 hf
    refine lv_aload_n S0.1 S0.2.1 dX9_renew_20 rfl (lv_at hl 0 rfl) ?_
    refine gX9_le S0 hw kw_1199 dX9_renew_21 ?_
    refine lv_iload_n S0.1 S0.2.1 dX9_renew_24 rfl (lv_at hl 1 rfl) ?_
    refine q_iald S0 hw dM_151 (t0 := 0) rfl rfl dX9_renew_25 hf (fun v6 hf => ?_)
    refine lv_iconst (v := 1) S0.1 S0.2.1 dX9_renew_26 (by decide) ?_
    refine lv_icmp_ne (tgt := 34) S0.1 S0.2.1 dX9_renew_27 (by decide) (fun c7 => ?_) (fun c7 => ?_)
    · replace hf := q_neg c7 hf
      refine lv_iconst (v := 0) S0.1 S0.2.1 dX9_renew_34 (by decide) ?_
      exact b35 p1 0 s3 hf _ _ _ hw (lv_sub hl [0, 1] rfl)
    · replace hf := q_pos c7 hf
      refine lv_iconst (v := 2) S0.1 S0.2.1 dX9_renew_30 (by decide) ?_
      refine lv_goto (tgt := 35) S0.1 S0.2.1 dX9_renew_31 (by decide) ?_
      exact b35 p1 2 s3 hf _ _ _ hw (lv_sub hl [0, 1] rfl)
  · replace hf := q_pos c5 hf
    refine lv_iconst (v := 1) S0.1 S0.2.1 dX9_renew_16 (by decide) ?_
    refine lv_goto (tgt := 35) S0.1 S0.2.1 dX9_renew_17 (by decide) ?_
    exact b35 p1 1 s3 hf _ _ _ hw (lv_sub hl [0, 1] rfl)
def fX9_make_165 (F : Nat) (t0 : Int32) (σ : qS) : Option (Int32 × qS) :=
  some (t0, σ)
def fX9_make_156 (F : Nat) (x5 : Int32) (x6 : Int32) (x7 : Int32) (t1 : Int32) (t2 : Int32) (t3 : Int32) (t4 : Int32) (t5 : Int32) (σ : qS) : Option (Int32 × qS) :=
  bnd2 (fX9_act F t1 t2 t3 t4 t5 x5 x6 x7 σ) fun v18 s17 => (fX9_make_165 F v18 s17)
def fX9_make_126 (F : Nat) (x1 : Int32) (x2 : Int32) (x3 : Int32) (x4 : Int32) (x5 : Int32) (x6 : Int32) (x7 : Int32) (t0 : Int32) (σ : qS) : Option (Int32 × qS) :=
  bnd2 (fX9_holds F t0 σ) fun v14 s13 => (if v14 = 0 then (if x4 = 0 then (fX9_make_156 F x5 x6 x7 x1 0 x2 x3 0 s13) else (fX9_make_156 F x5 x6 x7 x1 0 x2 x3 1 s13)) else (fX9_make_165 F ((-1)) s13))
def fX9_make_121 (F : Nat) (x1 : Int32) (x2 : Int32) (x3 : Int32) (x4 : Int32) (x5 : Int32) (x6 : Int32) (x7 : Int32) (σ : qS) : Option (Int32 × qS) :=
  fX9_make_126 F x1 x2 x3 x4 x5 x6 x7 3 σ
def fX9_make_125 (F : Nat) (x1 : Int32) (x2 : Int32) (x3 : Int32) (x4 : Int32) (x5 : Int32) (x6 : Int32) (x7 : Int32) (σ : qS) : Option (Int32 × qS) :=
  fX9_make_126 F x1 x2 x3 x4 x5 x6 x7 0 σ
def fX9_make_96 (F : Nat) (x1 : Int32) (x2 : Int32) (x3 : Int32) (x4 : Int32) (x5 : Int32) (x6 : Int32) (x7 : Int32) (σ : qS) : Option (Int32 × qS) :=
  bnd2 (fX9_barred F x1 σ) fun v11 s10 => (if v11 = 0 then (if x6 = 2 then (ldi 10 (s10.1 151 0) x7 fun v20 => (if v20 = 1 then (fX9_make_121 F x1 x2 x3 x4 x5 x6 x7 s10) else (fX9_make_125 F x1 x2 x3 x4 x5 x6 x7 s10))) else (fX9_make_125 F x1 x2 x3 x4 x5 x6 x7 s10)) else (fX9_make_121 F x1 x2 x3 x4 x5 x6 x7 s10))
def fX9_make_47 (F : Nat) (x1 : Int32) (x2 : Int32) (x3 : Int32) (x4 : Int32) (x5 : Int32) (x6 : Int32) (x7 : Int32) (t0 : Int32) (σ : qS) : Option (Int32 × qS) :=
  bnd2 (fX9_isSession F x1 σ) fun v6 s5 => (if v6 = 0 then (fX9_make_126 F x1 x2 x3 x4 x5 x6 x7 1 s5) else (if t0 = 0 then (fX9_make_126 F x1 x2 x3 x4 x5 x6 x7 2 s5) else (if x6 = 2 then (nm (s5.1 0 0 52) fun v22 => (nm (v22 - 1) fun v23 => (bnd2 (fX9_in F x7 0 v23 s5) fun v25 s24 => (if v25 = 0 then (fX9_make_126 F x1 x2 x3 x4 x5 x6 x7 1 s24) else (fX9_make_96 F x1 x2 x3 x4 x5 x6 x7 s24))))) else (fX9_make_96 F x1 x2 x3 x4 x5 x6 x7 s5))))
def fX9_make_46 (F : Nat) (x1 : Int32) (x2 : Int32) (x3 : Int32) (x4 : Int32) (x5 : Int32) (x6 : Int32) (x7 : Int32) (σ : qS) : Option (Int32 × qS) :=
  fX9_make_47 F x1 x2 x3 x4 x5 x6 x7 0 σ
def fX9_make_16 (F : Nat) (x1 : Int32) (x2 : Int32) (x3 : Int32) (x4 : Int32) (x5 : Int32) (x6 : Int32) (x7 : Int32) (σ : qS) : Option (Int32 × qS) :=
  bnd2 (fX9_in F x5 ((-1000)) 1000 σ) fun v3 s2 => (if v3 = 0 then (fX9_make_46 F x1 x2 x3 x4 x5 x6 x7 s2) else (bnd2 (fX9_in F x6 0 3 s2) fun v28 s27 => (if v28 = 0 then (fX9_make_46 F x1 x2 x3 x4 x5 x6 x7 s27) else (fX9_make_47 F x1 x2 x3 x4 x5 x6 x7 1 s27))))
def fX9_make (F : Nat) (p1 : Int32) (p2 : Int32) (p3 : Int32) (p4 : Int32) (p5 : Int32) (p6 : Int32) (p7 : Int32) (σ : qS) : Option (Int32 × qS) :=
  if p4 = 0 then (bnd2 (fX9_in F p3 0 99 σ) fun v31 s30 => (if v31 = 0 then (fX9_make_46 F p1 p2 p3 p4 p5 p6 p7 s30) else (fX9_make_16 F p1 p2 p3 p4 p5 p6 p7 s30))) else (fX9_make_16 F p1 p2 p3 p4 p5 p6 p7 σ)
set_option maxRecDepth 100000 in
set_option maxHeartbeats 4000000 in
theorem wX9_make (l : Launch) (D : va_G) (Y : Nat → ClassId) (ad : qAd) (F : Nat) (p1 : Int32) (p2 : Int32) (p3 : Int32) (p4 : Int32) (p5 : Int32) (p6 : Int32) (p7 : Int32) (σ : qS) : qCi l yX9_make cX9_make 10 (some .int) 7 168 D (mL Y) (qT Y) ad [.ref (ad 0 0), .int p1, .int p2, .int p3, .int p4, .int p5, .int p6, .int p7] σ (fX9_make F p1 p2 p3 p4 p5 p6 p7 σ) := by
  refine q_ofi (by decide) (Nat.le_of_ble_eq_true rfl) "LeasehallModel" rfl (fun p e s m below meth c A Q r0 S0 hf hw hret ls hl => ?_)
  replace hl : lv_has ls 10 [(0, .ref (ad 0 0)), (1, .int p1), (2, .int p2), (3, .int p3), (4, .int p4), (5, .int p5), (6, .int p6), (7, .int p7)] := hl
  unfold fX9_make at hf
  have b165 : ∀ (t0 : Int32) (σ : qS), fX9_make_165 F t0 σ = some r0 → qAt p l e (qRm 7 168) s m ([.ref (ad 0 0), .int p1, .int p2, .int p3, .int p4, .int p5, .int p6, .int p7] : List Value).toArray below meth c Q D (mL Y) (qT Y) A ad 10 0 0 165 [] [.int t0] σ := by
    clear hf hw hl ls
    intro t0 σ hf H locs ls hw hl
    unfold fX9_make_165 at hf
    exact hret dX9_make_165 hw hf
  have b156 : ∀ (x5 : Int32) (x6 : Int32) (x7 : Int32) (t1 : Int32) (t2 : Int32) (t3 : Int32) (t4 : Int32) (t5 : Int32) (σ : qS), fX9_make_156 F x5 x6 x7 t1 t2 t3 t4 t5 σ = some r0 → qAt p l e (qRm 7 168) s m ([.ref (ad 0 0), .int p1, .int p2, .int p3, .int p4, .int p5, .int p6, .int p7] : List Value).toArray below meth c Q D (mL Y) (qT Y) A ad 10 0 0 156 [(5, .int x5), (6, .int x6), (7, .int x7)] [.int t5, .int t4, .int t3, .int t2, .int t1, .ref (ad 0 0)] σ := by
    clear hf hw hl ls
    intro x5 x6 x7 t1 t2 t3 t4 t5 σ hf H locs ls hw hl
    unfold fX9_make_156 at hf
    refine lv_iload S0.1 S0.2.1 dX9_make_156 (lv_at hl 0 rfl) ?_
    refine lv_iload S0.1 S0.2.1 dX9_make_158 (lv_at hl 1 rfl) ?_
    refine lv_iload S0.1 S0.2.1 dX9_make_160 (lv_at hl 2 rfl) ?_
    refine q_calli S0 hw (As := [.int t1, .int t2, .int t3, .int t4, .int t5, .int x5, .int x6, .int x7]) (rest := []) (wX9_act l D Y ad F t1 t2 t3 t4 t5 x5 x6 x7 σ) qyX9_act kw_1451 ⟨Nat.le_of_ble_eq_true rfl, Nat.le_of_ble_eq_true rfl⟩ dM_0 rfl rfl rfl rfl hl.1 (Nat.le_of_ble_eq_true rfl) dX9_make_162 ⟨Nat.le_refl _, Nat.le_refl _⟩ rfl hf (fun v18 s17 H locs hw hf => ?_)
    exact b165 v18 s17 hf _ _ _ hw (lv_sub hl [] rfl)
  have b126 : ∀ (x1 : Int32) (x2 : Int32) (x3 : Int32) (x4 : Int32) (x5 : Int32) (x6 : Int32) (x7 : Int32) (t0 : Int32) (σ : qS), fX9_make_126 F x1 x2 x3 x4 x5 x6 x7 t0 σ = some r0 → qAt p l e (qRm 7 168) s m ([.ref (ad 0 0), .int p1, .int p2, .int p3, .int p4, .int p5, .int p6, .int p7] : List Value).toArray below meth c Q D (mL Y) (qT Y) A ad 10 0 0 126 [(0, .ref (ad 0 0)), (1, .int x1), (2, .int x2), (3, .int x3), (4, .int x4), (5, .int x5), (6, .int x6), (7, .int x7)] [.int t0] σ := by
    clear hf hw hl ls
    intro x1 x2 x3 x4 x5 x6 x7 t0 σ hf H locs ls hw hl
    unfold fX9_make_126 at hf
    refine lv_istore (lv' := [(9, .int t0), (0, .ref (ad 0 0)), (1, .int x1), (2, .int x2), (3, .int x3), (4, .int x4), (5, .int x5), (6, .int x6), (7, .int x7)]) S0.1 S0.2.1 dX9_make_126 hl (by decide) rfl (fun ls hl => ?_)
    refine lv_aload_n S0.1 S0.2.1 dX9_make_128 rfl (lv_at hl 1 rfl) ?_
    refine lv_iload S0.1 S0.2.1 dX9_make_129 (lv_at hl 0 rfl) ?_
    refine q_calli S0 hw (As := [.int t0]) (rest := []) (wX9_holds l D Y ad F t0 σ) qyX9_holds kw_1335 ⟨Nat.le_of_ble_eq_true rfl, Nat.le_of_ble_eq_true rfl⟩ dM_0 rfl rfl rfl rfl hl.1 (Nat.le_of_ble_eq_true rfl) dX9_make_131 ⟨Nat.le_refl _, Nat.le_refl _⟩ rfl hf (fun v14 s13 H locs hw hf => ?_)
    refine lv_if_eq (tgt := 141) S0.1 S0.2.1 dX9_make_134 (by decide) (fun c15 => ?_) (fun c15 => ?_)
    · replace hf := q_pos c15 hf
      refine lv_aload_n S0.1 S0.2.1 dX9_make_141 rfl (lv_at hl 1 rfl) ?_
      refine lv_iload_n S0.1 S0.2.1 dX9_make_142 rfl (lv_at hl 2 rfl) ?_
      refine lv_iconst (v := 0) S0.1 S0.2.1 dX9_make_143 (by decide) ?_
      refine lv_iload_n S0.1 S0.2.1 dX9_make_144 rfl (lv_at hl 3 rfl) ?_
      refine lv_iload_n S0.1 S0.2.1 dX9_make_145 rfl (lv_at hl 4 rfl) ?_
      refine lv_iload S0.1 S0.2.1 dX9_make_146 (lv_at hl 5 rfl) ?_
      refine lv_if_eq (tgt := 155) S0.1 S0.2.1 dX9_make_148 (by decide) (fun c16 => ?_) (fun c16 => ?_)
      · replace hf := q_pos c16 hf
        refine lv_iconst (v := 0) S0.1 S0.2.1 dX9_make_155 (by decide) ?_
        exact b156 x5 x6 x7 x1 0 x2 x3 0 s13 hf _ _ _ hw (lv_sub hl [6, 7, 8] rfl)
      · replace hf := q_neg c16 hf
        refine lv_iconst (v := 1) S0.1 S0.2.1 dX9_make_151 (by decide) ?_
        refine lv_goto (tgt := 156) S0.1 S0.2.1 dX9_make_152 (by decide) ?_
        exact b156 x5 x6 x7 x1 0 x2 x3 1 s13 hf _ _ _ hw (lv_sub hl [6, 7, 8] rfl)
    · replace hf := q_neg c15 hf
      refine lv_iconst (v := (-1)) S0.1 S0.2.1 dX9_make_137 (by decide) ?_
      refine lv_goto (tgt := 165) S0.1 S0.2.1 dX9_make_138 (by decide) ?_
      exact b165 ((-1)) s13 hf _ _ _ hw (lv_sub hl [] rfl)
  have b121 : ∀ (x1 : Int32) (x2 : Int32) (x3 : Int32) (x4 : Int32) (x5 : Int32) (x6 : Int32) (x7 : Int32) (σ : qS), fX9_make_121 F x1 x2 x3 x4 x5 x6 x7 σ = some r0 → qAt p l e (qRm 7 168) s m ([.ref (ad 0 0), .int p1, .int p2, .int p3, .int p4, .int p5, .int p6, .int p7] : List Value).toArray below meth c Q D (mL Y) (qT Y) A ad 10 0 0 121 [(0, .ref (ad 0 0)), (1, .int x1), (2, .int x2), (3, .int x3), (4, .int x4), (5, .int x5), (6, .int x6), (7, .int x7)] [] σ := by
    clear hf hw hl ls
    intro x1 x2 x3 x4 x5 x6 x7 σ hf H locs ls hw hl
    unfold fX9_make_121 at hf
    refine lv_iconst (v := 3) S0.1 S0.2.1 dX9_make_121 (by decide) ?_
    refine lv_goto (tgt := 126) S0.1 S0.2.1 dX9_make_122 (by decide) ?_
    exact b126 x1 x2 x3 x4 x5 x6 x7 3 σ hf _ _ _ hw (lv_sub hl [0, 1, 2, 3, 4, 5, 6, 7] rfl)
  have b125 : ∀ (x1 : Int32) (x2 : Int32) (x3 : Int32) (x4 : Int32) (x5 : Int32) (x6 : Int32) (x7 : Int32) (σ : qS), fX9_make_125 F x1 x2 x3 x4 x5 x6 x7 σ = some r0 → qAt p l e (qRm 7 168) s m ([.ref (ad 0 0), .int p1, .int p2, .int p3, .int p4, .int p5, .int p6, .int p7] : List Value).toArray below meth c Q D (mL Y) (qT Y) A ad 10 0 0 125 [(0, .ref (ad 0 0)), (1, .int x1), (2, .int x2), (3, .int x3), (4, .int x4), (5, .int x5), (6, .int x6), (7, .int x7)] [] σ := by
    clear hf hw hl ls
    intro x1 x2 x3 x4 x5 x6 x7 σ hf H locs ls hw hl
    unfold fX9_make_125 at hf
    refine lv_iconst (v := 0) S0.1 S0.2.1 dX9_make_125 (by decide) ?_
    exact b126 x1 x2 x3 x4 x5 x6 x7 0 σ hf _ _ _ hw (lv_sub hl [0, 1, 2, 3, 4, 5, 6, 7] rfl)
  have b96 : ∀ (x1 : Int32) (x2 : Int32) (x3 : Int32) (x4 : Int32) (x5 : Int32) (x6 : Int32) (x7 : Int32) (σ : qS), fX9_make_96 F x1 x2 x3 x4 x5 x6 x7 σ = some r0 → qAt p l e (qRm 7 168) s m ([.ref (ad 0 0), .int p1, .int p2, .int p3, .int p4, .int p5, .int p6, .int p7] : List Value).toArray below meth c Q D (mL Y) (qT Y) A ad 10 0 0 96 [(0, .ref (ad 0 0)), (1, .int x1), (2, .int x2), (3, .int x3), (4, .int x4), (5, .int x5), (6, .int x6), (7, .int x7)] [] σ := by
    clear hf hw hl ls
    intro x1 x2 x3 x4 x5 x6 x7 σ hf H locs ls hw hl
    unfold fX9_make_96 at hf
    refine lv_aload_n S0.1 S0.2.1 dX9_make_96 rfl (lv_at hl 0 rfl) ?_
    refine lv_iload_n S0.1 S0.2.1 dX9_make_97 rfl (lv_at hl 1 rfl) ?_
    refine q_calli S0 hw (As := [.int x1]) (rest := []) (wX9_barred l D Y ad F x1 σ) qyX9_barred kw_1447 ⟨Nat.le_of_ble_eq_true rfl, Nat.le_of_ble_eq_true rfl⟩ dM_0 rfl rfl rfl rfl hl.1 (Nat.le_of_ble_eq_true rfl) dX9_make_98 ⟨Nat.le_refl _, Nat.le_refl _⟩ rfl hf (fun v11 s10 H locs hw hf => ?_)
    refine lv_if_ne (tgt := 121) S0.1 S0.2.1 dX9_make_101 (by decide) (fun c12 => ?_) (fun c12 => ?_)
    · replace hf := q_neg c12 hf
      exact b121 x1 x2 x3 x4 x5 x6 x7 s10 hf _ _ _ hw (lv_sub hl [0, 1, 2, 3, 4, 5, 6, 7] rfl)
    · replace hf := q_pos c12 hf
      refine lv_iload S0.1 S0.2.1 dX9_make_104 (lv_at hl 6 rfl) ?_
      refine lv_iconst (v := 2) S0.1 S0.2.1 dX9_make_106 (by decide) ?_
      refine lv_icmp_ne (tgt := 125) S0.1 S0.2.1 dX9_make_107 (by decide) (fun c19 => ?_) (fun c19 => ?_)
      · replace hf := q_neg c19 hf
        exact b125 x1 x2 x3 x4 x5 x6 x7 s10 hf _ _ _ hw (lv_sub hl [0, 1, 2, 3, 4, 5, 6, 7] rfl)
      · replace hf := q_pos c19 hf
        refine lv_aload_n S0.1 S0.2.1 dX9_make_110 rfl (lv_at hl 0 rfl) ?_
        refine gX9_le S0 hw kw_1199 dX9_make_111 ?_
        refine lv_iload S0.1 S0.2.1 dX9_make_114 (lv_at hl 7 rfl) ?_
        refine q_iald S0 hw dM_151 (t0 := 0) rfl rfl dX9_make_116 hf (fun v20 hf => ?_)
        refine lv_iconst (v := 1) S0.1 S0.2.1 dX9_make_117 (by decide) ?_
        refine lv_icmp_ne (tgt := 125) S0.1 S0.2.1 dX9_make_118 (by decide) (fun c21 => ?_) (fun c21 => ?_)
        · replace hf := q_neg c21 hf
          exact b125 x1 x2 x3 x4 x5 x6 x7 s10 hf _ _ _ hw (lv_sub hl [0, 1, 2, 3, 4, 5, 6, 7] rfl)
        · replace hf := q_pos c21 hf
          exact b121 x1 x2 x3 x4 x5 x6 x7 s10 hf _ _ _ hw (lv_sub hl [0, 1, 2, 3, 4, 5, 6, 7] rfl)
  have b47 : ∀ (x1 : Int32) (x2 : Int32) (x3 : Int32) (x4 : Int32) (x5 : Int32) (x6 : Int32) (x7 : Int32) (t0 : Int32) (σ : qS), fX9_make_47 F x1 x2 x3 x4 x5 x6 x7 t0 σ = some r0 → qAt p l e (qRm 7 168) s m ([.ref (ad 0 0), .int p1, .int p2, .int p3, .int p4, .int p5, .int p6, .int p7] : List Value).toArray below meth c Q D (mL Y) (qT Y) A ad 10 0 0 47 [(0, .ref (ad 0 0)), (1, .int x1), (2, .int x2), (3, .int x3), (4, .int x4), (5, .int x5), (6, .int x6), (7, .int x7)] [.int t0] σ := by
    clear hf hw hl ls
    intro x1 x2 x3 x4 x5 x6 x7 t0 σ hf H locs ls hw hl
    unfold fX9_make_47 at hf
    refine lv_istore (lv' := [(8, .int t0), (0, .ref (ad 0 0)), (1, .int x1), (2, .int x2), (3, .int x3), (4, .int x4), (5, .int x5), (6, .int x6), (7, .int x7)]) S0.1 S0.2.1 dX9_make_47 hl (by decide) rfl (fun ls hl => ?_)
    refine lv_aload_n S0.1 S0.2.1 dX9_make_49 rfl (lv_at hl 1 rfl) ?_
    refine lv_iload_n S0.1 S0.2.1 dX9_make_50 rfl (lv_at hl 2 rfl) ?_
    refine q_calli S0 hw (As := [.int x1]) (rest := []) (wX9_isSession l D Y ad F x1 σ) qyX9_isSession kw_1343 ⟨Nat.le_of_ble_eq_true rfl, Nat.le_of_ble_eq_true rfl⟩ dM_0 rfl rfl rfl rfl hl.1 (Nat.le_of_ble_eq_true rfl) dX9_make_51 ⟨Nat.le_refl _, Nat.le_refl _⟩ rfl hf (fun v6 s5 H locs hw hf => ?_)
    refine lv_if_ne (tgt := 61) S0.1 S0.2.1 dX9_make_54 (by decide) (fun c7 => ?_) (fun c7 => ?_)
    · replace hf := q_neg c7 hf
      refine lv_iload S0.1 S0.2.1 dX9_make_61 (lv_at hl 0 rfl) ?_
      refine lv_if_ne (tgt := 70) S0.1 S0.2.1 dX9_make_63 (by decide) (fun c8 => ?_) (fun c8 => ?_)
      · replace hf := q_neg c8 hf
        refine lv_iload S0.1 S0.2.1 dX9_make_70 (lv_at hl 7 rfl) ?_
        refine lv_iconst (v := 2) S0.1 S0.2.1 dX9_make_72 (by decide) ?_
        refine lv_icmp_ne (tgt := 96) S0.1 S0.2.1 dX9_make_73 (by decide) (fun c9 => ?_) (fun c9 => ?_)
        · replace hf := q_neg c9 hf
          exact b96 x1 x2 x3 x4 x5 x6 x7 s5 hf _ _ _ hw (lv_sub hl [1, 2, 3, 4, 5, 6, 7, 8] rfl)
        · replace hf := q_pos c9 hf
          refine lv_aload_n S0.1 S0.2.1 dX9_make_76 rfl (lv_at hl 1 rfl) ?_
          refine lv_iload S0.1 S0.2.1 dX9_make_77 (lv_at hl 8 rfl) ?_
          refine lv_iconst (v := 0) S0.1 S0.2.1 dX9_make_79 (by decide) ?_
          refine lv_aload_n S0.1 S0.2.1 dX9_make_80 rfl (lv_at hl 1 rfl) ?_
          refine gX9_leases S0 hw kw_1200 dX9_make_81 hf (fun v22 hf => ?_)
          refine lv_iconst (v := 1) S0.1 S0.2.1 dX9_make_84 (by decide) ?_
          refine lv_isub S0.1 S0.2.1 dX9_make_85 (q_top hf (fun v23 hf => ?_))
          refine q_calli S0 hw (As := [.int x7, .int 0, .int v23]) (rest := []) (wX9_in l D Y ad F x7 0 v23 s5) qyX9_in kw_1331 ⟨Nat.le_of_ble_eq_true rfl, Nat.le_of_ble_eq_true rfl⟩ dM_0 rfl rfl rfl rfl hl.1 (Nat.le_of_ble_eq_true rfl) dX9_make_86 ⟨Nat.le_refl _, Nat.le_refl _⟩ rfl hf (fun v25 s24 H locs hw hf => ?_)
          refine lv_if_ne (tgt := 96) S0.1 S0.2.1 dX9_make_89 (by decide) (fun c26 => ?_) (fun c26 => ?_)
          · replace hf := q_neg c26 hf
            exact b96 x1 x2 x3 x4 x5 x6 x7 s24 hf _ _ _ hw (lv_sub hl [1, 2, 3, 4, 5, 6, 7, 8] rfl)
          · replace hf := q_pos c26 hf
            refine lv_iconst (v := 1) S0.1 S0.2.1 dX9_make_92 (by decide) ?_
            refine lv_goto (tgt := 126) S0.1 S0.2.1 dX9_make_93 (by decide) ?_
            exact b126 x1 x2 x3 x4 x5 x6 x7 1 s24 hf _ _ _ hw (lv_sub hl [1, 2, 3, 4, 5, 6, 7, 8] rfl)
      · replace hf := q_pos c8 hf
        refine lv_iconst (v := 2) S0.1 S0.2.1 dX9_make_66 (by decide) ?_
        refine lv_goto (tgt := 126) S0.1 S0.2.1 dX9_make_67 (by decide) ?_
        exact b126 x1 x2 x3 x4 x5 x6 x7 2 s5 hf _ _ _ hw (lv_sub hl [1, 2, 3, 4, 5, 6, 7, 8] rfl)
    · replace hf := q_pos c7 hf
      refine lv_iconst (v := 1) S0.1 S0.2.1 dX9_make_57 (by decide) ?_
      refine lv_goto (tgt := 126) S0.1 S0.2.1 dX9_make_58 (by decide) ?_
      exact b126 x1 x2 x3 x4 x5 x6 x7 1 s5 hf _ _ _ hw (lv_sub hl [1, 2, 3, 4, 5, 6, 7, 8] rfl)
  have b46 : ∀ (x1 : Int32) (x2 : Int32) (x3 : Int32) (x4 : Int32) (x5 : Int32) (x6 : Int32) (x7 : Int32) (σ : qS), fX9_make_46 F x1 x2 x3 x4 x5 x6 x7 σ = some r0 → qAt p l e (qRm 7 168) s m ([.ref (ad 0 0), .int p1, .int p2, .int p3, .int p4, .int p5, .int p6, .int p7] : List Value).toArray below meth c Q D (mL Y) (qT Y) A ad 10 0 0 46 [(0, .ref (ad 0 0)), (1, .int x1), (2, .int x2), (3, .int x3), (4, .int x4), (5, .int x5), (6, .int x6), (7, .int x7)] [] σ := by
    clear hf hw hl ls
    intro x1 x2 x3 x4 x5 x6 x7 σ hf H locs ls hw hl
    unfold fX9_make_46 at hf
    refine lv_iconst (v := 0) S0.1 S0.2.1 dX9_make_46 (by decide) ?_
    exact b47 x1 x2 x3 x4 x5 x6 x7 0 σ hf _ _ _ hw (lv_sub hl [0, 1, 2, 3, 4, 5, 6, 7] rfl)
  have b16 : ∀ (x1 : Int32) (x2 : Int32) (x3 : Int32) (x4 : Int32) (x5 : Int32) (x6 : Int32) (x7 : Int32) (σ : qS), fX9_make_16 F x1 x2 x3 x4 x5 x6 x7 σ = some r0 → qAt p l e (qRm 7 168) s m ([.ref (ad 0 0), .int p1, .int p2, .int p3, .int p4, .int p5, .int p6, .int p7] : List Value).toArray below meth c Q D (mL Y) (qT Y) A ad 10 0 0 16 [(0, .ref (ad 0 0)), (1, .int x1), (2, .int x2), (3, .int x3), (4, .int x4), (5, .int x5), (6, .int x6), (7, .int x7)] [] σ := by
    clear hf hw hl ls
    intro x1 x2 x3 x4 x5 x6 x7 σ hf H locs ls hw hl
    unfold fX9_make_16 at hf
    refine lv_aload_n S0.1 S0.2.1 dX9_make_16 rfl (lv_at hl 0 rfl) ?_
    refine lv_iload S0.1 S0.2.1 dX9_make_17 (lv_at hl 5 rfl) ?_
    refine lv_sipush (v := (-1000)) S0.1 S0.2.1 dX9_make_19 (by decide) ?_
    refine lv_sipush (v := 1000) S0.1 S0.2.1 dX9_make_22 (by decide) ?_
    refine q_calli S0 hw (As := [.int x5, .int ((-1000)), .int 1000]) (rest := []) (wX9_in l D Y ad F x5 ((-1000)) 1000 σ) qyX9_in kw_1331 ⟨Nat.le_of_ble_eq_true rfl, Nat.le_of_ble_eq_true rfl⟩ dM_0 rfl rfl rfl rfl hl.1 (Nat.le_of_ble_eq_true rfl) dX9_make_25 ⟨Nat.le_refl _, Nat.le_refl _⟩ rfl hf (fun v3 s2 H locs hw hf => ?_)
    refine lv_if_eq (tgt := 46) S0.1 S0.2.1 dX9_make_28 (by decide) (fun c4 => ?_) (fun c4 => ?_)
    · replace hf := q_pos c4 hf
      exact b46 x1 x2 x3 x4 x5 x6 x7 s2 hf _ _ _ hw (lv_sub hl [0, 1, 2, 3, 4, 5, 6, 7] rfl)
    · replace hf := q_neg c4 hf
      refine lv_aload_n S0.1 S0.2.1 dX9_make_31 rfl (lv_at hl 0 rfl) ?_
      refine lv_iload S0.1 S0.2.1 dX9_make_32 (lv_at hl 6 rfl) ?_
      refine lv_iconst (v := 0) S0.1 S0.2.1 dX9_make_34 (by decide) ?_
      refine lv_iconst (v := 3) S0.1 S0.2.1 dX9_make_35 (by decide) ?_
      refine q_calli S0 hw (As := [.int x6, .int 0, .int 3]) (rest := []) (wX9_in l D Y ad F x6 0 3 s2) qyX9_in kw_1331 ⟨Nat.le_of_ble_eq_true rfl, Nat.le_of_ble_eq_true rfl⟩ dM_0 rfl rfl rfl rfl hl.1 (Nat.le_of_ble_eq_true rfl) dX9_make_36 ⟨Nat.le_refl _, Nat.le_refl _⟩ rfl hf (fun v28 s27 H locs hw hf => ?_)
      refine lv_if_eq (tgt := 46) S0.1 S0.2.1 dX9_make_39 (by decide) (fun c29 => ?_) (fun c29 => ?_)
      · replace hf := q_pos c29 hf
        exact b46 x1 x2 x3 x4 x5 x6 x7 s27 hf _ _ _ hw (lv_sub hl [0, 1, 2, 3, 4, 5, 6, 7] rfl)
      · replace hf := q_neg c29 hf
        refine lv_iconst (v := 1) S0.1 S0.2.1 dX9_make_42 (by decide) ?_
        refine lv_goto (tgt := 47) S0.1 S0.2.1 dX9_make_43 (by decide) ?_
        exact b47 x1 x2 x3 x4 x5 x6 x7 1 s27 hf _ _ _ hw (lv_sub hl [0, 1, 2, 3, 4, 5, 6, 7] rfl)
  refine lv_iload S0.1 S0.2.1 dX9_make_0 (lv_at hl 4 rfl) ?_
  refine lv_if_ne (tgt := 16) S0.1 S0.2.1 dX9_make_2 (by decide) (fun c1 => ?_) (fun c1 => ?_)
  · replace hf := q_neg c1 hf
    exact b16 p1 p2 p3 p4 p5 p6 p7 σ hf _ _ _ hw (lv_sub hl [0, 1, 2, 3, 4, 5, 6, 7] rfl)
  · replace hf := q_pos c1 hf
    refine lv_aload_n S0.1 S0.2.1 dX9_make_5 rfl (lv_at hl 0 rfl) ?_
    refine lv_iload_n S0.1 S0.2.1 dX9_make_6 rfl (lv_at hl 3 rfl) ?_
    refine lv_iconst (v := 0) S0.1 S0.2.1 dX9_make_7 (by decide) ?_
    refine lv_bipush (v := 99) S0.1 S0.2.1 dX9_make_8 (by decide) ?_
    refine q_calli S0 hw (As := [.int p3, .int 0, .int 99]) (rest := []) (wX9_in l D Y ad F p3 0 99 σ) qyX9_in kw_1331 ⟨Nat.le_of_ble_eq_true rfl, Nat.le_of_ble_eq_true rfl⟩ dM_0 rfl rfl rfl rfl hl.1 (Nat.le_of_ble_eq_true rfl) dX9_make_10 ⟨Nat.le_refl _, Nat.le_refl _⟩ rfl hf (fun v31 s30 H locs hw hf => ?_)
    refine lv_if_eq (tgt := 46) S0.1 S0.2.1 dX9_make_13 (by decide) (fun c32 => ?_) (fun c32 => ?_)
    · replace hf := q_pos c32 hf
      exact b46 p1 p2 p3 p4 p5 p6 p7 s30 hf _ _ _ hw (lv_sub hl [0, 1, 2, 3, 4, 5, 6, 7] rfl)
    · replace hf := q_neg c32 hf
      exact b16 p1 p2 p3 p4 p5 p6 p7 s30 hf _ _ _ hw (lv_sub hl [0, 1, 2, 3, 4, 5, 6, 7] rfl)
def fX9_set_67 (F : Nat) (t0 : Int32) (σ : qS) : Option (Int32 × qS) :=
  some (t0, σ)
def fX9_set_44 (F : Nat) (x1 : Int32) (x2 : Int32) (x3 : Int32) (x4 : Int32) (t1 : Int32) (σ : qS) : Option (Int32 × qS) :=
  bnd2 (fX9_holds F t1 σ) fun v11 s10 => (if v11 = 0 then (bnd2 (fX9_act F x1 1 x2 x3 x4 0 0 0 s10) fun v14 s13 => (fX9_set_67 F v14 s13)) else (fX9_set_67 F ((-1)) s10))
def fX9_set (F : Nat) (p1 : Int32) (p2 : Int32) (p3 : Int32) (p4 : Int32) (σ : qS) : Option (Int32 × qS) :=
  bnd2 (fX9_isSession F p1 σ) fun v2 s1 => (if v2 = 0 then (fX9_set_44 F p1 p2 p3 p4 1 s1) else (bnd2 (fX9_in F p3 ((-1000)) 1000 s1) fun v5 s4 => (if v5 = 0 then (fX9_set_44 F p1 p2 p3 p4 2 s4) else (bnd2 (fX9_barred F p1 s4) fun v8 s7 => (if v8 = 0 then (fX9_set_44 F p1 p2 p3 p4 0 s7) else (fX9_set_44 F p1 p2 p3 p4 3 s7))))))
set_option maxRecDepth 100000 in
set_option maxHeartbeats 4000000 in
theorem wX9_set (l : Launch) (D : va_G) (Y : Nat → ClassId) (ad : qAd) (F : Nat) (p1 : Int32) (p2 : Int32) (p3 : Int32) (p4 : Int32) (σ : qS) : qCi l yX9_set cX9_set 5 (some .int) 7 168 D (mL Y) (qT Y) ad [.ref (ad 0 0), .int p1, .int p2, .int p3, .int p4] σ (fX9_set F p1 p2 p3 p4 σ) := by
  refine q_ofi (by decide) (Nat.le_of_ble_eq_true rfl) "LeasehallModel" rfl (fun p e s m below meth c A Q r0 S0 hf hw hret ls hl => ?_)
  replace hl : lv_has ls 5 [(0, .ref (ad 0 0)), (1, .int p1), (2, .int p2), (3, .int p3), (4, .int p4)] := hl
  unfold fX9_set at hf
  have b67 : ∀ (t0 : Int32) (σ : qS), fX9_set_67 F t0 σ = some r0 → qAt p l e (qRm 7 168) s m ([.ref (ad 0 0), .int p1, .int p2, .int p3, .int p4] : List Value).toArray below meth c Q D (mL Y) (qT Y) A ad 5 0 0 67 [] [.int t0] σ := by
    clear hf hw hl ls
    intro t0 σ hf H locs ls hw hl
    unfold fX9_set_67 at hf
    exact hret dX9_set_67 hw hf
  have b44 : ∀ (x1 : Int32) (x2 : Int32) (x3 : Int32) (x4 : Int32) (t1 : Int32) (σ : qS), fX9_set_44 F x1 x2 x3 x4 t1 σ = some r0 → qAt p l e (qRm 7 168) s m ([.ref (ad 0 0), .int p1, .int p2, .int p3, .int p4] : List Value).toArray below meth c Q D (mL Y) (qT Y) A ad 5 0 0 44 [(0, .ref (ad 0 0)), (1, .int x1), (2, .int x2), (3, .int x3), (4, .int x4)] [.int t1, .ref (ad 0 0)] σ := by
    clear hf hw hl ls
    intro x1 x2 x3 x4 t1 σ hf H locs ls hw hl
    unfold fX9_set_44 at hf
    refine q_calli S0 hw (As := [.int t1]) (rest := []) (wX9_holds l D Y ad F t1 σ) qyX9_holds kw_1335 ⟨Nat.le_of_ble_eq_true rfl, Nat.le_of_ble_eq_true rfl⟩ dM_0 rfl rfl rfl rfl hl.1 (Nat.le_of_ble_eq_true rfl) dX9_set_44 ⟨Nat.le_refl _, Nat.le_refl _⟩ rfl hf (fun v11 s10 H locs hw hf => ?_)
    refine lv_if_eq (tgt := 54) S0.1 S0.2.1 dX9_set_47 (by decide) (fun c12 => ?_) (fun c12 => ?_)
    · replace hf := q_pos c12 hf
      refine lv_aload_n S0.1 S0.2.1 dX9_set_54 rfl (lv_at hl 0 rfl) ?_
      refine lv_iload_n S0.1 S0.2.1 dX9_set_55 rfl (lv_at hl 1 rfl) ?_
      refine lv_iconst (v := 1) S0.1 S0.2.1 dX9_set_56 (by decide) ?_
      refine lv_iload_n S0.1 S0.2.1 dX9_set_57 rfl (lv_at hl 2 rfl) ?_
      refine lv_iload_n S0.1 S0.2.1 dX9_set_58 rfl (lv_at hl 3 rfl) ?_
      refine lv_iload S0.1 S0.2.1 dX9_set_59 (lv_at hl 4 rfl) ?_
      refine lv_iconst (v := 0) S0.1 S0.2.1 dX9_set_61 (by decide) ?_
      refine lv_iconst (v := 0) S0.1 S0.2.1 dX9_set_62 (by decide) ?_
      refine lv_iconst (v := 0) S0.1 S0.2.1 dX9_set_63 (by decide) ?_
      refine q_calli S0 hw (As := [.int x1, .int 1, .int x2, .int x3, .int x4, .int 0, .int 0, .int 0]) (rest := []) (wX9_act l D Y ad F x1 1 x2 x3 x4 0 0 0 s10) qyX9_act kw_1451 ⟨Nat.le_of_ble_eq_true rfl, Nat.le_of_ble_eq_true rfl⟩ dM_0 rfl rfl rfl rfl hl.1 (Nat.le_of_ble_eq_true rfl) dX9_set_64 ⟨Nat.le_refl _, Nat.le_refl _⟩ rfl hf (fun v14 s13 H locs hw hf => ?_)
      exact b67 v14 s13 hf _ _ _ hw (lv_sub hl [] rfl)
    · replace hf := q_neg c12 hf
      refine lv_iconst (v := (-1)) S0.1 S0.2.1 dX9_set_50 (by decide) ?_
      refine lv_goto (tgt := 67) S0.1 S0.2.1 dX9_set_51 (by decide) ?_
      exact b67 ((-1)) s10 hf _ _ _ hw (lv_sub hl [] rfl)
  refine lv_aload_n S0.1 S0.2.1 dX9_set_0 rfl (lv_at hl 0 rfl) ?_
  refine lv_aload_n S0.1 S0.2.1 dX9_set_1 rfl (lv_at hl 0 rfl) ?_
  refine lv_iload_n S0.1 S0.2.1 dX9_set_2 rfl (lv_at hl 1 rfl) ?_
  refine q_calli S0 hw (As := [.int p1]) (rest := [.ref (ad 0 0)]) (wX9_isSession l D Y ad F p1 σ) qyX9_isSession kw_1343 ⟨Nat.le_of_ble_eq_true rfl, Nat.le_of_ble_eq_true rfl⟩ dM_0 rfl rfl rfl rfl hl.1 (Nat.le_of_ble_eq_true rfl) dX9_set_3 ⟨Nat.le_refl _, Nat.le_refl _⟩ rfl hf (fun v2 s1 H locs hw hf => ?_)
  refine lv_if_ne (tgt := 13) S0.1 S0.2.1 dX9_set_6 (by decide) (fun c3 => ?_) (fun c3 => ?_)
  · replace hf := q_neg c3 hf
    refine lv_aload_n S0.1 S0.2.1 dX9_set_13 rfl (lv_at hl 0 rfl) ?_
    refine lv_iload_n S0.1 S0.2.1 dX9_set_14 rfl (lv_at hl 3 rfl) ?_
    refine lv_sipush (v := (-1000)) S0.1 S0.2.1 dX9_set_15 (by decide) ?_
    refine lv_sipush (v := 1000) S0.1 S0.2.1 dX9_set_18 (by decide) ?_
    refine q_calli S0 hw (As := [.int p3, .int ((-1000)), .int 1000]) (rest := [.ref (ad 0 0)]) (wX9_in l D Y ad F p3 ((-1000)) 1000 s1) qyX9_in kw_1331 ⟨Nat.le_of_ble_eq_true rfl, Nat.le_of_ble_eq_true rfl⟩ dM_0 rfl rfl rfl rfl hl.1 (Nat.le_of_ble_eq_true rfl) dX9_set_21 ⟨Nat.le_refl _, Nat.le_refl _⟩ rfl hf (fun v5 s4 H locs hw hf => ?_)
    refine lv_if_ne (tgt := 31) S0.1 S0.2.1 dX9_set_24 (by decide) (fun c6 => ?_) (fun c6 => ?_)
    · replace hf := q_neg c6 hf
      refine lv_aload_n S0.1 S0.2.1 dX9_set_31 rfl (lv_at hl 0 rfl) ?_
      refine lv_iload_n S0.1 S0.2.1 dX9_set_32 rfl (lv_at hl 1 rfl) ?_
      refine q_calli S0 hw (As := [.int p1]) (rest := [.ref (ad 0 0)]) (wX9_barred l D Y ad F p1 s4) qyX9_barred kw_1447 ⟨Nat.le_of_ble_eq_true rfl, Nat.le_of_ble_eq_true rfl⟩ dM_0 rfl rfl rfl rfl hl.1 (Nat.le_of_ble_eq_true rfl) dX9_set_33 ⟨Nat.le_refl _, Nat.le_refl _⟩ rfl hf (fun v8 s7 H locs hw hf => ?_)
      refine lv_if_eq (tgt := 43) S0.1 S0.2.1 dX9_set_36 (by decide) (fun c9 => ?_) (fun c9 => ?_)
      · replace hf := q_pos c9 hf
        refine lv_iconst (v := 0) S0.1 S0.2.1 dX9_set_43 (by decide) ?_
        exact b44 p1 p2 p3 p4 0 s7 hf _ _ _ hw (lv_sub hl [0, 1, 2, 3, 4] rfl)
      · replace hf := q_neg c9 hf
        refine lv_iconst (v := 3) S0.1 S0.2.1 dX9_set_39 (by decide) ?_
        refine lv_goto (tgt := 44) S0.1 S0.2.1 dX9_set_40 (by decide) ?_
        exact b44 p1 p2 p3 p4 3 s7 hf _ _ _ hw (lv_sub hl [0, 1, 2, 3, 4] rfl)
    · replace hf := q_pos c6 hf
      refine lv_iconst (v := 2) S0.1 S0.2.1 dX9_set_27 (by decide) ?_
      refine lv_goto (tgt := 44) S0.1 S0.2.1 dX9_set_28 (by decide) ?_
      exact b44 p1 p2 p3 p4 2 s4 hf _ _ _ hw (lv_sub hl [0, 1, 2, 3, 4] rfl)
  · replace hf := q_pos c3 hf
    refine lv_iconst (v := 1) S0.1 S0.2.1 dX9_set_9 (by decide) ?_
    refine lv_goto (tgt := 44) S0.1 S0.2.1 dX9_set_10 (by decide) ?_
    exact b44 p1 p2 p3 p4 1 s1 hf _ _ _ hw (lv_sub hl [0, 1, 2, 3, 4] rfl)
def fX9_delete_48 (F : Nat) (t0 : Int32) (σ : qS) : Option (Int32 × qS) :=
  some (t0, σ)
def fX9_delete_26 (F : Nat) (x1 : Int32) (x2 : Int32) (x3 : Int32) (t1 : Int32) (σ : qS) : Option (Int32 × qS) :=
  bnd2 (fX9_holds F t1 σ) fun v8 s7 => (if v8 = 0 then (bnd2 (fX9_act F x1 2 x2 x3 0 0 0 0 s7) fun v11 s10 => (fX9_delete_48 F v11 s10)) else (fX9_delete_48 F ((-1)) s7))
def fX9_delete (F : Nat) (p1 : Int32) (p2 : Int32) (p3 : Int32) (σ : qS) : Option (Int32 × qS) :=
  bnd2 (fX9_isSession F p1 σ) fun v2 s1 => (if v2 = 0 then (fX9_delete_26 F p1 p2 p3 1 s1) else (bnd2 (fX9_barred F p1 s1) fun v5 s4 => (if v5 = 0 then (fX9_delete_26 F p1 p2 p3 0 s4) else (fX9_delete_26 F p1 p2 p3 2 s4))))
set_option maxRecDepth 100000 in
set_option maxHeartbeats 4000000 in
theorem wX9_delete (l : Launch) (D : va_G) (Y : Nat → ClassId) (ad : qAd) (F : Nat) (p1 : Int32) (p2 : Int32) (p3 : Int32) (σ : qS) : qCi l yX9_delete cX9_delete 4 (some .int) 7 168 D (mL Y) (qT Y) ad [.ref (ad 0 0), .int p1, .int p2, .int p3] σ (fX9_delete F p1 p2 p3 σ) := by
  refine q_ofi (by decide) (Nat.le_of_ble_eq_true rfl) "LeasehallModel" rfl (fun p e s m below meth c A Q r0 S0 hf hw hret ls hl => ?_)
  replace hl : lv_has ls 4 [(0, .ref (ad 0 0)), (1, .int p1), (2, .int p2), (3, .int p3)] := hl
  unfold fX9_delete at hf
  have b48 : ∀ (t0 : Int32) (σ : qS), fX9_delete_48 F t0 σ = some r0 → qAt p l e (qRm 7 168) s m ([.ref (ad 0 0), .int p1, .int p2, .int p3] : List Value).toArray below meth c Q D (mL Y) (qT Y) A ad 4 0 0 48 [] [.int t0] σ := by
    clear hf hw hl ls
    intro t0 σ hf H locs ls hw hl
    unfold fX9_delete_48 at hf
    exact hret dX9_delete_48 hw hf
  have b26 : ∀ (x1 : Int32) (x2 : Int32) (x3 : Int32) (t1 : Int32) (σ : qS), fX9_delete_26 F x1 x2 x3 t1 σ = some r0 → qAt p l e (qRm 7 168) s m ([.ref (ad 0 0), .int p1, .int p2, .int p3] : List Value).toArray below meth c Q D (mL Y) (qT Y) A ad 4 0 0 26 [(0, .ref (ad 0 0)), (1, .int x1), (2, .int x2), (3, .int x3)] [.int t1, .ref (ad 0 0)] σ := by
    clear hf hw hl ls
    intro x1 x2 x3 t1 σ hf H locs ls hw hl
    unfold fX9_delete_26 at hf
    refine q_calli S0 hw (As := [.int t1]) (rest := []) (wX9_holds l D Y ad F t1 σ) qyX9_holds kw_1335 ⟨Nat.le_of_ble_eq_true rfl, Nat.le_of_ble_eq_true rfl⟩ dM_0 rfl rfl rfl rfl hl.1 (Nat.le_of_ble_eq_true rfl) dX9_delete_26 ⟨Nat.le_refl _, Nat.le_refl _⟩ rfl hf (fun v8 s7 H locs hw hf => ?_)
    refine lv_if_eq (tgt := 36) S0.1 S0.2.1 dX9_delete_29 (by decide) (fun c9 => ?_) (fun c9 => ?_)
    · replace hf := q_pos c9 hf
      refine lv_aload_n S0.1 S0.2.1 dX9_delete_36 rfl (lv_at hl 0 rfl) ?_
      refine lv_iload_n S0.1 S0.2.1 dX9_delete_37 rfl (lv_at hl 1 rfl) ?_
      refine lv_iconst (v := 2) S0.1 S0.2.1 dX9_delete_38 (by decide) ?_
      refine lv_iload_n S0.1 S0.2.1 dX9_delete_39 rfl (lv_at hl 2 rfl) ?_
      refine lv_iload_n S0.1 S0.2.1 dX9_delete_40 rfl (lv_at hl 3 rfl) ?_
      refine lv_iconst (v := 0) S0.1 S0.2.1 dX9_delete_41 (by decide) ?_
      refine lv_iconst (v := 0) S0.1 S0.2.1 dX9_delete_42 (by decide) ?_
      refine lv_iconst (v := 0) S0.1 S0.2.1 dX9_delete_43 (by decide) ?_
      refine lv_iconst (v := 0) S0.1 S0.2.1 dX9_delete_44 (by decide) ?_
      refine q_calli S0 hw (As := [.int x1, .int 2, .int x2, .int x3, .int 0, .int 0, .int 0, .int 0]) (rest := []) (wX9_act l D Y ad F x1 2 x2 x3 0 0 0 0 s7) qyX9_act kw_1451 ⟨Nat.le_of_ble_eq_true rfl, Nat.le_of_ble_eq_true rfl⟩ dM_0 rfl rfl rfl rfl hl.1 (Nat.le_of_ble_eq_true rfl) dX9_delete_45 ⟨Nat.le_refl _, Nat.le_refl _⟩ rfl hf (fun v11 s10 H locs hw hf => ?_)
      exact b48 v11 s10 hf _ _ _ hw (lv_sub hl [] rfl)
    · replace hf := q_neg c9 hf
      refine lv_iconst (v := (-1)) S0.1 S0.2.1 dX9_delete_32 (by decide) ?_
      refine lv_goto (tgt := 48) S0.1 S0.2.1 dX9_delete_33 (by decide) ?_
      exact b48 ((-1)) s7 hf _ _ _ hw (lv_sub hl [] rfl)
  refine lv_aload_n S0.1 S0.2.1 dX9_delete_0 rfl (lv_at hl 0 rfl) ?_
  refine lv_aload_n S0.1 S0.2.1 dX9_delete_1 rfl (lv_at hl 0 rfl) ?_
  refine lv_iload_n S0.1 S0.2.1 dX9_delete_2 rfl (lv_at hl 1 rfl) ?_
  refine q_calli S0 hw (As := [.int p1]) (rest := [.ref (ad 0 0)]) (wX9_isSession l D Y ad F p1 σ) qyX9_isSession kw_1343 ⟨Nat.le_of_ble_eq_true rfl, Nat.le_of_ble_eq_true rfl⟩ dM_0 rfl rfl rfl rfl hl.1 (Nat.le_of_ble_eq_true rfl) dX9_delete_3 ⟨Nat.le_refl _, Nat.le_refl _⟩ rfl hf (fun v2 s1 H locs hw hf => ?_)
  refine lv_if_ne (tgt := 13) S0.1 S0.2.1 dX9_delete_6 (by decide) (fun c3 => ?_) (fun c3 => ?_)
  · replace hf := q_neg c3 hf
    refine lv_aload_n S0.1 S0.2.1 dX9_delete_13 rfl (lv_at hl 0 rfl) ?_
    refine lv_iload_n S0.1 S0.2.1 dX9_delete_14 rfl (lv_at hl 1 rfl) ?_
    refine q_calli S0 hw (As := [.int p1]) (rest := [.ref (ad 0 0)]) (wX9_barred l D Y ad F p1 s1) qyX9_barred kw_1447 ⟨Nat.le_of_ble_eq_true rfl, Nat.le_of_ble_eq_true rfl⟩ dM_0 rfl rfl rfl rfl hl.1 (Nat.le_of_ble_eq_true rfl) dX9_delete_15 ⟨Nat.le_refl _, Nat.le_refl _⟩ rfl hf (fun v5 s4 H locs hw hf => ?_)
    refine lv_if_eq (tgt := 25) S0.1 S0.2.1 dX9_delete_18 (by decide) (fun c6 => ?_) (fun c6 => ?_)
    · replace hf := q_pos c6 hf
      refine lv_iconst (v := 0) S0.1 S0.2.1 dX9_delete_25 (by decide) ?_
      exact b26 p1 p2 p3 0 s4 hf _ _ _ hw (lv_sub hl [0, 1, 2, 3] rfl)
    · replace hf := q_neg c6 hf
      refine lv_iconst (v := 2) S0.1 S0.2.1 dX9_delete_21 (by decide) ?_
      refine lv_goto (tgt := 26) S0.1 S0.2.1 dX9_delete_22 (by decide) ?_
      exact b26 p1 p2 p3 2 s4 hf _ _ _ hw (lv_sub hl [0, 1, 2, 3] rfl)
  · replace hf := q_pos c3 hf
    refine lv_iconst (v := 1) S0.1 S0.2.1 dX9_delete_9 (by decide) ?_
    refine lv_goto (tgt := 26) S0.1 S0.2.1 dX9_delete_10 (by decide) ?_
    exact b26 p1 p2 p3 1 s1 hf _ _ _ hw (lv_sub hl [0, 1, 2, 3] rfl)
def fX9_rights_97 (F : Nat) (t0 : Int32) (σ : qS) : Option (Int32 × qS) :=
  some (t0, σ)
def fX9_rights_92 (F : Nat) (t1 : Int32) (t2 : Int32) (t3 : Int32) (t4 : Int32) (t5 : Int32) (t6 : Int32) (σ : qS) : Option (Int32 × qS) :=
  bnd2 (fX9_act F t1 t2 t3 t4 t5 t6 0 0 σ) fun v16 s15 => (fX9_rights_97 F v16 s15)
def fX9_rights_65 (F : Nat) (x1 : Int32) (x2 : Int32) (x3 : Int32) (x4 : Int32) (x5 : Int32) (t1 : Int32) (σ : qS) : Option (Int32 × qS) :=
  bnd2 (fX9_holds F t1 σ) fun v12 s11 => (if v12 = 0 then (if x5 = 0 then (fX9_rights_92 F x1 3 x2 x3 x4 0 s11) else (fX9_rights_92 F x1 3 x2 x3 x4 1 s11)) else (fX9_rights_97 F ((-1)) s11))
def fX9_rights_28 (F : Nat) (x1 : Int32) (x2 : Int32) (x3 : Int32) (x4 : Int32) (x5 : Int32) (t0 : Int32) (σ : qS) : Option (Int32 × qS) :=
  bnd2 (fX9_isSession F x1 σ) fun v5 s4 => (if v5 = 0 then (fX9_rights_65 F x1 x2 x3 x4 x5 1 s4) else (if t0 = 0 then (fX9_rights_65 F x1 x2 x3 x4 x5 2 s4) else (bnd2 (fX9_barred F x1 s4) fun v9 s8 => (if v9 = 0 then (fX9_rights_65 F x1 x2 x3 x4 x5 0 s8) else (fX9_rights_65 F x1 x2 x3 x4 x5 3 s8)))))
def fX9_rights_27 (F : Nat) (x1 : Int32) (x2 : Int32) (x3 : Int32) (x4 : Int32) (x5 : Int32) (σ : qS) : Option (Int32 × qS) :=
  fX9_rights_28 F x1 x2 x3 x4 x5 0 σ
def fX9_rights (F : Nat) (p1 : Int32) (p2 : Int32) (p3 : Int32) (p4 : Int32) (p5 : Int32) (σ : qS) : Option (Int32 × qS) :=
  bnd2 (fX9_in F p3 0 15 σ) fun v2 s1 => (if v2 = 0 then (fX9_rights_27 F p1 p2 p3 p4 p5 s1) else (bnd2 (fX9_in F p4 0 15 s1) fun v18 s17 => (if v18 = 0 then (fX9_rights_27 F p1 p2 p3 p4 p5 s17) else (fX9_rights_28 F p1 p2 p3 p4 p5 1 s17))))
set_option maxRecDepth 100000 in
set_option maxHeartbeats 4000000 in
theorem wX9_rights (l : Launch) (D : va_G) (Y : Nat → ClassId) (ad : qAd) (F : Nat) (p1 : Int32) (p2 : Int32) (p3 : Int32) (p4 : Int32) (p5 : Int32) (σ : qS) : qCi l yX9_rights cX9_rights 7 (some .int) 7 168 D (mL Y) (qT Y) ad [.ref (ad 0 0), .int p1, .int p2, .int p3, .int p4, .int p5] σ (fX9_rights F p1 p2 p3 p4 p5 σ) := by
  refine q_ofi (by decide) (Nat.le_of_ble_eq_true rfl) "LeasehallModel" rfl (fun p e s m below meth c A Q r0 S0 hf hw hret ls hl => ?_)
  replace hl : lv_has ls 7 [(0, .ref (ad 0 0)), (1, .int p1), (2, .int p2), (3, .int p3), (4, .int p4), (5, .int p5)] := hl
  unfold fX9_rights at hf
  have b97 : ∀ (t0 : Int32) (σ : qS), fX9_rights_97 F t0 σ = some r0 → qAt p l e (qRm 7 168) s m ([.ref (ad 0 0), .int p1, .int p2, .int p3, .int p4, .int p5] : List Value).toArray below meth c Q D (mL Y) (qT Y) A ad 7 0 0 97 [] [.int t0] σ := by
    clear hf hw hl ls
    intro t0 σ hf H locs ls hw hl
    unfold fX9_rights_97 at hf
    exact hret dX9_rights_97 hw hf
  have b92 : ∀ (t1 : Int32) (t2 : Int32) (t3 : Int32) (t4 : Int32) (t5 : Int32) (t6 : Int32) (σ : qS), fX9_rights_92 F t1 t2 t3 t4 t5 t6 σ = some r0 → qAt p l e (qRm 7 168) s m ([.ref (ad 0 0), .int p1, .int p2, .int p3, .int p4, .int p5] : List Value).toArray below meth c Q D (mL Y) (qT Y) A ad 7 0 0 92 [] [.int t6, .int t5, .int t4, .int t3, .int t2, .int t1, .ref (ad 0 0)] σ := by
    clear hf hw hl ls
    intro t1 t2 t3 t4 t5 t6 σ hf H locs ls hw hl
    unfold fX9_rights_92 at hf
    refine lv_iconst (v := 0) S0.1 S0.2.1 dX9_rights_92 (by decide) ?_
    refine lv_iconst (v := 0) S0.1 S0.2.1 dX9_rights_93 (by decide) ?_
    refine q_calli S0 hw (As := [.int t1, .int t2, .int t3, .int t4, .int t5, .int t6, .int 0, .int 0]) (rest := []) (wX9_act l D Y ad F t1 t2 t3 t4 t5 t6 0 0 σ) qyX9_act kw_1451 ⟨Nat.le_of_ble_eq_true rfl, Nat.le_of_ble_eq_true rfl⟩ dM_0 rfl rfl rfl rfl hl.1 (Nat.le_of_ble_eq_true rfl) dX9_rights_94 ⟨Nat.le_refl _, Nat.le_refl _⟩ rfl hf (fun v16 s15 H locs hw hf => ?_)
    exact b97 v16 s15 hf _ _ _ hw (lv_sub hl [] rfl)
  have b65 : ∀ (x1 : Int32) (x2 : Int32) (x3 : Int32) (x4 : Int32) (x5 : Int32) (t1 : Int32) (σ : qS), fX9_rights_65 F x1 x2 x3 x4 x5 t1 σ = some r0 → qAt p l e (qRm 7 168) s m ([.ref (ad 0 0), .int p1, .int p2, .int p3, .int p4, .int p5] : List Value).toArray below meth c Q D (mL Y) (qT Y) A ad 7 0 0 65 [(0, .ref (ad 0 0)), (1, .int x1), (2, .int x2), (3, .int x3), (4, .int x4), (5, .int x5)] [.int t1, .ref (ad 0 0)] σ := by
    clear hf hw hl ls
    intro x1 x2 x3 x4 x5 t1 σ hf H locs ls hw hl
    unfold fX9_rights_65 at hf
    refine q_calli S0 hw (As := [.int t1]) (rest := []) (wX9_holds l D Y ad F t1 σ) qyX9_holds kw_1335 ⟨Nat.le_of_ble_eq_true rfl, Nat.le_of_ble_eq_true rfl⟩ dM_0 rfl rfl rfl rfl hl.1 (Nat.le_of_ble_eq_true rfl) dX9_rights_65 ⟨Nat.le_refl _, Nat.le_refl _⟩ rfl hf (fun v12 s11 H locs hw hf => ?_)
    refine lv_if_eq (tgt := 75) S0.1 S0.2.1 dX9_rights_68 (by decide) (fun c13 => ?_) (fun c13 => ?_)
    · replace hf := q_pos c13 hf
      refine lv_aload_n S0.1 S0.2.1 dX9_rights_75 rfl (lv_at hl 0 rfl) ?_
      refine lv_iload_n S0.1 S0.2.1 dX9_rights_76 rfl (lv_at hl 1 rfl) ?_
      refine lv_iconst (v := 3) S0.1 S0.2.1 dX9_rights_77 (by decide) ?_
      refine lv_iload_n S0.1 S0.2.1 dX9_rights_78 rfl (lv_at hl 2 rfl) ?_
      refine lv_iload_n S0.1 S0.2.1 dX9_rights_79 rfl (lv_at hl 3 rfl) ?_
      refine lv_iload S0.1 S0.2.1 dX9_rights_80 (lv_at hl 4 rfl) ?_
      refine lv_iload S0.1 S0.2.1 dX9_rights_82 (lv_at hl 5 rfl) ?_
      refine lv_if_eq (tgt := 91) S0.1 S0.2.1 dX9_rights_84 (by decide) (fun c14 => ?_) (fun c14 => ?_)
      · replace hf := q_pos c14 hf
        refine lv_iconst (v := 0) S0.1 S0.2.1 dX9_rights_91 (by decide) ?_
        exact b92 x1 3 x2 x3 x4 0 s11 hf _ _ _ hw (lv_sub hl [] rfl)
      · replace hf := q_neg c14 hf
        refine lv_iconst (v := 1) S0.1 S0.2.1 dX9_rights_87 (by decide) ?_
        refine lv_goto (tgt := 92) S0.1 S0.2.1 dX9_rights_88 (by decide) ?_
        exact b92 x1 3 x2 x3 x4 1 s11 hf _ _ _ hw (lv_sub hl [] rfl)
    · replace hf := q_neg c13 hf
      refine lv_iconst (v := (-1)) S0.1 S0.2.1 dX9_rights_71 (by decide) ?_
      refine lv_goto (tgt := 97) S0.1 S0.2.1 dX9_rights_72 (by decide) ?_
      exact b97 ((-1)) s11 hf _ _ _ hw (lv_sub hl [] rfl)
  have b28 : ∀ (x1 : Int32) (x2 : Int32) (x3 : Int32) (x4 : Int32) (x5 : Int32) (t0 : Int32) (σ : qS), fX9_rights_28 F x1 x2 x3 x4 x5 t0 σ = some r0 → qAt p l e (qRm 7 168) s m ([.ref (ad 0 0), .int p1, .int p2, .int p3, .int p4, .int p5] : List Value).toArray below meth c Q D (mL Y) (qT Y) A ad 7 0 0 28 [(0, .ref (ad 0 0)), (1, .int x1), (2, .int x2), (3, .int x3), (4, .int x4), (5, .int x5)] [.int t0] σ := by
    clear hf hw hl ls
    intro x1 x2 x3 x4 x5 t0 σ hf H locs ls hw hl
    unfold fX9_rights_28 at hf
    refine lv_istore (lv' := [(6, .int t0), (0, .ref (ad 0 0)), (1, .int x1), (2, .int x2), (3, .int x3), (4, .int x4), (5, .int x5)]) S0.1 S0.2.1 dX9_rights_28 hl (by decide) rfl (fun ls hl => ?_)
    refine lv_aload_n S0.1 S0.2.1 dX9_rights_30 rfl (lv_at hl 1 rfl) ?_
    refine lv_aload_n S0.1 S0.2.1 dX9_rights_31 rfl (lv_at hl 1 rfl) ?_
    refine lv_iload_n S0.1 S0.2.1 dX9_rights_32 rfl (lv_at hl 2 rfl) ?_
    refine q_calli S0 hw (As := [.int x1]) (rest := [.ref (ad 0 0)]) (wX9_isSession l D Y ad F x1 σ) qyX9_isSession kw_1343 ⟨Nat.le_of_ble_eq_true rfl, Nat.le_of_ble_eq_true rfl⟩ dM_0 rfl rfl rfl rfl hl.1 (Nat.le_of_ble_eq_true rfl) dX9_rights_33 ⟨Nat.le_refl _, Nat.le_refl _⟩ rfl hf (fun v5 s4 H locs hw hf => ?_)
    refine lv_if_ne (tgt := 43) S0.1 S0.2.1 dX9_rights_36 (by decide) (fun c6 => ?_) (fun c6 => ?_)
    · replace hf := q_neg c6 hf
      refine lv_iload S0.1 S0.2.1 dX9_rights_43 (lv_at hl 0 rfl) ?_
      refine lv_if_ne (tgt := 52) S0.1 S0.2.1 dX9_rights_45 (by decide) (fun c7 => ?_) (fun c7 => ?_)
      · replace hf := q_neg c7 hf
        refine lv_aload_n S0.1 S0.2.1 dX9_rights_52 rfl (lv_at hl 1 rfl) ?_
        refine lv_iload_n S0.1 S0.2.1 dX9_rights_53 rfl (lv_at hl 2 rfl) ?_
        refine q_calli S0 hw (As := [.int x1]) (rest := [.ref (ad 0 0)]) (wX9_barred l D Y ad F x1 s4) qyX9_barred kw_1447 ⟨Nat.le_of_ble_eq_true rfl, Nat.le_of_ble_eq_true rfl⟩ dM_0 rfl rfl rfl rfl hl.1 (Nat.le_of_ble_eq_true rfl) dX9_rights_54 ⟨Nat.le_refl _, Nat.le_refl _⟩ rfl hf (fun v9 s8 H locs hw hf => ?_)
        refine lv_if_eq (tgt := 64) S0.1 S0.2.1 dX9_rights_57 (by decide) (fun c10 => ?_) (fun c10 => ?_)
        · replace hf := q_pos c10 hf
          refine lv_iconst (v := 0) S0.1 S0.2.1 dX9_rights_64 (by decide) ?_
          exact b65 x1 x2 x3 x4 x5 0 s8 hf _ _ _ hw (lv_sub hl [1, 2, 3, 4, 5, 6] rfl)
        · replace hf := q_neg c10 hf
          refine lv_iconst (v := 3) S0.1 S0.2.1 dX9_rights_60 (by decide) ?_
          refine lv_goto (tgt := 65) S0.1 S0.2.1 dX9_rights_61 (by decide) ?_
          exact b65 x1 x2 x3 x4 x5 3 s8 hf _ _ _ hw (lv_sub hl [1, 2, 3, 4, 5, 6] rfl)
      · replace hf := q_pos c7 hf
        refine lv_iconst (v := 2) S0.1 S0.2.1 dX9_rights_48 (by decide) ?_
        refine lv_goto (tgt := 65) S0.1 S0.2.1 dX9_rights_49 (by decide) ?_
        exact b65 x1 x2 x3 x4 x5 2 s4 hf _ _ _ hw (lv_sub hl [1, 2, 3, 4, 5, 6] rfl)
    · replace hf := q_pos c6 hf
      refine lv_iconst (v := 1) S0.1 S0.2.1 dX9_rights_39 (by decide) ?_
      refine lv_goto (tgt := 65) S0.1 S0.2.1 dX9_rights_40 (by decide) ?_
      exact b65 x1 x2 x3 x4 x5 1 s4 hf _ _ _ hw (lv_sub hl [1, 2, 3, 4, 5, 6] rfl)
  have b27 : ∀ (x1 : Int32) (x2 : Int32) (x3 : Int32) (x4 : Int32) (x5 : Int32) (σ : qS), fX9_rights_27 F x1 x2 x3 x4 x5 σ = some r0 → qAt p l e (qRm 7 168) s m ([.ref (ad 0 0), .int p1, .int p2, .int p3, .int p4, .int p5] : List Value).toArray below meth c Q D (mL Y) (qT Y) A ad 7 0 0 27 [(0, .ref (ad 0 0)), (1, .int x1), (2, .int x2), (3, .int x3), (4, .int x4), (5, .int x5)] [] σ := by
    clear hf hw hl ls
    intro x1 x2 x3 x4 x5 σ hf H locs ls hw hl
    unfold fX9_rights_27 at hf
    refine lv_iconst (v := 0) S0.1 S0.2.1 dX9_rights_27 (by decide) ?_
    exact b28 x1 x2 x3 x4 x5 0 σ hf _ _ _ hw (lv_sub hl [0, 1, 2, 3, 4, 5] rfl)
  refine lv_aload_n S0.1 S0.2.1 dX9_rights_0 rfl (lv_at hl 0 rfl) ?_
  refine lv_iload_n S0.1 S0.2.1 dX9_rights_1 rfl (lv_at hl 3 rfl) ?_
  refine lv_iconst (v := 0) S0.1 S0.2.1 dX9_rights_2 (by decide) ?_
  refine lv_bipush (v := 15) S0.1 S0.2.1 dX9_rights_3 (by decide) ?_
  refine q_calli S0 hw (As := [.int p3, .int 0, .int 15]) (rest := []) (wX9_in l D Y ad F p3 0 15 σ) qyX9_in kw_1331 ⟨Nat.le_of_ble_eq_true rfl, Nat.le_of_ble_eq_true rfl⟩ dM_0 rfl rfl rfl rfl hl.1 (Nat.le_of_ble_eq_true rfl) dX9_rights_5 ⟨Nat.le_refl _, Nat.le_refl _⟩ rfl hf (fun v2 s1 H locs hw hf => ?_)
  refine lv_if_eq (tgt := 27) S0.1 S0.2.1 dX9_rights_8 (by decide) (fun c3 => ?_) (fun c3 => ?_)
  · replace hf := q_pos c3 hf
    exact b27 p1 p2 p3 p4 p5 s1 hf _ _ _ hw (lv_sub hl [0, 1, 2, 3, 4, 5] rfl)
  · replace hf := q_neg c3 hf
    refine lv_aload_n S0.1 S0.2.1 dX9_rights_11 rfl (lv_at hl 0 rfl) ?_
    refine lv_iload S0.1 S0.2.1 dX9_rights_12 (lv_at hl 4 rfl) ?_
    refine lv_iconst (v := 0) S0.1 S0.2.1 dX9_rights_14 (by decide) ?_
    refine lv_bipush (v := 15) S0.1 S0.2.1 dX9_rights_15 (by decide) ?_
    refine q_calli S0 hw (As := [.int p4, .int 0, .int 15]) (rest := []) (wX9_in l D Y ad F p4 0 15 s1) qyX9_in kw_1331 ⟨Nat.le_of_ble_eq_true rfl, Nat.le_of_ble_eq_true rfl⟩ dM_0 rfl rfl rfl rfl hl.1 (Nat.le_of_ble_eq_true rfl) dX9_rights_17 ⟨Nat.le_refl _, Nat.le_refl _⟩ rfl hf (fun v18 s17 H locs hw hf => ?_)
    refine lv_if_eq (tgt := 27) S0.1 S0.2.1 dX9_rights_20 (by decide) (fun c19 => ?_) (fun c19 => ?_)
    · replace hf := q_pos c19 hf
      exact b27 p1 p2 p3 p4 p5 s17 hf _ _ _ hw (lv_sub hl [0, 1, 2, 3, 4, 5] rfl)
    · replace hf := q_neg c19 hf
      refine lv_iconst (v := 1) S0.1 S0.2.1 dX9_rights_23 (by decide) ?_
      refine lv_goto (tgt := 28) S0.1 S0.2.1 dX9_rights_24 (by decide) ?_
      exact b28 p1 p2 p3 p4 p5 1 s17 hf _ _ _ hw (lv_sub hl [0, 1, 2, 3, 4, 5] rfl)

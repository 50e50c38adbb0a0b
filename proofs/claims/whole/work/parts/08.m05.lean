def fX9_compact_44 (F : Nat) (t1 : Int32) (σ : qS) : Option (Int32 × qS) :=
  nm (qI σ 0 0 28 t1) fun s11 => (nm (s11.1 0 0 28) fun v12 => (some (v12, s11)))
def fX9_compact_19 (F : Nat) (x1 : Int32) (t1 : Int32) (σ : qS) : Option (Int32 × qS) :=
  bnd2 (fX9_holds F t1 σ) fun v6 s5 => (if v6 = 0 then (nm (s5.1 0 0 28) fun v8 => (if x1 ≤ v8 then (nm (s5.1 0 0 28) fun v10 => (fX9_compact_44 F v10 s5)) else (fX9_compact_44 F x1 s5))) else (some ((-1), s5)))
def fX9_compact (F : Nat) (p1 : Int32) (σ : qS) : Option (Int32 × qS) :=
  nm (σ.1 0 0 26) fun v1 => (bnd2 (fX9_in F p1 0 v1 σ) fun v3 s2 => (if v3 = 0 then (fX9_compact_19 F p1 1 s2) else (fX9_compact_19 F p1 0 s2)))
set_option maxRecDepth 100000 in
set_option maxHeartbeats 4000000 in
theorem wX9_compact (l : Launch) (D : va_G) (Y : Nat → ClassId) (ad : qAd) (F : Nat) (p1 : Int32) (σ : qS) : qCi l yX9_compact cX9_compact 2 (some .int) 1 23 D (mL Y) (qT Y) ad [.ref (ad 0 0), .int p1] σ (fX9_compact F p1 σ) := by
  refine q_ofi (by decide) (Nat.le_of_ble_eq_true rfl) "LeasehallModel" rfl (fun p e s m below meth c A Q r0 S0 hf hw hret ls hl => ?_)
  replace hl : lv_has ls 2 [(0, .ref (ad 0 0)), (1, .int p1)] := hl
  unfold fX9_compact at hf
  have b44 : ∀ (t1 : Int32) (σ : qS), fX9_compact_44 F t1 σ = some r0 → qAt p l e (qRm 1 23) s m ([.ref (ad 0 0), .int p1] : List Value).toArray below meth c Q D (mL Y) (qT Y) A ad 2 0 0 44 [(0, .ref (ad 0 0))] [.int t1, .ref (ad 0 0)] σ := by
    clear hf hw hl ls
    intro t1 σ hf H locs ls hw hl
    unfold fX9_compact_44 at hf
    refine pX9_compacted S0 hw kw_1176 dX9_compact_44 hf (fun s11 H locs hw hf => ?_)
    refine lv_aload_n S0.1 S0.2.1 dX9_compact_47 rfl (lv_at hl 0 rfl) ?_
    refine gX9_compacted S0 hw kw_1176 dX9_compact_48 hf (fun v12 hf => ?_)
    exact hret dX9_compact_51 hw hf
  have b19 : ∀ (x1 : Int32) (t1 : Int32) (σ : qS), fX9_compact_19 F x1 t1 σ = some r0 → qAt p l e (qRm 1 23) s m ([.ref (ad 0 0), .int p1] : List Value).toArray below meth c Q D (mL Y) (qT Y) A ad 2 0 0 19 [(0, .ref (ad 0 0)), (1, .int x1)] [.int t1, .ref (ad 0 0)] σ := by
    clear hf hw hl ls
    intro x1 t1 σ hf H locs ls hw hl
    unfold fX9_compact_19 at hf
    refine q_calli S0 hw (As := [.int t1]) (rest := []) (wX9_holds l D Y ad F t1 σ) qyX9_holds kw_1335 ⟨Nat.le_of_ble_eq_true rfl, Nat.le_of_ble_eq_true rfl⟩ dM_0 rfl rfl rfl rfl hl.1 (Nat.le_of_ble_eq_true rfl) dX9_compact_19 ⟨Nat.le_refl _, Nat.le_refl _⟩ rfl hf (fun v6 s5 H locs hw hf => ?_)
    refine lv_if_eq (tgt := 27) S0.1 S0.2.1 dX9_compact_22 (by decide) (fun c7 => ?_) (fun c7 => ?_)
    · replace hf := q_pos c7 hf
      refine lv_aload_n S0.1 S0.2.1 dX9_compact_27 rfl (lv_at hl 0 rfl) ?_
      refine lv_iload_n S0.1 S0.2.1 dX9_compact_28 rfl (lv_at hl 1 rfl) ?_
      refine lv_aload_n S0.1 S0.2.1 dX9_compact_29 rfl (lv_at hl 0 rfl) ?_
      refine gX9_compacted S0 hw kw_1176 dX9_compact_30 hf (fun v8 hf => ?_)
      refine lv_icmp_le (tgt := 40) S0.1 S0.2.1 dX9_compact_33 (by decide) (fun c9 => ?_) (fun c9 => ?_)
      · replace hf := q_pos c9 hf
        refine lv_aload_n S0.1 S0.2.1 dX9_compact_40 rfl (lv_at hl 0 rfl) ?_
        refine gX9_compacted S0 hw kw_1176 dX9_compact_41 hf (fun v10 hf => ?_)
        exact b44 v10 s5 hf _ _ _ hw (lv_sub hl [0] rfl)
      · replace hf := q_neg c9 hf
        refine lv_iload_n S0.1 S0.2.1 dX9_compact_36 rfl (lv_at hl 1 rfl) ?_
        refine lv_goto (tgt := 44) S0.1 S0.2.1 dX9_compact_37 (by decide) ?_
        exact b44 x1 s5 hf _ _ _ hw (lv_sub hl [0] rfl)
    · replace hf := q_neg c7 hf
      refine lv_iconst (v := (-1)) S0.1 S0.2.1 dX9_compact_25 (by decide) ?_
      exact hret dX9_compact_26 hw hf
  refine lv_aload_n S0.1 S0.2.1 dX9_compact_0 rfl (lv_at hl 0 rfl) ?_
  refine lv_aload_n S0.1 S0.2.1 dX9_compact_1 rfl (lv_at hl 0 rfl) ?_
  refine lv_iload_n S0.1 S0.2.1 dX9_compact_2 rfl (lv_at hl 1 rfl) ?_
  refine lv_iconst (v := 0) S0.1 S0.2.1 dX9_compact_3 (by decide) ?_
  refine lv_aload_n S0.1 S0.2.1 dX9_compact_4 rfl (lv_at hl 0 rfl) ?_
  refine gX9_last S0 hw kw_1174 dX9_compact_5 hf (fun v1 hf => ?_)
  refine q_calli S0 hw (As := [.int p1, .int 0, .int v1]) (rest := [.ref (ad 0 0)]) (wX9_in l D Y ad F p1 0 v1 σ) qyX9_in kw_1331 ⟨Nat.le_of_ble_eq_true rfl, Nat.le_of_ble_eq_true rfl⟩ dM_0 rfl rfl rfl rfl hl.1 (Nat.le_of_ble_eq_true rfl) dX9_compact_8 ⟨Nat.le_refl _, Nat.le_refl _⟩ rfl hf (fun v3 s2 H locs hw hf => ?_)
  refine lv_if_eq (tgt := 18) S0.1 S0.2.1 dX9_compact_11 (by decide) (fun c4 => ?_) (fun c4 => ?_)
  · replace hf := q_pos c4 hf
    refine lv_iconst (v := 1) S0.1 S0.2.1 dX9_compact_18 (by decide) ?_
    exact b19 p1 1 s2 hf _ _ _ hw (lv_sub hl [0, 1] rfl)
  · replace hf := q_neg c4 hf
    refine lv_iconst (v := 0) S0.1 S0.2.1 dX9_compact_14 (by decide) ?_
    refine lv_goto (tgt := 19) S0.1 S0.2.1 dX9_compact_15 (by decide) ?_
    exact b19 p1 0 s2 hf _ _ _ hw (lv_sub hl [0, 1] rfl)
def fX9_snapshot_16 (F : Nat) : Nat → Int32 → Int32 → qS → Option (Int32 × qS)
  | 0, _, _, _ => none
  | n + 1, x1, x2, σ =>
  if 80 ≤ x2 then (gbl 1 (nm (qI σ 0 0 17 1) fun s5 => (some (x1, s5)))) else (ldi 80 (σ.1 105 0) x2 fun v6 => (inx 80 x2 (nm (qI σ 115 0 x2.toNatClampNeg v6) fun s7 => (ldi 400 (s7.1 108 0) x2 fun v8 => (nm (x1 + v8) fun v9 => (nm (x2 + 1) fun v10 => (fX9_snapshot_16 F n v9 v10 s7)))))))
def fX9_snapshot (F : Nat) (σ : qS) : Option (Int32 × qS) :=
  bnd2 (fX9_holds F 0 σ) fun v2 s1 => (bnd (fX9_copy F 0 3 s1) fun s3 => (fX9_snapshot_16 F F 0 0 s3))
set_option maxRecDepth 100000 in
set_option maxHeartbeats 4000000 in
theorem wX9_snapshot (l : Launch) (D : va_G) (Y : Nat → ClassId) (ad : qAd) (F : Nat) (σ : qS) : qCi l yX9_snapshot cX9_snapshot 3 (some .int) 1 25 D (mL Y) (qT Y) ad [.ref (ad 0 0)] σ (fX9_snapshot F σ) := by
  refine q_ofi (by decide) (Nat.le_of_ble_eq_true rfl) "LeasehallModel" rfl (fun p e s m below meth c A Q r0 S0 hf hw hret ls hl => ?_)
  replace hl : lv_has ls 3 [(0, .ref (ad 0 0))] := hl
  unfold fX9_snapshot at hf
  have b16 : ∀ (n : Nat) (x1 : Int32) (x2 : Int32) (σ : qS), fX9_snapshot_16 F n x1 x2 σ = some r0 → qAt p l e (qRm 1 25) s m ([.ref (ad 0 0)] : List Value).toArray below meth c Q D (mL Y) (qT Y) A ad 3 0 0 16 [(0, .ref (ad 0 0)), (1, .int x1), (2, .int x2)] [] σ := by
    clear hf hw hl ls
    intro n
    induction n with
    | zero => intro x1 x2 σ hf; exact absurd hf (by rw [fX9_snapshot_16]; exact nofun)
    | succ n hk16 =>
      intro x1 x2 σ hf H locs ls hw hl
      rw [fX9_snapshot_16] at hf
      refine lv_iload_n S0.1 S0.2.1 dX9_snapshot_16 rfl (lv_at hl 2 rfl) ?_
      refine lv_bipush (v := 80) S0.1 S0.2.1 dX9_snapshot_17 (by decide) ?_
      refine lv_icmp_ge (tgt := 49) S0.1 S0.2.1 dX9_snapshot_19 (by decide) (fun c4 => ?_) (fun c4 => ?_)
      · replace hf := q_pos c4 hf
        refine lv_aload_n S0.1 S0.2.1 dX9_snapshot_49 rfl (lv_at hl 0 rfl) ?_
        refine lv_iconst (v := 1) S0.1 S0.2.1 dX9_snapshot_50 (by decide) ?_
        refine pX9_isKept S0 hw kw_1165 dX9_snapshot_51 hf (fun s5 H locs hw hf => ?_)
        refine lv_iload_n S0.1 S0.2.1 dX9_snapshot_54 rfl (lv_at hl 1 rfl) ?_
        exact hret dX9_snapshot_55 hw hf
      · replace hf := q_neg c4 hf
        refine lv_aload_n S0.1 S0.2.1 dX9_snapshot_22 rfl (lv_at hl 0 rfl) ?_
        refine gX9_keptCount S0 hw kw_1163 dX9_snapshot_23 ?_
        refine lv_iload_n S0.1 S0.2.1 dX9_snapshot_26 rfl (lv_at hl 2 rfl) ?_
        refine lv_aload_n S0.1 S0.2.1 dX9_snapshot_27 rfl (lv_at hl 0 rfl) ?_
        refine gX9_counted S0 hw kw_1153 dX9_snapshot_28 ?_
        refine lv_iload_n S0.1 S0.2.1 dX9_snapshot_31 rfl (lv_at hl 2 rfl) ?_
        refine q_iald S0 hw dM_105 (t0 := 0) rfl rfl dX9_snapshot_32 hf (fun v6 hf => ?_)
        refine q_iast S0 hw dM_115 (t0 := 0) (fun _ => rfl) rfl dX9_snapshot_33 hf (fun s7 H locs hw hf => ?_)
        refine lv_iload_n S0.1 S0.2.1 dX9_snapshot_34 rfl (lv_at hl 1 rfl) ?_
        refine lv_aload_n S0.1 S0.2.1 dX9_snapshot_35 rfl (lv_at hl 0 rfl) ?_
        refine gX9_is S0 hw kw_1156 dX9_snapshot_36 ?_
        refine lv_iload_n S0.1 S0.2.1 dX9_snapshot_39 rfl (lv_at hl 2 rfl) ?_
        refine q_iald S0 hw dM_108 (t0 := 0) rfl rfl dX9_snapshot_40 hf (fun v8 hf => ?_)
        refine lv_iadd S0.1 S0.2.1 dX9_snapshot_41 (q_top hf (fun v9 hf => ?_))
        refine lv_istore_n (lv' := [(1, .int v9), (0, .ref (ad 0 0)), (2, .int x2)]) S0.1 S0.2.1 dX9_snapshot_42 rfl hl (by decide) rfl (fun ls hl => ?_)
        refine q_iinc S0 (v0 := 1) dX9_snapshot_43 hl (k := 2) rfl (by decide) (by decide) rfl hf (fun v10 ls hl hf => ?_)
        refine lv_goto (tgt := 16) S0.1 S0.2.1 dX9_snapshot_46 (by decide) ?_
        exact hk16 v9 v10 s7 hf _ _ _ hw (lv_sub hl [2, 1, 0] rfl)
  refine lv_aload_n S0.1 S0.2.1 dX9_snapshot_0 rfl (lv_at hl 0 rfl) ?_
  refine lv_iconst (v := 0) S0.1 S0.2.1 dX9_snapshot_1 (by decide) ?_
  refine q_calli S0 hw (As := [.int 0]) (rest := []) (wX9_holds l D Y ad F 0 σ) qyX9_holds kw_1335 ⟨Nat.le_of_ble_eq_true rfl, Nat.le_of_ble_eq_true rfl⟩ dM_0 rfl rfl rfl rfl hl.1 (Nat.le_of_ble_eq_true rfl) dX9_snapshot_2 ⟨Nat.le_refl _, Nat.le_refl _⟩ rfl hf (fun v2 s1 H locs hw hf => ?_)
  refine lv_pop S0.1 S0.2.1 dX9_snapshot_5 rfl ?_
  refine lv_aload_n S0.1 S0.2.1 dX9_snapshot_6 rfl (lv_at hl 0 rfl) ?_
  refine lv_iconst (v := 0) S0.1 S0.2.1 dX9_snapshot_7 (by decide) ?_
  refine lv_iconst (v := 3) S0.1 S0.2.1 dX9_snapshot_8 (by decide) ?_
  refine q_callv S0 hw (As := [.int 0, .int 3]) (rest := []) (wX9_copy l D Y ad F 0 3 s1) qyX9_copy kw_1363 ⟨Nat.le_of_ble_eq_true rfl, Nat.le_of_ble_eq_true rfl⟩ dM_0 rfl rfl rfl rfl hl.1 (Nat.le_of_ble_eq_true rfl) dX9_snapshot_9 ⟨Nat.le_refl _, Nat.le_refl _⟩ rfl hf (fun s3 H locs hw hf => ?_)
  refine lv_iconst (v := 0) S0.1 S0.2.1 dX9_snapshot_12 (by decide) ?_
  refine lv_istore_n (lv' := [(1, .int 0), (0, .ref (ad 0 0))]) S0.1 S0.2.1 dX9_snapshot_13 rfl hl (by decide) rfl (fun ls hl => ?_)
  refine lv_iconst (v := 0) S0.1 S0.2.1 dX9_snapshot_14 (by decide) ?_
  refine lv_istore_n (lv' := [(2, .int 0), (1, .int 0), (0, .ref (ad 0 0))]) S0.1 S0.2.1 dX9_snapshot_15 rfl hl (by decide) rfl (fun ls hl => ?_)
  exact b16 F 0 0 s3 hf _ _ _ hw (lv_sub hl [2, 1, 0] rfl)
def fX9_restore_255 (F : Nat) : Nat → Int32 → qS → Option (Int32 × qS)
  | 0, _, _ => none
  | n + 1, x1, σ =>
  nm (σ.1 0 0 52) fun v18 => (if v18 ≤ x1 then (nm (σ.1 0 0 26) fun v20 => (nm (qI σ 0 0 28 v20) fun s21 => (nm (s21.1 0 0 26) fun v22 => (some (v22, s21))))) else (inx 10 x1 (nm (qI σ 151 0 x1.toNatClampNeg 1) fun s23 => (nm (x1 + 1) fun v24 => (fX9_restore_255 F n v24 s23)))))
def fX9_restore_204 (F : Nat) : Nat → Int32 → qS → Option (Int32 × qS)
  | 0, _, _ => none
  | n + 1, x1, σ =>
  nm (σ.1 0 0 48) fun v16 => (if v16 ≤ x1 then (fX9_restore_255 F F 0 σ) else (inx 10 x1 (nm (qI σ 135 0 x1.toNatClampNeg 1) fun s25 => (inx 10 x1 (nm (qI s25 136 0 x1.toNatClampNeg 0) fun s26 => (inx 10 x1 (nm (qI s26 143 0 x1.toNatClampNeg 0) fun s27 => (inx 10 x1 (nm (qI s27 146 0 x1.toNatClampNeg 0) fun s28 => (inx 10 x1 (nm (qI s28 145 0 x1.toNatClampNeg 0) fun s29 => (nm (x1 + 1) fun v30 => (fX9_restore_204 F n v30 s29)))))))))))))
def fX9_restore_176 (F : Nat) (k161 : Int32 → qS → Option (Int32 × qS)) (x1 : Int32) (σ : qS) : Option (Int32 × qS) :=
  nm (σ.1 0 0 25) fun v32 => (inx 3 x1 (nm (qI σ 129 0 x1.toNatClampNeg v32) fun s33 => (nm (s33.1 0 0 26) fun v34 => (inx 3 x1 (nm (qI s33 130 0 x1.toNatClampNeg v34) fun s35 => (nm (x1 + 1) fun v36 => (k161 v36 s35)))))))
def fX9_restore_161 (F : Nat) : Nat → Int32 → qS → Option (Int32 × qS)
  | 0, _, _ => none
  | n + 1, x1, σ =>
  if 3 ≤ x1 then (fX9_restore_204 F F 0 σ) else (if x1 ≤ 0 then (fX9_restore_176 F (fX9_restore_161 F n) x1 σ) else (bnd (fX9_copy F 0 x1 σ) fun s37 => (fX9_restore_176 F (fX9_restore_161 F n) x1 s37)))
def fX9_restore_153 (F : Nat) (k55 : Int32 → qS → Option (Int32 × qS)) (x1 : Int32) (σ : qS) : Option (Int32 × qS) :=
  nm (x1 + 1) fun v47 => (k55 v47 σ)
def fX9_restore_129 (F : Nat) (k55 : Int32 → qS → Option (Int32 × qS)) (x1 : Int32) (t1 : Int32) (t2 : Int32) (σ : qS) : Option (Int32 × qS) :=
  inx 80 t1 (nm (qI σ 105 0 t1.toNatClampNeg t2) fun s44 => (ldi 400 (s44.1 108 0) x1 fun v45 => (if v45 = 1 then (ldi 400 (s44.1 109 0) x1 fun v48 => (bnd (fX9_log F 5 x1 v48 0 s44) fun s49 => (fX9_restore_153 F k55 x1 s49))) else (fX9_restore_153 F k55 x1 s44))))
def fX9_restore_98 (F : Nat) (k55 : Int32 → qS → Option (Int32 × qS)) (x1 : Int32) (t1 : Int32) (t2 : Int32) (σ : qS) : Option (Int32 × qS) :=
  inx 400 t1 (nm (qI σ 108 0 t1.toNatClampNeg t2) fun s40 => (ldi 400 (s40.1 108 0) x1 fun v41 => (if v41 = 1 then (ldi 80 (s40.1 115 0) x1 fun v50 => (fX9_restore_129 F k55 x1 x1 v50 s40)) else (ldi 80 (s40.1 105 0) x1 fun v43 => (fX9_restore_129 F k55 x1 x1 v43 s40)))))
def fX9_restore_88 (F : Nat) (k55 : Int32 → qS → Option (Int32 × qS)) (x1 : Int32) (t1 : Int32) (σ : qS) : Option (Int32 × qS) :=
  fX9_restore_98 F k55 x1 t1 0 σ
def fX9_restore_55 (F : Nat) : Nat → Int32 → qS → Option (Int32 × qS)
  | 0, _, _ => none
  | n + 1, x1, σ =>
  nm (σ.1 0 0 7) fun v13 => (if v13 ≤ x1 then (fX9_restore_161 F F 0 σ) else (ldi 80 (σ.1 102 0) x1 fun v38 => (if v38 = 1 then (fX9_restore_88 F (fX9_restore_55 F n) x1 x1 σ) else (ldi 80 (σ.1 102 0) x1 fun v51 => (if v51 = 2 then (fX9_restore_88 F (fX9_restore_55 F n) x1 x1 σ) else (ldi 400 (σ.1 108 0) x1 fun v53 => (fX9_restore_98 F (fX9_restore_55 F n) x1 x1 v53 σ)))))))
def fX9_restore_13 (F : Nat) (t1 : Int32) (σ : qS) : Option (Int32 × qS) :=
  bnd2 (fX9_holds F t1 σ) fun v4 s3 => (if v4 = 0 then (nm (s3.1 0 0 26) fun v6 => (nm (v6 + 1) fun v7 => (nm (qI s3 0 0 26 v7) fun s8 => (nm (s8.1 0 0 26) fun v9 => (nm (qI s8 0 0 27 v9) fun s10 => (bnd (fX9_copy F 3 0 s10) fun s11 => (bnd (fX9_log F 4 ((-1)) 0 0 s11) fun s12 => (fX9_restore_55 F F 0 s12)))))))) else (some ((-1), s3)))
def fX9_restore (F : Nat) (σ : qS) : Option (Int32 × qS) :=
  nm (σ.1 0 0 17) fun v1 => (if v1 = 0 then (fX9_restore_13 F 1 σ) else (fX9_restore_13 F 0 σ))
set_option maxRecDepth 100000 in
set_option maxHeartbeats 4000000 in
theorem wX9_restore (l : Launch) (D : va_G) (Y : Nat → ClassId) (ad : qAd) (F : Nat) (σ : qS) : qCi l yX9_restore cX9_restore 2 (some .int) 1 25 D (mL Y) (qT Y) ad [.ref (ad 0 0)] σ (fX9_restore F σ) := by
  refine q_ofi (by decide) (Nat.le_of_ble_eq_true rfl) "LeasehallModel" rfl (fun p e s m below meth c A Q r0 S0 hf hw hret ls hl => ?_)
  replace hl : lv_has ls 2 [(0, .ref (ad 0 0))] := hl
  unfold fX9_restore at hf
  have b255 : ∀ (n : Nat) (x1 : Int32) (σ : qS), fX9_restore_255 F n x1 σ = some r0 → qAt p l e (qRm 1 25) s m ([.ref (ad 0 0)] : List Value).toArray below meth c Q D (mL Y) (qT Y) A ad 2 0 0 255 [(0, .ref (ad 0 0)), (1, .int x1)] [] σ := by
    clear hf hw hl ls
    intro n
    induction n with
    | zero => intro x1 σ hf; exact absurd hf (by rw [fX9_restore_255]; exact nofun)
    | succ n hk255 =>
      intro x1 σ hf H locs ls hw hl
      rw [fX9_restore_255] at hf
      refine lv_iload_n S0.1 S0.2.1 dX9_restore_255 rfl (lv_at hl 1 rfl) ?_
      refine lv_aload_n S0.1 S0.2.1 dX9_restore_256 rfl (lv_at hl 0 rfl) ?_
      refine gX9_leases S0 hw kw_1200 dX9_restore_257 hf (fun v18 hf => ?_)
      refine lv_icmp_ge (tgt := 276) S0.1 S0.2.1 dX9_restore_260 (by decide) (fun c19 => ?_) (fun c19 => ?_)
      · replace hf := q_pos c19 hf
        refine lv_aload_n S0.1 S0.2.1 dX9_restore_276 rfl (lv_at hl 0 rfl) ?_
        refine lv_aload_n S0.1 S0.2.1 dX9_restore_277 rfl (lv_at hl 0 rfl) ?_
        refine gX9_last S0 hw kw_1174 dX9_restore_278 hf (fun v20 hf => ?_)
        refine pX9_compacted S0 hw kw_1176 dX9_restore_281 hf (fun s21 H locs hw hf => ?_)
        refine lv_aload_n S0.1 S0.2.1 dX9_restore_284 rfl (lv_at hl 0 rfl) ?_
        refine gX9_last S0 hw kw_1174 dX9_restore_285 hf (fun v22 hf => ?_)
        exact hret dX9_restore_288 hw hf
      · replace hf := q_neg c19 hf
        refine lv_aload_n S0.1 S0.2.1 dX9_restore_263 rfl (lv_at hl 0 rfl) ?_
        refine gX9_le S0 hw kw_1199 dX9_restore_264 ?_
        refine lv_iload_n S0.1 S0.2.1 dX9_restore_267 rfl (lv_at hl 1 rfl) ?_
        refine lv_iconst (v := 1) S0.1 S0.2.1 dX9_restore_268 (by decide) ?_
        refine q_iast S0 hw dM_151 (t0 := 0) (fun _ => rfl) rfl dX9_restore_269 hf (fun s23 H locs hw hf => ?_)
        refine q_iinc S0 (v0 := 1) dX9_restore_270 hl (k := 1) rfl (by decide) (by decide) rfl hf (fun v24 ls hl hf => ?_)
        refine lv_goto (tgt := 255) S0.1 S0.2.1 dX9_restore_273 (by decide) ?_
        exact hk255 v24 s23 hf _ _ _ hw (lv_sub hl [1, 0] rfl)
  have b204 : ∀ (n : Nat) (x1 : Int32) (σ : qS), fX9_restore_204 F n x1 σ = some r0 → qAt p l e (qRm 1 25) s m ([.ref (ad 0 0)] : List Value).toArray below meth c Q D (mL Y) (qT Y) A ad 2 0 0 204 [(0, .ref (ad 0 0)), (1, .int x1)] [] σ := by
    clear hf hw hl ls
    intro n
    induction n with
    | zero => intro x1 σ hf; exact absurd hf (by rw [fX9_restore_204]; exact nofun)
    | succ n hk204 =>
      intro x1 σ hf H locs ls hw hl
      rw [fX9_restore_204] at hf
      refine lv_iload_n S0.1 S0.2.1 dX9_restore_204 rfl (lv_at hl 1 rfl) ?_
      refine lv_aload_n S0.1 S0.2.1 dX9_restore_205 rfl (lv_at hl 0 rfl) ?_
      refine gX9_sessions S0 hw kw_1196 dX9_restore_206 hf (fun v16 hf => ?_)
      refine lv_icmp_ge (tgt := 253) S0.1 S0.2.1 dX9_restore_209 (by decide) (fun c17 => ?_) (fun c17 => ?_)
      · replace hf := q_pos c17 hf
        refine lv_iconst (v := 0) S0.1 S0.2.1 dX9_restore_253 (by decide) ?_
        refine lv_istore_n (lv' := [(1, .int 0), (0, .ref (ad 0 0))]) S0.1 S0.2.1 dX9_restore_254 rfl hl (by decide) rfl (fun ls hl => ?_)
        exact b255 F 0 σ hf _ _ _ hw (lv_sub hl [1, 0] rfl)
      · replace hf := q_neg c17 hf
        refine lv_aload_n S0.1 S0.2.1 dX9_restore_212 rfl (lv_at hl 0 rfl) ?_
        refine gX9_ze S0 hw kw_1183 dX9_restore_213 ?_
        refine lv_iload_n S0.1 S0.2.1 dX9_restore_216 rfl (lv_at hl 1 rfl) ?_
        refine lv_iconst (v := 1) S0.1 S0.2.1 dX9_restore_217 (by decide) ?_
        refine q_iast S0 hw dM_135 (t0 := 0) (fun _ => rfl) rfl dX9_restore_218 hf (fun s25 H locs hw hf => ?_)
        refine lv_aload_n S0.1 S0.2.1 dX9_restore_219 rfl (lv_at hl 0 rfl) ?_
        refine gX9_zg S0 hw kw_1184 dX9_restore_220 ?_
        refine lv_iload_n S0.1 S0.2.1 dX9_restore_223 rfl (lv_at hl 1 rfl) ?_
        refine lv_iconst (v := 0) S0.1 S0.2.1 dX9_restore_224 (by decide) ?_
        refine q_iast S0 hw dM_136 (t0 := 0) (fun _ => rfl) rfl dX9_restore_225 hf (fun s26 H locs hw hf => ?_)
        refine lv_aload_n S0.1 S0.2.1 dX9_restore_226 rfl (lv_at hl 0 rfl) ?_
        refine gX9_watches S0 hw kw_1191 dX9_restore_227 ?_
        refine lv_iload_n S0.1 S0.2.1 dX9_restore_230 rfl (lv_at hl 1 rfl) ?_
        refine lv_iconst (v := 0) S0.1 S0.2.1 dX9_restore_231 (by decide) ?_
        refine q_iast S0 hw dM_143 (t0 := 0) (fun _ => rfl) rfl dX9_restore_232 hf (fun s27 H locs hw hf => ?_)
        refine lv_aload_n S0.1 S0.2.1 dX9_restore_233 rfl (lv_at hl 0 rfl) ?_
        refine gX9_tells S0 hw kw_1194 dX9_restore_234 ?_
        refine lv_iload_n S0.1 S0.2.1 dX9_restore_237 rfl (lv_at hl 1 rfl) ?_
        refine lv_iconst (v := 0) S0.1 S0.2.1 dX9_restore_238 (by decide) ?_
        refine q_iast S0 hw dM_146 (t0 := 0) (fun _ => rfl) rfl dX9_restore_239 hf (fun s28 H locs hw hf => ?_)
        refine lv_aload_n S0.1 S0.2.1 dX9_restore_240 rfl (lv_at hl 0 rfl) ?_
        refine gX9_heard S0 hw kw_1193 dX9_restore_241 ?_
        refine lv_iload_n S0.1 S0.2.1 dX9_restore_244 rfl (lv_at hl 1 rfl) ?_
        refine lv_iconst (v := 0) S0.1 S0.2.1 dX9_restore_245 (by decide) ?_
        refine q_iast S0 hw dM_145 (t0 := 0) (fun _ => rfl) rfl dX9_restore_246 hf (fun s29 H locs hw hf => ?_)
        refine q_iinc S0 (v0 := 1) dX9_restore_247 hl (k := 1) rfl (by decide) (by decide) rfl hf (fun v30 ls hl hf => ?_)
        refine lv_goto (tgt := 204) S0.1 S0.2.1 dX9_restore_250 (by decide) ?_
        exact hk204 v30 s29 hf _ _ _ hw (lv_sub hl [1, 0] rfl)
  have b176 : ∀ (k161 : Int32 → qS → Option (Int32 × qS)) (hk161 : ∀ (x1 : Int32) (σ : qS), k161 x1 σ = some r0 → qAt p l e (qRm 1 25) s m ([.ref (ad 0 0)] : List Value).toArray below meth c Q D (mL Y) (qT Y) A ad 2 0 0 161 [(0, .ref (ad 0 0)), (1, .int x1)] [] σ) (x1 : Int32) (σ : qS), fX9_restore_176 F k161 x1 σ = some r0 → qAt p l e (qRm 1 25) s m ([.ref (ad 0 0)] : List Value).toArray below meth c Q D (mL Y) (qT Y) A ad 2 0 0 176 [(0, .ref (ad 0 0)), (1, .int x1)] [] σ := by
    clear hf hw hl ls
    intro k161 hk161
    intro x1 σ hf H locs ls hw hl
    unfold fX9_restore_176 at hf
    refine lv_aload_n S0.1 S0.2.1 dX9_restore_176 rfl (lv_at hl 0 rfl) ?_
    refine gX9_pos S0 hw kw_1177 dX9_restore_177 ?_
    refine lv_iload_n S0.1 S0.2.1 dX9_restore_180 rfl (lv_at hl 1 rfl) ?_
    refine lv_aload_n S0.1 S0.2.1 dX9_restore_181 rfl (lv_at hl 0 rfl) ?_
    refine gX9_steps S0 hw kw_1173 dX9_restore_182 hf (fun v32 hf => ?_)
    refine q_iast S0 hw dM_129 (t0 := 0) (fun _ => rfl) rfl dX9_restore_185 hf (fun s33 H locs hw hf => ?_)
    refine lv_aload_n S0.1 S0.2.1 dX9_restore_186 rfl (lv_at hl 0 rfl) ?_
    refine gX9_got S0 hw kw_1178 dX9_restore_187 ?_
    refine lv_iload_n S0.1 S0.2.1 dX9_restore_190 rfl (lv_at hl 1 rfl) ?_
    refine lv_aload_n S0.1 S0.2.1 dX9_restore_191 rfl (lv_at hl 0 rfl) ?_
    refine gX9_last S0 hw kw_1174 dX9_restore_192 hf (fun v34 hf => ?_)
    refine q_iast S0 hw dM_130 (t0 := 0) (fun _ => rfl) rfl dX9_restore_195 hf (fun s35 H locs hw hf => ?_)
    refine q_iinc S0 (v0 := 1) dX9_restore_196 hl (k := 1) rfl (by decide) (by decide) rfl hf (fun v36 ls hl hf => ?_)
    refine lv_goto (tgt := 161) S0.1 S0.2.1 dX9_restore_199 (by decide) ?_
    exact hk161 v36 s35 hf _ _ _ hw (lv_sub hl [1, 0] rfl)
  have b161 : ∀ (n : Nat) (x1 : Int32) (σ : qS), fX9_restore_161 F n x1 σ = some r0 → qAt p l e (qRm 1 25) s m ([.ref (ad 0 0)] : List Value).toArray below meth c Q D (mL Y) (qT Y) A ad 2 0 0 161 [(0, .ref (ad 0 0)), (1, .int x1)] [] σ := by
    clear hf hw hl ls
    intro n
    induction n with
    | zero => intro x1 σ hf; exact absurd hf (by rw [fX9_restore_161]; exact nofun)
    | succ n hk161 =>
      intro x1 σ hf H locs ls hw hl
      rw [fX9_restore_161] at hf
      refine lv_iload_n S0.1 S0.2.1 dX9_restore_161 rfl (lv_at hl 1 rfl) ?_
      refine lv_iconst (v := 3) S0.1 S0.2.1 dX9_restore_162 (by decide) ?_
      refine lv_icmp_ge (tgt := 202) S0.1 S0.2.1 dX9_restore_163 (by decide) (fun c15 => ?_) (fun c15 => ?_)
      · replace hf := q_pos c15 hf
        refine lv_iconst (v := 0) S0.1 S0.2.1 dX9_restore_202 (by decide) ?_
        refine lv_istore_n (lv' := [(1, .int 0), (0, .ref (ad 0 0))]) S0.1 S0.2.1 dX9_restore_203 rfl hl (by decide) rfl (fun ls hl => ?_)
        exact b204 F 0 σ hf _ _ _ hw (lv_sub hl [1, 0] rfl)
      · replace hf := q_neg c15 hf
        refine lv_iload_n S0.1 S0.2.1 dX9_restore_166 rfl (lv_at hl 1 rfl) ?_
        refine lv_if_le (tgt := 176) S0.1 S0.2.1 dX9_restore_167 (by decide) (fun c31 => ?_) (fun c31 => ?_)
        · replace hf := q_pos c31 hf
          exact b176 (fX9_restore_161 F n) hk161 x1 σ hf _ _ _ hw (lv_sub hl [0, 1] rfl)
        · replace hf := q_neg c31 hf
          refine lv_aload_n S0.1 S0.2.1 dX9_restore_170 rfl (lv_at hl 0 rfl) ?_
          refine lv_iconst (v := 0) S0.1 S0.2.1 dX9_restore_171 (by decide) ?_
          refine lv_iload_n S0.1 S0.2.1 dX9_restore_172 rfl (lv_at hl 1 rfl) ?_
          refine q_callv S0 hw (As := [.int 0, .int x1]) (rest := []) (wX9_copy l D Y ad F 0 x1 σ) qyX9_copy kw_1363 ⟨Nat.le_of_ble_eq_true rfl, Nat.le_of_ble_eq_true rfl⟩ dM_0 rfl rfl rfl rfl hl.1 (Nat.le_of_ble_eq_true rfl) dX9_restore_173 ⟨Nat.le_refl _, Nat.le_refl _⟩ rfl hf (fun s37 H locs hw hf => ?_)
          exact b176 (fX9_restore_161 F n) hk161 x1 s37 hf _ _ _ hw (lv_sub hl [0, 1] rfl)
  have b153 : ∀ (k55 : Int32 → qS → Option (Int32 × qS)) (hk55 : ∀ (x1 : Int32) (σ : qS), k55 x1 σ = some r0 → qAt p l e (qRm 1 25) s m ([.ref (ad 0 0)] : List Value).toArray below meth c Q D (mL Y) (qT Y) A ad 2 0 0 55 [(0, .ref (ad 0 0)), (1, .int x1)] [] σ) (x1 : Int32) (σ : qS), fX9_restore_153 F k55 x1 σ = some r0 → qAt p l e (qRm 1 25) s m ([.ref (ad 0 0)] : List Value).toArray below meth c Q D (mL Y) (qT Y) A ad 2 0 0 153 [(0, .ref (ad 0 0)), (1, .int x1)] [] σ := by
    clear hf hw hl ls
    intro k55 hk55
    intro x1 σ hf H locs ls hw hl
    unfold fX9_restore_153 at hf
    refine q_iinc S0 (v0 := 1) dX9_restore_153 hl (k := 1) rfl (by decide) (by decide) rfl hf (fun v47 ls hl hf => ?_)
    refine lv_goto (tgt := 55) S0.1 S0.2.1 dX9_restore_156 (by decide) ?_
    exact hk55 v47 σ hf _ _ _ hw (lv_sub hl [1, 0] rfl)
  have b129 : ∀ (k55 : Int32 → qS → Option (Int32 × qS)) (hk55 : ∀ (x1 : Int32) (σ : qS), k55 x1 σ = some r0 → qAt p l e (qRm 1 25) s m ([.ref (ad 0 0)] : List Value).toArray below meth c Q D (mL Y) (qT Y) A ad 2 0 0 55 [(0, .ref (ad 0 0)), (1, .int x1)] [] σ) (x1 : Int32) (t1 : Int32) (t2 : Int32) (σ : qS), fX9_restore_129 F k55 x1 t1 t2 σ = some r0 → qAt p l e (qRm 1 25) s m ([.ref (ad 0 0)] : List Value).toArray below meth c Q D (mL Y) (qT Y) A ad 2 0 0 129 [(0, .ref (ad 0 0)), (1, .int x1)] [.int t2, .int t1, .ref (ad 105 0)] σ := by
    clear hf hw hl ls
    intro k55 hk55
    intro x1 t1 t2 σ hf H locs ls hw hl
    unfold fX9_restore_129 at hf
    refine q_iast S0 hw dM_105 (t0 := 0) (fun _ => rfl) rfl dX9_restore_129 hf (fun s44 H locs hw hf => ?_)
    refine lv_aload_n S0.1 S0.2.1 dX9_restore_130 rfl (lv_at hl 0 rfl) ?_
    refine gX9_is S0 hw kw_1156 dX9_restore_131 ?_
    refine lv_iload_n S0.1 S0.2.1 dX9_restore_134 rfl (lv_at hl 1 rfl) ?_
    refine q_iald S0 hw dM_108 (t0 := 0) rfl rfl dX9_restore_135 hf (fun v45 hf => ?_)
    refine lv_iconst (v := 1) S0.1 S0.2.1 dX9_restore_136 (by decide) ?_
    refine lv_icmp_ne (tgt := 153) S0.1 S0.2.1 dX9_restore_137 (by decide) (fun c46 => ?_) (fun c46 => ?_)
    · replace hf := q_neg c46 hf
      exact b153 k55 hk55 x1 s44 hf _ _ _ hw (lv_sub hl [0, 1] rfl)
    · replace hf := q_pos c46 hf
      refine lv_aload_n S0.1 S0.2.1 dX9_restore_140 rfl (lv_at hl 0 rfl) ?_
      refine lv_iconst (v := 5) S0.1 S0.2.1 dX9_restore_141 (by decide) ?_
      refine lv_iload_n S0.1 S0.2.1 dX9_restore_142 rfl (lv_at hl 1 rfl) ?_
      refine lv_aload_n S0.1 S0.2.1 dX9_restore_143 rfl (lv_at hl 0 rfl) ?_
      refine gX9_val S0 hw kw_1157 dX9_restore_144 ?_
      refine lv_iload_n S0.1 S0.2.1 dX9_restore_147 rfl (lv_at hl 1 rfl) ?_
      refine q_iald S0 hw dM_109 (t0 := 0) rfl rfl dX9_restore_148 hf (fun v48 hf => ?_)
      refine lv_iconst (v := 0) S0.1 S0.2.1 dX9_restore_149 (by decide) ?_
      refine q_callv S0 hw (As := [.int 5, .int x1, .int v48, .int 0]) (rest := []) (wX9_log l D Y ad F 5 x1 v48 0 s44) qyX9_log kw_1375 ⟨Nat.le_of_ble_eq_true rfl, Nat.le_of_ble_eq_true rfl⟩ dM_0 rfl rfl rfl rfl hl.1 (Nat.le_of_ble_eq_true rfl) dX9_restore_150 ⟨Nat.le_refl _, Nat.le_refl _⟩ rfl hf (fun s49 H locs hw hf => ?_)
      exact b153 k55 hk55 x1 s49 hf _ _ _ hw (lv_sub hl [0, 1] rfl)
  have b98 : ∀ (k55 : Int32 → qS → Option (Int32 × qS)) (hk55 : ∀ (x1 : Int32) (σ : qS), k55 x1 σ = some r0 → qAt p l e (qRm 1 25) s m ([.ref (ad 0 0)] : List Value).toArray below meth c Q D (mL Y) (qT Y) A ad 2 0 0 55 [(0, .ref (ad 0 0)), (1, .int x1)] [] σ) (x1 : Int32) (t1 : Int32) (t2 : Int32) (σ : qS), fX9_restore_98 F k55 x1 t1 t2 σ = some r0 → qAt p l e (qRm 1 25) s m ([.ref (ad 0 0)] : List Value).toArray below meth c Q D (mL Y) (qT Y) A ad 2 0 0 98 [(0, .ref (ad 0 0)), (1, .int x1)] [.int t2, .int t1, .ref (ad 108 0)] σ := by
    clear hf hw hl ls
    intro k55 hk55
    intro x1 t1 t2 σ hf H locs ls hw hl
    unfold fX9_restore_98 at hf
    refine q_iast S0 hw dM_108 (t0 := 0) (fun _ => rfl) rfl dX9_restore_98 hf (fun s40 H locs hw hf => ?_)
    refine lv_aload_n S0.1 S0.2.1 dX9_restore_99 rfl (lv_at hl 0 rfl) ?_
    refine gX9_counted S0 hw kw_1153 dX9_restore_100 ?_
    refine lv_iload_n S0.1 S0.2.1 dX9_restore_103 rfl (lv_at hl 1 rfl) ?_
    refine lv_aload_n S0.1 S0.2.1 dX9_restore_104 rfl (lv_at hl 0 rfl) ?_
    refine gX9_is S0 hw kw_1156 dX9_restore_105 ?_
    refine lv_iload_n S0.1 S0.2.1 dX9_restore_108 rfl (lv_at hl 1 rfl) ?_
    refine q_iald S0 hw dM_108 (t0 := 0) rfl rfl dX9_restore_109 hf (fun v41 hf => ?_)
    refine lv_iconst (v := 1) S0.1 S0.2.1 dX9_restore_110 (by decide) ?_
    refine lv_icmp_ne (tgt := 123) S0.1 S0.2.1 dX9_restore_111 (by decide) (fun c42 => ?_) (fun c42 => ?_)
    · replace hf := q_neg c42 hf
      refine lv_aload_n S0.1 S0.2.1 dX9_restore_123 rfl (lv_at hl 0 rfl) ?_
      refine gX9_counted S0 hw kw_1153 dX9_restore_124 ?_
      refine lv_iload_n S0.1 S0.2.1 dX9_restore_127 rfl (lv_at hl 1 rfl) ?_
      refine q_iald S0 hw dM_105 (t0 := 0) rfl rfl dX9_restore_128 hf (fun v43 hf => ?_)
      exact b129 k55 hk55 x1 x1 v43 s40 hf _ _ _ hw (lv_sub hl [0, 1] rfl)
    · replace hf := q_pos c42 hf
      refine lv_aload_n S0.1 S0.2.1 dX9_restore_114 rfl (lv_at hl 0 rfl) ?_
      refine gX9_keptCount S0 hw kw_1163 dX9_restore_115 ?_
      refine lv_iload_n S0.1 S0.2.1 dX9_restore_118 rfl (lv_at hl 1 rfl) ?_
      refine q_iald S0 hw dM_115 (t0 := 0) rfl rfl dX9_restore_119 hf (fun v50 hf => ?_)
      refine lv_goto (tgt := 129) S0.1 S0.2.1 dX9_restore_120 (by decide) ?_
      exact b129 k55 hk55 x1 x1 v50 s40 hf _ _ _ hw (lv_sub hl [0, 1] rfl)
  have b88 : ∀ (k55 : Int32 → qS → Option (Int32 × qS)) (hk55 : ∀ (x1 : Int32) (σ : qS), k55 x1 σ = some r0 → qAt p l e (qRm 1 25) s m ([.ref (ad 0 0)] : List Value).toArray below meth c Q D (mL Y) (qT Y) A ad 2 0 0 55 [(0, .ref (ad 0 0)), (1, .int x1)] [] σ) (x1 : Int32) (t1 : Int32) (σ : qS), fX9_restore_88 F k55 x1 t1 σ = some r0 → qAt p l e (qRm 1 25) s m ([.ref (ad 0 0)] : List Value).toArray below meth c Q D (mL Y) (qT Y) A ad 2 0 0 88 [(0, .ref (ad 0 0)), (1, .int x1)] [.int t1, .ref (ad 108 0)] σ := by
    clear hf hw hl ls
    intro k55 hk55
    intro x1 t1 σ hf H locs ls hw hl
    unfold fX9_restore_88 at hf
    refine lv_iconst (v := 0) S0.1 S0.2.1 dX9_restore_88 (by decide) ?_
    refine lv_goto (tgt := 98) S0.1 S0.2.1 dX9_restore_89 (by decide) ?_
    exact b98 k55 hk55 x1 t1 0 σ hf _ _ _ hw (lv_sub hl [0, 1] rfl)
  have b55 : ∀ (n : Nat) (x1 : Int32) (σ : qS), fX9_restore_55 F n x1 σ = some r0 → qAt p l e (qRm 1 25) s m ([.ref (ad 0 0)] : List Value).toArray below meth c Q D (mL Y) (qT Y) A ad 2 0 0 55 [(0, .ref (ad 0 0)), (1, .int x1)] [] σ := by
    clear hf hw hl ls
    intro n
    induction n with
    | zero => intro x1 σ hf; exact absurd hf (by rw [fX9_restore_55]; exact nofun)
    | succ n hk55 =>
      intro x1 σ hf H locs ls hw hl
      rw [fX9_restore_55] at hf
      refine lv_iload_n S0.1 S0.2.1 dX9_restore_55 rfl (lv_at hl 1 rfl) ?_
      refine lv_aload_n S0.1 S0.2.1 dX9_restore_56 rfl (lv_at hl 0 rfl) ?_
      refine gX9_nodes S0 hw kw_1155 dX9_restore_57 hf (fun v13 hf => ?_)
      refine lv_icmp_ge (tgt := 159) S0.1 S0.2.1 dX9_restore_60 (by decide) (fun c14 => ?_) (fun c14 => ?_)
      · replace hf := q_pos c14 hf
        refine lv_iconst (v := 0) S0.1 S0.2.1 dX9_restore_159 (by decide) ?_
        refine lv_istore_n (lv' := [(1, .int 0), (0, .ref (ad 0 0))]) S0.1 S0.2.1 dX9_restore_160 rfl hl (by decide) rfl (fun ls hl => ?_)
        exact b161 F 0 σ hf _ _ _ hw (lv_sub hl [1, 0] rfl)
      · replace hf := q_neg c14 hf
        refine lv_aload_n S0.1 S0.2.1 dX9_restore_63 rfl (lv_at hl 0 rfl) ?_
        refine gX9_is S0 hw kw_1156 dX9_restore_64 ?_
        refine lv_iload_n S0.1 S0.2.1 dX9_restore_67 rfl (lv_at hl 1 rfl) ?_
        refine lv_aload_n S0.1 S0.2.1 dX9_restore_68 rfl (lv_at hl 0 rfl) ?_
        refine gX9_kind S0 hw kw_1150 dX9_restore_69 ?_
        refine lv_iload_n S0.1 S0.2.1 dX9_restore_72 rfl (lv_at hl 1 rfl) ?_
        refine q_iald S0 hw dM_102 (t0 := 0) rfl rfl dX9_restore_73 hf (fun v38 hf => ?_)
        refine lv_iconst (v := 1) S0.1 S0.2.1 dX9_restore_74 (by decide) ?_
        refine lv_icmp_eq (tgt := 88) S0.1 S0.2.1 dX9_restore_75 (by decide) (fun c39 => ?_) (fun c39 => ?_)
        · replace hf := q_pos c39 hf
          exact b88 (fX9_restore_55 F n) hk55 x1 x1 σ hf _ _ _ hw (lv_sub hl [0, 1] rfl)
        · replace hf := q_neg c39 hf
          refine lv_aload_n S0.1 S0.2.1 dX9_restore_78 rfl (lv_at hl 0 rfl) ?_
          refine gX9_kind S0 hw kw_1150 dX9_restore_79 ?_
          refine lv_iload_n S0.1 S0.2.1 dX9_restore_82 rfl (lv_at hl 1 rfl) ?_
          refine q_iald S0 hw dM_102 (t0 := 0) rfl rfl dX9_restore_83 hf (fun v51 hf => ?_)
          refine lv_iconst (v := 2) S0.1 S0.2.1 dX9_restore_84 (by decide) ?_
          refine lv_icmp_ne (tgt := 92) S0.1 S0.2.1 dX9_restore_85 (by decide) (fun c52 => ?_) (fun c52 => ?_)
          · replace hf := q_neg c52 hf
            refine lv_aload_n S0.1 S0.2.1 dX9_restore_92 rfl (lv_at hl 0 rfl) ?_
            refine gX9_is S0 hw kw_1156 dX9_restore_93 ?_
            refine lv_iload_n S0.1 S0.2.1 dX9_restore_96 rfl (lv_at hl 1 rfl) ?_
            refine q_iald S0 hw dM_108 (t0 := 0) rfl rfl dX9_restore_97 hf (fun v53 hf => ?_)
            exact b98 (fX9_restore_55 F n) hk55 x1 x1 v53 σ hf _ _ _ hw (lv_sub hl [0, 1] rfl)
          · replace hf := q_pos c52 hf
            exact b88 (fX9_restore_55 F n) hk55 x1 x1 σ hf _ _ _ hw (lv_sub hl [0, 1] rfl)
  have b13 : ∀ (t1 : Int32) (σ : qS), fX9_restore_13 F t1 σ = some r0 → qAt p l e (qRm 1 25) s m ([.ref (ad 0 0)] : List Value).toArray below meth c Q D (mL Y) (qT Y) A ad 2 0 0 13 [(0, .ref (ad 0 0))] [.int t1, .ref (ad 0 0)] σ := by
    clear hf hw hl ls
    intro t1 σ hf H locs ls hw hl
    unfold fX9_restore_13 at hf
    refine q_calli S0 hw (As := [.int t1]) (rest := []) (wX9_holds l D Y ad F t1 σ) qyX9_holds kw_1335 ⟨Nat.le_of_ble_eq_true rfl, Nat.le_of_ble_eq_true rfl⟩ dM_0 rfl rfl rfl rfl hl.1 (Nat.le_of_ble_eq_true rfl) dX9_restore_13 ⟨Nat.le_refl _, Nat.le_refl _⟩ rfl hf (fun v4 s3 H locs hw hf => ?_)
    refine lv_if_eq (tgt := 21) S0.1 S0.2.1 dX9_restore_16 (by decide) (fun c5 => ?_) (fun c5 => ?_)
    · replace hf := q_pos c5 hf
      refine lv_aload_n S0.1 S0.2.1 dX9_restore_21 rfl (lv_at hl 0 rfl) ?_
      refine lv_dup S0.1 S0.2.1 dX9_restore_22 rfl ?_
      refine gX9_last S0 hw kw_1174 dX9_restore_23 hf (fun v6 hf => ?_)
      refine lv_iconst (v := 1) S0.1 S0.2.1 dX9_restore_26 (by decide) ?_
      refine lv_iadd S0.1 S0.2.1 dX9_restore_27 (q_top hf (fun v7 hf => ?_))
      refine pX9_last S0 hw kw_1174 dX9_restore_28 hf (fun s8 H locs hw hf => ?_)
      refine lv_aload_n S0.1 S0.2.1 dX9_restore_31 rfl (lv_at hl 0 rfl) ?_
      refine lv_aload_n S0.1 S0.2.1 dX9_restore_32 rfl (lv_at hl 0 rfl) ?_
      refine gX9_last S0 hw kw_1174 dX9_restore_33 hf (fun v9 hf => ?_)
      refine pX9_now S0 hw kw_1175 dX9_restore_36 hf (fun s10 H locs hw hf => ?_)
      refine lv_aload_n S0.1 S0.2.1 dX9_restore_39 rfl (lv_at hl 0 rfl) ?_
      refine lv_iconst (v := 3) S0.1 S0.2.1 dX9_restore_40 (by decide) ?_
      refine lv_iconst (v := 0) S0.1 S0.2.1 dX9_restore_41 (by decide) ?_
      refine q_callv S0 hw (As := [.int 3, .int 0]) (rest := []) (wX9_copy l D Y ad F 3 0 s10) qyX9_copy kw_1363 ⟨Nat.le_of_ble_eq_true rfl, Nat.le_of_ble_eq_true rfl⟩ dM_0 rfl rfl rfl rfl hl.1 (Nat.le_of_ble_eq_true rfl) dX9_restore_42 ⟨Nat.le_refl _, Nat.le_refl _⟩ rfl hf (fun s11 H locs hw hf => ?_)
      refine lv_aload_n S0.1 S0.2.1 dX9_restore_45 rfl (lv_at hl 0 rfl) ?_
      refine lv_iconst (v := 4) S0.1 S0.2.1 dX9_restore_46 (by decide) ?_
      refine lv_iconst (v := (-1)) S0.1 S0.2.1 dX9_restore_47 (by decide) ?_
      refine lv_iconst (v := 0) S0.1 S0.2.1 dX9_restore_48 (by decide) ?_
      refine lv_iconst (v := 0) S0.1 S0.2.1 dX9_restore_49 (by decide) ?_
      refine q_callv S0 hw (As := [.int 4, .int ((-1)), .int 0, .int 0]) (rest := []) (wX9_log l D Y ad F 4 ((-1)) 0 0 s11) qyX9_log kw_1375 ⟨Nat.le_of_ble_eq_true rfl, Nat.le_of_ble_eq_true rfl⟩ dM_0 rfl rfl rfl rfl hl.1 (Nat.le_of_ble_eq_true rfl) dX9_restore_50 ⟨Nat.le_refl _, Nat.le_refl _⟩ rfl hf (fun s12 H locs hw hf => ?_)
      refine lv_iconst (v := 0) S0.1 S0.2.1 dX9_restore_53 (by decide) ?_
      refine lv_istore_n (lv' := [(1, .int 0), (0, .ref (ad 0 0))]) S0.1 S0.2.1 dX9_restore_54 rfl hl (by decide) rfl (fun ls hl => ?_)
      exact b55 F 0 s12 hf _ _ _ hw (lv_sub hl [1, 0] rfl)
    · replace hf := q_neg c5 hf
      refine lv_iconst (v := (-1)) S0.1 S0.2.1 dX9_restore_19 (by decide) ?_
      exact hret dX9_restore_20 hw hf
  refine lv_aload_n S0.1 S0.2.1 dX9_restore_0 rfl (lv_at hl 0 rfl) ?_
  refine lv_aload_n S0.1 S0.2.1 dX9_restore_1 rfl (lv_at hl 0 rfl) ?_
  refine gX9_isKept S0 hw kw_1165 dX9_restore_2 hf (fun v1 hf => ?_)
  refine lv_if_eq (tgt := 12) S0.1 S0.2.1 dX9_restore_5 (by decide) (fun c2 => ?_) (fun c2 => ?_)
  · replace hf := q_pos c2 hf
    refine lv_iconst (v := 1) S0.1 S0.2.1 dX9_restore_12 (by decide) ?_
    exact b13 1 σ hf _ _ _ hw (lv_sub hl [0] rfl)
  · replace hf := q_neg c2 hf
    refine lv_iconst (v := 0) S0.1 S0.2.1 dX9_restore_8 (by decide) ?_
    refine lv_goto (tgt := 13) S0.1 S0.2.1 dX9_restore_9 (by decide) ?_
    exact b13 0 σ hf _ _ _ hw (lv_sub hl [0] rfl)
def fX9_changes (F : Nat) (σ : qS) : Option (Int32 × qS) :=
  bnd2 (fX9_holds F 0 σ) fun v2 s1 => (nm (s1.1 0 0 26) fun v3 => (some (v3, s1)))
set_option maxRecDepth 100000 in
set_option maxHeartbeats 4000000 in
theorem wX9_changes (l : Launch) (D : va_G) (Y : Nat → ClassId) (ad : qAd) (F : Nat) (σ : qS) : qCi l yX9_changes cX9_changes 1 (some .int) 1 21 D (mL Y) (qT Y) ad [.ref (ad 0 0)] σ (fX9_changes F σ) := by
  refine q_ofi (by decide) (Nat.le_of_ble_eq_true rfl) "LeasehallModel" rfl (fun p e s m below meth c A Q r0 S0 hf hw hret ls hl => ?_)
  replace hl : lv_has ls 1 [(0, .ref (ad 0 0))] := hl
  unfold fX9_changes at hf
  refine lv_aload_n S0.1 S0.2.1 dX9_changes_0 rfl (lv_at hl 0 rfl) ?_
  refine lv_iconst (v := 0) S0.1 S0.2.1 dX9_changes_1 (by decide) ?_
  refine q_calli S0 hw (As := [.int 0]) (rest := []) (wX9_holds l D Y ad F 0 σ) qyX9_holds kw_1335 ⟨Nat.le_of_ble_eq_true rfl, Nat.le_of_ble_eq_true rfl⟩ dM_0 rfl rfl rfl rfl hl.1 (Nat.le_of_ble_eq_true rfl) dX9_changes_2 ⟨Nat.le_refl _, Nat.le_refl _⟩ rfl hf (fun v2 s1 H locs hw hf => ?_)
  refine lv_pop S0.1 S0.2.1 dX9_changes_5 rfl ?_
  refine lv_aload_n S0.1 S0.2.1 dX9_changes_6 rfl (lv_at hl 0 rfl) ?_
  refine gX9_last S0 hw kw_1174 dX9_changes_7 hf (fun v3 hf => ?_)
  exact hret dX9_changes_10 hw hf

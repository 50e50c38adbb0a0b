theorem qyX7_firstChild : qY yX7_firstChild RX7 cX7_firstChild 2 (some .int) 1 := ⟨⟨kw_965, kw_966, kw_3, kw_967⟩, rfl, by decide, by decide, by decide +kernel⟩
def fX7_firstChild (F : Nat) (i0 : Nat) (p1 : Int32) (σ : qS) : Option (Int32 × qS) :=
  gnl i0 6 (bnd2 (fX7_nextChild F i0 p1 ((-1)) σ) fun v2 s1 => (some (v2, s1)))
set_option maxRecDepth 100000 in
set_option maxHeartbeats 4000000 in
theorem wX7_firstChild (l : Launch) (D : va_G) (Y : Nat → ClassId) (ad : qAd) (F : Nat) (i0 : Nat) (p1 : Int32) (σ : qS) : qCi l yX7_firstChild cX7_firstChild 2 (some .int) 2 46 D (cL Y) (qT Y) ad [.ref (ad 30 i0), .int p1] σ (fX7_firstChild F i0 p1 σ) := by
  refine q_ofi (by decide) (Nat.le_of_ble_eq_true rfl) "Leasehall$Tree" rfl (fun p e s m below meth c A Q r0 S0 hf hw hret ls hl => ?_)
  replace hl : lv_has ls 2 [(0, .ref (ad 30 i0)), (1, .int p1)] := hl
  unfold fX7_firstChild at hf
  obtain ⟨hg0, hf⟩ := gnl_some hf
  refine lv_aload_n S0.1 S0.2.1 dX7_firstChild_0 rfl (lv_at hl 0 rfl) ?_
  refine lv_iload_n S0.1 S0.2.1 dX7_firstChild_1 rfl (lv_at hl 1 rfl) ?_
  refine lv_iconst (v := (-1)) S0.1 S0.2.1 dX7_firstChild_2 (by decide) ?_
  refine q_calli (k := 30) (i := i0) S0 hw (As := [.int p1, .int ((-1))]) (rest := []) (wX7_nextChild l D Y ad F i0 p1 ((-1)) σ) qyX7_nextChild kw_968 ⟨Nat.le_of_ble_eq_true rfl, Nat.le_of_ble_eq_true rfl⟩ hg0 rfl rfl rfl rfl hl.1 (Nat.le_of_ble_eq_true rfl) dX7_firstChild_3 ⟨Nat.le_refl _, Nat.le_refl _⟩ rfl hf (fun v2 s1 H locs hw hf => ?_)
  exact hret dX7_firstChild_6 hw hf
theorem qyX7_childAt : qY yX7_childAt RX7 cX7_childAt 5 (some .int) 2 := ⟨⟨kw_961, kw_962, kw_3, kw_963⟩, rfl, by decide, by decide, by decide +kernel⟩
def fX7_childAt_47 (F : Nat) (i0 : Nat) (x3 : Int32) (σ : qS) : Option (Int32 × qS) :=
  some (x3, σ)
def fX7_childAt_9 (F : Nat) (i0 : Nat) : Nat → Int32 → Int32 → Int32 → Int32 → qS → Option (Int32 × qS)
  | 0, _, _, _, _, _ => none
  | n + 1, x1, x2, x3, x4, σ =>
  if x2 ≤ x4 then (fX7_childAt_47 F i0 x3 σ) else (if 80 ≤ x4 then (fX7_childAt_47 F i0 x3 σ) else (if x3 ≤ 0 then (fX7_childAt_47 F i0 x3 σ) else (ldi 80 (σ.1 3 0) x3 fun v6 => (bnd2 (fX7_nextChild F i0 x1 v6 σ) fun v8 s7 => (nm (x4 + 1) fun v9 => (fX7_childAt_9 F i0 n x1 x2 v8 v9 s7))))))
def fX7_childAt (F : Nat) (i0 : Nat) (p1 : Int32) (p2 : Int32) (σ : qS) : Option (Int32 × qS) :=
  gnl i0 6 (bnd2 (fX7_firstChild F i0 p1 σ) fun v2 s1 => (fX7_childAt_9 F i0 F p1 p2 v2 0 s1))
set_option maxRecDepth 100000 in
set_option maxHeartbeats 4000000 in
theorem wX7_childAt (l : Launch) (D : va_G) (Y : Nat → ClassId) (ad : qAd) (F : Nat) (i0 : Nat) (p1 : Int32) (p2 : Int32) (σ : qS) : qCi l yX7_childAt cX7_childAt 5 (some .int) 3 67 D (cL Y) (qT Y) ad [.ref (ad 30 i0), .int p1, .int p2] σ (fX7_childAt F i0 p1 p2 σ) := by
  refine q_ofi (by decide) (Nat.le_of_ble_eq_true rfl) "Leasehall$Tree" rfl (fun p e s m below meth c A Q r0 S0 hf hw hret ls hl => ?_)
  replace hl : lv_has ls 5 [(0, .ref (ad 30 i0)), (1, .int p1), (2, .int p2)] := hl
  unfold fX7_childAt at hf
  obtain ⟨hg0, hf⟩ := gnl_some hf
  have b47 : ∀ (x3 : Int32) (σ : qS), fX7_childAt_47 F i0 x3 σ = some r0 → qAt p l e (qRm 3 67) s m ([.ref (ad 30 i0), .int p1, .int p2] : List Value).toArray below meth c Q D (cL Y) (qT Y) A ad 5 0 0 47 [(3, .int x3)] [] σ := by
    clear hf hw hl ls
    intro x3 σ hf H locs ls hw hl
    unfold fX7_childAt_47 at hf
    refine lv_iload_n S0.1 S0.2.1 dX7_childAt_47 rfl (lv_at hl 0 rfl) ?_
    exact hret dX7_childAt_48 hw hf
  have b9 : ∀ (n : Nat) (x1 : Int32) (x2 : Int32) (x3 : Int32) (x4 : Int32) (σ : qS), fX7_childAt_9 F i0 n x1 x2 x3 x4 σ = some r0 → qAt p l e (qRm 3 67) s m ([.ref (ad 30 i0), .int p1, .int p2] : List Value).toArray below meth c Q D (cL Y) (qT Y) A ad 5 0 0 9 [(0, .ref (ad 30 i0)), (1, .int x1), (2, .int x2), (3, .int x3), (4, .int x4)] [] σ := by
    clear hf hw hl ls
    intro n
    induction n with
    | zero => intro x1 x2 x3 x4 σ hf; exact absurd hf (by rw [fX7_childAt_9]; exact nofun)
    | succ n hk9 =>
      intro x1 x2 x3 x4 σ hf H locs ls hw hl
      rw [fX7_childAt_9] at hf
      refine lv_iload S0.1 S0.2.1 dX7_childAt_9 (lv_at hl 4 rfl) ?_
      refine lv_iload_n S0.1 S0.2.1 dX7_childAt_11 rfl (lv_at hl 2 rfl) ?_
      refine lv_icmp_ge (tgt := 47) S0.1 S0.2.1 dX7_childAt_12 (by decide) (fun c3 => ?_) (fun c3 => ?_)
      · replace hf := q_pos c3 hf
        exact b47 x3 σ hf _ _ _ hw (lv_sub hl [3] rfl)
      · replace hf := q_neg c3 hf
        refine lv_iload S0.1 S0.2.1 dX7_childAt_15 (lv_at hl 4 rfl) ?_
        refine lv_bipush (v := 80) S0.1 S0.2.1 dX7_childAt_17 (by decide) ?_
        refine lv_icmp_ge (tgt := 47) S0.1 S0.2.1 dX7_childAt_19 (by decide) (fun c4 => ?_) (fun c4 => ?_)
        · replace hf := q_pos c4 hf
          exact b47 x3 σ hf _ _ _ hw (lv_sub hl [3] rfl)
        · replace hf := q_neg c4 hf
          refine lv_iload_n S0.1 S0.2.1 dX7_childAt_22 rfl (lv_at hl 3 rfl) ?_
          refine lv_if_le (tgt := 47) S0.1 S0.2.1 dX7_childAt_23 (by decide) (fun c5 => ?_) (fun c5 => ?_)
          · replace hf := q_pos c5 hf
            exact b47 x3 σ hf _ _ _ hw (lv_sub hl [3] rfl)
          · replace hf := q_neg c5 hf
            refine lv_aload_n S0.1 S0.2.1 dX7_childAt_26 rfl (lv_at hl 0 rfl) ?_
            refine lv_iload_n S0.1 S0.2.1 dX7_childAt_27 rfl (lv_at hl 1 rfl) ?_
            refine lv_aload_n S0.1 S0.2.1 dX7_childAt_28 rfl (lv_at hl 0 rfl) ?_
            refine gX7_births S0 hw hg0 kw_78 dX7_childAt_29 ?_
            refine gX1_name S0 hw kw_45 dX7_childAt_32 ?_
            refine lv_iload_n S0.1 S0.2.1 dX7_childAt_35 rfl (lv_at hl 3 rfl) ?_
            refine q_iald S0 hw dC_3 (t0 := 0) rfl rfl dX7_childAt_36 hf (fun v6 hf => ?_)
            refine q_calli (k := 30) (i := i0) S0 hw (As := [.int x1, .int v6]) (rest := []) (wX7_nextChild l D Y ad F i0 x1 v6 σ) qyX7_nextChild kw_968 ⟨Nat.le_of_ble_eq_true rfl, Nat.le_of_ble_eq_true rfl⟩ hg0 rfl rfl rfl rfl hl.1 (Nat.le_of_ble_eq_true rfl) dX7_childAt_37 ⟨Nat.le_refl _, Nat.le_refl _⟩ rfl hf (fun v8 s7 H locs hw hf => ?_)
            refine lv_istore_n (lv' := [(3, .int v8), (0, .ref (ad 30 i0)), (1, .int x1), (2, .int x2), (4, .int x4)]) S0.1 S0.2.1 dX7_childAt_40 rfl hl (by decide) rfl (fun ls hl => ?_)
            refine q_iinc S0 (v0 := 1) dX7_childAt_41 hl (k := 4) rfl (by decide) (by decide) rfl hf (fun v9 ls hl hf => ?_)
            refine lv_goto (tgt := 9) S0.1 S0.2.1 dX7_childAt_44 (by decide) ?_
            exact hk9 x1 x2 v8 v9 s7 hf _ _ _ hw (lv_sub hl [2, 3, 4, 1, 0] rfl)
  refine lv_aload_n S0.1 S0.2.1 dX7_childAt_0 rfl (lv_at hl 0 rfl) ?_
  refine lv_iload_n S0.1 S0.2.1 dX7_childAt_1 rfl (lv_at hl 1 rfl) ?_
  refine q_calli (k := 30) (i := i0) S0 hw (As := [.int p1]) (rest := []) (wX7_firstChild l D Y ad F i0 p1 σ) qyX7_firstChild kw_964 ⟨Nat.le_of_ble_eq_true rfl, Nat.le_of_ble_eq_true rfl⟩ hg0 rfl rfl rfl rfl hl.1 (Nat.le_of_ble_eq_true rfl) dX7_childAt_2 ⟨Nat.le_refl _, Nat.le_refl _⟩ rfl hf (fun v2 s1 H locs hw hf => ?_)
  refine lv_istore_n (lv' := [(3, .int v2), (0, .ref (ad 30 i0)), (1, .int p1), (2, .int p2)]) S0.1 S0.2.1 dX7_childAt_5 rfl hl (by decide) rfl (fun ls hl => ?_)
  refine lv_iconst (v := 0) S0.1 S0.2.1 dX7_childAt_6 (by decide) ?_
  refine lv_istore (lv' := [(4, .int 0), (3, .int v2), (0, .ref (ad 30 i0)), (1, .int p1), (2, .int p2)]) S0.1 S0.2.1 dX7_childAt_7 hl (by decide) rfl (fun ls hl => ?_)
  exact b9 F p1 p2 v2 0 s1 hf _ _ _ hw (lv_sub hl [2, 3, 4, 1, 0] rfl)
theorem qyX7_firstWithoutChildren : qY yX7_firstWithoutChildren RX7 cX7_firstWithoutChildren 4 (some .int) 1 := ⟨⟨kw_1084, kw_1085, kw_3, kw_1086⟩, rfl, by decide, by decide, by decide +kernel⟩
def fX7_firstWithoutChildren_47 (F : Nat) (i0 : Nat) (x2 : Int32) (σ : qS) : Option (Int32 × qS) :=
  some (x2, σ)
def fX7_firstWithoutChildren_8 (F : Nat) (i0 : Nat) : Nat → Int32 → Int32 → Int32 → qS → Option (Int32 × qS)
  | 0, _, _, _, _ => none
  | n + 1, x1, x2, x3, σ =>
  if 80 ≤ x3 then (fX7_firstWithoutChildren_47 F i0 x2 σ) else (if x2 ≤ 0 then (fX7_firstWithoutChildren_47 F i0 x2 σ) else (bnd2 (fX7_childrenOf F i0 x2 σ) fun v6 s5 => (if v6 ≤ 0 then (fX7_firstWithoutChildren_47 F i0 x2 s5) else (ldi 80 (s5.1 3 0) x2 fun v8 => (bnd2 (fX7_nextChild F i0 x1 v8 s5) fun v10 s9 => (nm (x3 + 1) fun v11 => (fX7_firstWithoutChildren_8 F i0 n x1 v10 v11 s9)))))))
def fX7_firstWithoutChildren (F : Nat) (i0 : Nat) (p1 : Int32) (σ : qS) : Option (Int32 × qS) :=
  gnl i0 6 (bnd2 (fX7_firstChild F i0 p1 σ) fun v2 s1 => (fX7_firstWithoutChildren_8 F i0 F p1 v2 0 s1))
set_option maxRecDepth 100000 in
set_option maxHeartbeats 4000000 in
theorem wX7_firstWithoutChildren (l : Launch) (D : va_G) (Y : Nat → ClassId) (ad : qAd) (F : Nat) (i0 : Nat) (p1 : Int32) (σ : qS) : qCi l yX7_firstWithoutChildren cX7_firstWithoutChildren 4 (some .int) 3 67 D (cL Y) (qT Y) ad [.ref (ad 30 i0), .int p1] σ (fX7_firstWithoutChildren F i0 p1 σ) := by
  refine q_ofi (by decide) (Nat.le_of_ble_eq_true rfl) "Leasehall$Tree" rfl (fun p e s m below meth c A Q r0 S0 hf hw hret ls hl => ?_)
  replace hl : lv_has ls 4 [(0, .ref (ad 30 i0)), (1, .int p1)] := hl
  unfold fX7_firstWithoutChildren at hf
  obtain ⟨hg0, hf⟩ := gnl_some hf
  have b47 : ∀ (x2 : Int32) (σ : qS), fX7_firstWithoutChildren_47 F i0 x2 σ = some r0 → qAt p l e (qRm 3 67) s m ([.ref (ad 30 i0), .int p1] : List Value).toArray below meth c Q D (cL Y) (qT Y) A ad 4 0 0 47 [(2, .int x2)] [] σ := by
    clear hf hw hl ls
    intro x2 σ hf H locs ls hw hl
    unfold fX7_firstWithoutChildren_47 at hf
    refine lv_iload_n S0.1 S0.2.1 dX7_firstWithoutChildren_47 rfl (lv_at hl 0 rfl) ?_
    exact hret dX7_firstWithoutChildren_48 hw hf
  have b8 : ∀ (n : Nat) (x1 : Int32) (x2 : Int32) (x3 : Int32) (σ : qS), fX7_firstWithoutChildren_8 F i0 n x1 x2 x3 σ = some r0 → qAt p l e (qRm 3 67) s m ([.ref (ad 30 i0), .int p1] : List Value).toArray below meth c Q D (cL Y) (qT Y) A ad 4 0 0 8 [(0, .ref (ad 30 i0)), (1, .int x1), (2, .int x2), (3, .int x3)] [] σ := by
    clear hf hw hl ls
    intro n
    induction n with
    | zero => intro x1 x2 x3 σ hf; exact absurd hf (by rw [fX7_firstWithoutChildren_8]; exact nofun)
    | succ n hk8 =>
      intro x1 x2 x3 σ hf H locs ls hw hl
      rw [fX7_firstWithoutChildren_8] at hf
      refine lv_iload_n S0.1 S0.2.1 dX7_firstWithoutChildren_8 rfl (lv_at hl 3 rfl) ?_
      refine lv_bipush (v := 80) S0.1 S0.2.1 dX7_firstWithoutChildren_9 (by decide) ?_
      refine lv_icmp_ge (tgt := 47) S0.1 S0.2.1 dX7_firstWithoutChildren_11 (by decide) (fun c3 => ?_) (fun c3 => ?_)
      · replace hf := q_pos c3 hf
        exact b47 x2 σ hf _ _ _ hw (lv_sub hl [2] rfl)
      · replace hf := q_neg c3 hf
        refine lv_iload_n S0.1 S0.2.1 dX7_firstWithoutChildren_14 rfl (lv_at hl 2 rfl) ?_
        refine lv_if_le (tgt := 47) S0.1 S0.2.1 dX7_firstWithoutChildren_15 (by decide) (fun c4 => ?_) (fun c4 => ?_)
        · replace hf := q_pos c4 hf
          exact b47 x2 σ hf _ _ _ hw (lv_sub hl [2] rfl)
        · replace hf := q_neg c4 hf
          refine lv_aload_n S0.1 S0.2.1 dX7_firstWithoutChildren_18 rfl (lv_at hl 0 rfl) ?_
          refine lv_iload_n S0.1 S0.2.1 dX7_firstWithoutChildren_19 rfl (lv_at hl 2 rfl) ?_
          refine q_calli (k := 30) (i := i0) S0 hw (As := [.int x2]) (rest := []) (wX7_childrenOf l D Y ad F i0 x2 σ) qyX7_childrenOf kw_864 ⟨Nat.le_of_ble_eq_true rfl, Nat.le_of_ble_eq_true rfl⟩ hg0 rfl rfl rfl rfl hl.1 (Nat.le_of_ble_eq_true rfl) dX7_firstWithoutChildren_20 ⟨Nat.le_refl _, Nat.le_refl _⟩ rfl hf (fun v6 s5 H locs hw hf => ?_)
          refine lv_if_le (tgt := 47) S0.1 S0.2.1 dX7_firstWithoutChildren_23 (by decide) (fun c7 => ?_) (fun c7 => ?_)
          · replace hf := q_pos c7 hf
            exact b47 x2 s5 hf _ _ _ hw (lv_sub hl [2] rfl)
          · replace hf := q_neg c7 hf
            refine lv_aload_n S0.1 S0.2.1 dX7_firstWithoutChildren_26 rfl (lv_at hl 0 rfl) ?_
            refine lv_iload_n S0.1 S0.2.1 dX7_firstWithoutChildren_27 rfl (lv_at hl 1 rfl) ?_
            refine lv_aload_n S0.1 S0.2.1 dX7_firstWithoutChildren_28 rfl (lv_at hl 0 rfl) ?_
            refine gX7_births S0 hw hg0 kw_78 dX7_firstWithoutChildren_29 ?_
            refine gX1_name S0 hw kw_45 dX7_firstWithoutChildren_32 ?_
            refine lv_iload_n S0.1 S0.2.1 dX7_firstWithoutChildren_35 rfl (lv_at hl 2 rfl) ?_
            refine q_iald S0 hw dC_3 (t0 := 0) rfl rfl dX7_firstWithoutChildren_36 hf (fun v8 hf => ?_)
            refine q_calli (k := 30) (i := i0) S0 hw (As := [.int x1, .int v8]) (rest := []) (wX7_nextChild l D Y ad F i0 x1 v8 s5) qyX7_nextChild kw_968 ⟨Nat.le_of_ble_eq_true rfl, Nat.le_of_ble_eq_true rfl⟩ hg0 rfl rfl rfl rfl hl.1 (Nat.le_of_ble_eq_true rfl) dX7_firstWithoutChildren_37 ⟨Nat.le_refl _, Nat.le_refl _⟩ rfl hf (fun v10 s9 H locs hw hf => ?_)
            refine lv_istore_n (lv' := [(2, .int v10), (0, .ref (ad 30 i0)), (1, .int x1), (3, .int x3)]) S0.1 S0.2.1 dX7_firstWithoutChildren_40 rfl hl (by decide) rfl (fun ls hl => ?_)
            refine q_iinc S0 (v0 := 1) dX7_firstWithoutChildren_41 hl (k := 3) rfl (by decide) (by decide) rfl hf (fun v11 ls hl hf => ?_)
            refine lv_goto (tgt := 8) S0.1 S0.2.1 dX7_firstWithoutChildren_44 (by decide) ?_
            exact hk8 x1 v10 v11 s9 hf _ _ _ hw (lv_sub hl [2, 3, 1, 0] rfl)
  refine lv_aload_n S0.1 S0.2.1 dX7_firstWithoutChildren_0 rfl (lv_at hl 0 rfl) ?_
  refine lv_iload_n S0.1 S0.2.1 dX7_firstWithoutChildren_1 rfl (lv_at hl 1 rfl) ?_
  refine q_calli (k := 30) (i := i0) S0 hw (As := [.int p1]) (rest := []) (wX7_firstChild l D Y ad F i0 p1 σ) qyX7_firstChild kw_964 ⟨Nat.le_of_ble_eq_true rfl, Nat.le_of_ble_eq_true rfl⟩ hg0 rfl rfl rfl rfl hl.1 (Nat.le_of_ble_eq_true rfl) dX7_firstWithoutChildren_2 ⟨Nat.le_refl _, Nat.le_refl _⟩ rfl hf (fun v2 s1 H locs hw hf => ?_)
  refine lv_istore_n (lv' := [(2, .int v2), (0, .ref (ad 30 i0)), (1, .int p1)]) S0.1 S0.2.1 dX7_firstWithoutChildren_5 rfl hl (by decide) rfl (fun ls hl => ?_)
  refine lv_iconst (v := 0) S0.1 S0.2.1 dX7_firstWithoutChildren_6 (by decide) ?_
  refine lv_istore_n (lv' := [(3, .int 0), (2, .int v2), (0, .ref (ad 30 i0)), (1, .int p1)]) S0.1 S0.2.1 dX7_firstWithoutChildren_7 rfl hl (by decide) rfl (fun ls hl => ?_)
  exact b8 F p1 v2 0 s1 hf _ _ _ hw (lv_sub hl [2, 3, 1, 0] rfl)
theorem qyX7_isOfSession : qY yX7_isOfSession RX7 cX7_isOfSession 3 (some .boolean) 2 := ⟨⟨kw_1057, kw_1058, kw_3, kw_1059⟩, rfl, by decide, by decide, by decide +kernel⟩
def fX7_isOfSession_31 (F : Nat) (i0 : Nat) (t0 : Int32) (σ : qS) : Option (Int32 × qS) :=
  gbl t0 (some (t0, σ))
def fX7_isOfSession_30 (F : Nat) (i0 : Nat) (σ : qS) : Option (Int32 × qS) :=
  fX7_isOfSession_31 F i0 0 σ
def fX7_isOfSession (F : Nat) (i0 : Nat) (p1 : Int32) (p2 : Int32) (σ : qS) : Option (Int32 × qS) :=
  gnl i0 6 (ldi 80 (σ.1 4 0) p1 fun v1 => (if v1 = 1 then (ldi 80 (σ.1 5 0) p1 fun v3 => (if v3 = p2 then (fX7_isOfSession_31 F i0 1 σ) else (fX7_isOfSession_30 F i0 σ))) else (fX7_isOfSession_30 F i0 σ)))
set_option maxRecDepth 100000 in
set_option maxHeartbeats 4000000 in
theorem wX7_isOfSession (l : Launch) (D : va_G) (Y : Nat → ClassId) (ad : qAd) (F : Nat) (i0 : Nat) (p1 : Int32) (p2 : Int32) (σ : qS) : qCi l yX7_isOfSession cX7_isOfSession 3 (some .boolean) 0 0 D (cL Y) (qT Y) ad [.ref (ad 30 i0), .int p1, .int p2] σ (fX7_isOfSession F i0 p1 p2 σ) := by
  refine q_ofz (by decide) (Nat.le_of_ble_eq_true rfl) "Leasehall$Tree" rfl (fun p e s m below meth c A Q r0 S0 hf hw hret ls hl => ?_)
  replace hl : lv_has ls 3 [(0, .ref (ad 30 i0)), (1, .int p1), (2, .int p2)] := hl
  unfold fX7_isOfSession at hf
  obtain ⟨hg0, hf⟩ := gnl_some hf
  have b31 : ∀ (t0 : Int32) (σ : qS), fX7_isOfSession_31 F i0 t0 σ = some r0 → qAt p l e (qRm 0 0) s m ([.ref (ad 30 i0), .int p1, .int p2] : List Value).toArray below meth c Q D (cL Y) (qT Y) A ad 3 0 0 31 [] [.int t0] σ := by
    clear hf hw hl ls
    intro t0 σ hf H locs ls hw hl
    unfold fX7_isOfSession_31 at hf
    exact hret dX7_isOfSession_31 hw hf
  have b30 : ∀ (σ : qS), fX7_isOfSession_30 F i0 σ = some r0 → qAt p l e (qRm 0 0) s m ([.ref (ad 30 i0), .int p1, .int p2] : List Value).toArray below meth c Q D (cL Y) (qT Y) A ad 3 0 0 30 [] [] σ := by
    clear hf hw hl ls
    intro σ hf H locs ls hw hl
    unfold fX7_isOfSession_30 at hf
    refine lv_iconst (v := 0) S0.1 S0.2.1 dX7_isOfSession_30 (by decide) ?_
    exact b31 0 σ hf _ _ _ hw (lv_sub hl [] rfl)
  refine lv_aload_n S0.1 S0.2.1 dX7_isOfSession_0 rfl (lv_at hl 0 rfl) ?_
  refine gX7_births S0 hw hg0 kw_78 dX7_isOfSession_1 ?_
  refine gX1_kind S0 hw kw_47 dX7_isOfSession_4 ?_
  refine lv_iload_n S0.1 S0.2.1 dX7_isOfSession_7 rfl (lv_at hl 1 rfl) ?_
  refine q_iald S0 hw dC_4 (t0 := 0) rfl rfl dX7_isOfSession_8 hf (fun v1 hf => ?_)
  refine lv_iconst (v := 1) S0.1 S0.2.1 dX7_isOfSession_9 (by decide) ?_
  refine lv_icmp_ne (tgt := 30) S0.1 S0.2.1 dX7_isOfSession_10 (by decide) (fun c2 => ?_) (fun c2 => ?_)
  · replace hf := q_neg c2 hf
    exact b30 σ hf _ _ _ hw (lv_sub hl [] rfl)
  · replace hf := q_pos c2 hf
    refine lv_aload_n S0.1 S0.2.1 dX7_isOfSession_13 rfl (lv_at hl 0 rfl) ?_
    refine gX7_births S0 hw hg0 kw_78 dX7_isOfSession_14 ?_
    refine gX1_holder S0 hw kw_50 dX7_isOfSession_17 ?_
    refine lv_iload_n S0.1 S0.2.1 dX7_isOfSession_20 rfl (lv_at hl 1 rfl) ?_
    refine q_iald S0 hw dC_5 (t0 := 0) rfl rfl dX7_isOfSession_21 hf (fun v3 hf => ?_)
    refine lv_iload_n S0.1 S0.2.1 dX7_isOfSession_22 rfl (lv_at hl 2 rfl) ?_
    refine lv_icmp_ne (tgt := 30) S0.1 S0.2.1 dX7_isOfSession_23 (by decide) (fun c4 => ?_) (fun c4 => ?_)
    · replace hf := q_neg c4 hf
      exact b30 σ hf _ _ _ hw (lv_sub hl [] rfl)
    · replace hf := q_pos c4 hf
      refine lv_iconst (v := 1) S0.1 S0.2.1 dX7_isOfSession_26 (by decide) ?_
      refine lv_goto (tgt := 31) S0.1 S0.2.1 dX7_isOfSession_27 (by decide) ?_
      exact b31 1 σ hf _ _ _ hw (lv_sub hl [] rfl)
theorem qyX7_firstOf : qY yX7_firstOf RX7 cX7_firstOf 5 (some .int) 2 := ⟨⟨kw_1053, kw_1054, kw_3, kw_1055⟩, rfl, by decide, by decide, by decide +kernel⟩
def fX7_firstOf_50 (F : Nat) (i0 : Nat) (x3 : Int32) (σ : qS) : Option (Int32 × qS) :=
  some (x3, σ)
def fX7_firstOf_9 (F : Nat) (i0 : Nat) : Nat → Int32 → Int32 → Int32 → Int32 → qS → Option (Int32 × qS)
  | 0, _, _, _, _, _ => none
  | n + 1, x1, x2, x3, x4, σ =>
  if 80 ≤ x4 then (fX7_firstOf_50 F i0 x3 σ) else (if x3 ≤ 0 then (fX7_firstOf_50 F i0 x3 σ) else (bnd2 (fX7_isOfSession F i0 x3 x1 σ) fun v6 s5 => (if v6 = 0 then (ldi 80 (s5.1 3 0) x3 fun v8 => (bnd2 (fX7_nextChild F i0 x2 v8 s5) fun v10 s9 => (nm (x4 + 1) fun v11 => (fX7_firstOf_9 F i0 n x1 x2 v10 v11 s9)))) else (fX7_firstOf_50 F i0 x3 s5))))
def fX7_firstOf (F : Nat) (i0 : Nat) (p1 : Int32) (p2 : Int32) (σ : qS) : Option (Int32 × qS) :=
  gnl i0 6 (bnd2 (fX7_firstChild F i0 p2 σ) fun v2 s1 => (fX7_firstOf_9 F i0 F p1 p2 v2 0 s1))
set_option maxRecDepth 100000 in
set_option maxHeartbeats 4000000 in
theorem wX7_firstOf (l : Launch) (D : va_G) (Y : Nat → ClassId) (ad : qAd) (F : Nat) (i0 : Nat) (p1 : Int32) (p2 : Int32) (σ : qS) : qCi l yX7_firstOf cX7_firstOf 5 (some .int) 3 67 D (cL Y) (qT Y) ad [.ref (ad 30 i0), .int p1, .int p2] σ (fX7_firstOf F i0 p1 p2 σ) := by
  refine q_ofi (by decide) (Nat.le_of_ble_eq_true rfl) "Leasehall$Tree" rfl (fun p e s m below meth c A Q r0 S0 hf hw hret ls hl => ?_)
  replace hl : lv_has ls 5 [(0, .ref (ad 30 i0)), (1, .int p1), (2, .int p2)] := hl
  unfold fX7_firstOf at hf
  obtain ⟨hg0, hf⟩ := gnl_some hf
  have b50 : ∀ (x3 : Int32) (σ : qS), fX7_firstOf_50 F i0 x3 σ = some r0 → qAt p l e (qRm 3 67) s m ([.ref (ad 30 i0), .int p1, .int p2] : List Value).toArray below meth c Q D (cL Y) (qT Y) A ad 5 0 0 50 [(3, .int x3)] [] σ := by
    clear hf hw hl ls
    intro x3 σ hf H locs ls hw hl
    unfold fX7_firstOf_50 at hf
    refine lv_iload_n S0.1 S0.2.1 dX7_firstOf_50 rfl (lv_at hl 0 rfl) ?_
    exact hret dX7_firstOf_51 hw hf
  have b9 : ∀ (n : Nat) (x1 : Int32) (x2 : Int32) (x3 : Int32) (x4 : Int32) (σ : qS), fX7_firstOf_9 F i0 n x1 x2 x3 x4 σ = some r0 → qAt p l e (qRm 3 67) s m ([.ref (ad 30 i0), .int p1, .int p2] : List Value).toArray below meth c Q D (cL Y) (qT Y) A ad 5 0 0 9 [(0, .ref (ad 30 i0)), (1, .int x1), (2, .int x2), (3, .int x3), (4, .int x4)] [] σ := by
    clear hf hw hl ls
    intro n
    induction n with
    | zero => intro x1 x2 x3 x4 σ hf; exact absurd hf (by rw [fX7_firstOf_9]; exact nofun)
    | succ n hk9 =>
      intro x1 x2 x3 x4 σ hf H locs ls hw hl
      rw [fX7_firstOf_9] at hf
      refine lv_iload S0.1 S0.2.1 dX7_firstOf_9 (lv_at hl 4 rfl) ?_
      refine lv_bipush (v := 80) S0.1 S0.2.1 dX7_firstOf_11 (by decide) ?_
      refine lv_icmp_ge (tgt := 50) S0.1 S0.2.1 dX7_firstOf_13 (by decide) (fun c3 => ?_) (fun c3 => ?_)
      · replace hf := q_pos c3 hf
        exact b50 x3 σ hf _ _ _ hw (lv_sub hl [3] rfl)
      · replace hf := q_neg c3 hf
        refine lv_iload_n S0.1 S0.2.1 dX7_firstOf_16 rfl (lv_at hl 3 rfl) ?_
        refine lv_if_le (tgt := 50) S0.1 S0.2.1 dX7_firstOf_17 (by decide) (fun c4 => ?_) (fun c4 => ?_)
        · replace hf := q_pos c4 hf
          exact b50 x3 σ hf _ _ _ hw (lv_sub hl [3] rfl)
        · replace hf := q_neg c4 hf
          refine lv_aload_n S0.1 S0.2.1 dX7_firstOf_20 rfl (lv_at hl 0 rfl) ?_
          refine lv_iload_n S0.1 S0.2.1 dX7_firstOf_21 rfl (lv_at hl 3 rfl) ?_
          refine lv_iload_n S0.1 S0.2.1 dX7_firstOf_22 rfl (lv_at hl 1 rfl) ?_
          refine q_calli (k := 30) (i := i0) S0 hw (As := [.int x3, .int x1]) (rest := []) (wX7_isOfSession l D Y ad F i0 x3 x1 σ) qyX7_isOfSession kw_1056 ⟨Nat.le_of_ble_eq_true rfl, Nat.le_of_ble_eq_true rfl⟩ hg0 rfl rfl rfl rfl hl.1 (Nat.le_of_ble_eq_true rfl) dX7_firstOf_23 ⟨Nat.le_refl _, Nat.le_refl _⟩ rfl hf (fun v6 s5 H locs hw hf => ?_)
          refine lv_if_ne (tgt := 50) S0.1 S0.2.1 dX7_firstOf_26 (by decide) (fun c7 => ?_) (fun c7 => ?_)
          · replace hf := q_neg c7 hf
            exact b50 x3 s5 hf _ _ _ hw (lv_sub hl [3] rfl)
          · replace hf := q_pos c7 hf
            refine lv_aload_n S0.1 S0.2.1 dX7_firstOf_29 rfl (lv_at hl 0 rfl) ?_
            refine lv_iload_n S0.1 S0.2.1 dX7_firstOf_30 rfl (lv_at hl 2 rfl) ?_
            refine lv_aload_n S0.1 S0.2.1 dX7_firstOf_31 rfl (lv_at hl 0 rfl) ?_
            refine gX7_births S0 hw hg0 kw_78 dX7_firstOf_32 ?_
            refine gX1_name S0 hw kw_45 dX7_firstOf_35 ?_
            refine lv_iload_n S0.1 S0.2.1 dX7_firstOf_38 rfl (lv_at hl 3 rfl) ?_
            refine q_iald S0 hw dC_3 (t0 := 0) rfl rfl dX7_firstOf_39 hf (fun v8 hf => ?_)
            refine q_calli (k := 30) (i := i0) S0 hw (As := [.int x2, .int v8]) (rest := []) (wX7_nextChild l D Y ad F i0 x2 v8 s5) qyX7_nextChild kw_968 ⟨Nat.le_of_ble_eq_true rfl, Nat.le_of_ble_eq_true rfl⟩ hg0 rfl rfl rfl rfl hl.1 (Nat.le_of_ble_eq_true rfl) dX7_firstOf_40 ⟨Nat.le_refl _, Nat.le_refl _⟩ rfl hf (fun v10 s9 H locs hw hf => ?_)
            refine lv_istore_n (lv' := [(3, .int v10), (0, .ref (ad 30 i0)), (1, .int x1), (2, .int x2), (4, .int x4)]) S0.1 S0.2.1 dX7_firstOf_43 rfl hl (by decide) rfl (fun ls hl => ?_)
            refine q_iinc S0 (v0 := 1) dX7_firstOf_44 hl (k := 4) rfl (by decide) (by decide) rfl hf (fun v11 ls hl hf => ?_)
            refine lv_goto (tgt := 9) S0.1 S0.2.1 dX7_firstOf_47 (by decide) ?_
            exact hk9 x1 x2 v10 v11 s9 hf _ _ _ hw (lv_sub hl [2, 3, 4, 1, 0] rfl)
  refine lv_aload_n S0.1 S0.2.1 dX7_firstOf_0 rfl (lv_at hl 0 rfl) ?_
  refine lv_iload_n S0.1 S0.2.1 dX7_firstOf_1 rfl (lv_at hl 2 rfl) ?_
  refine q_calli (k := 30) (i := i0) S0 hw (As := [.int p2]) (rest := []) (wX7_firstChild l D Y ad F i0 p2 σ) qyX7_firstChild kw_964 ⟨Nat.le_of_ble_eq_true rfl, Nat.le_of_ble_eq_true rfl⟩ hg0 rfl rfl rfl rfl hl.1 (Nat.le_of_ble_eq_true rfl) dX7_firstOf_2 ⟨Nat.le_refl _, Nat.le_refl _⟩ rfl hf (fun v2 s1 H locs hw hf => ?_)
  refine lv_istore_n (lv' := [(3, .int v2), (0, .ref (ad 30 i0)), (1, .int p1), (2, .int p2)]) S0.1 S0.2.1 dX7_firstOf_5 rfl hl (by decide) rfl (fun ls hl => ?_)
  refine lv_iconst (v := 0) S0.1 S0.2.1 dX7_firstOf_6 (by decide) ?_
  refine lv_istore (lv' := [(4, .int 0), (3, .int v2), (0, .ref (ad 30 i0)), (1, .int p1), (2, .int p2)]) S0.1 S0.2.1 dX7_firstOf_7 hl (by decide) rfl (fun ls hl => ?_)
  exact b9 F p1 p2 v2 0 s1 hf _ _ _ hw (lv_sub hl [2, 3, 4, 1, 0] rfl)
theorem qyX7_fenceOf : qY yX7_fenceOf RX7 cX7_fenceOf 7 (some .int) 2 := ⟨⟨kw_1049, kw_1050, kw_3, kw_1051⟩, rfl, by decide, by decide, by decide +kernel⟩
def fX7_fenceOf_107 (F : Nat) (i0 : Nat) (k38 : Int32 → Int32 → Int32 → Int32 → qS → Option (Int32 × qS)) (x2 : Int32) (x3 : Int32) (x4 : Int32) (x5 : Int32) (σ : qS) : Option (Int32 × qS) :=
  nm (x5 + 1) fun v14 => (k38 x2 x3 x4 v14 σ)
def fX7_fenceOf_104 (F : Nat) (i0 : Nat) (σ : qS) : Option (Int32 × qS) :=
  some ((-100), σ)
def fX7_fenceOf_82 (F : Nat) (i0 : Nat) (k38 : Int32 → Int32 → Int32 → Int32 → qS → Option (Int32 × qS)) (x2 : Int32) (x3 : Int32) (x4 : Int32) (x5 : Int32) (t0 : Int32) (σ : qS) : Option (Int32 × qS) :=
  if t0 = 0 then (fX7_fenceOf_107 F i0 k38 x2 x3 x4 x5 σ) else (if x4 = 0 then (fX7_fenceOf_104 F i0 σ) else (ldi 80 (σ.1 32 i0) x5 fun v16 => (if v16 = 0 then (fX7_fenceOf_104 F i0 σ) else (fX7_fenceOf_107 F i0 k38 x2 x3 x4 x5 σ))))
def fX7_fenceOf_81 (F : Nat) (i0 : Nat) (k38 : Int32 → Int32 → Int32 → Int32 → qS → Option (Int32 × qS)) (x2 : Int32) (x3 : Int32) (x4 : Int32) (x5 : Int32) (σ : qS) : Option (Int32 × qS) :=
  fX7_fenceOf_82 F i0 k38 x2 x3 x4 x5 0 σ
def fX7_fenceOf_38 (F : Nat) (i0 : Nat) : Nat → Int32 → Int32 → Int32 → Int32 → qS → Option (Int32 × qS)
  | 0, _, _, _, _, _ => none
  | n + 1, x2, x3, x4, x5, σ =>
  if 80 ≤ x5 then (ldi 80 (σ.1 6 0) x3 fun v9 => (some (v9, σ))) else (bnd2 (fX7_isChild F i0 x5 x2 σ) fun v11 s10 => (if v11 = 0 then (fX7_fenceOf_81 F i0 (fX7_fenceOf_38 F i0 n) x2 x3 x4 x5 s10) else (ldi 80 (s10.1 3 0) x5 fun v18 => (ldi 80 (s10.1 3 0) x3 fun v19 => (if v19 ≤ v18 then (fX7_fenceOf_81 F i0 (fX7_fenceOf_38 F i0 n) x2 x3 x4 x5 s10) else (fX7_fenceOf_82 F i0 (fX7_fenceOf_38 F i0 n) x2 x3 x4 x5 1 s10))))))
def fX7_fenceOf_33 (F : Nat) (i0 : Nat) (x2 : Int32) (x3 : Int32) (t0 : Int32) (σ : qS) : Option (Int32 × qS) :=
  fX7_fenceOf_38 F i0 F x2 x3 t0 1 σ
def fX7_fenceOf (F : Nat) (i0 : Nat) (p1 : Int32) (p2 : Int32) (σ : qS) : Option (Int32 × qS) :=
  gnl i0 6 (bnd2 (fX7_firstOf F i0 p1 p2 σ) fun v2 s1 => (bnd2 (fX7_holds F i0 v2 s1) fun v4 s3 => (if v4 = 0 then (some ((-100), s3)) else (ldi 80 (s3.1 32 i0) v2 fun v6 => (if v6 = 1 then (fX7_fenceOf_33 F i0 p2 v2 1 s3) else (fX7_fenceOf_33 F i0 p2 v2 0 s3))))))
set_option maxRecDepth 100000 in
set_option maxHeartbeats 4000000 in
theorem wX7_fenceOf (l : Launch) (D : va_G) (Y : Nat → ClassId) (ad : qAd) (F : Nat) (i0 : Nat) (p1 : Int32) (p2 : Int32) (σ : qS) : qCi l yX7_fenceOf cX7_fenceOf 7 (some .int) 4 91 D (cL Y) (qT Y) ad [.ref (ad 30 i0), .int p1, .int p2] σ (fX7_fenceOf F i0 p1 p2 σ) := by
  refine q_ofi (by decide) (Nat.le_of_ble_eq_true rfl) "Leasehall$Tree" rfl (fun p e s m below meth c A Q r0 S0 hf hw hret ls hl => ?_)
  replace hl : lv_has ls 7 [(0, .ref (ad 30 i0)), (1, .int p1), (2, .int p2)] := hl
  unfold fX7_fenceOf at hf
  obtain ⟨hg0, hf⟩ := gnl_some hf
  have b107 : ∀ (k38 : Int32 → Int32 → Int32 → Int32 → qS → Option (Int32 × qS)) (hk38 : ∀ (x2 : Int32) (x3 : Int32) (x4 : Int32) (x5 : Int32) (σ : qS), k38 x2 x3 x4 x5 σ = some r0 → qAt p l e (qRm 4 91) s m ([.ref (ad 30 i0), .int p1, .int p2] : List Value).toArray below meth c Q D (cL Y) (qT Y) A ad 7 0 0 38 [(0, .ref (ad 30 i0)), (2, .int x2), (3, .int x3), (4, .int x4), (5, .int x5)] [] σ) (x2 : Int32) (x3 : Int32) (x4 : Int32) (x5 : Int32) (σ : qS), fX7_fenceOf_107 F i0 k38 x2 x3 x4 x5 σ = some r0 → qAt p l e (qRm 4 91) s m ([.ref (ad 30 i0), .int p1, .int p2] : List Value).toArray below meth c Q D (cL Y) (qT Y) A ad 7 0 0 107 [(0, .ref (ad 30 i0)), (2, .int x2), (3, .int x3), (4, .int x4), (5, .int x5)] [] σ := by
    clear hf hw hl ls
    intro k38 hk38
    intro x2 x3 x4 x5 σ hf H locs ls hw hl
    unfold fX7_fenceOf_107 at hf
    refine q_iinc S0 (v0 := 1) dX7_fenceOf_107 hl (k := 4) rfl (by decide) (by decide) rfl hf (fun v14 ls hl hf => ?_)
    refine lv_goto (tgt := 38) S0.1 S0.2.1 dX7_fenceOf_110 (by decide) ?_
    exact hk38 x2 x3 x4 v14 σ hf _ _ _ hw (lv_sub hl [1, 2, 3, 4, 0] rfl)
  have b104 : ∀ (σ : qS), fX7_fenceOf_104 F i0 σ = some r0 → qAt p l e (qRm 4 91) s m ([.ref (ad 30 i0), .int p1, .int p2] : List Value).toArray below meth c Q D (cL Y) (qT Y) A ad 7 0 0 104 [] [] σ := by
    clear hf hw hl ls
    intro σ hf H locs ls hw hl
    unfold fX7_fenceOf_104 at hf
    refine lv_bipush (v := (-100)) S0.1 S0.2.1 dX7_fenceOf_104 (by decide) ?_
    exact hret dX7_fenceOf_106 hw hf
  have b82 : ∀ (k38 : Int32 → Int32 → Int32 → Int32 → qS → Option (Int32 × qS)) (hk38 : ∀ (x2 : Int32) (x3 : Int32) (x4 : Int32) (x5 : Int32) (σ : qS), k38 x2 x3 x4 x5 σ = some r0 → qAt p l e (qRm 4 91) s m ([.ref (ad 30 i0), .int p1, .int p2] : List Value).toArray below meth c Q D (cL Y) (qT Y) A ad 7 0 0 38 [(0, .ref (ad 30 i0)), (2, .int x2), (3, .int x3), (4, .int x4), (5, .int x5)] [] σ) (x2 : Int32) (x3 : Int32) (x4 : Int32) (x5 : Int32) (t0 : Int32) (σ : qS), fX7_fenceOf_82 F i0 k38 x2 x3 x4 x5 t0 σ = some r0 → qAt p l e (qRm 4 91) s m ([.ref (ad 30 i0), .int p1, .int p2] : List Value).toArray below meth c Q D (cL Y) (qT Y) A ad 7 0 0 82 [(0, .ref (ad 30 i0)), (2, .int x2), (3, .int x3), (4, .int x4), (5, .int x5)] [.int t0] σ := by
    clear hf hw hl ls
    intro k38 hk38
    intro x2 x3 x4 x5 t0 σ hf H locs ls hw hl
    unfold fX7_fenceOf_82 at hf
    refine lv_istore (lv' := [(6, .int t0), (0, .ref (ad 30 i0)), (2, .int x2), (3, .int x3), (4, .int x4), (5, .int x5)]) S0.1 S0.2.1 dX7_fenceOf_82 hl (by decide) rfl (fun ls hl => ?_)
    refine lv_iload S0.1 S0.2.1 dX7_fenceOf_84 (lv_at hl 0 rfl) ?_
    refine lv_if_eq (tgt := 107) S0.1 S0.2.1 dX7_fenceOf_86 (by decide) (fun c13 => ?_) (fun c13 => ?_)
    · replace hf := q_pos c13 hf
      exact b107 k38 hk38 x2 x3 x4 x5 σ hf _ _ _ hw (lv_sub hl [1, 2, 3, 4, 5] rfl)
    · replace hf := q_neg c13 hf
      refine lv_iload S0.1 S0.2.1 dX7_fenceOf_89 (lv_at hl 4 rfl) ?_
      refine lv_if_eq (tgt := 104) S0.1 S0.2.1 dX7_fenceOf_91 (by decide) (fun c15 => ?_) (fun c15 => ?_)
      · replace hf := q_pos c15 hf
        exact b104 σ hf _ _ _ hw (lv_sub hl [] rfl)
      · replace hf := q_neg c15 hf
        refine lv_aload_n S0.1 S0.2.1 dX7_fenceOf_94 rfl (lv_at hl 1 rfl) ?_
        refine gX7_value S0 hw hg0 kw_81 dX7_fenceOf_95 ?_
        refine lv_iload S0.1 S0.2.1 dX7_fenceOf_98 (lv_at hl 5 rfl) ?_
        refine q_iald (k := 32) (i := i0) S0 hw hg0 (t0 := 0) rfl rfl dX7_fenceOf_100 hf (fun v16 hf => ?_)
        refine lv_if_ne (tgt := 107) S0.1 S0.2.1 dX7_fenceOf_101 (by decide) (fun c17 => ?_) (fun c17 => ?_)
        · replace hf := q_neg c17 hf
          exact b107 k38 hk38 x2 x3 x4 x5 σ hf _ _ _ hw (lv_sub hl [1, 2, 3, 4, 5] rfl)
        · replace hf := q_pos c17 hf
          exact b104 σ hf _ _ _ hw (lv_sub hl [] rfl)
  have b81 : ∀ (k38 : Int32 → Int32 → Int32 → Int32 → qS → Option (Int32 × qS)) (hk38 : ∀ (x2 : Int32) (x3 : Int32) (x4 : Int32) (x5 : Int32) (σ : qS), k38 x2 x3 x4 x5 σ = some r0 → qAt p l e (qRm 4 91) s m ([.ref (ad 30 i0), .int p1, .int p2] : List Value).toArray below meth c Q D (cL Y) (qT Y) A ad 7 0 0 38 [(0, .ref (ad 30 i0)), (2, .int x2), (3, .int x3), (4, .int x4), (5, .int x5)] [] σ) (x2 : Int32) (x3 : Int32) (x4 : Int32) (x5 : Int32) (σ : qS), fX7_fenceOf_81 F i0 k38 x2 x3 x4 x5 σ = some r0 → qAt p l e (qRm 4 91) s m ([.ref (ad 30 i0), .int p1, .int p2] : List Value).toArray below meth c Q D (cL Y) (qT Y) A ad 7 0 0 81 [(0, .ref (ad 30 i0)), (2, .int x2), (3, .int x3), (4, .int x4), (5, .int x5)] [] σ := by
    clear hf hw hl ls
    intro k38 hk38
    intro x2 x3 x4 x5 σ hf H locs ls hw hl
    unfold fX7_fenceOf_81 at hf
    refine lv_iconst (v := 0) S0.1 S0.2.1 dX7_fenceOf_81 (by decide) ?_
    exact b82 k38 hk38 x2 x3 x4 x5 0 σ hf _ _ _ hw (lv_sub hl [0, 1, 2, 3, 4] rfl)
  have b38 : ∀ (n : Nat) (x2 : Int32) (x3 : Int32) (x4 : Int32) (x5 : Int32) (σ : qS), fX7_fenceOf_38 F i0 n x2 x3 x4 x5 σ = some r0 → qAt p l e (qRm 4 91) s m ([.ref (ad 30 i0), .int p1, .int p2] : List Value).toArray below meth c Q D (cL Y) (qT Y) A ad 7 0 0 38 [(0, .ref (ad 30 i0)), (2, .int x2), (3, .int x3), (4, .int x4), (5, .int x5)] [] σ := by
    clear hf hw hl ls
    intro n
    induction n with
    | zero => intro x2 x3 x4 x5 σ hf; exact absurd hf (by rw [fX7_fenceOf_38]; exact nofun)
    | succ n hk38 =>
      intro x2 x3 x4 x5 σ hf H locs ls hw hl
      rw [fX7_fenceOf_38] at hf
      refine lv_iload S0.1 S0.2.1 dX7_fenceOf_38 (lv_at hl 4 rfl) ?_
      refine lv_bipush (v := 80) S0.1 S0.2.1 dX7_fenceOf_40 (by decide) ?_
      refine lv_icmp_ge (tgt := 113) S0.1 S0.2.1 dX7_fenceOf_42 (by decide) (fun c8 => ?_) (fun c8 => ?_)
      · replace hf := q_pos c8 hf
        refine lv_aload_n S0.1 S0.2.1 dX7_fenceOf_113 rfl (lv_at hl 0 rfl) ?_
        refine gX7_births S0 hw hg0 kw_78 dX7_fenceOf_114 ?_
        refine gX1_change S0 hw kw_53 dX7_fenceOf_117 ?_
        refine lv_iload_n S0.1 S0.2.1 dX7_fenceOf_120 rfl (lv_at hl 2 rfl) ?_
        refine q_iald S0 hw dC_6 (t0 := 0) rfl rfl dX7_fenceOf_121 hf (fun v9 hf => ?_)
        exact hret dX7_fenceOf_122 hw hf
      · replace hf := q_neg c8 hf
        refine lv_aload_n S0.1 S0.2.1 dX7_fenceOf_45 rfl (lv_at hl 0 rfl) ?_
        refine lv_iload S0.1 S0.2.1 dX7_fenceOf_46 (lv_at hl 4 rfl) ?_
        refine lv_iload_n S0.1 S0.2.1 dX7_fenceOf_48 rfl (lv_at hl 1 rfl) ?_
        refine q_calli (k := 30) (i := i0) S0 hw (As := [.int x5, .int x2]) (rest := []) (wX7_isChild l D Y ad F i0 x5 x2 σ) qyX7_isChild kw_667 ⟨Nat.le_of_ble_eq_true rfl, Nat.le_of_ble_eq_true rfl⟩ hg0 rfl rfl rfl rfl hl.1 (Nat.le_of_ble_eq_true rfl) dX7_fenceOf_49 ⟨Nat.le_refl _, Nat.le_refl _⟩ rfl hf (fun v11 s10 H locs hw hf => ?_)
        refine lv_if_eq (tgt := 81) S0.1 S0.2.1 dX7_fenceOf_52 (by decide) (fun c12 => ?_) (fun c12 => ?_)
        · replace hf := q_pos c12 hf
          exact b81 (fX7_fenceOf_38 F i0 n) hk38 x2 x3 x4 x5 s10 hf _ _ _ hw (lv_sub hl [0, 1, 2, 3, 4] rfl)
        · replace hf := q_neg c12 hf
          refine lv_aload_n S0.1 S0.2.1 dX7_fenceOf_55 rfl (lv_at hl 0 rfl) ?_
          refine gX7_births S0 hw hg0 kw_78 dX7_fenceOf_56 ?_
          refine gX1_name S0 hw kw_45 dX7_fenceOf_59 ?_
          refine lv_iload S0.1 S0.2.1 dX7_fenceOf_62 (lv_at hl 4 rfl) ?_
          refine q_iald S0 hw dC_3 (t0 := 0) rfl rfl dX7_fenceOf_64 hf (fun v18 hf => ?_)
          refine lv_aload_n S0.1 S0.2.1 dX7_fenceOf_65 rfl (lv_at hl 0 rfl) ?_
          refine gX7_births S0 hw hg0 kw_78 dX7_fenceOf_66 ?_
          refine gX1_name S0 hw kw_45 dX7_fenceOf_69 ?_
          refine lv_iload_n S0.1 S0.2.1 dX7_fenceOf_72 rfl (lv_at hl 2 rfl) ?_
          refine q_iald S0 hw dC_3 (t0 := 0) rfl rfl dX7_fenceOf_73 hf (fun v19 hf => ?_)
          refine lv_icmp_ge (tgt := 81) S0.1 S0.2.1 dX7_fenceOf_74 (by decide) (fun c20 => ?_) (fun c20 => ?_)
          · replace hf := q_pos c20 hf
            exact b81 (fX7_fenceOf_38 F i0 n) hk38 x2 x3 x4 x5 s10 hf _ _ _ hw (lv_sub hl [0, 1, 2, 3, 4] rfl)
          · replace hf := q_neg c20 hf
            refine lv_iconst (v := 1) S0.1 S0.2.1 dX7_fenceOf_77 (by decide) ?_
            refine lv_goto (tgt := 82) S0.1 S0.2.1 dX7_fenceOf_78 (by decide) ?_
            exact b82 (fX7_fenceOf_38 F i0 n) hk38 x2 x3 x4 x5 1 s10 hf _ _ _ hw (lv_sub hl [0, 1, 2, 3, 4] rfl)
  have b33 : ∀ (x2 : Int32) (x3 : Int32) (t0 : Int32) (σ : qS), fX7_fenceOf_33 F i0 x2 x3 t0 σ = some r0 → qAt p l e (qRm 4 91) s m ([.ref (ad 30 i0), .int p1, .int p2] : List Value).toArray below meth c Q D (cL Y) (qT Y) A ad 7 0 0 33 [(0, .ref (ad 30 i0)), (2, .int x2), (3, .int x3)] [.int t0] σ := by
    clear hf hw hl ls
    intro x2 x3 t0 σ hf H locs ls hw hl
    unfold fX7_fenceOf_33 at hf
    refine lv_istore (lv' := [(4, .int t0), (0, .ref (ad 30 i0)), (2, .int x2), (3, .int x3)]) S0.1 S0.2.1 dX7_fenceOf_33 hl (by decide) rfl (fun ls hl => ?_)
    refine lv_iconst (v := 1) S0.1 S0.2.1 dX7_fenceOf_35 (by decide) ?_
    refine lv_istore (lv' := [(5, .int 1), (4, .int t0), (0, .ref (ad 30 i0)), (2, .int x2), (3, .int x3)]) S0.1 S0.2.1 dX7_fenceOf_36 hl (by decide) rfl (fun ls hl => ?_)
    exact b38 F x2 x3 t0 1 σ hf _ _ _ hw (lv_sub hl [2, 3, 4, 1, 0] rfl)
  refine lv_aload_n S0.1 S0.2.1 dX7_fenceOf_0 rfl (lv_at hl 0 rfl) ?_
  refine lv_iload_n S0.1 S0.2.1 dX7_fenceOf_1 rfl (lv_at hl 1 rfl) ?_
  refine lv_iload_n S0.1 S0.2.1 dX7_fenceOf_2 rfl (lv_at hl 2 rfl) ?_
  refine q_calli (k := 30) (i := i0) S0 hw (As := [.int p1, .int p2]) (rest := []) (wX7_firstOf l D Y ad F i0 p1 p2 σ) qyX7_firstOf kw_1052 ⟨Nat.le_of_ble_eq_true rfl, Nat.le_of_ble_eq_true rfl⟩ hg0 rfl rfl rfl rfl hl.1 (Nat.le_of_ble_eq_true rfl) dX7_fenceOf_3 ⟨Nat.le_refl _, Nat.le_refl _⟩ rfl hf (fun v2 s1 H locs hw hf => ?_)
  refine lv_istore_n (lv' := [(3, .int v2), (0, .ref (ad 30 i0)), (1, .int p1), (2, .int p2)]) S0.1 S0.2.1 dX7_fenceOf_6 rfl hl (by decide) rfl (fun ls hl => ?_)
  refine lv_aload_n S0.1 S0.2.1 dX7_fenceOf_7 rfl (lv_at hl 1 rfl) ?_
  refine lv_iload_n S0.1 S0.2.1 dX7_fenceOf_8 rfl (lv_at hl 0 rfl) ?_
  refine q_calli (k := 30) (i := i0) S0 hw (As := [.int v2]) (rest := []) (wX7_holds l D Y ad F i0 v2 s1) qyX7_holds kw_859 ⟨Nat.le_of_ble_eq_true rfl, Nat.le_of_ble_eq_true rfl⟩ hg0 rfl rfl rfl rfl hl.1 (Nat.le_of_ble_eq_true rfl) dX7_fenceOf_9 ⟨Nat.le_refl _, Nat.le_refl _⟩ rfl hf (fun v4 s3 H locs hw hf => ?_)
  refine lv_if_ne (tgt := 18) S0.1 S0.2.1 dX7_fenceOf_12 (by decide) (fun c5 => ?_) (fun c5 => ?_)
  · replace hf := q_neg c5 hf
    refine lv_aload_n S0.1 S0.2.1 dX7_fenceOf_18 rfl (lv_at hl 1 rfl) ?_
    refine gX7_value S0 hw hg0 kw_81 dX7_fenceOf_19 ?_
    refine lv_iload_n S0.1 S0.2.1 dX7_fenceOf_22 rfl (lv_at hl 0 rfl) ?_
    refine q_iald (k := 32) (i := i0) S0 hw hg0 (t0 := 0) rfl rfl dX7_fenceOf_23 hf (fun v6 hf => ?_)
    refine lv_iconst (v := 1) S0.1 S0.2.1 dX7_fenceOf_24 (by decide) ?_
    refine lv_icmp_ne (tgt := 32) S0.1 S0.2.1 dX7_fenceOf_25 (by decide) (fun c7 => ?_) (fun c7 => ?_)
    · replace hf := q_neg c7 hf
      refine lv_iconst (v := 0) S0.1 S0.2.1 dX7_fenceOf_32 (by decide) ?_
      exact b33 p2 v2 0 s3 hf _ _ _ hw (lv_sub hl [1, 3, 0] rfl)
    · replace hf := q_pos c7 hf
      refine lv_iconst (v := 1) S0.1 S0.2.1 dX7_fenceOf_28 (by decide) ?_
      refine lv_goto (tgt := 33) S0.1 S0.2.1 dX7_fenceOf_29 (by decide) ?_
      exact b33 p2 v2 1 s3 hf _ _ _ hw (lv_sub hl [1, 3, 0] rfl)
  · replace hf := q_pos c5 hf
    refine lv_bipush (v := (-100)) S0.1 S0.2.1 dX7_fenceOf_15 (by decide) ?_
    exact hret dX7_fenceOf_17 hw hf
theorem qyX7_countBelow : qY yX7_countBelow RX7 cX7_countBelow 2 none 0 := ⟨⟨kw_316, kw_317, kw_3, kw_318⟩, rfl, by decide, by decide, by decide +kernel⟩
def fX7_countBelow_49 (F : Nat) (i0 : Nat) (k11 : Int32 → qS → Option qS) (x1 : Int32) (σ : qS) : Option qS :=
  nm (x1 + (-1)) fun v5 => (k11 v5 σ)
def fX7_countBelow_11 (F : Nat) (i0 : Nat) : Nat → Int32 → qS → Option qS
  | 0, _, _ => none
  | n + 1, x1, σ =>
  if x1 ≤ 0 then (some σ) else (ldi 80 (σ.1 31 i0) x1 fun v3 => (if v3 = 0 then (fX7_countBelow_49 F i0 (fX7_countBelow_11 F i0 n) x1 σ) else (ldi 80 (σ.1 2 0) x1 fun v6 => (ldi 80 (σ.1 38 i0) v6 fun v7 => (ldi 80 (σ.1 38 i0) x1 fun v8 => (nm (1 + v8) fun v9 => (nm (v7 + v9) fun v10 => (inx 80 v6 (nm (qI σ 38 i0 v6.toNatClampNeg v10) fun s11 => (fX7_countBelow_49 F i0 (fX7_countBelow_11 F i0 n) x1 s11))))))))))
def fX7_countBelow (F : Nat) (i0 : Nat) (σ : qS) : Option qS :=
  gnl i0 6 (nm (qF σ 38 i0 (fun j => if j < 80 then 0 else σ.1 38 i0 j)) fun s1 => (fX7_countBelow_11 F i0 F 79 s1))
set_option maxRecDepth 100000 in
set_option maxHeartbeats 4000000 in
theorem wX7_countBelow (l : Launch) (D : va_G) (Y : Nat → ClassId) (ad : qAd) (F : Nat) (i0 : Nat) (σ : qS) : qCv l yX7_countBelow cX7_countBelow 2 none 1 23 D (cL Y) (qT Y) ad [.ref (ad 30 i0)] σ (fX7_countBelow F i0 σ) := by
  refine q_ofv (by decide) (Nat.le_of_ble_eq_true rfl) "Leasehall$Tree" rfl (fun p e s m below meth c A Q r0 S0 hf hw hret ls hl => ?_)
  replace hl : lv_has ls 2 [(0, .ref (ad 30 i0))] := hl
  unfold fX7_countBelow at hf
  obtain ⟨hg0, hf⟩ := gnl_some hf
  have b49 : ∀ (k11 : Int32 → qS → Option qS) (hk11 : ∀ (x1 : Int32) (σ : qS), k11 x1 σ = some r0 → qAt p l e (qRm 1 23) s m ([.ref (ad 30 i0)] : List Value).toArray below meth c Q D (cL Y) (qT Y) A ad 2 0 0 11 [(0, .ref (ad 30 i0)), (1, .int x1)] [] σ) (x1 : Int32) (σ : qS), fX7_countBelow_49 F i0 k11 x1 σ = some r0 → qAt p l e (qRm 1 23) s m ([.ref (ad 30 i0)] : List Value).toArray below meth c Q D (cL Y) (qT Y) A ad 2 0 0 49 [(0, .ref (ad 30 i0)), (1, .int x1)] [] σ := by
    clear hf hw hl ls
    intro k11 hk11
    intro x1 σ hf H locs ls hw hl
    unfold fX7_countBelow_49 at hf
    refine q_iinc S0 (v0 := (-1)) dX7_countBelow_49 hl (k := 1) rfl (by decide) (by decide) rfl hf (fun v5 ls hl hf => ?_)
    refine lv_goto (tgt := 11) S0.1 S0.2.1 dX7_countBelow_52 (by decide) ?_
    exact hk11 v5 σ hf _ _ _ hw (lv_sub hl [1, 0] rfl)
  have b11 : ∀ (n : Nat) (x1 : Int32) (σ : qS), fX7_countBelow_11 F i0 n x1 σ = some r0 → qAt p l e (qRm 1 23) s m ([.ref (ad 30 i0)] : List Value).toArray below meth c Q D (cL Y) (qT Y) A ad 2 0 0 11 [(0, .ref (ad 30 i0)), (1, .int x1)] [] σ := by
    clear hf hw hl ls
    intro n
    induction n with
    | zero => intro x1 σ hf; exact absurd hf (by rw [fX7_countBelow_11]; exact nofun)
    | succ n hk11 =>
      intro x1 σ hf H locs ls hw hl
      rw [fX7_countBelow_11] at hf
      refine lv_iload_n S0.1 S0.2.1 dX7_countBelow_11 rfl (lv_at hl 1 rfl) ?_
      refine lv_if_le (tgt := 55) S0.1 S0.2.1 dX7_countBelow_12 (by decide) (fun c2 => ?_) (fun c2 => ?_)
      · replace hf := q_pos c2 hf
        exact hret dX7_countBelow_55 hw hf
      · replace hf := q_neg c2 hf
        refine lv_aload_n S0.1 S0.2.1 dX7_countBelow_15 rfl (lv_at hl 0 rfl) ?_
        refine gX7_here S0 hw hg0 kw_79 dX7_countBelow_16 ?_
        refine lv_iload_n S0.1 S0.2.1 dX7_countBelow_19 rfl (lv_at hl 1 rfl) ?_
        refine q_zald (k := 31) (i := i0) S0 hw hg0 (t0 := 1) rfl rfl dX7_countBelow_20 hf (fun v3 hf => ?_)
        refine lv_if_eq (tgt := 49) S0.1 S0.2.1 dX7_countBelow_21 (by decide) (fun c4 => ?_) (fun c4 => ?_)
        · replace hf := q_pos c4 hf
          exact b49 (fX7_countBelow_11 F i0 n) hk11 x1 σ hf _ _ _ hw (lv_sub hl [0, 1] rfl)
        · replace hf := q_neg c4 hf
          refine lv_aload_n S0.1 S0.2.1 dX7_countBelow_24 rfl (lv_at hl 0 rfl) ?_
          refine gX7_below S0 hw hg0 kw_90 dX7_countBelow_25 ?_
          refine lv_aload_n S0.1 S0.2.1 dX7_countBelow_28 rfl (lv_at hl 0 rfl) ?_
          refine gX7_births S0 hw hg0 kw_78 dX7_countBelow_29 ?_
          refine gX1_parent S0 hw kw_41 dX7_countBelow_32 ?_
          refine lv_iload_n S0.1 S0.2.1 dX7_countBelow_35 rfl (lv_at hl 1 rfl) ?_
          refine q_iald S0 hw dC_2 (t0 := 0) rfl rfl dX7_countBelow_36 hf (fun v6 hf => ?_)
          refine lv_dup2_11 S0.1 S0.2.1 dX7_countBelow_37 rfl rfl ?_
          refine q_iald (k := 38) (i := i0) S0 hw hg0 (t0 := 0) rfl rfl dX7_countBelow_38 hf (fun v7 hf => ?_)
          refine lv_iconst (v := 1) S0.1 S0.2.1 dX7_countBelow_39 (by decide) ?_
          refine lv_aload_n S0.1 S0.2.1 dX7_countBelow_40 rfl (lv_at hl 0 rfl) ?_
          refine gX7_below S0 hw hg0 kw_90 dX7_countBelow_41 ?_
          refine lv_iload_n S0.1 S0.2.1 dX7_countBelow_44 rfl (lv_at hl 1 rfl) ?_
          refine q_iald (k := 38) (i := i0) S0 hw hg0 (t0 := 0) rfl rfl dX7_countBelow_45 hf (fun v8 hf => ?_)
          refine lv_iadd S0.1 S0.2.1 dX7_countBelow_46 (q_top hf (fun v9 hf => ?_))
          refine lv_iadd S0.1 S0.2.1 dX7_countBelow_47 (q_top hf (fun v10 hf => ?_))
          refine q_iast (k := 38) (i := i0) S0 hw hg0 (t0 := 0) (fun _ => rfl) rfl dX7_countBelow_48 hf (fun s11 H locs hw hf => ?_)
          exact b49 (fX7_countBelow_11 F i0 n) hk11 x1 s11 hf _ _ _ hw (lv_sub hl [0, 1] rfl)
  refine lv_aload_n S0.1 S0.2.1 dX7_countBelow_0 rfl (lv_at hl 0 rfl) ?_
  refine gX7_below S0 hw hg0 kw_90 dX7_countBelow_1 ?_
  refine lv_iconst (v := 0) S0.1 S0.2.1 dX7_countBelow_4 (by decide) ?_
  refine q_fill (k := 38) (i := i0) S0 hw hg0 (t0 := 0) (fun _ => rfl) rfl (by decide) kw_319 ⟨Nat.le_of_ble_eq_true rfl, Nat.le_of_ble_eq_true rfl⟩ hl.1 (Nat.le_of_ble_eq_true rfl) dX7_countBelow_5 ⟨Nat.le_refl _, Nat.le_refl _⟩ hf (fun s1 H locs hw hf => ?_)
  refine lv_bipush (v := 79) S0.1 S0.2.1 dX7_countBelow_8 (by decide) ?_
  refine lv_istore_n (lv' := [(1, .int 79), (0, .ref (ad 30 i0))]) S0.1 S0.2.1 dX7_countBelow_10 rfl hl (by decide) rfl (fun ls hl => ?_)
  exact b11 F 79 s1 hf _ _ _ hw (lv_sub hl [1, 0] rfl)
theorem qyX7_belowOf : qY yX7_belowOf RX7 cX7_belowOf 2 (some .int) 1 := ⟨⟨kw_312, kw_313, kw_3, kw_314⟩, rfl, by decide, by decide, by decide +kernel⟩
def fX7_belowOf (F : Nat) (i0 : Nat) (p1 : Int32) (σ : qS) : Option (Int32 × qS) :=
  gnl i0 6 (bnd (fX7_countBelow F i0 σ) fun s1 => (ldi 80 (s1.1 38 i0) p1 fun v2 => (some (v2, s1))))
set_option maxRecDepth 100000 in
set_option maxHeartbeats 4000000 in
theorem wX7_belowOf (l : Launch) (D : va_G) (Y : Nat → ClassId) (ad : qAd) (F : Nat) (i0 : Nat) (p1 : Int32) (σ : qS) : qCi l yX7_belowOf cX7_belowOf 2 (some .int) 2 44 D (cL Y) (qT Y) ad [.ref (ad 30 i0), .int p1] σ (fX7_belowOf F i0 p1 σ) := by
  refine q_ofi (by decide) (Nat.le_of_ble_eq_true rfl) "Leasehall$Tree" rfl (fun p e s m below meth c A Q r0 S0 hf hw hret ls hl => ?_)
  replace hl : lv_has ls 2 [(0, .ref (ad 30 i0)), (1, .int p1)] := hl
  unfold fX7_belowOf at hf
  obtain ⟨hg0, hf⟩ := gnl_some hf
  refine lv_aload_n S0.1 S0.2.1 dX7_belowOf_0 rfl (lv_at hl 0 rfl) ?_
  refine q_callv (k := 30) (i := i0) S0 hw (As := []) (rest := []) (wX7_countBelow l D Y ad F i0 σ) qyX7_countBelow kw_315 ⟨Nat.le_of_ble_eq_true rfl, Nat.le_of_ble_eq_true rfl⟩ hg0 rfl rfl rfl rfl hl.1 (Nat.le_of_ble_eq_true rfl) dX7_belowOf_1 ⟨Nat.le_refl _, Nat.le_refl _⟩ rfl hf (fun s1 H locs hw hf => ?_)
  refine lv_aload_n S0.1 S0.2.1 dX7_belowOf_4 rfl (lv_at hl 0 rfl) ?_
  refine gX7_below S0 hw hg0 kw_90 dX7_belowOf_5 ?_
  refine lv_iload_n S0.1 S0.2.1 dX7_belowOf_8 rfl (lv_at hl 1 rfl) ?_
  refine q_iald (k := 38) (i := i0) S0 hw hg0 (t0 := 0) rfl rfl dX7_belowOf_9 hf (fun v2 hf => ?_)
  exact hret dX7_belowOf_10 hw hf
theorem qyX6_addWatch : qY yX6_addWatch RX6 cX6_addWatch 3 (some .int) 2 := ⟨⟨kw_1020, kw_1021, kw_18, kw_1022⟩, rfl, by decide, by decide, by decide +kernel⟩
def fX6_addWatch_39 (F : Nat) (i0 : Nat) (σ : qS) : Option (Int32 × qS) :=
  gnl i0 (σ.2 0 0) (nm (σ.1 50 i0 11) fun v3 => (some (v3, σ)))
def fX6_addWatch (F : Nat) (i0 : Nat) (p1 : Int32) (p2 : Int32) (σ : qS) : Option (Int32 × qS) :=
  gnl i0 (σ.2 0 0) (nm (σ.1 50 i0 11) fun v1 => (if 8 ≤ v1 then (fX6_addWatch_39 F i0 σ) else (gnl i0 (σ.2 0 0) (gnl i0 (σ.2 0 0) (nm (σ.1 50 i0 11) fun v4 => (gnl i0 (σ.2 0 0) (inx 8 v4 (nm (qI σ 53 i0 v4.toNatClampNeg p1) fun s5 => (gnl i0 (s5.2 0 0) (gnl i0 (s5.2 0 0) (nm (s5.1 50 i0 11) fun v6 => (gnl i0 (s5.2 0 0) (inx 8 v6 (nm (qI s5 54 i0 v6.toNatClampNeg p2) fun s7 => (gnl i0 (s7.2 0 0) (nm (s7.1 50 i0 11) fun v8 => (nm (v8 + 1) fun v9 => (gnl i0 (s7.2 0 0) (nm (qI s7 50 i0 11 v9) fun s10 => (fX6_addWatch_39 F i0 s10))))))))))))))))))))
set_option maxRecDepth 100000 in
set_option maxHeartbeats 4000000 in
theorem wX6_addWatch (l : Launch) (D : va_G) (Y : Nat → ClassId) (ad : qAd) (F : Nat) (i0 : Nat) (p1 : Int32) (p2 : Int32) (σ : qS) : qCi l yX6_addWatch cX6_addWatch 3 (some .int) 0 0 D (cL Y) (qT Y) ad [.ref (ad 50 i0), .int p1, .int p2] σ (fX6_addWatch F i0 p1 p2 σ) := by
  refine q_ofi (by decide) (Nat.le_of_ble_eq_true rfl) "Leasehall$Session" rfl (fun p e s m below meth c A Q r0 S0 hf hw hret ls hl => ?_)
  replace hl : lv_has ls 3 [(0, .ref (ad 50 i0)), (1, .int p1), (2, .int p2)] := hl
  unfold fX6_addWatch at hf
  have b39 : ∀ (σ : qS), fX6_addWatch_39 F i0 σ = some r0 → qAt p l e (qRm 0 0) s m ([.ref (ad 50 i0), .int p1, .int p2] : List Value).toArray below meth c Q D (cL Y) (qT Y) A ad 3 0 0 39 [(0, .ref (ad 50 i0))] [] σ := by
    clear hf hw hl ls
    intro σ hf H locs ls hw hl
    unfold fX6_addWatch_39 at hf
    refine lv_aload_n S0.1 S0.2.1 dX6_addWatch_39 rfl (lv_at hl 0 rfl) ?_
    obtain ⟨hd, hf⟩ := gnl_some hf
    refine gX6_watches S0 hw hd kw_488 dX6_addWatch_40 hf (fun v3 hf => ?_)
    exact hret dX6_addWatch_43 hw hf
  refine lv_aload_n S0.1 S0.2.1 dX6_addWatch_0 rfl (lv_at hl 0 rfl) ?_
  obtain ⟨hd, hf⟩ := gnl_some hf
  refine gX6_watches S0 hw hd kw_488 dX6_addWatch_1 hf (fun v1 hf => ?_)
  refine lv_bipush (v := 8) S0.1 S0.2.1 dX6_addWatch_4 (by decide) ?_
  refine lv_icmp_ge (tgt := 39) S0.1 S0.2.1 dX6_addWatch_6 (by decide) (fun c2 => ?_) (fun c2 => ?_)
  · replace hf := q_pos c2 hf
    exact b39 σ hf _ _ _ hw (lv_sub hl [0] rfl)
  · replace hf := q_neg c2 hf
    refine lv_aload_n S0.1 S0.2.1 dX6_addWatch_9 rfl (lv_at hl 0 rfl) ?_
    obtain ⟨hd, hf⟩ := gnl_some hf
    refine gX6_watchNode S0 hw hd kw_478 dX6_addWatch_10 ?_
    refine lv_aload_n S0.1 S0.2.1 dX6_addWatch_13 rfl (lv_at hl 0 rfl) ?_
    obtain ⟨hd, hf⟩ := gnl_some hf
    refine gX6_watches S0 hw hd kw_488 dX6_addWatch_14 hf (fun v4 hf => ?_)
    refine lv_iload_n S0.1 S0.2.1 dX6_addWatch_17 rfl (lv_at hl 1 rfl) ?_
    obtain ⟨hd, hf⟩ := gnl_some hf
    refine q_iast (k := 53) (i := i0) S0 hw hd (t0 := 0) (fun _ => rfl) rfl dX6_addWatch_18 hf (fun s5 H locs hw hf => ?_)
    refine lv_aload_n S0.1 S0.2.1 dX6_addWatch_19 rfl (lv_at hl 0 rfl) ?_
    obtain ⟨hd, hf⟩ := gnl_some hf
    refine gX6_watchKind S0 hw hd kw_479 dX6_addWatch_20 ?_
    refine lv_aload_n S0.1 S0.2.1 dX6_addWatch_23 rfl (lv_at hl 0 rfl) ?_
    obtain ⟨hd, hf⟩ := gnl_some hf
    refine gX6_watches S0 hw hd kw_488 dX6_addWatch_24 hf (fun v6 hf => ?_)
    refine lv_iload_n S0.1 S0.2.1 dX6_addWatch_27 rfl (lv_at hl 2 rfl) ?_
    obtain ⟨hd, hf⟩ := gnl_some hf
    refine q_iast (k := 54) (i := i0) S0 hw hd (t0 := 0) (fun _ => rfl) rfl dX6_addWatch_28 hf (fun s7 H locs hw hf => ?_)
    refine lv_aload_n S0.1 S0.2.1 dX6_addWatch_29 rfl (lv_at hl 0 rfl) ?_
    refine lv_dup S0.1 S0.2.1 dX6_addWatch_30 rfl ?_
    obtain ⟨hd, hf⟩ := gnl_some hf
    refine gX6_watches S0 hw hd kw_488 dX6_addWatch_31 hf (fun v8 hf => ?_)
    refine lv_iconst (v := 1) S0.1 S0.2.1 dX6_addWatch_34 (by decide) ?_
    refine lv_iadd S0.1 S0.2.1 dX6_addWatch_35 (q_top hf (fun v9 hf => ?_))
    obtain ⟨hd, hf⟩ := gnl_some hf
    refine pX6_watches S0 hw hd kw_488 dX6_addWatch_36 hf (fun s10 H locs hw hf => ?_)
    exact b39 s10 hf _ _ _ hw (lv_sub hl [0] rfl)
theorem qyX6_watchesFor : qY yX6_watchesFor RX6 cX6_watchesFor 6 (some .boolean) 4 := ⟨⟨kw_993, kp_35, kw_18, kw_994⟩, rfl, by decide, by decide, by decide +kernel⟩
def fX6_watchesFor_55 (F : Nat) (i0 : Nat) (t0 : Int32) (σ : qS) : Option (Int32 × qS) :=
  gbl t0 (some (t0, σ))
def fX6_watchesFor_54 (F : Nat) (i0 : Nat) (σ : qS) : Option (Int32 × qS) :=
  fX6_watchesFor_55 F i0 0 σ
def fX6_watchesFor_89 (F : Nat) (i0 : Nat) (t0 : Int32) (σ : qS) : Option (Int32 × qS) :=
  gbl t0 (some (t0, σ))
def fX6_watchesFor_88 (F : Nat) (i0 : Nat) (σ : qS) : Option (Int32 × qS) :=
  fX6_watchesFor_89 F i0 0 σ
def fX6_watchesFor_84 (F : Nat) (i0 : Nat) (σ : qS) : Option (Int32 × qS) :=
  fX6_watchesFor_89 F i0 1 σ
def fX6_watchesFor_73 (F : Nat) (i0 : Nat) (x2 : Int32) (x3 : Int32) (x5 : Int32) (σ : qS) : Option (Int32 × qS) :=
  if x2 = 2 then (if x3 = x5 then (fX6_watchesFor_84 F i0 σ) else (fX6_watchesFor_88 F i0 σ)) else (fX6_watchesFor_88 F i0 σ)
def fX6_watchesFor (F : Nat) (i0 : Nat) (p1 : Int32) (p2 : Int32) (p3 : Int32) (σ : qS) : Option (Int32 × qS) :=
  gnl i0 (σ.2 0 0) (gnl i0 (σ.2 0 0) (ldi 8 (σ.1 53 i0) p1 fun v1 => (gnl i0 (σ.2 0 0) (gnl i0 (σ.2 0 0) (ldi 8 (σ.1 54 i0) p1 fun v2 => (if v2 = 0 then (if p3 = v1 then (if p2 = 0 then (fX6_watchesFor_54 F i0 σ) else (fX6_watchesFor_55 F i0 1 σ)) else (fX6_watchesFor_54 F i0 σ)) else (if v2 = 1 then (if p2 = 1 then (fX6_watchesFor_73 F i0 p2 p3 v1 σ) else (ldi 80 (σ.1 2 0) p3 fun v10 => (if v10 = v1 then (fX6_watchesFor_84 F i0 σ) else (fX6_watchesFor_73 F i0 p2 p3 v1 σ)))) else (bnd2 (fX1_isWithinBranch F p3 v1 σ) fun v13 s12 => (gbl v13 (some (v13, s12)))))))))))
set_option maxRecDepth 100000 in
set_option maxHeartbeats 4000000 in
theorem wX6_watchesFor (l : Launch) (D : va_G) (Y : Nat → ClassId) (ad : qAd) (F : Nat) (i0 : Nat) (p1 : Int32) (p2 : Int32) (p3 : Int32) (σ : qS) : qCi l yX6_watchesFor cX6_watchesFor 6 (some .boolean) 1 24 D (cL Y) (qT Y) ad [.ref (ad 50 i0), .int p1, .int p2, .int p3, .ref (ad 1 0)] σ (fX6_watchesFor F i0 p1 p2 p3 σ) := by
  refine q_ofz (by decide) (Nat.le_of_ble_eq_true rfl) "Leasehall$Session" rfl (fun p e s m below meth c A Q r0 S0 hf hw hret ls hl => ?_)
  replace hl : lv_has ls 6 [(0, .ref (ad 50 i0)), (1, .int p1), (2, .int p2), (3, .int p3), (4, .ref (ad 1 0))] := hl
  unfold fX6_watchesFor at hf
  have b55 : ∀ (t0 : Int32) (σ : qS), fX6_watchesFor_55 F i0 t0 σ = some r0 → qAt p l e (qRm 1 24) s m ([.ref (ad 50 i0), .int p1, .int p2, .int p3, .ref (ad 1 0)] : List Value).toArray below meth c Q D (cL Y) (qT Y) A ad 6 0 0 55 [] [.int t0] σ := by
    clear hf hw hl ls
    intro t0 σ hf H locs ls hw hl
    unfold fX6_watchesFor_55 at hf
    exact hret dX6_watchesFor_55 hw hf
  have b54 : ∀ (σ : qS), fX6_watchesFor_54 F i0 σ = some r0 → qAt p l e (qRm 1 24) s m ([.ref (ad 50 i0), .int p1, .int p2, .int p3, .ref (ad 1 0)] : List Value).toArray below meth c Q D (cL Y) (qT Y) A ad 6 0 0 54 [] [] σ := by
    clear hf hw hl ls
    intro σ hf H locs ls hw hl
    unfold fX6_watchesFor_54 at hf
    refine lv_iconst (v := 0) S0.1 S0.2.1 dX6_watchesFor_54 (by decide) ?_
    exact b55 0 σ hf _ _ _ hw (lv_sub hl [] rfl)
  have b89 : ∀ (t0 : Int32) (σ : qS), fX6_watchesFor_89 F i0 t0 σ = some r0 → qAt p l e (qRm 1 24) s m ([.ref (ad 50 i0), .int p1, .int p2, .int p3, .ref (ad 1 0)] : List Value).toArray below meth c Q D (cL Y) (qT Y) A ad 6 0 0 89 [] [.int t0] σ := by
    clear hf hw hl ls
    intro t0 σ hf H locs ls hw hl
    unfold fX6_watchesFor_89 at hf
    exact hret dX6_watchesFor_89 hw hf
  have b88 : ∀ (σ : qS), fX6_watchesFor_88 F i0 σ = some r0 → qAt p l e (qRm 1 24) s m ([.ref (ad 50 i0), .int p1, .int p2, .int p3, .ref (ad 1 0)] : List Value).toArray below meth c Q D (cL Y) (qT Y) A ad 6 0 0 88 [] [] σ := by
    clear hf hw hl ls
    intro σ hf H locs ls hw hl
    unfold fX6_watchesFor_88 at hf
    refine lv_iconst (v := 0) S0.1 S0.2.1 dX6_watchesFor_88 (by decide) ?_
    exact b89 0 σ hf _ _ _ hw (lv_sub hl [] rfl)
  have b84 : ∀ (σ : qS), fX6_watchesFor_84 F i0 σ = some r0 → qAt p l e (qRm 1 24) s m ([.ref (ad 50 i0), .int p1, .int p2, .int p3, .ref (ad 1 0)] : List Value).toArray below meth c Q D (cL Y) (qT Y) A ad 6 0 0 84 [] [] σ := by
    clear hf hw hl ls
    intro σ hf H locs ls hw hl
    unfold fX6_watchesFor_84 at hf
    refine lv_iconst (v := 1) S0.1 S0.2.1 dX6_watchesFor_84 (by decide) ?_
    refine lv_goto (tgt := 89) S0.1 S0.2.1 dX6_watchesFor_85 (by decide) ?_
    exact b89 1 σ hf _ _ _ hw (lv_sub hl [] rfl)
  have b73 : ∀ (x2 : Int32) (x3 : Int32) (x5 : Int32) (σ : qS), fX6_watchesFor_73 F i0 x2 x3 x5 σ = some r0 → qAt p l e (qRm 1 24) s m ([.ref (ad 50 i0), .int p1, .int p2, .int p3, .ref (ad 1 0)] : List Value).toArray below meth c Q D (cL Y) (qT Y) A ad 6 0 0 73 [(2, .int x2), (3, .int x3), (5, .int x5)] [] σ := by
    clear hf hw hl ls
    intro x2 x3 x5 σ hf H locs ls hw hl
    unfold fX6_watchesFor_73 at hf
    refine lv_iload_n S0.1 S0.2.1 dX6_watchesFor_73 rfl (lv_at hl 0 rfl) ?_
    refine lv_iconst (v := 2) S0.1 S0.2.1 dX6_watchesFor_74 (by decide) ?_
    refine lv_icmp_ne (tgt := 88) S0.1 S0.2.1 dX6_watchesFor_75 (by decide) (fun c8 => ?_) (fun c8 => ?_)
    · replace hf := q_neg c8 hf
      exact b88 σ hf _ _ _ hw (lv_sub hl [] rfl)
    · replace hf := q_pos c8 hf
      refine lv_iload_n S0.1 S0.2.1 dX6_watchesFor_78 rfl (lv_at hl 1 rfl) ?_
      refine lv_iload S0.1 S0.2.1 dX6_watchesFor_79 (lv_at hl 2 rfl) ?_
      refine lv_icmp_ne (tgt := 88) S0.1 S0.2.1 dX6_watchesFor_81 (by decide) (fun c9 => ?_) (fun c9 => ?_)
      · replace hf := q_neg c9 hf
        exact b88 σ hf _ _ _ hw (lv_sub hl [] rfl)
      · replace hf := q_pos c9 hf
        exact b84 σ hf _ _ _ hw (lv_sub hl [] rfl)
  refine lv_aload_n S0.1 S0.2.1 dX6_watchesFor_0 rfl (lv_at hl 0 rfl) ?_
  obtain ⟨hd, hf⟩ := gnl_some hf
  refine gX6_watchNode S0 hw hd kw_478 dX6_watchesFor_1 ?_
  refine lv_iload_n S0.1 S0.2.1 dX6_watchesFor_4 rfl (lv_at hl 1 rfl) ?_
  obtain ⟨hd, hf⟩ := gnl_some hf
  refine q_iald (k := 53) (i := i0) S0 hw hd (t0 := 0) rfl rfl dX6_watchesFor_5 hf (fun v1 hf => ?_)
  refine lv_istore (lv' := [(5, .int v1), (0, .ref (ad 50 i0)), (1, .int p1), (2, .int p2), (3, .int p3), (4, .ref (ad 1 0))]) S0.1 S0.2.1 dX6_watchesFor_6 hl (by decide) rfl (fun ls hl => ?_)
  refine lv_aload_n S0.1 S0.2.1 dX6_watchesFor_8 rfl (lv_at hl 1 rfl) ?_
  obtain ⟨hd, hf⟩ := gnl_some hf
  refine gX6_watchKind S0 hw hd kw_479 dX6_watchesFor_9 ?_
  refine lv_iload_n S0.1 S0.2.1 dX6_watchesFor_12 rfl (lv_at hl 2 rfl) ?_
  obtain ⟨hd, hf⟩ := gnl_some hf
  refine q_iald (k := 54) (i := i0) S0 hw hd (t0 := 0) rfl rfl dX6_watchesFor_13 hf (fun v2 hf => ?_)
  by_cases c3 : v2 = 0
  · replace hf := q_pos c3 hf
    refine lv_lookup (tgt := 40) S0.1 S0.2.1 dX6_watchesFor_14 (by decide) (by rw [c3]; try rfl) (by decide) ?_
    refine lv_iload_n S0.1 S0.2.1 dX6_watchesFor_40 rfl (lv_at hl 4 rfl) ?_
    refine lv_iload S0.1 S0.2.1 dX6_watchesFor_41 (lv_at hl 0 rfl) ?_
    refine lv_icmp_ne (tgt := 54) S0.1 S0.2.1 dX6_watchesFor_43 (by decide) (fun c4 => ?_) (fun c4 => ?_)
    · replace hf := q_neg c4 hf
      exact b54 σ hf _ _ _ hw (lv_sub hl [] rfl)
    · replace hf := q_pos c4 hf
      refine lv_iload_n S0.1 S0.2.1 dX6_watchesFor_46 rfl (lv_at hl 3 rfl) ?_
      refine lv_if_eq (tgt := 54) S0.1 S0.2.1 dX6_watchesFor_47 (by decide) (fun c5 => ?_) (fun c5 => ?_)
      · replace hf := q_pos c5 hf
        exact b54 σ hf _ _ _ hw (lv_sub hl [] rfl)
      · replace hf := q_neg c5 hf
        refine lv_iconst (v := 1) S0.1 S0.2.1 dX6_watchesFor_50 (by decide) ?_
        refine lv_goto (tgt := 55) S0.1 S0.2.1 dX6_watchesFor_51 (by decide) ?_
        exact b55 1 σ hf _ _ _ hw (lv_sub hl [] rfl)
  · replace hf := q_neg c3 hf
    by_cases c6 : v2 = 1
    · replace hf := q_pos c6 hf
      refine lv_lookup (tgt := 56) S0.1 S0.2.1 dX6_watchesFor_14 (by decide) (by rw [c6]; try rfl) (by decide) ?_
      refine lv_iload_n S0.1 S0.2.1 dX6_watchesFor_56 rfl (lv_at hl 3 rfl) ?_
      refine lv_iconst (v := 1) S0.1 S0.2.1 dX6_watchesFor_57 (by decide) ?_
      refine lv_icmp_eq (tgt := 73) S0.1 S0.2.1 dX6_watchesFor_58 (by decide) (fun c7 => ?_) (fun c7 => ?_)
      · replace hf := q_pos c7 hf
        exact b73 p2 p3 v1 σ hf _ _ _ hw (lv_sub hl [3, 4, 0] rfl)
      · replace hf := q_neg c7 hf
        refine lv_aload S0.1 S0.2.1 dX6_watchesFor_61 (lv_at hl 5 rfl) ?_
        refine gX1_parent S0 hw kw_42 dX6_watchesFor_63 ?_
        refine lv_iload_n S0.1 S0.2.1 dX6_watchesFor_66 rfl (lv_at hl 4 rfl) ?_
        refine q_iald S0 hw dC_2 (t0 := 0) rfl rfl dX6_watchesFor_67 hf (fun v10 hf => ?_)
        refine lv_iload S0.1 S0.2.1 dX6_watchesFor_68 (lv_at hl 0 rfl) ?_
        refine lv_icmp_eq (tgt := 84) S0.1 S0.2.1 dX6_watchesFor_70 (by decide) (fun c11 => ?_) (fun c11 => ?_)
        · replace hf := q_pos c11 hf
          exact b84 σ hf _ _ _ hw (lv_sub hl [] rfl)
        · replace hf := q_neg c11 hf
          exact b73 p2 p3 v1 σ hf _ _ _ hw (lv_sub hl [3, 4, 0] rfl)
    · replace hf := q_neg c6 hf
      refine lv_lookup (off := 76) (tgt := 90) S0.1 S0.2.1 dX6_watchesFor_14 (by decide) ((lv_osw c3 (by decide)).trans ((lv_osw c6 (by decide)).trans rfl)) (by decide) ?_
      refine lv_aload S0.1 S0.2.1 dX6_watchesFor_90 (lv_at hl 5 rfl) ?_
      refine lv_iload_n S0.1 S0.2.1 dX6_watchesFor_92 rfl (lv_at hl 4 rfl) ?_
      refine lv_iload S0.1 S0.2.1 dX6_watchesFor_93 (lv_at hl 0 rfl) ?_
      refine q_calli S0 hw (As := [.int p3, .int v1]) (rest := []) (wX1_isWithinBranch l D Y ad F p3 v1 σ) qyX1_isWithinBranch kw_995 ⟨Nat.le_of_ble_eq_true rfl, Nat.le_of_ble_eq_true rfl⟩ dC_1 rfl rfl rfl rfl hl.1 (Nat.le_of_ble_eq_true rfl) dX6_watchesFor_95 ⟨Nat.le_refl _, Nat.le_refl _⟩ rfl hf (fun v13 s12 H locs hw hf => ?_)
      exact hret dX6_watchesFor_98 hw hf
theorem qsX8_isWithin : qYs yX8_isWithin cX8_isWithin 3 (some .boolean) 3 := ⟨⟨kw_297, kw_1, kw_298⟩, by decide, by decide, by decide +kernel⟩
def fX8_isWithin_15 (F : Nat) (t0 : Int32) (σ : qS) : Option (Int32 × qS) :=
  gbl t0 (some (t0, σ))
def fX8_isWithin_14 (F : Nat) (σ : qS) : Option (Int32 × qS) :=
  fX8_isWithin_15 F 0 σ
def fX8_isWithin (F : Nat) (p1 : Int32) (p2 : Int32) (p3 : Int32) (σ : qS) : Option (Int32 × qS) :=
  if p1 < p2 then (fX8_isWithin_14 F σ) else (if p3 < p1 then (fX8_isWithin_14 F σ) else (fX8_isWithin_15 F 1 σ))
set_option maxRecDepth 100000 in
set_option maxHeartbeats 4000000 in
theorem wX8_isWithin (l : Launch) (D : va_G) (Y : Nat → ClassId) (ad : qAd) (F : Nat) (p1 : Int32) (p2 : Int32) (p3 : Int32) (σ : qS) : qCi l yX8_isWithin cX8_isWithin 3 (some .boolean) 0 0 D (cL Y) (qT Y) ad [.int p1, .int p2, .int p3] σ (fX8_isWithin F p1 p2 p3 σ) := by
  refine q_ofz (by decide) (Nat.le_of_ble_eq_true rfl) "Leasehall" rfl (fun p e s m below meth c A Q r0 S0 hf hw hret ls hl => ?_)
  replace hl : lv_has ls 3 [(0, .int p1), (1, .int p2), (2, .int p3)] := hl
  unfold fX8_isWithin at hf
  have b15 : ∀ (t0 : Int32) (σ : qS), fX8_isWithin_15 F t0 σ = some r0 → qAt p l e (qRm 0 0) s m ([.int p1, .int p2, .int p3] : List Value).toArray below meth c Q D (cL Y) (qT Y) A ad 3 0 0 15 [] [.int t0] σ := by
    clear hf hw hl ls
    intro t0 σ hf H locs ls hw hl
    unfold fX8_isWithin_15 at hf
    exact hret dX8_isWithin_15 hw hf
  have b14 : ∀ (σ : qS), fX8_isWithin_14 F σ = some r0 → qAt p l e (qRm 0 0) s m ([.int p1, .int p2, .int p3] : List Value).toArray below meth c Q D (cL Y) (qT Y) A ad 3 0 0 14 [] [] σ := by
    clear hf hw hl ls
    intro σ hf H locs ls hw hl
    unfold fX8_isWithin_14 at hf
    refine lv_iconst (v := 0) S0.1 S0.2.1 dX8_isWithin_14 (by decide) ?_
    exact b15 0 σ hf _ _ _ hw (lv_sub hl [] rfl)
  refine lv_iload_n S0.1 S0.2.1 dX8_isWithin_0 rfl (lv_at hl 0 rfl) ?_
  refine lv_iload_n S0.1 S0.2.1 dX8_isWithin_1 rfl (lv_at hl 1 rfl) ?_
  refine lv_icmp_lt (tgt := 14) S0.1 S0.2.1 dX8_isWithin_2 (by decide) (fun c1 => ?_) (fun c1 => ?_)
  · replace hf := q_pos c1 hf
    exact b14 σ hf _ _ _ hw (lv_sub hl [] rfl)
  · replace hf := q_neg c1 hf
    refine lv_iload_n S0.1 S0.2.1 dX8_isWithin_5 rfl (lv_at hl 0 rfl) ?_
    refine lv_iload_n S0.1 S0.2.1 dX8_isWithin_6 rfl (lv_at hl 2 rfl) ?_
    refine lv_icmp_gt (tgt := 14) S0.1 S0.2.1 dX8_isWithin_7 (by decide) (fun c2 => ?_) (fun c2 => ?_)
    · replace hf := q_pos c2 hf
      exact b14 σ hf _ _ _ hw (lv_sub hl [] rfl)
    · replace hf := q_neg c2 hf
      refine lv_iconst (v := 1) S0.1 S0.2.1 dX8_isWithin_10 (by decide) ?_
      refine lv_goto (tgt := 15) S0.1 S0.2.1 dX8_isWithin_11 (by decide) ?_
      exact b15 1 σ hf _ _ _ hw (lv_sub hl [] rfl)
theorem qyX8_commit : qY yX8_commit RX8 cX8_commit 2 none 0 := ⟨⟨kw_673, kp_15, kw_1, kw_674⟩, rfl, by decide, by decide, by decide +kernel⟩
def fX8_commit_50 (F : Nat) (σ : qS) : Option qS :=
  some σ
def fX8_commit (F : Nat) (σ : qS) : Option qS :=
  inx 3 0 (nm (0 : Int32).toNatClampNeg fun i1 => (nm (σ.1 9 0 4) fun v2 => (gnl i1 3 (nm (σ.1 8 i1 2) fun v3 => (if v2 ≤ v3 then (fX8_commit_50 F σ) else (nm (σ.1 0 0 15) fun v5 => (nm (v5 + 1) fun v6 => (nm (qI σ 0 0 15 v6) fun s7 => (nm (s7.1 0 0 15) fun v8 => (gnl i1 3 (nm (qI s7 8 i1 1 v8) fun s9 => (nm (s9.1 9 0 4) fun v10 => (gnl i1 3 (nm (qI s9 8 i1 2 v10) fun s11 => (fX8_commit_50 F s11)))))))))))))))
set_option maxRecDepth 100000 in
set_option maxHeartbeats 4000000 in
theorem wX8_commit (l : Launch) (D : va_G) (Y : Nat → ClassId) (ad : qAd) (F : Nat) (σ : qS) : qCv l yX8_commit cX8_commit 2 none 0 0 D (cL Y) (qT Y) ad [.ref (ad 0 0)] σ (fX8_commit F σ) := by
  refine q_ofv (by decide) (Nat.le_of_ble_eq_true rfl) "Leasehall" rfl (fun p e s m below meth c A Q r0 S0 hf hw hret ls hl => ?_)
  replace hl : lv_has ls 2 [(0, .ref (ad 0 0))] := hl
  unfold fX8_commit at hf
  have b50 : ∀ (σ : qS), fX8_commit_50 F σ = some r0 → qAt p l e (qRm 0 0) s m ([.ref (ad 0 0)] : List Value).toArray below meth c Q D (cL Y) (qT Y) A ad 2 0 0 50 [] [] σ := by
    clear hf hw hl ls
    intro σ hf H locs ls hw hl
    unfold fX8_commit_50 at hf
    exact hret dX8_commit_50 hw hf
  refine lv_aload_n S0.1 S0.2.1 dX8_commit_0 rfl (lv_at hl 0 rfl) ?_
  refine gX8_servers S0 hw kw_228 dX8_commit_1 ?_
  refine lv_iconst (v := 0) S0.1 S0.2.1 dX8_commit_4 (by decide) ?_
  refine q_aldn S0 hw dC_7 (t0 := 3) rfl rfl (fun _ => rfl) dX8_commit_5 hf (fun i1 hf => ?_)
  refine lv_astore_n (lv' := [(1, .ref (ad 8 i1)), (0, .ref (ad 0 0))]) S0.1 S0.2.1 dX8_commit_6 rfl hl (by decide) rfl (fun ls hl => ?_)
  refine lv_aload_n S0.1 S0.2.1 dX8_commit_7 rfl (lv_at hl 1 rfl) ?_
  refine gX8_log S0 hw kw_232 dX8_commit_8 ?_
  refine gX3_size S0 hw kw_130 dX8_commit_11 hf (fun v2 hf => ?_)
  refine lv_aload_n S0.1 S0.2.1 dX8_commit_14 rfl (lv_at hl 0 rfl) ?_
  obtain ⟨hd, hf⟩ := gnl_some hf
  refine gX5_steps S0 hw hd kw_216 dX8_commit_15 hf (fun v3 hf => ?_)
  refine lv_icmp_le (tgt := 50) S0.1 S0.2.1 dX8_commit_18 (by decide) (fun c4 => ?_) (fun c4 => ?_)
  · replace hf := q_pos c4 hf
    exact b50 σ hf _ _ _ hw (lv_sub hl [] rfl)
  · replace hf := q_neg c4 hf
    refine lv_aload_n S0.1 S0.2.1 dX8_commit_21 rfl (lv_at hl 1 rfl) ?_
    refine lv_dup S0.1 S0.2.1 dX8_commit_22 rfl ?_
    refine gX8_lastChange S0 hw kw_242 dX8_commit_23 hf (fun v5 hf => ?_)
    refine lv_iconst (v := 1) S0.1 S0.2.1 dX8_commit_26 (by decide) ?_
    refine lv_iadd S0.1 S0.2.1 dX8_commit_27 (q_top hf (fun v6 hf => ?_))
    refine pX8_lastChange S0 hw kw_242 dX8_commit_28 hf (fun s7 H locs hw hf => ?_)
    refine lv_aload_n S0.1 S0.2.1 dX8_commit_31 rfl (lv_at hl 0 rfl) ?_
    refine lv_aload_n S0.1 S0.2.1 dX8_commit_32 rfl (lv_at hl 1 rfl) ?_
    refine gX8_lastChange S0 hw kw_242 dX8_commit_33 hf (fun v8 hf => ?_)
    obtain ⟨hd, hf⟩ := gnl_some hf
    refine pX5_changes S0 hw hd kw_213 dX8_commit_36 hf (fun s9 H locs hw hf => ?_)
    refine lv_aload_n S0.1 S0.2.1 dX8_commit_39 rfl (lv_at hl 0 rfl) ?_
    refine lv_aload_n S0.1 S0.2.1 dX8_commit_40 rfl (lv_at hl 1 rfl) ?_
    refine gX8_log S0 hw kw_232 dX8_commit_41 ?_
    refine gX3_size S0 hw kw_130 dX8_commit_44 hf (fun v10 hf => ?_)
    obtain ⟨hd, hf⟩ := gnl_some hf
    refine pX5_steps S0 hw hd kw_216 dX8_commit_47 hf (fun s11 H locs hw hf => ?_)
    exact b50 s11 hf _ _ _ hw (lv_sub hl [] rfl)
theorem qyX8_record : qY yX8_record RX8 cX8_record 4 none 3 := ⟨⟨kw_645, kp_12, kw_1, kw_646⟩, rfl, by decide, by decide, by decide +kernel⟩
def fX8_record_29 (F : Nat) (σ : qS) : Option qS :=
  some σ
def fX8_record (F : Nat) (p1 : Int32) (p2 : Int32) (p3 : Int32) (σ : qS) : Option qS :=
  nm (σ.1 0 0 15) fun v1 => (nm (v1 + 1) fun v2 => (bnd2 (fX3_add F v2 p1 p2 p3 σ) fun v4 s3 => (if v4 = 0 then (fX8_record_29 F s3) else (bnd (fX7_apply F 0 p1 p2 p3 s3) fun s6 => (fX8_record_29 F s6)))))
set_option maxRecDepth 100000 in
set_option maxHeartbeats 4000000 in
theorem wX8_record (l : Launch) (D : va_G) (Y : Nat → ClassId) (ad : qAd) (F : Nat) (p1 : Int32) (p2 : Int32) (p3 : Int32) (σ : qS) : qCv l yX8_record cX8_record 4 none 2 48 D (cL Y) (qT Y) ad [.ref (ad 0 0), .int p1, .int p2, .int p3] σ (fX8_record F p1 p2 p3 σ) := by
  refine q_ofv (by decide) (Nat.le_of_ble_eq_true rfl) "Leasehall" rfl (fun p e s m below meth c A Q r0 S0 hf hw hret ls hl => ?_)
  replace hl : lv_has ls 4 [(0, .ref (ad 0 0)), (1, .int p1), (2, .int p2), (3, .int p3)] := hl
  unfold fX8_record at hf
  have b29 : ∀ (σ : qS), fX8_record_29 F σ = some r0 → qAt p l e (qRm 2 48) s m ([.ref (ad 0 0), .int p1, .int p2, .int p3] : List Value).toArray below meth c Q D (cL Y) (qT Y) A ad 4 0 0 29 [] [] σ := by
    clear hf hw hl ls
    intro σ hf H locs ls hw hl
    unfold fX8_record_29 at hf
    exact hret dX8_record_29 hw hf
  refine lv_aload_n S0.1 S0.2.1 dX8_record_0 rfl (lv_at hl 0 rfl) ?_
  refine gX8_log S0 hw kw_232 dX8_record_1 ?_
  refine lv_aload_n S0.1 S0.2.1 dX8_record_4 rfl (lv_at hl 0 rfl) ?_
  refine gX8_lastChange S0 hw kw_242 dX8_record_5 hf (fun v1 hf => ?_)
  refine lv_iconst (v := 1) S0.1 S0.2.1 dX8_record_8 (by decide) ?_
  refine lv_iadd S0.1 S0.2.1 dX8_record_9 (q_top hf (fun v2 hf => ?_))
  refine lv_iload_n S0.1 S0.2.1 dX8_record_10 rfl (lv_at hl 1 rfl) ?_
  refine lv_iload_n S0.1 S0.2.1 dX8_record_11 rfl (lv_at hl 2 rfl) ?_
  refine lv_iload_n S0.1 S0.2.1 dX8_record_12 rfl (lv_at hl 3 rfl) ?_
  refine q_calli S0 hw (As := [.int v2, .int p1, .int p2, .int p3]) (rest := []) (wX3_add l D Y ad F v2 p1 p2 p3 σ) qyX3_add kw_647 ⟨Nat.le_of_ble_eq_true rfl, Nat.le_of_ble_eq_true rfl⟩ dC_9 rfl rfl rfl rfl hl.1 (Nat.le_of_ble_eq_true rfl) dX8_record_13 ⟨Nat.le_refl _, Nat.le_refl _⟩ rfl hf (fun v4 s3 H locs hw hf => ?_)
  refine lv_if_eq (tgt := 29) S0.1 S0.2.1 dX8_record_16 (by decide) (fun c5 => ?_) (fun c5 => ?_)
  · replace hf := q_pos c5 hf
    exact b29 s3 hf _ _ _ hw (lv_sub hl [] rfl)
  · replace hf := q_neg c5 hf
    refine lv_aload_n S0.1 S0.2.1 dX8_record_19 rfl (lv_at hl 0 rfl) ?_
    refine gX8_truth S0 hw kw_229 dX8_record_20 ?_
    refine lv_iload_n S0.1 S0.2.1 dX8_record_23 rfl (lv_at hl 1 rfl) ?_
    refine lv_iload_n S0.1 S0.2.1 dX8_record_24 rfl (lv_at hl 2 rfl) ?_
    refine lv_iload_n S0.1 S0.2.1 dX8_record_25 rfl (lv_at hl 3 rfl) ?_
    refine q_callv (k := 30) (i := 0) S0 hw (As := [.int p1, .int p2, .int p3]) (rest := []) (wX7_apply l D Y ad F 0 p1 p2 p3 s3) qyX7_apply kw_651 ⟨Nat.le_of_ble_eq_true rfl, Nat.le_of_ble_eq_true rfl⟩ (show 0 < 6 by decide) rfl rfl rfl rfl hl.1 (Nat.le_of_ble_eq_true rfl) dX8_record_26 ⟨Nat.le_refl _, Nat.le_refl _⟩ rfl hf (fun s6 H locs hw hf => ?_)
    exact b29 s6 hf _ _ _ hw (lv_sub hl [] rfl)
theorem qyX8_letGo : qY yX8_letGo RX8 cX8_letGo 4 (some .int) 1 := ⟨⟨kw_641, kp_11, kw_1, kw_642⟩, rfl, by decide, by decide, by decide +kernel⟩
def fX8_letGo_58 (F : Nat) (x3 : Int32) (σ : qS) : Option (Int32 × qS) :=
  some (x3, σ)
def fX8_letGo_4 (F : Nat) : Nat → Int32 → Int32 → qS → Option (Int32 × qS)
  | 0, _, _, _ => none
  | n + 1, x2, x3, σ =>
  bnd (fX8_record F 2 x2 0 σ) fun s1 => (nm (x3 + 1) fun v2 => (ldi 80 (s1.1 2 0) x2 fun v3 => (if 80 ≤ v2 then (fX8_letGo_58 F v2 s1) else (if v3 ≤ 0 then (fX8_letGo_58 F v2 s1) else (ldi 80 (s1.1 4 0) v3 fun v6 => (if v6 = 3 then (bnd2 (fX7_childrenOf F 0 v3 s1) fun v9 s8 => (if v9 = 0 then (fX8_letGo_4 F n v3 v2 s8) else (fX8_letGo_58 F v2 s8))) else (fX8_letGo_58 F v2 s1)))))))
def fX8_letGo (F : Nat) (p1 : Int32) (σ : qS) : Option (Int32 × qS) :=
  fX8_letGo_4 F F p1 0 σ
set_option maxRecDepth 100000 in
set_option maxHeartbeats 4000000 in
theorem wX8_letGo (l : Launch) (D : va_G) (Y : Nat → ClassId) (ad : qAd) (F : Nat) (p1 : Int32) (σ : qS) : qCi l yX8_letGo cX8_letGo 4 (some .int) 3 71 D (cL Y) (qT Y) ad [.ref (ad 0 0), .int p1] σ (fX8_letGo F p1 σ) := by
  refine q_ofi (by decide) (Nat.le_of_ble_eq_true rfl) "Leasehall" rfl (fun p e s m below meth c A Q r0 S0 hf hw hret ls hl => ?_)
  replace hl : lv_has ls 4 [(0, .ref (ad 0 0)), (1, .int p1)] := hl
  unfold fX8_letGo at hf
  have b58 : ∀ (x3 : Int32) (σ : qS), fX8_letGo_58 F x3 σ = some r0 → qAt p l e (qRm 3 71) s m ([.ref (ad 0 0), .int p1] : List Value).toArray below meth c Q D (cL Y) (qT Y) A ad 4 0 0 58 [(3, .int x3)] [] σ := by
    clear hf hw hl ls
    intro x3 σ hf H locs ls hw hl
    unfold fX8_letGo_58 at hf
    refine lv_iload_n S0.1 S0.2.1 dX8_letGo_58 rfl (lv_at hl 0 rfl) ?_
    exact hret dX8_letGo_59 hw hf
  have b4 : ∀ (n : Nat) (x2 : Int32) (x3 : Int32) (σ : qS), fX8_letGo_4 F n x2 x3 σ = some r0 → qAt p l e (qRm 3 71) s m ([.ref (ad 0 0), .int p1] : List Value).toArray below meth c Q D (cL Y) (qT Y) A ad 4 0 0 4 [(0, .ref (ad 0 0)), (2, .int x2), (3, .int x3)] [] σ := by
    clear hf hw hl ls
    intro n
    induction n with
    | zero => intro x2 x3 σ hf; exact absurd hf (by rw [fX8_letGo_4]; exact nofun)
    | succ n hk4 =>
      intro x2 x3 σ hf H locs ls hw hl
      rw [fX8_letGo_4] at hf
      refine lv_aload_n S0.1 S0.2.1 dX8_letGo_4 rfl (lv_at hl 0 rfl) ?_
      refine lv_iconst (v := 2) S0.1 S0.2.1 dX8_letGo_5 (by decide) ?_
      refine lv_iload_n S0.1 S0.2.1 dX8_letGo_6 rfl (lv_at hl 1 rfl) ?_
      refine lv_iconst (v := 0) S0.1 S0.2.1 dX8_letGo_7 (by decide) ?_
      refine q_callv S0 hw (As := [.int 2, .int x2, .int 0]) (rest := []) (wX8_record l D Y ad F 2 x2 0 σ) qyX8_record kw_643 ⟨Nat.le_of_ble_eq_true rfl, Nat.le_of_ble_eq_true rfl⟩ dC_0 rfl rfl rfl rfl hl.1 (Nat.le_of_ble_eq_true rfl) dX8_letGo_8 ⟨Nat.le_refl _, Nat.le_refl _⟩ rfl hf (fun s1 H locs hw hf => ?_)
      refine q_iinc S0 (v0 := 1) dX8_letGo_11 hl (k := 2) rfl (by decide) (by decide) rfl hf (fun v2 ls hl hf => ?_)
      refine lv_aload_n S0.1 S0.2.1 dX8_letGo_14 rfl (lv_at hl 1 rfl) ?_
      refine gX8_births S0 hw kw_227 dX8_letGo_15 ?_
      refine gX1_parent S0 hw kw_43 dX8_letGo_18 ?_
      refine lv_iload_n S0.1 S0.2.1 dX8_letGo_21 rfl (lv_at hl 2 rfl) ?_
      refine q_iald S0 hw dC_2 (t0 := 0) rfl rfl dX8_letGo_22 hf (fun v3 hf => ?_)
      refine lv_istore_n (lv' := [(2, .int v3), (3, .int v2), (0, .ref (ad 0 0))]) S0.1 S0.2.1 dX8_letGo_23 rfl hl (by decide) rfl (fun ls hl => ?_)
      refine lv_iload_n S0.1 S0.2.1 dX8_letGo_24 rfl (lv_at hl 1 rfl) ?_
      refine lv_bipush (v := 80) S0.1 S0.2.1 dX8_letGo_25 (by decide) ?_
      refine lv_icmp_ge (tgt := 58) S0.1 S0.2.1 dX8_letGo_27 (by decide) (fun c4 => ?_) (fun c4 => ?_)
      · replace hf := q_pos c4 hf
        exact b58 v2 s1 hf _ _ _ hw (lv_sub hl [1] rfl)
      · replace hf := q_neg c4 hf
        refine lv_iload_n S0.1 S0.2.1 dX8_letGo_30 rfl (lv_at hl 0 rfl) ?_
        refine lv_if_le (tgt := 58) S0.1 S0.2.1 dX8_letGo_31 (by decide) (fun c5 => ?_) (fun c5 => ?_)
        · replace hf := q_pos c5 hf
          exact b58 v2 s1 hf _ _ _ hw (lv_sub hl [1] rfl)
        · replace hf := q_neg c5 hf
          refine lv_aload_n S0.1 S0.2.1 dX8_letGo_34 rfl (lv_at hl 2 rfl) ?_
          refine gX8_births S0 hw kw_227 dX8_letGo_35 ?_
          refine gX1_kind S0 hw kw_48 dX8_letGo_38 ?_
          refine lv_iload_n S0.1 S0.2.1 dX8_letGo_41 rfl (lv_at hl 0 rfl) ?_
          refine q_iald S0 hw dC_4 (t0 := 0) rfl rfl dX8_letGo_42 hf (fun v6 hf => ?_)
          refine lv_iconst (v := 3) S0.1 S0.2.1 dX8_letGo_43 (by decide) ?_
          refine lv_icmp_ne (tgt := 58) S0.1 S0.2.1 dX8_letGo_44 (by decide) (fun c7 => ?_) (fun c7 => ?_)
          · replace hf := q_neg c7 hf
            exact b58 v2 s1 hf _ _ _ hw (lv_sub hl [1] rfl)
          · replace hf := q_pos c7 hf
            refine lv_aload_n S0.1 S0.2.1 dX8_letGo_47 rfl (lv_at hl 2 rfl) ?_
            refine gX8_truth S0 hw kw_229 dX8_letGo_48 ?_
            refine lv_iload_n S0.1 S0.2.1 dX8_letGo_51 rfl (lv_at hl 0 rfl) ?_
            refine q_calli (k := 30) (i := 0) S0 hw (As := [.int v3]) (rest := []) (wX7_childrenOf l D Y ad F 0 v3 s1) qyX7_childrenOf kw_663 ⟨Nat.le_of_ble_eq_true rfl, Nat.le_of_ble_eq_true rfl⟩ (show 0 < 6 by decide) rfl rfl rfl rfl hl.1 (Nat.le_of_ble_eq_true rfl) dX8_letGo_52 ⟨Nat.le_refl _, Nat.le_refl _⟩ rfl hf (fun v9 s8 H locs hw hf => ?_)
            refine lv_if_eq (tgt := 4) S0.1 S0.2.1 dX8_letGo_55 (by decide) (fun c10 => ?_) (fun c10 => ?_)
            · replace hf := q_pos c10 hf
              exact hk4 v3 v2 s8 hf _ _ _ hw (lv_sub hl [2, 0, 1] rfl)
            · replace hf := q_neg c10 hf
              exact b58 v2 s8 hf _ _ _ hw (lv_sub hl [1] rfl)
  refine lv_iload_n S0.1 S0.2.1 dX8_letGo_0 rfl (lv_at hl 1 rfl) ?_
  refine lv_istore_n (lv' := [(2, .int p1), (0, .ref (ad 0 0)), (1, .int p1)]) S0.1 S0.2.1 dX8_letGo_1 rfl hl (by decide) rfl (fun ls hl => ?_)
  refine lv_iconst (v := 0) S0.1 S0.2.1 dX8_letGo_2 (by decide) ?_
  refine lv_istore_n (lv' := [(3, .int 0), (2, .int p1), (0, .ref (ad 0 0)), (1, .int p1)]) S0.1 S0.2.1 dX8_letGo_3 rfl hl (by decide) rfl (fun ls hl => ?_)
  exact b4 F p1 0 σ hf _ _ _ hw (lv_sub hl [2, 1, 0] rfl)
theorem qyX8_letHeldGo : qY yX8_letHeldGo RX8 cX8_letHeldGo 5 (some .int) 2 := ⟨⟨kw_637, kp_10, kw_1, kw_638⟩, rfl, by decide, by decide, by decide +kernel⟩
def fX8_letHeldGo_62 (F : Nat) (k5 : Int32 → Int32 → Int32 → Int32 → qS → Option (Int32 × qS)) (x1 : Int32) (x2 : Int32) (x3 : Int32) (x4 : Int32) (σ : qS) : Option (Int32 × qS) :=
  nm (x4 + 1) fun v5 => (k5 x1 x2 x3 v5 σ)
def fX8_letHeldGo_5 (F : Nat) : Nat → Int32 → Int32 → Int32 → Int32 → qS → Option (Int32 × qS)
  | 0, _, _, _, _, _ => none
  | n + 1, x1, x2, x3, x4, σ =>
  if 80 ≤ x4 then (bnd (fX8_commit F σ) fun s2 => (some (x3, s2))) else (ldi 80 (σ.1 31 0) x4 fun v3 => (if v3 = 0 then (fX8_letHeldGo_62 F (fX8_letHeldGo_5 F n) x1 x2 x3 x4 σ) else (ldi 80 (σ.1 4 0) x4 fun v6 => (if v6 = x1 then (ldi 80 (σ.1 5 0) x4 fun v8 => (if v8 = x2 then (bnd2 (fX8_letGo F x4 σ) fun v11 s10 => (nm (x3 + v11) fun v12 => (fX8_letHeldGo_62 F (fX8_letHeldGo_5 F n) x1 x2 v12 x4 s10))) else (fX8_letHeldGo_62 F (fX8_letHeldGo_5 F n) x1 x2 x3 x4 σ))) else (fX8_letHeldGo_62 F (fX8_letHeldGo_5 F n) x1 x2 x3 x4 σ)))))
def fX8_letHeldGo (F : Nat) (p1 : Int32) (p2 : Int32) (σ : qS) : Option (Int32 × qS) :=
  fX8_letHeldGo_5 F F p1 p2 0 1 σ
set_option maxRecDepth 100000 in
set_option maxHeartbeats 4000000 in
theorem wX8_letHeldGo (l : Launch) (D : va_G) (Y : Nat → ClassId) (ad : qAd) (F : Nat) (p1 : Int32) (p2 : Int32) (σ : qS) : qCi l yX8_letHeldGo cX8_letHeldGo 5 (some .int) 4 94 D (cL Y) (qT Y) ad [.ref (ad 0 0), .int p1, .int p2] σ (fX8_letHeldGo F p1 p2 σ) := by
  refine q_ofi (by decide) (Nat.le_of_ble_eq_true rfl) "Leasehall" rfl (fun p e s m below meth c A Q r0 S0 hf hw hret ls hl => ?_)
  replace hl : lv_has ls 5 [(0, .ref (ad 0 0)), (1, .int p1), (2, .int p2)] := hl
  unfold fX8_letHeldGo at hf
  have b62 : ∀ (k5 : Int32 → Int32 → Int32 → Int32 → qS → Option (Int32 × qS)) (hk5 : ∀ (x1 : Int32) (x2 : Int32) (x3 : Int32) (x4 : Int32) (σ : qS), k5 x1 x2 x3 x4 σ = some r0 → qAt p l e (qRm 4 94) s m ([.ref (ad 0 0), .int p1, .int p2] : List Value).toArray below meth c Q D (cL Y) (qT Y) A ad 5 0 0 5 [(0, .ref (ad 0 0)), (1, .int x1), (2, .int x2), (3, .int x3), (4, .int x4)] [] σ) (x1 : Int32) (x2 : Int32) (x3 : Int32) (x4 : Int32) (σ : qS), fX8_letHeldGo_62 F k5 x1 x2 x3 x4 σ = some r0 → qAt p l e (qRm 4 94) s m ([.ref (ad 0 0), .int p1, .int p2] : List Value).toArray below meth c Q D (cL Y) (qT Y) A ad 5 0 0 62 [(0, .ref (ad 0 0)), (1, .int x1), (2, .int x2), (3, .int x3), (4, .int x4)] [] σ := by
    clear hf hw hl ls
    intro k5 hk5
    intro x1 x2 x3 x4 σ hf H locs ls hw hl
    unfold fX8_letHeldGo_62 at hf
    refine q_iinc S0 (v0 := 1) dX8_letHeldGo_62 hl (k := 4) rfl (by decide) (by decide) rfl hf (fun v5 ls hl hf => ?_)
    refine lv_goto (tgt := 5) S0.1 S0.2.1 dX8_letHeldGo_65 (by decide) ?_
    exact hk5 x1 x2 x3 v5 σ hf _ _ _ hw (lv_sub hl [1, 2, 3, 4, 0] rfl)
  have b5 : ∀ (n : Nat) (x1 : Int32) (x2 : Int32) (x3 : Int32) (x4 : Int32) (σ : qS), fX8_letHeldGo_5 F n x1 x2 x3 x4 σ = some r0 → qAt p l e (qRm 4 94) s m ([.ref (ad 0 0), .int p1, .int p2] : List Value).toArray below meth c Q D (cL Y) (qT Y) A ad 5 0 0 5 [(0, .ref (ad 0 0)), (1, .int x1), (2, .int x2), (3, .int x3), (4, .int x4)] [] σ := by
    clear hf hw hl ls
    intro n
    induction n with
    | zero => intro x1 x2 x3 x4 σ hf; exact absurd hf (by rw [fX8_letHeldGo_5]; exact nofun)
    | succ n hk5 =>
      intro x1 x2 x3 x4 σ hf H locs ls hw hl
      rw [fX8_letHeldGo_5] at hf
      refine lv_iload S0.1 S0.2.1 dX8_letHeldGo_5 (lv_at hl 4 rfl) ?_
      refine lv_bipush (v := 80) S0.1 S0.2.1 dX8_letHeldGo_7 (by decide) ?_
      refine lv_icmp_ge (tgt := 68) S0.1 S0.2.1 dX8_letHeldGo_9 (by decide) (fun c1 => ?_) (fun c1 => ?_)
      · replace hf := q_pos c1 hf
        refine lv_aload_n S0.1 S0.2.1 dX8_letHeldGo_68 rfl (lv_at hl 0 rfl) ?_
        refine q_callv S0 hw (As := []) (rest := []) (wX8_commit l D Y ad F σ) qyX8_commit kw_671 ⟨Nat.le_of_ble_eq_true rfl, Nat.le_of_ble_eq_true rfl⟩ dC_0 rfl rfl rfl rfl hl.1 (Nat.le_of_ble_eq_true rfl) dX8_letHeldGo_69 ⟨Nat.le_refl _, Nat.le_refl _⟩ rfl hf (fun s2 H locs hw hf => ?_)
        refine lv_iload_n S0.1 S0.2.1 dX8_letHeldGo_72 rfl (lv_at hl 3 rfl) ?_
        exact hret dX8_letHeldGo_73 hw hf
      · replace hf := q_neg c1 hf
        refine lv_aload_n S0.1 S0.2.1 dX8_letHeldGo_12 rfl (lv_at hl 0 rfl) ?_
        refine gX8_truth S0 hw kw_229 dX8_letHeldGo_13 ?_
        refine gX7_here S0 hw (show 0 < 6 by decide) kw_80 dX8_letHeldGo_16 ?_
        refine lv_iload S0.1 S0.2.1 dX8_letHeldGo_19 (lv_at hl 4 rfl) ?_
        refine q_zald (k := 31) (i := 0) S0 hw (show 0 < 6 by decide) (t0 := 1) rfl rfl dX8_letHeldGo_21 hf (fun v3 hf => ?_)
        refine lv_if_eq (tgt := 62) S0.1 S0.2.1 dX8_letHeldGo_22 (by decide) (fun c4 => ?_) (fun c4 => ?_)
        · replace hf := q_pos c4 hf
          exact b62 (fX8_letHeldGo_5 F n) hk5 x1 x2 x3 x4 σ hf _ _ _ hw (lv_sub hl [0, 1, 2, 3, 4] rfl)
        · replace hf := q_neg c4 hf
          refine lv_aload_n S0.1 S0.2.1 dX8_letHeldGo_25 rfl (lv_at hl 0 rfl) ?_
          refine gX8_births S0 hw kw_227 dX8_letHeldGo_26 ?_
          refine gX1_kind S0 hw kw_48 dX8_letHeldGo_29 ?_
          refine lv_iload S0.1 S0.2.1 dX8_letHeldGo_32 (lv_at hl 4 rfl) ?_
          refine q_iald S0 hw dC_4 (t0 := 0) rfl rfl dX8_letHeldGo_34 hf (fun v6 hf => ?_)
          refine lv_iload_n S0.1 S0.2.1 dX8_letHeldGo_35 rfl (lv_at hl 1 rfl) ?_
          refine lv_icmp_ne (tgt := 62) S0.1 S0.2.1 dX8_letHeldGo_36 (by decide) (fun c7 => ?_) (fun c7 => ?_)
          · replace hf := q_neg c7 hf
            exact b62 (fX8_letHeldGo_5 F n) hk5 x1 x2 x3 x4 σ hf _ _ _ hw (lv_sub hl [0, 1, 2, 3, 4] rfl)
          · replace hf := q_pos c7 hf
            refine lv_aload_n S0.1 S0.2.1 dX8_letHeldGo_39 rfl (lv_at hl 0 rfl) ?_
            refine gX8_births S0 hw kw_227 dX8_letHeldGo_40 ?_
            refine gX1_holder S0 hw kw_51 dX8_letHeldGo_43 ?_
            refine lv_iload S0.1 S0.2.1 dX8_letHeldGo_46 (lv_at hl 4 rfl) ?_
            refine q_iald S0 hw dC_5 (t0 := 0) rfl rfl dX8_letHeldGo_48 hf (fun v8 hf => ?_)
            refine lv_iload_n S0.1 S0.2.1 dX8_letHeldGo_49 rfl (lv_at hl 2 rfl) ?_
            refine lv_icmp_ne (tgt := 62) S0.1 S0.2.1 dX8_letHeldGo_50 (by decide) (fun c9 => ?_) (fun c9 => ?_)
            · replace hf := q_neg c9 hf
              exact b62 (fX8_letHeldGo_5 F n) hk5 x1 x2 x3 x4 σ hf _ _ _ hw (lv_sub hl [0, 1, 2, 3, 4] rfl)
            · replace hf := q_pos c9 hf
              refine lv_iload_n S0.1 S0.2.1 dX8_letHeldGo_53 rfl (lv_at hl 3 rfl) ?_
              refine lv_aload_n S0.1 S0.2.1 dX8_letHeldGo_54 rfl (lv_at hl 0 rfl) ?_
              refine lv_iload S0.1 S0.2.1 dX8_letHeldGo_55 (lv_at hl 4 rfl) ?_
              refine q_calli S0 hw (As := [.int x4]) (rest := [.int x3]) (wX8_letGo l D Y ad F x4 σ) qyX8_letGo kw_639 ⟨Nat.le_of_ble_eq_true rfl, Nat.le_of_ble_eq_true rfl⟩ dC_0 rfl rfl rfl rfl hl.1 (Nat.le_of_ble_eq_true rfl) dX8_letHeldGo_57 ⟨Nat.le_refl _, Nat.le_refl _⟩ rfl hf (fun v11 s10 H locs hw hf => ?_)
              refine lv_iadd S0.1 S0.2.1 dX8_letHeldGo_60 (q_top hf (fun v12 hf => ?_))
              refine lv_istore_n (lv' := [(3, .int v12), (0, .ref (ad 0 0)), (1, .int x1), (2, .int x2), (4, .int x4)]) S0.1 S0.2.1 dX8_letHeldGo_61 rfl hl (by decide) rfl (fun ls hl => ?_)
              exact b62 (fX8_letHeldGo_5 F n) hk5 x1 x2 v12 x4 s10 hf _ _ _ hw (lv_sub hl [1, 2, 3, 0, 4] rfl)
  refine lv_iconst (v := 0) S0.1 S0.2.1 dX8_letHeldGo_0 (by decide) ?_
  refine lv_istore_n (lv' := [(3, .int 0), (0, .ref (ad 0 0)), (1, .int p1), (2, .int p2)]) S0.1 S0.2.1 dX8_letHeldGo_1 rfl hl (by decide) rfl (fun ls hl => ?_)
  refine lv_iconst (v := 1) S0.1 S0.2.1 dX8_letHeldGo_2 (by decide) ?_
  refine lv_istore (lv' := [(4, .int 1), (3, .int 0), (0, .ref (ad 0 0)), (1, .int p1), (2, .int p2)]) S0.1 S0.2.1 dX8_letHeldGo_3 hl (by decide) rfl (fun ls hl => ?_)
  exact b5 F p1 p2 0 1 σ hf _ _ _ hw (lv_sub hl [2, 3, 4, 1, 0] rfl)
theorem qyX8_endSession : qY yX8_endSession RX8 cX8_endSession 2 (some .int) 1 := ⟨⟨kw_633, kp_9, kw_1, kw_634⟩, rfl, by decide, by decide, by decide +kernel⟩
def fX8_endSession (F : Nat) (i1 : Nat) (σ : qS) : Option (Int32 × qS) :=
  gnl i1 (σ.2 0 0) (gbl 1 (nm (qI σ 50 i1 15 1) fun s1 => (gnl i1 (s1.2 0 0) (nm (s1.1 50 i1 0) fun v2 => (bnd2 (fX8_letHeldGo F 1 v2 s1) fun v4 s3 => (some (v4, s3)))))))
set_option maxRecDepth 100000 in
set_option maxHeartbeats 4000000 in
theorem wX8_endSession (l : Launch) (D : va_G) (Y : Nat → ClassId) (ad : qAd) (F : Nat) (i1 : Nat) (σ : qS) : qCi l yX8_endSession cX8_endSession 2 (some .int) 5 118 D (cL Y) (qT Y) ad [.ref (ad 0 0), .ref (ad 50 i1)] σ (fX8_endSession F i1 σ) := by
  refine q_ofi (by decide) (Nat.le_of_ble_eq_true rfl) "Leasehall" rfl (fun p e s m below meth c A Q r0 S0 hf hw hret ls hl => ?_)
  replace hl : lv_has ls 2 [(0, .ref (ad 0 0)), (1, .ref (ad 50 i1))] := hl
  unfold fX8_endSession at hf
  refine lv_aload_n S0.1 S0.2.1 dX8_endSession_0 rfl (lv_at hl 1 rfl) ?_
  refine lv_iconst (v := 1) S0.1 S0.2.1 dX8_endSession_1 (by decide) ?_
  obtain ⟨hd, hf⟩ := gnl_some hf
  refine pX6_ended S0 hw hd kw_497 dX8_endSession_2 hf (fun s1 H locs hw hf => ?_)
  refine lv_aload_n S0.1 S0.2.1 dX8_endSession_5 rfl (lv_at hl 0 rfl) ?_
  refine lv_iconst (v := 1) S0.1 S0.2.1 dX8_endSession_6 (by decide) ?_
  refine lv_aload_n S0.1 S0.2.1 dX8_endSession_7 rfl (lv_at hl 1 rfl) ?_
  obtain ⟨hd, hf⟩ := gnl_some hf
  refine gX6_number S0 hw hd kw_469 dX8_endSession_8 hf (fun v2 hf => ?_)
  refine q_calli S0 hw (As := [.int 1, .int v2]) (rest := []) (wX8_letHeldGo l D Y ad F 1 v2 s1) qyX8_letHeldGo kw_635 ⟨Nat.le_of_ble_eq_true rfl, Nat.le_of_ble_eq_true rfl⟩ dC_0 rfl rfl rfl rfl hl.1 (Nat.le_of_ble_eq_true rfl) dX8_endSession_11 ⟨Nat.le_refl _, Nat.le_refl _⟩ rfl hf (fun v4 s3 H locs hw hf => ?_)
  exact hret dX8_endSession_14 hw hf
theorem qyX8_believe : qY yX8_believe RX8 cX8_believe 5 none 3 := ⟨⟨kw_628, kp_8, kw_1, kw_629⟩, rfl, by decide, by decide, by decide +kernel⟩
def fX8_believe_51 (F : Nat) (i1 : Nat) (σ : qS) : Option qS :=
  some σ
def fX8_believe_50 (F : Nat) (i1 : Nat) (t1 : Int32) (t2 : Int32) (σ : qS) : Option qS :=
  inx 80 t1 (nm (qI σ 15 0 t1.toNatClampNeg t2) fun s10 => (fX8_believe_51 F i1 s10))
def fX8_believe (F : Nat) (i1 : Nat) (p2 : Int32) (p3 : Int32) (σ : qS) : Option qS :=
  bnd2 (fX8_isWithin F p2 0 79 σ) fun v2 s1 => (if v2 = 0 then (fX8_believe_51 F i1 s1) else (gnl i1 (s1.2 0 0) (nm (s1.1 50 i1 0) fun v4 => (nm (1 <<< (v4 &&& 31)) fun v5 => (if p3 = 0 then (ldi 80 (s1.1 15 0) p2 fun v7 => (nm (v5 ^^^ (-1)) fun v8 => (nm (v7 &&& v8) fun v9 => (fX8_believe_50 F i1 p2 v9 s1)))) else (ldi 80 (s1.1 15 0) p2 fun v11 => (nm (v11 ||| v5) fun v12 => (fX8_believe_50 F i1 p2 v12 s1))))))))
set_option maxRecDepth 100000 in
set_option maxHeartbeats 4000000 in
theorem wX8_believe (l : Launch) (D : va_G) (Y : Nat → ClassId) (ad : qAd) (F : Nat) (i1 : Nat) (p2 : Int32) (p3 : Int32) (σ : qS) : qCv l yX8_believe cX8_believe 5 none 1 22 D (cL Y) (qT Y) ad [.ref (ad 0 0), .ref (ad 50 i1), .int p2, .int p3] σ (fX8_believe F i1 p2 p3 σ) := by
  refine q_ofv (by decide) (Nat.le_of_ble_eq_true rfl) "Leasehall" rfl (fun p e s m below meth c A Q r0 S0 hf hw hret ls hl => ?_)
  replace hl : lv_has ls 5 [(0, .ref (ad 0 0)), (1, .ref (ad 50 i1)), (2, .int p2), (3, .int p3)] := hl
  unfold fX8_believe at hf
  have b51 : ∀ (σ : qS), fX8_believe_51 F i1 σ = some r0 → qAt p l e (qRm 1 22) s m ([.ref (ad 0 0), .ref (ad 50 i1), .int p2, .int p3] : List Value).toArray below meth c Q D (cL Y) (qT Y) A ad 5 0 0 51 [] [] σ := by
    clear hf hw hl ls
    intro σ hf H locs ls hw hl
    unfold fX8_believe_51 at hf
    exact hret dX8_believe_51 hw hf
  have b50 : ∀ (t1 : Int32) (t2 : Int32) (σ : qS), fX8_believe_50 F i1 t1 t2 σ = some r0 → qAt p l e (qRm 1 22) s m ([.ref (ad 0 0), .ref (ad 50 i1), .int p2, .int p3] : List Value).toArray below meth c Q D (cL Y) (qT Y) A ad 5 0 0 50 [] [.int t2, .int t1, .ref (ad 15 0)] σ := by
    clear hf hw hl ls
    intro t1 t2 σ hf H locs ls hw hl
    unfold fX8_believe_50 at hf
    refine q_iast S0 hw dC_15 (t0 := 0) (fun _ => rfl) rfl dX8_believe_50 hf (fun s10 H locs hw hf => ?_)
    exact b51 s10 hf _ _ _ hw (lv_sub hl [] rfl)
  refine lv_iload_n S0.1 S0.2.1 dX8_believe_0 rfl (lv_at hl 2 rfl) ?_
  refine lv_iconst (v := 0) S0.1 S0.2.1 dX8_believe_1 (by decide) ?_
  refine lv_bipush (v := 79) S0.1 S0.2.1 dX8_believe_2 (by decide) ?_
  refine q_scalli S0 hw (As := [.int p2, .int 0, .int 79]) (rest := []) (wX8_isWithin l D Y ad F p2 0 79 σ) qsX8_isWithin kw_296 ⟨Nat.le_of_ble_eq_true rfl, Nat.le_of_ble_eq_true rfl⟩ rfl hl.1 (Nat.le_of_ble_eq_true rfl) dX8_believe_4 ⟨Nat.le_refl _, Nat.le_refl _⟩ rfl hf (fun v2 s1 H locs hw hf => ?_)
  refine lv_if_eq (tgt := 51) S0.1 S0.2.1 dX8_believe_7 (by decide) (fun c3 => ?_) (fun c3 => ?_)
  · replace hf := q_pos c3 hf
    exact b51 s1 hf _ _ _ hw (lv_sub hl [] rfl)
  · replace hf := q_neg c3 hf
    refine lv_iconst (v := 1) S0.1 S0.2.1 dX8_believe_10 (by decide) ?_
    refine lv_aload_n S0.1 S0.2.1 dX8_believe_11 rfl (lv_at hl 1 rfl) ?_
    obtain ⟨hd, hf⟩ := gnl_some hf
    refine gX6_number S0 hw hd kw_469 dX8_believe_12 hf (fun v4 hf => ?_)
    refine lv_ishl S0.1 S0.2.1 dX8_believe_15 (q_top hf (fun v5 hf => ?_))
    refine lv_istore (lv' := [(4, .int v5), (0, .ref (ad 0 0)), (1, .ref (ad 50 i1)), (2, .int p2), (3, .int p3)]) S0.1 S0.2.1 dX8_believe_16 hl (by decide) rfl (fun ls hl => ?_)
    refine lv_aload_n S0.1 S0.2.1 dX8_believe_18 rfl (lv_at hl 1 rfl) ?_
    refine gX8_beliefs S0 hw kw_238 dX8_believe_19 ?_
    refine lv_iload_n S0.1 S0.2.1 dX8_believe_22 rfl (lv_at hl 3 rfl) ?_
    refine lv_iload_n S0.1 S0.2.1 dX8_believe_23 rfl (lv_at hl 4 rfl) ?_
    refine lv_if_eq (tgt := 39) S0.1 S0.2.1 dX8_believe_24 (by decide) (fun c6 => ?_) (fun c6 => ?_)
    · replace hf := q_pos c6 hf
      refine lv_aload_n S0.1 S0.2.1 dX8_believe_39 rfl (lv_at hl 1 rfl) ?_
      refine gX8_beliefs S0 hw kw_238 dX8_believe_40 ?_
      refine lv_iload_n S0.1 S0.2.1 dX8_believe_43 rfl (lv_at hl 3 rfl) ?_
      refine q_iald S0 hw dC_15 (t0 := 0) rfl rfl dX8_believe_44 hf (fun v7 hf => ?_)
      refine lv_iload S0.1 S0.2.1 dX8_believe_45 (lv_at hl 0 rfl) ?_
      refine lv_iconst (v := (-1)) S0.1 S0.2.1 dX8_believe_47 (by decide) ?_
      refine lv_ixor S0.1 S0.2.1 dX8_believe_48 (q_top hf (fun v8 hf => ?_))
      refine lv_iand S0.1 S0.2.1 dX8_believe_49 (q_top hf (fun v9 hf => ?_))
      exact b50 p2 v9 s1 hf _ _ _ hw (lv_sub hl [] rfl)
    · replace hf := q_neg c6 hf
      refine lv_aload_n S0.1 S0.2.1 dX8_believe_27 rfl (lv_at hl 1 rfl) ?_
      refine gX8_beliefs S0 hw kw_238 dX8_believe_28 ?_
      refine lv_iload_n S0.1 S0.2.1 dX8_believe_31 rfl (lv_at hl 3 rfl) ?_
      refine q_iald S0 hw dC_15 (t0 := 0) rfl rfl dX8_believe_32 hf (fun v11 hf => ?_)
      refine lv_iload S0.1 S0.2.1 dX8_believe_33 (lv_at hl 0 rfl) ?_
      refine lv_ior S0.1 S0.2.1 dX8_believe_35 (q_top hf (fun v12 hf => ?_))
      refine lv_goto (tgt := 50) S0.1 S0.2.1 dX8_believe_36 (by decide) ?_
      exact b50 p2 v12 s1 hf _ _ _ hw (lv_sub hl [] rfl)
theorem qyX8_forgetLocks : qY yX8_forgetLocks RX8 cX8_forgetLocks 3 none 1 := ⟨⟨kw_624, kp_7, kw_1, kw_625⟩, rfl, by decide, by decide, by decide +kernel⟩
def fX8_forgetLocks_2 (F : Nat) (i1 : Nat) : Nat → Int32 → qS → Option qS
  | 0, _, _ => none
  | n + 1, x2, σ =>
  if 80 ≤ x2 then (some σ) else (bnd (fX8_believe F i1 x2 0 σ) fun s2 => (nm (x2 + 1) fun v3 => (fX8_forgetLocks_2 F i1 n v3 s2)))
def fX8_forgetLocks (F : Nat) (i1 : Nat) (σ : qS) : Option qS :=
  fX8_forgetLocks_2 F i1 F 0 σ
set_option maxRecDepth 100000 in
set_option maxHeartbeats 4000000 in
theorem wX8_forgetLocks (l : Launch) (D : va_G) (Y : Nat → ClassId) (ad : qAd) (F : Nat) (i1 : Nat) (σ : qS) : qCv l yX8_forgetLocks cX8_forgetLocks 3 none 2 46 D (cL Y) (qT Y) ad [.ref (ad 0 0), .ref (ad 50 i1)] σ (fX8_forgetLocks F i1 σ) := by
  refine q_ofv (by decide) (Nat.le_of_ble_eq_true rfl) "Leasehall" rfl (fun p e s m below meth c A Q r0 S0 hf hw hret ls hl => ?_)
  replace hl : lv_has ls 3 [(0, .ref (ad 0 0)), (1, .ref (ad 50 i1))] := hl
  unfold fX8_forgetLocks at hf
  have b2 : ∀ (n : Nat) (x2 : Int32) (σ : qS), fX8_forgetLocks_2 F i1 n x2 σ = some r0 → qAt p l e (qRm 2 46) s m ([.ref (ad 0 0), .ref (ad 50 i1)] : List Value).toArray below meth c Q D (cL Y) (qT Y) A ad 3 0 0 2 [(0, .ref (ad 0 0)), (1, .ref (ad 50 i1)), (2, .int x2)] [] σ := by
    clear hf hw hl ls
    intro n
    induction n with
    | zero => intro x2 σ hf; exact absurd hf (by rw [fX8_forgetLocks_2]; exact nofun)
    | succ n hk2 =>
      intro x2 σ hf H locs ls hw hl
      rw [fX8_forgetLocks_2] at hf
      refine lv_iload_n S0.1 S0.2.1 dX8_forgetLocks_2 rfl (lv_at hl 2 rfl) ?_
      refine lv_bipush (v := 80) S0.1 S0.2.1 dX8_forgetLocks_3 (by decide) ?_
      refine lv_icmp_ge (tgt := 21) S0.1 S0.2.1 dX8_forgetLocks_5 (by decide) (fun c1 => ?_) (fun c1 => ?_)
      · replace hf := q_pos c1 hf
        exact hret dX8_forgetLocks_21 hw hf
      · replace hf := q_neg c1 hf
        refine lv_aload_n S0.1 S0.2.1 dX8_forgetLocks_8 rfl (lv_at hl 0 rfl) ?_
        refine lv_aload_n S0.1 S0.2.1 dX8_forgetLocks_9 rfl (lv_at hl 1 rfl) ?_
        refine lv_iload_n S0.1 S0.2.1 dX8_forgetLocks_10 rfl (lv_at hl 2 rfl) ?_
        refine lv_iconst (v := 0) S0.1 S0.2.1 dX8_forgetLocks_11 (by decide) ?_
        refine q_callv S0 hw (As := [.ref (ad 50 i1), .int x2, .int 0]) (rest := []) (wX8_believe l D Y ad F i1 x2 0 σ) qyX8_believe kw_626 ⟨Nat.le_of_ble_eq_true rfl, Nat.le_of_ble_eq_true rfl⟩ dC_0 rfl rfl rfl rfl hl.1 (Nat.le_of_ble_eq_true rfl) dX8_forgetLocks_12 ⟨Nat.le_refl _, Nat.le_refl _⟩ rfl hf (fun s2 H locs hw hf => ?_)
        refine q_iinc S0 (v0 := 1) dX8_forgetLocks_15 hl (k := 2) rfl (by decide) (by decide) rfl hf (fun v3 ls hl hf => ?_)
        refine lv_goto (tgt := 2) S0.1 S0.2.1 dX8_forgetLocks_18 (by decide) ?_
        exact hk2 v3 s2 hf _ _ _ hw (lv_sub hl [1, 2, 0] rfl)
  refine lv_iconst (v := 0) S0.1 S0.2.1 dX8_forgetLocks_0 (by decide) ?_
  refine lv_istore_n (lv' := [(2, .int 0), (0, .ref (ad 0 0)), (1, .ref (ad 50 i1))]) S0.1 S0.2.1 dX8_forgetLocks_1 rfl hl (by decide) rfl (fun ls hl => ?_)
  exact b2 F 0 σ hf _ _ _ hw (lv_sub hl [1, 2, 0] rfl)
theorem qyX8_catchUp : qY yX8_catchUp RX8 cX8_catchUp 5 (some .int) 2 := ⟨⟨kw_702, kp_17, kw_1, kw_703⟩, rfl, by decide, by decide, by decide +kernel⟩
def fX8_catchUp_112 (F : Nat) (i1 : Nat) (x3 : Int32) (σ : qS) : Option (Int32 × qS) :=
  some (x3, σ)
def fX8_catchUp_30 (F : Nat) (i1 : Nat) : Nat → Int32 → Int32 → qS → Option (Int32 × qS)
  | 0, _, _, _ => none
  | n + 1, x3, x4, σ =>
  nm (σ.1 9 0 4) fun v9 => (if v9 ≤ x4 then (fX8_catchUp_112 F i1 x3 σ) else (ldi 1024 (σ.1 10 0) x4 fun v11 => (nm (σ.1 8 i1 1) fun v12 => (if v12 < v11 then (fX8_catchUp_112 F i1 x3 σ) else (ldi 1024 (σ.1 11 0) x4 fun v14 => (ldi 1024 (σ.1 12 0) x4 fun v15 => (ldi 1024 (σ.1 13 0) x4 fun v16 => (bnd (fX7_apply F i1 v14 v15 v16 σ) fun s17 => (nm (s17.1 8 i1 2) fun v18 => (nm (v18 + 1) fun v19 => (nm (qI s17 8 i1 2 v19) fun s20 => (nm (x4 + 1) fun v21 => (fX8_catchUp_30 F i1 n x3 v21 s20)))))))))))))
def fX8_catchUp (F : Nat) (i1 : Nat) (p2 : Int32) (σ : qS) : Option (Int32 × qS) :=
  gnl i1 3 (nm (σ.1 0 0 15) fun v1 => (nm (σ.1 8 i1 1) fun v2 => (nm (v1 - v2) fun v3 => (nm (if p2 < v3 then p2 else v3) fun v4 => (nm (σ.1 8 i1 1) fun v5 => (nm (v5 + v4) fun v6 => (nm (qI σ 8 i1 1 v6) fun s7 => (nm (s7.1 8 i1 2) fun v8 => (fX8_catchUp_30 F i1 F v4 v8 s7)))))))))
set_option maxRecDepth 100000 in
set_option maxHeartbeats 4000000 in
theorem wX8_catchUp (l : Launch) (D : va_G) (Y : Nat → ClassId) (ad : qAd) (F : Nat) (i1 : Nat) (p2 : Int32) (σ : qS) : qCi l yX8_catchUp cX8_catchUp 5 (some .int) 2 48 D (cL Y) (qT Y) ad [.ref (ad 0 0), .ref (ad 8 i1), .int p2] σ (fX8_catchUp F i1 p2 σ) := by
  refine q_ofi (by decide) (Nat.le_of_ble_eq_true rfl) "Leasehall" rfl (fun p e s m below meth c A Q r0 S0 hf hw hret ls hl => ?_)
  replace hl : lv_has ls 5 [(0, .ref (ad 0 0)), (1, .ref (ad 8 i1)), (2, .int p2)] := hl
  unfold fX8_catchUp at hf
  obtain ⟨hg0, hf⟩ := gnl_some hf
  have b112 : ∀ (x3 : Int32) (σ : qS), fX8_catchUp_112 F i1 x3 σ = some r0 → qAt p l e (qRm 2 48) s m ([.ref (ad 0 0), .ref (ad 8 i1), .int p2] : List Value).toArray below meth c Q D (cL Y) (qT Y) A ad 5 0 0 112 [(3, .int x3)] [] σ := by
    clear hf hw hl ls
    intro x3 σ hf H locs ls hw hl
    unfold fX8_catchUp_112 at hf
    refine lv_iload_n S0.1 S0.2.1 dX8_catchUp_112 rfl (lv_at hl 0 rfl) ?_
    exact hret dX8_catchUp_113 hw hf
  have b30 : ∀ (n : Nat) (x3 : Int32) (x4 : Int32) (σ : qS), fX8_catchUp_30 F i1 n x3 x4 σ = some r0 → qAt p l e (qRm 2 48) s m ([.ref (ad 0 0), .ref (ad 8 i1), .int p2] : List Value).toArray below meth c Q D (cL Y) (qT Y) A ad 5 0 0 30 [(0, .ref (ad 0 0)), (1, .ref (ad 8 i1)), (3, .int x3), (4, .int x4)] [] σ := by
    clear hf hw hl ls
    intro n
    induction n with
    | zero => intro x3 x4 σ hf; exact absurd hf (by rw [fX8_catchUp_30]; exact nofun)
    | succ n hk30 =>
      intro x3 x4 σ hf H locs ls hw hl
      rw [fX8_catchUp_30] at hf
      refine lv_iload S0.1 S0.2.1 dX8_catchUp_30 (lv_at hl 3 rfl) ?_
      refine lv_aload_n S0.1 S0.2.1 dX8_catchUp_32 rfl (lv_at hl 0 rfl) ?_
      refine gX8_log S0 hw kw_232 dX8_catchUp_33 ?_
      refine gX3_size S0 hw kw_130 dX8_catchUp_36 hf (fun v9 hf => ?_)
      refine lv_icmp_ge (tgt := 112) S0.1 S0.2.1 dX8_catchUp_39 (by decide) (fun c10 => ?_) (fun c10 => ?_)
      · replace hf := q_pos c10 hf
        exact b112 x3 σ hf _ _ _ hw (lv_sub hl [2] rfl)
      · replace hf := q_neg c10 hf
        refine lv_aload_n S0.1 S0.2.1 dX8_catchUp_42 rfl (lv_at hl 0 rfl) ?_
        refine gX8_log S0 hw kw_232 dX8_catchUp_43 ?_
        refine gX3_change S0 hw kw_122 dX8_catchUp_46 ?_
        refine lv_iload S0.1 S0.2.1 dX8_catchUp_49 (lv_at hl 3 rfl) ?_
        refine q_iald S0 hw dC_10 (t0 := 0) rfl rfl dX8_catchUp_51 hf (fun v11 hf => ?_)
        refine lv_aload_n S0.1 S0.2.1 dX8_catchUp_52 rfl (lv_at hl 1 rfl) ?_
        refine gX5_changes S0 hw hg0 kw_213 dX8_catchUp_53 hf (fun v12 hf => ?_)
        refine lv_icmp_gt (tgt := 112) S0.1 S0.2.1 dX8_catchUp_56 (by decide) (fun c13 => ?_) (fun c13 => ?_)
        · replace hf := q_pos c13 hf
          exact b112 x3 σ hf _ _ _ hw (lv_sub hl [2] rfl)
        · replace hf := q_neg c13 hf
          refine lv_aload_n S0.1 S0.2.1 dX8_catchUp_59 rfl (lv_at hl 1 rfl) ?_
          refine gX5_tree S0 hw hg0 kw_211 dX8_catchUp_60 ?_
          refine lv_aload_n S0.1 S0.2.1 dX8_catchUp_63 rfl (lv_at hl 0 rfl) ?_
          refine gX8_log S0 hw kw_232 dX8_catchUp_64 ?_
          refine gX3_kind S0 hw kw_124 dX8_catchUp_67 ?_
          refine lv_iload S0.1 S0.2.1 dX8_catchUp_70 (lv_at hl 3 rfl) ?_
          refine q_iald S0 hw dC_11 (t0 := 0) rfl rfl dX8_catchUp_72 hf (fun v14 hf => ?_)
          refine lv_aload_n S0.1 S0.2.1 dX8_catchUp_73 rfl (lv_at hl 0 rfl) ?_
          refine gX8_log S0 hw kw_232 dX8_catchUp_74 ?_
          refine gX3_node S0 hw kw_126 dX8_catchUp_77 ?_
          refine lv_iload S0.1 S0.2.1 dX8_catchUp_80 (lv_at hl 3 rfl) ?_
          refine q_iald S0 hw dC_12 (t0 := 0) rfl rfl dX8_catchUp_82 hf (fun v15 hf => ?_)
          refine lv_aload_n S0.1 S0.2.1 dX8_catchUp_83 rfl (lv_at hl 0 rfl) ?_
          refine gX8_log S0 hw kw_232 dX8_catchUp_84 ?_
          refine gX3_number S0 hw kw_128 dX8_catchUp_87 ?_
          refine lv_iload S0.1 S0.2.1 dX8_catchUp_90 (lv_at hl 3 rfl) ?_
          refine q_iald S0 hw dC_13 (t0 := 0) rfl rfl dX8_catchUp_92 hf (fun v16 hf => ?_)
          refine q_callv (k := 30) (i := i1) S0 hw (As := [.int v14, .int v15, .int v16]) (rest := []) (wX7_apply l D Y ad F i1 v14 v15 v16 σ) qyX7_apply kw_651 ⟨Nat.le_of_ble_eq_true rfl, Nat.le_of_ble_eq_true rfl⟩ (show i1 < 6 from Nat.lt_of_lt_of_le hg0 (by decide)) rfl rfl rfl rfl hl.1 (Nat.le_of_ble_eq_true rfl) dX8_catchUp_93 ⟨Nat.le_refl _, Nat.le_refl _⟩ rfl hf (fun s17 H locs hw hf => ?_)
          refine lv_aload_n S0.1 S0.2.1 dX8_catchUp_96 rfl (lv_at hl 1 rfl) ?_
          refine lv_dup S0.1 S0.2.1 dX8_catchUp_97 rfl ?_
          refine gX5_steps S0 hw hg0 kw_216 dX8_catchUp_98 hf (fun v18 hf => ?_)
          refine lv_iconst (v := 1) S0.1 S0.2.1 dX8_catchUp_101 (by decide) ?_
          refine lv_iadd S0.1 S0.2.1 dX8_catchUp_102 (q_top hf (fun v19 hf => ?_))
          refine pX5_steps S0 hw hg0 kw_216 dX8_catchUp_103 hf (fun s20 H locs hw hf => ?_)
          refine q_iinc S0 (v0 := 1) dX8_catchUp_106 hl (k := 3) rfl (by decide) (by decide) rfl hf (fun v21 ls hl hf => ?_)
          refine lv_goto (tgt := 30) S0.1 S0.2.1 dX8_catchUp_109 (by decide) ?_
          exact hk30 x3 v21 s20 hf _ _ _ hw (lv_sub hl [1, 2, 3, 0] rfl)
  refine lv_aload_n S0.1 S0.2.1 dX8_catchUp_0 rfl (lv_at hl 0 rfl) ?_
  refine gX8_lastChange S0 hw kw_242 dX8_catchUp_1 hf (fun v1 hf => ?_)
  refine lv_aload_n S0.1 S0.2.1 dX8_catchUp_4 rfl (lv_at hl 1 rfl) ?_
  refine gX5_changes S0 hw hg0 kw_213 dX8_catchUp_5 hf (fun v2 hf => ?_)
  refine lv_isub S0.1 S0.2.1 dX8_catchUp_8 (q_top hf (fun v3 hf => ?_))
  refine lv_iload_n S0.1 S0.2.1 dX8_catchUp_9 rfl (lv_at hl 2 rfl) ?_
  refine q_mmin S0 kw_704 hl.1 ⟨Nat.le_of_ble_eq_true rfl, Nat.le_of_ble_eq_true rfl⟩ (Nat.le_of_ble_eq_true rfl) ⟨Nat.le_refl _, Nat.le_refl _⟩ dX8_catchUp_10 hf (fun v4 hf => ?_)
  refine lv_istore_n (lv' := [(3, .int v4), (0, .ref (ad 0 0)), (1, .ref (ad 8 i1)), (2, .int p2)]) S0.1 S0.2.1 dX8_catchUp_13 rfl hl (by decide) rfl (fun ls hl => ?_)
  refine lv_aload_n S0.1 S0.2.1 dX8_catchUp_14 rfl (lv_at hl 2 rfl) ?_
  refine lv_dup S0.1 S0.2.1 dX8_catchUp_15 rfl ?_
  refine gX5_changes S0 hw hg0 kw_213 dX8_catchUp_16 hf (fun v5 hf => ?_)
  refine lv_iload_n S0.1 S0.2.1 dX8_catchUp_19 rfl (lv_at hl 0 rfl) ?_
  refine lv_iadd S0.1 S0.2.1 dX8_catchUp_20 (q_top hf (fun v6 hf => ?_))
  refine pX5_changes S0 hw hg0 kw_213 dX8_catchUp_21 hf (fun s7 H locs hw hf => ?_)
  refine lv_aload_n S0.1 S0.2.1 dX8_catchUp_24 rfl (lv_at hl 2 rfl) ?_
  refine gX5_steps S0 hw hg0 kw_216 dX8_catchUp_25 hf (fun v8 hf => ?_)
  refine lv_istore (lv' := [(4, .int v8), (3, .int v4), (0, .ref (ad 0 0)), (1, .ref (ad 8 i1)), (2, .int p2)]) S0.1 S0.2.1 dX8_catchUp_28 hl (by decide) rfl (fun ls hl => ?_)
  exact b30 F v4 v8 s7 hf _ _ _ hw (lv_sub hl [2, 3, 1, 0] rfl)
theorem qyX8_lapseLeases : qY yX8_lapseLeases RX8 cX8_lapseLeases 3 none 0 := ⟨⟨kw_727, kp_19, kw_1, kw_728⟩, rfl, by decide, by decide, by decide +kernel⟩
def fX8_lapseLeases_55 (F : Nat) (k2 : Int32 → qS → Option qS) (x1 : Int32) (σ : qS) : Option qS :=
  nm (x1 + 1) fun v6 => (k2 v6 σ)
def fX8_lapseLeases_2 (F : Nat) : Nat → Int32 → qS → Option qS
  | 0, _, _ => none
  | n + 1, x1, σ =>
  nm (nI (σ.2 1 0)) fun v1 => (if v1 ≤ x1 then (some σ) else (gnl (σ.2 1 0) 11 (inx (σ.2 1 0) x1 (nm x1.toNatClampNeg fun i3 => (gnl i3 (σ.2 1 0) (gnl i3 (σ.2 1 0) (nm (σ.1 57 i3 2) fun v4 => (if v4 = 0 then (nm (σ.1 0 0 14) fun v7 => (gnl i3 (σ.2 1 0) (nm (σ.1 57 i3 1) fun v8 => (if v7 < v8 then (fX8_lapseLeases_55 F (fX8_lapseLeases_2 F n) x1 σ) else (gnl i3 (σ.2 1 0) (gbl 1 (nm (qI σ 57 i3 2 1) fun s10 => (bnd2 (fX8_letHeldGo F 2 x1 s10) fun v12 s11 => (fX8_lapseLeases_55 F (fX8_lapseLeases_2 F n) x1 s11))))))))) else (fX8_lapseLeases_55 F (fX8_lapseLeases_2 F n) x1 σ)))))))))
def fX8_lapseLeases (F : Nat) (σ : qS) : Option qS :=
  fX8_lapseLeases_2 F F 0 σ
set_option maxRecDepth 100000 in
set_option maxHeartbeats 4000000 in
theorem wX8_lapseLeases (l : Launch) (D : va_G) (Y : Nat → ClassId) (ad : qAd) (F : Nat) (σ : qS) : qCv l yX8_lapseLeases cX8_lapseLeases 3 none 5 118 D (cL Y) (qT Y) ad [.ref (ad 0 0)] σ (fX8_lapseLeases F σ) := by
  refine q_ofv (by decide) (Nat.le_of_ble_eq_true rfl) "Leasehall" rfl (fun p e s m below meth c A Q r0 S0 hf hw hret ls hl => ?_)
  replace hl : lv_has ls 3 [(0, .ref (ad 0 0))] := hl
  unfold fX8_lapseLeases at hf
  have b55 : ∀ (k2 : Int32 → qS → Option qS) (hk2 : ∀ (x1 : Int32) (σ : qS), k2 x1 σ = some r0 → qAt p l e (qRm 5 118) s m ([.ref (ad 0 0)] : List Value).toArray below meth c Q D (cL Y) (qT Y) A ad 3 0 0 2 [(0, .ref (ad 0 0)), (1, .int x1)] [] σ) (x1 : Int32) (σ : qS), fX8_lapseLeases_55 F k2 x1 σ = some r0 → qAt p l e (qRm 5 118) s m ([.ref (ad 0 0)] : List Value).toArray below meth c Q D (cL Y) (qT Y) A ad 3 0 0 55 [(0, .ref (ad 0 0)), (1, .int x1)] [] σ := by
    clear hf hw hl ls
    intro k2 hk2
    intro x1 σ hf H locs ls hw hl
    unfold fX8_lapseLeases_55 at hf
    refine q_iinc S0 (v0 := 1) dX8_lapseLeases_55 hl (k := 1) rfl (by decide) (by decide) rfl hf (fun v6 ls hl hf => ?_)
    refine lv_goto (tgt := 2) S0.1 S0.2.1 dX8_lapseLeases_58 (by decide) ?_
    exact hk2 v6 σ hf _ _ _ hw (lv_sub hl [1, 0] rfl)
  have b2 : ∀ (n : Nat) (x1 : Int32) (σ : qS), fX8_lapseLeases_2 F n x1 σ = some r0 → qAt p l e (qRm 5 118) s m ([.ref (ad 0 0)] : List Value).toArray below meth c Q D (cL Y) (qT Y) A ad 3 0 0 2 [(0, .ref (ad 0 0)), (1, .int x1)] [] σ := by
    clear hf hw hl ls
    intro n
    induction n with
    | zero => intro x1 σ hf; exact absurd hf (by rw [fX8_lapseLeases_2]; exact nofun)
    | succ n hk2 =>
      intro x1 σ hf H locs ls hw hl
      rw [fX8_lapseLeases_2] at hf
      refine lv_iload_n S0.1 S0.2.1 dX8_lapseLeases_2 rfl (lv_at hl 1 rfl) ?_
      refine lv_aload_n S0.1 S0.2.1 dX8_lapseLeases_3 rfl (lv_at hl 0 rfl) ?_
      refine gX8_leases S0 hw kw_235 dX8_lapseLeases_4 ?_
      refine q_lsize S0 hw (k := 18) dC_18 rfl kw_423 ⟨Nat.le_of_ble_eq_true rfl, Nat.le_of_ble_eq_true rfl⟩ hl.1 (Nat.le_of_ble_eq_true rfl) dX8_lapseLeases_7 ⟨Nat.le_refl _, Nat.le_refl _⟩ hf (fun v1 H locs hw hf => ?_)
      refine lv_icmp_ge (tgt := 61) S0.1 S0.2.1 dX8_lapseLeases_10 (by decide) (fun c2 => ?_) (fun c2 => ?_)
      · replace hf := q_pos c2 hf
        exact hret dX8_lapseLeases_61 hw hf
      · replace hf := q_neg c2 hf
        refine lv_aload_n S0.1 S0.2.1 dX8_lapseLeases_13 rfl (lv_at hl 0 rfl) ?_
        refine gX8_leases S0 hw kw_235 dX8_lapseLeases_14 ?_
        refine lv_iload_n S0.1 S0.2.1 dX8_lapseLeases_17 rfl (lv_at hl 1 rfl) ?_
        obtain ⟨hd, hf⟩ := gnl_some hf
        refine q_lget S0 hw (k := 18) (k2 := 19) (kr := 57) (t0 := 4) dC_18 rfl (by omega) (Nat.le_of_lt_succ hd) dC19 rfl rfl (fun _ h => if_pos h) kw_604 ⟨Nat.le_of_ble_eq_true rfl, Nat.le_of_ble_eq_true rfl⟩ hl.1 (Nat.le_of_ble_eq_true rfl) dX8_lapseLeases_18 ⟨Nat.le_refl _, Nat.le_refl _⟩ hf (fun i3 H locs hw hf => ?_)
        obtain ⟨hd, hf⟩ := gnl_some hf
        refine q_cast (k := 57) (i := i3) S0 hw hd rfl rfl kw_729 dX8_lapseLeases_21 ?_
        refine lv_astore_n (lv' := [(2, .ref (ad 57 i3)), (0, .ref (ad 0 0)), (1, .int x1)]) S0.1 S0.2.1 dX8_lapseLeases_24 rfl hl (by decide) rfl (fun ls hl => ?_)
        refine lv_aload_n S0.1 S0.2.1 dX8_lapseLeases_25 rfl (lv_at hl 0 rfl) ?_
        obtain ⟨hd, hf⟩ := gnl_some hf
        refine gX2_ended S0 hw hd kw_748 dX8_lapseLeases_26 hf (fun v4 hf => ?_)
        refine lv_if_ne (tgt := 55) S0.1 S0.2.1 dX8_lapseLeases_29 (by decide) (fun c5 => ?_) (fun c5 => ?_)
        · replace hf := q_neg c5 hf
          exact b55 (fX8_lapseLeases_2 F n) hk2 x1 σ hf _ _ _ hw (lv_sub hl [1, 2] rfl)
        · replace hf := q_pos c5 hf
          refine lv_aload_n S0.1 S0.2.1 dX8_lapseLeases_32 rfl (lv_at hl 1 rfl) ?_
          refine gX8_now S0 hw kw_241 dX8_lapseLeases_33 hf (fun v7 hf => ?_)
          refine lv_aload_n S0.1 S0.2.1 dX8_lapseLeases_36 rfl (lv_at hl 0 rfl) ?_
          obtain ⟨hd, hf⟩ := gnl_some hf
          refine gX2_until S0 hw hd kw_746 dX8_lapseLeases_37 hf (fun v8 hf => ?_)
          refine lv_icmp_lt (tgt := 55) S0.1 S0.2.1 dX8_lapseLeases_40 (by decide) (fun c9 => ?_) (fun c9 => ?_)
          · replace hf := q_pos c9 hf
            exact b55 (fX8_lapseLeases_2 F n) hk2 x1 σ hf _ _ _ hw (lv_sub hl [1, 2] rfl)
          · replace hf := q_neg c9 hf
            refine lv_aload_n S0.1 S0.2.1 dX8_lapseLeases_43 rfl (lv_at hl 0 rfl) ?_
            refine lv_iconst (v := 1) S0.1 S0.2.1 dX8_lapseLeases_44 (by decide) ?_
            obtain ⟨hd, hf⟩ := gnl_some hf
            refine pX2_ended S0 hw hd kw_748 dX8_lapseLeases_45 hf (fun s10 H locs hw hf => ?_)
            refine lv_aload_n S0.1 S0.2.1 dX8_lapseLeases_48 rfl (lv_at hl 1 rfl) ?_
            refine lv_iconst (v := 2) S0.1 S0.2.1 dX8_lapseLeases_49 (by decide) ?_
            refine lv_iload_n S0.1 S0.2.1 dX8_lapseLeases_50 rfl (lv_at hl 2 rfl) ?_
            refine q_calli S0 hw (As := [.int 2, .int x1]) (rest := []) (wX8_letHeldGo l D Y ad F 2 x1 s10) qyX8_letHeldGo kw_635 ⟨Nat.le_of_ble_eq_true rfl, Nat.le_of_ble_eq_true rfl⟩ dC_0 rfl rfl rfl rfl hl.1 (Nat.le_of_ble_eq_true rfl) dX8_lapseLeases_51 ⟨Nat.le_refl _, Nat.le_refl _⟩ rfl hf (fun v12 s11 H locs hw hf => ?_)
            refine lv_pop S0.1 S0.2.1 dX8_lapseLeases_54 rfl ?_
            exact b55 (fX8_lapseLeases_2 F n) hk2 x1 s11 hf _ _ _ hw (lv_sub hl [1, 2] rfl)
  refine lv_iconst (v := 0) S0.1 S0.2.1 dX8_lapseLeases_0 (by decide) ?_
  refine lv_istore_n (lv' := [(1, .int 0), (0, .ref (ad 0 0))]) S0.1 S0.2.1 dX8_lapseLeases_1 rfl hl (by decide) rfl (fun ls hl => ?_)
  exact b2 F 0 σ hf _ _ _ hw (lv_sub hl [1, 0] rfl)
theorem qyX8_lapseSessions : qY yX8_lapseSessions RX8 cX8_lapseSessions 3 none 0 := ⟨⟨kw_723, kp_18, kw_1, kw_724⟩, rfl, by decide, by decide, by decide +kernel⟩
def fX8_lapseSessions_54 (F : Nat) (k2 : Int32 → qS → Option qS) (x1 : Int32) (σ : qS) : Option qS :=
  nm (x1 + 1) fun v6 => (k2 v6 σ)
def fX8_lapseSessions_2 (F : Nat) : Nat → Int32 → qS → Option qS
  | 0, _, _ => none
  | n + 1, x1, σ =>
  nm (nI (σ.2 0 0)) fun v1 => (if v1 ≤ x1 then (some σ) else (gnl (σ.2 0 0) 11 (inx (σ.2 0 0) x1 (nm x1.toNatClampNeg fun i3 => (gnl i3 (σ.2 0 0) (gnl i3 (σ.2 0 0) (nm (σ.1 50 i3 15) fun v4 => (if v4 = 0 then (nm (σ.1 0 0 14) fun v7 => (gnl i3 (σ.2 0 0) (nm (σ.1 50 i3 9) fun v8 => (nm (v7 - v8) fun v9 => (gnl i3 (σ.2 0 0) (nm (σ.1 50 i3 2) fun v10 => (if v9 < v10 then (fX8_lapseSessions_54 F (fX8_lapseSessions_2 F n) x1 σ) else (bnd2 (fX8_endSession F i3 σ) fun v13 s12 => (fX8_lapseSessions_54 F (fX8_lapseSessions_2 F n) x1 s12))))))))) else (fX8_lapseSessions_54 F (fX8_lapseSessions_2 F n) x1 σ)))))))))
def fX8_lapseSessions (F : Nat) (σ : qS) : Option qS :=
  fX8_lapseSessions_2 F F 0 σ
set_option maxRecDepth 100000 in
set_option maxHeartbeats 4000000 in
theorem wX8_lapseSessions (l : Launch) (D : va_G) (Y : Nat → ClassId) (ad : qAd) (F : Nat) (σ : qS) : qCv l yX8_lapseSessions cX8_lapseSessions 3 none 6 139 D (cL Y) (qT Y) ad [.ref (ad 0 0)] σ (fX8_lapseSessions F σ) := by
  refine q_ofv (by decide) (Nat.le_of_ble_eq_true rfl) "Leasehall" rfl (fun p e s m below meth c A Q r0 S0 hf hw hret ls hl => ?_)
  replace hl : lv_has ls 3 [(0, .ref (ad 0 0))] := hl
  unfold fX8_lapseSessions at hf
  have b54 : ∀ (k2 : Int32 → qS → Option qS) (hk2 : ∀ (x1 : Int32) (σ : qS), k2 x1 σ = some r0 → qAt p l e (qRm 6 139) s m ([.ref (ad 0 0)] : List Value).toArray below meth c Q D (cL Y) (qT Y) A ad 3 0 0 2 [(0, .ref (ad 0 0)), (1, .int x1)] [] σ) (x1 : Int32) (σ : qS), fX8_lapseSessions_54 F k2 x1 σ = some r0 → qAt p l e (qRm 6 139) s m ([.ref (ad 0 0)] : List Value).toArray below meth c Q D (cL Y) (qT Y) A ad 3 0 0 54 [(0, .ref (ad 0 0)), (1, .int x1)] [] σ := by
    clear hf hw hl ls
    intro k2 hk2
    intro x1 σ hf H locs ls hw hl
    unfold fX8_lapseSessions_54 at hf
    refine q_iinc S0 (v0 := 1) dX8_lapseSessions_54 hl (k := 1) rfl (by decide) (by decide) rfl hf (fun v6 ls hl hf => ?_)
    refine lv_goto (tgt := 2) S0.1 S0.2.1 dX8_lapseSessions_57 (by decide) ?_
    exact hk2 v6 σ hf _ _ _ hw (lv_sub hl [1, 0] rfl)
  have b2 : ∀ (n : Nat) (x1 : Int32) (σ : qS), fX8_lapseSessions_2 F n x1 σ = some r0 → qAt p l e (qRm 6 139) s m ([.ref (ad 0 0)] : List Value).toArray below meth c Q D (cL Y) (qT Y) A ad 3 0 0 2 [(0, .ref (ad 0 0)), (1, .int x1)] [] σ := by
    clear hf hw hl ls
    intro n
    induction n with
    | zero => intro x1 σ hf; exact absurd hf (by rw [fX8_lapseSessions_2]; exact nofun)
    | succ n hk2 =>
      intro x1 σ hf H locs ls hw hl
      rw [fX8_lapseSessions_2] at hf
      refine lv_iload_n S0.1 S0.2.1 dX8_lapseSessions_2 rfl (lv_at hl 1 rfl) ?_
      refine lv_aload_n S0.1 S0.2.1 dX8_lapseSessions_3 rfl (lv_at hl 0 rfl) ?_
      refine gX8_sessions S0 hw kw_234 dX8_lapseSessions_4 ?_
      refine q_lsize S0 hw (k := 16) dC_16 rfl kw_423 ⟨Nat.le_of_ble_eq_true rfl, Nat.le_of_ble_eq_true rfl⟩ hl.1 (Nat.le_of_ble_eq_true rfl) dX8_lapseSessions_7 ⟨Nat.le_refl _, Nat.le_refl _⟩ hf (fun v1 H locs hw hf => ?_)
      refine lv_icmp_ge (tgt := 60) S0.1 S0.2.1 dX8_lapseSessions_10 (by decide) (fun c2 => ?_) (fun c2 => ?_)
      · replace hf := q_pos c2 hf
        exact hret dX8_lapseSessions_60 hw hf
      · replace hf := q_neg c2 hf
        refine lv_aload_n S0.1 S0.2.1 dX8_lapseSessions_13 rfl (lv_at hl 0 rfl) ?_
        refine gX8_sessions S0 hw kw_234 dX8_lapseSessions_14 ?_
        refine lv_iload_n S0.1 S0.2.1 dX8_lapseSessions_17 rfl (lv_at hl 1 rfl) ?_
        obtain ⟨hd, hf⟩ := gnl_some hf
        refine q_lget S0 hw (k := 16) (k2 := 17) (kr := 50) (t0 := 4) dC_16 rfl (by omega) (Nat.le_of_lt_succ hd) dC17 rfl rfl (fun _ h => if_pos h) kw_604 ⟨Nat.le_of_ble_eq_true rfl, Nat.le_of_ble_eq_true rfl⟩ hl.1 (Nat.le_of_ble_eq_true rfl) dX8_lapseSessions_18 ⟨Nat.le_refl _, Nat.le_refl _⟩ hf (fun i3 H locs hw hf => ?_)
        obtain ⟨hd, hf⟩ := gnl_some hf
        refine q_cast (k := 50) (i := i3) S0 hw hd rfl rfl kw_443 dX8_lapseSessions_21 ?_
        refine lv_astore_n (lv' := [(2, .ref (ad 50 i3)), (0, .ref (ad 0 0)), (1, .int x1)]) S0.1 S0.2.1 dX8_lapseSessions_24 rfl hl (by decide) rfl (fun ls hl => ?_)
        refine lv_aload_n S0.1 S0.2.1 dX8_lapseSessions_25 rfl (lv_at hl 0 rfl) ?_
        obtain ⟨hd, hf⟩ := gnl_some hf
        refine gX6_ended S0 hw hd kw_497 dX8_lapseSessions_26 hf (fun v4 hf => ?_)
        refine lv_if_ne (tgt := 54) S0.1 S0.2.1 dX8_lapseSessions_29 (by decide) (fun c5 => ?_) (fun c5 => ?_)
        · replace hf := q_neg c5 hf
          exact b54 (fX8_lapseSessions_2 F n) hk2 x1 σ hf _ _ _ hw (lv_sub hl [1, 2] rfl)
        · replace hf := q_pos c5 hf
          refine lv_aload_n S0.1 S0.2.1 dX8_lapseSessions_32 rfl (lv_at hl 1 rfl) ?_
          refine gX8_now S0 hw kw_241 dX8_lapseSessions_33 hf (fun v7 hf => ?_)
          refine lv_aload_n S0.1 S0.2.1 dX8_lapseSessions_36 rfl (lv_at hl 0 rfl) ?_
          obtain ⟨hd, hf⟩ := gnl_some hf
          refine gX6_last S0 hw hd kw_485 dX8_lapseSessions_37 hf (fun v8 hf => ?_)
          refine lv_isub S0.1 S0.2.1 dX8_lapseSessions_40 (q_top hf (fun v9 hf => ?_))
          refine lv_aload_n S0.1 S0.2.1 dX8_lapseSessions_41 rfl (lv_at hl 0 rfl) ?_
          obtain ⟨hd, hf⟩ := gnl_some hf
          refine gX6_patience S0 hw hd kw_473 dX8_lapseSessions_42 hf (fun v10 hf => ?_)
          refine lv_icmp_lt (tgt := 54) S0.1 S0.2.1 dX8_lapseSessions_45 (by decide) (fun c11 => ?_) (fun c11 => ?_)
          · replace hf := q_pos c11 hf
            exact b54 (fX8_lapseSessions_2 F n) hk2 x1 σ hf _ _ _ hw (lv_sub hl [1, 2] rfl)
          · replace hf := q_neg c11 hf
            refine lv_aload_n S0.1 S0.2.1 dX8_lapseSessions_48 rfl (lv_at hl 1 rfl) ?_
            refine lv_aload_n S0.1 S0.2.1 dX8_lapseSessions_49 rfl (lv_at hl 0 rfl) ?_
            refine q_calli S0 hw (As := [.ref (ad 50 i3)]) (rest := []) (wX8_endSession l D Y ad F i3 σ) qyX8_endSession kw_631 ⟨Nat.le_of_ble_eq_true rfl, Nat.le_of_ble_eq_true rfl⟩ dC_0 rfl rfl rfl rfl hl.1 (Nat.le_of_ble_eq_true rfl) dX8_lapseSessions_50 ⟨Nat.le_refl _, Nat.le_refl _⟩ rfl hf (fun v13 s12 H locs hw hf => ?_)
            refine lv_pop S0.1 S0.2.1 dX8_lapseSessions_53 rfl ?_
            exact b54 (fX8_lapseSessions_2 F n) hk2 x1 s12 hf _ _ _ hw (lv_sub hl [1, 2] rfl)
  refine lv_iconst (v := 0) S0.1 S0.2.1 dX8_lapseSessions_0 (by decide) ?_
  refine lv_istore_n (lv' := [(1, .int 0), (0, .ref (ad 0 0))]) S0.1 S0.2.1 dX8_lapseSessions_1 rfl hl (by decide) rfl (fun ls hl => ?_)
  exact b2 F 0 σ hf _ _ _ hw (lv_sub hl [1, 0] rfl)

theorem qyX8_knownServer : qY yX8_knownServer RX8 cX8_knownServer 2 (some (.object "Leasehall$Server")) 1 := ⟨⟨kw_404, kp_1, kw_1, kw_405⟩, rfl, by decide, by decide, by decide +kernel⟩
def fX8_knownServer_9 (F : Nat) (σ : qS) : Option (Nat × Nat × qS) :=
  some (0, 1, σ)
def fX8_knownServer (F : Nat) (p1 : Int32) (σ : qS) : Option (Nat × Nat × qS) :=
  if p1 < 0 then (fX8_knownServer_9 F σ) else (if p1 < 3 then (inx 3 p1 (nm p1.toNatClampNeg fun i3 => (some (i3, 0, σ)))) else (fX8_knownServer_9 F σ))
set_option maxRecDepth 100000 in
set_option maxHeartbeats 4000000 in
theorem wX8_knownServer (l : Launch) (hst : l.stackTraces = false) (D : va_G) (Y : Nat → ClassId) (ad : qAd) (B0 F : Nat) (p1 : Int32) (σ : qS) : qXr l yX8_knownServer cX8_knownServer 2 (some (.object "Leasehall$Server")) 6 90 1 6 8 B0 D (cL Y) (qT Y) ad [.ref (ad 0 0), .int p1] σ (fX8_knownServer F p1 σ) := by
  refine q_oxr hst (by decide) (Nat.le_of_ble_eq_true rfl) ⟨by decide, by decide⟩ "Leasehall" rfl (fun p e s m below meth c A Q r0 S0 hf hw hG hAB hret hHx hthr ls hl => ?_)
  replace hl : lv_has ls 2 [(0, .ref (ad 0 0)), (1, .int p1)] := hl
  unfold fX8_knownServer at hf
  have b9 : ∀ (σ : qS), fX8_knownServer_9 F σ = some r0 → qAt p l e (qRx 6 90 1 6) s m ([.ref (ad 0 0), .int p1] : List Value).toArray below meth c Q D (cL Y) (qT Y) A ad 2 0 0 9 [] [] σ := by
    clear hf hw hl ls
    intro σ hf H locs ls hw hl
    unfold fX8_knownServer_9 at hf
    exact hthr qt1_396 (by decide) hw hf ⟨dX8_knownServer_9, dX8_knownServer_12, Or.inr ⟨dX8_knownServer_13, dX8_knownServer_16, dX8_knownServer_19⟩⟩ hl.1 (Nat.le_of_ble_eq_true rfl) ⟨Nat.le_of_ble_eq_true rfl, Nat.le_of_ble_eq_true rfl⟩
  refine lv_iload_n S0.1 S0.2.1 dX8_knownServer_0 rfl (lv_at hl 1 rfl) ?_
  refine lv_if_lt (tgt := 9) S0.1 S0.2.1 dX8_knownServer_1 (by decide) (fun c1 => ?_) (fun c1 => ?_)
  · replace hf := q_pos c1 hf
    exact b9 σ hf _ _ _ hw (lv_sub hl [] rfl)
  · replace hf := q_neg c1 hf
    refine lv_iload_n S0.1 S0.2.1 dX8_knownServer_4 rfl (lv_at hl 1 rfl) ?_
    refine lv_iconst (v := 3) S0.1 S0.2.1 dX8_knownServer_5 (by decide) ?_
    refine lv_icmp_lt (tgt := 20) S0.1 S0.2.1 dX8_knownServer_6 (by decide) (fun c2 => ?_) (fun c2 => ?_)
    · replace hf := q_pos c2 hf
      refine lv_aload_n S0.1 S0.2.1 dX8_knownServer_20 rfl (lv_at hl 0 rfl) ?_
      refine gX8_servers S0 hw kw_228 dX8_knownServer_21 ?_
      refine lv_iload_n S0.1 S0.2.1 dX8_knownServer_24 rfl (lv_at hl 1 rfl) ?_
      refine q_aldn S0 hw dC_7 (t0 := 3) rfl rfl (fun _ => rfl) dX8_knownServer_25 hf (fun i3 hf => ?_)
      refine W.widen (k := 1) (n := 6) (by decide) (by decide) ?_
      exact hret dX8_knownServer_26 hw hf
    · replace hf := q_neg c2 hf
      exact b9 σ hf _ _ _ hw (lv_sub hl [] rfl)
theorem qyX8_known : qY yX8_known RX8 cX8_known 2 (some (.object "Leasehall$Session")) 1 := ⟨⟨kw_601, kp_5, kw_1, kw_602⟩, rfl, by decide, by decide, by decide +kernel⟩
def fX8_known_15 (F : Nat) (σ : qS) : Option (Nat × Nat × qS) :=
  some (0, 1, σ)
def fX8_known (F : Nat) (p1 : Int32) (σ : qS) : Option (Nat × Nat × qS) :=
  if p1 < 0 then (fX8_known_15 F σ) else (nm (nI (σ.2 0 0)) fun v2 => (if p1 < v2 then (gnl (σ.2 0 0) 11 (inx (σ.2 0 0) p1 (nm p1.toNatClampNeg fun i4 => (gnl i4 (σ.2 0 0) (some (i4, 0, σ)))))) else (fX8_known_15 F σ)))
set_option maxRecDepth 100000 in
set_option maxHeartbeats 4000000 in
theorem wX8_known (l : Launch) (hst : l.stackTraces = false) (D : va_G) (Y : Nat → ClassId) (ad : qAd) (B0 F : Nat) (p1 : Int32) (σ : qS) : qXr l yX8_known cX8_known 2 (some (.object "Leasehall$Session")) 6 90 1 6 50 B0 D (cL Y) (qT Y) ad [.ref (ad 0 0), .int p1] σ (fX8_known F p1 σ) := by
  refine q_oxr hst (by decide) (Nat.le_of_ble_eq_true rfl) ⟨by decide, by decide⟩ "Leasehall" rfl (fun p e s m below meth c A Q r0 S0 hf hw hG hAB hret hHx hthr ls hl => ?_)
  replace hl : lv_has ls 2 [(0, .ref (ad 0 0)), (1, .int p1)] := hl
  unfold fX8_known at hf
  have b15 : ∀ (σ : qS), fX8_known_15 F σ = some r0 → qAt p l e (qRx 6 90 1 6) s m ([.ref (ad 0 0), .int p1] : List Value).toArray below meth c Q D (cL Y) (qT Y) A ad 2 0 0 15 [] [] σ := by
    clear hf hw hl ls
    intro σ hf H locs ls hw hl
    unfold fX8_known_15 at hf
    exact hthr qt1_394 (by decide) hw hf ⟨dX8_known_15, dX8_known_18, Or.inr ⟨dX8_known_19, dX8_known_22, dX8_known_25⟩⟩ hl.1 (Nat.le_of_ble_eq_true rfl) ⟨Nat.le_of_ble_eq_true rfl, Nat.le_of_ble_eq_true rfl⟩
  refine lv_iload_n S0.1 S0.2.1 dX8_known_0 rfl (lv_at hl 1 rfl) ?_
  refine lv_if_lt (tgt := 15) S0.1 S0.2.1 dX8_known_1 (by decide) (fun c1 => ?_) (fun c1 => ?_)
  · replace hf := q_pos c1 hf
    exact b15 σ hf _ _ _ hw (lv_sub hl [] rfl)
  · replace hf := q_neg c1 hf
    refine lv_iload_n S0.1 S0.2.1 dX8_known_4 rfl (lv_at hl 1 rfl) ?_
    refine lv_aload_n S0.1 S0.2.1 dX8_known_5 rfl (lv_at hl 0 rfl) ?_
    refine gX8_sessions S0 hw kw_234 dX8_known_6 ?_
    refine q_lsize S0 hw (k := 16) dC_16 rfl kw_423 ⟨Nat.le_of_ble_eq_true rfl, Nat.le_of_ble_eq_true rfl⟩ hl.1 (Nat.le_of_ble_eq_true rfl) dX8_known_9 ⟨Nat.le_of_ble_eq_true rfl, Nat.le_of_ble_eq_true rfl⟩ hf (fun v2 H locs hw hf => ?_)
    refine lv_icmp_lt (tgt := 26) S0.1 S0.2.1 dX8_known_12 (by decide) (fun c3 => ?_) (fun c3 => ?_)
    · replace hf := q_pos c3 hf
      refine lv_aload_n S0.1 S0.2.1 dX8_known_26 rfl (lv_at hl 0 rfl) ?_
      refine gX8_sessions S0 hw kw_234 dX8_known_27 ?_
      refine lv_iload_n S0.1 S0.2.1 dX8_known_30 rfl (lv_at hl 1 rfl) ?_
      obtain ⟨hd, hf⟩ := gnl_some hf
      refine q_lget S0 hw (k := 16) (k2 := 17) (kr := 50) (t0 := 4) dC_16 rfl (by omega) (Nat.le_of_lt_succ hd) dC17 rfl rfl (fun _ h => if_pos h) kw_604 ⟨Nat.le_of_ble_eq_true rfl, Nat.le_of_ble_eq_true rfl⟩ hl.1 (Nat.le_of_ble_eq_true rfl) dX8_known_31 ⟨Nat.le_of_ble_eq_true rfl, Nat.le_of_ble_eq_true rfl⟩ hf (fun i4 H locs hw hf => ?_)
      obtain ⟨hd, hf⟩ := gnl_some hf
      refine q_cast (k := 50) (i := i4) S0 hw hd rfl rfl kw_443 dX8_known_34 ?_
      refine W.widen (k := 1) (n := 6) (by decide) (by decide) ?_
      exact hret dX8_known_37 hw hf
    · replace hf := q_neg c3 hf
      exact b15 σ hf _ _ _ hw (lv_sub hl [] rfl)
theorem qyX8_mustLive : qY yX8_mustLive RX8 cX8_mustLive 2 none 1 := ⟨⟨kw_620, kp_6, kw_1, kw_621⟩, rfl, by decide, by decide, by decide +kernel⟩
def fX8_mustLive (F : Nat) (i1 : Nat) (σ : qS) : Option (Int32 × Nat × qS) :=
  gnl i1 (σ.2 0 0) (nm (σ.1 50 i1 15) fun v1 => (if v1 = 0 then (some (0, 0, σ)) else (bnd (fX8_forgetLocks F i1 σ) fun s3 => (some (0, 3, s3)))))
set_option maxRecDepth 100000 in
set_option maxHeartbeats 4000000 in
theorem wX8_mustLive (l : Launch) (hst : l.stackTraces = false) (D : va_G) (Y : Nat → ClassId) (ad : qAd) (B0 F : Nat) (i1 : Nat) (σ : qS) : qXv l yX8_mustLive cX8_mustLive 2 none 6 90 1 6 B0 D (cL Y) (qT Y) ad [.ref (ad 0 0), .ref (ad 50 i1)] σ (fX8_mustLive F i1 σ) := by
  refine q_oxv hst (by decide) (Nat.le_of_ble_eq_true rfl) ⟨by decide, by decide⟩ "Leasehall" rfl (fun p e s m below meth c A Q r0 S0 hf hw hG hAB hret hHx hthr ls hl => ?_)
  replace hl : lv_has ls 2 [(0, .ref (ad 0 0)), (1, .ref (ad 50 i1))] := hl
  unfold fX8_mustLive at hf
  refine lv_aload_n S0.1 S0.2.1 dX8_mustLive_0 rfl (lv_at hl 1 rfl) ?_
  obtain ⟨hd, hf⟩ := gnl_some hf
  refine gX6_ended S0 hw hd kw_497 dX8_mustLive_1 hf (fun v1 hf => ?_)
  refine lv_if_eq (tgt := 23) S0.1 S0.2.1 dX8_mustLive_4 (by decide) (fun c2 => ?_) (fun c2 => ?_)
  · replace hf := q_pos c2 hf
    refine W.widen (k := 1) (n := 6) (by decide) (by decide) ?_
    exact hret dX8_mustLive_23 hw hf
  · replace hf := q_neg c2 hf
    refine lv_aload_n S0.1 S0.2.1 dX8_mustLive_7 rfl (lv_at hl 0 rfl) ?_
    refine lv_aload_n S0.1 S0.2.1 dX8_mustLive_8 rfl (lv_at hl 1 rfl) ?_
    refine q_callv S0 hw (As := [.ref (ad 50 i1)]) (rest := []) (wX8_forgetLocks l D Y ad F i1 σ) qyX8_forgetLocks kw_622 ⟨Nat.le_of_ble_eq_true rfl, Nat.le_of_ble_eq_true rfl⟩ dC_0 rfl rfl rfl rfl hl.1 (Nat.le_of_ble_eq_true rfl) dX8_mustLive_9 ⟨Nat.le_of_ble_eq_true rfl, Nat.le_of_ble_eq_true rfl⟩ rfl hf (fun s3 H locs hw hf => ?_)
    exact hthr qt3_400 (by decide) hw hf ⟨dX8_mustLive_12, dX8_mustLive_15, Or.inr ⟨dX8_mustLive_16, dX8_mustLive_19, dX8_mustLive_22⟩⟩ hl.1 (Nat.le_of_ble_eq_true rfl) ⟨Nat.le_of_ble_eq_true rfl, Nat.le_of_ble_eq_true rfl⟩
theorem qyX8_close : qY yX8_close RX8 cX8_close 3 (some .int) 1 := ⟨⟨kw_596, kw_597, kw_1, kw_598⟩, rfl, by decide, by decide, by decide +kernel⟩
def fX8_close (F : Nat) (p1 : Int32) (σ : qS) : Option (Int32 × Nat × qS) :=
  bnd3 (fX8_known F p1 σ) (fun i2 s1 => bnd3 (fX8_mustLive F i2 s1) (fun _ s3 => bnd (fX8_forgetLocks F i2 s3) fun s4 => (bnd2 (fX8_endSession F i2 s4) fun v6 s5 => (some (v6, 0, s5)))) (fun e s => some (0, e, s))) (fun e s => some (0, e, s))
set_option maxRecDepth 100000 in
set_option maxHeartbeats 4000000 in
theorem wX8_close (l : Launch) (hst : l.stackTraces = false) (D : va_G) (Y : Nat → ClassId) (ad : qAd) (B0 F : Nat) (p1 : Int32) (σ : qS) : qXi l yX8_close cX8_close 3 (some .int) 7 139 2 12 B0 D (cL Y) (qT Y) ad [.ref (ad 0 0), .int p1] σ (fX8_close F p1 σ) := by
  refine q_oxi hst (by decide) (Nat.le_of_ble_eq_true rfl) ⟨by decide, by decide⟩ "Leasehall" rfl (fun p e s m below meth c A Q r0 S0 hf hw hG hAB hret hHx hthr ls hl => ?_)
  replace hl : lv_has ls 3 [(0, .ref (ad 0 0)), (1, .int p1)] := hl
  unfold fX8_close at hf
  refine lv_aload_n S0.1 S0.2.1 dX8_close_0 rfl (lv_at hl 0 rfl) ?_
  refine lv_iload_n S0.1 S0.2.1 dX8_close_1 rfl (lv_at hl 1 rfl) ?_
  refine q_xcallr S0 hG hAB hw (As := [.int p1]) (rest := []) (wX8_known l hst D Y ad B0 F p1 σ) qyX8_known kw_599 ⟨Nat.le_of_ble_eq_true rfl, Nat.le_of_ble_eq_true rfl⟩ dC_0 rfl rfl rfl rfl hl.1 (Nat.le_of_ble_eq_true rfl) dX8_close_2 ⟨Nat.le_of_ble_eq_true rfl, Nat.le_of_ble_eq_true rfl⟩ rfl hf (fun ex ce q9 s9 H locs hw hf hne hce hcv hcl => hHx hw hf hne hce hcv hcl (Nat.le_of_ble_eq_true rfl) (Nat.le_of_ble_eq_true rfl)) (fun i2 s1 H locs hw hf => ?_)
  refine lv_astore_n (lv' := [(2, .ref (ad 50 i2)), (0, .ref (ad 0 0)), (1, .int p1)]) S0.1 S0.2.1 dX8_close_5 rfl hl (by decide) rfl (fun ls hl => ?_)
  refine lv_aload_n S0.1 S0.2.1 dX8_close_6 rfl (lv_at hl 1 rfl) ?_
  refine lv_aload_n S0.1 S0.2.1 dX8_close_7 rfl (lv_at hl 0 rfl) ?_
  refine q_xcallv S0 hG hAB hw (As := [.ref (ad 50 i2)]) (rest := []) (wX8_mustLive l hst D Y ad B0 F i2 s1) qyX8_mustLive kw_618 ⟨Nat.le_of_ble_eq_true rfl, Nat.le_of_ble_eq_true rfl⟩ dC_0 rfl rfl rfl rfl hl.1 (Nat.le_of_ble_eq_true rfl) dX8_close_8 ⟨Nat.le_of_ble_eq_true rfl, Nat.le_of_ble_eq_true rfl⟩ rfl hf (fun ex ce q9 s9 H locs hw hf hne hce hcv hcl => hHx hw hf hne hce hcv hcl (Nat.le_of_ble_eq_true rfl) (Nat.le_of_ble_eq_true rfl)) (fun _ s3 H locs hw hf => ?_)
  refine lv_aload_n S0.1 S0.2.1 dX8_close_11 rfl (lv_at hl 1 rfl) ?_
  refine lv_aload_n S0.1 S0.2.1 dX8_close_12 rfl (lv_at hl 0 rfl) ?_
  refine q_callv S0 hw (As := [.ref (ad 50 i2)]) (rest := []) (wX8_forgetLocks l D Y ad F i2 s3) qyX8_forgetLocks kw_622 ⟨Nat.le_of_ble_eq_true rfl, Nat.le_of_ble_eq_true rfl⟩ dC_0 rfl rfl rfl rfl hl.1 (Nat.le_of_ble_eq_true rfl) dX8_close_13 ⟨Nat.le_of_ble_eq_true rfl, Nat.le_of_ble_eq_true rfl⟩ rfl hf (fun s4 H locs hw hf => ?_)
  refine lv_aload_n S0.1 S0.2.1 dX8_close_16 rfl (lv_at hl 1 rfl) ?_
  refine lv_aload_n S0.1 S0.2.1 dX8_close_17 rfl (lv_at hl 0 rfl) ?_
  refine q_calli S0 hw (As := [.ref (ad 50 i2)]) (rest := []) (wX8_endSession l D Y ad F i2 s4) qyX8_endSession kw_631 ⟨Nat.le_of_ble_eq_true rfl, Nat.le_of_ble_eq_true rfl⟩ dC_0 rfl rfl rfl rfl hl.1 (Nat.le_of_ble_eq_true rfl) dX8_close_18 ⟨Nat.le_of_ble_eq_true rfl, Nat.le_of_ble_eq_true rfl⟩ rfl hf (fun v6 s5 H locs hw hf => ?_)
  exact hret dX8_close_21 hw hf
theorem qyX8_wake : qY yX8_wake RX8 cX8_wake 2 none 1 := ⟨⟨kw_684, kp_16, kw_1, kw_685⟩, rfl, by decide, by decide, by decide +kernel⟩
def fX8_wake (F : Nat) (i1 : Nat) (σ : qS) : Option (Int32 × Nat × qS) :=
  bnd3 (fX8_mustLive F i1 σ) (fun _ s1 => nm (s1.1 0 0 14) fun v2 => (gnl i1 (s1.2 0 0) (nm (qI s1 50 i1 9 v2) fun s3 => (some (0, 0, s3))))) (fun e s => some (0, e, s))
set_option maxRecDepth 100000 in
set_option maxHeartbeats 4000000 in
theorem wX8_wake (l : Launch) (hst : l.stackTraces = false) (D : va_G) (Y : Nat → ClassId) (ad : qAd) (B0 F : Nat) (i1 : Nat) (σ : qS) : qXv l yX8_wake cX8_wake 2 none 7 111 1 6 B0 D (cL Y) (qT Y) ad [.ref (ad 0 0), .ref (ad 50 i1)] σ (fX8_wake F i1 σ) := by
  refine q_oxv hst (by decide) (Nat.le_of_ble_eq_true rfl) ⟨by decide, by decide⟩ "Leasehall" rfl (fun p e s m below meth c A Q r0 S0 hf hw hG hAB hret hHx hthr ls hl => ?_)
  replace hl : lv_has ls 2 [(0, .ref (ad 0 0)), (1, .ref (ad 50 i1))] := hl
  unfold fX8_wake at hf
  refine lv_aload_n S0.1 S0.2.1 dX8_wake_0 rfl (lv_at hl 0 rfl) ?_
  refine lv_aload_n S0.1 S0.2.1 dX8_wake_1 rfl (lv_at hl 1 rfl) ?_
  refine q_xcallv S0 hG hAB hw (As := [.ref (ad 50 i1)]) (rest := []) (wX8_mustLive l hst D Y ad B0 F i1 σ) qyX8_mustLive kw_618 ⟨Nat.le_of_ble_eq_true rfl, Nat.le_of_ble_eq_true rfl⟩ dC_0 rfl rfl rfl rfl hl.1 (Nat.le_of_ble_eq_true rfl) dX8_wake_2 ⟨Nat.le_of_ble_eq_true rfl, Nat.le_of_ble_eq_true rfl⟩ rfl hf (fun ex ce q9 s9 H locs hw hf hne hce hcv hcl => hHx hw hf hne hce hcv hcl (Nat.le_of_ble_eq_true rfl) (Nat.le_of_ble_eq_true rfl)) (fun _ s1 H locs hw hf => ?_)
  refine lv_aload_n S0.1 S0.2.1 dX8_wake_5 rfl (lv_at hl 1 rfl) ?_
  refine lv_aload_n S0.1 S0.2.1 dX8_wake_6 rfl (lv_at hl 0 rfl) ?_
  refine gX8_now S0 hw kw_241 dX8_wake_7 hf (fun v2 hf => ?_)
  obtain ⟨hd, hf⟩ := gnl_some hf
  refine pX6_last S0 hw hd kw_485 dX8_wake_10 hf (fun s3 H locs hw hf => ?_)
  exact hret dX8_wake_13 hw hf
theorem qyX8_ping : qY yX8_ping RX8 cX8_ping 3 (some .int) 1 := ⟨⟨kw_679, kw_680, kw_1, kw_681⟩, rfl, by decide, by decide, by decide +kernel⟩
def fX8_ping (F : Nat) (p1 : Int32) (σ : qS) : Option (Int32 × Nat × qS) :=
  bnd3 (fX8_known F p1 σ) (fun i2 s1 => bnd3 (fX8_wake F i2 s1) (fun _ s3 => gnl i2 (s3.2 0 0) (nm (s3.2 2 i2) fun i4 => (gnl i4 3 (nm (s3.1 8 i4 1) fun v5 => (some (v5, 0, s3)))))) (fun e s => some (0, e, s))) (fun e s => some (0, e, s))
set_option maxRecDepth 100000 in
set_option maxHeartbeats 4000000 in
theorem wX8_ping (l : Launch) (hst : l.stackTraces = false) (D : va_G) (Y : Nat → ClassId) (ad : qAd) (B0 F : Nat) (p1 : Int32) (σ : qS) : qXi l yX8_ping cX8_ping 3 (some .int) 8 132 2 12 B0 D (cL Y) (qT Y) ad [.ref (ad 0 0), .int p1] σ (fX8_ping F p1 σ) := by
  refine q_oxi hst (by decide) (Nat.le_of_ble_eq_true rfl) ⟨by decide, by decide⟩ "Leasehall" rfl (fun p e s m below meth c A Q r0 S0 hf hw hG hAB hret hHx hthr ls hl => ?_)
  replace hl : lv_has ls 3 [(0, .ref (ad 0 0)), (1, .int p1)] := hl
  unfold fX8_ping at hf
  refine lv_aload_n S0.1 S0.2.1 dX8_ping_0 rfl (lv_at hl 0 rfl) ?_
  refine lv_iload_n S0.1 S0.2.1 dX8_ping_1 rfl (lv_at hl 1 rfl) ?_
  refine q_xcallr S0 hG hAB hw (As := [.int p1]) (rest := []) (wX8_known l hst D Y ad B0 F p1 σ) qyX8_known kw_599 ⟨Nat.le_of_ble_eq_true rfl, Nat.le_of_ble_eq_true rfl⟩ dC_0 rfl rfl rfl rfl hl.1 (Nat.le_of_ble_eq_true rfl) dX8_ping_2 ⟨Nat.le_of_ble_eq_true rfl, Nat.le_of_ble_eq_true rfl⟩ rfl hf (fun ex ce q9 s9 H locs hw hf hne hce hcv hcl => hHx hw hf hne hce hcv hcl (Nat.le_of_ble_eq_true rfl) (Nat.le_of_ble_eq_true rfl)) (fun i2 s1 H locs hw hf => ?_)
  refine lv_astore_n (lv' := [(2, .ref (ad 50 i2)), (0, .ref (ad 0 0)), (1, .int p1)]) S0.1 S0.2.1 dX8_ping_5 rfl hl (by decide) rfl (fun ls hl => ?_)
  refine lv_aload_n S0.1 S0.2.1 dX8_ping_6 rfl (lv_at hl 1 rfl) ?_
  refine lv_aload_n S0.1 S0.2.1 dX8_ping_7 rfl (lv_at hl 0 rfl) ?_
  refine q_xcallv S0 hG hAB hw (As := [.ref (ad 50 i2)]) (rest := []) (wX8_wake l hst D Y ad B0 F i2 s1) qyX8_wake kw_682 ⟨Nat.le_of_ble_eq_true rfl, Nat.le_of_ble_eq_true rfl⟩ dC_0 rfl rfl rfl rfl hl.1 (Nat.le_of_ble_eq_true rfl) dX8_ping_8 ⟨Nat.le_of_ble_eq_true rfl, Nat.le_of_ble_eq_true rfl⟩ rfl hf (fun ex ce q9 s9 H locs hw hf hne hce hcv hcl => hHx hw hf hne hce hcv hcl (Nat.le_of_ble_eq_true rfl) (Nat.le_of_ble_eq_true rfl)) (fun _ s3 H locs hw hf => ?_)
  refine lv_aload_n S0.1 S0.2.1 dX8_ping_11 rfl (lv_at hl 0 rfl) ?_
  obtain ⟨hd, hf⟩ := gnl_some hf
  refine gX6_server S0 hw hd kw_483 dX8_ping_12 hf (fun i4 hf => ?_)
  obtain ⟨hd, hf⟩ := gnl_some hf
  refine gX5_changes S0 hw hd kw_213 dX8_ping_15 hf (fun v5 hf => ?_)
  exact hret dX8_ping_18 hw hf
theorem qyX8_move : qY yX8_move RX8 cX8_move 5 (some .boolean) 2 := ⟨⟨kw_690, kw_691, kw_1, kw_692⟩, rfl, by decide, by decide, by decide +kernel⟩
def fX8_move (F : Nat) (p1 : Int32) (p2 : Int32) (σ : qS) : Option (Int32 × Nat × qS) :=
  bnd3 (fX8_known F p1 σ) (fun i2 s1 => bnd3 (fX8_knownServer F p2 s1) (fun i4 s3 => bnd3 (fX8_wake F i2 s3) (fun _ s5 => gnl i4 3 (nm (s5.1 8 i4 1) fun v6 => (gnl i2 (s5.2 0 0) (nm (s5.2 2 i2) fun i7 => (gnl i7 3 (nm (s5.1 8 i7 1) fun v8 => (if v8 ≤ v6 then (gnl i2 (s5.2 0 0) (nm (qN s5 2 i2 i4) fun s10 => (gbl 1 (some (1, 0, s10))))) else (gbl 0 (some (0, 0, s5)))))))))) (fun e s => some (0, e, s))) (fun e s => some (0, e, s))) (fun e s => some (0, e, s))
set_option maxRecDepth 100000 in
set_option maxHeartbeats 4000000 in
theorem wX8_move (l : Launch) (hst : l.stackTraces = false) (D : va_G) (Y : Nat → ClassId) (ad : qAd) (B0 F : Nat) (p1 : Int32) (p2 : Int32) (σ : qS) : qXi l yX8_move cX8_move 5 (some .boolean) 8 132 3 18 B0 D (cL Y) (qT Y) ad [.ref (ad 0 0), .int p1, .int p2] σ (fX8_move F p1 p2 σ) := by
  refine q_oxz hst (by decide) (Nat.le_of_ble_eq_true rfl) ⟨by decide, by decide⟩ "Leasehall" rfl (fun p e s m below meth c A Q r0 S0 hf hw hG hAB hret hHx hthr ls hl => ?_)
  replace hl : lv_has ls 5 [(0, .ref (ad 0 0)), (1, .int p1), (2, .int p2)] := hl
  unfold fX8_move at hf
  refine lv_aload_n S0.1 S0.2.1 dX8_move_0 rfl (lv_at hl 0 rfl) ?_
  refine lv_iload_n S0.1 S0.2.1 dX8_move_1 rfl (lv_at hl 1 rfl) ?_
  refine q_xcallr S0 hG hAB hw (As := [.int p1]) (rest := []) (wX8_known l hst D Y ad B0 F p1 σ) qyX8_known kw_599 ⟨Nat.le_of_ble_eq_true rfl, Nat.le_of_ble_eq_true rfl⟩ dC_0 rfl rfl rfl rfl hl.1 (Nat.le_of_ble_eq_true rfl) dX8_move_2 ⟨Nat.le_of_ble_eq_true rfl, Nat.le_of_ble_eq_true rfl⟩ rfl hf (fun ex ce q9 s9 H locs hw hf hne hce hcv hcl => hHx hw hf hne hce hcv hcl (Nat.le_of_ble_eq_true rfl) (Nat.le_of_ble_eq_true rfl)) (fun i2 s1 H locs hw hf => ?_)
  refine lv_astore_n (lv' := [(3, .ref (ad 50 i2)), (0, .ref (ad 0 0)), (1, .int p1), (2, .int p2)]) S0.1 S0.2.1 dX8_move_5 rfl hl (by decide) rfl (fun ls hl => ?_)
  refine lv_aload_n S0.1 S0.2.1 dX8_move_6 rfl (lv_at hl 1 rfl) ?_
  refine lv_iload_n S0.1 S0.2.1 dX8_move_7 rfl (lv_at hl 3 rfl) ?_
  refine q_xcallr S0 hG hAB hw (As := [.int p2]) (rest := []) (wX8_knownServer l hst D Y ad B0 F p2 s1) qyX8_knownServer kw_402 ⟨Nat.le_of_ble_eq_true rfl, Nat.le_of_ble_eq_true rfl⟩ dC_0 rfl rfl rfl rfl hl.1 (Nat.le_of_ble_eq_true rfl) dX8_move_8 ⟨Nat.le_of_ble_eq_true rfl, Nat.le_of_ble_eq_true rfl⟩ rfl hf (fun ex ce q9 s9 H locs hw hf hne hce hcv hcl => hHx hw hf hne hce hcv hcl (Nat.le_of_ble_eq_true rfl) (Nat.le_of_ble_eq_true rfl)) (fun i4 s3 H locs hw hf => ?_)
  refine lv_astore (lv' := [(4, .ref (ad 8 i4)), (3, .ref (ad 50 i2)), (0, .ref (ad 0 0)), (1, .int p1), (2, .int p2)]) S0.1 S0.2.1 dX8_move_11 hl (by decide) rfl (fun ls hl => ?_)
  refine lv_aload_n S0.1 S0.2.1 dX8_move_13 rfl (lv_at hl 2 rfl) ?_
  refine lv_aload_n S0.1 S0.2.1 dX8_move_14 rfl (lv_at hl 1 rfl) ?_
  refine q_xcallv S0 hG hAB hw (As := [.ref (ad 50 i2)]) (rest := []) (wX8_wake l hst D Y ad B0 F i2 s3) qyX8_wake kw_682 ⟨Nat.le_of_ble_eq_true rfl, Nat.le_of_ble_eq_true rfl⟩ dC_0 rfl rfl rfl rfl hl.1 (Nat.le_of_ble_eq_true rfl) dX8_move_15 ⟨Nat.le_of_ble_eq_true rfl, Nat.le_of_ble_eq_true rfl⟩ rfl hf (fun ex ce q9 s9 H locs hw hf hne hce hcv hcl => hHx hw hf hne hce hcv hcl (Nat.le_of_ble_eq_true rfl) (Nat.le_of_ble_eq_true rfl)) (fun _ s5 H locs hw hf => ?_)
  refine lv_aload S0.1 S0.2.1 dX8_move_18 (lv_at hl 0 rfl) ?_
  obtain ⟨hd, hf⟩ := gnl_some hf
  refine gX5_changes S0 hw hd kw_213 dX8_move_20 hf (fun v6 hf => ?_)
  refine lv_aload_n S0.1 S0.2.1 dX8_move_23 rfl (lv_at hl 1 rfl) ?_
  obtain ⟨hd, hf⟩ := gnl_some hf
  refine gX6_server S0 hw hd kw_483 dX8_move_24 hf (fun i7 hf => ?_)
  obtain ⟨hd, hf⟩ := gnl_some hf
  refine gX5_changes S0 hw hd kw_213 dX8_move_27 hf (fun v8 hf => ?_)
  refine lv_icmp_ge (tgt := 35) S0.1 S0.2.1 dX8_move_30 (by decide) (fun c9 => ?_) (fun c9 => ?_)
  · replace hf := q_pos c9 hf
    refine lv_aload_n S0.1 S0.2.1 dX8_move_35 rfl (lv_at hl 1 rfl) ?_
    refine lv_aload S0.1 S0.2.1 dX8_move_36 (lv_at hl 0 rfl) ?_
    obtain ⟨hd, hf⟩ := gnl_some hf
    refine pX6_server S0 hw hd kw_483 dX8_move_38 hf (fun s10 H locs hw hf => ?_)
    refine lv_iconst (v := 1) S0.1 S0.2.1 dX8_move_41 (by decide) ?_
    exact hret dX8_move_42 hw hf
  · replace hf := q_neg c9 hf
    refine lv_iconst (v := 0) S0.1 S0.2.1 dX8_move_33 (by decide) ?_
    exact hret dX8_move_34 hw hf
theorem qyX8_sync : qY yX8_sync RX8 cX8_sync 3 (some .int) 1 := ⟨⟨kw_697, kw_698, kw_1, kw_699⟩, rfl, by decide, by decide, by decide +kernel⟩
def fX8_sync (F : Nat) (p1 : Int32) (σ : qS) : Option (Int32 × Nat × qS) :=
  bnd3 (fX8_known F p1 σ) (fun i2 s1 => bnd3 (fX8_wake F i2 s1) (fun _ s3 => gnl i2 (s3.2 0 0) (nm (s3.2 2 i2) fun i4 => (nm (s3.1 0 0 15) fun v5 => (bnd2 (fX8_catchUp F i4 v5 s3) fun v7 s6 => (some (v7, 0, s6)))))) (fun e s => some (0, e, s))) (fun e s => some (0, e, s))
set_option maxRecDepth 100000 in
set_option maxHeartbeats 4000000 in
theorem wX8_sync (l : Launch) (hst : l.stackTraces = false) (D : va_G) (Y : Nat → ClassId) (ad : qAd) (B0 F : Nat) (p1 : Int32) (σ : qS) : qXi l yX8_sync cX8_sync 3 (some .int) 8 132 2 12 B0 D (cL Y) (qT Y) ad [.ref (ad 0 0), .int p1] σ (fX8_sync F p1 σ) := by
  refine q_oxi hst (by decide) (Nat.le_of_ble_eq_true rfl) ⟨by decide, by decide⟩ "Leasehall" rfl (fun p e s m below meth c A Q r0 S0 hf hw hG hAB hret hHx hthr ls hl => ?_)
  replace hl : lv_has ls 3 [(0, .ref (ad 0 0)), (1, .int p1)] := hl
  unfold fX8_sync at hf
  refine lv_aload_n S0.1 S0.2.1 dX8_sync_0 rfl (lv_at hl 0 rfl) ?_
  refine lv_iload_n S0.1 S0.2.1 dX8_sync_1 rfl (lv_at hl 1 rfl) ?_
  refine q_xcallr S0 hG hAB hw (As := [.int p1]) (rest := []) (wX8_known l hst D Y ad B0 F p1 σ) qyX8_known kw_599 ⟨Nat.le_of_ble_eq_true rfl, Nat.le_of_ble_eq_true rfl⟩ dC_0 rfl rfl rfl rfl hl.1 (Nat.le_of_ble_eq_true rfl) dX8_sync_2 ⟨Nat.le_of_ble_eq_true rfl, Nat.le_of_ble_eq_true rfl⟩ rfl hf (fun ex ce q9 s9 H locs hw hf hne hce hcv hcl => hHx hw hf hne hce hcv hcl (Nat.le_of_ble_eq_true rfl) (Nat.le_of_ble_eq_true rfl)) (fun i2 s1 H locs hw hf => ?_)
  refine lv_astore_n (lv' := [(2, .ref (ad 50 i2)), (0, .ref (ad 0 0)), (1, .int p1)]) S0.1 S0.2.1 dX8_sync_5 rfl hl (by decide) rfl (fun ls hl => ?_)
  refine lv_aload_n S0.1 S0.2.1 dX8_sync_6 rfl (lv_at hl 1 rfl) ?_
  refine lv_aload_n S0.1 S0.2.1 dX8_sync_7 rfl (lv_at hl 0 rfl) ?_
  refine q_xcallv S0 hG hAB hw (As := [.ref (ad 50 i2)]) (rest := []) (wX8_wake l hst D Y ad B0 F i2 s1) qyX8_wake kw_682 ⟨Nat.le_of_ble_eq_true rfl, Nat.le_of_ble_eq_true rfl⟩ dC_0 rfl rfl rfl rfl hl.1 (Nat.le_of_ble_eq_true rfl) dX8_sync_8 ⟨Nat.le_of_ble_eq_true rfl, Nat.le_of_ble_eq_true rfl⟩ rfl hf (fun ex ce q9 s9 H locs hw hf hne hce hcv hcl => hHx hw hf hne hce hcv hcl (Nat.le_of_ble_eq_true rfl) (Nat.le_of_ble_eq_true rfl)) (fun _ s3 H locs hw hf => ?_)
  refine lv_aload_n S0.1 S0.2.1 dX8_sync_11 rfl (lv_at hl 1 rfl) ?_
  refine lv_aload_n S0.1 S0.2.1 dX8_sync_12 rfl (lv_at hl 0 rfl) ?_
  obtain ⟨hd, hf⟩ := gnl_some hf
  refine gX6_server S0 hw hd kw_483 dX8_sync_13 hf (fun i4 hf => ?_)
  refine lv_aload_n S0.1 S0.2.1 dX8_sync_16 rfl (lv_at hl 1 rfl) ?_
  refine gX8_lastChange S0 hw kw_242 dX8_sync_17 hf (fun v5 hf => ?_)
  refine q_calli S0 hw (As := [.ref (ad 8 i4), .int v5]) (rest := []) (wX8_catchUp l D Y ad F i4 v5 s3) qyX8_catchUp kw_700 ⟨Nat.le_of_ble_eq_true rfl, Nat.le_of_ble_eq_true rfl⟩ dC_0 rfl rfl rfl rfl hl.1 (Nat.le_of_ble_eq_true rfl) dX8_sync_20 ⟨Nat.le_of_ble_eq_true rfl, Nat.le_of_ble_eq_true rfl⟩ rfl hf (fun v7 s6 H locs hw hf => ?_)
  exact hret dX8_sync_23 hw hf
theorem qyX8_follow : qY yX8_follow RX8 cX8_follow 4 (some .int) 2 := ⟨⟨kw_709, kw_710, kw_1, kw_711⟩, rfl, by decide, by decide, by decide +kernel⟩
def fX8_follow (F : Nat) (p1 : Int32) (p2 : Int32) (σ : qS) : Option (Int32 × Nat × qS) :=
  bnd3 (fX8_knownServer F p1 σ) (fun i2 s1 => bnd2 (fX8_isWithin F p2 1 20 s1) fun v4 s3 => (if v4 = 0 then (some (0, 2, s3)) else (bnd2 (fX8_catchUp F i2 p2 s3) fun v7 s6 => (some (v7, 0, s6))))) (fun e s => some (0, e, s))
set_option maxRecDepth 100000 in
set_option maxHeartbeats 4000000 in
theorem wX8_follow (l : Launch) (hst : l.stackTraces = false) (D : va_G) (Y : Nat → ClassId) (ad : qAd) (B0 F : Nat) (p1 : Int32) (p2 : Int32) (σ : qS) : qXi l yX8_follow cX8_follow 4 (some .int) 7 111 2 12 B0 D (cL Y) (qT Y) ad [.ref (ad 0 0), .int p1, .int p2] σ (fX8_follow F p1 p2 σ) := by
  refine q_oxi hst (by decide) (Nat.le_of_ble_eq_true rfl) ⟨by decide, by decide⟩ "Leasehall" rfl (fun p e s m below meth c A Q r0 S0 hf hw hG hAB hret hHx hthr ls hl => ?_)
  replace hl : lv_has ls 4 [(0, .ref (ad 0 0)), (1, .int p1), (2, .int p2)] := hl
  unfold fX8_follow at hf
  refine lv_aload_n S0.1 S0.2.1 dX8_follow_0 rfl (lv_at hl 0 rfl) ?_
  refine lv_iload_n S0.1 S0.2.1 dX8_follow_1 rfl (lv_at hl 1 rfl) ?_
  refine q_xcallr S0 hG hAB hw (As := [.int p1]) (rest := []) (wX8_knownServer l hst D Y ad B0 F p1 σ) qyX8_knownServer kw_402 ⟨Nat.le_of_ble_eq_true rfl, Nat.le_of_ble_eq_true rfl⟩ dC_0 rfl rfl rfl rfl hl.1 (Nat.le_of_ble_eq_true rfl) dX8_follow_2 ⟨Nat.le_of_ble_eq_true rfl, Nat.le_of_ble_eq_true rfl⟩ rfl hf (fun ex ce q9 s9 H locs hw hf hne hce hcv hcl => hHx hw hf hne hce hcv hcl (Nat.le_of_ble_eq_true rfl) (Nat.le_of_ble_eq_true rfl)) (fun i2 s1 H locs hw hf => ?_)
  refine lv_astore_n (lv' := [(3, .ref (ad 8 i2)), (0, .ref (ad 0 0)), (1, .int p1), (2, .int p2)]) S0.1 S0.2.1 dX8_follow_5 rfl hl (by decide) rfl (fun ls hl => ?_)
  refine lv_iload_n S0.1 S0.2.1 dX8_follow_6 rfl (lv_at hl 3 rfl) ?_
  refine lv_iconst (v := 1) S0.1 S0.2.1 dX8_follow_7 (by decide) ?_
  refine lv_bipush (v := 20) S0.1 S0.2.1 dX8_follow_8 (by decide) ?_
  refine q_scalli S0 hw (As := [.int p2, .int 1, .int 20]) (rest := []) (wX8_isWithin l D Y ad F p2 1 20 s1) qsX8_isWithin kw_296 ⟨Nat.le_of_ble_eq_true rfl, Nat.le_of_ble_eq_true rfl⟩ rfl hl.1 (Nat.le_of_ble_eq_true rfl) dX8_follow_10 ⟨Nat.le_of_ble_eq_true rfl, Nat.le_of_ble_eq_true rfl⟩ rfl hf (fun v4 s3 H locs hw hf => ?_)
  refine lv_if_ne (tgt := 26) S0.1 S0.2.1 dX8_follow_13 (by decide) (fun c5 => ?_) (fun c5 => ?_)
  · replace hf := q_neg c5 hf
    refine lv_aload_n S0.1 S0.2.1 dX8_follow_26 rfl (lv_at hl 1 rfl) ?_
    refine lv_aload_n S0.1 S0.2.1 dX8_follow_27 rfl (lv_at hl 0 rfl) ?_
    refine lv_iload_n S0.1 S0.2.1 dX8_follow_28 rfl (lv_at hl 3 rfl) ?_
    refine q_calli S0 hw (As := [.ref (ad 8 i2), .int p2]) (rest := []) (wX8_catchUp l D Y ad F i2 p2 s3) qyX8_catchUp kw_700 ⟨Nat.le_of_ble_eq_true rfl, Nat.le_of_ble_eq_true rfl⟩ dC_0 rfl rfl rfl rfl hl.1 (Nat.le_of_ble_eq_true rfl) dX8_follow_29 ⟨Nat.le_of_ble_eq_true rfl, Nat.le_of_ble_eq_true rfl⟩ rfl hf (fun v7 s6 H locs hw hf => ?_)
    refine W.widen (k := 2) (n := 12) (by decide) (by decide) ?_
    exact hret dX8_follow_32 hw hf
  · replace hf := q_pos c5 hf
    exact hthr qt2_173 (by decide) hw hf ⟨dX8_follow_16, dX8_follow_19, Or.inl ⟨dX8_follow_20, dX8_follow_22, dX8_follow_25⟩⟩ hl.1 (Nat.le_of_ble_eq_true rfl) ⟨Nat.le_of_ble_eq_true rfl, Nat.le_of_ble_eq_true rfl⟩
theorem qyX8_pass : qY yX8_pass RX8 cX8_pass 3 (some .int) 1 := ⟨⟨kw_717, kw_718, kw_1, kw_719⟩, rfl, by decide, by decide, by decide +kernel⟩
def fX8_pass_22 (F : Nat) : Nat → Int32 → Int32 → qS → Option (Int32 × Nat × qS)
  | 0, _, _, _ => none
  | n + 1, x1, x2, σ =>
  if x1 ≤ x2 then (nm (σ.1 0 0 14) fun v5 => (some (v5, 0, σ))) else (nm (σ.1 0 0 14) fun v6 => (nm (v6 + 1) fun v7 => (nm (qI σ 0 0 14 v7) fun s8 => (bnd (fX8_lapseSessions F s8) fun s9 => (bnd (fX8_lapseLeases F s9) fun s10 => (nm (x2 + 1) fun v11 => (fX8_pass_22 F n x1 v11 s10)))))))
def fX8_pass (F : Nat) (p1 : Int32) (σ : qS) : Option (Int32 × Nat × qS) :=
  bnd2 (fX8_isWithin F p1 1 50 σ) fun v2 s1 => (if v2 = 0 then (some (0, 2, s1)) else (fX8_pass_22 F F p1 0 s1))
set_option maxRecDepth 100000 in
set_option maxHeartbeats 4000000 in
theorem wX8_pass (l : Launch) (hst : l.stackTraces = false) (D : va_G) (Y : Nat → ClassId) (ad : qAd) (B0 F : Nat) (p1 : Int32) (σ : qS) : qXi l yX8_pass cX8_pass 3 (some .int) 7 161 1 6 B0 D (cL Y) (qT Y) ad [.ref (ad 0 0), .int p1] σ (fX8_pass F p1 σ) := by
  refine q_oxi hst (by decide) (Nat.le_of_ble_eq_true rfl) ⟨by decide, by decide⟩ "Leasehall" rfl (fun p e s m below meth c A Q r0 S0 hf hw hG hAB hret hHx hthr ls hl => ?_)
  replace hl : lv_has ls 3 [(0, .ref (ad 0 0)), (1, .int p1)] := hl
  unfold fX8_pass at hf
  have b22 : ∀ (n : Nat) (x1 : Int32) (x2 : Int32) (σ : qS), fX8_pass_22 F n x1 x2 σ = some r0 → qAt p l e (qRx 7 161 1 6) s m ([.ref (ad 0 0), .int p1] : List Value).toArray below meth c Q D (cL Y) (qT Y) A ad 3 0 0 22 [(0, .ref (ad 0 0)), (1, .int x1), (2, .int x2)] [] σ := by
    clear hf hw hl ls
    intro n
    induction n with
    | zero => intro x1 x2 σ hf; exact absurd hf (by rw [fX8_pass_22]; exact nofun)
    | succ n hk22 =>
      intro x1 x2 σ hf H locs ls hw hl
      rw [fX8_pass_22] at hf
      refine lv_iload_n S0.1 S0.2.1 dX8_pass_22 rfl (lv_at hl 2 rfl) ?_
      refine lv_iload_n S0.1 S0.2.1 dX8_pass_23 rfl (lv_at hl 1 rfl) ?_
      refine lv_icmp_ge (tgt := 51) S0.1 S0.2.1 dX8_pass_24 (by decide) (fun c4 => ?_) (fun c4 => ?_)
      · replace hf := q_pos c4 hf
        refine lv_aload_n S0.1 S0.2.1 dX8_pass_51 rfl (lv_at hl 0 rfl) ?_
        refine gX8_now S0 hw kw_241 dX8_pass_52 hf (fun v5 hf => ?_)
        refine W.widen (k := 1) (n := 6) (by decide) (by decide) ?_
        exact hret dX8_pass_55 hw hf
      · replace hf := q_neg c4 hf
        refine lv_aload_n S0.1 S0.2.1 dX8_pass_27 rfl (lv_at hl 0 rfl) ?_
        refine lv_dup S0.1 S0.2.1 dX8_pass_28 rfl ?_
        refine gX8_now S0 hw kw_241 dX8_pass_29 hf (fun v6 hf => ?_)
        refine lv_iconst (v := 1) S0.1 S0.2.1 dX8_pass_32 (by decide) ?_
        refine lv_iadd S0.1 S0.2.1 dX8_pass_33 (q_top hf (fun v7 hf => ?_))
        refine pX8_now S0 hw kw_241 dX8_pass_34 hf (fun s8 H locs hw hf => ?_)
        refine lv_aload_n S0.1 S0.2.1 dX8_pass_37 rfl (lv_at hl 0 rfl) ?_
        refine q_callv S0 hw (As := []) (rest := []) (wX8_lapseSessions l D Y ad F s8) qyX8_lapseSessions kw_721 ⟨Nat.le_of_ble_eq_true rfl, Nat.le_of_ble_eq_true rfl⟩ dC_0 rfl rfl rfl rfl hl.1 (Nat.le_of_ble_eq_true rfl) dX8_pass_38 ⟨Nat.le_of_ble_eq_true rfl, Nat.le_of_ble_eq_true rfl⟩ rfl hf (fun s9 H locs hw hf => ?_)
        refine lv_aload_n S0.1 S0.2.1 dX8_pass_41 rfl (lv_at hl 0 rfl) ?_
        refine q_callv S0 hw (As := []) (rest := []) (wX8_lapseLeases l D Y ad F s9) qyX8_lapseLeases kw_725 ⟨Nat.le_of_ble_eq_true rfl, Nat.le_of_ble_eq_true rfl⟩ dC_0 rfl rfl rfl rfl hl.1 (Nat.le_of_ble_eq_true rfl) dX8_pass_42 ⟨Nat.le_of_ble_eq_true rfl, Nat.le_of_ble_eq_true rfl⟩ rfl hf (fun s10 H locs hw hf => ?_)
        refine q_iinc S0 (v0 := 1) dX8_pass_45 hl (k := 2) rfl (by decide) (by decide) rfl hf (fun v11 ls hl hf => ?_)
        refine lv_goto (tgt := 22) S0.1 S0.2.1 dX8_pass_48 (by decide) ?_
        exact hk22 x1 v11 s10 hf _ _ _ hw (lv_sub hl [1, 2, 0] rfl)
  refine lv_iload_n S0.1 S0.2.1 dX8_pass_0 rfl (lv_at hl 1 rfl) ?_
  refine lv_iconst (v := 1) S0.1 S0.2.1 dX8_pass_1 (by decide) ?_
  refine lv_bipush (v := 50) S0.1 S0.2.1 dX8_pass_2 (by decide) ?_
  refine q_scalli S0 hw (As := [.int p1, .int 1, .int 50]) (rest := []) (wX8_isWithin l D Y ad F p1 1 50 σ) qsX8_isWithin kw_296 ⟨Nat.le_of_ble_eq_true rfl, Nat.le_of_ble_eq_true rfl⟩ rfl hl.1 (Nat.le_of_ble_eq_true rfl) dX8_pass_4 ⟨Nat.le_of_ble_eq_true rfl, Nat.le_of_ble_eq_true rfl⟩ rfl hf (fun v2 s1 H locs hw hf => ?_)
  refine lv_if_ne (tgt := 20) S0.1 S0.2.1 dX8_pass_7 (by decide) (fun c3 => ?_) (fun c3 => ?_)
  · replace hf := q_neg c3 hf
    refine lv_iconst (v := 0) S0.1 S0.2.1 dX8_pass_20 (by decide) ?_
    refine lv_istore_n (lv' := [(2, .int 0), (0, .ref (ad 0 0)), (1, .int p1)]) S0.1 S0.2.1 dX8_pass_21 rfl hl (by decide) rfl (fun ls hl => ?_)
    exact b22 F p1 0 s1 hf _ _ _ hw (lv_sub hl [1, 2, 0] rfl)
  · replace hf := q_pos c3 hf
    exact hthr qt2_175 (by decide) hw hf ⟨dX8_pass_10, dX8_pass_13, Or.inl ⟨dX8_pass_14, dX8_pass_16, dX8_pass_19⟩⟩ hl.1 (Nat.le_of_ble_eq_true rfl) ⟨Nat.le_of_ble_eq_true rfl, Nat.le_of_ble_eq_true rfl⟩
theorem qyX8_knownLease : qY yX8_knownLease RX8 cX8_knownLease 2 (some (.object "Leasehall$Lease")) 1 := ⟨⟨kw_765, kp_20, kw_1, kw_766⟩, rfl, by decide, by decide, by decide +kernel⟩
def fX8_knownLease_15 (F : Nat) (σ : qS) : Option (Nat × Nat × qS) :=
  some (0, 1, σ)
def fX8_knownLease (F : Nat) (p1 : Int32) (σ : qS) : Option (Nat × Nat × qS) :=
  if p1 < 0 then (fX8_knownLease_15 F σ) else (nm (nI (σ.2 1 0)) fun v2 => (if p1 < v2 then (gnl (σ.2 1 0) 11 (inx (σ.2 1 0) p1 (nm p1.toNatClampNeg fun i4 => (gnl i4 (σ.2 1 0) (some (i4, 0, σ)))))) else (fX8_knownLease_15 F σ)))
set_option maxRecDepth 100000 in
set_option maxHeartbeats 4000000 in
theorem wX8_knownLease (l : Launch) (hst : l.stackTraces = false) (D : va_G) (Y : Nat → ClassId) (ad : qAd) (B0 F : Nat) (p1 : Int32) (σ : qS) : qXr l yX8_knownLease cX8_knownLease 2 (some (.object "Leasehall$Lease")) 6 90 1 6 57 B0 D (cL Y) (qT Y) ad [.ref (ad 0 0), .int p1] σ (fX8_knownLease F p1 σ) := by
  refine q_oxr hst (by decide) (Nat.le_of_ble_eq_true rfl) ⟨by decide, by decide⟩ "Leasehall" rfl (fun p e s m below meth c A Q r0 S0 hf hw hG hAB hret hHx hthr ls hl => ?_)
  replace hl : lv_has ls 2 [(0, .ref (ad 0 0)), (1, .int p1)] := hl
  unfold fX8_knownLease at hf
  have b15 : ∀ (σ : qS), fX8_knownLease_15 F σ = some r0 → qAt p l e (qRx 6 90 1 6) s m ([.ref (ad 0 0), .int p1] : List Value).toArray below meth c Q D (cL Y) (qT Y) A ad 2 0 0 15 [] [] σ := by
    clear hf hw hl ls
    intro σ hf H locs ls hw hl
    unfold fX8_knownLease_15 at hf
    exact hthr qt1_398 (by decide) hw hf ⟨dX8_knownLease_15, dX8_knownLease_18, Or.inr ⟨dX8_knownLease_19, dX8_knownLease_22, dX8_knownLease_25⟩⟩ hl.1 (Nat.le_of_ble_eq_true rfl) ⟨Nat.le_of_ble_eq_true rfl, Nat.le_of_ble_eq_true rfl⟩
  refine lv_iload_n S0.1 S0.2.1 dX8_knownLease_0 rfl (lv_at hl 1 rfl) ?_
  refine lv_if_lt (tgt := 15) S0.1 S0.2.1 dX8_knownLease_1 (by decide) (fun c1 => ?_) (fun c1 => ?_)
  · replace hf := q_pos c1 hf
    exact b15 σ hf _ _ _ hw (lv_sub hl [] rfl)
  · replace hf := q_neg c1 hf
    refine lv_iload_n S0.1 S0.2.1 dX8_knownLease_4 rfl (lv_at hl 1 rfl) ?_
    refine lv_aload_n S0.1 S0.2.1 dX8_knownLease_5 rfl (lv_at hl 0 rfl) ?_
    refine gX8_leases S0 hw kw_235 dX8_knownLease_6 ?_
    refine q_lsize S0 hw (k := 18) dC_18 rfl kw_423 ⟨Nat.le_of_ble_eq_true rfl, Nat.le_of_ble_eq_true rfl⟩ hl.1 (Nat.le_of_ble_eq_true rfl) dX8_knownLease_9 ⟨Nat.le_of_ble_eq_true rfl, Nat.le_of_ble_eq_true rfl⟩ hf (fun v2 H locs hw hf => ?_)
    refine lv_icmp_lt (tgt := 26) S0.1 S0.2.1 dX8_knownLease_12 (by decide) (fun c3 => ?_) (fun c3 => ?_)
    · replace hf := q_pos c3 hf
      refine lv_aload_n S0.1 S0.2.1 dX8_knownLease_26 rfl (lv_at hl 0 rfl) ?_
      refine gX8_leases S0 hw kw_235 dX8_knownLease_27 ?_
      refine lv_iload_n S0.1 S0.2.1 dX8_knownLease_30 rfl (lv_at hl 1 rfl) ?_
      obtain ⟨hd, hf⟩ := gnl_some hf
      refine q_lget S0 hw (k := 18) (k2 := 19) (kr := 57) (t0 := 4) dC_18 rfl (by omega) (Nat.le_of_lt_succ hd) dC19 rfl rfl (fun _ h => if_pos h) kw_604 ⟨Nat.le_of_ble_eq_true rfl, Nat.le_of_ble_eq_true rfl⟩ hl.1 (Nat.le_of_ble_eq_true rfl) dX8_knownLease_31 ⟨Nat.le_of_ble_eq_true rfl, Nat.le_of_ble_eq_true rfl⟩ hf (fun i4 H locs hw hf => ?_)
      obtain ⟨hd, hf⟩ := gnl_some hf
      refine q_cast (k := 57) (i := i4) S0 hw hd rfl rfl kw_729 dX8_knownLease_34 ?_
      refine W.widen (k := 1) (n := 6) (by decide) (by decide) ?_
      exact hret dX8_knownLease_37 hw hf
    · replace hf := q_neg c3 hf
      exact b15 σ hf _ _ _ hw (lv_sub hl [] rfl)
theorem qyX8_renew : qY yX8_renew RX8 cX8_renew 3 (some .int) 1 := ⟨⟨kw_760, kw_761, kw_1, kw_762⟩, rfl, by decide, by decide, by decide +kernel⟩
def fX8_renew (F : Nat) (p1 : Int32) (σ : qS) : Option (Int32 × Nat × qS) :=
  bnd3 (fX8_knownLease F p1 σ) (fun i2 s1 => gnl i2 (s1.2 1 0) (nm (s1.1 57 i2 2) fun v3 => (if v3 = 0 then (nm (s1.1 0 0 14) fun v5 => (gnl i2 (s1.2 1 0) (nm (s1.1 57 i2 0) fun v6 => (nm (v5 + v6) fun v7 => (gnl i2 (s1.2 1 0) (nm (qI s1 57 i2 1 v7) fun s8 => (gnl i2 (s8.2 1 0) (nm (s8.1 57 i2 1) fun v9 => (some (v9, 0, s8)))))))))) else (some (0, 3, s1))))) (fun e s => some (0, e, s))
set_option maxRecDepth 100000 in
set_option maxHeartbeats 4000000 in
theorem wX8_renew (l : Launch) (hst : l.stackTraces = false) (D : va_G) (Y : Nat → ClassId) (ad : qAd) (B0 F : Nat) (p1 : Int32) (σ : qS) : qXi l yX8_renew cX8_renew 3 (some .int) 7 111 2 12 B0 D (cL Y) (qT Y) ad [.ref (ad 0 0), .int p1] σ (fX8_renew F p1 σ) := by
  refine q_oxi hst (by decide) (Nat.le_of_ble_eq_true rfl) ⟨by decide, by decide⟩ "Leasehall" rfl (fun p e s m below meth c A Q r0 S0 hf hw hG hAB hret hHx hthr ls hl => ?_)
  replace hl : lv_has ls 3 [(0, .ref (ad 0 0)), (1, .int p1)] := hl
  unfold fX8_renew at hf
  refine lv_aload_n S0.1 S0.2.1 dX8_renew_0 rfl (lv_at hl 0 rfl) ?_
  refine lv_iload_n S0.1 S0.2.1 dX8_renew_1 rfl (lv_at hl 1 rfl) ?_
  refine q_xcallr S0 hG hAB hw (As := [.int p1]) (rest := []) (wX8_knownLease l hst D Y ad B0 F p1 σ) qyX8_knownLease kw_763 ⟨Nat.le_of_ble_eq_true rfl, Nat.le_of_ble_eq_true rfl⟩ dC_0 rfl rfl rfl rfl hl.1 (Nat.le_of_ble_eq_true rfl) dX8_renew_2 ⟨Nat.le_of_ble_eq_true rfl, Nat.le_of_ble_eq_true rfl⟩ rfl hf (fun ex ce q9 s9 H locs hw hf hne hce hcv hcl => hHx hw hf hne hce hcv hcl (Nat.le_of_ble_eq_true rfl) (Nat.le_of_ble_eq_true rfl)) (fun i2 s1 H locs hw hf => ?_)
  refine lv_astore_n (lv' := [(2, .ref (ad 57 i2)), (0, .ref (ad 0 0)), (1, .int p1)]) S0.1 S0.2.1 dX8_renew_5 rfl hl (by decide) rfl (fun ls hl => ?_)
  refine lv_aload_n S0.1 S0.2.1 dX8_renew_6 rfl (lv_at hl 0 rfl) ?_
  obtain ⟨hd, hf⟩ := gnl_some hf
  refine gX2_ended S0 hw hd kw_748 dX8_renew_7 hf (fun v3 hf => ?_)
  refine lv_if_eq (tgt := 23) S0.1 S0.2.1 dX8_renew_10 (by decide) (fun c4 => ?_) (fun c4 => ?_)
  · replace hf := q_pos c4 hf
    refine lv_aload_n S0.1 S0.2.1 dX8_renew_23 rfl (lv_at hl 0 rfl) ?_
    refine lv_aload_n S0.1 S0.2.1 dX8_renew_24 rfl (lv_at hl 1 rfl) ?_
    refine gX8_now S0 hw kw_241 dX8_renew_25 hf (fun v5 hf => ?_)
    refine lv_aload_n S0.1 S0.2.1 dX8_renew_28 rfl (lv_at hl 0 rfl) ?_
    obtain ⟨hd, hf⟩ := gnl_some hf
    refine gX2_time S0 hw hd kw_744 dX8_renew_29 hf (fun v6 hf => ?_)
    refine lv_iadd S0.1 S0.2.1 dX8_renew_32 (q_top hf (fun v7 hf => ?_))
    obtain ⟨hd, hf⟩ := gnl_some hf
    refine pX2_until S0 hw hd kw_746 dX8_renew_33 hf (fun s8 H locs hw hf => ?_)
    refine lv_aload_n S0.1 S0.2.1 dX8_renew_36 rfl (lv_at hl 0 rfl) ?_
    obtain ⟨hd, hf⟩ := gnl_some hf
    refine gX2_until S0 hw hd kw_746 dX8_renew_37 hf (fun v9 hf => ?_)
    refine W.widen (k := 2) (n := 12) (by decide) (by decide) ?_
    exact hret dX8_renew_40 hw hf
  · replace hf := q_neg c4 hf
    exact hthr qt3_197 (by decide) hw hf ⟨dX8_renew_13, dX8_renew_16, Or.inl ⟨dX8_renew_17, dX8_renew_19, dX8_renew_22⟩⟩ hl.1 (Nat.le_of_ble_eq_true rfl) ⟨Nat.le_of_ble_eq_true rfl, Nat.le_of_ble_eq_true rfl⟩
theorem qsX8_mustBeName : qYs yX8_mustBeName cX8_mustBeName 2 none 2 := ⟨⟨kw_777, kw_1, kw_778⟩, by decide, by decide, by decide +kernel⟩
def fX8_mustBeName_25 (F : Nat) (σ : qS) : Option (Int32 × Nat × qS) :=
  some (0, 0, σ)
def fX8_mustBeName (F : Nat) (p1 : Int32) (p2 : Int32) (σ : qS) : Option (Int32 × Nat × qS) :=
  if p2 = 0 then (bnd2 (fX8_isWithin F p1 0 99 σ) fun v3 s2 => (if v3 = 0 then (some (0, 2, s2)) else (fX8_mustBeName_25 F s2))) else (fX8_mustBeName_25 F σ)
set_option maxRecDepth 100000 in
set_option maxHeartbeats 4000000 in
theorem wX8_mustBeName (l : Launch) (hst : l.stackTraces = false) (D : va_G) (Y : Nat → ClassId) (ad : qAd) (B0 F : Nat) (p1 : Int32) (p2 : Int32) (σ : qS) : qXv l yX8_mustBeName cX8_mustBeName 2 none 6 90 1 6 B0 D (cL Y) (qT Y) ad [.int p1, .int p2] σ (fX8_mustBeName F p1 p2 σ) := by
  refine q_oxv hst (by decide) (Nat.le_of_ble_eq_true rfl) ⟨by decide, by decide⟩ "Leasehall" rfl (fun p e s m below meth c A Q r0 S0 hf hw hG hAB hret hHx hthr ls hl => ?_)
  replace hl : lv_has ls 2 [(0, .int p1), (1, .int p2)] := hl
  unfold fX8_mustBeName at hf
  have b25 : ∀ (σ : qS), fX8_mustBeName_25 F σ = some r0 → qAt p l e (qRx 6 90 1 6) s m ([.int p1, .int p2] : List Value).toArray below meth c Q D (cL Y) (qT Y) A ad 2 0 0 25 [] [] σ := by
    clear hf hw hl ls
    intro σ hf H locs ls hw hl
    unfold fX8_mustBeName_25 at hf
    refine W.widen (k := 1) (n := 6) (by decide) (by decide) ?_
    exact hret dX8_mustBeName_25 hw hf
  refine lv_iload_n S0.1 S0.2.1 dX8_mustBeName_0 rfl (lv_at hl 1 rfl) ?_
  refine lv_if_ne (tgt := 25) S0.1 S0.2.1 dX8_mustBeName_1 (by decide) (fun c1 => ?_) (fun c1 => ?_)
  · replace hf := q_neg c1 hf
    exact b25 σ hf _ _ _ hw (lv_sub hl [] rfl)
  · replace hf := q_pos c1 hf
    refine lv_iload_n S0.1 S0.2.1 dX8_mustBeName_4 rfl (lv_at hl 0 rfl) ?_
    refine lv_iconst (v := 0) S0.1 S0.2.1 dX8_mustBeName_5 (by decide) ?_
    refine lv_bipush (v := 99) S0.1 S0.2.1 dX8_mustBeName_6 (by decide) ?_
    refine q_scalli S0 hw (As := [.int p1, .int 0, .int 99]) (rest := []) (wX8_isWithin l D Y ad F p1 0 99 σ) qsX8_isWithin kw_296 ⟨Nat.le_of_ble_eq_true rfl, Nat.le_of_ble_eq_true rfl⟩ rfl hl.1 (Nat.le_of_ble_eq_true rfl) dX8_mustBeName_8 ⟨Nat.le_of_ble_eq_true rfl, Nat.le_of_ble_eq_true rfl⟩ rfl hf (fun v3 s2 H locs hw hf => ?_)
    refine lv_if_ne (tgt := 25) S0.1 S0.2.1 dX8_mustBeName_11 (by decide) (fun c4 => ?_) (fun c4 => ?_)
    · replace hf := q_neg c4 hf
      exact b25 s2 hf _ _ _ hw (lv_sub hl [] rfl)
    · replace hf := q_pos c4 hf
      exact hthr qt2_404 (by decide) hw hf ⟨dX8_mustBeName_14, dX8_mustBeName_17, Or.inr ⟨dX8_mustBeName_18, dX8_mustBeName_21, dX8_mustBeName_24⟩⟩ hl.1 (Nat.le_of_ble_eq_true rfl) ⟨Nat.le_of_ble_eq_true rfl, Nat.le_of_ble_eq_true rfl⟩
theorem qsX8_mustBeValue : qYs yX8_mustBeValue cX8_mustBeValue 1 none 1 := ⟨⟨kw_781, kw_1, kw_782⟩, by decide, by decide, by decide +kernel⟩
def fX8_mustBeValue (F : Nat) (p1 : Int32) (σ : qS) : Option (Int32 × Nat × qS) :=
  bnd2 (fX8_isWithin F p1 ((-1000)) 1000 σ) fun v2 s1 => (if v2 = 0 then (some (0, 2, s1)) else (some (0, 0, s1)))
set_option maxRecDepth 100000 in
set_option maxHeartbeats 4000000 in
theorem wX8_mustBeValue (l : Launch) (hst : l.stackTraces = false) (D : va_G) (Y : Nat → ClassId) (ad : qAd) (B0 F : Nat) (p1 : Int32) (σ : qS) : qXv l yX8_mustBeValue cX8_mustBeValue 1 none 6 90 1 6 B0 D (cL Y) (qT Y) ad [.int p1] σ (fX8_mustBeValue F p1 σ) := by
  refine q_oxv hst (by decide) (Nat.le_of_ble_eq_true rfl) ⟨by decide, by decide⟩ "Leasehall" rfl (fun p e s m below meth c A Q r0 S0 hf hw hG hAB hret hHx hthr ls hl => ?_)
  replace hl : lv_has ls 1 [(0, .int p1)] := hl
  unfold fX8_mustBeValue at hf
  refine lv_iload_n S0.1 S0.2.1 dX8_mustBeValue_0 rfl (lv_at hl 0 rfl) ?_
  refine lv_sipush (v := (-1000)) S0.1 S0.2.1 dX8_mustBeValue_1 (by decide) ?_
  refine lv_sipush (v := 1000) S0.1 S0.2.1 dX8_mustBeValue_4 (by decide) ?_
  refine q_scalli S0 hw (As := [.int p1, .int ((-1000)), .int 1000]) (rest := []) (wX8_isWithin l D Y ad F p1 ((-1000)) 1000 σ) qsX8_isWithin kw_296 ⟨Nat.le_of_ble_eq_true rfl, Nat.le_of_ble_eq_true rfl⟩ rfl hl.1 (Nat.le_of_ble_eq_true rfl) dX8_mustBeValue_7 ⟨Nat.le_of_ble_eq_true rfl, Nat.le_of_ble_eq_true rfl⟩ rfl hf (fun v2 s1 H locs hw hf => ?_)
  refine lv_if_ne (tgt := 24) S0.1 S0.2.1 dX8_mustBeValue_10 (by decide) (fun c3 => ?_) (fun c3 => ?_)
  · replace hf := q_neg c3 hf
    refine W.widen (k := 1) (n := 6) (by decide) (by decide) ?_
    exact hret dX8_mustBeValue_24 hw hf
  · replace hf := q_pos c3 hf
    exact hthr qt2_406 (by decide) hw hf ⟨dX8_mustBeValue_13, dX8_mustBeValue_16, Or.inr ⟨dX8_mustBeValue_17, dX8_mustBeValue_20, dX8_mustBeValue_23⟩⟩ hl.1 (Nat.le_of_ble_eq_true rfl) ⟨Nat.le_of_ble_eq_true rfl, Nat.le_of_ble_eq_true rfl⟩
theorem qyX8_nextAct : qY yX8_nextAct RX8 cX8_nextAct 2 (some (.object "Leasehall$Act")) 1 := ⟨⟨kw_787, kp_21, kw_1, kw_788⟩, rfl, by decide, by decide, by decide +kernel⟩
def fX8_nextAct_63 (F : Nat) (i1 : Nat) (rt0 : Nat) (σ : qS) : Option (Nat × Nat × qS) :=
  some (rt0, 0, σ)
def fX8_nextAct_32 (F : Nat) (i1 : Nat) (σ : qS) : Option (Nat × Nat × qS) :=
  nm (σ.1 0 0 14) fun v4 => (gnl i1 (σ.2 0 0) (nm (qI σ 50 i1 9 v4) fun s5 => (gnl i1 (s5.2 0 0) (nm (s5.1 50 i1 14) fun v6 => (if v6 = 0 then (fX8_nextAct_63 F i1 0 s5) else (gnl i1 (s5.2 0 0) (gnl i1 (s5.2 0 0) (nm (s5.1 50 i1 12) fun v8 => (gnl i1 (s5.2 0 0) (inx 6 v8 (nm v8.toNatClampNeg fun i9 => (fX8_nextAct_63 F i1 (1 + 6 * i1 + i9) s5))))))))))))
def fX8_nextAct (F : Nat) (i1 : Nat) (σ : qS) : Option (Nat × Nat × qS) :=
  bnd3 (fX8_mustLive F i1 σ) (fun _ s1 => gnl i1 (s1.2 0 0) (nm (s1.1 50 i1 14) fun v2 => (if v2 = 0 then (fX8_nextAct_32 F i1 s1) else (gnl i1 (s1.2 0 0) (nm (s1.1 50 i1 12) fun v10 => (if v10 < 6 then (fX8_nextAct_32 F i1 s1) else (some (0, 3, s1)))))))) (fun e s => some (0, e, s))
set_option maxRecDepth 100000 in
set_option maxHeartbeats 4000000 in
theorem wX8_nextAct (l : Launch) (hst : l.stackTraces = false) (D : va_G) (Y : Nat → ClassId) (ad : qAd) (B0 F : Nat) (i1 : Nat) (σ : qS) : qXr l yX8_nextAct cX8_nextAct 2 (some (.object "Leasehall$Act")) 7 111 2 12 56 B0 D (cL Y) (qT Y) ad [.ref (ad 0 0), .ref (ad 50 i1)] σ (fX8_nextAct F i1 σ) := by
  refine q_oxr hst (by decide) (Nat.le_of_ble_eq_true rfl) ⟨by decide, by decide⟩ "Leasehall" rfl (fun p e s m below meth c A Q r0 S0 hf hw hG hAB hret hHx hthr ls hl => ?_)
  replace hl : lv_has ls 2 [(0, .ref (ad 0 0)), (1, .ref (ad 50 i1))] := hl
  unfold fX8_nextAct at hf
  have b63 : ∀ (rt0 : Nat) (σ : qS), fX8_nextAct_63 F i1 rt0 σ = some r0 → qAt p l e (qRx 7 111 2 12) s m ([.ref (ad 0 0), .ref (ad 50 i1)] : List Value).toArray below meth c Q D (cL Y) (qT Y) A ad 2 1 6 63 [] [.ref (ad 56 rt0)] σ := by
    clear hf hw hl ls
    intro rt0 σ hf H locs ls hw hl
    unfold fX8_nextAct_63 at hf
    refine W.widen (k := 2) (n := 12) (by decide) (by decide) ?_
    exact hret dX8_nextAct_63 hw hf
  have b32 : ∀ (σ : qS), fX8_nextAct_32 F i1 σ = some r0 → qAt p l e (qRx 7 111 2 12) s m ([.ref (ad 0 0), .ref (ad 50 i1)] : List Value).toArray below meth c Q D (cL Y) (qT Y) A ad 2 1 6 32 [(0, .ref (ad 0 0)), (1, .ref (ad 50 i1))] [] σ := by
    clear hf hw hl ls
    intro σ hf H locs ls hw hl
    unfold fX8_nextAct_32 at hf
    refine lv_aload_n S0.1 S0.2.1 dX8_nextAct_32 rfl (lv_at hl 1 rfl) ?_
    refine lv_aload_n S0.1 S0.2.1 dX8_nextAct_33 rfl (lv_at hl 0 rfl) ?_
    refine gX8_now S0 hw kw_241 dX8_nextAct_34 hf (fun v4 hf => ?_)
    obtain ⟨hd, hf⟩ := gnl_some hf
    refine pX6_last S0 hw hd kw_485 dX8_nextAct_37 hf (fun s5 H locs hw hf => ?_)
    refine lv_aload_n S0.1 S0.2.1 dX8_nextAct_40 rfl (lv_at hl 1 rfl) ?_
    obtain ⟨hd, hf⟩ := gnl_some hf
    refine gX6_gathers S0 hw hd kw_495 dX8_nextAct_41 hf (fun v6 hf => ?_)
    refine lv_if_eq (tgt := 59) S0.1 S0.2.1 dX8_nextAct_44 (by decide) (fun c7 => ?_) (fun c7 => ?_)
    · replace hf := q_pos c7 hf
      refine lv_aload_n S0.1 S0.2.1 dX8_nextAct_59 rfl (lv_at hl 0 rfl) ?_
      refine gX8_loneAct S0 hw kw_236 dX8_nextAct_60 ?_
      exact b63 0 s5 hf _ _ _ hw (lv_sub hl [] rfl)
    · replace hf := q_neg c7 hf
      refine lv_aload_n S0.1 S0.2.1 dX8_nextAct_47 rfl (lv_at hl 1 rfl) ?_
      obtain ⟨hd, hf⟩ := gnl_some hf
      refine gX6_acts S0 hw hd kw_475 dX8_nextAct_48 ?_
      refine lv_aload_n S0.1 S0.2.1 dX8_nextAct_51 rfl (lv_at hl 1 rfl) ?_
      obtain ⟨hd, hf⟩ := gnl_some hf
      refine gX6_gathered S0 hw hd kw_491 dX8_nextAct_52 hf (fun v8 hf => ?_)
      obtain ⟨hd, hf⟩ := gnl_some hf
      refine q_aldn (k := 51) (i := i1) S0 hw hd (t0 := 2) rfl rfl (fun _ => rfl) dX8_nextAct_55 hf (fun i9 hf => ?_)
      refine lv_goto (tgt := 63) S0.1 S0.2.1 dX8_nextAct_56 (by decide) ?_
      exact b63 (1 + 6 * i1 + i9) s5 hf _ _ _ hw (lv_sub hl [] rfl)
  refine lv_aload_n S0.1 S0.2.1 dX8_nextAct_0 rfl (lv_at hl 0 rfl) ?_
  refine lv_aload_n S0.1 S0.2.1 dX8_nextAct_1 rfl (lv_at hl 1 rfl) ?_
  refine q_xcallv S0 hG hAB hw (As := [.ref (ad 50 i1)]) (rest := []) (wX8_mustLive l hst D Y ad B0 F i1 σ) qyX8_mustLive kw_618 ⟨Nat.le_of_ble_eq_true rfl, Nat.le_of_ble_eq_true rfl⟩ dC_0 rfl rfl rfl rfl hl.1 (Nat.le_of_ble_eq_true rfl) dX8_nextAct_2 ⟨Nat.le_of_ble_eq_true rfl, Nat.le_of_ble_eq_true rfl⟩ rfl hf (fun ex ce q9 s9 H locs hw hf hne hce hcv hcl => hHx hw hf hne hce hcv hcl (Nat.le_of_ble_eq_true rfl) (Nat.le_of_ble_eq_true rfl)) (fun _ s1 H locs hw hf => ?_)
  refine lv_aload_n S0.1 S0.2.1 dX8_nextAct_5 rfl (lv_at hl 1 rfl) ?_
  obtain ⟨hd, hf⟩ := gnl_some hf
  refine gX6_gathers S0 hw hd kw_495 dX8_nextAct_6 hf (fun v2 hf => ?_)
  refine lv_if_eq (tgt := 32) S0.1 S0.2.1 dX8_nextAct_9 (by decide) (fun c3 => ?_) (fun c3 => ?_)
  · replace hf := q_pos c3 hf
    exact b32 s1 hf _ _ _ hw (lv_sub hl [0, 1] rfl)
  · replace hf := q_neg c3 hf
    refine lv_aload_n S0.1 S0.2.1 dX8_nextAct_12 rfl (lv_at hl 1 rfl) ?_
    obtain ⟨hd, hf⟩ := gnl_some hf
    refine gX6_gathered S0 hw hd kw_491 dX8_nextAct_13 hf (fun v10 hf => ?_)
    refine lv_bipush (v := 6) S0.1 S0.2.1 dX8_nextAct_16 (by decide) ?_
    refine lv_icmp_lt (tgt := 32) S0.1 S0.2.1 dX8_nextAct_18 (by decide) (fun c11 => ?_) (fun c11 => ?_)
    · replace hf := q_pos c11 hf
      exact b32 s1 hf _ _ _ hw (lv_sub hl [0, 1] rfl)
    · replace hf := q_neg c11 hf
      exact hthr qt3_412 (by decide) hw hf ⟨dX8_nextAct_21, dX8_nextAct_24, Or.inr ⟨dX8_nextAct_25, dX8_nextAct_28, dX8_nextAct_31⟩⟩ hl.1 (Nat.le_of_ble_eq_true rfl) ⟨Nat.le_of_ble_eq_true rfl, Nat.le_of_ble_eq_true rfl⟩
theorem qyX8_make : qY yX8_make RX8 cX8_make 11 (some .int) 7 := ⟨⟨kw_773, kw_774, kw_1, kw_775⟩, rfl, by decide, by decide, by decide +kernel⟩
def fX8_make_129 (F : Nat) (rx8 : Nat) (rx10 : Nat) (rt0 : Nat) (t1 : Int32) (σ : qS) : Option (Int32 × Nat × qS) :=
  gnl rt0 (1 + 6 * σ.2 0 0) (nm (qI σ 56 rt0 6 t1) fun s15 => (bnd2 (fX8_submit F rx8 rx10 s15) fun v17 s16 => (some (v17, 0, s16))))
def fX8_make_108 (F : Nat) (x1 : Int32) (x5 : Int32) (x6 : Int32) (x7 : Int32) (rx8 : Nat) (rx10 : Nat) (rt0 : Nat) (t1 : Int32) (t2 : Int32) (σ : qS) : Option (Int32 × Nat × qS) :=
  gnl rt0 (1 + 6 * σ.2 0 0) (bnd (fX0_toMake F rt0 t1 t2 x5 x6 σ) fun s13 => (if x6 = 2 then (fX8_make_129 F rx8 rx10 rx10 x7 s13) else (fX8_make_129 F rx8 rx10 rx10 x1 s13)))
def fX8_make_85 (F : Nat) (x1 : Int32) (x2 : Int32) (x3 : Int32) (x4 : Int32) (x5 : Int32) (x6 : Int32) (x7 : Int32) (rx8 : Nat) (σ : qS) : Option (Int32 × Nat × qS) :=
  bnd3 (fX8_nextAct F rx8 σ) (fun i11 s10 => if x4 = 0 then (fX8_make_108 F x1 x5 x6 x7 rx8 i11 i11 x2 x3 s10) else (fX8_make_108 F x1 x5 x6 x7 rx8 i11 i11 x2 1000 s10)) (fun e s => some (0, e, s))
def fX8_make (F : Nat) (p1 : Int32) (p2 : Int32) (p3 : Int32) (p4 : Int32) (p5 : Int32) (p6 : Int32) (p7 : Int32) (σ : qS) : Option (Int32 × Nat × qS) :=
  bnd3 (fX8_known F p1 σ) (fun i2 s1 => bnd3 (fX8_mustBeName F p3 p4 s1) (fun _ s3 => bnd3 (fX8_mustBeValue F p5 s3) (fun _ s4 => bnd2 (fX8_isWithin F p6 0 3 s4) fun v6 s5 => (if v6 = 0 then (some (0, 2, s5)) else (if p6 = 2 then (bnd3 (fX8_knownLease F p7 s5) (fun i19 s18 => bnd3 (fX8_mustLive F i2 s18) (fun _ s20 => gnl i19 (s20.2 1 0) (nm (s20.1 57 i19 2) fun v21 => (if v21 = 0 then (fX8_make_85 F p1 p2 p3 p4 p5 p6 p7 i2 s20) else (some (0, 3, s20))))) (fun e s => some (0, e, s))) (fun e s => some (0, e, s))) else (bnd3 (fX8_mustLive F i2 s5) (fun _ s9 => fX8_make_85 F p1 p2 p3 p4 p5 p6 p7 i2 s9) (fun e s => some (0, e, s)))))) (fun e s => some (0, e, s))) (fun e s => some (0, e, s))) (fun e s => some (0, e, s))
set_option maxRecDepth 100000 in
set_option maxHeartbeats 4000000 in
theorem wX8_make (l : Launch) (hst : l.stackTraces = false) (D : va_G) (Y : Nat → ClassId) (ad : qAd) (B0 F : Nat) (p1 : Int32) (p2 : Int32) (p3 : Int32) (p4 : Int32) (p5 : Int32) (p6 : Int32) (p7 : Int32) (σ : qS) : qXi l yX8_make cX8_make 11 (some .int) 8 162 7 42 B0 D (cL Y) (qT Y) ad [.ref (ad 0 0), .int p1, .int p2, .int p3, .int p4, .int p5, .int p6, .int p7] σ (fX8_make F p1 p2 p3 p4 p5 p6 p7 σ) := by
  refine q_oxi hst (by decide) (Nat.le_of_ble_eq_true rfl) ⟨by decide, by decide⟩ "Leasehall" rfl (fun p e s m below meth c A Q r0 S0 hf hw hG hAB hret hHx hthr ls hl => ?_)
  replace hl : lv_has ls 11 [(0, .ref (ad 0 0)), (1, .int p1), (2, .int p2), (3, .int p3), (4, .int p4), (5, .int p5), (6, .int p6), (7, .int p7)] := hl
  unfold fX8_make at hf
  have b129 : ∀ (rx8 : Nat) (rx10 : Nat) (rt0 : Nat) (t1 : Int32) (σ : qS), fX8_make_129 F rx8 rx10 rt0 t1 σ = some r0 → qAt p l e (qRx 8 162 7 42) s m ([.ref (ad 0 0), .int p1, .int p2, .int p3, .int p4, .int p5, .int p6, .int p7] : List Value).toArray below meth c Q D (cL Y) (qT Y) A ad 11 7 42 129 [(0, .ref (ad 0 0)), (8, .ref (ad 50 rx8)), (10, .ref (ad 56 rx10))] [.int t1, .ref (ad 56 rt0)] σ := by
    clear hf hw hl ls
    intro rx8 rx10 rt0 t1 σ hf H locs ls hw hl
    unfold fX8_make_129 at hf
    obtain ⟨hd, hf⟩ := gnl_some hf
    refine pX0_holder S0 hw hd kw_189 dX8_make_129 hf (fun s15 H locs hw hf => ?_)
    refine lv_aload_n S0.1 S0.2.1 dX8_make_132 rfl (lv_at hl 0 rfl) ?_
    refine lv_aload S0.1 S0.2.1 dX8_make_133 (lv_at hl 1 rfl) ?_
    refine lv_aload S0.1 S0.2.1 dX8_make_135 (lv_at hl 2 rfl) ?_
    refine q_calli S0 hw (As := [.ref (ad 50 rx8), .ref (ad 56 rx10)]) (rest := []) (wX8_submit l D Y ad F rx8 rx10 s15) qyX8_submit kw_798 ⟨Nat.le_of_ble_eq_true rfl, Nat.le_of_ble_eq_true rfl⟩ dC_0 rfl rfl rfl rfl hl.1 (Nat.le_of_ble_eq_true rfl) dX8_make_137 ⟨Nat.le_of_ble_eq_true rfl, Nat.le_of_ble_eq_true rfl⟩ rfl hf (fun v17 s16 H locs hw hf => ?_)
    exact hret dX8_make_140 hw hf
  have b108 : ∀ (x1 : Int32) (x5 : Int32) (x6 : Int32) (x7 : Int32) (rx8 : Nat) (rx10 : Nat) (rt0 : Nat) (t1 : Int32) (t2 : Int32) (σ : qS), fX8_make_108 F x1 x5 x6 x7 rx8 rx10 rt0 t1 t2 σ = some r0 → qAt p l e (qRx 8 162 7 42) s m ([.ref (ad 0 0), .int p1, .int p2, .int p3, .int p4, .int p5, .int p6, .int p7] : List Value).toArray below meth c Q D (cL Y) (qT Y) A ad 11 7 42 108 [(0, .ref (ad 0 0)), (1, .int x1), (5, .int x5), (6, .int x6), (7, .int x7), (8, .ref (ad 50 rx8)), (10, .ref (ad 56 rx10))] [.int t2, .int t1, .ref (ad 56 rt0)] σ := by
    clear hf hw hl ls
    intro x1 x5 x6 x7 rx8 rx10 rt0 t1 t2 σ hf H locs ls hw hl
    unfold fX8_make_108 at hf
    refine lv_iload S0.1 S0.2.1 dX8_make_108 (lv_at hl 2 rfl) ?_
    refine lv_iload S0.1 S0.2.1 dX8_make_110 (lv_at hl 3 rfl) ?_
    obtain ⟨hd, hf⟩ := gnl_some hf
    refine q_callv (k := 56) (i := rt0) S0 hw (As := [.int t1, .int t2, .int x5, .int x6]) (rest := []) (wX0_toMake l D Y ad F rt0 t1 t2 x5 x6 σ) qyX0_toMake kw_790 ⟨Nat.le_of_ble_eq_true rfl, Nat.le_of_ble_eq_true rfl⟩ hd rfl rfl rfl rfl hl.1 (Nat.le_of_ble_eq_true rfl) dX8_make_112 ⟨Nat.le_of_ble_eq_true rfl, Nat.le_of_ble_eq_true rfl⟩ rfl hf (fun s13 H locs hw hf => ?_)
    refine lv_aload S0.1 S0.2.1 dX8_make_115 (lv_at hl 6 rfl) ?_
    refine lv_iload S0.1 S0.2.1 dX8_make_117 (lv_at hl 3 rfl) ?_
    refine lv_iconst (v := 2) S0.1 S0.2.1 dX8_make_119 (by decide) ?_
    refine lv_icmp_ne (tgt := 128) S0.1 S0.2.1 dX8_make_120 (by decide) (fun c14 => ?_) (fun c14 => ?_)
    · replace hf := q_neg c14 hf
      refine lv_iload_n S0.1 S0.2.1 dX8_make_128 rfl (lv_at hl 1 rfl) ?_
      exact b129 rx8 rx10 rx10 x1 s13 hf _ _ _ hw (lv_sub hl [0, 5, 6] rfl)
    · replace hf := q_pos c14 hf
      refine lv_iload S0.1 S0.2.1 dX8_make_123 (lv_at hl 4 rfl) ?_
      refine lv_goto (tgt := 129) S0.1 S0.2.1 dX8_make_125 (by decide) ?_
      exact b129 rx8 rx10 rx10 x7 s13 hf _ _ _ hw (lv_sub hl [0, 5, 6] rfl)
  have b85 : ∀ (x1 : Int32) (x2 : Int32) (x3 : Int32) (x4 : Int32) (x5 : Int32) (x6 : Int32) (x7 : Int32) (rx8 : Nat) (σ : qS), fX8_make_85 F x1 x2 x3 x4 x5 x6 x7 rx8 σ = some r0 → qAt p l e (qRx 8 162 7 42) s m ([.ref (ad 0 0), .int p1, .int p2, .int p3, .int p4, .int p5, .int p6, .int p7] : List Value).toArray below meth c Q D (cL Y) (qT Y) A ad 11 5 30 85 [(0, .ref (ad 0 0)), (1, .int x1), (2, .int x2), (3, .int x3), (4, .int x4), (5, .int x5), (6, .int x6), (7, .int x7), (8, .ref (ad 50 rx8))] [] σ := by
    clear hf hw hl ls
    intro x1 x2 x3 x4 x5 x6 x7 rx8 σ hf H locs ls hw hl
    unfold fX8_make_85 at hf
    refine lv_aload_n S0.1 S0.2.1 dX8_make_85 rfl (lv_at hl 0 rfl) ?_
    refine lv_aload S0.1 S0.2.1 dX8_make_86 (lv_at hl 8 rfl) ?_
    refine q_xcallr S0 hG hAB hw (As := [.ref (ad 50 rx8)]) (rest := []) (wX8_nextAct l hst D Y ad B0 F rx8 σ) qyX8_nextAct kw_785 ⟨Nat.le_of_ble_eq_true rfl, Nat.le_of_ble_eq_true rfl⟩ dC_0 rfl rfl rfl rfl hl.1 (Nat.le_of_ble_eq_true rfl) dX8_make_88 ⟨Nat.le_of_ble_eq_true rfl, Nat.le_of_ble_eq_true rfl⟩ rfl hf (fun ex ce q9 s9 H locs hw hf hne hce hcv hcl => hHx hw hf hne hce hcv hcl (Nat.le_of_ble_eq_true rfl) (Nat.le_of_ble_eq_true rfl)) (fun i11 s10 H locs hw hf => ?_)
    refine lv_astore (lv' := [(10, .ref (ad 56 i11)), (0, .ref (ad 0 0)), (1, .int x1), (2, .int x2), (3, .int x3), (4, .int x4), (5, .int x5), (6, .int x6), (7, .int x7), (8, .ref (ad 50 rx8))]) S0.1 S0.2.1 dX8_make_91 hl (by decide) rfl (fun ls hl => ?_)
    refine lv_aload S0.1 S0.2.1 dX8_make_93 (lv_at hl 0 rfl) ?_
    refine lv_iload_n S0.1 S0.2.1 dX8_make_95 rfl (lv_at hl 3 rfl) ?_
    refine lv_iload S0.1 S0.2.1 dX8_make_96 (lv_at hl 5 rfl) ?_
    refine lv_if_eq (tgt := 107) S0.1 S0.2.1 dX8_make_98 (by decide) (fun c12 => ?_) (fun c12 => ?_)
    · replace hf := q_pos c12 hf
      refine lv_iload_n S0.1 S0.2.1 dX8_make_107 rfl (lv_at hl 4 rfl) ?_
      exact b108 x1 x5 x6 x7 rx8 i11 i11 x2 x3 s10 hf _ _ _ hw (lv_sub hl [1, 2, 6, 7, 8, 9, 0] rfl)
    · replace hf := q_neg c12 hf
      refine lv_sipush (v := 1000) S0.1 S0.2.1 dX8_make_101 (by decide) ?_
      refine lv_goto (tgt := 108) S0.1 S0.2.1 dX8_make_104 (by decide) ?_
      exact b108 x1 x5 x6 x7 rx8 i11 i11 x2 1000 s10 hf _ _ _ hw (lv_sub hl [1, 2, 6, 7, 8, 9, 0] rfl)
  refine lv_aload_n S0.1 S0.2.1 dX8_make_0 rfl (lv_at hl 0 rfl) ?_
  refine lv_iload_n S0.1 S0.2.1 dX8_make_1 rfl (lv_at hl 1 rfl) ?_
  refine q_xcallr S0 hG hAB hw (As := [.int p1]) (rest := []) (wX8_known l hst D Y ad B0 F p1 σ) qyX8_known kw_599 ⟨Nat.le_of_ble_eq_true rfl, Nat.le_of_ble_eq_true rfl⟩ dC_0 rfl rfl rfl rfl hl.1 (Nat.le_of_ble_eq_true rfl) dX8_make_2 ⟨Nat.le_of_ble_eq_true rfl, Nat.le_of_ble_eq_true rfl⟩ rfl hf (fun ex ce q9 s9 H locs hw hf hne hce hcv hcl => hHx hw hf hne hce hcv hcl (Nat.le_of_ble_eq_true rfl) (Nat.le_of_ble_eq_true rfl)) (fun i2 s1 H locs hw hf => ?_)
  refine lv_astore (lv' := [(8, .ref (ad 50 i2)), (0, .ref (ad 0 0)), (1, .int p1), (2, .int p2), (3, .int p3), (4, .int p4), (5, .int p5), (6, .int p6), (7, .int p7)]) S0.1 S0.2.1 dX8_make_5 hl (by decide) rfl (fun ls hl => ?_)
  refine lv_iload_n S0.1 S0.2.1 dX8_make_7 rfl (lv_at hl 4 rfl) ?_
  refine lv_iload S0.1 S0.2.1 dX8_make_8 (lv_at hl 5 rfl) ?_
  refine q_xscallv S0 hG hAB hw (As := [.int p3, .int p4]) (rest := []) (wX8_mustBeName l hst D Y ad B0 F p3 p4 s1) qsX8_mustBeName kw_776 ⟨Nat.le_of_ble_eq_true rfl, Nat.le_of_ble_eq_true rfl⟩ rfl hl.1 (Nat.le_of_ble_eq_true rfl) dX8_make_10 ⟨Nat.le_of_ble_eq_true rfl, Nat.le_of_ble_eq_true rfl⟩ rfl hf (fun ex ce q9 s9 H locs hw hf hne hce hcv hcl => hHx hw hf hne hce hcv hcl (Nat.le_of_ble_eq_true rfl) (Nat.le_of_ble_eq_true rfl)) (fun _ s3 H locs hw hf => ?_)
  refine lv_iload S0.1 S0.2.1 dX8_make_13 (lv_at hl 6 rfl) ?_
  refine q_xscallv S0 hG hAB hw (As := [.int p5]) (rest := []) (wX8_mustBeValue l hst D Y ad B0 F p5 s3) qsX8_mustBeValue kw_780 ⟨Nat.le_of_ble_eq_true rfl, Nat.le_of_ble_eq_true rfl⟩ rfl hl.1 (Nat.le_of_ble_eq_true rfl) dX8_make_15 ⟨Nat.le_of_ble_eq_true rfl, Nat.le_of_ble_eq_true rfl⟩ rfl hf (fun ex ce q9 s9 H locs hw hf hne hce hcv hcl => hHx hw hf hne hce hcv hcl (Nat.le_of_ble_eq_true rfl) (Nat.le_of_ble_eq_true rfl)) (fun _ s4 H locs hw hf => ?_)
  refine lv_iload S0.1 S0.2.1 dX8_make_18 (lv_at hl 7 rfl) ?_
  refine lv_iconst (v := 0) S0.1 S0.2.1 dX8_make_20 (by decide) ?_
  refine lv_iconst (v := 3) S0.1 S0.2.1 dX8_make_21 (by decide) ?_
  refine q_scalli S0 hw (As := [.int p6, .int 0, .int 3]) (rest := []) (wX8_isWithin l D Y ad F p6 0 3 s4) qsX8_isWithin kw_296 ⟨Nat.le_of_ble_eq_true rfl, Nat.le_of_ble_eq_true rfl⟩ rfl hl.1 (Nat.le_of_ble_eq_true rfl) dX8_make_22 ⟨Nat.le_of_ble_eq_true rfl, Nat.le_of_ble_eq_true rfl⟩ rfl hf (fun v6 s5 H locs hw hf => ?_)
  refine lv_if_ne (tgt := 38) S0.1 S0.2.1 dX8_make_25 (by decide) (fun c7 => ?_) (fun c7 => ?_)
  · replace hf := q_neg c7 hf
    refine lv_iload S0.1 S0.2.1 dX8_make_38 (lv_at hl 7 rfl) ?_
    refine lv_iconst (v := 2) S0.1 S0.2.1 dX8_make_40 (by decide) ?_
    refine lv_icmp_ne (tgt := 53) S0.1 S0.2.1 dX8_make_41 (by decide) (fun c8 => ?_) (fun c8 => ?_)
    · replace hf := q_neg c8 hf
      refine lv_null S0.1 S0.2.1 dX8_make_53 ?_
      refine lv_astoreN (lv' := [(9, .null), (8, .ref (ad 50 i2)), (0, .ref (ad 0 0)), (1, .int p1), (2, .int p2), (3, .int p3), (4, .int p4), (5, .int p5), (6, .int p6), (7, .int p7)]) S0.1 S0.2.1 dX8_make_54 hl (by decide) rfl (fun ls hl => ?_)
      refine lv_aload_n S0.1 S0.2.1 dX8_make_56 rfl (lv_at hl 2 rfl) ?_
      refine lv_aload S0.1 S0.2.1 dX8_make_57 (lv_at hl 1 rfl) ?_
      refine q_xcallv S0 hG hAB hw (As := [.ref (ad 50 i2)]) (rest := []) (wX8_mustLive l hst D Y ad B0 F i2 s5) qyX8_mustLive kw_618 ⟨Nat.le_of_ble_eq_true rfl, Nat.le_of_ble_eq_true rfl⟩ dC_0 rfl rfl rfl rfl hl.1 (Nat.le_of_ble_eq_true rfl) dX8_make_59 ⟨Nat.le_of_ble_eq_true rfl, Nat.le_of_ble_eq_true rfl⟩ rfl hf (fun ex ce q9 s9 H locs hw hf hne hce hcv hcl => hHx hw hf hne hce hcv hcl (Nat.le_of_ble_eq_true rfl) (Nat.le_of_ble_eq_true rfl)) (fun _ s9 H locs hw hf => ?_)
      refine lv_aloadN S0.1 S0.2.1 dX8_make_62 (lv_at hl 0 rfl) ?_
      refine lv_ifnullN (tgt := 85) S0.1 S0.2.1 dX8_make_64 (by decide) ?_
      refine W.widen (k := 5) (n := 30) (by decide) (by decide) ?_
      exact b85 p1 p2 p3 p4 p5 p6 p7 i2 s9 hf _ _ _ hw (lv_sub hl [2, 3, 4, 5, 6, 7, 8, 9, 1] rfl)
    · replace hf := q_pos c8 hf
      refine lv_aload_n S0.1 S0.2.1 dX8_make_44 rfl (lv_at hl 1 rfl) ?_
      refine lv_iload S0.1 S0.2.1 dX8_make_45 (lv_at hl 8 rfl) ?_
      refine q_xcallr S0 hG hAB hw (As := [.int p7]) (rest := []) (wX8_knownLease l hst D Y ad B0 F p7 s5) qyX8_knownLease kw_763 ⟨Nat.le_of_ble_eq_true rfl, Nat.le_of_ble_eq_true rfl⟩ dC_0 rfl rfl rfl rfl hl.1 (Nat.le_of_ble_eq_true rfl) dX8_make_47 ⟨Nat.le_of_ble_eq_true rfl, Nat.le_of_ble_eq_true rfl⟩ rfl hf (fun ex ce q9 s9 H locs hw hf hne hce hcv hcl => hHx hw hf hne hce hcv hcl (Nat.le_of_ble_eq_true rfl) (Nat.le_of_ble_eq_true rfl)) (fun i19 s18 H locs hw hf => ?_)
      refine lv_goto (tgt := 54) S0.1 S0.2.1 dX8_make_50 (by decide) ?_
      refine lv_astore (lv' := [(9, .ref (ad 57 i19)), (8, .ref (ad 50 i2)), (0, .ref (ad 0 0)), (1, .int p1), (2, .int p2), (3, .int p3), (4, .int p4), (5, .int p5), (6, .int p6), (7, .int p7)]) S0.1 S0.2.1 dX8_make_54 hl (by decide) rfl (fun ls hl => ?_)
      refine lv_aload_n S0.1 S0.2.1 dX8_make_56 rfl (lv_at hl 2 rfl) ?_
      refine lv_aload S0.1 S0.2.1 dX8_make_57 (lv_at hl 1 rfl) ?_
      refine q_xcallv S0 hG hAB hw (As := [.ref (ad 50 i2)]) (rest := []) (wX8_mustLive l hst D Y ad B0 F i2 s18) qyX8_mustLive kw_618 ⟨Nat.le_of_ble_eq_true rfl, Nat.le_of_ble_eq_true rfl⟩ dC_0 rfl rfl rfl rfl hl.1 (Nat.le_of_ble_eq_true rfl) dX8_make_59 ⟨Nat.le_of_ble_eq_true rfl, Nat.le_of_ble_eq_true rfl⟩ rfl hf (fun ex ce q9 s9 H locs hw hf hne hce hcv hcl => hHx hw hf hne hce hcv hcl (Nat.le_of_ble_eq_true rfl) (Nat.le_of_ble_eq_true rfl)) (fun _ s20 H locs hw hf => ?_)
      refine lv_aload S0.1 S0.2.1 dX8_make_62 (lv_at hl 0 rfl) ?_
      refine lv_ifnull S0.1 S0.2.1 dX8_make_64 ?_
      refine lv_aload S0.1 S0.2.1 dX8_make_67 (lv_at hl 0 rfl) ?_
      obtain ⟨hd, hf⟩ := gnl_some hf
      refine gX2_ended S0 hw hd kw_748 dX8_make_69 hf (fun v21 hf => ?_)
      refine lv_if_eq (tgt := 85) S0.1 S0.2.1 dX8_make_72 (by decide) (fun c22 => ?_) (fun c22 => ?_)
      · replace hf := q_pos c22 hf
        exact b85 p1 p2 p3 p4 p5 p6 p7 i2 s20 hf _ _ _ hw (lv_sub hl [2, 3, 4, 5, 6, 7, 8, 9, 1] rfl)
      · replace hf := q_neg c22 hf
        exact hthr qt3_197 (by decide) hw hf ⟨dX8_make_75, dX8_make_78, Or.inl ⟨dX8_make_79, dX8_make_81, dX8_make_84⟩⟩ hl.1 (Nat.le_of_ble_eq_true rfl) ⟨Nat.le_of_ble_eq_true rfl, Nat.le_of_ble_eq_true rfl⟩
  · replace hf := q_pos c7 hf
    exact hthr qt2_213 (by decide) hw hf ⟨dX8_make_28, dX8_make_31, Or.inl ⟨dX8_make_32, dX8_make_34, dX8_make_37⟩⟩ hl.1 (Nat.le_of_ble_eq_true rfl) ⟨Nat.le_of_ble_eq_true rfl, Nat.le_of_ble_eq_true rfl⟩
theorem qyX8_set : qY yX8_set RX8 cX8_set 7 (some .int) 4 := ⟨⟨kw_881, kw_882, kw_1, kw_883⟩, rfl, by decide, by decide, by decide +kernel⟩
def fX8_set (F : Nat) (p1 : Int32) (p2 : Int32) (p3 : Int32) (p4 : Int32) (σ : qS) : Option (Int32 × Nat × qS) :=
  bnd3 (fX8_known F p1 σ) (fun i2 s1 => bnd3 (fX8_mustBeValue F p3 s1) (fun _ s3 => bnd3 (fX8_nextAct F i2 s3) (fun i5 s4 => gnl i5 (1 + 6 * s4.2 0 0) (bnd (fX0_toDo F i5 1 p2 p3 p4 s4) fun s6 => (bnd2 (fX8_submit F i2 i5 s6) fun v8 s7 => (some (v8, 0, s7))))) (fun e s => some (0, e, s))) (fun e s => some (0, e, s))) (fun e s => some (0, e, s))
set_option maxRecDepth 100000 in
set_option maxHeartbeats 4000000 in
theorem wX8_set (l : Launch) (hst : l.stackTraces = false) (D : va_G) (Y : Nat → ClassId) (ad : qAd) (B0 F : Nat) (p1 : Int32) (p2 : Int32) (p3 : Int32) (p4 : Int32) (σ : qS) : qXi l yX8_set cX8_set 7 (some .int) 8 162 4 24 B0 D (cL Y) (qT Y) ad [.ref (ad 0 0), .int p1, .int p2, .int p3, .int p4] σ (fX8_set F p1 p2 p3 p4 σ) := by
  refine q_oxi hst (by decide) (Nat.le_of_ble_eq_true rfl) ⟨by decide, by decide⟩ "Leasehall" rfl (fun p e s m below meth c A Q r0 S0 hf hw hG hAB hret hHx hthr ls hl => ?_)
  replace hl : lv_has ls 7 [(0, .ref (ad 0 0)), (1, .int p1), (2, .int p2), (3, .int p3), (4, .int p4)] := hl
  unfold fX8_set at hf
  refine lv_aload_n S0.1 S0.2.1 dX8_set_0 rfl (lv_at hl 0 rfl) ?_
  refine lv_iload_n S0.1 S0.2.1 dX8_set_1 rfl (lv_at hl 1 rfl) ?_
  refine q_xcallr S0 hG hAB hw (As := [.int p1]) (rest := []) (wX8_known l hst D Y ad B0 F p1 σ) qyX8_known kw_599 ⟨Nat.le_of_ble_eq_true rfl, Nat.le_of_ble_eq_true rfl⟩ dC_0 rfl rfl rfl rfl hl.1 (Nat.le_of_ble_eq_true rfl) dX8_set_2 ⟨Nat.le_of_ble_eq_true rfl, Nat.le_of_ble_eq_true rfl⟩ rfl hf (fun ex ce q9 s9 H locs hw hf hne hce hcv hcl => hHx hw hf hne hce hcv hcl (Nat.le_of_ble_eq_true rfl) (Nat.le_of_ble_eq_true rfl)) (fun i2 s1 H locs hw hf => ?_)
  refine lv_astore (lv' := [(5, .ref (ad 50 i2)), (0, .ref (ad 0 0)), (1, .int p1), (2, .int p2), (3, .int p3), (4, .int p4)]) S0.1 S0.2.1 dX8_set_5 hl (by decide) rfl (fun ls hl => ?_)
  refine lv_iload_n S0.1 S0.2.1 dX8_set_7 rfl (lv_at hl 4 rfl) ?_
  refine q_xscallv S0 hG hAB hw (As := [.int p3]) (rest := []) (wX8_mustBeValue l hst D Y ad B0 F p3 s1) qsX8_mustBeValue kw_780 ⟨Nat.le_of_ble_eq_true rfl, Nat.le_of_ble_eq_true rfl⟩ rfl hl.1 (Nat.le_of_ble_eq_true rfl) dX8_set_8 ⟨Nat.le_of_ble_eq_true rfl, Nat.le_of_ble_eq_true rfl⟩ rfl hf (fun ex ce q9 s9 H locs hw hf hne hce hcv hcl => hHx hw hf hne hce hcv hcl (Nat.le_of_ble_eq_true rfl) (Nat.le_of_ble_eq_true rfl)) (fun _ s3 H locs hw hf => ?_)
  refine lv_aload_n S0.1 S0.2.1 dX8_set_11 rfl (lv_at hl 1 rfl) ?_
  refine lv_aload S0.1 S0.2.1 dX8_set_12 (lv_at hl 0 rfl) ?_
  refine q_xcallr S0 hG hAB hw (As := [.ref (ad 50 i2)]) (rest := []) (wX8_nextAct l hst D Y ad B0 F i2 s3) qyX8_nextAct kw_785 ⟨Nat.le_of_ble_eq_true rfl, Nat.le_of_ble_eq_true rfl⟩ dC_0 rfl rfl rfl rfl hl.1 (Nat.le_of_ble_eq_true rfl) dX8_set_14 ⟨Nat.le_of_ble_eq_true rfl, Nat.le_of_ble_eq_true rfl⟩ rfl hf (fun ex ce q9 s9 H locs hw hf hne hce hcv hcl => hHx hw hf hne hce hcv hcl (Nat.le_of_ble_eq_true rfl) (Nat.le_of_ble_eq_true rfl)) (fun i5 s4 H locs hw hf => ?_)
  refine lv_astore (lv' := [(6, .ref (ad 56 i5)), (5, .ref (ad 50 i2)), (0, .ref (ad 0 0)), (1, .int p1), (2, .int p2), (3, .int p3), (4, .int p4)]) S0.1 S0.2.1 dX8_set_17 hl (by decide) rfl (fun ls hl => ?_)
  refine lv_aload S0.1 S0.2.1 dX8_set_19 (lv_at hl 0 rfl) ?_
  refine lv_iconst (v := 1) S0.1 S0.2.1 dX8_set_21 (by decide) ?_
  refine lv_iload_n S0.1 S0.2.1 dX8_set_22 rfl (lv_at hl 4 rfl) ?_
  refine lv_iload_n S0.1 S0.2.1 dX8_set_23 rfl (lv_at hl 5 rfl) ?_
  refine lv_iload S0.1 S0.2.1 dX8_set_24 (lv_at hl 6 rfl) ?_
  obtain ⟨hd, hf⟩ := gnl_some hf
  refine q_callv (k := 56) (i := i5) S0 hw (As := [.int 1, .int p2, .int p3, .int p4]) (rest := []) (wX0_toDo l D Y ad F i5 1 p2 p3 p4 s4) qyX0_toDo kw_884 ⟨Nat.le_of_ble_eq_true rfl, Nat.le_of_ble_eq_true rfl⟩ hd rfl rfl rfl rfl hl.1 (Nat.le_of_ble_eq_true rfl) dX8_set_26 ⟨Nat.le_of_ble_eq_true rfl, Nat.le_of_ble_eq_true rfl⟩ rfl hf (fun s6 H locs hw hf => ?_)
  refine lv_aload_n S0.1 S0.2.1 dX8_set_29 rfl (lv_at hl 2 rfl) ?_
  refine lv_aload S0.1 S0.2.1 dX8_set_30 (lv_at hl 1 rfl) ?_
  refine lv_aload S0.1 S0.2.1 dX8_set_32 (lv_at hl 0 rfl) ?_
  refine q_calli S0 hw (As := [.ref (ad 50 i2), .ref (ad 56 i5)]) (rest := []) (wX8_submit l D Y ad F i2 i5 s6) qyX8_submit kw_798 ⟨Nat.le_of_ble_eq_true rfl, Nat.le_of_ble_eq_true rfl⟩ dC_0 rfl rfl rfl rfl hl.1 (Nat.le_of_ble_eq_true rfl) dX8_set_34 ⟨Nat.le_of_ble_eq_true rfl, Nat.le_of_ble_eq_true rfl⟩ rfl hf (fun v8 s7 H locs hw hf => ?_)
  exact hret dX8_set_37 hw hf
theorem qyX8_delete : qY yX8_delete RX8 cX8_delete 6 (some .int) 3 := ⟨⟨kw_889, kw_890, kw_1, kw_891⟩, rfl, by decide, by decide, by decide +kernel⟩
def fX8_delete (F : Nat) (p1 : Int32) (p2 : Int32) (p3 : Int32) (σ : qS) : Option (Int32 × Nat × qS) :=
  bnd3 (fX8_known F p1 σ) (fun i2 s1 => bnd3 (fX8_nextAct F i2 s1) (fun i4 s3 => gnl i4 (1 + 6 * s3.2 0 0) (bnd (fX0_toDo F i4 2 p2 0 p3 s3) fun s5 => (bnd2 (fX8_submit F i2 i4 s5) fun v7 s6 => (some (v7, 0, s6))))) (fun e s => some (0, e, s))) (fun e s => some (0, e, s))
set_option maxRecDepth 100000 in
set_option maxHeartbeats 4000000 in
theorem wX8_delete (l : Launch) (hst : l.stackTraces = false) (D : va_G) (Y : Nat → ClassId) (ad : qAd) (B0 F : Nat) (p1 : Int32) (p2 : Int32) (p3 : Int32) (σ : qS) : qXi l yX8_delete cX8_delete 6 (some .int) 8 162 3 18 B0 D (cL Y) (qT Y) ad [.ref (ad 0 0), .int p1, .int p2, .int p3] σ (fX8_delete F p1 p2 p3 σ) := by
  refine q_oxi hst (by decide) (Nat.le_of_ble_eq_true rfl) ⟨by decide, by decide⟩ "Leasehall" rfl (fun p e s m below meth c A Q r0 S0 hf hw hG hAB hret hHx hthr ls hl => ?_)
  replace hl : lv_has ls 6 [(0, .ref (ad 0 0)), (1, .int p1), (2, .int p2), (3, .int p3)] := hl
  unfold fX8_delete at hf
  refine lv_aload_n S0.1 S0.2.1 dX8_delete_0 rfl (lv_at hl 0 rfl) ?_
  refine lv_iload_n S0.1 S0.2.1 dX8_delete_1 rfl (lv_at hl 1 rfl) ?_
  refine q_xcallr S0 hG hAB hw (As := [.int p1]) (rest := []) (wX8_known l hst D Y ad B0 F p1 σ) qyX8_known kw_599 ⟨Nat.le_of_ble_eq_true rfl, Nat.le_of_ble_eq_true rfl⟩ dC_0 rfl rfl rfl rfl hl.1 (Nat.le_of_ble_eq_true rfl) dX8_delete_2 ⟨Nat.le_of_ble_eq_true rfl, Nat.le_of_ble_eq_true rfl⟩ rfl hf (fun ex ce q9 s9 H locs hw hf hne hce hcv hcl => hHx hw hf hne hce hcv hcl (Nat.le_of_ble_eq_true rfl) (Nat.le_of_ble_eq_true rfl)) (fun i2 s1 H locs hw hf => ?_)
  refine lv_astore (lv' := [(4, .ref (ad 50 i2)), (0, .ref (ad 0 0)), (1, .int p1), (2, .int p2), (3, .int p3)]) S0.1 S0.2.1 dX8_delete_5 hl (by decide) rfl (fun ls hl => ?_)
  refine lv_aload_n S0.1 S0.2.1 dX8_delete_7 rfl (lv_at hl 1 rfl) ?_
  refine lv_aload S0.1 S0.2.1 dX8_delete_8 (lv_at hl 0 rfl) ?_
  refine q_xcallr S0 hG hAB hw (As := [.ref (ad 50 i2)]) (rest := []) (wX8_nextAct l hst D Y ad B0 F i2 s1) qyX8_nextAct kw_785 ⟨Nat.le_of_ble_eq_true rfl, Nat.le_of_ble_eq_true rfl⟩ dC_0 rfl rfl rfl rfl hl.1 (Nat.le_of_ble_eq_true rfl) dX8_delete_10 ⟨Nat.le_of_ble_eq_true rfl, Nat.le_of_ble_eq_true rfl⟩ rfl hf (fun ex ce q9 s9 H locs hw hf hne hce hcv hcl => hHx hw hf hne hce hcv hcl (Nat.le_of_ble_eq_true rfl) (Nat.le_of_ble_eq_true rfl)) (fun i4 s3 H locs hw hf => ?_)
  refine lv_astore (lv' := [(5, .ref (ad 56 i4)), (4, .ref (ad 50 i2)), (0, .ref (ad 0 0)), (1, .int p1), (2, .int p2), (3, .int p3)]) S0.1 S0.2.1 dX8_delete_13 hl (by decide) rfl (fun ls hl => ?_)
  refine lv_aload S0.1 S0.2.1 dX8_delete_15 (lv_at hl 0 rfl) ?_
  refine lv_iconst (v := 2) S0.1 S0.2.1 dX8_delete_17 (by decide) ?_
  refine lv_iload_n S0.1 S0.2.1 dX8_delete_18 rfl (lv_at hl 4 rfl) ?_
  refine lv_iconst (v := 0) S0.1 S0.2.1 dX8_delete_19 (by decide) ?_
  refine lv_iload_n S0.1 S0.2.1 dX8_delete_20 rfl (lv_at hl 5 rfl) ?_
  obtain ⟨hd, hf⟩ := gnl_some hf
  refine q_callv (k := 56) (i := i4) S0 hw (As := [.int 2, .int p2, .int 0, .int p3]) (rest := []) (wX0_toDo l D Y ad F i4 2 p2 0 p3 s3) qyX0_toDo kw_884 ⟨Nat.le_of_ble_eq_true rfl, Nat.le_of_ble_eq_true rfl⟩ hd rfl rfl rfl rfl hl.1 (Nat.le_of_ble_eq_true rfl) dX8_delete_21 ⟨Nat.le_of_ble_eq_true rfl, Nat.le_of_ble_eq_true rfl⟩ rfl hf (fun s5 H locs hw hf => ?_)
  refine lv_aload_n S0.1 S0.2.1 dX8_delete_24 rfl (lv_at hl 2 rfl) ?_
  refine lv_aload S0.1 S0.2.1 dX8_delete_25 (lv_at hl 1 rfl) ?_
  refine lv_aload S0.1 S0.2.1 dX8_delete_27 (lv_at hl 0 rfl) ?_
  refine q_calli S0 hw (As := [.ref (ad 50 i2), .ref (ad 56 i4)]) (rest := []) (wX8_submit l D Y ad F i2 i4 s5) qyX8_submit kw_798 ⟨Nat.le_of_ble_eq_true rfl, Nat.le_of_ble_eq_true rfl⟩ dC_0 rfl rfl rfl rfl hl.1 (Nat.le_of_ble_eq_true rfl) dX8_delete_29 ⟨Nat.le_of_ble_eq_true rfl, Nat.le_of_ble_eq_true rfl⟩ rfl hf (fun v7 s6 H locs hw hf => ?_)
  exact hret dX8_delete_32 hw hf
theorem qyX8_rights : qY yX8_rights RX8 cX8_rights 8 (some .int) 5 := ⟨⟨kw_896, kw_897, kw_1, kw_898⟩, rfl, by decide, by decide, by decide +kernel⟩
def fX8_rights_28 (F : Nat) (σ : qS) : Option (Int32 × Nat × qS) :=
  some (0, 2, σ)
def fX8_rights_58 (F : Nat) (x2 : Int32) (x3 : Int32) (x4 : Int32) (rx6 : Nat) (rx7 : Nat) (rt0 : Nat) (t1 : Int32) (σ : qS) : Option (Int32 × Nat × qS) :=
  nm (16 * x4) fun v12 => (nm (x3 + v12) fun v13 => (gnl rt0 (1 + 6 * σ.2 0 0) (bnd (fX0_toDo F rt0 t1 x2 v13 ((-1)) σ) fun s14 => (bnd2 (fX8_submit F rx6 rx7 s14) fun v16 s15 => (some (v16, 0, s15))))))
def fX8_rights (F : Nat) (p1 : Int32) (p2 : Int32) (p3 : Int32) (p4 : Int32) (p5 : Int32) (σ : qS) : Option (Int32 × Nat × qS) :=
  bnd3 (fX8_known F p1 σ) (fun i2 s1 => bnd2 (fX8_isWithin F p3 0 15 s1) fun v4 s3 => (if v4 = 0 then (fX8_rights_28 F s3) else (bnd2 (fX8_isWithin F p4 0 15 s3) fun v7 s6 => (if v7 = 0 then (fX8_rights_28 F s6) else (bnd3 (fX8_nextAct F i2 s6) (fun i10 s9 => if p5 = 0 then (fX8_rights_58 F p2 p3 p4 i2 i10 i10 3 s9) else (fX8_rights_58 F p2 p3 p4 i2 i10 i10 4 s9)) (fun e s => some (0, e, s))))))) (fun e s => some (0, e, s))
set_option maxRecDepth 100000 in
set_option maxHeartbeats 4000000 in
theorem wX8_rights (l : Launch) (hst : l.stackTraces = false) (D : va_G) (Y : Nat → ClassId) (ad : qAd) (B0 F : Nat) (p1 : Int32) (p2 : Int32) (p3 : Int32) (p4 : Int32) (p5 : Int32) (σ : qS) : qXi l yX8_rights cX8_rights 8 (some .int) 8 162 3 18 B0 D (cL Y) (qT Y) ad [.ref (ad 0 0), .int p1, .int p2, .int p3, .int p4, .int p5] σ (fX8_rights F p1 p2 p3 p4 p5 σ) := by
  refine q_oxi hst (by decide) (Nat.le_of_ble_eq_true rfl) ⟨by decide, by decide⟩ "Leasehall" rfl (fun p e s m below meth c A Q r0 S0 hf hw hG hAB hret hHx hthr ls hl => ?_)
  replace hl : lv_has ls 8 [(0, .ref (ad 0 0)), (1, .int p1), (2, .int p2), (3, .int p3), (4, .int p4), (5, .int p5)] := hl
  unfold fX8_rights at hf
  have b28 : ∀ (σ : qS), fX8_rights_28 F σ = some r0 → qAt p l e (qRx 8 162 3 18) s m ([.ref (ad 0 0), .int p1, .int p2, .int p3, .int p4, .int p5] : List Value).toArray below meth c Q D (cL Y) (qT Y) A ad 8 1 6 28 [] [] σ := by
    clear hf hw hl ls
    intro σ hf H locs ls hw hl
    unfold fX8_rights_28 at hf
    exact hthr qt2_233 (by decide) hw hf ⟨dX8_rights_28, dX8_rights_31, Or.inl ⟨dX8_rights_32, dX8_rights_34, dX8_rights_37⟩⟩ hl.1 (Nat.le_of_ble_eq_true rfl) ⟨Nat.le_of_ble_eq_true rfl, Nat.le_of_ble_eq_true rfl⟩
  have b58 : ∀ (x2 : Int32) (x3 : Int32) (x4 : Int32) (rx6 : Nat) (rx7 : Nat) (rt0 : Nat) (t1 : Int32) (σ : qS), fX8_rights_58 F x2 x3 x4 rx6 rx7 rt0 t1 σ = some r0 → qAt p l e (qRx 8 162 3 18) s m ([.ref (ad 0 0), .int p1, .int p2, .int p3, .int p4, .int p5] : List Value).toArray below meth c Q D (cL Y) (qT Y) A ad 8 3 18 58 [(0, .ref (ad 0 0)), (2, .int x2), (3, .int x3), (4, .int x4), (6, .ref (ad 50 rx6)), (7, .ref (ad 56 rx7))] [.int t1, .ref (ad 56 rt0)] σ := by
    clear hf hw hl ls
    intro x2 x3 x4 rx6 rx7 rt0 t1 σ hf H locs ls hw hl
    unfold fX8_rights_58 at hf
    refine lv_iload_n S0.1 S0.2.1 dX8_rights_58 rfl (lv_at hl 1 rfl) ?_
    refine lv_iload_n S0.1 S0.2.1 dX8_rights_59 rfl (lv_at hl 2 rfl) ?_
    refine lv_bipush (v := 16) S0.1 S0.2.1 dX8_rights_60 (by decide) ?_
    refine lv_iload S0.1 S0.2.1 dX8_rights_62 (lv_at hl 3 rfl) ?_
    refine lv_imul S0.1 S0.2.1 dX8_rights_64 (q_top hf (fun v12 hf => ?_))
    refine lv_iadd S0.1 S0.2.1 dX8_rights_65 (q_top hf (fun v13 hf => ?_))
    refine lv_iconst (v := (-1)) S0.1 S0.2.1 dX8_rights_66 (by decide) ?_
    obtain ⟨hd, hf⟩ := gnl_some hf
    refine q_callv (k := 56) (i := rt0) S0 hw (As := [.int t1, .int x2, .int v13, .int ((-1))]) (rest := []) (wX0_toDo l D Y ad F rt0 t1 x2 v13 ((-1)) σ) qyX0_toDo kw_884 ⟨Nat.le_of_ble_eq_true rfl, Nat.le_of_ble_eq_true rfl⟩ hd rfl rfl rfl rfl hl.1 (Nat.le_of_ble_eq_true rfl) dX8_rights_67 ⟨Nat.le_of_ble_eq_true rfl, Nat.le_of_ble_eq_true rfl⟩ rfl hf (fun s14 H locs hw hf => ?_)
    refine lv_aload_n S0.1 S0.2.1 dX8_rights_70 rfl (lv_at hl 0 rfl) ?_
    refine lv_aload S0.1 S0.2.1 dX8_rights_71 (lv_at hl 4 rfl) ?_
    refine lv_aload S0.1 S0.2.1 dX8_rights_73 (lv_at hl 5 rfl) ?_
    refine q_calli S0 hw (As := [.ref (ad 50 rx6), .ref (ad 56 rx7)]) (rest := []) (wX8_submit l D Y ad F rx6 rx7 s14) qyX8_submit kw_798 ⟨Nat.le_of_ble_eq_true rfl, Nat.le_of_ble_eq_true rfl⟩ dC_0 rfl rfl rfl rfl hl.1 (Nat.le_of_ble_eq_true rfl) dX8_rights_75 ⟨Nat.le_of_ble_eq_true rfl, Nat.le_of_ble_eq_true rfl⟩ rfl hf (fun v16 s15 H locs hw hf => ?_)
    exact hret dX8_rights_78 hw hf
  refine lv_aload_n S0.1 S0.2.1 dX8_rights_0 rfl (lv_at hl 0 rfl) ?_
  refine lv_iload_n S0.1 S0.2.1 dX8_rights_1 rfl (lv_at hl 1 rfl) ?_
  refine q_xcallr S0 hG hAB hw (As := [.int p1]) (rest := []) (wX8_known l hst D Y ad B0 F p1 σ) qyX8_known kw_599 ⟨Nat.le_of_ble_eq_true rfl, Nat.le_of_ble_eq_true rfl⟩ dC_0 rfl rfl rfl rfl hl.1 (Nat.le_of_ble_eq_true rfl) dX8_rights_2 ⟨Nat.le_of_ble_eq_true rfl, Nat.le_of_ble_eq_true rfl⟩ rfl hf (fun ex ce q9 s9 H locs hw hf hne hce hcv hcl => hHx hw hf hne hce hcv hcl (Nat.le_of_ble_eq_true rfl) (Nat.le_of_ble_eq_true rfl)) (fun i2 s1 H locs hw hf => ?_)
  refine lv_astore (lv' := [(6, .ref (ad 50 i2)), (0, .ref (ad 0 0)), (1, .int p1), (2, .int p2), (3, .int p3), (4, .int p4), (5, .int p5)]) S0.1 S0.2.1 dX8_rights_5 hl (by decide) rfl (fun ls hl => ?_)
  refine lv_iload_n S0.1 S0.2.1 dX8_rights_7 rfl (lv_at hl 4 rfl) ?_
  refine lv_iconst (v := 0) S0.1 S0.2.1 dX8_rights_8 (by decide) ?_
  refine lv_bipush (v := 15) S0.1 S0.2.1 dX8_rights_9 (by decide) ?_
  refine q_scalli S0 hw (As := [.int p3, .int 0, .int 15]) (rest := []) (wX8_isWithin l D Y ad F p3 0 15 s1) qsX8_isWithin kw_296 ⟨Nat.le_of_ble_eq_true rfl, Nat.le_of_ble_eq_true rfl⟩ rfl hl.1 (Nat.le_of_ble_eq_true rfl) dX8_rights_11 ⟨Nat.le_of_ble_eq_true rfl, Nat.le_of_ble_eq_true rfl⟩ rfl hf (fun v4 s3 H locs hw hf => ?_)
  refine lv_if_eq (tgt := 28) S0.1 S0.2.1 dX8_rights_14 (by decide) (fun c5 => ?_) (fun c5 => ?_)
  · replace hf := q_pos c5 hf
    exact b28 s3 hf _ _ _ hw (lv_sub hl [] rfl)
  · replace hf := q_neg c5 hf
    refine lv_iload S0.1 S0.2.1 dX8_rights_17 (lv_at hl 5 rfl) ?_
    refine lv_iconst (v := 0) S0.1 S0.2.1 dX8_rights_19 (by decide) ?_
    refine lv_bipush (v := 15) S0.1 S0.2.1 dX8_rights_20 (by decide) ?_
    refine q_scalli S0 hw (As := [.int p4, .int 0, .int 15]) (rest := []) (wX8_isWithin l D Y ad F p4 0 15 s3) qsX8_isWithin kw_296 ⟨Nat.le_of_ble_eq_true rfl, Nat.le_of_ble_eq_true rfl⟩ rfl hl.1 (Nat.le_of_ble_eq_true rfl) dX8_rights_22 ⟨Nat.le_of_ble_eq_true rfl, Nat.le_of_ble_eq_true rfl⟩ rfl hf (fun v7 s6 H locs hw hf => ?_)
    refine lv_if_ne (tgt := 38) S0.1 S0.2.1 dX8_rights_25 (by decide) (fun c8 => ?_) (fun c8 => ?_)
    · replace hf := q_neg c8 hf
      refine lv_aload_n S0.1 S0.2.1 dX8_rights_38 rfl (lv_at hl 1 rfl) ?_
      refine lv_aload S0.1 S0.2.1 dX8_rights_39 (lv_at hl 0 rfl) ?_
      refine q_xcallr S0 hG hAB hw (As := [.ref (ad 50 i2)]) (rest := []) (wX8_nextAct l hst D Y ad B0 F i2 s6) qyX8_nextAct kw_785 ⟨Nat.le_of_ble_eq_true rfl, Nat.le_of_ble_eq_true rfl⟩ dC_0 rfl rfl rfl rfl hl.1 (Nat.le_of_ble_eq_true rfl) dX8_rights_41 ⟨Nat.le_of_ble_eq_true rfl, Nat.le_of_ble_eq_true rfl⟩ rfl hf (fun ex ce q9 s9 H locs hw hf hne hce hcv hcl => hHx hw hf hne hce hcv hcl (Nat.le_of_ble_eq_true rfl) (Nat.le_of_ble_eq_true rfl)) (fun i10 s9 H locs hw hf => ?_)
      refine lv_astore (lv' := [(7, .ref (ad 56 i10)), (6, .ref (ad 50 i2)), (0, .ref (ad 0 0)), (1, .int p1), (2, .int p2), (3, .int p3), (4, .int p4), (5, .int p5)]) S0.1 S0.2.1 dX8_rights_44 hl (by decide) rfl (fun ls hl => ?_)
      refine lv_aload S0.1 S0.2.1 dX8_rights_46 (lv_at hl 0 rfl) ?_
      refine lv_iload S0.1 S0.2.1 dX8_rights_48 (lv_at hl 7 rfl) ?_
      refine lv_if_eq (tgt := 57) S0.1 S0.2.1 dX8_rights_50 (by decide) (fun c11 => ?_) (fun c11 => ?_)
      · replace hf := q_pos c11 hf
        refine lv_iconst (v := 3) S0.1 S0.2.1 dX8_rights_57 (by decide) ?_
        exact b58 p2 p3 p4 i2 i10 i10 3 s9 hf _ _ _ hw (lv_sub hl [2, 4, 5, 6, 1, 0] rfl)
      · replace hf := q_neg c11 hf
        refine lv_iconst (v := 4) S0.1 S0.2.1 dX8_rights_53 (by decide) ?_
        refine lv_goto (tgt := 58) S0.1 S0.2.1 dX8_rights_54 (by decide) ?_
        exact b58 p2 p3 p4 i2 i10 i10 4 s9 hf _ _ _ hw (lv_sub hl [2, 4, 5, 6, 1, 0] rfl)
    · replace hf := q_pos c8 hf
      exact b28 s6 hf _ _ _ hw (lv_sub hl [] rfl)
theorem qyX8_check : qY yX8_check RX8 cX8_check 6 (some .int) 3 := ⟨⟨kw_904, kw_905, kw_1, kw_906⟩, rfl, by decide, by decide, by decide +kernel⟩
def fX8_check (F : Nat) (p1 : Int32) (p2 : Int32) (p3 : Int32) (σ : qS) : Option (Int32 × Nat × qS) :=
  bnd3 (fX8_known F p1 σ) (fun i2 s1 => bnd3 (fX8_nextAct F i2 s1) (fun i4 s3 => gnl i4 (1 + 6 * s3.2 0 0) (bnd (fX0_toDo F i4 5 p2 0 p3 s3) fun s5 => (bnd2 (fX8_submit F i2 i4 s5) fun v7 s6 => (some (v7, 0, s6))))) (fun e s => some (0, e, s))) (fun e s => some (0, e, s))
set_option maxRecDepth 100000 in
set_option maxHeartbeats 4000000 in
theorem wX8_check (l : Launch) (hst : l.stackTraces = false) (D : va_G) (Y : Nat → ClassId) (ad : qAd) (B0 F : Nat) (p1 : Int32) (p2 : Int32) (p3 : Int32) (σ : qS) : qXi l yX8_check cX8_check 6 (some .int) 8 162 3 18 B0 D (cL Y) (qT Y) ad [.ref (ad 0 0), .int p1, .int p2, .int p3] σ (fX8_check F p1 p2 p3 σ) := by
  refine q_oxi hst (by decide) (Nat.le_of_ble_eq_true rfl) ⟨by decide, by decide⟩ "Leasehall" rfl (fun p e s m below meth c A Q r0 S0 hf hw hG hAB hret hHx hthr ls hl => ?_)
  replace hl : lv_has ls 6 [(0, .ref (ad 0 0)), (1, .int p1), (2, .int p2), (3, .int p3)] := hl
  unfold fX8_check at hf
  refine lv_aload_n S0.1 S0.2.1 dX8_check_0 rfl (lv_at hl 0 rfl) ?_
  refine lv_iload_n S0.1 S0.2.1 dX8_check_1 rfl (lv_at hl 1 rfl) ?_
  refine q_xcallr S0 hG hAB hw (As := [.int p1]) (rest := []) (wX8_known l hst D Y ad B0 F p1 σ) qyX8_known kw_599 ⟨Nat.le_of_ble_eq_true rfl, Nat.le_of_ble_eq_true rfl⟩ dC_0 rfl rfl rfl rfl hl.1 (Nat.le_of_ble_eq_true rfl) dX8_check_2 ⟨Nat.le_of_ble_eq_true rfl, Nat.le_of_ble_eq_true rfl⟩ rfl hf (fun ex ce q9 s9 H locs hw hf hne hce hcv hcl => hHx hw hf hne hce hcv hcl (Nat.le_of_ble_eq_true rfl) (Nat.le_of_ble_eq_true rfl)) (fun i2 s1 H locs hw hf => ?_)
  refine lv_astore (lv' := [(4, .ref (ad 50 i2)), (0, .ref (ad 0 0)), (1, .int p1), (2, .int p2), (3, .int p3)]) S0.1 S0.2.1 dX8_check_5 hl (by decide) rfl (fun ls hl => ?_)
  refine lv_aload_n S0.1 S0.2.1 dX8_check_7 rfl (lv_at hl 1 rfl) ?_
  refine lv_aload S0.1 S0.2.1 dX8_check_8 (lv_at hl 0 rfl) ?_
  refine q_xcallr S0 hG hAB hw (As := [.ref (ad 50 i2)]) (rest := []) (wX8_nextAct l hst D Y ad B0 F i2 s1) qyX8_nextAct kw_785 ⟨Nat.le_of_ble_eq_true rfl, Nat.le_of_ble_eq_true rfl⟩ dC_0 rfl rfl rfl rfl hl.1 (Nat.le_of_ble_eq_true rfl) dX8_check_10 ⟨Nat.le_of_ble_eq_true rfl, Nat.le_of_ble_eq_true rfl⟩ rfl hf (fun ex ce q9 s9 H locs hw hf hne hce hcv hcl => hHx hw hf hne hce hcv hcl (Nat.le_of_ble_eq_true rfl) (Nat.le_of_ble_eq_true rfl)) (fun i4 s3 H locs hw hf => ?_)
  refine lv_astore (lv' := [(5, .ref (ad 56 i4)), (4, .ref (ad 50 i2)), (0, .ref (ad 0 0)), (1, .int p1), (2, .int p2), (3, .int p3)]) S0.1 S0.2.1 dX8_check_13 hl (by decide) rfl (fun ls hl => ?_)
  refine lv_aload S0.1 S0.2.1 dX8_check_15 (lv_at hl 0 rfl) ?_
  refine lv_iconst (v := 5) S0.1 S0.2.1 dX8_check_17 (by decide) ?_
  refine lv_iload_n S0.1 S0.2.1 dX8_check_18 rfl (lv_at hl 4 rfl) ?_
  refine lv_iconst (v := 0) S0.1 S0.2.1 dX8_check_19 (by decide) ?_
  refine lv_iload_n S0.1 S0.2.1 dX8_check_20 rfl (lv_at hl 5 rfl) ?_
  obtain ⟨hd, hf⟩ := gnl_some hf
  refine q_callv (k := 56) (i := i4) S0 hw (As := [.int 5, .int p2, .int 0, .int p3]) (rest := []) (wX0_toDo l D Y ad F i4 5 p2 0 p3 s3) qyX0_toDo kw_884 ⟨Nat.le_of_ble_eq_true rfl, Nat.le_of_ble_eq_true rfl⟩ hd rfl rfl rfl rfl hl.1 (Nat.le_of_ble_eq_true rfl) dX8_check_21 ⟨Nat.le_of_ble_eq_true rfl, Nat.le_of_ble_eq_true rfl⟩ rfl hf (fun s5 H locs hw hf => ?_)
  refine lv_aload_n S0.1 S0.2.1 dX8_check_24 rfl (lv_at hl 2 rfl) ?_
  refine lv_aload S0.1 S0.2.1 dX8_check_25 (lv_at hl 1 rfl) ?_
  refine lv_aload S0.1 S0.2.1 dX8_check_27 (lv_at hl 0 rfl) ?_
  refine q_calli S0 hw (As := [.ref (ad 50 i2), .ref (ad 56 i4)]) (rest := []) (wX8_submit l D Y ad F i2 i4 s5) qyX8_submit kw_798 ⟨Nat.le_of_ble_eq_true rfl, Nat.le_of_ble_eq_true rfl⟩ dC_0 rfl rfl rfl rfl hl.1 (Nat.le_of_ble_eq_true rfl) dX8_check_29 ⟨Nat.le_of_ble_eq_true rfl, Nat.le_of_ble_eq_true rfl⟩ rfl hf (fun v7 s6 H locs hw hf => ?_)
  exact hret dX8_check_32 hw hf
theorem qsX8_mustNotGather : qYs yX8_mustNotGather cX8_mustNotGather 1 none 1 := ⟨⟨kw_915, kw_1, kw_916⟩, by decide, by decide, by decide +kernel⟩
def fX8_mustNotGather (F : Nat) (i1 : Nat) (σ : qS) : Option (Int32 × Nat × qS) :=
  gnl i1 (σ.2 0 0) (nm (σ.1 50 i1 14) fun v1 => (if v1 = 0 then (some (0, 0, σ)) else (some (0, 3, σ))))
set_option maxRecDepth 100000 in
set_option maxHeartbeats 4000000 in
theorem wX8_mustNotGather (l : Launch) (hst : l.stackTraces = false) (D : va_G) (Y : Nat → ClassId) (ad : qAd) (B0 F : Nat) (i1 : Nat) (σ : qS) : qXv l yX8_mustNotGather cX8_mustNotGather 1 none 6 90 1 6 B0 D (cL Y) (qT Y) ad [.ref (ad 50 i1)] σ (fX8_mustNotGather F i1 σ) := by
  refine q_oxv hst (by decide) (Nat.le_of_ble_eq_true rfl) ⟨by decide, by decide⟩ "Leasehall" rfl (fun p e s m below meth c A Q r0 S0 hf hw hG hAB hret hHx hthr ls hl => ?_)
  replace hl : lv_has ls 1 [(0, .ref (ad 50 i1))] := hl
  unfold fX8_mustNotGather at hf
  refine lv_aload_n S0.1 S0.2.1 dX8_mustNotGather_0 rfl (lv_at hl 0 rfl) ?_
  obtain ⟨hd, hf⟩ := gnl_some hf
  refine gX6_gathers S0 hw hd kw_495 dX8_mustNotGather_1 hf (fun v1 hf => ?_)
  refine lv_if_eq (tgt := 18) S0.1 S0.2.1 dX8_mustNotGather_4 (by decide) (fun c2 => ?_) (fun c2 => ?_)
  · replace hf := q_pos c2 hf
    refine W.widen (k := 1) (n := 6) (by decide) (by decide) ?_
    exact hret dX8_mustNotGather_18 hw hf
  · replace hf := q_neg c2 hf
    exact hthr qt3_402 (by decide) hw hf ⟨dX8_mustNotGather_7, dX8_mustNotGather_10, Or.inr ⟨dX8_mustNotGather_11, dX8_mustNotGather_14, dX8_mustNotGather_17⟩⟩ hl.1 (Nat.le_of_ble_eq_true rfl) ⟨Nat.le_of_ble_eq_true rfl, Nat.le_of_ble_eq_true rfl⟩
theorem qyX8_gather : qY yX8_gather RX8 cX8_gather 3 none 1 := ⟨⟨kw_911, kw_912, kw_1, kw_913⟩, rfl, by decide, by decide, by decide +kernel⟩
def fX8_gather (F : Nat) (p1 : Int32) (σ : qS) : Option (Int32 × Nat × qS) :=
  bnd3 (fX8_known F p1 σ) (fun i2 s1 => bnd3 (fX8_mustLive F i2 s1) (fun _ s3 => bnd3 (fX8_mustNotGather F i2 s3) (fun _ s4 => nm (s4.1 0 0 14) fun v5 => (gnl i2 (s4.2 0 0) (nm (qI s4 50 i2 9 v5) fun s6 => (gnl i2 (s6.2 0 0) (gbl 1 (nm (qI s6 50 i2 14 1) fun s7 => (gnl i2 (s7.2 0 0) (nm (qI s7 50 i2 12 0) fun s8 => (some (0, 0, s8)))))))))) (fun e s => some (0, e, s))) (fun e s => some (0, e, s))) (fun e s => some (0, e, s))
set_option maxRecDepth 100000 in
set_option maxHeartbeats 4000000 in
theorem wX8_gather (l : Launch) (hst : l.stackTraces = false) (D : va_G) (Y : Nat → ClassId) (ad : qAd) (B0 F : Nat) (p1 : Int32) (σ : qS) : qXv l yX8_gather cX8_gather 3 none 7 111 3 18 B0 D (cL Y) (qT Y) ad [.ref (ad 0 0), .int p1] σ (fX8_gather F p1 σ) := by
  refine q_oxv hst (by decide) (Nat.le_of_ble_eq_true rfl) ⟨by decide, by decide⟩ "Leasehall" rfl (fun p e s m below meth c A Q r0 S0 hf hw hG hAB hret hHx hthr ls hl => ?_)
  replace hl : lv_has ls 3 [(0, .ref (ad 0 0)), (1, .int p1)] := hl
  unfold fX8_gather at hf
  refine lv_aload_n S0.1 S0.2.1 dX8_gather_0 rfl (lv_at hl 0 rfl) ?_
  refine lv_iload_n S0.1 S0.2.1 dX8_gather_1 rfl (lv_at hl 1 rfl) ?_
  refine q_xcallr S0 hG hAB hw (As := [.int p1]) (rest := []) (wX8_known l hst D Y ad B0 F p1 σ) qyX8_known kw_599 ⟨Nat.le_of_ble_eq_true rfl, Nat.le_of_ble_eq_true rfl⟩ dC_0 rfl rfl rfl rfl hl.1 (Nat.le_of_ble_eq_true rfl) dX8_gather_2 ⟨Nat.le_of_ble_eq_true rfl, Nat.le_of_ble_eq_true rfl⟩ rfl hf (fun ex ce q9 s9 H locs hw hf hne hce hcv hcl => hHx hw hf hne hce hcv hcl (Nat.le_of_ble_eq_true rfl) (Nat.le_of_ble_eq_true rfl)) (fun i2 s1 H locs hw hf => ?_)
  refine lv_astore_n (lv' := [(2, .ref (ad 50 i2)), (0, .ref (ad 0 0)), (1, .int p1)]) S0.1 S0.2.1 dX8_gather_5 rfl hl (by decide) rfl (fun ls hl => ?_)
  refine lv_aload_n S0.1 S0.2.1 dX8_gather_6 rfl (lv_at hl 1 rfl) ?_
  refine lv_aload_n S0.1 S0.2.1 dX8_gather_7 rfl (lv_at hl 0 rfl) ?_
  refine q_xcallv S0 hG hAB hw (As := [.ref (ad 50 i2)]) (rest := []) (wX8_mustLive l hst D Y ad B0 F i2 s1) qyX8_mustLive kw_618 ⟨Nat.le_of_ble_eq_true rfl, Nat.le_of_ble_eq_true rfl⟩ dC_0 rfl rfl rfl rfl hl.1 (Nat.le_of_ble_eq_true rfl) dX8_gather_8 ⟨Nat.le_of_ble_eq_true rfl, Nat.le_of_ble_eq_true rfl⟩ rfl hf (fun ex ce q9 s9 H locs hw hf hne hce hcv hcl => hHx hw hf hne hce hcv hcl (Nat.le_of_ble_eq_true rfl) (Nat.le_of_ble_eq_true rfl)) (fun _ s3 H locs hw hf => ?_)
  refine lv_aload_n S0.1 S0.2.1 dX8_gather_11 rfl (lv_at hl 0 rfl) ?_
  refine q_xscallv S0 hG hAB hw (As := [.ref (ad 50 i2)]) (rest := []) (wX8_mustNotGather l hst D Y ad B0 F i2 s3) qsX8_mustNotGather kw_914 ⟨Nat.le_of_ble_eq_true rfl, Nat.le_of_ble_eq_true rfl⟩ rfl hl.1 (Nat.le_of_ble_eq_true rfl) dX8_gather_12 ⟨Nat.le_of_ble_eq_true rfl, Nat.le_of_ble_eq_true rfl⟩ rfl hf (fun ex ce q9 s9 H locs hw hf hne hce hcv hcl => hHx hw hf hne hce hcv hcl (Nat.le_of_ble_eq_true rfl) (Nat.le_of_ble_eq_true rfl)) (fun _ s4 H locs hw hf => ?_)
  refine lv_aload_n S0.1 S0.2.1 dX8_gather_15 rfl (lv_at hl 0 rfl) ?_
  refine lv_aload_n S0.1 S0.2.1 dX8_gather_16 rfl (lv_at hl 1 rfl) ?_
  refine gX8_now S0 hw kw_241 dX8_gather_17 hf (fun v5 hf => ?_)
  obtain ⟨hd, hf⟩ := gnl_some hf
  refine pX6_last S0 hw hd kw_485 dX8_gather_20 hf (fun s6 H locs hw hf => ?_)
  refine lv_aload_n S0.1 S0.2.1 dX8_gather_23 rfl (lv_at hl 0 rfl) ?_
  refine lv_iconst (v := 1) S0.1 S0.2.1 dX8_gather_24 (by decide) ?_
  obtain ⟨hd, hf⟩ := gnl_some hf
  refine pX6_gathers S0 hw hd kw_495 dX8_gather_25 hf (fun s7 H locs hw hf => ?_)
  refine lv_aload_n S0.1 S0.2.1 dX8_gather_28 rfl (lv_at hl 0 rfl) ?_
  refine lv_iconst (v := 0) S0.1 S0.2.1 dX8_gather_29 (by decide) ?_
  obtain ⟨hd, hf⟩ := gnl_some hf
  refine pX6_gathered S0 hw hd kw_491 dX8_gather_30 hf (fun s8 H locs hw hf => ?_)
  exact hret dX8_gather_33 hw hf
theorem qyX8_done : qY yX8_done RX8 cX8_done 4 (some .int) 1 := ⟨⟨kw_922, kw_923, kw_1, kw_924⟩, rfl, by decide, by decide, by decide +kernel⟩
def fX8_done_101 (F : Nat) (t0 : Int32) (σ : qS) : Option (Int32 × Nat × qS) :=
  some (t0, 0, σ)
def fX8_done (F : Nat) (p1 : Int32) (σ : qS) : Option (Int32 × Nat × qS) :=
  bnd3 (fX8_known F p1 σ) (fun i2 s1 => bnd3 (fX8_mustLive F i2 s1) (fun _ s3 => gnl i2 (s3.2 0 0) (nm (s3.1 50 i2 14) fun v4 => (if v4 = 0 then (some (0, 3, s3)) else (nm (s3.1 0 0 14) fun v6 => (gnl i2 (s3.2 0 0) (nm (qI s3 50 i2 9 v6) fun s7 => (gnl i2 (s7.2 0 0) (gbl 0 (nm (qI s7 50 i2 14 0) fun s8 => (bnd2 (fX8_performAll F i2 s8) fun v10 s9 => (if v10 < 0 then (gnl i2 (s9.2 0 0) (nm (s9.1 50 i2 13) fun v12 => (if v12 = 0 then (gnl i2 (s9.2 0 0) (nm (s9.2 2 i2) fun i18 => (nm (s9.1 0 0 15) fun v19 => (bnd2 (fX8_catchUp F i18 v19 s9) fun v21 s20 => (nm (s20.1 0 0 15) fun v22 => (some (v22, 0, s20))))))) else (bnd2 (fX8_settle F i2 s9) fun v15 s14 => (if v15 = 0 then (fX8_done_101 F ((-100)) s14) else (nm (s14.1 0 0 15) fun v17 => (fX8_done_101 F v17 s14))))))) else (bnd (fX8_undo F s9) fun s23 => (nm ((-1) - v10) fun v24 => (some (v24, 0, s23))))))))))))))) (fun e s => some (0, e, s))) (fun e s => some (0, e, s))
set_option maxRecDepth 100000 in
set_option maxHeartbeats 4000000 in
theorem wX8_done (l : Launch) (hst : l.stackTraces = false) (D : va_G) (Y : Nat → ClassId) (ad : qAd) (B0 F : Nat) (p1 : Int32) (σ : qS) : qXi l yX8_done cX8_done 4 (some .int) 7 162 3 18 B0 D (cL Y) (qT Y) ad [.ref (ad 0 0), .int p1] σ (fX8_done F p1 σ) := by
  refine q_oxi hst (by decide) (Nat.le_of_ble_eq_true rfl) ⟨by decide, by decide⟩ "Leasehall" rfl (fun p e s m below meth c A Q r0 S0 hf hw hG hAB hret hHx hthr ls hl => ?_)
  replace hl : lv_has ls 4 [(0, .ref (ad 0 0)), (1, .int p1)] := hl
  unfold fX8_done at hf
  have b101 : ∀ (t0 : Int32) (σ : qS), fX8_done_101 F t0 σ = some r0 → qAt p l e (qRx 7 162 3 18) s m ([.ref (ad 0 0), .int p1] : List Value).toArray below meth c Q D (cL Y) (qT Y) A ad 4 2 12 101 [] [.int t0] σ := by
    clear hf hw hl ls
    intro t0 σ hf H locs ls hw hl
    unfold fX8_done_101 at hf
    refine W.widen (k := 3) (n := 18) (by decide) (by decide) ?_
    exact hret dX8_done_101 hw hf
  refine lv_aload_n S0.1 S0.2.1 dX8_done_0 rfl (lv_at hl 0 rfl) ?_
  refine lv_iload_n S0.1 S0.2.1 dX8_done_1 rfl (lv_at hl 1 rfl) ?_
  refine q_xcallr S0 hG hAB hw (As := [.int p1]) (rest := []) (wX8_known l hst D Y ad B0 F p1 σ) qyX8_known kw_599 ⟨Nat.le_of_ble_eq_true rfl, Nat.le_of_ble_eq_true rfl⟩ dC_0 rfl rfl rfl rfl hl.1 (Nat.le_of_ble_eq_true rfl) dX8_done_2 ⟨Nat.le_of_ble_eq_true rfl, Nat.le_of_ble_eq_true rfl⟩ rfl hf (fun ex ce q9 s9 H locs hw hf hne hce hcv hcl => hHx hw hf hne hce hcv hcl (Nat.le_of_ble_eq_true rfl) (Nat.le_of_ble_eq_true rfl)) (fun i2 s1 H locs hw hf => ?_)
  refine lv_astore_n (lv' := [(2, .ref (ad 50 i2)), (0, .ref (ad 0 0)), (1, .int p1)]) S0.1 S0.2.1 dX8_done_5 rfl hl (by decide) rfl (fun ls hl => ?_)
  refine lv_aload_n S0.1 S0.2.1 dX8_done_6 rfl (lv_at hl 1 rfl) ?_
  refine lv_aload_n S0.1 S0.2.1 dX8_done_7 rfl (lv_at hl 0 rfl) ?_
  refine q_xcallv S0 hG hAB hw (As := [.ref (ad 50 i2)]) (rest := []) (wX8_mustLive l hst D Y ad B0 F i2 s1) qyX8_mustLive kw_618 ⟨Nat.le_of_ble_eq_true rfl, Nat.le_of_ble_eq_true rfl⟩ dC_0 rfl rfl rfl rfl hl.1 (Nat.le_of_ble_eq_true rfl) dX8_done_8 ⟨Nat.le_of_ble_eq_true rfl, Nat.le_of_ble_eq_true rfl⟩ rfl hf (fun ex ce q9 s9 H locs hw hf hne hce hcv hcl => hHx hw hf hne hce hcv hcl (Nat.le_of_ble_eq_true rfl) (Nat.le_of_ble_eq_true rfl)) (fun _ s3 H locs hw hf => ?_)
  refine lv_aload_n S0.1 S0.2.1 dX8_done_11 rfl (lv_at hl 0 rfl) ?_
  obtain ⟨hd, hf⟩ := gnl_some hf
  refine gX6_gathers S0 hw hd kw_495 dX8_done_12 hf (fun v4 hf => ?_)
  refine lv_if_ne (tgt := 28) S0.1 S0.2.1 dX8_done_15 (by decide) (fun c5 => ?_) (fun c5 => ?_)
  · replace hf := q_neg c5 hf
    refine lv_aload_n S0.1 S0.2.1 dX8_done_28 rfl (lv_at hl 0 rfl) ?_
    refine lv_aload_n S0.1 S0.2.1 dX8_done_29 rfl (lv_at hl 1 rfl) ?_
    refine gX8_now S0 hw kw_241 dX8_done_30 hf (fun v6 hf => ?_)
    obtain ⟨hd, hf⟩ := gnl_some hf
    refine pX6_last S0 hw hd kw_485 dX8_done_33 hf (fun s7 H locs hw hf => ?_)
    refine lv_aload_n S0.1 S0.2.1 dX8_done_36 rfl (lv_at hl 0 rfl) ?_
    refine lv_iconst (v := 0) S0.1 S0.2.1 dX8_done_37 (by decide) ?_
    obtain ⟨hd, hf⟩ := gnl_some hf
    refine pX6_gathers S0 hw hd kw_495 dX8_done_38 hf (fun s8 H locs hw hf => ?_)
    refine lv_aload_n S0.1 S0.2.1 dX8_done_41 rfl (lv_at hl 1 rfl) ?_
    refine lv_aload_n S0.1 S0.2.1 dX8_done_42 rfl (lv_at hl 0 rfl) ?_
    refine q_calli S0 hw (As := [.ref (ad 50 i2)]) (rest := []) (wX8_performAll l D Y ad F i2 s8) qyX8_performAll kw_926 ⟨Nat.le_of_ble_eq_true rfl, Nat.le_of_ble_eq_true rfl⟩ dC_0 rfl rfl rfl rfl hl.1 (Nat.le_of_ble_eq_true rfl) dX8_done_43 ⟨Nat.le_of_ble_eq_true rfl, Nat.le_of_ble_eq_true rfl⟩ rfl hf (fun v10 s9 H locs hw hf => ?_)
    refine lv_istore_n (lv' := [(3, .int v10), (2, .ref (ad 50 i2)), (0, .ref (ad 0 0)), (1, .int p1)]) S0.1 S0.2.1 dX8_done_46 rfl hl (by decide) rfl (fun ls hl => ?_)
    refine lv_iload_n S0.1 S0.2.1 dX8_done_47 rfl (lv_at hl 0 rfl) ?_
    refine lv_if_lt (tgt := 59) S0.1 S0.2.1 dX8_done_48 (by decide) (fun c11 => ?_) (fun c11 => ?_)
    · replace hf := q_pos c11 hf
      refine lv_aload_n S0.1 S0.2.1 dX8_done_59 rfl (lv_at hl 1 rfl) ?_
      obtain ⟨hd, hf⟩ := gnl_some hf
      refine gX6_answered S0 hw hd kw_493 dX8_done_60 hf (fun v12 hf => ?_)
      refine lv_if_ne (tgt := 84) S0.1 S0.2.1 dX8_done_63 (by decide) (fun c13 => ?_) (fun c13 => ?_)
      · replace hf := q_neg c13 hf
        refine lv_aload_n S0.1 S0.2.1 dX8_done_84 rfl (lv_at hl 2 rfl) ?_
        refine lv_aload_n S0.1 S0.2.1 dX8_done_85 rfl (lv_at hl 1 rfl) ?_
        refine q_calli S0 hw (As := [.ref (ad 50 i2)]) (rest := []) (wX8_settle l D Y ad F i2 s9) qyX8_settle kw_869 ⟨Nat.le_of_ble_eq_true rfl, Nat.le_of_ble_eq_true rfl⟩ dC_0 rfl rfl rfl rfl hl.1 (Nat.le_of_ble_eq_true rfl) dX8_done_86 ⟨Nat.le_of_ble_eq_true rfl, Nat.le_of_ble_eq_true rfl⟩ rfl hf (fun v15 s14 H locs hw hf => ?_)
        refine lv_if_eq (tgt := 99) S0.1 S0.2.1 dX8_done_89 (by decide) (fun c16 => ?_) (fun c16 => ?_)
        · replace hf := q_pos c16 hf
          refine lv_bipush (v := (-100)) S0.1 S0.2.1 dX8_done_99 (by decide) ?_
          exact b101 ((-100)) s14 hf _ _ _ hw (lv_sub hl [] rfl)
        · replace hf := q_neg c16 hf
          refine lv_aload_n S0.1 S0.2.1 dX8_done_92 rfl (lv_at hl 2 rfl) ?_
          refine gX8_lastChange S0 hw kw_242 dX8_done_93 hf (fun v17 hf => ?_)
          refine lv_goto (tgt := 101) S0.1 S0.2.1 dX8_done_96 (by decide) ?_
          exact b101 v17 s14 hf _ _ _ hw (lv_sub hl [] rfl)
      · replace hf := q_pos c13 hf
        refine lv_aload_n S0.1 S0.2.1 dX8_done_66 rfl (lv_at hl 2 rfl) ?_
        refine lv_aload_n S0.1 S0.2.1 dX8_done_67 rfl (lv_at hl 1 rfl) ?_
        obtain ⟨hd, hf⟩ := gnl_some hf
        refine gX6_server S0 hw hd kw_483 dX8_done_68 hf (fun i18 hf => ?_)
        refine lv_aload_n S0.1 S0.2.1 dX8_done_71 rfl (lv_at hl 2 rfl) ?_
        refine gX8_lastChange S0 hw kw_242 dX8_done_72 hf (fun v19 hf => ?_)
        refine q_calli S0 hw (As := [.ref (ad 8 i18), .int v19]) (rest := []) (wX8_catchUp l D Y ad F i18 v19 s9) qyX8_catchUp kw_700 ⟨Nat.le_of_ble_eq_true rfl, Nat.le_of_ble_eq_true rfl⟩ dC_0 rfl rfl rfl rfl hl.1 (Nat.le_of_ble_eq_true rfl) dX8_done_75 ⟨Nat.le_of_ble_eq_true rfl, Nat.le_of_ble_eq_true rfl⟩ rfl hf (fun v21 s20 H locs hw hf => ?_)
        refine lv_pop S0.1 S0.2.1 dX8_done_78 rfl ?_
        refine lv_aload_n S0.1 S0.2.1 dX8_done_79 rfl (lv_at hl 2 rfl) ?_
        refine gX8_lastChange S0 hw kw_242 dX8_done_80 hf (fun v22 hf => ?_)
        refine W.widen (k := 3) (n := 18) (by decide) (by decide) ?_
        exact hret dX8_done_83 hw hf
    · replace hf := q_neg c11 hf
      refine lv_aload_n S0.1 S0.2.1 dX8_done_51 rfl (lv_at hl 2 rfl) ?_
      refine q_callv S0 hw (As := []) (rest := []) (wX8_undo l D Y ad F s9) qyX8_undo kw_873 ⟨Nat.le_of_ble_eq_true rfl, Nat.le_of_ble_eq_true rfl⟩ dC_0 rfl rfl rfl rfl hl.1 (Nat.le_of_ble_eq_true rfl) dX8_done_52 ⟨Nat.le_of_ble_eq_true rfl, Nat.le_of_ble_eq_true rfl⟩ rfl hf (fun s23 H locs hw hf => ?_)
      refine lv_iconst (v := (-1)) S0.1 S0.2.1 dX8_done_55 (by decide) ?_
      refine lv_iload_n S0.1 S0.2.1 dX8_done_56 rfl (lv_at hl 0 rfl) ?_
      refine lv_isub S0.1 S0.2.1 dX8_done_57 (q_top hf (fun v24 hf => ?_))
      refine W.widen (k := 3) (n := 18) (by decide) (by decide) ?_
      exact hret dX8_done_58 hw hf
  · replace hf := q_pos c5 hf
    exact hthr qt3_247 (by decide) hw hf ⟨dX8_done_18, dX8_done_21, Or.inl ⟨dX8_done_22, dX8_done_24, dX8_done_27⟩⟩ hl.1 (Nat.le_of_ble_eq_true rfl) ⟨Nat.le_of_ble_eq_true rfl, Nat.le_of_ble_eq_true rfl⟩
theorem qyX8_answer : qY yX8_answer RX8 cX8_answer 4 (some .int) 2 := ⟨⟨kw_934, kw_935, kw_1, kw_936⟩, rfl, by decide, by decide, by decide +kernel⟩
def fX8_answer_46 (F : Nat) (t0 : Int32) (σ : qS) : Option (Int32 × Nat × qS) :=
  some (t0, 0, σ)
def fX8_answer_44 (F : Nat) (σ : qS) : Option (Int32 × Nat × qS) :=
  fX8_answer_46 F ((-100)) σ
def fX8_answer (F : Nat) (p1 : Int32) (p2 : Int32) (σ : qS) : Option (Int32 × Nat × qS) :=
  bnd3 (fX8_known F p1 σ) (fun i2 s1 => if 0 ≤ p2 then (gnl i2 (s1.2 0 0) (nm (s1.1 50 i2 13) fun v4 => (if v4 ≤ p2 then (fX8_answer_44 F s1) else (if 6 ≤ p2 then (fX8_answer_44 F s1) else (gnl i2 (s1.2 0 0) (gnl i2 (s1.2 0 0) (ldi 6 (s1.1 52 i2) p2 fun v7 => (fX8_answer_46 F v7 s1)))))))) else (some (0, 1, s1))) (fun e s => some (0, e, s))
set_option maxRecDepth 100000 in
set_option maxHeartbeats 4000000 in
theorem wX8_answer (l : Launch) (hst : l.stackTraces = false) (D : va_G) (Y : Nat → ClassId) (ad : qAd) (B0 F : Nat) (p1 : Int32) (p2 : Int32) (σ : qS) : qXi l yX8_answer cX8_answer 4 (some .int) 7 111 2 12 B0 D (cL Y) (qT Y) ad [.ref (ad 0 0), .int p1, .int p2] σ (fX8_answer F p1 p2 σ) := by
  refine q_oxi hst (by decide) (Nat.le_of_ble_eq_true rfl) ⟨by decide, by decide⟩ "Leasehall" rfl (fun p e s m below meth c A Q r0 S0 hf hw hG hAB hret hHx hthr ls hl => ?_)
  replace hl : lv_has ls 4 [(0, .ref (ad 0 0)), (1, .int p1), (2, .int p2)] := hl
  unfold fX8_answer at hf
  have b46 : ∀ (t0 : Int32) (σ : qS), fX8_answer_46 F t0 σ = some r0 → qAt p l e (qRx 7 111 2 12) s m ([.ref (ad 0 0), .int p1, .int p2] : List Value).toArray below meth c Q D (cL Y) (qT Y) A ad 4 1 6 46 [] [.int t0] σ := by
    clear hf hw hl ls
    intro t0 σ hf H locs ls hw hl
    unfold fX8_answer_46 at hf
    refine W.widen (k := 2) (n := 12) (by decide) (by decide) ?_
    exact hret dX8_answer_46 hw hf
  have b44 : ∀ (σ : qS), fX8_answer_44 F σ = some r0 → qAt p l e (qRx 7 111 2 12) s m ([.ref (ad 0 0), .int p1, .int p2] : List Value).toArray below meth c Q D (cL Y) (qT Y) A ad 4 1 6 44 [] [] σ := by
    clear hf hw hl ls
    intro σ hf H locs ls hw hl
    unfold fX8_answer_44 at hf
    refine lv_bipush (v := (-100)) S0.1 S0.2.1 dX8_answer_44 (by decide) ?_
    exact b46 ((-100)) σ hf _ _ _ hw (lv_sub hl [] rfl)
  refine lv_aload_n S0.1 S0.2.1 dX8_answer_0 rfl (lv_at hl 0 rfl) ?_
  refine lv_iload_n S0.1 S0.2.1 dX8_answer_1 rfl (lv_at hl 1 rfl) ?_
  refine q_xcallr S0 hG hAB hw (As := [.int p1]) (rest := []) (wX8_known l hst D Y ad B0 F p1 σ) qyX8_known kw_599 ⟨Nat.le_of_ble_eq_true rfl, Nat.le_of_ble_eq_true rfl⟩ dC_0 rfl rfl rfl rfl hl.1 (Nat.le_of_ble_eq_true rfl) dX8_answer_2 ⟨Nat.le_of_ble_eq_true rfl, Nat.le_of_ble_eq_true rfl⟩ rfl hf (fun ex ce q9 s9 H locs hw hf hne hce hcv hcl => hHx hw hf hne hce hcv hcl (Nat.le_of_ble_eq_true rfl) (Nat.le_of_ble_eq_true rfl)) (fun i2 s1 H locs hw hf => ?_)
  refine lv_astore_n (lv' := [(3, .ref (ad 50 i2)), (0, .ref (ad 0 0)), (1, .int p1), (2, .int p2)]) S0.1 S0.2.1 dX8_answer_5 rfl hl (by decide) rfl (fun ls hl => ?_)
  refine lv_iload_n S0.1 S0.2.1 dX8_answer_6 rfl (lv_at hl 3 rfl) ?_
  refine lv_if_ge (tgt := 21) S0.1 S0.2.1 dX8_answer_7 (by decide) (fun c3 => ?_) (fun c3 => ?_)
  · replace hf := q_pos c3 hf
    refine lv_iload_n S0.1 S0.2.1 dX8_answer_21 rfl (lv_at hl 3 rfl) ?_
    refine lv_aload_n S0.1 S0.2.1 dX8_answer_22 rfl (lv_at hl 0 rfl) ?_
    obtain ⟨hd, hf⟩ := gnl_some hf
    refine gX6_answered S0 hw hd kw_493 dX8_answer_23 hf (fun v4 hf => ?_)
    refine lv_icmp_ge (tgt := 44) S0.1 S0.2.1 dX8_answer_26 (by decide) (fun c5 => ?_) (fun c5 => ?_)
    · replace hf := q_pos c5 hf
      exact b44 s1 hf _ _ _ hw (lv_sub hl [] rfl)
    · replace hf := q_neg c5 hf
      refine lv_iload_n S0.1 S0.2.1 dX8_answer_29 rfl (lv_at hl 3 rfl) ?_
      refine lv_bipush (v := 6) S0.1 S0.2.1 dX8_answer_30 (by decide) ?_
      refine lv_icmp_ge (tgt := 44) S0.1 S0.2.1 dX8_answer_32 (by decide) (fun c6 => ?_) (fun c6 => ?_)
      · replace hf := q_pos c6 hf
        exact b44 s1 hf _ _ _ hw (lv_sub hl [] rfl)
      · replace hf := q_neg c6 hf
        refine lv_aload_n S0.1 S0.2.1 dX8_answer_35 rfl (lv_at hl 0 rfl) ?_
        obtain ⟨hd, hf⟩ := gnl_some hf
        refine gX6_answers S0 hw hd kw_477 dX8_answer_36 ?_
        refine lv_iload_n S0.1 S0.2.1 dX8_answer_39 rfl (lv_at hl 3 rfl) ?_
        obtain ⟨hd, hf⟩ := gnl_some hf
        refine q_iald (k := 52) (i := i2) S0 hw hd (t0 := 0) rfl rfl dX8_answer_40 hf (fun v7 hf => ?_)
        refine lv_goto (tgt := 46) S0.1 S0.2.1 dX8_answer_41 (by decide) ?_
        exact b46 v7 s1 hf _ _ _ hw (lv_sub hl [] rfl)
  · replace hf := q_neg c3 hf
    exact hthr qt1_262 (by decide) hw hf ⟨dX8_answer_10, dX8_answer_13, Or.inr ⟨dX8_answer_14, dX8_answer_17, dX8_answer_20⟩⟩ hl.1 (Nat.le_of_ble_eq_true rfl) ⟨Nat.le_of_ble_eq_true rfl, Nat.le_of_ble_eq_true rfl⟩
theorem qyX8_quota : qY yX8_quota RX8 cX8_quota 3 (some .int) 2 := ⟨⟨kw_942, kw_943, kw_1, kw_944⟩, rfl, by decide, by decide, by decide +kernel⟩
def fX8_quota (F : Nat) (p1 : Int32) (p2 : Int32) (σ : qS) : Option (Int32 × Nat × qS) :=
  bnd2 (fX8_isWithin F p2 0 80 σ) fun v2 s1 => (if v2 = 0 then (some (0, 2, s1)) else (bnd2 (fX7_holds F 0 p1 s1) fun v5 s4 => (if v5 = 0 then (some ((-1), 0, s4)) else (inx 80 p1 (nm (qI s4 14 0 p1.toNatClampNeg p2) fun s7 => (bnd2 (fX7_belowOf F 0 p1 s7) fun v9 s8 => (some (v9, 0, s8))))))))
set_option maxRecDepth 100000 in
set_option maxHeartbeats 4000000 in
theorem wX8_quota (l : Launch) (hst : l.stackTraces = false) (D : va_G) (Y : Nat → ClassId) (ad : qAd) (B0 F : Nat) (p1 : Int32) (p2 : Int32) (σ : qS) : qXi l yX8_quota cX8_quota 3 (some .int) 6 90 1 6 B0 D (cL Y) (qT Y) ad [.ref (ad 0 0), .int p1, .int p2] σ (fX8_quota F p1 p2 σ) := by
  refine q_oxi hst (by decide) (Nat.le_of_ble_eq_true rfl) ⟨by decide, by decide⟩ "Leasehall" rfl (fun p e s m below meth c A Q r0 S0 hf hw hG hAB hret hHx hthr ls hl => ?_)
  replace hl : lv_has ls 3 [(0, .ref (ad 0 0)), (1, .int p1), (2, .int p2)] := hl
  unfold fX8_quota at hf
  refine lv_iload_n S0.1 S0.2.1 dX8_quota_0 rfl (lv_at hl 2 rfl) ?_
  refine lv_iconst (v := 0) S0.1 S0.2.1 dX8_quota_1 (by decide) ?_
  refine lv_bipush (v := 80) S0.1 S0.2.1 dX8_quota_2 (by decide) ?_
  refine q_scalli S0 hw (As := [.int p2, .int 0, .int 80]) (rest := []) (wX8_isWithin l D Y ad F p2 0 80 σ) qsX8_isWithin kw_296 ⟨Nat.le_of_ble_eq_true rfl, Nat.le_of_ble_eq_true rfl⟩ rfl hl.1 (Nat.le_of_ble_eq_true rfl) dX8_quota_4 ⟨Nat.le_of_ble_eq_true rfl, Nat.le_of_ble_eq_true rfl⟩ rfl hf (fun v2 s1 H locs hw hf => ?_)
  refine lv_if_ne (tgt := 20) S0.1 S0.2.1 dX8_quota_7 (by decide) (fun c3 => ?_) (fun c3 => ?_)
  · replace hf := q_neg c3 hf
    refine lv_aload_n S0.1 S0.2.1 dX8_quota_20 rfl (lv_at hl 0 rfl) ?_
    refine gX8_truth S0 hw kw_229 dX8_quota_21 ?_
    refine lv_iload_n S0.1 S0.2.1 dX8_quota_24 rfl (lv_at hl 1 rfl) ?_
    refine q_calli (k := 30) (i := 0) S0 hw (As := [.int p1]) (rest := []) (wX7_holds l D Y ad F 0 p1 s1) qyX7_holds kw_814 ⟨Nat.le_of_ble_eq_true rfl, Nat.le_of_ble_eq_true rfl⟩ (show 0 < 6 by decide) rfl rfl rfl rfl hl.1 (Nat.le_of_ble_eq_true rfl) dX8_quota_25 ⟨Nat.le_of_ble_eq_true rfl, Nat.le_of_ble_eq_true rfl⟩ rfl hf (fun v5 s4 H locs hw hf => ?_)
    refine lv_if_ne (tgt := 33) S0.1 S0.2.1 dX8_quota_28 (by decide) (fun c6 => ?_) (fun c6 => ?_)
    · replace hf := q_neg c6 hf
      refine lv_aload_n S0.1 S0.2.1 dX8_quota_33 rfl (lv_at hl 0 rfl) ?_
      refine gX8_quotas S0 hw kw_237 dX8_quota_34 ?_
      refine lv_iload_n S0.1 S0.2.1 dX8_quota_37 rfl (lv_at hl 1 rfl) ?_
      refine lv_iload_n S0.1 S0.2.1 dX8_quota_38 rfl (lv_at hl 2 rfl) ?_
      refine q_iast S0 hw dC_14 (t0 := 0) (fun _ => rfl) rfl dX8_quota_39 hf (fun s7 H locs hw hf => ?_)
      refine lv_aload_n S0.1 S0.2.1 dX8_quota_40 rfl (lv_at hl 0 rfl) ?_
      refine gX8_truth S0 hw kw_229 dX8_quota_41 ?_
      refine lv_iload_n S0.1 S0.2.1 dX8_quota_44 rfl (lv_at hl 1 rfl) ?_
      refine q_calli (k := 30) (i := 0) S0 hw (As := [.int p1]) (rest := []) (wX7_belowOf l D Y ad F 0 p1 s7) qyX7_belowOf kw_311 ⟨Nat.le_of_ble_eq_true rfl, Nat.le_of_ble_eq_true rfl⟩ (show 0 < 6 by decide) rfl rfl rfl rfl hl.1 (Nat.le_of_ble_eq_true rfl) dX8_quota_45 ⟨Nat.le_of_ble_eq_true rfl, Nat.le_of_ble_eq_true rfl⟩ rfl hf (fun v9 s8 H locs hw hf => ?_)
      refine W.widen (k := 1) (n := 6) (by decide) (by decide) ?_
      exact hret dX8_quota_48 hw hf
    · replace hf := q_pos c6 hf
      refine lv_iconst (v := (-1)) S0.1 S0.2.1 dX8_quota_31 (by decide) ?_
      refine W.widen (k := 1) (n := 6) (by decide) (by decide) ?_
      exact hret dX8_quota_32 hw hf
  · replace hf := q_pos c3 hf
    exact hthr qt2_173 (by decide) hw hf ⟨dX8_quota_10, dX8_quota_13, Or.inl ⟨dX8_quota_14, dX8_quota_16, dX8_quota_19⟩⟩ hl.1 (Nat.le_of_ble_eq_true rfl) ⟨Nat.le_of_ble_eq_true rfl, Nat.le_of_ble_eq_true rfl⟩
theorem qyX8_read : qY yX8_read RX8 cX8_read 7 (some .int) 3 := ⟨⟨kw_949, kw_950, kw_1, kw_951⟩, rfl, by decide, by decide, by decide +kernel⟩
def fX8_read_74 (F : Nat) (t0 : Int32) (σ : qS) : Option (Int32 × Nat × qS) :=
  some (t0, 0, σ)
def fX8_read (F : Nat) (p1 : Int32) (p2 : Int32) (p3 : Int32) (σ : qS) : Option (Int32 × Nat × qS) :=
  bnd3 (fX8_known F p1 σ) (fun i2 s1 => bnd2 (fX8_isWithin F p3 0 9 s1) fun v4 s3 => (if v4 = 0 then (some (0, 2, s3)) else (bnd3 (fX8_wake F i2 s3) (fun _ s6 => gnl i2 (s6.2 0 0) (nm (s6.2 2 i2) fun i7 => (gnl i7 3 (gnl i2 (s6.2 0 0) (nm (s6.1 50 i2 1) fun v8 => (gnl i7 6 (bnd2 (fX7_readingRefused F i7 p2 v8 s6) fun v10 s9 => (if 0 ≤ v10 then (gnl i7 6 (bnd2 (fX7_told F i7 p2 p3 s9) fun v13 s12 => (fX8_read_74 F v13 s12))) else (fX8_read_74 F v10 s9))))))))) (fun e s => some (0, e, s))))) (fun e s => some (0, e, s))
set_option maxRecDepth 100000 in
set_option maxHeartbeats 4000000 in
theorem wX8_read (l : Launch) (hst : l.stackTraces = false) (D : va_G) (Y : Nat → ClassId) (ad : qAd) (B0 F : Nat) (p1 : Int32) (p2 : Int32) (p3 : Int32) (σ : qS) : qXi l yX8_read cX8_read 7 (some .int) 8 132 2 12 B0 D (cL Y) (qT Y) ad [.ref (ad 0 0), .int p1, .int p2, .int p3] σ (fX8_read F p1 p2 p3 σ) := by
  refine q_oxi hst (by decide) (Nat.le_of_ble_eq_true rfl) ⟨by decide, by decide⟩ "Leasehall" rfl (fun p e s m below meth c A Q r0 S0 hf hw hG hAB hret hHx hthr ls hl => ?_)
  replace hl : lv_has ls 7 [(0, .ref (ad 0 0)), (1, .int p1), (2, .int p2), (3, .int p3)] := hl
  unfold fX8_read at hf
  have b74 : ∀ (t0 : Int32) (σ : qS), fX8_read_74 F t0 σ = some r0 → qAt p l e (qRx 8 132 2 12) s m ([.ref (ad 0 0), .int p1, .int p2, .int p3] : List Value).toArray below meth c Q D (cL Y) (qT Y) A ad 7 2 12 74 [] [.int t0] σ := by
    clear hf hw hl ls
    intro t0 σ hf H locs ls hw hl
    unfold fX8_read_74 at hf
    exact hret dX8_read_74 hw hf
  refine lv_aload_n S0.1 S0.2.1 dX8_read_0 rfl (lv_at hl 0 rfl) ?_
  refine lv_iload_n S0.1 S0.2.1 dX8_read_1 rfl (lv_at hl 1 rfl) ?_
  refine q_xcallr S0 hG hAB hw (As := [.int p1]) (rest := []) (wX8_known l hst D Y ad B0 F p1 σ) qyX8_known kw_599 ⟨Nat.le_of_ble_eq_true rfl, Nat.le_of_ble_eq_true rfl⟩ dC_0 rfl rfl rfl rfl hl.1 (Nat.le_of_ble_eq_true rfl) dX8_read_2 ⟨Nat.le_of_ble_eq_true rfl, Nat.le_of_ble_eq_true rfl⟩ rfl hf (fun ex ce q9 s9 H locs hw hf hne hce hcv hcl => hHx hw hf hne hce hcv hcl (Nat.le_of_ble_eq_true rfl) (Nat.le_of_ble_eq_true rfl)) (fun i2 s1 H locs hw hf => ?_)
  refine lv_astore (lv' := [(4, .ref (ad 50 i2)), (0, .ref (ad 0 0)), (1, .int p1), (2, .int p2), (3, .int p3)]) S0.1 S0.2.1 dX8_read_5 hl (by decide) rfl (fun ls hl => ?_)
  refine lv_iload_n S0.1 S0.2.1 dX8_read_7 rfl (lv_at hl 4 rfl) ?_
  refine lv_iconst (v := 0) S0.1 S0.2.1 dX8_read_8 (by decide) ?_
  refine lv_bipush (v := 9) S0.1 S0.2.1 dX8_read_9 (by decide) ?_
  refine q_scalli S0 hw (As := [.int p3, .int 0, .int 9]) (rest := []) (wX8_isWithin l D Y ad F p3 0 9 s1) qsX8_isWithin kw_296 ⟨Nat.le_of_ble_eq_true rfl, Nat.le_of_ble_eq_true rfl⟩ rfl hl.1 (Nat.le_of_ble_eq_true rfl) dX8_read_11 ⟨Nat.le_of_ble_eq_true rfl, Nat.le_of_ble_eq_true rfl⟩ rfl hf (fun v4 s3 H locs hw hf => ?_)
  refine lv_if_ne (tgt := 28) S0.1 S0.2.1 dX8_read_14 (by decide) (fun c5 => ?_) (fun c5 => ?_)
  · replace hf := q_neg c5 hf
    refine lv_aload_n S0.1 S0.2.1 dX8_read_28 rfl (lv_at hl 1 rfl) ?_
    refine lv_aload S0.1 S0.2.1 dX8_read_29 (lv_at hl 0 rfl) ?_
    refine q_xcallv S0 hG hAB hw (As := [.ref (ad 50 i2)]) (rest := []) (wX8_wake l hst D Y ad B0 F i2 s3) qyX8_wake kw_682 ⟨Nat.le_of_ble_eq_true rfl, Nat.le_of_ble_eq_true rfl⟩ dC_0 rfl rfl rfl rfl hl.1 (Nat.le_of_ble_eq_true rfl) dX8_read_31 ⟨Nat.le_of_ble_eq_true rfl, Nat.le_of_ble_eq_true rfl⟩ rfl hf (fun ex ce q9 s9 H locs hw hf hne hce hcv hcl => hHx hw hf hne hce hcv hcl (Nat.le_of_ble_eq_true rfl) (Nat.le_of_ble_eq_true rfl)) (fun _ s6 H locs hw hf => ?_)
    refine lv_aload S0.1 S0.2.1 dX8_read_34 (lv_at hl 0 rfl) ?_
    obtain ⟨hd, hf⟩ := gnl_some hf
    refine gX6_server S0 hw hd kw_483 dX8_read_36 hf (fun i7 hf => ?_)
    obtain ⟨hd, hf⟩ := gnl_some hf
    refine gX5_tree S0 hw hd kw_211 dX8_read_39 ?_
    refine lv_astore (lv' := [(5, .ref (ad 30 i7)), (4, .ref (ad 50 i2)), (0, .ref (ad 0 0)), (1, .int p1), (2, .int p2), (3, .int p3)]) S0.1 S0.2.1 dX8_read_42 hl (by decide) rfl (fun ls hl => ?_)
    refine lv_aload S0.1 S0.2.1 dX8_read_44 (lv_at hl 0 rfl) ?_
    refine lv_iload_n S0.1 S0.2.1 dX8_read_46 rfl (lv_at hl 4 rfl) ?_
    refine lv_aload S0.1 S0.2.1 dX8_read_47 (lv_at hl 1 rfl) ?_
    obtain ⟨hd, hf⟩ := gnl_some hf
    refine gX6_person S0 hw hd kw_471 dX8_read_49 hf (fun v8 hf => ?_)
    obtain ⟨hd, hf⟩ := gnl_some hf
    refine q_calli (k := 30) (i := i7) S0 hw (As := [.int p2, .int v8]) (rest := []) (wX7_readingRefused l D Y ad F i7 p2 v8 s6) qyX7_readingRefused kw_855 ⟨Nat.le_of_ble_eq_true rfl, Nat.le_of_ble_eq_true rfl⟩ hd rfl rfl rfl rfl hl.1 (Nat.le_of_ble_eq_true rfl) dX8_read_52 ⟨Nat.le_of_ble_eq_true rfl, Nat.le_of_ble_eq_true rfl⟩ rfl hf (fun v10 s9 H locs hw hf => ?_)
    refine lv_istore (lv' := [(6, .int v10), (5, .ref (ad 30 i7)), (4, .ref (ad 50 i2)), (0, .ref (ad 0 0)), (1, .int p1), (2, .int p2), (3, .int p3)]) S0.1 S0.2.1 dX8_read_55 hl (by decide) rfl (fun ls hl => ?_)
    refine lv_iload S0.1 S0.2.1 dX8_read_57 (lv_at hl 0 rfl) ?_
    refine lv_if_ge (tgt := 67) S0.1 S0.2.1 dX8_read_59 (by decide) (fun c11 => ?_) (fun c11 => ?_)
    · replace hf := q_pos c11 hf
      refine lv_aload S0.1 S0.2.1 dX8_read_67 (lv_at hl 1 rfl) ?_
      refine lv_iload_n S0.1 S0.2.1 dX8_read_69 rfl (lv_at hl 5 rfl) ?_
      refine lv_iload_n S0.1 S0.2.1 dX8_read_70 rfl (lv_at hl 6 rfl) ?_
      obtain ⟨hd, hf⟩ := gnl_some hf
      refine q_calli (k := 30) (i := i7) S0 hw (As := [.int p2, .int p3]) (rest := []) (wX7_told l D Y ad F i7 p2 p3 s9) qyX7_told kw_860 ⟨Nat.le_of_ble_eq_true rfl, Nat.le_of_ble_eq_true rfl⟩ hd rfl rfl rfl rfl hl.1 (Nat.le_of_ble_eq_true rfl) dX8_read_71 ⟨Nat.le_of_ble_eq_true rfl, Nat.le_of_ble_eq_true rfl⟩ rfl hf (fun v13 s12 H locs hw hf => ?_)
      exact b74 v13 s12 hf _ _ _ hw (lv_sub hl [] rfl)
    · replace hf := q_neg c11 hf
      refine lv_iload S0.1 S0.2.1 dX8_read_62 (lv_at hl 0 rfl) ?_
      refine lv_goto (tgt := 74) S0.1 S0.2.1 dX8_read_64 (by decide) ?_
      exact b74 v10 s9 hf _ _ _ hw (lv_sub hl [] rfl)
  · replace hf := q_pos c5 hf
    exact hthr qt2_275 (by decide) hw hf ⟨dX8_read_17, dX8_read_20, Or.inr ⟨dX8_read_21, dX8_read_24, dX8_read_27⟩⟩ hl.1 (Nat.le_of_ble_eq_true rfl) ⟨Nat.le_of_ble_eq_true rfl, Nat.le_of_ble_eq_true rfl⟩

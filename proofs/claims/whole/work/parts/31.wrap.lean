/-! THE LAW'S WRAPPERS -/
theorem gx_fX8_lease {F : Nat} {p1 : Int32} {σ : qS} {r : Int32 × Nat × qS} (h : fX8_lease F p1 σ = some r) : r.2.1 ∈ ([0, 2, 3] : List Nat) := by
  unfold fX8_lease at h
  obtain ⟨v1, s1, -, h⟩ := bnd2_some h
  rcases ite_some h with ⟨-, h⟩ | ⟨-, h⟩
  · cases h; exact (by decide : 2 ∈ [0, 2, 3])
  · obtain ⟨-, h⟩ := gnl_some h
    rcases ite_some h with ⟨-, h⟩ | ⟨-, h⟩
    · cases h; exact (by decide : 0 ∈ [0, 2, 3])
    · cases h; exact (by decide : 3 ∈ [0, 2, 3])
theorem gn_fX8_lease {F : Nat} {p1 : Int32} {σ : qS} {r : Int32 × Nat × qS} (h : fX8_lease F p1 σ = some r) (hne : r.2.1 ≠ 0) : r.2.2.2 0 0 = σ.2 0 0 ∧ r.2.2.2 1 0 = σ.2 1 0 := by
  unfold fX8_lease at h
  obtain ⟨v1, s1, e1, h⟩ := bnd2_some h
  have e2 := gn_fX8_isWithin e1
  rcases ite_some h with ⟨-, h⟩ | ⟨-, h⟩
  · cases h; exact e2
  · obtain ⟨-, h⟩ := gnl_some h
    rcases ite_some h with ⟨-, h⟩ | ⟨-, h⟩
    · cases h; exact absurd rfl hne
    · cases h; exact e2
theorem gx_fX8_open {F : Nat} {p1 p2 p3 : Int32} {σ : qS} {r : Int32 × Nat × qS} (h : fX8_open F p1 p2 p3 σ = some r) : r.2.1 ∈ ([0, 1, 2, 3] : List Nat) := by
  unfold fX8_open at h
  obtain ⟨v1, s1, -, h⟩ := bnd2_some h
  rcases ite_some h with ⟨-, h⟩ | ⟨-, h⟩
  · cases h; exact (by decide : 1 ∈ [0, 1, 2, 3])
  · obtain ⟨i2, w1, s2, g9, h3, h4⟩ := bnd3_some h
    by_cases c9 : w1 = 0
    · replace h := h3 c9
      rcases ite_some h with ⟨-, h⟩ | ⟨-, h⟩
      · obtain ⟨v3, s3, -, h⟩ := bnd2_some h
        rcases ite_some h with ⟨-, h⟩ | ⟨-, h⟩
        · cases h; exact (by decide : 2 ∈ [0, 1, 2, 3])
        · obtain ⟨-, h⟩ := gnl_some h
          obtain ⟨-, h⟩ := gnl_some h
          rcases ite_some h with ⟨-, h⟩ | ⟨-, h⟩
          · cases h; exact (by decide : 0 ∈ [0, 1, 2, 3])
          · cases h; exact (by decide : 3 ∈ [0, 1, 2, 3])
      · cases h
    · have g8 := gx_fX8_knownServer g9
      replace h := h4 c9
      cases h
      exact (by decide : ∀ x ∈ [0, 1], x ∈ [0, 1, 2, 3]) _ g8
theorem gn_fX8_open {F : Nat} {p1 p2 p3 : Int32} {σ : qS} {r : Int32 × Nat × qS} (h : fX8_open F p1 p2 p3 σ = some r) (hne : r.2.1 ≠ 0) : r.2.2.2 0 0 = σ.2 0 0 ∧ r.2.2.2 1 0 = σ.2 1 0 := by
  unfold fX8_open at h
  obtain ⟨v1, s1, e1, h⟩ := bnd2_some h
  have e2 := gn_fX8_isWithin e1
  rcases ite_some h with ⟨-, h⟩ | ⟨-, h⟩
  · cases h; exact e2
  · obtain ⟨i2, w1, s2, g9, h3, h4⟩ := bnd3_some h
    have e3 := n01_tr e2 (gn_fX8_knownServer g9)
    by_cases c9 : w1 = 0
    · replace h := h3 c9
      rcases ite_some h with ⟨-, h⟩ | ⟨-, h⟩
      · obtain ⟨v3, s3, e4, h⟩ := bnd2_some h
        have e5 := n01_tr e3 (gn_fX8_isWithin e4)
        rcases ite_some h with ⟨-, h⟩ | ⟨-, h⟩
        · cases h; exact e5
        · obtain ⟨-, h⟩ := gnl_some h
          obtain ⟨-, h⟩ := gnl_some h
          rcases ite_some h with ⟨-, h⟩ | ⟨-, h⟩
          · cases h; exact absurd rfl hne
          · cases h; exact e5
      · cases h
    · replace h := h4 c9
      cases h
      exact e3
set_option maxRecDepth 100000 in
set_option maxHeartbeats 4000000 in
theorem wL_open (l : Launch) (hst : l.stackTraces = false) (D : va_G) (Y : Nat → ClassId) (ad : qAd) (o : Nat) (g : Nat → Int64) (B0 e0 F : Nat) (p1 : Int32) (p2 : Int32) (p3 : Int32) (σ : qS) : qLw l yL_open cL_open 6 [(0, 12, 15, 13), (0, 12, 19, 15), (0, 12, 23, 17)] 8 165 (fun _ => 15) (fun _ => 124) B0 e0 D Y ad o g [.ref (ad 0 0), .int p1, .int p2, .int p3, .ref o] σ (fX8_open F p1 p2 p3 σ) (fun e => if e = 0 then 0 else if e = 1 then 1 else if e = 2 then 2 else if e = 3 then 3 else 0) (fun ex v => if ex = 0 then vp_updL g 0 v.toInt64 else g) := by
  refine q_olw (by decide) (Nat.le_of_ble_eq_true rfl) "LeasehallLaw" rfl (fun p e s m below meth c A Q r0 S0 htab hf hok hw hG hAB hE hNc hret ls hl => ?_)
  replace hl : lv_has ls 6 [(0, .ref (ad 0 0)), (1, .int p1), (2, .int p2), (3, .int p3), (4, .ref o)] := hl
  refine lv_aload S0.1 S0.2.1 dL_open_0 (lv_at hl 4 rfl) ?_
  refine lv_iconst (v := 0) S0.1 S0.2.1 dL_open_2 (by decide) ?_
  refine lv_aload_n S0.1 S0.2.1 dL_open_3 rfl (lv_at hl 0 rfl) ?_
  refine lv_iload_n S0.1 S0.2.1 dL_open_4 rfl (lv_at hl 1 rfl) ?_
  refine lv_iload_n S0.1 S0.2.1 dL_open_5 rfl (lv_at hl 2 rfl) ?_
  refine lv_iload_n S0.1 S0.2.1 dL_open_6 rfl (lv_at hl 3 rfl) ?_
  refine o_ucalli S0 hG hE hAB hok hw (As := [.int p1, .int p2, .int p3]) (rest := [.int 0, .ref o]) (u_ofY (wX8_open l hst D Y ad B0 e0 F p1 p2 p3 σ) (fun r h => gn_fX8_open h)) qyX8_open kw_330 ⟨Nat.le_of_ble_eq_true rfl, Nat.le_of_ble_eq_true rfl⟩ r0 hf rfl hl.1 (Nat.le_of_ble_eq_true rfl) dL_open_7 ⟨Nat.le_of_ble_eq_true rfl, Nat.le_of_ble_eq_true rfl⟩ rfl (fun ex ce q9 r ad' σ' H locs hw h00 hok hfv hne hce hcv hcl => ?_) (fun r ad' σ' H locs hw h00 hok hfv => ?_)
  · replace hne : ex ∈ ([0, 1, 2, 3] : List Nat) ∧ ex ≠ 0 := ⟨gx_fX8_open hfv, hne⟩
    simp only [List.mem_cons, List.not_mem_nil, or_false] at hne
    obtain ⟨hx, hne⟩ := hne
    rcases hx with rfl | rfl | rfl | rfl
    · exact absurd rfl hne
    · refine vx_catch (own := "LeasehallLaw") (name := exN 1) (E := exN 1) S0.2.2.2.1 (tableOf []) ⟨0, 12, 15, 13⟩ (tableOf [(0, 12, 19, 15), (0, 12, 23, 17)]) (htab.trans rfl) (fun z hz => by simp [tableOf] at hz) rfl (by decide) (S0.2.2.2.2 _ kw_327) (va_Nw.use rfl (hNc.2 1 (by decide))) hce hcv hcl ?_
      refine lv_astore (lv' := [(5, .ref q9), (0, .ref (ad 0 0)), (1, .int p1), (2, .int p2), (3, .int p3), (4, .ref o)]) S0.1 S0.2.1 dL_open_15 hl (by decide) rfl (fun ls hl => ?_)
      refine lv_iconst (v := 1) S0.1 S0.2.1 dL_open_17 (by decide) ?_
      exact hret (ex := 1) (v := r) dL_open_18 hw h00 hok hfv rfl
    · refine vx_catch (own := "LeasehallLaw") (name := exN 2) (E := exN 2) S0.2.2.2.1 (tableOf [(0, 12, 15, 13)]) ⟨0, 12, 19, 15⟩ (tableOf [(0, 12, 23, 17)]) (htab.trans rfl) (fun z hz => by
        simp only [tableOf, List.map_cons, List.map_nil, List.mem_cons, List.not_mem_nil, or_false] at hz
        rw [hz]
        exact Or.inr ⟨by decide, exN 1, S0.2.2.2.2 _ kw_327, hNc.1 (2, 1) (by decide)⟩) rfl (by decide) (S0.2.2.2.2 _ kw_328) (va_Nw.use rfl (hNc.2 2 (by decide))) hce hcv hcl ?_
      refine lv_astore (lv' := [(5, .ref q9), (0, .ref (ad 0 0)), (1, .int p1), (2, .int p2), (3, .int p3), (4, .ref o)]) S0.1 S0.2.1 dL_open_19 hl (by decide) rfl (fun ls hl => ?_)
      refine lv_iconst (v := 2) S0.1 S0.2.1 dL_open_21 (by decide) ?_
      exact hret (ex := 2) (v := r) dL_open_22 hw h00 hok hfv rfl
    · refine vx_catch (own := "LeasehallLaw") (name := exN 3) (E := exN 3) S0.2.2.2.1 (tableOf [(0, 12, 15, 13), (0, 12, 19, 15)]) ⟨0, 12, 23, 17⟩ (tableOf []) (htab.trans rfl) (fun z hz => by
        simp only [tableOf, List.map_cons, List.map_nil, List.mem_cons, List.not_mem_nil, or_false] at hz
        rcases hz with rfl | rfl
        · exact Or.inr ⟨by decide, exN 1, S0.2.2.2.2 _ kw_327, hNc.1 (3, 1) (by decide)⟩
        · exact Or.inr ⟨by decide, exN 2, S0.2.2.2.2 _ kw_328, hNc.1 (3, 2) (by decide)⟩) rfl (by decide) (S0.2.2.2.2 _ kw_329) (va_Nw.use rfl (hNc.2 3 (by decide))) hce hcv hcl ?_
      refine lv_astore (lv' := [(5, .ref q9), (0, .ref (ad 0 0)), (1, .int p1), (2, .int p2), (3, .int p3), (4, .ref o)]) S0.1 S0.2.1 dL_open_23 hl (by decide) rfl (fun ls hl => ?_)
      refine lv_iconst (v := 3) S0.1 S0.2.1 dL_open_25 (by decide) ?_
      exact hret (ex := 3) (v := r) dL_open_26 hw h00 hok hfv rfl
  · refine lv_i2l (v := r.toInt64) S0.1 S0.2.1 dL_open_10 rfl ?_
    refine o_last S0 hw dL_open_11 (fun H locs hw => ?_)
    refine lv_goto (tgt := 27) S0.1 S0.2.1 dL_open_12 (by decide) ?_
    refine lv_iconst (v := 0) S0.1 S0.2.1 dL_open_27 (by decide) ?_
    exact hret (ex := 0) (v := r) dL_open_28 hw h00 hok hfv rfl
set_option maxRecDepth 100000 in
set_option maxHeartbeats 4000000 in
theorem wL_close (l : Launch) (hst : l.stackTraces = false) (D : va_G) (Y : Nat → ClassId) (ad : qAd) (o : Nat) (g : Nat → Int64) (B0 e0 F : Nat) (p1 : Int32) (σ : qS) : qLw l yL_close cL_close 4 [(0, 9, 12, 13), (0, 9, 15, 17)] 8 161 (fun _ => 2) (fun _ => 12) B0 e0 D Y ad o g [.ref (ad 0 0), .int p1, .ref o] σ (fX8_close F p1 σ) (fun e => if e = 0 then 0 else if e = 1 then 1 else if e = 3 then 2 else 0) (fun ex v => if ex = 0 then vp_updL g 0 v.toInt64 else g) := by
  refine q_olw (by decide) (Nat.le_of_ble_eq_true rfl) "LeasehallLaw" rfl (fun p e s m below meth c A Q r0 S0 htab hf hok hw hG hAB hE hNc hret ls hl => ?_)
  replace hl : lv_has ls 4 [(0, .ref (ad 0 0)), (1, .int p1), (2, .ref o)] := hl
  refine lv_aload_n S0.1 S0.2.1 dL_close_0 rfl (lv_at hl 2 rfl) ?_
  refine lv_iconst (v := 0) S0.1 S0.2.1 dL_close_1 (by decide) ?_
  refine lv_aload_n S0.1 S0.2.1 dL_close_2 rfl (lv_at hl 0 rfl) ?_
  refine lv_iload_n S0.1 S0.2.1 dL_close_3 rfl (lv_at hl 1 rfl) ?_
  refine o_ucalli S0 hG hE hAB hok hw (As := [.int p1]) (rest := [.int 0, .ref o]) (u_ofX (e0 := e0) (wX8_close l hst D Y ad B0 F p1 σ) (fun r h => gn_fX8_close h)) qyX8_close kw_595 ⟨Nat.le_of_ble_eq_true rfl, Nat.le_of_ble_eq_true rfl⟩ r0 hf rfl hl.1 (Nat.le_of_ble_eq_true rfl) dL_close_4 ⟨Nat.le_of_ble_eq_true rfl, Nat.le_of_ble_eq_true rfl⟩ rfl (fun ex ce q9 r ad' σ' H locs hw h00 hok hfv hne hce hcv hcl => ?_) (fun r ad' σ' H locs hw h00 hok hfv => ?_)
  · replace hne : ex ∈ ([0, 1, 3] : List Nat) ∧ ex ≠ 0 := ⟨gx_fX8_close hfv, hne⟩
    simp only [List.mem_cons, List.not_mem_nil, or_false] at hne
    obtain ⟨hx, hne⟩ := hne
    rcases hx with rfl | rfl | rfl
    · exact absurd rfl hne
    · refine vx_catch (own := "LeasehallLaw") (name := exN 1) (E := exN 1) S0.2.2.2.1 (tableOf []) ⟨0, 9, 12, 13⟩ (tableOf [(0, 9, 15, 17)]) (htab.trans rfl) (fun z hz => by simp [tableOf] at hz) rfl (by decide) (S0.2.2.2.2 _ kw_327) (va_Nw.use rfl (hNc.2 1 (by decide))) hce hcv hcl ?_
      refine lv_astore_n (lv' := [(3, .ref q9), (0, .ref (ad 0 0)), (1, .int p1), (2, .ref o)]) S0.1 S0.2.1 dL_close_12 rfl hl (by decide) rfl (fun ls hl => ?_)
      refine lv_iconst (v := 1) S0.1 S0.2.1 dL_close_13 (by decide) ?_
      exact hret (ex := 1) (v := r) dL_close_14 hw h00 hok hfv rfl
    · refine vx_catch (own := "LeasehallLaw") (name := exN 3) (E := exN 3) S0.2.2.2.1 (tableOf [(0, 9, 12, 13)]) ⟨0, 9, 15, 17⟩ (tableOf []) (htab.trans rfl) (fun z hz => by
        simp only [tableOf, List.map_cons, List.map_nil, List.mem_cons, List.not_mem_nil, or_false] at hz
        rw [hz]
        exact Or.inr ⟨by decide, exN 1, S0.2.2.2.2 _ kw_327, hNc.1 (3, 1) (by decide)⟩) rfl (by decide) (S0.2.2.2.2 _ kw_329) (va_Nw.use rfl (hNc.2 3 (by decide))) hce hcv hcl ?_
      refine lv_astore_n (lv' := [(3, .ref q9), (0, .ref (ad 0 0)), (1, .int p1), (2, .ref o)]) S0.1 S0.2.1 dL_close_15 rfl hl (by decide) rfl (fun ls hl => ?_)
      refine lv_iconst (v := 2) S0.1 S0.2.1 dL_close_16 (by decide) ?_
      exact hret (ex := 3) (v := r) dL_close_17 hw h00 hok hfv rfl
  · refine lv_i2l (v := r.toInt64) S0.1 S0.2.1 dL_close_7 rfl ?_
    refine o_last S0 hw dL_close_8 (fun H locs hw => ?_)
    refine lv_goto (tgt := 18) S0.1 S0.2.1 dL_close_9 (by decide) ?_
    refine lv_iconst (v := 0) S0.1 S0.2.1 dL_close_18 (by decide) ?_
    exact hret (ex := 0) (v := r) dL_close_19 hw h00 hok hfv rfl
set_option maxRecDepth 100000 in
set_option maxHeartbeats 4000000 in
theorem wL_ping (l : Launch) (hst : l.stackTraces = false) (D : va_G) (Y : Nat → ClassId) (ad : qAd) (o : Nat) (g : Nat → Int64) (B0 e0 F : Nat) (p1 : Int32) (σ : qS) : qLw l yL_ping cL_ping 4 [(0, 9, 12, 13), (0, 9, 15, 17)] 9 154 (fun _ => 2) (fun _ => 12) B0 e0 D Y ad o g [.ref (ad 0 0), .int p1, .ref o] σ (fX8_ping F p1 σ) (fun e => if e = 0 then 0 else if e = 1 then 1 else if e = 3 then 2 else 0) (fun ex v => if ex = 0 then vp_updL g 0 v.toInt64 else g) := by
  refine q_olw (by decide) (Nat.le_of_ble_eq_true rfl) "LeasehallLaw" rfl (fun p e s m below meth c A Q r0 S0 htab hf hok hw hG hAB hE hNc hret ls hl => ?_)
  replace hl : lv_has ls 4 [(0, .ref (ad 0 0)), (1, .int p1), (2, .ref o)] := hl
  refine lv_aload_n S0.1 S0.2.1 dL_ping_0 rfl (lv_at hl 2 rfl) ?_
  refine lv_iconst (v := 0) S0.1 S0.2.1 dL_ping_1 (by decide) ?_
  refine lv_aload_n S0.1 S0.2.1 dL_ping_2 rfl (lv_at hl 0 rfl) ?_
  refine lv_iload_n S0.1 S0.2.1 dL_ping_3 rfl (lv_at hl 1 rfl) ?_
  refine o_ucalli S0 hG hE hAB hok hw (As := [.int p1]) (rest := [.int 0, .ref o]) (u_ofX (e0 := e0) (wX8_ping l hst D Y ad B0 F p1 σ) (fun r h => gn_fX8_ping h)) qyX8_ping kw_678 ⟨Nat.le_of_ble_eq_true rfl, Nat.le_of_ble_eq_true rfl⟩ r0 hf rfl hl.1 (Nat.le_of_ble_eq_true rfl) dL_ping_4 ⟨Nat.le_of_ble_eq_true rfl, Nat.le_of_ble_eq_true rfl⟩ rfl (fun ex ce q9 r ad' σ' H locs hw h00 hok hfv hne hce hcv hcl => ?_) (fun r ad' σ' H locs hw h00 hok hfv => ?_)
  · replace hne : ex ∈ ([0, 1, 3] : List Nat) ∧ ex ≠ 0 := ⟨gx_fX8_ping hfv, hne⟩
    simp only [List.mem_cons, List.not_mem_nil, or_false] at hne
    obtain ⟨hx, hne⟩ := hne
    rcases hx with rfl | rfl | rfl
    · exact absurd rfl hne
    · refine vx_catch (own := "LeasehallLaw") (name := exN 1) (E := exN 1) S0.2.2.2.1 (tableOf []) ⟨0, 9, 12, 13⟩ (tableOf [(0, 9, 15, 17)]) (htab.trans rfl) (fun z hz => by simp [tableOf] at hz) rfl (by decide) (S0.2.2.2.2 _ kw_327) (va_Nw.use rfl (hNc.2 1 (by decide))) hce hcv hcl ?_
      refine lv_astore_n (lv' := [(3, .ref q9), (0, .ref (ad 0 0)), (1, .int p1), (2, .ref o)]) S0.1 S0.2.1 dL_ping_12 rfl hl (by decide) rfl (fun ls hl => ?_)
      refine lv_iconst (v := 1) S0.1 S0.2.1 dL_ping_13 (by decide) ?_
      exact hret (ex := 1) (v := r) dL_ping_14 hw h00 hok hfv rfl
    · refine vx_catch (own := "LeasehallLaw") (name := exN 3) (E := exN 3) S0.2.2.2.1 (tableOf [(0, 9, 12, 13)]) ⟨0, 9, 15, 17⟩ (tableOf []) (htab.trans rfl) (fun z hz => by
        simp only [tableOf, List.map_cons, List.map_nil, List.mem_cons, List.not_mem_nil, or_false] at hz
        rw [hz]
        exact Or.inr ⟨by decide, exN 1, S0.2.2.2.2 _ kw_327, hNc.1 (3, 1) (by decide)⟩) rfl (by decide) (S0.2.2.2.2 _ kw_329) (va_Nw.use rfl (hNc.2 3 (by decide))) hce hcv hcl ?_
      refine lv_astore_n (lv' := [(3, .ref q9), (0, .ref (ad 0 0)), (1, .int p1), (2, .ref o)]) S0.1 S0.2.1 dL_ping_15 rfl hl (by decide) rfl (fun ls hl => ?_)
      refine lv_iconst (v := 2) S0.1 S0.2.1 dL_ping_16 (by decide) ?_
      exact hret (ex := 3) (v := r) dL_ping_17 hw h00 hok hfv rfl
  · refine lv_i2l (v := r.toInt64) S0.1 S0.2.1 dL_ping_7 rfl ?_
    refine o_last S0 hw dL_ping_8 (fun H locs hw => ?_)
    refine lv_goto (tgt := 18) S0.1 S0.2.1 dL_ping_9 (by decide) ?_
    refine lv_iconst (v := 0) S0.1 S0.2.1 dL_ping_18 (by decide) ?_
    exact hret (ex := 0) (v := r) dL_ping_19 hw h00 hok hfv rfl
set_option maxRecDepth 100000 in
set_option maxHeartbeats 4000000 in
theorem wL_move (l : Launch) (hst : l.stackTraces = false) (D : va_G) (Y : Nat → ClassId) (ad : qAd) (o : Nat) (g : Nat → Int64) (B0 e0 F : Nat) (p1 : Int32) (p2 : Int32) (σ : qS) : qLw l yL_move cL_move 5 [(0, 17, 20, 13), (0, 17, 24, 17)] 9 156 (fun _ => 3) (fun _ => 18) B0 e0 D Y ad o g [.ref (ad 0 0), .int p1, .int p2, .ref o] σ (fX8_move F p1 p2 σ) (fun e => if e = 0 then 0 else if e = 1 then 1 else if e = 3 then 2 else 0) (fun ex v => if ex = 0 then vp_updL g 0 (if v = 0 then 0 else 1) else g) := by
  refine q_olw (by decide) (Nat.le_of_ble_eq_true rfl) "LeasehallLaw" rfl (fun p e s m below meth c A Q r0 S0 htab hf hok hw hG hAB hE hNc hret ls hl => ?_)
  replace hl : lv_has ls 5 [(0, .ref (ad 0 0)), (1, .int p1), (2, .int p2), (3, .ref o)] := hl
  refine lv_aload_n S0.1 S0.2.1 dL_move_0 rfl (lv_at hl 3 rfl) ?_
  refine lv_iconst (v := 0) S0.1 S0.2.1 dL_move_1 (by decide) ?_
  refine lv_aload_n S0.1 S0.2.1 dL_move_2 rfl (lv_at hl 0 rfl) ?_
  refine lv_iload_n S0.1 S0.2.1 dL_move_3 rfl (lv_at hl 1 rfl) ?_
  refine lv_iload_n S0.1 S0.2.1 dL_move_4 rfl (lv_at hl 2 rfl) ?_
  refine o_ucalli S0 hG hE hAB hok hw (As := [.int p1, .int p2]) (rest := [.int 0, .ref o]) (u_ofX (e0 := e0) (wX8_move l hst D Y ad B0 F p1 p2 σ) (fun r h => gn_fX8_move h)) qyX8_move kw_689 ⟨Nat.le_of_ble_eq_true rfl, Nat.le_of_ble_eq_true rfl⟩ r0 hf rfl hl.1 (Nat.le_of_ble_eq_true rfl) dL_move_5 ⟨Nat.le_of_ble_eq_true rfl, Nat.le_of_ble_eq_true rfl⟩ rfl (fun ex ce q9 r ad' σ' H locs hw h00 hok hfv hne hce hcv hcl => ?_) (fun r ad' σ' H locs hw h00 hok hfv => ?_)
  · replace hne : ex ∈ ([0, 1, 3] : List Nat) ∧ ex ≠ 0 := ⟨gx_fX8_move hfv, hne⟩
    simp only [List.mem_cons, List.not_mem_nil, or_false] at hne
    obtain ⟨hx, hne⟩ := hne
    rcases hx with rfl | rfl | rfl
    · exact absurd rfl hne
    · refine vx_catch (own := "LeasehallLaw") (name := exN 1) (E := exN 1) S0.2.2.2.1 (tableOf []) ⟨0, 17, 20, 13⟩ (tableOf [(0, 17, 24, 17)]) (htab.trans rfl) (fun z hz => by simp [tableOf] at hz) rfl (by decide) (S0.2.2.2.2 _ kw_327) (va_Nw.use rfl (hNc.2 1 (by decide))) hce hcv hcl ?_
      refine lv_astore (lv' := [(4, .ref q9), (0, .ref (ad 0 0)), (1, .int p1), (2, .int p2), (3, .ref o)]) S0.1 S0.2.1 dL_move_20 hl (by decide) rfl (fun ls hl => ?_)
      refine lv_iconst (v := 1) S0.1 S0.2.1 dL_move_22 (by decide) ?_
      exact hret (ex := 1) (v := r) dL_move_23 hw h00 hok hfv rfl
    · refine vx_catch (own := "LeasehallLaw") (name := exN 3) (E := exN 3) S0.2.2.2.1 (tableOf [(0, 17, 20, 13)]) ⟨0, 17, 24, 17⟩ (tableOf []) (htab.trans rfl) (fun z hz => by
        simp only [tableOf, List.map_cons, List.map_nil, List.mem_cons, List.not_mem_nil, or_false] at hz
        rw [hz]
        exact Or.inr ⟨by decide, exN 1, S0.2.2.2.2 _ kw_327, hNc.1 (3, 1) (by decide)⟩) rfl (by decide) (S0.2.2.2.2 _ kw_329) (va_Nw.use rfl (hNc.2 3 (by decide))) hce hcv hcl ?_
      refine lv_astore (lv' := [(4, .ref q9), (0, .ref (ad 0 0)), (1, .int p1), (2, .int p2), (3, .ref o)]) S0.1 S0.2.1 dL_move_24 hl (by decide) rfl (fun ls hl => ?_)
      refine lv_iconst (v := 2) S0.1 S0.2.1 dL_move_26 (by decide) ?_
      exact hret (ex := 3) (v := r) dL_move_27 hw h00 hok hfv rfl
  · refine lv_if_eq (tgt := 15) S0.1 S0.2.1 dL_move_8 (by decide) (fun c5 => ?_) (fun c5 => ?_)
    · refine lv_lconst (v := 0) S0.1 S0.2.1 dL_move_15 (by decide) ?_
      refine o_last S0 hw dL_move_16 (fun H locs hw => ?_)
      refine lv_goto (tgt := 28) S0.1 S0.2.1 dL_move_17 (by decide) ?_
      refine lv_iconst (v := 0) S0.1 S0.2.1 dL_move_28 (by decide) ?_
      exact hret (ex := 0) (v := r) dL_move_29 (by rw [show (if (0 : Nat) = 0 then vp_updL g 0 (if r = 0 then 0 else 1) else g) = vp_updL g 0 0 from by rw [if_pos rfl, if_pos c5]]; exact hw) h00 hok hfv rfl
    · refine lv_lconst (v := 1) S0.1 S0.2.1 dL_move_11 (by decide) ?_
      refine lv_goto (tgt := 16) S0.1 S0.2.1 dL_move_12 (by decide) ?_
      refine o_last S0 hw dL_move_16 (fun H locs hw => ?_)
      refine lv_goto (tgt := 28) S0.1 S0.2.1 dL_move_17 (by decide) ?_
      refine lv_iconst (v := 0) S0.1 S0.2.1 dL_move_28 (by decide) ?_
      exact hret (ex := 0) (v := r) dL_move_29 (by rw [show (if (0 : Nat) = 0 then vp_updL g 0 (if r = 0 then 0 else 1) else g) = vp_updL g 0 1 from by rw [if_pos rfl, if_neg c5]]; exact hw) h00 hok hfv rfl
set_option maxRecDepth 100000 in
set_option maxHeartbeats 4000000 in
theorem wL_sync (l : Launch) (hst : l.stackTraces = false) (D : va_G) (Y : Nat → ClassId) (ad : qAd) (o : Nat) (g : Nat → Int64) (B0 e0 F : Nat) (p1 : Int32) (σ : qS) : qLw l yL_sync cL_sync 4 [(0, 9, 12, 13), (0, 9, 15, 17)] 9 154 (fun _ => 2) (fun _ => 12) B0 e0 D Y ad o g [.ref (ad 0 0), .int p1, .ref o] σ (fX8_sync F p1 σ) (fun e => if e = 0 then 0 else if e = 1 then 1 else if e = 3 then 2 else 0) (fun ex v => if ex = 0 then vp_updL g 0 v.toInt64 else g) := by
  refine q_olw (by decide) (Nat.le_of_ble_eq_true rfl) "LeasehallLaw" rfl (fun p e s m below meth c A Q r0 S0 htab hf hok hw hG hAB hE hNc hret ls hl => ?_)
  replace hl : lv_has ls 4 [(0, .ref (ad 0 0)), (1, .int p1), (2, .ref o)] := hl
  refine lv_aload_n S0.1 S0.2.1 dL_sync_0 rfl (lv_at hl 2 rfl) ?_
  refine lv_iconst (v := 0) S0.1 S0.2.1 dL_sync_1 (by decide) ?_
  refine lv_aload_n S0.1 S0.2.1 dL_sync_2 rfl (lv_at hl 0 rfl) ?_
  refine lv_iload_n S0.1 S0.2.1 dL_sync_3 rfl (lv_at hl 1 rfl) ?_
  refine o_ucalli S0 hG hE hAB hok hw (As := [.int p1]) (rest := [.int 0, .ref o]) (u_ofX (e0 := e0) (wX8_sync l hst D Y ad B0 F p1 σ) (fun r h => gn_fX8_sync h)) qyX8_sync kw_696 ⟨Nat.le_of_ble_eq_true rfl, Nat.le_of_ble_eq_true rfl⟩ r0 hf rfl hl.1 (Nat.le_of_ble_eq_true rfl) dL_sync_4 ⟨Nat.le_of_ble_eq_true rfl, Nat.le_of_ble_eq_true rfl⟩ rfl (fun ex ce q9 r ad' σ' H locs hw h00 hok hfv hne hce hcv hcl => ?_) (fun r ad' σ' H locs hw h00 hok hfv => ?_)
  · replace hne : ex ∈ ([0, 1, 3] : List Nat) ∧ ex ≠ 0 := ⟨gx_fX8_sync hfv, hne⟩
    simp only [List.mem_cons, List.not_mem_nil, or_false] at hne
    obtain ⟨hx, hne⟩ := hne
    rcases hx with rfl | rfl | rfl
    · exact absurd rfl hne
    · refine vx_catch (own := "LeasehallLaw") (name := exN 1) (E := exN 1) S0.2.2.2.1 (tableOf []) ⟨0, 9, 12, 13⟩ (tableOf [(0, 9, 15, 17)]) (htab.trans rfl) (fun z hz => by simp [tableOf] at hz) rfl (by decide) (S0.2.2.2.2 _ kw_327) (va_Nw.use rfl (hNc.2 1 (by decide))) hce hcv hcl ?_
      refine lv_astore_n (lv' := [(3, .ref q9), (0, .ref (ad 0 0)), (1, .int p1), (2, .ref o)]) S0.1 S0.2.1 dL_sync_12 rfl hl (by decide) rfl (fun ls hl => ?_)
      refine lv_iconst (v := 1) S0.1 S0.2.1 dL_sync_13 (by decide) ?_
      exact hret (ex := 1) (v := r) dL_sync_14 hw h00 hok hfv rfl
    · refine vx_catch (own := "LeasehallLaw") (name := exN 3) (E := exN 3) S0.2.2.2.1 (tableOf [(0, 9, 12, 13)]) ⟨0, 9, 15, 17⟩ (tableOf []) (htab.trans rfl) (fun z hz => by
        simp only [tableOf, List.map_cons, List.map_nil, List.mem_cons, List.not_mem_nil, or_false] at hz
        rw [hz]
        exact Or.inr ⟨by decide, exN 1, S0.2.2.2.2 _ kw_327, hNc.1 (3, 1) (by decide)⟩) rfl (by decide) (S0.2.2.2.2 _ kw_329) (va_Nw.use rfl (hNc.2 3 (by decide))) hce hcv hcl ?_
      refine lv_astore_n (lv' := [(3, .ref q9), (0, .ref (ad 0 0)), (1, .int p1), (2, .ref o)]) S0.1 S0.2.1 dL_sync_15 rfl hl (by decide) rfl (fun ls hl => ?_)
      refine lv_iconst (v := 2) S0.1 S0.2.1 dL_sync_16 (by decide) ?_
      exact hret (ex := 3) (v := r) dL_sync_17 hw h00 hok hfv rfl
  · refine lv_i2l (v := r.toInt64) S0.1 S0.2.1 dL_sync_7 rfl ?_
    refine o_last S0 hw dL_sync_8 (fun H locs hw => ?_)
    refine lv_goto (tgt := 18) S0.1 S0.2.1 dL_sync_9 (by decide) ?_
    refine lv_iconst (v := 0) S0.1 S0.2.1 dL_sync_18 (by decide) ?_
    exact hret (ex := 0) (v := r) dL_sync_19 hw h00 hok hfv rfl
set_option maxRecDepth 100000 in
set_option maxHeartbeats 4000000 in
theorem wL_follow (l : Launch) (hst : l.stackTraces = false) (D : va_G) (Y : Nat → ClassId) (ad : qAd) (o : Nat) (g : Nat → Int64) (B0 e0 F : Nat) (p1 : Int32) (p2 : Int32) (σ : qS) : qLw l yL_follow cL_follow 5 [(0, 10, 13, 13), (0, 10, 17, 15)] 8 134 (fun _ => 2) (fun _ => 12) B0 e0 D Y ad o g [.ref (ad 0 0), .int p1, .int p2, .ref o] σ (fX8_follow F p1 p2 σ) (fun e => if e = 0 then 0 else if e = 1 then 1 else if e = 2 then 2 else 0) (fun ex v => if ex = 0 then vp_updL g 0 v.toInt64 else g) := by
  refine q_olw (by decide) (Nat.le_of_ble_eq_true rfl) "LeasehallLaw" rfl (fun p e s m below meth c A Q r0 S0 htab hf hok hw hG hAB hE hNc hret ls hl => ?_)
  replace hl : lv_has ls 5 [(0, .ref (ad 0 0)), (1, .int p1), (2, .int p2), (3, .ref o)] := hl
  refine lv_aload_n S0.1 S0.2.1 dL_follow_0 rfl (lv_at hl 3 rfl) ?_
  refine lv_iconst (v := 0) S0.1 S0.2.1 dL_follow_1 (by decide) ?_
  refine lv_aload_n S0.1 S0.2.1 dL_follow_2 rfl (lv_at hl 0 rfl) ?_
  refine lv_iload_n S0.1 S0.2.1 dL_follow_3 rfl (lv_at hl 1 rfl) ?_
  refine lv_iload_n S0.1 S0.2.1 dL_follow_4 rfl (lv_at hl 2 rfl) ?_
  refine o_ucalli S0 hG hE hAB hok hw (As := [.int p1, .int p2]) (rest := [.int 0, .ref o]) (u_ofX (e0 := e0) (wX8_follow l hst D Y ad B0 F p1 p2 σ) (fun r h => gn_fX8_follow h)) qyX8_follow kw_708 ⟨Nat.le_of_ble_eq_true rfl, Nat.le_of_ble_eq_true rfl⟩ r0 hf rfl hl.1 (Nat.le_of_ble_eq_true rfl) dL_follow_5 ⟨Nat.le_of_ble_eq_true rfl, Nat.le_of_ble_eq_true rfl⟩ rfl (fun ex ce q9 r ad' σ' H locs hw h00 hok hfv hne hce hcv hcl => ?_) (fun r ad' σ' H locs hw h00 hok hfv => ?_)
  · replace hne : ex ∈ ([0, 1, 2] : List Nat) ∧ ex ≠ 0 := ⟨gx_fX8_follow hfv, hne⟩
    simp only [List.mem_cons, List.not_mem_nil, or_false] at hne
    obtain ⟨hx, hne⟩ := hne
    rcases hx with rfl | rfl | rfl
    · exact absurd rfl hne
    · refine vx_catch (own := "LeasehallLaw") (name := exN 1) (E := exN 1) S0.2.2.2.1 (tableOf []) ⟨0, 10, 13, 13⟩ (tableOf [(0, 10, 17, 15)]) (htab.trans rfl) (fun z hz => by simp [tableOf] at hz) rfl (by decide) (S0.2.2.2.2 _ kw_327) (va_Nw.use rfl (hNc.2 1 (by decide))) hce hcv hcl ?_
      refine lv_astore (lv' := [(4, .ref q9), (0, .ref (ad 0 0)), (1, .int p1), (2, .int p2), (3, .ref o)]) S0.1 S0.2.1 dL_follow_13 hl (by decide) rfl (fun ls hl => ?_)
      refine lv_iconst (v := 1) S0.1 S0.2.1 dL_follow_15 (by decide) ?_
      exact hret (ex := 1) (v := r) dL_follow_16 hw h00 hok hfv rfl
    · refine vx_catch (own := "LeasehallLaw") (name := exN 2) (E := exN 2) S0.2.2.2.1 (tableOf [(0, 10, 13, 13)]) ⟨0, 10, 17, 15⟩ (tableOf []) (htab.trans rfl) (fun z hz => by
        simp only [tableOf, List.map_cons, List.map_nil, List.mem_cons, List.not_mem_nil, or_false] at hz
        rw [hz]
        exact Or.inr ⟨by decide, exN 1, S0.2.2.2.2 _ kw_327, hNc.1 (2, 1) (by decide)⟩) rfl (by decide) (S0.2.2.2.2 _ kw_328) (va_Nw.use rfl (hNc.2 2 (by decide))) hce hcv hcl ?_
      refine lv_astore (lv' := [(4, .ref q9), (0, .ref (ad 0 0)), (1, .int p1), (2, .int p2), (3, .ref o)]) S0.1 S0.2.1 dL_follow_17 hl (by decide) rfl (fun ls hl => ?_)
      refine lv_iconst (v := 2) S0.1 S0.2.1 dL_follow_19 (by decide) ?_
      exact hret (ex := 2) (v := r) dL_follow_20 hw h00 hok hfv rfl
  · refine lv_i2l (v := r.toInt64) S0.1 S0.2.1 dL_follow_8 rfl ?_
    refine o_last S0 hw dL_follow_9 (fun H locs hw => ?_)
    refine lv_goto (tgt := 21) S0.1 S0.2.1 dL_follow_10 (by decide) ?_
    refine lv_iconst (v := 0) S0.1 S0.2.1 dL_follow_21 (by decide) ?_
    exact hret (ex := 0) (v := r) dL_follow_22 hw h00 hok hfv rfl
set_option maxRecDepth 100000 in
set_option maxHeartbeats 4000000 in
theorem wL_pass (l : Launch) (hst : l.stackTraces = false) (D : va_G) (Y : Nat → ClassId) (ad : qAd) (o : Nat) (g : Nat → Int64) (B0 e0 F : Nat) (p1 : Int32) (σ : qS) : qLw l yL_pass cL_pass 4 [(0, 9, 12, 15)] 8 183 (fun _ => 1) (fun _ => 6) B0 e0 D Y ad o g [.ref (ad 0 0), .int p1, .ref o] σ (fX8_pass F p1 σ) (fun e => if e = 0 then 0 else if e = 2 then 1 else 0) (fun ex v => if ex = 0 then vp_updL g 0 v.toInt64 else g) := by
  refine q_olw (by decide) (Nat.le_of_ble_eq_true rfl) "LeasehallLaw" rfl (fun p e s m below meth c A Q r0 S0 htab hf hok hw hG hAB hE hNc hret ls hl => ?_)
  replace hl : lv_has ls 4 [(0, .ref (ad 0 0)), (1, .int p1), (2, .ref o)] := hl
  refine lv_aload_n S0.1 S0.2.1 dL_pass_0 rfl (lv_at hl 2 rfl) ?_
  refine lv_iconst (v := 0) S0.1 S0.2.1 dL_pass_1 (by decide) ?_
  refine lv_aload_n S0.1 S0.2.1 dL_pass_2 rfl (lv_at hl 0 rfl) ?_
  refine lv_iload_n S0.1 S0.2.1 dL_pass_3 rfl (lv_at hl 1 rfl) ?_
  refine o_ucalli S0 hG hE hAB hok hw (As := [.int p1]) (rest := [.int 0, .ref o]) (u_ofX (e0 := e0) (wX8_pass l hst D Y ad B0 F p1 σ) (fun r h => gn_fX8_pass h)) qyX8_pass kw_716 ⟨Nat.le_of_ble_eq_true rfl, Nat.le_of_ble_eq_true rfl⟩ r0 hf rfl hl.1 (Nat.le_of_ble_eq_true rfl) dL_pass_4 ⟨Nat.le_of_ble_eq_true rfl, Nat.le_of_ble_eq_true rfl⟩ rfl (fun ex ce q9 r ad' σ' H locs hw h00 hok hfv hne hce hcv hcl => ?_) (fun r ad' σ' H locs hw h00 hok hfv => ?_)
  · replace hne : ex ∈ ([0, 2] : List Nat) ∧ ex ≠ 0 := ⟨gx_fX8_pass hfv, hne⟩
    simp only [List.mem_cons, List.not_mem_nil, or_false] at hne
    obtain ⟨hx, hne⟩ := hne
    rcases hx with rfl | rfl
    · exact absurd rfl hne
    · refine vx_catch (own := "LeasehallLaw") (name := exN 2) (E := exN 2) S0.2.2.2.1 (tableOf []) ⟨0, 9, 12, 15⟩ (tableOf []) (htab.trans rfl) (fun z hz => by simp [tableOf] at hz) rfl (by decide) (S0.2.2.2.2 _ kw_328) (va_Nw.use rfl (hNc.2 2 (by decide))) hce hcv hcl ?_
      refine lv_astore_n (lv' := [(3, .ref q9), (0, .ref (ad 0 0)), (1, .int p1), (2, .ref o)]) S0.1 S0.2.1 dL_pass_12 rfl hl (by decide) rfl (fun ls hl => ?_)
      refine lv_iconst (v := 1) S0.1 S0.2.1 dL_pass_13 (by decide) ?_
      exact hret (ex := 2) (v := r) dL_pass_14 hw h00 hok hfv rfl
  · refine lv_i2l (v := r.toInt64) S0.1 S0.2.1 dL_pass_7 rfl ?_
    refine o_last S0 hw dL_pass_8 (fun H locs hw => ?_)
    refine lv_goto (tgt := 15) S0.1 S0.2.1 dL_pass_9 (by decide) ?_
    refine lv_iconst (v := 0) S0.1 S0.2.1 dL_pass_15 (by decide) ?_
    exact hret (ex := 0) (v := r) dL_pass_16 hw h00 hok hfv rfl
set_option maxRecDepth 100000 in
set_option maxHeartbeats 4000000 in
theorem wL_lease (l : Launch) (hst : l.stackTraces = false) (D : va_G) (Y : Nat → ClassId) (ad : qAd) (o : Nat) (g : Nat → Int64) (B0 e0 F : Nat) (p1 : Int32) (σ : qS) : qLw l yL_lease cL_lease 4 [(0, 9, 12, 15), (0, 9, 15, 17)] 8 151 (fun _ => 2) (fun _ => 13) B0 e0 D Y ad o g [.ref (ad 0 0), .int p1, .ref o] σ (fX8_lease F p1 σ) (fun e => if e = 0 then 0 else if e = 2 then 1 else if e = 3 then 2 else 0) (fun ex v => if ex = 0 then vp_updL g 0 v.toInt64 else g) := by
  refine q_olw (by decide) (Nat.le_of_ble_eq_true rfl) "LeasehallLaw" rfl (fun p e s m below meth c A Q r0 S0 htab hf hok hw hG hAB hE hNc hret ls hl => ?_)
  replace hl : lv_has ls 4 [(0, .ref (ad 0 0)), (1, .int p1), (2, .ref o)] := hl
  refine lv_aload_n S0.1 S0.2.1 dL_lease_0 rfl (lv_at hl 2 rfl) ?_
  refine lv_iconst (v := 0) S0.1 S0.2.1 dL_lease_1 (by decide) ?_
  refine lv_aload_n S0.1 S0.2.1 dL_lease_2 rfl (lv_at hl 0 rfl) ?_
  refine lv_iload_n S0.1 S0.2.1 dL_lease_3 rfl (lv_at hl 1 rfl) ?_
  refine o_ucalli S0 hG hE hAB hok hw (As := [.int p1]) (rest := [.int 0, .ref o]) (u_ofY (wX8_lease l hst D Y ad B0 e0 F p1 σ) (fun r h => gn_fX8_lease h)) qyX8_lease kw_733 ⟨Nat.le_of_ble_eq_true rfl, Nat.le_of_ble_eq_true rfl⟩ r0 hf rfl hl.1 (Nat.le_of_ble_eq_true rfl) dL_lease_4 ⟨Nat.le_of_ble_eq_true rfl, Nat.le_of_ble_eq_true rfl⟩ rfl (fun ex ce q9 r ad' σ' H locs hw h00 hok hfv hne hce hcv hcl => ?_) (fun r ad' σ' H locs hw h00 hok hfv => ?_)
  · replace hne : ex ∈ ([0, 2, 3] : List Nat) ∧ ex ≠ 0 := ⟨gx_fX8_lease hfv, hne⟩
    simp only [List.mem_cons, List.not_mem_nil, or_false] at hne
    obtain ⟨hx, hne⟩ := hne
    rcases hx with rfl | rfl | rfl
    · exact absurd rfl hne
    · refine vx_catch (own := "LeasehallLaw") (name := exN 2) (E := exN 2) S0.2.2.2.1 (tableOf []) ⟨0, 9, 12, 15⟩ (tableOf [(0, 9, 15, 17)]) (htab.trans rfl) (fun z hz => by simp [tableOf] at hz) rfl (by decide) (S0.2.2.2.2 _ kw_328) (va_Nw.use rfl (hNc.2 2 (by decide))) hce hcv hcl ?_
      refine lv_astore_n (lv' := [(3, .ref q9), (0, .ref (ad 0 0)), (1, .int p1), (2, .ref o)]) S0.1 S0.2.1 dL_lease_12 rfl hl (by decide) rfl (fun ls hl => ?_)
      refine lv_iconst (v := 1) S0.1 S0.2.1 dL_lease_13 (by decide) ?_
      exact hret (ex := 2) (v := r) dL_lease_14 hw h00 hok hfv rfl
    · refine vx_catch (own := "LeasehallLaw") (name := exN 3) (E := exN 3) S0.2.2.2.1 (tableOf [(0, 9, 12, 15)]) ⟨0, 9, 15, 17⟩ (tableOf []) (htab.trans rfl) (fun z hz => by
        simp only [tableOf, List.map_cons, List.map_nil, List.mem_cons, List.not_mem_nil, or_false] at hz
        rw [hz]
        exact Or.inr ⟨by decide, exN 2, S0.2.2.2.2 _ kw_328, hNc.1 (3, 2) (by decide)⟩) rfl (by decide) (S0.2.2.2.2 _ kw_329) (va_Nw.use rfl (hNc.2 3 (by decide))) hce hcv hcl ?_
      refine lv_astore_n (lv' := [(3, .ref q9), (0, .ref (ad 0 0)), (1, .int p1), (2, .ref o)]) S0.1 S0.2.1 dL_lease_15 rfl hl (by decide) rfl (fun ls hl => ?_)
      refine lv_iconst (v := 2) S0.1 S0.2.1 dL_lease_16 (by decide) ?_
      exact hret (ex := 3) (v := r) dL_lease_17 hw h00 hok hfv rfl
  · refine lv_i2l (v := r.toInt64) S0.1 S0.2.1 dL_lease_7 rfl ?_
    refine o_last S0 hw dL_lease_8 (fun H locs hw => ?_)
    refine lv_goto (tgt := 18) S0.1 S0.2.1 dL_lease_9 (by decide) ?_
    refine lv_iconst (v := 0) S0.1 S0.2.1 dL_lease_18 (by decide) ?_
    exact hret (ex := 0) (v := r) dL_lease_19 hw h00 hok hfv rfl
set_option maxRecDepth 100000 in
set_option maxHeartbeats 4000000 in
theorem wL_renew (l : Launch) (hst : l.stackTraces = false) (D : va_G) (Y : Nat → ClassId) (ad : qAd) (o : Nat) (g : Nat → Int64) (B0 e0 F : Nat) (p1 : Int32) (σ : qS) : qLw l yL_renew cL_renew 4 [(0, 9, 12, 13), (0, 9, 15, 17)] 8 133 (fun _ => 2) (fun _ => 12) B0 e0 D Y ad o g [.ref (ad 0 0), .int p1, .ref o] σ (fX8_renew F p1 σ) (fun e => if e = 0 then 0 else if e = 1 then 1 else if e = 3 then 2 else 0) (fun ex v => if ex = 0 then vp_updL g 0 v.toInt64 else g) := by
  refine q_olw (by decide) (Nat.le_of_ble_eq_true rfl) "LeasehallLaw" rfl (fun p e s m below meth c A Q r0 S0 htab hf hok hw hG hAB hE hNc hret ls hl => ?_)
  replace hl : lv_has ls 4 [(0, .ref (ad 0 0)), (1, .int p1), (2, .ref o)] := hl
  refine lv_aload_n S0.1 S0.2.1 dL_renew_0 rfl (lv_at hl 2 rfl) ?_
  refine lv_iconst (v := 0) S0.1 S0.2.1 dL_renew_1 (by decide) ?_
  refine lv_aload_n S0.1 S0.2.1 dL_renew_2 rfl (lv_at hl 0 rfl) ?_
  refine lv_iload_n S0.1 S0.2.1 dL_renew_3 rfl (lv_at hl 1 rfl) ?_
  refine o_ucalli S0 hG hE hAB hok hw (As := [.int p1]) (rest := [.int 0, .ref o]) (u_ofX (e0 := e0) (wX8_renew l hst D Y ad B0 F p1 σ) (fun r h => gn_fX8_renew h)) qyX8_renew kw_759 ⟨Nat.le_of_ble_eq_true rfl, Nat.le_of_ble_eq_true rfl⟩ r0 hf rfl hl.1 (Nat.le_of_ble_eq_true rfl) dL_renew_4 ⟨Nat.le_of_ble_eq_true rfl, Nat.le_of_ble_eq_true rfl⟩ rfl (fun ex ce q9 r ad' σ' H locs hw h00 hok hfv hne hce hcv hcl => ?_) (fun r ad' σ' H locs hw h00 hok hfv => ?_)
  · replace hne : ex ∈ ([0, 1, 3] : List Nat) ∧ ex ≠ 0 := ⟨gx_fX8_renew hfv, hne⟩
    simp only [List.mem_cons, List.not_mem_nil, or_false] at hne
    obtain ⟨hx, hne⟩ := hne
    rcases hx with rfl | rfl | rfl
    · exact absurd rfl hne
    · refine vx_catch (own := "LeasehallLaw") (name := exN 1) (E := exN 1) S0.2.2.2.1 (tableOf []) ⟨0, 9, 12, 13⟩ (tableOf [(0, 9, 15, 17)]) (htab.trans rfl) (fun z hz => by simp [tableOf] at hz) rfl (by decide) (S0.2.2.2.2 _ kw_327) (va_Nw.use rfl (hNc.2 1 (by decide))) hce hcv hcl ?_
      refine lv_astore_n (lv' := [(3, .ref q9), (0, .ref (ad 0 0)), (1, .int p1), (2, .ref o)]) S0.1 S0.2.1 dL_renew_12 rfl hl (by decide) rfl (fun ls hl => ?_)
      refine lv_iconst (v := 1) S0.1 S0.2.1 dL_renew_13 (by decide) ?_
      exact hret (ex := 1) (v := r) dL_renew_14 hw h00 hok hfv rfl
    · refine vx_catch (own := "LeasehallLaw") (name := exN 3) (E := exN 3) S0.2.2.2.1 (tableOf [(0, 9, 12, 13)]) ⟨0, 9, 15, 17⟩ (tableOf []) (htab.trans rfl) (fun z hz => by
        simp only [tableOf, List.map_cons, List.map_nil, List.mem_cons, List.not_mem_nil, or_false] at hz
        rw [hz]
        exact Or.inr ⟨by decide, exN 1, S0.2.2.2.2 _ kw_327, hNc.1 (3, 1) (by decide)⟩) rfl (by decide) (S0.2.2.2.2 _ kw_329) (va_Nw.use rfl (hNc.2 3 (by decide))) hce hcv hcl ?_
      refine lv_astore_n (lv' := [(3, .ref q9), (0, .ref (ad 0 0)), (1, .int p1), (2, .ref o)]) S0.1 S0.2.1 dL_renew_15 rfl hl (by decide) rfl (fun ls hl => ?_)
      refine lv_iconst (v := 2) S0.1 S0.2.1 dL_renew_16 (by decide) ?_
      exact hret (ex := 3) (v := r) dL_renew_17 hw h00 hok hfv rfl
  · refine lv_i2l (v := r.toInt64) S0.1 S0.2.1 dL_renew_7 rfl ?_
    refine o_last S0 hw dL_renew_8 (fun H locs hw => ?_)
    refine lv_goto (tgt := 18) S0.1 S0.2.1 dL_renew_9 (by decide) ?_
    refine lv_iconst (v := 0) S0.1 S0.2.1 dL_renew_18 (by decide) ?_
    exact hret (ex := 0) (v := r) dL_renew_19 hw h00 hok hfv rfl
set_option maxRecDepth 100000 in
set_option maxHeartbeats 4000000 in
theorem wL_make (l : Launch) (hst : l.stackTraces = false) (D : va_G) (Y : Nat → ClassId) (ad : qAd) (o : Nat) (g : Nat → Int64) (B0 e0 F : Nat) (p1 : Int32) (p2 : Int32) (p3 : Int32) (p4 : Int32) (p5 : Int32) (p6 : Int32) (p7 : Int32) (σ : qS) : qLw l yL_make cL_make 10 [(0, 20, 23, 13), (0, 20, 27, 15), (0, 20, 31, 17)] 9 192 (fun _ => 7) (fun _ => 42) B0 e0 D Y ad o g [.ref (ad 0 0), .int p1, .int p2, .int p3, .int p4, .int p5, .int p6, .int p7, .ref o] σ (fX8_make F p1 p2 p3 p4 p5 p6 p7 σ) (fun e => if e = 0 then 0 else if e = 1 then 1 else if e = 2 then 2 else if e = 3 then 3 else 0) (fun ex v => if ex = 0 then vp_updL g 0 v.toInt64 else g) := by
  refine q_olw (by decide) (Nat.le_of_ble_eq_true rfl) "LeasehallLaw" rfl (fun p e s m below meth c A Q r0 S0 htab hf hok hw hG hAB hE hNc hret ls hl => ?_)
  replace hl : lv_has ls 10 [(0, .ref (ad 0 0)), (1, .int p1), (2, .int p2), (3, .int p3), (4, .int p4), (5, .int p5), (6, .int p6), (7, .int p7), (8, .ref o)] := hl
  refine lv_aload S0.1 S0.2.1 dL_make_0 (lv_at hl 8 rfl) ?_
  refine lv_iconst (v := 0) S0.1 S0.2.1 dL_make_2 (by decide) ?_
  refine lv_aload_n S0.1 S0.2.1 dL_make_3 rfl (lv_at hl 0 rfl) ?_
  refine lv_iload_n S0.1 S0.2.1 dL_make_4 rfl (lv_at hl 1 rfl) ?_
  refine lv_iload_n S0.1 S0.2.1 dL_make_5 rfl (lv_at hl 2 rfl) ?_
  refine lv_iload_n S0.1 S0.2.1 dL_make_6 rfl (lv_at hl 3 rfl) ?_
  refine lv_iload S0.1 S0.2.1 dL_make_7 (lv_at hl 4 rfl) ?_
  refine lv_iload S0.1 S0.2.1 dL_make_9 (lv_at hl 5 rfl) ?_
  refine lv_iload S0.1 S0.2.1 dL_make_11 (lv_at hl 6 rfl) ?_
  refine lv_iload S0.1 S0.2.1 dL_make_13 (lv_at hl 7 rfl) ?_
  refine o_ucalli S0 hG hE hAB hok hw (As := [.int p1, .int p2, .int p3, .int p4, .int p5, .int p6, .int p7]) (rest := [.int 0, .ref o]) (u_ofX (e0 := e0) (wX8_make l hst D Y ad B0 F p1 p2 p3 p4 p5 p6 p7 σ) (fun r h => gn_fX8_make h)) qyX8_make kw_772 ⟨Nat.le_of_ble_eq_true rfl, Nat.le_of_ble_eq_true rfl⟩ r0 hf rfl hl.1 (Nat.le_of_ble_eq_true rfl) dL_make_15 ⟨Nat.le_of_ble_eq_true rfl, Nat.le_of_ble_eq_true rfl⟩ rfl (fun ex ce q9 r ad' σ' H locs hw h00 hok hfv hne hce hcv hcl => ?_) (fun r ad' σ' H locs hw h00 hok hfv => ?_)
  · replace hne : ex ∈ ([0, 1, 2, 3] : List Nat) ∧ ex ≠ 0 := ⟨gx_fX8_make hfv, hne⟩
    simp only [List.mem_cons, List.not_mem_nil, or_false] at hne
    obtain ⟨hx, hne⟩ := hne
    rcases hx with rfl | rfl | rfl | rfl
    · exact absurd rfl hne
    · refine vx_catch (own := "LeasehallLaw") (name := exN 1) (E := exN 1) S0.2.2.2.1 (tableOf []) ⟨0, 20, 23, 13⟩ (tableOf [(0, 20, 27, 15), (0, 20, 31, 17)]) (htab.trans rfl) (fun z hz => by simp [tableOf] at hz) rfl (by decide) (S0.2.2.2.2 _ kw_327) (va_Nw.use rfl (hNc.2 1 (by decide))) hce hcv hcl ?_
      refine lv_astore (lv' := [(9, .ref q9), (0, .ref (ad 0 0)), (1, .int p1), (2, .int p2), (3, .int p3), (4, .int p4), (5, .int p5), (6, .int p6), (7, .int p7), (8, .ref o)]) S0.1 S0.2.1 dL_make_23 hl (by decide) rfl (fun ls hl => ?_)
      refine lv_iconst (v := 1) S0.1 S0.2.1 dL_make_25 (by decide) ?_
      exact hret (ex := 1) (v := r) dL_make_26 hw h00 hok hfv rfl
    · refine vx_catch (own := "LeasehallLaw") (name := exN 2) (E := exN 2) S0.2.2.2.1 (tableOf [(0, 20, 23, 13)]) ⟨0, 20, 27, 15⟩ (tableOf [(0, 20, 31, 17)]) (htab.trans rfl) (fun z hz => by
        simp only [tableOf, List.map_cons, List.map_nil, List.mem_cons, List.not_mem_nil, or_false] at hz
        rw [hz]
        exact Or.inr ⟨by decide, exN 1, S0.2.2.2.2 _ kw_327, hNc.1 (2, 1) (by decide)⟩) rfl (by decide) (S0.2.2.2.2 _ kw_328) (va_Nw.use rfl (hNc.2 2 (by decide))) hce hcv hcl ?_
      refine lv_astore (lv' := [(9, .ref q9), (0, .ref (ad 0 0)), (1, .int p1), (2, .int p2), (3, .int p3), (4, .int p4), (5, .int p5), (6, .int p6), (7, .int p7), (8, .ref o)]) S0.1 S0.2.1 dL_make_27 hl (by decide) rfl (fun ls hl => ?_)
      refine lv_iconst (v := 2) S0.1 S0.2.1 dL_make_29 (by decide) ?_
      exact hret (ex := 2) (v := r) dL_make_30 hw h00 hok hfv rfl
    · refine vx_catch (own := "LeasehallLaw") (name := exN 3) (E := exN 3) S0.2.2.2.1 (tableOf [(0, 20, 23, 13), (0, 20, 27, 15)]) ⟨0, 20, 31, 17⟩ (tableOf []) (htab.trans rfl) (fun z hz => by
        simp only [tableOf, List.map_cons, List.map_nil, List.mem_cons, List.not_mem_nil, or_false] at hz
        rcases hz with rfl | rfl
        · exact Or.inr ⟨by decide, exN 1, S0.2.2.2.2 _ kw_327, hNc.1 (3, 1) (by decide)⟩
        · exact Or.inr ⟨by decide, exN 2, S0.2.2.2.2 _ kw_328, hNc.1 (3, 2) (by decide)⟩) rfl (by decide) (S0.2.2.2.2 _ kw_329) (va_Nw.use rfl (hNc.2 3 (by decide))) hce hcv hcl ?_
      refine lv_astore (lv' := [(9, .ref q9), (0, .ref (ad 0 0)), (1, .int p1), (2, .int p2), (3, .int p3), (4, .int p4), (5, .int p5), (6, .int p6), (7, .int p7), (8, .ref o)]) S0.1 S0.2.1 dL_make_31 hl (by decide) rfl (fun ls hl => ?_)
      refine lv_iconst (v := 3) S0.1 S0.2.1 dL_make_33 (by decide) ?_
      exact hret (ex := 3) (v := r) dL_make_34 hw h00 hok hfv rfl
  · refine lv_i2l (v := r.toInt64) S0.1 S0.2.1 dL_make_18 rfl ?_
    refine o_last S0 hw dL_make_19 (fun H locs hw => ?_)
    refine lv_goto (tgt := 35) S0.1 S0.2.1 dL_make_20 (by decide) ?_
    refine lv_iconst (v := 0) S0.1 S0.2.1 dL_make_35 (by decide) ?_
    exact hret (ex := 0) (v := r) dL_make_36 hw h00 hok hfv rfl
set_option maxRecDepth 100000 in
set_option maxHeartbeats 4000000 in
theorem wL_set (l : Launch) (hst : l.stackTraces = false) (D : va_G) (Y : Nat → ClassId) (ad : qAd) (o : Nat) (g : Nat → Int64) (B0 e0 F : Nat) (p1 : Int32) (p2 : Int32) (p3 : Int32) (p4 : Int32) (σ : qS) : qLw l yL_set cL_set 7 [(0, 14, 17, 13), (0, 14, 21, 15), (0, 14, 25, 17)] 9 188 (fun _ => 4) (fun _ => 24) B0 e0 D Y ad o g [.ref (ad 0 0), .int p1, .int p2, .int p3, .int p4, .ref o] σ (fX8_set F p1 p2 p3 p4 σ) (fun e => if e = 0 then 0 else if e = 1 then 1 else if e = 2 then 2 else if e = 3 then 3 else 0) (fun ex v => if ex = 0 then vp_updL g 0 v.toInt64 else g) := by
  refine q_olw (by decide) (Nat.le_of_ble_eq_true rfl) "LeasehallLaw" rfl (fun p e s m below meth c A Q r0 S0 htab hf hok hw hG hAB hE hNc hret ls hl => ?_)
  replace hl : lv_has ls 7 [(0, .ref (ad 0 0)), (1, .int p1), (2, .int p2), (3, .int p3), (4, .int p4), (5, .ref o)] := hl
  refine lv_aload S0.1 S0.2.1 dL_set_0 (lv_at hl 5 rfl) ?_
  refine lv_iconst (v := 0) S0.1 S0.2.1 dL_set_2 (by decide) ?_
  refine lv_aload_n S0.1 S0.2.1 dL_set_3 rfl (lv_at hl 0 rfl) ?_
  refine lv_iload_n S0.1 S0.2.1 dL_set_4 rfl (lv_at hl 1 rfl) ?_
  refine lv_iload_n S0.1 S0.2.1 dL_set_5 rfl (lv_at hl 2 rfl) ?_
  refine lv_iload_n S0.1 S0.2.1 dL_set_6 rfl (lv_at hl 3 rfl) ?_
  refine lv_iload S0.1 S0.2.1 dL_set_7 (lv_at hl 4 rfl) ?_
  refine o_ucalli S0 hG hE hAB hok hw (As := [.int p1, .int p2, .int p3, .int p4]) (rest := [.int 0, .ref o]) (u_ofX (e0 := e0) (wX8_set l hst D Y ad B0 F p1 p2 p3 p4 σ) (fun r h => gn_fX8_set h)) qyX8_set kw_880 ⟨Nat.le_of_ble_eq_true rfl, Nat.le_of_ble_eq_true rfl⟩ r0 hf rfl hl.1 (Nat.le_of_ble_eq_true rfl) dL_set_9 ⟨Nat.le_of_ble_eq_true rfl, Nat.le_of_ble_eq_true rfl⟩ rfl (fun ex ce q9 r ad' σ' H locs hw h00 hok hfv hne hce hcv hcl => ?_) (fun r ad' σ' H locs hw h00 hok hfv => ?_)
  · replace hne : ex ∈ ([0, 1, 2, 3] : List Nat) ∧ ex ≠ 0 := ⟨gx_fX8_set hfv, hne⟩
    simp only [List.mem_cons, List.not_mem_nil, or_false] at hne
    obtain ⟨hx, hne⟩ := hne
    rcases hx with rfl | rfl | rfl | rfl
    · exact absurd rfl hne
    · refine vx_catch (own := "LeasehallLaw") (name := exN 1) (E := exN 1) S0.2.2.2.1 (tableOf []) ⟨0, 14, 17, 13⟩ (tableOf [(0, 14, 21, 15), (0, 14, 25, 17)]) (htab.trans rfl) (fun z hz => by simp [tableOf] at hz) rfl (by decide) (S0.2.2.2.2 _ kw_327) (va_Nw.use rfl (hNc.2 1 (by decide))) hce hcv hcl ?_
      refine lv_astore (lv' := [(6, .ref q9), (0, .ref (ad 0 0)), (1, .int p1), (2, .int p2), (3, .int p3), (4, .int p4), (5, .ref o)]) S0.1 S0.2.1 dL_set_17 hl (by decide) rfl (fun ls hl => ?_)
      refine lv_iconst (v := 1) S0.1 S0.2.1 dL_set_19 (by decide) ?_
      exact hret (ex := 1) (v := r) dL_set_20 hw h00 hok hfv rfl
    · refine vx_catch (own := "LeasehallLaw") (name := exN 2) (E := exN 2) S0.2.2.2.1 (tableOf [(0, 14, 17, 13)]) ⟨0, 14, 21, 15⟩ (tableOf [(0, 14, 25, 17)]) (htab.trans rfl) (fun z hz => by
        simp only [tableOf, List.map_cons, List.map_nil, List.mem_cons, List.not_mem_nil, or_false] at hz
        rw [hz]
        exact Or.inr ⟨by decide, exN 1, S0.2.2.2.2 _ kw_327, hNc.1 (2, 1) (by decide)⟩) rfl (by decide) (S0.2.2.2.2 _ kw_328) (va_Nw.use rfl (hNc.2 2 (by decide))) hce hcv hcl ?_
      refine lv_astore (lv' := [(6, .ref q9), (0, .ref (ad 0 0)), (1, .int p1), (2, .int p2), (3, .int p3), (4, .int p4), (5, .ref o)]) S0.1 S0.2.1 dL_set_21 hl (by decide) rfl (fun ls hl => ?_)
      refine lv_iconst (v := 2) S0.1 S0.2.1 dL_set_23 (by decide) ?_
      exact hret (ex := 2) (v := r) dL_set_24 hw h00 hok hfv rfl
    · refine vx_catch (own := "LeasehallLaw") (name := exN 3) (E := exN 3) S0.2.2.2.1 (tableOf [(0, 14, 17, 13), (0, 14, 21, 15)]) ⟨0, 14, 25, 17⟩ (tableOf []) (htab.trans rfl) (fun z hz => by
        simp only [tableOf, List.map_cons, List.map_nil, List.mem_cons, List.not_mem_nil, or_false] at hz
        rcases hz with rfl | rfl
        · exact Or.inr ⟨by decide, exN 1, S0.2.2.2.2 _ kw_327, hNc.1 (3, 1) (by decide)⟩
        · exact Or.inr ⟨by decide, exN 2, S0.2.2.2.2 _ kw_328, hNc.1 (3, 2) (by decide)⟩) rfl (by decide) (S0.2.2.2.2 _ kw_329) (va_Nw.use rfl (hNc.2 3 (by decide))) hce hcv hcl ?_
      refine lv_astore (lv' := [(6, .ref q9), (0, .ref (ad 0 0)), (1, .int p1), (2, .int p2), (3, .int p3), (4, .int p4), (5, .ref o)]) S0.1 S0.2.1 dL_set_25 hl (by decide) rfl (fun ls hl => ?_)
      refine lv_iconst (v := 3) S0.1 S0.2.1 dL_set_27 (by decide) ?_
      exact hret (ex := 3) (v := r) dL_set_28 hw h00 hok hfv rfl
  · refine lv_i2l (v := r.toInt64) S0.1 S0.2.1 dL_set_12 rfl ?_
    refine o_last S0 hw dL_set_13 (fun H locs hw => ?_)
    refine lv_goto (tgt := 29) S0.1 S0.2.1 dL_set_14 (by decide) ?_
    refine lv_iconst (v := 0) S0.1 S0.2.1 dL_set_29 (by decide) ?_
    exact hret (ex := 0) (v := r) dL_set_30 hw h00 hok hfv rfl
set_option maxRecDepth 100000 in
set_option maxHeartbeats 4000000 in
theorem wL_delete (l : Launch) (hst : l.stackTraces = false) (D : va_G) (Y : Nat → ClassId) (ad : qAd) (o : Nat) (g : Nat → Int64) (B0 e0 F : Nat) (p1 : Int32) (p2 : Int32) (p3 : Int32) (σ : qS) : qLw l yL_delete cL_delete 6 [(0, 12, 15, 13), (0, 12, 19, 17)] 9 187 (fun _ => 3) (fun _ => 18) B0 e0 D Y ad o g [.ref (ad 0 0), .int p1, .int p2, .int p3, .ref o] σ (fX8_delete F p1 p2 p3 σ) (fun e => if e = 0 then 0 else if e = 1 then 1 else if e = 3 then 2 else 0) (fun ex v => if ex = 0 then vp_updL g 0 v.toInt64 else g) := by
  refine q_olw (by decide) (Nat.le_of_ble_eq_true rfl) "LeasehallLaw" rfl (fun p e s m below meth c A Q r0 S0 htab hf hok hw hG hAB hE hNc hret ls hl => ?_)
  replace hl : lv_has ls 6 [(0, .ref (ad 0 0)), (1, .int p1), (2, .int p2), (3, .int p3), (4, .ref o)] := hl
  refine lv_aload S0.1 S0.2.1 dL_delete_0 (lv_at hl 4 rfl) ?_
  refine lv_iconst (v := 0) S0.1 S0.2.1 dL_delete_2 (by decide) ?_
  refine lv_aload_n S0.1 S0.2.1 dL_delete_3 rfl (lv_at hl 0 rfl) ?_
  refine lv_iload_n S0.1 S0.2.1 dL_delete_4 rfl (lv_at hl 1 rfl) ?_
  refine lv_iload_n S0.1 S0.2.1 dL_delete_5 rfl (lv_at hl 2 rfl) ?_
  refine lv_iload_n S0.1 S0.2.1 dL_delete_6 rfl (lv_at hl 3 rfl) ?_
  refine o_ucalli S0 hG hE hAB hok hw (As := [.int p1, .int p2, .int p3]) (rest := [.int 0, .ref o]) (u_ofX (e0 := e0) (wX8_delete l hst D Y ad B0 F p1 p2 p3 σ) (fun r h => gn_fX8_delete h)) qyX8_delete kw_888 ⟨Nat.le_of_ble_eq_true rfl, Nat.le_of_ble_eq_true rfl⟩ r0 hf rfl hl.1 (Nat.le_of_ble_eq_true rfl) dL_delete_7 ⟨Nat.le_of_ble_eq_true rfl, Nat.le_of_ble_eq_true rfl⟩ rfl (fun ex ce q9 r ad' σ' H locs hw h00 hok hfv hne hce hcv hcl => ?_) (fun r ad' σ' H locs hw h00 hok hfv => ?_)
  · replace hne : ex ∈ ([0, 1, 3] : List Nat) ∧ ex ≠ 0 := ⟨gx_fX8_delete hfv, hne⟩
    simp only [List.mem_cons, List.not_mem_nil, or_false] at hne
    obtain ⟨hx, hne⟩ := hne
    rcases hx with rfl | rfl | rfl
    · exact absurd rfl hne
    · refine vx_catch (own := "LeasehallLaw") (name := exN 1) (E := exN 1) S0.2.2.2.1 (tableOf []) ⟨0, 12, 15, 13⟩ (tableOf [(0, 12, 19, 17)]) (htab.trans rfl) (fun z hz => by simp [tableOf] at hz) rfl (by decide) (S0.2.2.2.2 _ kw_327) (va_Nw.use rfl (hNc.2 1 (by decide))) hce hcv hcl ?_
      refine lv_astore (lv' := [(5, .ref q9), (0, .ref (ad 0 0)), (1, .int p1), (2, .int p2), (3, .int p3), (4, .ref o)]) S0.1 S0.2.1 dL_delete_15 hl (by decide) rfl (fun ls hl => ?_)
      refine lv_iconst (v := 1) S0.1 S0.2.1 dL_delete_17 (by decide) ?_
      exact hret (ex := 1) (v := r) dL_delete_18 hw h00 hok hfv rfl
    · refine vx_catch (own := "LeasehallLaw") (name := exN 3) (E := exN 3) S0.2.2.2.1 (tableOf [(0, 12, 15, 13)]) ⟨0, 12, 19, 17⟩ (tableOf []) (htab.trans rfl) (fun z hz => by
        simp only [tableOf, List.map_cons, List.map_nil, List.mem_cons, List.not_mem_nil, or_false] at hz
        rw [hz]
        exact Or.inr ⟨by decide, exN 1, S0.2.2.2.2 _ kw_327, hNc.1 (3, 1) (by decide)⟩) rfl (by decide) (S0.2.2.2.2 _ kw_329) (va_Nw.use rfl (hNc.2 3 (by decide))) hce hcv hcl ?_
      refine lv_astore (lv' := [(5, .ref q9), (0, .ref (ad 0 0)), (1, .int p1), (2, .int p2), (3, .int p3), (4, .ref o)]) S0.1 S0.2.1 dL_delete_19 hl (by decide) rfl (fun ls hl => ?_)
      refine lv_iconst (v := 2) S0.1 S0.2.1 dL_delete_21 (by decide) ?_
      exact hret (ex := 3) (v := r) dL_delete_22 hw h00 hok hfv rfl
  · refine lv_i2l (v := r.toInt64) S0.1 S0.2.1 dL_delete_10 rfl ?_
    refine o_last S0 hw dL_delete_11 (fun H locs hw => ?_)
    refine lv_goto (tgt := 23) S0.1 S0.2.1 dL_delete_12 (by decide) ?_
    refine lv_iconst (v := 0) S0.1 S0.2.1 dL_delete_23 (by decide) ?_
    exact hret (ex := 0) (v := r) dL_delete_24 hw h00 hok hfv rfl
set_option maxRecDepth 100000 in
set_option maxHeartbeats 4000000 in
theorem wL_rights (l : Launch) (hst : l.stackTraces = false) (D : va_G) (Y : Nat → ClassId) (ad : qAd) (o : Nat) (g : Nat → Int64) (B0 e0 F : Nat) (p1 : Int32) (p2 : Int32) (p3 : Int32) (p4 : Int32) (p5 : Int32) (σ : qS) : qLw l yL_rights cL_rights 8 [(0, 16, 19, 13), (0, 16, 23, 15), (0, 16, 27, 17)] 9 189 (fun _ => 3) (fun _ => 18) B0 e0 D Y ad o g [.ref (ad 0 0), .int p1, .int p2, .int p3, .int p4, .int p5, .ref o] σ (fX8_rights F p1 p2 p3 p4 p5 σ) (fun e => if e = 0 then 0 else if e = 1 then 1 else if e = 2 then 2 else if e = 3 then 3 else 0) (fun ex v => if ex = 0 then vp_updL g 0 v.toInt64 else g) := by
  refine q_olw (by decide) (Nat.le_of_ble_eq_true rfl) "LeasehallLaw" rfl (fun p e s m below meth c A Q r0 S0 htab hf hok hw hG hAB hE hNc hret ls hl => ?_)
  replace hl : lv_has ls 8 [(0, .ref (ad 0 0)), (1, .int p1), (2, .int p2), (3, .int p3), (4, .int p4), (5, .int p5), (6, .ref o)] := hl
  refine lv_aload S0.1 S0.2.1 dL_rights_0 (lv_at hl 6 rfl) ?_
  refine lv_iconst (v := 0) S0.1 S0.2.1 dL_rights_2 (by decide) ?_
  refine lv_aload_n S0.1 S0.2.1 dL_rights_3 rfl (lv_at hl 0 rfl) ?_
  refine lv_iload_n S0.1 S0.2.1 dL_rights_4 rfl (lv_at hl 1 rfl) ?_
  refine lv_iload_n S0.1 S0.2.1 dL_rights_5 rfl (lv_at hl 2 rfl) ?_
  refine lv_iload_n S0.1 S0.2.1 dL_rights_6 rfl (lv_at hl 3 rfl) ?_
  refine lv_iload S0.1 S0.2.1 dL_rights_7 (lv_at hl 4 rfl) ?_
  refine lv_iload S0.1 S0.2.1 dL_rights_9 (lv_at hl 5 rfl) ?_
  refine o_ucalli S0 hG hE hAB hok hw (As := [.int p1, .int p2, .int p3, .int p4, .int p5]) (rest := [.int 0, .ref o]) (u_ofX (e0 := e0) (wX8_rights l hst D Y ad B0 F p1 p2 p3 p4 p5 σ) (fun r h => gn_fX8_rights h)) qyX8_rights kw_895 ⟨Nat.le_of_ble_eq_true rfl, Nat.le_of_ble_eq_true rfl⟩ r0 hf rfl hl.1 (Nat.le_of_ble_eq_true rfl) dL_rights_11 ⟨Nat.le_of_ble_eq_true rfl, Nat.le_of_ble_eq_true rfl⟩ rfl (fun ex ce q9 r ad' σ' H locs hw h00 hok hfv hne hce hcv hcl => ?_) (fun r ad' σ' H locs hw h00 hok hfv => ?_)
  · replace hne : ex ∈ ([0, 1, 2, 3] : List Nat) ∧ ex ≠ 0 := ⟨gx_fX8_rights hfv, hne⟩
    simp only [List.mem_cons, List.not_mem_nil, or_false] at hne
    obtain ⟨hx, hne⟩ := hne
    rcases hx with rfl | rfl | rfl | rfl
    · exact absurd rfl hne
    · refine vx_catch (own := "LeasehallLaw") (name := exN 1) (E := exN 1) S0.2.2.2.1 (tableOf []) ⟨0, 16, 19, 13⟩ (tableOf [(0, 16, 23, 15), (0, 16, 27, 17)]) (htab.trans rfl) (fun z hz => by simp [tableOf] at hz) rfl (by decide) (S0.2.2.2.2 _ kw_327) (va_Nw.use rfl (hNc.2 1 (by decide))) hce hcv hcl ?_
      refine lv_astore (lv' := [(7, .ref q9), (0, .ref (ad 0 0)), (1, .int p1), (2, .int p2), (3, .int p3), (4, .int p4), (5, .int p5), (6, .ref o)]) S0.1 S0.2.1 dL_rights_19 hl (by decide) rfl (fun ls hl => ?_)
      refine lv_iconst (v := 1) S0.1 S0.2.1 dL_rights_21 (by decide) ?_
      exact hret (ex := 1) (v := r) dL_rights_22 hw h00 hok hfv rfl
    · refine vx_catch (own := "LeasehallLaw") (name := exN 2) (E := exN 2) S0.2.2.2.1 (tableOf [(0, 16, 19, 13)]) ⟨0, 16, 23, 15⟩ (tableOf [(0, 16, 27, 17)]) (htab.trans rfl) (fun z hz => by
        simp only [tableOf, List.map_cons, List.map_nil, List.mem_cons, List.not_mem_nil, or_false] at hz
        rw [hz]
        exact Or.inr ⟨by decide, exN 1, S0.2.2.2.2 _ kw_327, hNc.1 (2, 1) (by decide)⟩) rfl (by decide) (S0.2.2.2.2 _ kw_328) (va_Nw.use rfl (hNc.2 2 (by decide))) hce hcv hcl ?_
      refine lv_astore (lv' := [(7, .ref q9), (0, .ref (ad 0 0)), (1, .int p1), (2, .int p2), (3, .int p3), (4, .int p4), (5, .int p5), (6, .ref o)]) S0.1 S0.2.1 dL_rights_23 hl (by decide) rfl (fun ls hl => ?_)
      refine lv_iconst (v := 2) S0.1 S0.2.1 dL_rights_25 (by decide) ?_
      exact hret (ex := 2) (v := r) dL_rights_26 hw h00 hok hfv rfl
    · refine vx_catch (own := "LeasehallLaw") (name := exN 3) (E := exN 3) S0.2.2.2.1 (tableOf [(0, 16, 19, 13), (0, 16, 23, 15)]) ⟨0, 16, 27, 17⟩ (tableOf []) (htab.trans rfl) (fun z hz => by
        simp only [tableOf, List.map_cons, List.map_nil, List.mem_cons, List.not_mem_nil, or_false] at hz
        rcases hz with rfl | rfl
        · exact Or.inr ⟨by decide, exN 1, S0.2.2.2.2 _ kw_327, hNc.1 (3, 1) (by decide)⟩
        · exact Or.inr ⟨by decide, exN 2, S0.2.2.2.2 _ kw_328, hNc.1 (3, 2) (by decide)⟩) rfl (by decide) (S0.2.2.2.2 _ kw_329) (va_Nw.use rfl (hNc.2 3 (by decide))) hce hcv hcl ?_
      refine lv_astore (lv' := [(7, .ref q9), (0, .ref (ad 0 0)), (1, .int p1), (2, .int p2), (3, .int p3), (4, .int p4), (5, .int p5), (6, .ref o)]) S0.1 S0.2.1 dL_rights_27 hl (by decide) rfl (fun ls hl => ?_)
      refine lv_iconst (v := 3) S0.1 S0.2.1 dL_rights_29 (by decide) ?_
      exact hret (ex := 3) (v := r) dL_rights_30 hw h00 hok hfv rfl
  · refine lv_i2l (v := r.toInt64) S0.1 S0.2.1 dL_rights_14 rfl ?_
    refine o_last S0 hw dL_rights_15 (fun H locs hw => ?_)
    refine lv_goto (tgt := 31) S0.1 S0.2.1 dL_rights_16 (by decide) ?_
    refine lv_iconst (v := 0) S0.1 S0.2.1 dL_rights_31 (by decide) ?_
    exact hret (ex := 0) (v := r) dL_rights_32 hw h00 hok hfv rfl
set_option maxRecDepth 100000 in
set_option maxHeartbeats 4000000 in
theorem wL_check (l : Launch) (hst : l.stackTraces = false) (D : va_G) (Y : Nat → ClassId) (ad : qAd) (o : Nat) (g : Nat → Int64) (B0 e0 F : Nat) (p1 : Int32) (p2 : Int32) (p3 : Int32) (σ : qS) : qLw l yL_check cL_check 6 [(0, 12, 15, 13), (0, 12, 19, 17)] 9 187 (fun _ => 3) (fun _ => 18) B0 e0 D Y ad o g [.ref (ad 0 0), .int p1, .int p2, .int p3, .ref o] σ (fX8_check F p1 p2 p3 σ) (fun e => if e = 0 then 0 else if e = 1 then 1 else if e = 3 then 2 else 0) (fun ex v => if ex = 0 then vp_updL g 0 v.toInt64 else g) := by
  refine q_olw (by decide) (Nat.le_of_ble_eq_true rfl) "LeasehallLaw" rfl (fun p e s m below meth c A Q r0 S0 htab hf hok hw hG hAB hE hNc hret ls hl => ?_)
  replace hl : lv_has ls 6 [(0, .ref (ad 0 0)), (1, .int p1), (2, .int p2), (3, .int p3), (4, .ref o)] := hl
  refine lv_aload S0.1 S0.2.1 dL_check_0 (lv_at hl 4 rfl) ?_
  refine lv_iconst (v := 0) S0.1 S0.2.1 dL_check_2 (by decide) ?_
  refine lv_aload_n S0.1 S0.2.1 dL_check_3 rfl (lv_at hl 0 rfl) ?_
  refine lv_iload_n S0.1 S0.2.1 dL_check_4 rfl (lv_at hl 1 rfl) ?_
  refine lv_iload_n S0.1 S0.2.1 dL_check_5 rfl (lv_at hl 2 rfl) ?_
  refine lv_iload_n S0.1 S0.2.1 dL_check_6 rfl (lv_at hl 3 rfl) ?_
  refine o_ucalli S0 hG hE hAB hok hw (As := [.int p1, .int p2, .int p3]) (rest := [.int 0, .ref o]) (u_ofX (e0 := e0) (wX8_check l hst D Y ad B0 F p1 p2 p3 σ) (fun r h => gn_fX8_check h)) qyX8_check kw_903 ⟨Nat.le_of_ble_eq_true rfl, Nat.le_of_ble_eq_true rfl⟩ r0 hf rfl hl.1 (Nat.le_of_ble_eq_true rfl) dL_check_7 ⟨Nat.le_of_ble_eq_true rfl, Nat.le_of_ble_eq_true rfl⟩ rfl (fun ex ce q9 r ad' σ' H locs hw h00 hok hfv hne hce hcv hcl => ?_) (fun r ad' σ' H locs hw h00 hok hfv => ?_)
  · replace hne : ex ∈ ([0, 1, 3] : List Nat) ∧ ex ≠ 0 := ⟨gx_fX8_check hfv, hne⟩
    simp only [List.mem_cons, List.not_mem_nil, or_false] at hne
    obtain ⟨hx, hne⟩ := hne
    rcases hx with rfl | rfl | rfl
    · exact absurd rfl hne
    · refine vx_catch (own := "LeasehallLaw") (name := exN 1) (E := exN 1) S0.2.2.2.1 (tableOf []) ⟨0, 12, 15, 13⟩ (tableOf [(0, 12, 19, 17)]) (htab.trans rfl) (fun z hz => by simp [tableOf] at hz) rfl (by decide) (S0.2.2.2.2 _ kw_327) (va_Nw.use rfl (hNc.2 1 (by decide))) hce hcv hcl ?_
      refine lv_astore (lv' := [(5, .ref q9), (0, .ref (ad 0 0)), (1, .int p1), (2, .int p2), (3, .int p3), (4, .ref o)]) S0.1 S0.2.1 dL_check_15 hl (by decide) rfl (fun ls hl => ?_)
      refine lv_iconst (v := 1) S0.1 S0.2.1 dL_check_17 (by decide) ?_
      exact hret (ex := 1) (v := r) dL_check_18 hw h00 hok hfv rfl
    · refine vx_catch (own := "LeasehallLaw") (name := exN 3) (E := exN 3) S0.2.2.2.1 (tableOf [(0, 12, 15, 13)]) ⟨0, 12, 19, 17⟩ (tableOf []) (htab.trans rfl) (fun z hz => by
        simp only [tableOf, List.map_cons, List.map_nil, List.mem_cons, List.not_mem_nil, or_false] at hz
        rw [hz]
        exact Or.inr ⟨by decide, exN 1, S0.2.2.2.2 _ kw_327, hNc.1 (3, 1) (by decide)⟩) rfl (by decide) (S0.2.2.2.2 _ kw_329) (va_Nw.use rfl (hNc.2 3 (by decide))) hce hcv hcl ?_
      refine lv_astore (lv' := [(5, .ref q9), (0, .ref (ad 0 0)), (1, .int p1), (2, .int p2), (3, .int p3), (4, .ref o)]) S0.1 S0.2.1 dL_check_19 hl (by decide) rfl (fun ls hl => ?_)
      refine lv_iconst (v := 2) S0.1 S0.2.1 dL_check_21 (by decide) ?_
      exact hret (ex := 3) (v := r) dL_check_22 hw h00 hok hfv rfl
  · refine lv_i2l (v := r.toInt64) S0.1 S0.2.1 dL_check_10 rfl ?_
    refine o_last S0 hw dL_check_11 (fun H locs hw => ?_)
    refine lv_goto (tgt := 23) S0.1 S0.2.1 dL_check_12 (by decide) ?_
    refine lv_iconst (v := 0) S0.1 S0.2.1 dL_check_23 (by decide) ?_
    exact hret (ex := 0) (v := r) dL_check_24 hw h00 hok hfv rfl
set_option maxRecDepth 100000 in
set_option maxHeartbeats 4000000 in
theorem wL_gather (l : Launch) (hst : l.stackTraces = false) (D : va_G) (Y : Nat → ClassId) (ad : qAd) (o : Nat) (g : Nat → Int64) (B0 e0 F : Nat) (p1 : Int32) (σ : qS) : qLw l yL_gather cL_gather 3 [(0, 5, 8, 13), (0, 5, 11, 17)] 8 133 (fun _ => 3) (fun _ => 18) B0 e0 D Y ad o g [.ref (ad 0 0), .int p1] σ (fX8_gather F p1 σ) (fun e => if e = 0 then 0 else if e = 1 then 1 else if e = 3 then 2 else 0) (fun _ _ => g) := by
  refine q_olw (by decide) (Nat.le_of_ble_eq_true rfl) "LeasehallLaw" rfl (fun p e s m below meth c A Q r0 S0 htab hf hok hw hG hAB hE hNc hret ls hl => ?_)
  replace hl : lv_has ls 3 [(0, .ref (ad 0 0)), (1, .int p1)] := hl
  refine lv_aload_n S0.1 S0.2.1 dL_gather_0 rfl (lv_at hl 0 rfl) ?_
  refine lv_iload_n S0.1 S0.2.1 dL_gather_1 rfl (lv_at hl 1 rfl) ?_
  refine o_ucallv S0 hG hE hAB hok hw (As := [.int p1]) (rest := []) (u_ofXv (e0 := e0) (wX8_gather l hst D Y ad B0 F p1 σ) (fun r h => gn_fX8_gather h)) qyX8_gather kw_910 ⟨Nat.le_of_ble_eq_true rfl, Nat.le_of_ble_eq_true rfl⟩ r0 hf rfl hl.1 (Nat.le_of_ble_eq_true rfl) dL_gather_2 ⟨Nat.le_of_ble_eq_true rfl, Nat.le_of_ble_eq_true rfl⟩ rfl (fun ex ce q9 r ad' σ' H locs hw h00 hok hfv hne hce hcv hcl => ?_) (fun r ad' σ' H locs hw h00 hok hfv => ?_)
  · replace hne : ex ∈ ([0, 1, 3] : List Nat) ∧ ex ≠ 0 := ⟨gx_fX8_gather hfv, hne⟩
    simp only [List.mem_cons, List.not_mem_nil, or_false] at hne
    obtain ⟨hx, hne⟩ := hne
    rcases hx with rfl | rfl | rfl
    · exact absurd rfl hne
    · refine vx_catch (own := "LeasehallLaw") (name := exN 1) (E := exN 1) S0.2.2.2.1 (tableOf []) ⟨0, 5, 8, 13⟩ (tableOf [(0, 5, 11, 17)]) (htab.trans rfl) (fun z hz => by simp [tableOf] at hz) rfl (by decide) (S0.2.2.2.2 _ kw_327) (va_Nw.use rfl (hNc.2 1 (by decide))) hce hcv hcl ?_
      refine lv_astore_n (lv' := [(2, .ref q9), (0, .ref (ad 0 0)), (1, .int p1)]) S0.1 S0.2.1 dL_gather_8 rfl hl (by decide) rfl (fun ls hl => ?_)
      refine lv_iconst (v := 1) S0.1 S0.2.1 dL_gather_9 (by decide) ?_
      exact hret (ex := 1) (v := r) dL_gather_10 hw h00 hok hfv rfl
    · refine vx_catch (own := "LeasehallLaw") (name := exN 3) (E := exN 3) S0.2.2.2.1 (tableOf [(0, 5, 8, 13)]) ⟨0, 5, 11, 17⟩ (tableOf []) (htab.trans rfl) (fun z hz => by
        simp only [tableOf, List.map_cons, List.map_nil, List.mem_cons, List.not_mem_nil, or_false] at hz
        rw [hz]
        exact Or.inr ⟨by decide, exN 1, S0.2.2.2.2 _ kw_327, hNc.1 (3, 1) (by decide)⟩) rfl (by decide) (S0.2.2.2.2 _ kw_329) (va_Nw.use rfl (hNc.2 3 (by decide))) hce hcv hcl ?_
      refine lv_astore_n (lv' := [(2, .ref q9), (0, .ref (ad 0 0)), (1, .int p1)]) S0.1 S0.2.1 dL_gather_11 rfl hl (by decide) rfl (fun ls hl => ?_)
      refine lv_iconst (v := 2) S0.1 S0.2.1 dL_gather_12 (by decide) ?_
      exact hret (ex := 3) (v := r) dL_gather_13 hw h00 hok hfv rfl
  · refine lv_goto (tgt := 14) S0.1 S0.2.1 dL_gather_5 (by decide) ?_
    refine lv_iconst (v := 0) S0.1 S0.2.1 dL_gather_14 (by decide) ?_
    exact hret (ex := 0) (v := r) dL_gather_15 hw h00 hok hfv rfl
set_option maxRecDepth 100000 in
set_option maxHeartbeats 4000000 in
theorem wL_done (l : Launch) (hst : l.stackTraces = false) (D : va_G) (Y : Nat → ClassId) (ad : qAd) (o : Nat) (g : Nat → Int64) (B0 e0 F : Nat) (p1 : Int32) (σ : qS) : qLw l yL_done cL_done 4 [(0, 9, 12, 13), (0, 9, 15, 17)] 8 185 (fun _ => 3) (fun _ => 18) B0 e0 D Y ad o g [.ref (ad 0 0), .int p1, .ref o] σ (fX8_done F p1 σ) (fun e => if e = 0 then 0 else if e = 1 then 1 else if e = 3 then 2 else 0) (fun ex v => if ex = 0 then vp_updL g 0 v.toInt64 else g) := by
  refine q_olw (by decide) (Nat.le_of_ble_eq_true rfl) "LeasehallLaw" rfl (fun p e s m below meth c A Q r0 S0 htab hf hok hw hG hAB hE hNc hret ls hl => ?_)
  replace hl : lv_has ls 4 [(0, .ref (ad 0 0)), (1, .int p1), (2, .ref o)] := hl
  refine lv_aload_n S0.1 S0.2.1 dL_done_0 rfl (lv_at hl 2 rfl) ?_
  refine lv_iconst (v := 0) S0.1 S0.2.1 dL_done_1 (by decide) ?_
  refine lv_aload_n S0.1 S0.2.1 dL_done_2 rfl (lv_at hl 0 rfl) ?_
  refine lv_iload_n S0.1 S0.2.1 dL_done_3 rfl (lv_at hl 1 rfl) ?_
  refine o_ucalli S0 hG hE hAB hok hw (As := [.int p1]) (rest := [.int 0, .ref o]) (u_ofX (e0 := e0) (wX8_done l hst D Y ad B0 F p1 σ) (fun r h => gn_fX8_done h)) qyX8_done kw_921 ⟨Nat.le_of_ble_eq_true rfl, Nat.le_of_ble_eq_true rfl⟩ r0 hf rfl hl.1 (Nat.le_of_ble_eq_true rfl) dL_done_4 ⟨Nat.le_of_ble_eq_true rfl, Nat.le_of_ble_eq_true rfl⟩ rfl (fun ex ce q9 r ad' σ' H locs hw h00 hok hfv hne hce hcv hcl => ?_) (fun r ad' σ' H locs hw h00 hok hfv => ?_)
  · replace hne : ex ∈ ([0, 1, 3] : List Nat) ∧ ex ≠ 0 := ⟨gx_fX8_done hfv, hne⟩
    simp only [List.mem_cons, List.not_mem_nil, or_false] at hne
    obtain ⟨hx, hne⟩ := hne
    rcases hx with rfl | rfl | rfl
    · exact absurd rfl hne
    · refine vx_catch (own := "LeasehallLaw") (name := exN 1) (E := exN 1) S0.2.2.2.1 (tableOf []) ⟨0, 9, 12, 13⟩ (tableOf [(0, 9, 15, 17)]) (htab.trans rfl) (fun z hz => by simp [tableOf] at hz) rfl (by decide) (S0.2.2.2.2 _ kw_327) (va_Nw.use rfl (hNc.2 1 (by decide))) hce hcv hcl ?_
      refine lv_astore_n (lv' := [(3, .ref q9), (0, .ref (ad 0 0)), (1, .int p1), (2, .ref o)]) S0.1 S0.2.1 dL_done_12 rfl hl (by decide) rfl (fun ls hl => ?_)
      refine lv_iconst (v := 1) S0.1 S0.2.1 dL_done_13 (by decide) ?_
      exact hret (ex := 1) (v := r) dL_done_14 hw h00 hok hfv rfl
    · refine vx_catch (own := "LeasehallLaw") (name := exN 3) (E := exN 3) S0.2.2.2.1 (tableOf [(0, 9, 12, 13)]) ⟨0, 9, 15, 17⟩ (tableOf []) (htab.trans rfl) (fun z hz => by
        simp only [tableOf, List.map_cons, List.map_nil, List.mem_cons, List.not_mem_nil, or_false] at hz
        rw [hz]
        exact Or.inr ⟨by decide, exN 1, S0.2.2.2.2 _ kw_327, hNc.1 (3, 1) (by decide)⟩) rfl (by decide) (S0.2.2.2.2 _ kw_329) (va_Nw.use rfl (hNc.2 3 (by decide))) hce hcv hcl ?_
      refine lv_astore_n (lv' := [(3, .ref q9), (0, .ref (ad 0 0)), (1, .int p1), (2, .ref o)]) S0.1 S0.2.1 dL_done_15 rfl hl (by decide) rfl (fun ls hl => ?_)
      refine lv_iconst (v := 2) S0.1 S0.2.1 dL_done_16 (by decide) ?_
      exact hret (ex := 3) (v := r) dL_done_17 hw h00 hok hfv rfl
  · refine lv_i2l (v := r.toInt64) S0.1 S0.2.1 dL_done_7 rfl ?_
    refine o_last S0 hw dL_done_8 (fun H locs hw => ?_)
    refine lv_goto (tgt := 18) S0.1 S0.2.1 dL_done_9 (by decide) ?_
    refine lv_iconst (v := 0) S0.1 S0.2.1 dL_done_18 (by decide) ?_
    exact hret (ex := 0) (v := r) dL_done_19 hw h00 hok hfv rfl
set_option maxRecDepth 100000 in
set_option maxHeartbeats 4000000 in
theorem wL_answer (l : Launch) (hst : l.stackTraces = false) (D : va_G) (Y : Nat → ClassId) (ad : qAd) (o : Nat) (g : Nat → Int64) (B0 e0 F : Nat) (p1 : Int32) (p2 : Int32) (σ : qS) : qLw l yL_answer cL_answer 5 [(0, 10, 13, 13)] 8 134 (fun _ => 2) (fun _ => 12) B0 e0 D Y ad o g [.ref (ad 0 0), .int p1, .int p2, .ref o] σ (fX8_answer F p1 p2 σ) (fun e => if e = 0 then 0 else if e = 1 then 1 else 0) (fun ex v => if ex = 0 then vp_updL g 0 v.toInt64 else g) := by
  refine q_olw (by decide) (Nat.le_of_ble_eq_true rfl) "LeasehallLaw" rfl (fun p e s m below meth c A Q r0 S0 htab hf hok hw hG hAB hE hNc hret ls hl => ?_)
  replace hl : lv_has ls 5 [(0, .ref (ad 0 0)), (1, .int p1), (2, .int p2), (3, .ref o)] := hl
  refine lv_aload_n S0.1 S0.2.1 dL_answer_0 rfl (lv_at hl 3 rfl) ?_
  refine lv_iconst (v := 0) S0.1 S0.2.1 dL_answer_1 (by decide) ?_
  refine lv_aload_n S0.1 S0.2.1 dL_answer_2 rfl (lv_at hl 0 rfl) ?_
  refine lv_iload_n S0.1 S0.2.1 dL_answer_3 rfl (lv_at hl 1 rfl) ?_
  refine lv_iload_n S0.1 S0.2.1 dL_answer_4 rfl (lv_at hl 2 rfl) ?_
  refine o_ucalli S0 hG hE hAB hok hw (As := [.int p1, .int p2]) (rest := [.int 0, .ref o]) (u_ofX (e0 := e0) (wX8_answer l hst D Y ad B0 F p1 p2 σ) (fun r h => gn_fX8_answer h)) qyX8_answer kw_933 ⟨Nat.le_of_ble_eq_true rfl, Nat.le_of_ble_eq_true rfl⟩ r0 hf rfl hl.1 (Nat.le_of_ble_eq_true rfl) dL_answer_5 ⟨Nat.le_of_ble_eq_true rfl, Nat.le_of_ble_eq_true rfl⟩ rfl (fun ex ce q9 r ad' σ' H locs hw h00 hok hfv hne hce hcv hcl => ?_) (fun r ad' σ' H locs hw h00 hok hfv => ?_)
  · replace hne : ex ∈ ([0, 1] : List Nat) ∧ ex ≠ 0 := ⟨gx_fX8_answer hfv, hne⟩
    simp only [List.mem_cons, List.not_mem_nil, or_false] at hne
    obtain ⟨hx, hne⟩ := hne
    rcases hx with rfl | rfl
    · exact absurd rfl hne
    · refine vx_catch (own := "LeasehallLaw") (name := exN 1) (E := exN 1) S0.2.2.2.1 (tableOf []) ⟨0, 10, 13, 13⟩ (tableOf []) (htab.trans rfl) (fun z hz => by simp [tableOf] at hz) rfl (by decide) (S0.2.2.2.2 _ kw_327) (va_Nw.use rfl (hNc.2 1 (by decide))) hce hcv hcl ?_
      refine lv_astore (lv' := [(4, .ref q9), (0, .ref (ad 0 0)), (1, .int p1), (2, .int p2), (3, .ref o)]) S0.1 S0.2.1 dL_answer_13 hl (by decide) rfl (fun ls hl => ?_)
      refine lv_iconst (v := 1) S0.1 S0.2.1 dL_answer_15 (by decide) ?_
      exact hret (ex := 1) (v := r) dL_answer_16 hw h00 hok hfv rfl
  · refine lv_i2l (v := r.toInt64) S0.1 S0.2.1 dL_answer_8 rfl ?_
    refine o_last S0 hw dL_answer_9 (fun H locs hw => ?_)
    refine lv_goto (tgt := 17) S0.1 S0.2.1 dL_answer_10 (by decide) ?_
    refine lv_iconst (v := 0) S0.1 S0.2.1 dL_answer_17 (by decide) ?_
    exact hret (ex := 0) (v := r) dL_answer_18 hw h00 hok hfv rfl
set_option maxRecDepth 100000 in
set_option maxHeartbeats 4000000 in
theorem wL_quota (l : Launch) (hst : l.stackTraces = false) (D : va_G) (Y : Nat → ClassId) (ad : qAd) (o : Nat) (g : Nat → Int64) (B0 e0 F : Nat) (p1 : Int32) (p2 : Int32) (σ : qS) : qLw l yL_quota cL_quota 5 [(0, 10, 13, 15)] 7 112 (fun _ => 1) (fun _ => 6) B0 e0 D Y ad o g [.ref (ad 0 0), .int p1, .int p2, .ref o] σ (fX8_quota F p1 p2 σ) (fun e => if e = 0 then 0 else if e = 2 then 1 else 0) (fun ex v => if ex = 0 then vp_updL g 0 v.toInt64 else g) := by
  refine q_olw (by decide) (Nat.le_of_ble_eq_true rfl) "LeasehallLaw" rfl (fun p e s m below meth c A Q r0 S0 htab hf hok hw hG hAB hE hNc hret ls hl => ?_)
  replace hl : lv_has ls 5 [(0, .ref (ad 0 0)), (1, .int p1), (2, .int p2), (3, .ref o)] := hl
  refine lv_aload_n S0.1 S0.2.1 dL_quota_0 rfl (lv_at hl 3 rfl) ?_
  refine lv_iconst (v := 0) S0.1 S0.2.1 dL_quota_1 (by decide) ?_
  refine lv_aload_n S0.1 S0.2.1 dL_quota_2 rfl (lv_at hl 0 rfl) ?_
  refine lv_iload_n S0.1 S0.2.1 dL_quota_3 rfl (lv_at hl 1 rfl) ?_
  refine lv_iload_n S0.1 S0.2.1 dL_quota_4 rfl (lv_at hl 2 rfl) ?_
  refine o_ucalli S0 hG hE hAB hok hw (As := [.int p1, .int p2]) (rest := [.int 0, .ref o]) (u_ofX (e0 := e0) (wX8_quota l hst D Y ad B0 F p1 p2 σ) (fun r h => gn_fX8_quota h)) qyX8_quota kw_941 ⟨Nat.le_of_ble_eq_true rfl, Nat.le_of_ble_eq_true rfl⟩ r0 hf rfl hl.1 (Nat.le_of_ble_eq_true rfl) dL_quota_5 ⟨Nat.le_of_ble_eq_true rfl, Nat.le_of_ble_eq_true rfl⟩ rfl (fun ex ce q9 r ad' σ' H locs hw h00 hok hfv hne hce hcv hcl => ?_) (fun r ad' σ' H locs hw h00 hok hfv => ?_)
  · replace hne : ex ∈ ([0, 2] : List Nat) ∧ ex ≠ 0 := ⟨gx_fX8_quota hfv, hne⟩
    simp only [List.mem_cons, List.not_mem_nil, or_false] at hne
    obtain ⟨hx, hne⟩ := hne
    rcases hx with rfl | rfl
    · exact absurd rfl hne
    · refine vx_catch (own := "LeasehallLaw") (name := exN 2) (E := exN 2) S0.2.2.2.1 (tableOf []) ⟨0, 10, 13, 15⟩ (tableOf []) (htab.trans rfl) (fun z hz => by simp [tableOf] at hz) rfl (by decide) (S0.2.2.2.2 _ kw_328) (va_Nw.use rfl (hNc.2 2 (by decide))) hce hcv hcl ?_
      refine lv_astore (lv' := [(4, .ref q9), (0, .ref (ad 0 0)), (1, .int p1), (2, .int p2), (3, .ref o)]) S0.1 S0.2.1 dL_quota_13 hl (by decide) rfl (fun ls hl => ?_)
      refine lv_iconst (v := 1) S0.1 S0.2.1 dL_quota_15 (by decide) ?_
      exact hret (ex := 2) (v := r) dL_quota_16 hw h00 hok hfv rfl
  · refine lv_i2l (v := r.toInt64) S0.1 S0.2.1 dL_quota_8 rfl ?_
    refine o_last S0 hw dL_quota_9 (fun H locs hw => ?_)
    refine lv_goto (tgt := 17) S0.1 S0.2.1 dL_quota_10 (by decide) ?_
    refine lv_iconst (v := 0) S0.1 S0.2.1 dL_quota_17 (by decide) ?_
    exact hret (ex := 0) (v := r) dL_quota_18 hw h00 hok hfv rfl
set_option maxRecDepth 100000 in
set_option maxHeartbeats 4000000 in
theorem wL_read (l : Launch) (hst : l.stackTraces = false) (D : va_G) (Y : Nat → ClassId) (ad : qAd) (o : Nat) (g : Nat → Int64) (B0 e0 F : Nat) (p1 : Int32) (p2 : Int32) (p3 : Int32) (σ : qS) : qLw l yL_read cL_read 6 [(0, 12, 15, 13), (0, 12, 19, 15), (0, 12, 23, 17)] 9 158 (fun _ => 2) (fun _ => 12) B0 e0 D Y ad o g [.ref (ad 0 0), .int p1, .int p2, .int p3, .ref o] σ (fX8_read F p1 p2 p3 σ) (fun e => if e = 0 then 0 else if e = 1 then 1 else if e = 2 then 2 else if e = 3 then 3 else 0) (fun ex v => if ex = 0 then vp_updL g 0 v.toInt64 else g) := by
  refine q_olw (by decide) (Nat.le_of_ble_eq_true rfl) "LeasehallLaw" rfl (fun p e s m below meth c A Q r0 S0 htab hf hok hw hG hAB hE hNc hret ls hl => ?_)
  replace hl : lv_has ls 6 [(0, .ref (ad 0 0)), (1, .int p1), (2, .int p2), (3, .int p3), (4, .ref o)] := hl
  refine lv_aload S0.1 S0.2.1 dL_read_0 (lv_at hl 4 rfl) ?_
  refine lv_iconst (v := 0) S0.1 S0.2.1 dL_read_2 (by decide) ?_
  refine lv_aload_n S0.1 S0.2.1 dL_read_3 rfl (lv_at hl 0 rfl) ?_
  refine lv_iload_n S0.1 S0.2.1 dL_read_4 rfl (lv_at hl 1 rfl) ?_
  refine lv_iload_n S0.1 S0.2.1 dL_read_5 rfl (lv_at hl 2 rfl) ?_
  refine lv_iload_n S0.1 S0.2.1 dL_read_6 rfl (lv_at hl 3 rfl) ?_
  refine o_ucalli S0 hG hE hAB hok hw (As := [.int p1, .int p2, .int p3]) (rest := [.int 0, .ref o]) (u_ofX (e0 := e0) (wX8_read l hst D Y ad B0 F p1 p2 p3 σ) (fun r h => gn_fX8_read h)) qyX8_read kw_948 ⟨Nat.le_of_ble_eq_true rfl, Nat.le_of_ble_eq_true rfl⟩ r0 hf rfl hl.1 (Nat.le_of_ble_eq_true rfl) dL_read_7 ⟨Nat.le_of_ble_eq_true rfl, Nat.le_of_ble_eq_true rfl⟩ rfl (fun ex ce q9 r ad' σ' H locs hw h00 hok hfv hne hce hcv hcl => ?_) (fun r ad' σ' H locs hw h00 hok hfv => ?_)
  · replace hne : ex ∈ ([0, 1, 2, 3] : List Nat) ∧ ex ≠ 0 := ⟨gx_fX8_read hfv, hne⟩
    simp only [List.mem_cons, List.not_mem_nil, or_false] at hne
    obtain ⟨hx, hne⟩ := hne
    rcases hx with rfl | rfl | rfl | rfl
    · exact absurd rfl hne
    · refine vx_catch (own := "LeasehallLaw") (name := exN 1) (E := exN 1) S0.2.2.2.1 (tableOf []) ⟨0, 12, 15, 13⟩ (tableOf [(0, 12, 19, 15), (0, 12, 23, 17)]) (htab.trans rfl) (fun z hz => by simp [tableOf] at hz) rfl (by decide) (S0.2.2.2.2 _ kw_327) (va_Nw.use rfl (hNc.2 1 (by decide))) hce hcv hcl ?_
      refine lv_astore (lv' := [(5, .ref q9), (0, .ref (ad 0 0)), (1, .int p1), (2, .int p2), (3, .int p3), (4, .ref o)]) S0.1 S0.2.1 dL_read_15 hl (by decide) rfl (fun ls hl => ?_)
      refine lv_iconst (v := 1) S0.1 S0.2.1 dL_read_17 (by decide) ?_
      exact hret (ex := 1) (v := r) dL_read_18 hw h00 hok hfv rfl
    · refine vx_catch (own := "LeasehallLaw") (name := exN 2) (E := exN 2) S0.2.2.2.1 (tableOf [(0, 12, 15, 13)]) ⟨0, 12, 19, 15⟩ (tableOf [(0, 12, 23, 17)]) (htab.trans rfl) (fun z hz => by
        simp only [tableOf, List.map_cons, List.map_nil, List.mem_cons, List.not_mem_nil, or_false] at hz
        rw [hz]
        exact Or.inr ⟨by decide, exN 1, S0.2.2.2.2 _ kw_327, hNc.1 (2, 1) (by decide)⟩) rfl (by decide) (S0.2.2.2.2 _ kw_328) (va_Nw.use rfl (hNc.2 2 (by decide))) hce hcv hcl ?_
      refine lv_astore (lv' := [(5, .ref q9), (0, .ref (ad 0 0)), (1, .int p1), (2, .int p2), (3, .int p3), (4, .ref o)]) S0.1 S0.2.1 dL_read_19 hl (by decide) rfl (fun ls hl => ?_)
      refine lv_iconst (v := 2) S0.1 S0.2.1 dL_read_21 (by decide) ?_
      exact hret (ex := 2) (v := r) dL_read_22 hw h00 hok hfv rfl
    · refine vx_catch (own := "LeasehallLaw") (name := exN 3) (E := exN 3) S0.2.2.2.1 (tableOf [(0, 12, 15, 13), (0, 12, 19, 15)]) ⟨0, 12, 23, 17⟩ (tableOf []) (htab.trans rfl) (fun z hz => by
        simp only [tableOf, List.map_cons, List.map_nil, List.mem_cons, List.not_mem_nil, or_false] at hz
        rcases hz with rfl | rfl
        · exact Or.inr ⟨by decide, exN 1, S0.2.2.2.2 _ kw_327, hNc.1 (3, 1) (by decide)⟩
        · exact Or.inr ⟨by decide, exN 2, S0.2.2.2.2 _ kw_328, hNc.1 (3, 2) (by decide)⟩) rfl (by decide) (S0.2.2.2.2 _ kw_329) (va_Nw.use rfl (hNc.2 3 (by decide))) hce hcv hcl ?_
      refine lv_astore (lv' := [(5, .ref q9), (0, .ref (ad 0 0)), (1, .int p1), (2, .int p2), (3, .int p3), (4, .ref o)]) S0.1 S0.2.1 dL_read_23 hl (by decide) rfl (fun ls hl => ?_)
      refine lv_iconst (v := 3) S0.1 S0.2.1 dL_read_25 (by decide) ?_
      exact hret (ex := 3) (v := r) dL_read_26 hw h00 hok hfv rfl
  · refine lv_i2l (v := r.toInt64) S0.1 S0.2.1 dL_read_10 rfl ?_
    refine o_last S0 hw dL_read_11 (fun H locs hw => ?_)
    refine lv_goto (tgt := 27) S0.1 S0.2.1 dL_read_12 (by decide) ?_
    refine lv_iconst (v := 0) S0.1 S0.2.1 dL_read_27 (by decide) ?_
    exact hret (ex := 0) (v := r) dL_read_28 hw h00 hok hfv rfl
set_option maxRecDepth 100000 in
set_option maxHeartbeats 4000000 in
theorem wL_child (l : Launch) (hst : l.stackTraces = false) (D : va_G) (Y : Nat → ClassId) (ad : qAd) (o : Nat) (g : Nat → Int64) (B0 e0 F : Nat) (p1 : Int32) (p2 : Int32) (p3 : Int32) (σ : qS) : qLw l yL_child cL_child 6 [(0, 12, 15, 13), (0, 12, 19, 17)] 9 158 (fun _ => 2) (fun _ => 12) B0 e0 D Y ad o g [.ref (ad 0 0), .int p1, .int p2, .int p3, .ref o] σ (fX8_child F p1 p2 p3 σ) (fun e => if e = 0 then 0 else if e = 1 then 1 else if e = 3 then 2 else 0) (fun ex v => if ex = 0 then vp_updL g 0 v.toInt64 else g) := by
  refine q_olw (by decide) (Nat.le_of_ble_eq_true rfl) "LeasehallLaw" rfl (fun p e s m below meth c A Q r0 S0 htab hf hok hw hG hAB hE hNc hret ls hl => ?_)
  replace hl : lv_has ls 6 [(0, .ref (ad 0 0)), (1, .int p1), (2, .int p2), (3, .int p3), (4, .ref o)] := hl
  refine lv_aload S0.1 S0.2.1 dL_child_0 (lv_at hl 4 rfl) ?_
  refine lv_iconst (v := 0) S0.1 S0.2.1 dL_child_2 (by decide) ?_
  refine lv_aload_n S0.1 S0.2.1 dL_child_3 rfl (lv_at hl 0 rfl) ?_
  refine lv_iload_n S0.1 S0.2.1 dL_child_4 rfl (lv_at hl 1 rfl) ?_
  refine lv_iload_n S0.1 S0.2.1 dL_child_5 rfl (lv_at hl 2 rfl) ?_
  refine lv_iload_n S0.1 S0.2.1 dL_child_6 rfl (lv_at hl 3 rfl) ?_
  refine o_ucalli S0 hG hE hAB hok hw (As := [.int p1, .int p2, .int p3]) (rest := [.int 0, .ref o]) (u_ofX (e0 := e0) (wX8_child l hst D Y ad B0 F p1 p2 p3 σ) (fun r h => gn_fX8_child h)) qyX8_child kw_956 ⟨Nat.le_of_ble_eq_true rfl, Nat.le_of_ble_eq_true rfl⟩ r0 hf rfl hl.1 (Nat.le_of_ble_eq_true rfl) dL_child_7 ⟨Nat.le_of_ble_eq_true rfl, Nat.le_of_ble_eq_true rfl⟩ rfl (fun ex ce q9 r ad' σ' H locs hw h00 hok hfv hne hce hcv hcl => ?_) (fun r ad' σ' H locs hw h00 hok hfv => ?_)
  · replace hne : ex ∈ ([0, 1, 3] : List Nat) ∧ ex ≠ 0 := ⟨gx_fX8_child hfv, hne⟩
    simp only [List.mem_cons, List.not_mem_nil, or_false] at hne
    obtain ⟨hx, hne⟩ := hne
    rcases hx with rfl | rfl | rfl
    · exact absurd rfl hne
    · refine vx_catch (own := "LeasehallLaw") (name := exN 1) (E := exN 1) S0.2.2.2.1 (tableOf []) ⟨0, 12, 15, 13⟩ (tableOf [(0, 12, 19, 17)]) (htab.trans rfl) (fun z hz => by simp [tableOf] at hz) rfl (by decide) (S0.2.2.2.2 _ kw_327) (va_Nw.use rfl (hNc.2 1 (by decide))) hce hcv hcl ?_
      refine lv_astore (lv' := [(5, .ref q9), (0, .ref (ad 0 0)), (1, .int p1), (2, .int p2), (3, .int p3), (4, .ref o)]) S0.1 S0.2.1 dL_child_15 hl (by decide) rfl (fun ls hl => ?_)
      refine lv_iconst (v := 1) S0.1 S0.2.1 dL_child_17 (by decide) ?_
      exact hret (ex := 1) (v := r) dL_child_18 hw h00 hok hfv rfl
    · refine vx_catch (own := "LeasehallLaw") (name := exN 3) (E := exN 3) S0.2.2.2.1 (tableOf [(0, 12, 15, 13)]) ⟨0, 12, 19, 17⟩ (tableOf []) (htab.trans rfl) (fun z hz => by
        simp only [tableOf, List.map_cons, List.map_nil, List.mem_cons, List.not_mem_nil, or_false] at hz
        rw [hz]
        exact Or.inr ⟨by decide, exN 1, S0.2.2.2.2 _ kw_327, hNc.1 (3, 1) (by decide)⟩) rfl (by decide) (S0.2.2.2.2 _ kw_329) (va_Nw.use rfl (hNc.2 3 (by decide))) hce hcv hcl ?_
      refine lv_astore (lv' := [(5, .ref q9), (0, .ref (ad 0 0)), (1, .int p1), (2, .int p2), (3, .int p3), (4, .ref o)]) S0.1 S0.2.1 dL_child_19 hl (by decide) rfl (fun ls hl => ?_)
      refine lv_iconst (v := 2) S0.1 S0.2.1 dL_child_21 (by decide) ?_
      exact hret (ex := 3) (v := r) dL_child_22 hw h00 hok hfv rfl
  · refine lv_i2l (v := r.toInt64) S0.1 S0.2.1 dL_child_10 rfl ?_
    refine o_last S0 hw dL_child_11 (fun H locs hw => ?_)
    refine lv_goto (tgt := 23) S0.1 S0.2.1 dL_child_12 (by decide) ?_
    refine lv_iconst (v := 0) S0.1 S0.2.1 dL_child_23 (by decide) ?_
    exact hret (ex := 0) (v := r) dL_child_24 hw h00 hok hfv rfl
set_option maxRecDepth 100000 in
set_option maxHeartbeats 4000000 in
theorem wL_watch (l : Launch) (hst : l.stackTraces = false) (D : va_G) (Y : Nat → ClassId) (ad : qAd) (o : Nat) (g : Nat → Int64) (B0 e0 F : Nat) (p1 : Int32) (p2 : Int32) (p3 : Int32) (σ : qS) : qLw l yL_watch cL_watch 6 [(0, 12, 15, 13), (0, 12, 19, 15), (0, 12, 23, 17)] 8 204 (fun r => 3 + (r.2.2.2 3 p1.toNatClampNeg - σ.2 3 p1.toNatClampNeg)) (fun r => 18 + 2 * (r.2.2.2 3 p1.toNatClampNeg - σ.2 3 p1.toNatClampNeg)) B0 e0 D Y ad o g [.ref (ad 0 0), .int p1, .int p2, .int p3, .ref o] σ (fX8_watch F p1 p2 p3 σ) (fun e => if e = 0 then 0 else if e = 1 then 1 else if e = 2 then 2 else if e = 3 then 3 else 0) (fun ex v => if ex = 0 then vp_updL g 0 v.toInt64 else g) := by
  refine q_olw (by decide) (Nat.le_of_ble_eq_true rfl) "LeasehallLaw" rfl (fun p e s m below meth c A Q r0 S0 htab hf hok hw hG hAB hE hNc hret ls hl => ?_)
  replace hl : lv_has ls 6 [(0, .ref (ad 0 0)), (1, .int p1), (2, .int p2), (3, .int p3), (4, .ref o)] := hl
  refine lv_aload S0.1 S0.2.1 dL_watch_0 (lv_at hl 4 rfl) ?_
  refine lv_iconst (v := 0) S0.1 S0.2.1 dL_watch_2 (by decide) ?_
  refine lv_aload_n S0.1 S0.2.1 dL_watch_3 rfl (lv_at hl 0 rfl) ?_
  refine lv_iload_n S0.1 S0.2.1 dL_watch_4 rfl (lv_at hl 1 rfl) ?_
  refine lv_iload_n S0.1 S0.2.1 dL_watch_5 rfl (lv_at hl 2 rfl) ?_
  refine lv_iload_n S0.1 S0.2.1 dL_watch_6 rfl (lv_at hl 3 rfl) ?_
  refine o_ucalli S0 hG hE hAB hok hw (As := [.int p1, .int p2, .int p3]) (rest := [.int 0, .ref o]) (u_ofZ (wX8_watch l hst D Y ad (ad 58) B0 e0 F p1 p2 p3 σ) (fun r h => gn_fX8_watch h)) qyX8_watch kw_975 ⟨Nat.le_of_ble_eq_true rfl, Nat.le_of_ble_eq_true rfl⟩ r0 hf rfl hl.1 (Nat.le_of_ble_eq_true rfl) dL_watch_7 ⟨Nat.le_of_eq (Nat.zero_add _), Nat.le_of_eq (Nat.zero_add _)⟩ rfl (fun ex ce q9 r ad' σ' H locs hw h00 hok hfv hne hce hcv hcl => ?_) (fun r ad' σ' H locs hw h00 hok hfv => ?_)
  · rw [Nat.zero_add, Nat.zero_add]
    replace hne : ex ∈ ([0, 1, 2, 3] : List Nat) ∧ ex ≠ 0 := ⟨gx_fX8_watch hfv, hne⟩
    simp only [List.mem_cons, List.not_mem_nil, or_false] at hne
    obtain ⟨hx, hne⟩ := hne
    rcases hx with rfl | rfl | rfl | rfl
    · exact absurd rfl hne
    · refine vx_catch (own := "LeasehallLaw") (name := exN 1) (E := exN 1) S0.2.2.2.1 (tableOf []) ⟨0, 12, 15, 13⟩ (tableOf [(0, 12, 19, 15), (0, 12, 23, 17)]) (htab.trans rfl) (fun z hz => by simp [tableOf] at hz) rfl (by decide) (S0.2.2.2.2 _ kw_327) (va_Nw.use rfl (hNc.2 1 (by decide))) hce hcv hcl ?_
      refine lv_astore (lv' := [(5, .ref q9), (0, .ref (ad 0 0)), (1, .int p1), (2, .int p2), (3, .int p3), (4, .ref o)]) S0.1 S0.2.1 dL_watch_15 hl (by decide) rfl (fun ls hl => ?_)
      refine lv_iconst (v := 1) S0.1 S0.2.1 dL_watch_17 (by decide) ?_
      exact hret (ex := 1) (v := r) dL_watch_18 hw h00 hok hfv rfl
    · refine vx_catch (own := "LeasehallLaw") (name := exN 2) (E := exN 2) S0.2.2.2.1 (tableOf [(0, 12, 15, 13)]) ⟨0, 12, 19, 15⟩ (tableOf [(0, 12, 23, 17)]) (htab.trans rfl) (fun z hz => by
        simp only [tableOf, List.map_cons, List.map_nil, List.mem_cons, List.not_mem_nil, or_false] at hz
        rw [hz]
        exact Or.inr ⟨by decide, exN 1, S0.2.2.2.2 _ kw_327, hNc.1 (2, 1) (by decide)⟩) rfl (by decide) (S0.2.2.2.2 _ kw_328) (va_Nw.use rfl (hNc.2 2 (by decide))) hce hcv hcl ?_
      refine lv_astore (lv' := [(5, .ref q9), (0, .ref (ad 0 0)), (1, .int p1), (2, .int p2), (3, .int p3), (4, .ref o)]) S0.1 S0.2.1 dL_watch_19 hl (by decide) rfl (fun ls hl => ?_)
      refine lv_iconst (v := 2) S0.1 S0.2.1 dL_watch_21 (by decide) ?_
      exact hret (ex := 2) (v := r) dL_watch_22 hw h00 hok hfv rfl
    · refine vx_catch (own := "LeasehallLaw") (name := exN 3) (E := exN 3) S0.2.2.2.1 (tableOf [(0, 12, 15, 13), (0, 12, 19, 15)]) ⟨0, 12, 23, 17⟩ (tableOf []) (htab.trans rfl) (fun z hz => by
        simp only [tableOf, List.map_cons, List.map_nil, List.mem_cons, List.not_mem_nil, or_false] at hz
        rcases hz with rfl | rfl
        · exact Or.inr ⟨by decide, exN 1, S0.2.2.2.2 _ kw_327, hNc.1 (3, 1) (by decide)⟩
        · exact Or.inr ⟨by decide, exN 2, S0.2.2.2.2 _ kw_328, hNc.1 (3, 2) (by decide)⟩) rfl (by decide) (S0.2.2.2.2 _ kw_329) (va_Nw.use rfl (hNc.2 3 (by decide))) hce hcv hcl ?_
      refine lv_astore (lv' := [(5, .ref q9), (0, .ref (ad 0 0)), (1, .int p1), (2, .int p2), (3, .int p3), (4, .ref o)]) S0.1 S0.2.1 dL_watch_23 hl (by decide) rfl (fun ls hl => ?_)
      refine lv_iconst (v := 3) S0.1 S0.2.1 dL_watch_25 (by decide) ?_
      exact hret (ex := 3) (v := r) dL_watch_26 hw h00 hok hfv rfl
  · rw [Nat.zero_add, Nat.zero_add]
    refine lv_i2l (v := r.toInt64) S0.1 S0.2.1 dL_watch_10 rfl ?_
    refine o_last S0 hw dL_watch_11 (fun H locs hw => ?_)
    refine lv_goto (tgt := 27) S0.1 S0.2.1 dL_watch_12 (by decide) ?_
    refine lv_iconst (v := 0) S0.1 S0.2.1 dL_watch_27 (by decide) ?_
    exact hret (ex := 0) (v := r) dL_watch_28 hw h00 hok hfv rfl
set_option maxRecDepth 100000 in
set_option maxHeartbeats 4000000 in
theorem wL_hear (l : Launch) (hst : l.stackTraces = false) (D : va_G) (Y : Nat → ClassId) (ad : qAd) (o : Nat) (g : Nat → Int64) (B0 e0 F : Nat) (p1 : Int32) (σ : qS) : qLw l yL_hear cL_hear 4 [(0, 9, 12, 13), (0, 9, 15, 17)] 9 201 (fun r => 2 + (r.2.2.2 3 p1.toNatClampNeg - σ.2 3 p1.toNatClampNeg)) (fun r => 12 + 2 * (r.2.2.2 3 p1.toNatClampNeg - σ.2 3 p1.toNatClampNeg)) B0 e0 D Y ad o g [.ref (ad 0 0), .int p1, .ref o] σ (fX8_hear F p1 σ) (fun e => if e = 0 then 0 else if e = 1 then 1 else if e = 3 then 2 else 0) (fun ex v => if ex = 0 then vp_updL g 0 v.toInt64 else g) := by
  refine q_olw (by decide) (Nat.le_of_ble_eq_true rfl) "LeasehallLaw" rfl (fun p e s m below meth c A Q r0 S0 htab hf hok hw hG hAB hE hNc hret ls hl => ?_)
  replace hl : lv_has ls 4 [(0, .ref (ad 0 0)), (1, .int p1), (2, .ref o)] := hl
  refine lv_aload_n S0.1 S0.2.1 dL_hear_0 rfl (lv_at hl 2 rfl) ?_
  refine lv_iconst (v := 0) S0.1 S0.2.1 dL_hear_1 (by decide) ?_
  refine lv_aload_n S0.1 S0.2.1 dL_hear_2 rfl (lv_at hl 0 rfl) ?_
  refine lv_iload_n S0.1 S0.2.1 dL_hear_3 rfl (lv_at hl 1 rfl) ?_
  refine o_ucalli S0 hG hE hAB hok hw (As := [.int p1]) (rest := [.int 0, .ref o]) (u_ofZ (wX8_hear l hst D Y ad (ad 58) B0 e0 F p1 σ) (fun r h => gn_fX8_hear h)) qyX8_hear kw_1026 ⟨Nat.le_of_ble_eq_true rfl, Nat.le_of_ble_eq_true rfl⟩ r0 hf rfl hl.1 (Nat.le_of_ble_eq_true rfl) dL_hear_4 ⟨Nat.le_of_eq (Nat.zero_add _), Nat.le_of_eq (Nat.zero_add _)⟩ rfl (fun ex ce q9 r ad' σ' H locs hw h00 hok hfv hne hce hcv hcl => ?_) (fun r ad' σ' H locs hw h00 hok hfv => ?_)
  · rw [Nat.zero_add, Nat.zero_add]
    replace hne : ex ∈ ([0, 1, 3] : List Nat) ∧ ex ≠ 0 := ⟨gx_fX8_hear hfv, hne⟩
    simp only [List.mem_cons, List.not_mem_nil, or_false] at hne
    obtain ⟨hx, hne⟩ := hne
    rcases hx with rfl | rfl | rfl
    · exact absurd rfl hne
    · refine vx_catch (own := "LeasehallLaw") (name := exN 1) (E := exN 1) S0.2.2.2.1 (tableOf []) ⟨0, 9, 12, 13⟩ (tableOf [(0, 9, 15, 17)]) (htab.trans rfl) (fun z hz => by simp [tableOf] at hz) rfl (by decide) (S0.2.2.2.2 _ kw_327) (va_Nw.use rfl (hNc.2 1 (by decide))) hce hcv hcl ?_
      refine lv_astore_n (lv' := [(3, .ref q9), (0, .ref (ad 0 0)), (1, .int p1), (2, .ref o)]) S0.1 S0.2.1 dL_hear_12 rfl hl (by decide) rfl (fun ls hl => ?_)
      refine lv_iconst (v := 1) S0.1 S0.2.1 dL_hear_13 (by decide) ?_
      exact hret (ex := 1) (v := r) dL_hear_14 hw h00 hok hfv rfl
    · refine vx_catch (own := "LeasehallLaw") (name := exN 3) (E := exN 3) S0.2.2.2.1 (tableOf [(0, 9, 12, 13)]) ⟨0, 9, 15, 17⟩ (tableOf []) (htab.trans rfl) (fun z hz => by
        simp only [tableOf, List.map_cons, List.map_nil, List.mem_cons, List.not_mem_nil, or_false] at hz
        rw [hz]
        exact Or.inr ⟨by decide, exN 1, S0.2.2.2.2 _ kw_327, hNc.1 (3, 1) (by decide)⟩) rfl (by decide) (S0.2.2.2.2 _ kw_329) (va_Nw.use rfl (hNc.2 3 (by decide))) hce hcv hcl ?_
      refine lv_astore_n (lv' := [(3, .ref q9), (0, .ref (ad 0 0)), (1, .int p1), (2, .ref o)]) S0.1 S0.2.1 dL_hear_15 rfl hl (by decide) rfl (fun ls hl => ?_)
      refine lv_iconst (v := 2) S0.1 S0.2.1 dL_hear_16 (by decide) ?_
      exact hret (ex := 3) (v := r) dL_hear_17 hw h00 hok hfv rfl
  · rw [Nat.zero_add, Nat.zero_add]
    refine lv_i2l (v := r.toInt64) S0.1 S0.2.1 dL_hear_7 rfl ?_
    refine o_last S0 hw dL_hear_8 (fun H locs hw => ?_)
    refine lv_goto (tgt := 18) S0.1 S0.2.1 dL_hear_9 (by decide) ?_
    refine lv_iconst (v := 0) S0.1 S0.2.1 dL_hear_18 (by decide) ?_
    exact hret (ex := 0) (v := r) dL_hear_19 hw h00 hok hfv rfl
set_option maxRecDepth 100000 in
set_option maxHeartbeats 4000000 in
theorem wL_want (l : Launch) (hst : l.stackTraces = false) (D : va_G) (Y : Nat → ClassId) (ad : qAd) (o : Nat) (g : Nat → Int64) (B0 e0 F : Nat) (p1 : Int32) (p2 : Int32) (p3 : Int32) (σ : qS) : qLw l yL_want cL_want 6 [(0, 12, 15, 13), (0, 12, 19, 17)] 8 186 (fun _ => 3) (fun _ => 18) B0 e0 D Y ad o g [.ref (ad 0 0), .int p1, .int p2, .int p3, .ref o] σ (fX8_want F p1 p2 p3 σ) (fun e => if e = 0 then 0 else if e = 1 then 1 else if e = 3 then 2 else 0) (fun ex v => if ex = 0 then vp_updL g 0 v.toInt64 else g) := by
  refine q_olw (by decide) (Nat.le_of_ble_eq_true rfl) "LeasehallLaw" rfl (fun p e s m below meth c A Q r0 S0 htab hf hok hw hG hAB hE hNc hret ls hl => ?_)
  replace hl : lv_has ls 6 [(0, .ref (ad 0 0)), (1, .int p1), (2, .int p2), (3, .int p3), (4, .ref o)] := hl
  refine lv_aload S0.1 S0.2.1 dL_want_0 (lv_at hl 4 rfl) ?_
  refine lv_iconst (v := 0) S0.1 S0.2.1 dL_want_2 (by decide) ?_
  refine lv_aload_n S0.1 S0.2.1 dL_want_3 rfl (lv_at hl 0 rfl) ?_
  refine lv_iload_n S0.1 S0.2.1 dL_want_4 rfl (lv_at hl 1 rfl) ?_
  refine lv_iload_n S0.1 S0.2.1 dL_want_5 rfl (lv_at hl 2 rfl) ?_
  refine lv_iload_n S0.1 S0.2.1 dL_want_6 rfl (lv_at hl 3 rfl) ?_
  refine o_ucalli S0 hG hE hAB hok hw (As := [.int p1, .int p2, .int p3]) (rest := [.int 0, .ref o]) (u_ofX (e0 := e0) (wX8_want l hst D Y ad B0 F p1 p2 p3 σ) (fun r h => gn_fX8_want h)) qyX8_want kw_1037 ⟨Nat.le_of_ble_eq_true rfl, Nat.le_of_ble_eq_true rfl⟩ r0 hf rfl hl.1 (Nat.le_of_ble_eq_true rfl) dL_want_7 ⟨Nat.le_of_ble_eq_true rfl, Nat.le_of_ble_eq_true rfl⟩ rfl (fun ex ce q9 r ad' σ' H locs hw h00 hok hfv hne hce hcv hcl => ?_) (fun r ad' σ' H locs hw h00 hok hfv => ?_)
  · replace hne : ex ∈ ([0, 1, 3] : List Nat) ∧ ex ≠ 0 := ⟨gx_fX8_want hfv, hne⟩
    simp only [List.mem_cons, List.not_mem_nil, or_false] at hne
    obtain ⟨hx, hne⟩ := hne
    rcases hx with rfl | rfl | rfl
    · exact absurd rfl hne
    · refine vx_catch (own := "LeasehallLaw") (name := exN 1) (E := exN 1) S0.2.2.2.1 (tableOf []) ⟨0, 12, 15, 13⟩ (tableOf [(0, 12, 19, 17)]) (htab.trans rfl) (fun z hz => by simp [tableOf] at hz) rfl (by decide) (S0.2.2.2.2 _ kw_327) (va_Nw.use rfl (hNc.2 1 (by decide))) hce hcv hcl ?_
      refine lv_astore (lv' := [(5, .ref q9), (0, .ref (ad 0 0)), (1, .int p1), (2, .int p2), (3, .int p3), (4, .ref o)]) S0.1 S0.2.1 dL_want_15 hl (by decide) rfl (fun ls hl => ?_)
      refine lv_iconst (v := 1) S0.1 S0.2.1 dL_want_17 (by decide) ?_
      exact hret (ex := 1) (v := r) dL_want_18 hw h00 hok hfv rfl
    · refine vx_catch (own := "LeasehallLaw") (name := exN 3) (E := exN 3) S0.2.2.2.1 (tableOf [(0, 12, 15, 13)]) ⟨0, 12, 19, 17⟩ (tableOf []) (htab.trans rfl) (fun z hz => by
        simp only [tableOf, List.map_cons, List.map_nil, List.mem_cons, List.not_mem_nil, or_false] at hz
        rw [hz]
        exact Or.inr ⟨by decide, exN 1, S0.2.2.2.2 _ kw_327, hNc.1 (3, 1) (by decide)⟩) rfl (by decide) (S0.2.2.2.2 _ kw_329) (va_Nw.use rfl (hNc.2 3 (by decide))) hce hcv hcl ?_
      refine lv_astore (lv' := [(5, .ref q9), (0, .ref (ad 0 0)), (1, .int p1), (2, .int p2), (3, .int p3), (4, .ref o)]) S0.1 S0.2.1 dL_want_19 hl (by decide) rfl (fun ls hl => ?_)
      refine lv_iconst (v := 2) S0.1 S0.2.1 dL_want_21 (by decide) ?_
      exact hret (ex := 3) (v := r) dL_want_22 hw h00 hok hfv rfl
  · refine lv_i2l (v := r.toInt64) S0.1 S0.2.1 dL_want_10 rfl ?_
    refine o_last S0 hw dL_want_11 (fun H locs hw => ?_)
    refine lv_goto (tgt := 23) S0.1 S0.2.1 dL_want_12 (by decide) ?_
    refine lv_iconst (v := 0) S0.1 S0.2.1 dL_want_23 (by decide) ?_
    exact hret (ex := 0) (v := r) dL_want_24 hw h00 hok hfv rfl
set_option maxRecDepth 100000 in
set_option maxHeartbeats 4000000 in
theorem wL_has (l : Launch) (hst : l.stackTraces = false) (D : va_G) (Y : Nat → ClassId) (ad : qAd) (o : Nat) (g : Nat → Int64) (B0 e0 F : Nat) (p1 : Int32) (p2 : Int32) (σ : qS) : qLw l yL_has cL_has 5 [(0, 10, 13, 13), (0, 10, 17, 17)] 9 156 (fun _ => 2) (fun _ => 12) B0 e0 D Y ad o g [.ref (ad 0 0), .int p1, .int p2, .ref o] σ (fX8_has F p1 p2 σ) (fun e => if e = 0 then 0 else if e = 1 then 1 else if e = 3 then 2 else 0) (fun ex v => if ex = 0 then vp_updL g 0 v.toInt64 else g) := by
  refine q_olw (by decide) (Nat.le_of_ble_eq_true rfl) "LeasehallLaw" rfl (fun p e s m below meth c A Q r0 S0 htab hf hok hw hG hAB hE hNc hret ls hl => ?_)
  replace hl : lv_has ls 5 [(0, .ref (ad 0 0)), (1, .int p1), (2, .int p2), (3, .ref o)] := hl
  refine lv_aload_n S0.1 S0.2.1 dL_has_0 rfl (lv_at hl 3 rfl) ?_
  refine lv_iconst (v := 0) S0.1 S0.2.1 dL_has_1 (by decide) ?_
  refine lv_aload_n S0.1 S0.2.1 dL_has_2 rfl (lv_at hl 0 rfl) ?_
  refine lv_iload_n S0.1 S0.2.1 dL_has_3 rfl (lv_at hl 1 rfl) ?_
  refine lv_iload_n S0.1 S0.2.1 dL_has_4 rfl (lv_at hl 2 rfl) ?_
  refine o_ucalli S0 hG hE hAB hok hw (As := [.int p1, .int p2]) (rest := [.int 0, .ref o]) (u_ofX (e0 := e0) (wX8_has l hst D Y ad B0 F p1 p2 σ) (fun r h => gn_fX8_has h)) qyX8_has kw_1044 ⟨Nat.le_of_ble_eq_true rfl, Nat.le_of_ble_eq_true rfl⟩ r0 hf rfl hl.1 (Nat.le_of_ble_eq_true rfl) dL_has_5 ⟨Nat.le_of_ble_eq_true rfl, Nat.le_of_ble_eq_true rfl⟩ rfl (fun ex ce q9 r ad' σ' H locs hw h00 hok hfv hne hce hcv hcl => ?_) (fun r ad' σ' H locs hw h00 hok hfv => ?_)
  · replace hne : ex ∈ ([0, 1, 3] : List Nat) ∧ ex ≠ 0 := ⟨gx_fX8_has hfv, hne⟩
    simp only [List.mem_cons, List.not_mem_nil, or_false] at hne
    obtain ⟨hx, hne⟩ := hne
    rcases hx with rfl | rfl | rfl
    · exact absurd rfl hne
    · refine vx_catch (own := "LeasehallLaw") (name := exN 1) (E := exN 1) S0.2.2.2.1 (tableOf []) ⟨0, 10, 13, 13⟩ (tableOf [(0, 10, 17, 17)]) (htab.trans rfl) (fun z hz => by simp [tableOf] at hz) rfl (by decide) (S0.2.2.2.2 _ kw_327) (va_Nw.use rfl (hNc.2 1 (by decide))) hce hcv hcl ?_
      refine lv_astore (lv' := [(4, .ref q9), (0, .ref (ad 0 0)), (1, .int p1), (2, .int p2), (3, .ref o)]) S0.1 S0.2.1 dL_has_13 hl (by decide) rfl (fun ls hl => ?_)
      refine lv_iconst (v := 1) S0.1 S0.2.1 dL_has_15 (by decide) ?_
      exact hret (ex := 1) (v := r) dL_has_16 hw h00 hok hfv rfl
    · refine vx_catch (own := "LeasehallLaw") (name := exN 3) (E := exN 3) S0.2.2.2.1 (tableOf [(0, 10, 13, 13)]) ⟨0, 10, 17, 17⟩ (tableOf []) (htab.trans rfl) (fun z hz => by
        simp only [tableOf, List.map_cons, List.map_nil, List.mem_cons, List.not_mem_nil, or_false] at hz
        rw [hz]
        exact Or.inr ⟨by decide, exN 1, S0.2.2.2.2 _ kw_327, hNc.1 (3, 1) (by decide)⟩) rfl (by decide) (S0.2.2.2.2 _ kw_329) (va_Nw.use rfl (hNc.2 3 (by decide))) hce hcv hcl ?_
      refine lv_astore (lv' := [(4, .ref q9), (0, .ref (ad 0 0)), (1, .int p1), (2, .int p2), (3, .ref o)]) S0.1 S0.2.1 dL_has_17 hl (by decide) rfl (fun ls hl => ?_)
      refine lv_iconst (v := 2) S0.1 S0.2.1 dL_has_19 (by decide) ?_
      exact hret (ex := 3) (v := r) dL_has_20 hw h00 hok hfv rfl
  · refine lv_i2l (v := r.toInt64) S0.1 S0.2.1 dL_has_8 rfl ?_
    refine o_last S0 hw dL_has_9 (fun H locs hw => ?_)
    refine lv_goto (tgt := 21) S0.1 S0.2.1 dL_has_10 (by decide) ?_
    refine lv_iconst (v := 0) S0.1 S0.2.1 dL_has_21 (by decide) ?_
    exact hret (ex := 0) (v := r) dL_has_22 hw h00 hok hfv rfl
set_option maxRecDepth 100000 in
set_option maxHeartbeats 4000000 in
theorem wL_giveUp (l : Launch) (hst : l.stackTraces = false) (D : va_G) (Y : Nat → ClassId) (ad : qAd) (o : Nat) (g : Nat → Int64) (B0 e0 F : Nat) (p1 : Int32) (p2 : Int32) (σ : qS) : qLw l yL_giveUp cL_giveUp 5 [(0, 10, 13, 13), (0, 10, 17, 17)] 9 157 (fun _ => 2) (fun _ => 12) B0 e0 D Y ad o g [.ref (ad 0 0), .int p1, .int p2, .ref o] σ (fX8_giveUp F p1 p2 σ) (fun e => if e = 0 then 0 else if e = 1 then 1 else if e = 3 then 2 else 0) (fun ex v => if ex = 0 then vp_updL g 0 v.toInt64 else g) := by
  refine q_olw (by decide) (Nat.le_of_ble_eq_true rfl) "LeasehallLaw" rfl (fun p e s m below meth c A Q r0 S0 htab hf hok hw hG hAB hE hNc hret ls hl => ?_)
  replace hl : lv_has ls 5 [(0, .ref (ad 0 0)), (1, .int p1), (2, .int p2), (3, .ref o)] := hl
  refine lv_aload_n S0.1 S0.2.1 dL_giveUp_0 rfl (lv_at hl 3 rfl) ?_
  refine lv_iconst (v := 0) S0.1 S0.2.1 dL_giveUp_1 (by decide) ?_
  refine lv_aload_n S0.1 S0.2.1 dL_giveUp_2 rfl (lv_at hl 0 rfl) ?_
  refine lv_iload_n S0.1 S0.2.1 dL_giveUp_3 rfl (lv_at hl 1 rfl) ?_
  refine lv_iload_n S0.1 S0.2.1 dL_giveUp_4 rfl (lv_at hl 2 rfl) ?_
  refine o_ucalli S0 hG hE hAB hok hw (As := [.int p1, .int p2]) (rest := [.int 0, .ref o]) (u_ofX (e0 := e0) (wX8_giveUp l hst D Y ad B0 F p1 p2 σ) (fun r h => gn_fX8_giveUp h)) qyX8_giveUp kw_1063 ⟨Nat.le_of_ble_eq_true rfl, Nat.le_of_ble_eq_true rfl⟩ r0 hf rfl hl.1 (Nat.le_of_ble_eq_true rfl) dL_giveUp_5 ⟨Nat.le_of_ble_eq_true rfl, Nat.le_of_ble_eq_true rfl⟩ rfl (fun ex ce q9 r ad' σ' H locs hw h00 hok hfv hne hce hcv hcl => ?_) (fun r ad' σ' H locs hw h00 hok hfv => ?_)
  · replace hne : ex ∈ ([0, 1, 3] : List Nat) ∧ ex ≠ 0 := ⟨gx_fX8_giveUp hfv, hne⟩
    simp only [List.mem_cons, List.not_mem_nil, or_false] at hne
    obtain ⟨hx, hne⟩ := hne
    rcases hx with rfl | rfl | rfl
    · exact absurd rfl hne
    · refine vx_catch (own := "LeasehallLaw") (name := exN 1) (E := exN 1) S0.2.2.2.1 (tableOf []) ⟨0, 10, 13, 13⟩ (tableOf [(0, 10, 17, 17)]) (htab.trans rfl) (fun z hz => by simp [tableOf] at hz) rfl (by decide) (S0.2.2.2.2 _ kw_327) (va_Nw.use rfl (hNc.2 1 (by decide))) hce hcv hcl ?_
      refine lv_astore (lv' := [(4, .ref q9), (0, .ref (ad 0 0)), (1, .int p1), (2, .int p2), (3, .ref o)]) S0.1 S0.2.1 dL_giveUp_13 hl (by decide) rfl (fun ls hl => ?_)
      refine lv_iconst (v := 1) S0.1 S0.2.1 dL_giveUp_15 (by decide) ?_
      exact hret (ex := 1) (v := r) dL_giveUp_16 hw h00 hok hfv rfl
    · refine vx_catch (own := "LeasehallLaw") (name := exN 3) (E := exN 3) S0.2.2.2.1 (tableOf [(0, 10, 13, 13)]) ⟨0, 10, 17, 17⟩ (tableOf []) (htab.trans rfl) (fun z hz => by
        simp only [tableOf, List.map_cons, List.map_nil, List.mem_cons, List.not_mem_nil, or_false] at hz
        rw [hz]
        exact Or.inr ⟨by decide, exN 1, S0.2.2.2.2 _ kw_327, hNc.1 (3, 1) (by decide)⟩) rfl (by decide) (S0.2.2.2.2 _ kw_329) (va_Nw.use rfl (hNc.2 3 (by decide))) hce hcv hcl ?_
      refine lv_astore (lv' := [(4, .ref q9), (0, .ref (ad 0 0)), (1, .int p1), (2, .int p2), (3, .ref o)]) S0.1 S0.2.1 dL_giveUp_17 hl (by decide) rfl (fun ls hl => ?_)
      refine lv_iconst (v := 2) S0.1 S0.2.1 dL_giveUp_19 (by decide) ?_
      exact hret (ex := 3) (v := r) dL_giveUp_20 hw h00 hok hfv rfl
  · refine lv_i2l (v := r.toInt64) S0.1 S0.2.1 dL_giveUp_8 rfl ?_
    refine o_last S0 hw dL_giveUp_9 (fun H locs hw => ?_)
    refine lv_goto (tgt := 21) S0.1 S0.2.1 dL_giveUp_10 (by decide) ?_
    refine lv_iconst (v := 0) S0.1 S0.2.1 dL_giveUp_21 (by decide) ?_
    exact hret (ex := 0) (v := r) dL_giveUp_22 hw h00 hok hfv rfl
set_option maxRecDepth 100000 in
set_option maxHeartbeats 4000000 in
theorem wL_isOpen (l : Launch) (hst : l.stackTraces = false) (D : va_G) (Y : Nat → ClassId) (ad : qAd) (o : Nat) (g : Nat → Int64) (B0 e0 F : Nat) (p1 : Int32) (p2 : Int32) (p3 : Int32) (σ : qS) : qLw l yL_isOpen cL_isOpen 6 [(0, 19, 22, 13), (0, 19, 26, 15), (0, 19, 30, 17)] 9 156 (fun _ => 2) (fun _ => 12) B0 e0 D Y ad o g [.ref (ad 0 0), .int p1, .int p2, .int p3, .ref o] σ (fX8_isOpen F p1 p2 p3 σ) (fun e => if e = 0 then 0 else if e = 1 then 1 else if e = 2 then 2 else if e = 3 then 3 else 0) (fun ex v => if ex = 0 then vp_updL g 0 (if v = 0 then 0 else 1) else g) := by
  refine q_olw (by decide) (Nat.le_of_ble_eq_true rfl) "LeasehallLaw" rfl (fun p e s m below meth c A Q r0 S0 htab hf hok hw hG hAB hE hNc hret ls hl => ?_)
  replace hl : lv_has ls 6 [(0, .ref (ad 0 0)), (1, .int p1), (2, .int p2), (3, .int p3), (4, .ref o)] := hl
  refine lv_aload S0.1 S0.2.1 dL_isOpen_0 (lv_at hl 4 rfl) ?_
  refine lv_iconst (v := 0) S0.1 S0.2.1 dL_isOpen_2 (by decide) ?_
  refine lv_aload_n S0.1 S0.2.1 dL_isOpen_3 rfl (lv_at hl 0 rfl) ?_
  refine lv_iload_n S0.1 S0.2.1 dL_isOpen_4 rfl (lv_at hl 1 rfl) ?_
  refine lv_iload_n S0.1 S0.2.1 dL_isOpen_5 rfl (lv_at hl 2 rfl) ?_
  refine lv_iload_n S0.1 S0.2.1 dL_isOpen_6 rfl (lv_at hl 3 rfl) ?_
  refine o_ucalli S0 hG hE hAB hok hw (As := [.int p1, .int p2, .int p3]) (rest := [.int 0, .ref o]) (u_ofX (e0 := e0) (wX8_isOpen l hst D Y ad B0 F p1 p2 p3 σ) (fun r h => gn_fX8_isOpen h)) qyX8_isOpen kw_1071 ⟨Nat.le_of_ble_eq_true rfl, Nat.le_of_ble_eq_true rfl⟩ r0 hf rfl hl.1 (Nat.le_of_ble_eq_true rfl) dL_isOpen_7 ⟨Nat.le_of_ble_eq_true rfl, Nat.le_of_ble_eq_true rfl⟩ rfl (fun ex ce q9 r ad' σ' H locs hw h00 hok hfv hne hce hcv hcl => ?_) (fun r ad' σ' H locs hw h00 hok hfv => ?_)
  · replace hne : ex ∈ ([0, 1, 2, 3] : List Nat) ∧ ex ≠ 0 := ⟨gx_fX8_isOpen hfv, hne⟩
    simp only [List.mem_cons, List.not_mem_nil, or_false] at hne
    obtain ⟨hx, hne⟩ := hne
    rcases hx with rfl | rfl | rfl | rfl
    · exact absurd rfl hne
    · refine vx_catch (own := "LeasehallLaw") (name := exN 1) (E := exN 1) S0.2.2.2.1 (tableOf []) ⟨0, 19, 22, 13⟩ (tableOf [(0, 19, 26, 15), (0, 19, 30, 17)]) (htab.trans rfl) (fun z hz => by simp [tableOf] at hz) rfl (by decide) (S0.2.2.2.2 _ kw_327) (va_Nw.use rfl (hNc.2 1 (by decide))) hce hcv hcl ?_
      refine lv_astore (lv' := [(5, .ref q9), (0, .ref (ad 0 0)), (1, .int p1), (2, .int p2), (3, .int p3), (4, .ref o)]) S0.1 S0.2.1 dL_isOpen_22 hl (by decide) rfl (fun ls hl => ?_)
      refine lv_iconst (v := 1) S0.1 S0.2.1 dL_isOpen_24 (by decide) ?_
      exact hret (ex := 1) (v := r) dL_isOpen_25 hw h00 hok hfv rfl
    · refine vx_catch (own := "LeasehallLaw") (name := exN 2) (E := exN 2) S0.2.2.2.1 (tableOf [(0, 19, 22, 13)]) ⟨0, 19, 26, 15⟩ (tableOf [(0, 19, 30, 17)]) (htab.trans rfl) (fun z hz => by
        simp only [tableOf, List.map_cons, List.map_nil, List.mem_cons, List.not_mem_nil, or_false] at hz
        rw [hz]
        exact Or.inr ⟨by decide, exN 1, S0.2.2.2.2 _ kw_327, hNc.1 (2, 1) (by decide)⟩) rfl (by decide) (S0.2.2.2.2 _ kw_328) (va_Nw.use rfl (hNc.2 2 (by decide))) hce hcv hcl ?_
      refine lv_astore (lv' := [(5, .ref q9), (0, .ref (ad 0 0)), (1, .int p1), (2, .int p2), (3, .int p3), (4, .ref o)]) S0.1 S0.2.1 dL_isOpen_26 hl (by decide) rfl (fun ls hl => ?_)
      refine lv_iconst (v := 2) S0.1 S0.2.1 dL_isOpen_28 (by decide) ?_
      exact hret (ex := 2) (v := r) dL_isOpen_29 hw h00 hok hfv rfl
    · refine vx_catch (own := "LeasehallLaw") (name := exN 3) (E := exN 3) S0.2.2.2.1 (tableOf [(0, 19, 22, 13), (0, 19, 26, 15)]) ⟨0, 19, 30, 17⟩ (tableOf []) (htab.trans rfl) (fun z hz => by
        simp only [tableOf, List.map_cons, List.map_nil, List.mem_cons, List.not_mem_nil, or_false] at hz
        rcases hz with rfl | rfl
        · exact Or.inr ⟨by decide, exN 1, S0.2.2.2.2 _ kw_327, hNc.1 (3, 1) (by decide)⟩
        · exact Or.inr ⟨by decide, exN 2, S0.2.2.2.2 _ kw_328, hNc.1 (3, 2) (by decide)⟩) rfl (by decide) (S0.2.2.2.2 _ kw_329) (va_Nw.use rfl (hNc.2 3 (by decide))) hce hcv hcl ?_
      refine lv_astore (lv' := [(5, .ref q9), (0, .ref (ad 0 0)), (1, .int p1), (2, .int p2), (3, .int p3), (4, .ref o)]) S0.1 S0.2.1 dL_isOpen_30 hl (by decide) rfl (fun ls hl => ?_)
      refine lv_iconst (v := 3) S0.1 S0.2.1 dL_isOpen_32 (by decide) ?_
      exact hret (ex := 3) (v := r) dL_isOpen_33 hw h00 hok hfv rfl
  · refine lv_if_eq (tgt := 17) S0.1 S0.2.1 dL_isOpen_10 (by decide) (fun c5 => ?_) (fun c5 => ?_)
    · refine lv_lconst (v := 0) S0.1 S0.2.1 dL_isOpen_17 (by decide) ?_
      refine o_last S0 hw dL_isOpen_18 (fun H locs hw => ?_)
      refine lv_goto (tgt := 34) S0.1 S0.2.1 dL_isOpen_19 (by decide) ?_
      refine lv_iconst (v := 0) S0.1 S0.2.1 dL_isOpen_34 (by decide) ?_
      exact hret (ex := 0) (v := r) dL_isOpen_35 (by rw [show (if (0 : Nat) = 0 then vp_updL g 0 (if r = 0 then 0 else 1) else g) = vp_updL g 0 0 from by rw [if_pos rfl, if_pos c5]]; exact hw) h00 hok hfv rfl
    · refine lv_lconst (v := 1) S0.1 S0.2.1 dL_isOpen_13 (by decide) ?_
      refine lv_goto (tgt := 18) S0.1 S0.2.1 dL_isOpen_14 (by decide) ?_
      refine o_last S0 hw dL_isOpen_18 (fun H locs hw => ?_)
      refine lv_goto (tgt := 34) S0.1 S0.2.1 dL_isOpen_19 (by decide) ?_
      refine lv_iconst (v := 0) S0.1 S0.2.1 dL_isOpen_34 (by decide) ?_
      exact hret (ex := 0) (v := r) dL_isOpen_35 (by rw [show (if (0 : Nat) = 0 then vp_updL g 0 (if r = 0 then 0 else 1) else g) = vp_updL g 0 1 from by rw [if_pos rfl, if_neg c5]]; exact hw) h00 hok hfv rfl
set_option maxRecDepth 100000 in
set_option maxHeartbeats 4000000 in
theorem wL_takeFirst (l : Launch) (hst : l.stackTraces = false) (D : va_G) (Y : Nat → ClassId) (ad : qAd) (o : Nat) (g : Nat → Int64) (B0 e0 F : Nat) (p1 : Int32) (p2 : Int32) (σ : qS) : qLw l yL_takeFirst cL_takeFirst 5 [(0, 10, 13, 13), (0, 10, 17, 17)] 8 188 (fun _ => 3) (fun _ => 18) B0 e0 D Y ad o g [.ref (ad 0 0), .int p1, .int p2, .ref o] σ (fX8_takeFirst F p1 p2 σ) (fun e => if e = 0 then 0 else if e = 1 then 1 else if e = 3 then 2 else 0) (fun ex v => if ex = 0 then vp_updL g 0 v.toInt64 else g) := by
  refine q_olw (by decide) (Nat.le_of_ble_eq_true rfl) "LeasehallLaw" rfl (fun p e s m below meth c A Q r0 S0 htab hf hok hw hG hAB hE hNc hret ls hl => ?_)
  replace hl : lv_has ls 5 [(0, .ref (ad 0 0)), (1, .int p1), (2, .int p2), (3, .ref o)] := hl
  refine lv_aload_n S0.1 S0.2.1 dL_takeFirst_0 rfl (lv_at hl 3 rfl) ?_
  refine lv_iconst (v := 0) S0.1 S0.2.1 dL_takeFirst_1 (by decide) ?_
  refine lv_aload_n S0.1 S0.2.1 dL_takeFirst_2 rfl (lv_at hl 0 rfl) ?_
  refine lv_iload_n S0.1 S0.2.1 dL_takeFirst_3 rfl (lv_at hl 1 rfl) ?_
  refine lv_iload_n S0.1 S0.2.1 dL_takeFirst_4 rfl (lv_at hl 2 rfl) ?_
  refine o_ucalli S0 hG hE hAB hok hw (As := [.int p1, .int p2]) (rest := [.int 0, .ref o]) (u_ofX (e0 := e0) (wX8_takeFirst l hst D Y ad B0 F p1 p2 σ) (fun r h => gn_fX8_takeFirst h)) qyX8_takeFirst kw_1079 ⟨Nat.le_of_ble_eq_true rfl, Nat.le_of_ble_eq_true rfl⟩ r0 hf rfl hl.1 (Nat.le_of_ble_eq_true rfl) dL_takeFirst_5 ⟨Nat.le_of_ble_eq_true rfl, Nat.le_of_ble_eq_true rfl⟩ rfl (fun ex ce q9 r ad' σ' H locs hw h00 hok hfv hne hce hcv hcl => ?_) (fun r ad' σ' H locs hw h00 hok hfv => ?_)
  · replace hne : ex ∈ ([0, 1, 3] : List Nat) ∧ ex ≠ 0 := ⟨gx_fX8_takeFirst hfv, hne⟩
    simp only [List.mem_cons, List.not_mem_nil, or_false] at hne
    obtain ⟨hx, hne⟩ := hne
    rcases hx with rfl | rfl | rfl
    · exact absurd rfl hne
    · refine vx_catch (own := "LeasehallLaw") (name := exN 1) (E := exN 1) S0.2.2.2.1 (tableOf []) ⟨0, 10, 13, 13⟩ (tableOf [(0, 10, 17, 17)]) (htab.trans rfl) (fun z hz => by simp [tableOf] at hz) rfl (by decide) (S0.2.2.2.2 _ kw_327) (va_Nw.use rfl (hNc.2 1 (by decide))) hce hcv hcl ?_
      refine lv_astore (lv' := [(4, .ref q9), (0, .ref (ad 0 0)), (1, .int p1), (2, .int p2), (3, .ref o)]) S0.1 S0.2.1 dL_takeFirst_13 hl (by decide) rfl (fun ls hl => ?_)
      refine lv_iconst (v := 1) S0.1 S0.2.1 dL_takeFirst_15 (by decide) ?_
      exact hret (ex := 1) (v := r) dL_takeFirst_16 hw h00 hok hfv rfl
    · refine vx_catch (own := "LeasehallLaw") (name := exN 3) (E := exN 3) S0.2.2.2.1 (tableOf [(0, 10, 13, 13)]) ⟨0, 10, 17, 17⟩ (tableOf []) (htab.trans rfl) (fun z hz => by
        simp only [tableOf, List.map_cons, List.map_nil, List.mem_cons, List.not_mem_nil, or_false] at hz
        rw [hz]
        exact Or.inr ⟨by decide, exN 1, S0.2.2.2.2 _ kw_327, hNc.1 (3, 1) (by decide)⟩) rfl (by decide) (S0.2.2.2.2 _ kw_329) (va_Nw.use rfl (hNc.2 3 (by decide))) hce hcv hcl ?_
      refine lv_astore (lv' := [(4, .ref q9), (0, .ref (ad 0 0)), (1, .int p1), (2, .int p2), (3, .ref o)]) S0.1 S0.2.1 dL_takeFirst_17 hl (by decide) rfl (fun ls hl => ?_)
      refine lv_iconst (v := 2) S0.1 S0.2.1 dL_takeFirst_19 (by decide) ?_
      exact hret (ex := 3) (v := r) dL_takeFirst_20 hw h00 hok hfv rfl
  · refine lv_i2l (v := r.toInt64) S0.1 S0.2.1 dL_takeFirst_8 rfl ?_
    refine o_last S0 hw dL_takeFirst_9 (fun H locs hw => ?_)
    refine lv_goto (tgt := 21) S0.1 S0.2.1 dL_takeFirst_10 (by decide) ?_
    refine lv_iconst (v := 0) S0.1 S0.2.1 dL_takeFirst_21 (by decide) ?_
    exact hret (ex := 0) (v := r) dL_takeFirst_22 hw h00 hok hfv rfl
set_option maxRecDepth 100000 in
set_option maxHeartbeats 4000000 in
theorem wL_store (l : Launch) (hst : l.stackTraces = false) (D : va_G) (Y : Nat → ClassId) (ad : qAd) (o : Nat) (g : Nat → Int64) (B0 e0 F : Nat) (p1 : Int32) (p2 : Int32) (σ : qS) : qLw l yL_store cL_store 5 [(0, 17, 20, 15)] 7 112 (fun _ => 1) (fun _ => 6) B0 e0 D Y ad o g [.ref (ad 0 0), .int p1, .int p2, .ref o] σ (fX8_store F p1 p2 σ) (fun e => if e = 0 then 0 else if e = 2 then 1 else 0) (fun ex v => if ex = 0 then vp_updL g 0 (if v = 0 then 0 else 1) else g) := by
  refine q_olw (by decide) (Nat.le_of_ble_eq_true rfl) "LeasehallLaw" rfl (fun p e s m below meth c A Q r0 S0 htab hf hok hw hG hAB hE hNc hret ls hl => ?_)
  replace hl : lv_has ls 5 [(0, .ref (ad 0 0)), (1, .int p1), (2, .int p2), (3, .ref o)] := hl
  refine lv_aload_n S0.1 S0.2.1 dL_store_0 rfl (lv_at hl 3 rfl) ?_
  refine lv_iconst (v := 0) S0.1 S0.2.1 dL_store_1 (by decide) ?_
  refine lv_aload_n S0.1 S0.2.1 dL_store_2 rfl (lv_at hl 0 rfl) ?_
  refine lv_iload_n S0.1 S0.2.1 dL_store_3 rfl (lv_at hl 1 rfl) ?_
  refine lv_iload_n S0.1 S0.2.1 dL_store_4 rfl (lv_at hl 2 rfl) ?_
  refine o_ucalli S0 hG hE hAB hok hw (As := [.int p1, .int p2]) (rest := [.int 0, .ref o]) (u_ofX (e0 := e0) (wX8_store l hst D Y ad B0 F p1 p2 σ) (fun r h => gn_fX8_store h)) qyX8_store kw_1090 ⟨Nat.le_of_ble_eq_true rfl, Nat.le_of_ble_eq_true rfl⟩ r0 hf rfl hl.1 (Nat.le_of_ble_eq_true rfl) dL_store_5 ⟨Nat.le_of_ble_eq_true rfl, Nat.le_of_ble_eq_true rfl⟩ rfl (fun ex ce q9 r ad' σ' H locs hw h00 hok hfv hne hce hcv hcl => ?_) (fun r ad' σ' H locs hw h00 hok hfv => ?_)
  · replace hne : ex ∈ ([0, 2] : List Nat) ∧ ex ≠ 0 := ⟨gx_fX8_store hfv, hne⟩
    simp only [List.mem_cons, List.not_mem_nil, or_false] at hne
    obtain ⟨hx, hne⟩ := hne
    rcases hx with rfl | rfl
    · exact absurd rfl hne
    · refine vx_catch (own := "LeasehallLaw") (name := exN 2) (E := exN 2) S0.2.2.2.1 (tableOf []) ⟨0, 17, 20, 15⟩ (tableOf []) (htab.trans rfl) (fun z hz => by simp [tableOf] at hz) rfl (by decide) (S0.2.2.2.2 _ kw_328) (va_Nw.use rfl (hNc.2 2 (by decide))) hce hcv hcl ?_
      refine lv_astore (lv' := [(4, .ref q9), (0, .ref (ad 0 0)), (1, .int p1), (2, .int p2), (3, .ref o)]) S0.1 S0.2.1 dL_store_20 hl (by decide) rfl (fun ls hl => ?_)
      refine lv_iconst (v := 1) S0.1 S0.2.1 dL_store_22 (by decide) ?_
      exact hret (ex := 2) (v := r) dL_store_23 hw h00 hok hfv rfl
  · refine lv_if_eq (tgt := 15) S0.1 S0.2.1 dL_store_8 (by decide) (fun c5 => ?_) (fun c5 => ?_)
    · refine lv_lconst (v := 0) S0.1 S0.2.1 dL_store_15 (by decide) ?_
      refine o_last S0 hw dL_store_16 (fun H locs hw => ?_)
      refine lv_goto (tgt := 24) S0.1 S0.2.1 dL_store_17 (by decide) ?_
      refine lv_iconst (v := 0) S0.1 S0.2.1 dL_store_24 (by decide) ?_
      exact hret (ex := 0) (v := r) dL_store_25 (by rw [show (if (0 : Nat) = 0 then vp_updL g 0 (if r = 0 then 0 else 1) else g) = vp_updL g 0 0 from by rw [if_pos rfl, if_pos c5]]; exact hw) h00 hok hfv rfl
    · refine lv_lconst (v := 1) S0.1 S0.2.1 dL_store_11 (by decide) ?_
      refine lv_goto (tgt := 16) S0.1 S0.2.1 dL_store_12 (by decide) ?_
      refine o_last S0 hw dL_store_16 (fun H locs hw => ?_)
      refine lv_goto (tgt := 24) S0.1 S0.2.1 dL_store_17 (by decide) ?_
      refine lv_iconst (v := 0) S0.1 S0.2.1 dL_store_24 (by decide) ?_
      exact hret (ex := 0) (v := r) dL_store_25 (by rw [show (if (0 : Nat) = 0 then vp_updL g 0 (if r = 0 then 0 else 1) else g) = vp_updL g 0 1 from by rw [if_pos rfl, if_neg c5]]; exact hw) h00 hok hfv rfl
set_option maxRecDepth 100000 in
set_option maxHeartbeats 4000000 in
theorem wL_valueAt (l : Launch) (hst : l.stackTraces = false) (D : va_G) (Y : Nat → ClassId) (ad : qAd) (o : Nat) (g : Nat → Int64) (B0 e0 F : Nat) (p1 : Int32) (p2 : Int32) (σ : qS) : qLw l yL_valueAt cL_valueAt 5 [(0, 10, 13, 15), (0, 10, 17, 17)] 8 135 (fun _ => 2) (fun _ => 12) B0 e0 D Y ad o g [.ref (ad 0 0), .int p1, .int p2, .ref o] σ (fX8_valueAt F p1 p2 σ) (fun e => if e = 0 then 0 else if e = 2 then 1 else if e = 3 then 2 else 0) (fun ex v => if ex = 0 then vp_updL g 0 v.toInt64 else g) := by
  refine q_olw (by decide) (Nat.le_of_ble_eq_true rfl) "LeasehallLaw" rfl (fun p e s m below meth c A Q r0 S0 htab hf hok hw hG hAB hE hNc hret ls hl => ?_)
  replace hl : lv_has ls 5 [(0, .ref (ad 0 0)), (1, .int p1), (2, .int p2), (3, .ref o)] := hl
  refine lv_aload_n S0.1 S0.2.1 dL_valueAt_0 rfl (lv_at hl 3 rfl) ?_
  refine lv_iconst (v := 0) S0.1 S0.2.1 dL_valueAt_1 (by decide) ?_
  refine lv_aload_n S0.1 S0.2.1 dL_valueAt_2 rfl (lv_at hl 0 rfl) ?_
  refine lv_iload_n S0.1 S0.2.1 dL_valueAt_3 rfl (lv_at hl 1 rfl) ?_
  refine lv_iload_n S0.1 S0.2.1 dL_valueAt_4 rfl (lv_at hl 2 rfl) ?_
  refine o_ucalli S0 hG hE hAB hok hw (As := [.int p1, .int p2]) (rest := [.int 0, .ref o]) (u_ofX (e0 := e0) (wX8_valueAt l hst D Y ad B0 F p1 p2 σ) (fun r h => gn_fX8_valueAt h)) qyX8_valueAt kw_1098 ⟨Nat.le_of_ble_eq_true rfl, Nat.le_of_ble_eq_true rfl⟩ r0 hf rfl hl.1 (Nat.le_of_ble_eq_true rfl) dL_valueAt_5 ⟨Nat.le_of_ble_eq_true rfl, Nat.le_of_ble_eq_true rfl⟩ rfl (fun ex ce q9 r ad' σ' H locs hw h00 hok hfv hne hce hcv hcl => ?_) (fun r ad' σ' H locs hw h00 hok hfv => ?_)
  · replace hne : ex ∈ ([0, 2, 3] : List Nat) ∧ ex ≠ 0 := ⟨gx_fX8_valueAt hfv, hne⟩
    simp only [List.mem_cons, List.not_mem_nil, or_false] at hne
    obtain ⟨hx, hne⟩ := hne
    rcases hx with rfl | rfl | rfl
    · exact absurd rfl hne
    · refine vx_catch (own := "LeasehallLaw") (name := exN 2) (E := exN 2) S0.2.2.2.1 (tableOf []) ⟨0, 10, 13, 15⟩ (tableOf [(0, 10, 17, 17)]) (htab.trans rfl) (fun z hz => by simp [tableOf] at hz) rfl (by decide) (S0.2.2.2.2 _ kw_328) (va_Nw.use rfl (hNc.2 2 (by decide))) hce hcv hcl ?_
      refine lv_astore (lv' := [(4, .ref q9), (0, .ref (ad 0 0)), (1, .int p1), (2, .int p2), (3, .ref o)]) S0.1 S0.2.1 dL_valueAt_13 hl (by decide) rfl (fun ls hl => ?_)
      refine lv_iconst (v := 1) S0.1 S0.2.1 dL_valueAt_15 (by decide) ?_
      exact hret (ex := 2) (v := r) dL_valueAt_16 hw h00 hok hfv rfl
    · refine vx_catch (own := "LeasehallLaw") (name := exN 3) (E := exN 3) S0.2.2.2.1 (tableOf [(0, 10, 13, 15)]) ⟨0, 10, 17, 17⟩ (tableOf []) (htab.trans rfl) (fun z hz => by
        simp only [tableOf, List.map_cons, List.map_nil, List.mem_cons, List.not_mem_nil, or_false] at hz
        rw [hz]
        exact Or.inr ⟨by decide, exN 2, S0.2.2.2.2 _ kw_328, hNc.1 (3, 2) (by decide)⟩) rfl (by decide) (S0.2.2.2.2 _ kw_329) (va_Nw.use rfl (hNc.2 3 (by decide))) hce hcv hcl ?_
      refine lv_astore (lv' := [(4, .ref q9), (0, .ref (ad 0 0)), (1, .int p1), (2, .int p2), (3, .ref o)]) S0.1 S0.2.1 dL_valueAt_17 hl (by decide) rfl (fun ls hl => ?_)
      refine lv_iconst (v := 2) S0.1 S0.2.1 dL_valueAt_19 (by decide) ?_
      exact hret (ex := 3) (v := r) dL_valueAt_20 hw h00 hok hfv rfl
  · refine lv_i2l (v := r.toInt64) S0.1 S0.2.1 dL_valueAt_8 rfl ?_
    refine o_last S0 hw dL_valueAt_9 (fun H locs hw => ?_)
    refine lv_goto (tgt := 21) S0.1 S0.2.1 dL_valueAt_10 (by decide) ?_
    refine lv_iconst (v := 0) S0.1 S0.2.1 dL_valueAt_21 (by decide) ?_
    exact hret (ex := 0) (v := r) dL_valueAt_22 hw h00 hok hfv rfl
set_option maxRecDepth 100000 in
set_option maxHeartbeats 4000000 in
theorem wL_changedAt (l : Launch) (hst : l.stackTraces = false) (D : va_G) (Y : Nat → ClassId) (ad : qAd) (o : Nat) (g : Nat → Int64) (B0 e0 F : Nat) (p1 : Int32) (p2 : Int32) (p3 : Int32) (σ : qS) : qLw l yL_changedAt cL_changedAt 6 [(0, 12, 15, 13), (0, 12, 19, 15), (0, 12, 23, 17)] 8 137 (fun _ => 2) (fun _ => 12) B0 e0 D Y ad o g [.ref (ad 0 0), .int p1, .int p2, .int p3, .ref o] σ (fX8_changedAt F p1 p2 p3 σ) (fun e => if e = 0 then 0 else if e = 1 then 1 else if e = 2 then 2 else if e = 3 then 3 else 0) (fun ex v => if ex = 0 then vp_updL g 0 v.toInt64 else g) := by
  refine q_olw (by decide) (Nat.le_of_ble_eq_true rfl) "LeasehallLaw" rfl (fun p e s m below meth c A Q r0 S0 htab hf hok hw hG hAB hE hNc hret ls hl => ?_)
  replace hl : lv_has ls 6 [(0, .ref (ad 0 0)), (1, .int p1), (2, .int p2), (3, .int p3), (4, .ref o)] := hl
  refine lv_aload S0.1 S0.2.1 dL_changedAt_0 (lv_at hl 4 rfl) ?_
  refine lv_iconst (v := 0) S0.1 S0.2.1 dL_changedAt_2 (by decide) ?_
  refine lv_aload_n S0.1 S0.2.1 dL_changedAt_3 rfl (lv_at hl 0 rfl) ?_
  refine lv_iload_n S0.1 S0.2.1 dL_changedAt_4 rfl (lv_at hl 1 rfl) ?_
  refine lv_iload_n S0.1 S0.2.1 dL_changedAt_5 rfl (lv_at hl 2 rfl) ?_
  refine lv_iload_n S0.1 S0.2.1 dL_changedAt_6 rfl (lv_at hl 3 rfl) ?_
  refine o_ucalli S0 hG hE hAB hok hw (As := [.int p1, .int p2, .int p3]) (rest := [.int 0, .ref o]) (u_ofX (e0 := e0) (wX8_changedAt l hst D Y ad B0 F p1 p2 p3 σ) (fun r h => gn_fX8_changedAt h)) qyX8_changedAt kw_1115 ⟨Nat.le_of_ble_eq_true rfl, Nat.le_of_ble_eq_true rfl⟩ r0 hf rfl hl.1 (Nat.le_of_ble_eq_true rfl) dL_changedAt_7 ⟨Nat.le_of_ble_eq_true rfl, Nat.le_of_ble_eq_true rfl⟩ rfl (fun ex ce q9 r ad' σ' H locs hw h00 hok hfv hne hce hcv hcl => ?_) (fun r ad' σ' H locs hw h00 hok hfv => ?_)
  · replace hne : ex ∈ ([0, 1, 2, 3] : List Nat) ∧ ex ≠ 0 := ⟨gx_fX8_changedAt hfv, hne⟩
    simp only [List.mem_cons, List.not_mem_nil, or_false] at hne
    obtain ⟨hx, hne⟩ := hne
    rcases hx with rfl | rfl | rfl | rfl
    · exact absurd rfl hne
    · refine vx_catch (own := "LeasehallLaw") (name := exN 1) (E := exN 1) S0.2.2.2.1 (tableOf []) ⟨0, 12, 15, 13⟩ (tableOf [(0, 12, 19, 15), (0, 12, 23, 17)]) (htab.trans rfl) (fun z hz => by simp [tableOf] at hz) rfl (by decide) (S0.2.2.2.2 _ kw_327) (va_Nw.use rfl (hNc.2 1 (by decide))) hce hcv hcl ?_
      refine lv_astore (lv' := [(5, .ref q9), (0, .ref (ad 0 0)), (1, .int p1), (2, .int p2), (3, .int p3), (4, .ref o)]) S0.1 S0.2.1 dL_changedAt_15 hl (by decide) rfl (fun ls hl => ?_)
      refine lv_iconst (v := 1) S0.1 S0.2.1 dL_changedAt_17 (by decide) ?_
      exact hret (ex := 1) (v := r) dL_changedAt_18 hw h00 hok hfv rfl
    · refine vx_catch (own := "LeasehallLaw") (name := exN 2) (E := exN 2) S0.2.2.2.1 (tableOf [(0, 12, 15, 13)]) ⟨0, 12, 19, 15⟩ (tableOf [(0, 12, 23, 17)]) (htab.trans rfl) (fun z hz => by
        simp only [tableOf, List.map_cons, List.map_nil, List.mem_cons, List.not_mem_nil, or_false] at hz
        rw [hz]
        exact Or.inr ⟨by decide, exN 1, S0.2.2.2.2 _ kw_327, hNc.1 (2, 1) (by decide)⟩) rfl (by decide) (S0.2.2.2.2 _ kw_328) (va_Nw.use rfl (hNc.2 2 (by decide))) hce hcv hcl ?_
      refine lv_astore (lv' := [(5, .ref q9), (0, .ref (ad 0 0)), (1, .int p1), (2, .int p2), (3, .int p3), (4, .ref o)]) S0.1 S0.2.1 dL_changedAt_19 hl (by decide) rfl (fun ls hl => ?_)
      refine lv_iconst (v := 2) S0.1 S0.2.1 dL_changedAt_21 (by decide) ?_
      exact hret (ex := 2) (v := r) dL_changedAt_22 hw h00 hok hfv rfl
    · refine vx_catch (own := "LeasehallLaw") (name := exN 3) (E := exN 3) S0.2.2.2.1 (tableOf [(0, 12, 15, 13), (0, 12, 19, 15)]) ⟨0, 12, 23, 17⟩ (tableOf []) (htab.trans rfl) (fun z hz => by
        simp only [tableOf, List.map_cons, List.map_nil, List.mem_cons, List.not_mem_nil, or_false] at hz
        rcases hz with rfl | rfl
        · exact Or.inr ⟨by decide, exN 1, S0.2.2.2.2 _ kw_327, hNc.1 (3, 1) (by decide)⟩
        · exact Or.inr ⟨by decide, exN 2, S0.2.2.2.2 _ kw_328, hNc.1 (3, 2) (by decide)⟩) rfl (by decide) (S0.2.2.2.2 _ kw_329) (va_Nw.use rfl (hNc.2 3 (by decide))) hce hcv hcl ?_
      refine lv_astore (lv' := [(5, .ref q9), (0, .ref (ad 0 0)), (1, .int p1), (2, .int p2), (3, .int p3), (4, .ref o)]) S0.1 S0.2.1 dL_changedAt_23 hl (by decide) rfl (fun ls hl => ?_)
      refine lv_iconst (v := 3) S0.1 S0.2.1 dL_changedAt_25 (by decide) ?_
      exact hret (ex := 3) (v := r) dL_changedAt_26 hw h00 hok hfv rfl
  · refine lv_i2l (v := r.toInt64) S0.1 S0.2.1 dL_changedAt_10 rfl ?_
    refine o_last S0 hw dL_changedAt_11 (fun H locs hw => ?_)
    refine lv_goto (tgt := 27) S0.1 S0.2.1 dL_changedAt_12 (by decide) ?_
    refine lv_iconst (v := 0) S0.1 S0.2.1 dL_changedAt_27 (by decide) ?_
    exact hret (ex := 0) (v := r) dL_changedAt_28 hw h00 hok hfv rfl
set_option maxRecDepth 100000 in
set_option maxHeartbeats 4000000 in
theorem wL_compact (l : Launch) (hst : l.stackTraces = false) (D : va_G) (Y : Nat → ClassId) (ad : qAd) (o : Nat) (g : Nat → Int64) (B0 e0 F : Nat) (p1 : Int32) (σ : qS) : qLw l yL_compact cL_compact 4 [(0, 9, 12, 15)] 8 132 (fun _ => 1) (fun _ => 6) B0 e0 D Y ad o g [.ref (ad 0 0), .int p1, .ref o] σ (fX8_compact F p1 σ) (fun e => if e = 0 then 0 else if e = 2 then 1 else 0) (fun ex v => if ex = 0 then vp_updL g 0 v.toInt64 else g) := by
  refine q_olw (by decide) (Nat.le_of_ble_eq_true rfl) "LeasehallLaw" rfl (fun p e s m below meth c A Q r0 S0 htab hf hok hw hG hAB hE hNc hret ls hl => ?_)
  replace hl : lv_has ls 4 [(0, .ref (ad 0 0)), (1, .int p1), (2, .ref o)] := hl
  refine lv_aload_n S0.1 S0.2.1 dL_compact_0 rfl (lv_at hl 2 rfl) ?_
  refine lv_iconst (v := 0) S0.1 S0.2.1 dL_compact_1 (by decide) ?_
  refine lv_aload_n S0.1 S0.2.1 dL_compact_2 rfl (lv_at hl 0 rfl) ?_
  refine lv_iload_n S0.1 S0.2.1 dL_compact_3 rfl (lv_at hl 1 rfl) ?_
  refine o_ucalli S0 hG hE hAB hok hw (As := [.int p1]) (rest := [.int 0, .ref o]) (u_ofX (e0 := e0) (wX8_compact l hst D Y ad B0 F p1 σ) (fun r h => gn_fX8_compact h)) qyX8_compact kw_1122 ⟨Nat.le_of_ble_eq_true rfl, Nat.le_of_ble_eq_true rfl⟩ r0 hf rfl hl.1 (Nat.le_of_ble_eq_true rfl) dL_compact_4 ⟨Nat.le_of_ble_eq_true rfl, Nat.le_of_ble_eq_true rfl⟩ rfl (fun ex ce q9 r ad' σ' H locs hw h00 hok hfv hne hce hcv hcl => ?_) (fun r ad' σ' H locs hw h00 hok hfv => ?_)
  · replace hne : ex ∈ ([0, 2] : List Nat) ∧ ex ≠ 0 := ⟨gx_fX8_compact hfv, hne⟩
    simp only [List.mem_cons, List.not_mem_nil, or_false] at hne
    obtain ⟨hx, hne⟩ := hne
    rcases hx with rfl | rfl
    · exact absurd rfl hne
    · refine vx_catch (own := "LeasehallLaw") (name := exN 2) (E := exN 2) S0.2.2.2.1 (tableOf []) ⟨0, 9, 12, 15⟩ (tableOf []) (htab.trans rfl) (fun z hz => by simp [tableOf] at hz) rfl (by decide) (S0.2.2.2.2 _ kw_328) (va_Nw.use rfl (hNc.2 2 (by decide))) hce hcv hcl ?_
      refine lv_astore_n (lv' := [(3, .ref q9), (0, .ref (ad 0 0)), (1, .int p1), (2, .ref o)]) S0.1 S0.2.1 dL_compact_12 rfl hl (by decide) rfl (fun ls hl => ?_)
      refine lv_iconst (v := 1) S0.1 S0.2.1 dL_compact_13 (by decide) ?_
      exact hret (ex := 2) (v := r) dL_compact_14 hw h00 hok hfv rfl
  · refine lv_i2l (v := r.toInt64) S0.1 S0.2.1 dL_compact_7 rfl ?_
    refine o_last S0 hw dL_compact_8 (fun H locs hw => ?_)
    refine lv_goto (tgt := 15) S0.1 S0.2.1 dL_compact_9 (by decide) ?_
    refine lv_iconst (v := 0) S0.1 S0.2.1 dL_compact_15 (by decide) ?_
    exact hret (ex := 0) (v := r) dL_compact_16 hw h00 hok hfv rfl
set_option maxRecDepth 100000 in
set_option maxHeartbeats 4000000 in
theorem wL_restore (l : Launch) (hst : l.stackTraces = false) (D : va_G) (Y : Nat → ClassId) (ad : qAd) (o : Nat) (g : Nat → Int64) (B0 e0 F : Nat) (σ : qS) : qLw l yL_restore cL_restore 3 [(0, 8, 11, 17)] 7 111 (fun _ => 1) (fun _ => 6) B0 e0 D Y ad o g [.ref (ad 0 0), .ref o] σ (fX8_restore F σ) (fun e => if e = 0 then 0 else if e = 3 then 1 else 0) (fun ex v => if ex = 0 then vp_updL g 0 v.toInt64 else g) := by
  refine q_olw (by decide) (Nat.le_of_ble_eq_true rfl) "LeasehallLaw" rfl (fun p e s m below meth c A Q r0 S0 htab hf hok hw hG hAB hE hNc hret ls hl => ?_)
  replace hl : lv_has ls 3 [(0, .ref (ad 0 0)), (1, .ref o)] := hl
  refine lv_aload_n S0.1 S0.2.1 dL_restore_0 rfl (lv_at hl 1 rfl) ?_
  refine lv_iconst (v := 0) S0.1 S0.2.1 dL_restore_1 (by decide) ?_
  refine lv_aload_n S0.1 S0.2.1 dL_restore_2 rfl (lv_at hl 0 rfl) ?_
  refine o_ucalli S0 hG hE hAB hok hw (As := []) (rest := [.int 0, .ref o]) (u_ofX (e0 := e0) (wX8_restore l hst D Y ad B0 F σ) (fun r h => gn_fX8_restore h)) qyX8_restore kw_1130 ⟨Nat.le_of_ble_eq_true rfl, Nat.le_of_ble_eq_true rfl⟩ r0 hf rfl hl.1 (Nat.le_of_ble_eq_true rfl) dL_restore_3 ⟨Nat.le_of_ble_eq_true rfl, Nat.le_of_ble_eq_true rfl⟩ rfl (fun ex ce q9 r ad' σ' H locs hw h00 hok hfv hne hce hcv hcl => ?_) (fun r ad' σ' H locs hw h00 hok hfv => ?_)
  · replace hne : ex ∈ ([0, 3] : List Nat) ∧ ex ≠ 0 := ⟨gx_fX8_restore hfv, hne⟩
    simp only [List.mem_cons, List.not_mem_nil, or_false] at hne
    obtain ⟨hx, hne⟩ := hne
    rcases hx with rfl | rfl
    · exact absurd rfl hne
    · refine vx_catch (own := "LeasehallLaw") (name := exN 3) (E := exN 3) S0.2.2.2.1 (tableOf []) ⟨0, 8, 11, 17⟩ (tableOf []) (htab.trans rfl) (fun z hz => by simp [tableOf] at hz) rfl (by decide) (S0.2.2.2.2 _ kw_329) (va_Nw.use rfl (hNc.2 3 (by decide))) hce hcv hcl ?_
      refine lv_astore_n (lv' := [(2, .ref q9), (0, .ref (ad 0 0)), (1, .ref o)]) S0.1 S0.2.1 dL_restore_11 rfl hl (by decide) rfl (fun ls hl => ?_)
      refine lv_iconst (v := 1) S0.1 S0.2.1 dL_restore_12 (by decide) ?_
      exact hret (ex := 3) (v := r) dL_restore_13 hw h00 hok hfv rfl
  · refine lv_i2l (v := r.toInt64) S0.1 S0.2.1 dL_restore_6 rfl ?_
    refine o_last S0 hw dL_restore_7 (fun H locs hw => ?_)
    refine lv_goto (tgt := 14) S0.1 S0.2.1 dL_restore_8 (by decide) ?_
    refine lv_iconst (v := 0) S0.1 S0.2.1 dL_restore_14 (by decide) ?_
    exact hret (ex := 0) (v := r) dL_restore_15 hw h00 hok hfv rfl

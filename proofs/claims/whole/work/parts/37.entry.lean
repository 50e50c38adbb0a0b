/-! THE LAW FROM ITS ENTRY, given what the two programs owe each other -/
theorem hst_of {l : Launch} (h : l.flags = flags0) : l.stackTraces = false := by
  unfold Launch.stackTraces
  rw [h]
  decide +kernel
set_option maxRecDepth 100000 in
set_option maxHeartbeats 4000000 in
theorem start_walk {p : Program} {e : Env} {s : State} {m : MethodId} {below : List Frame} {meth : Method} {c : Code} (l : Launch) (hflags : l.flags = flags0) {b L : Nat} {xs : Nat → Int32} (hL : L ≤ 4096) (C0 : lw_At p s m meth c b L xs) {F : Nat} {I : Nat → qS → qS → Prop} {Φ : qS → Nat} (hI : lawI F I Φ) (h0 : I 0 σc0 σm0) : W p l e room_1 s m #[Value.ref b] below meth c s.heap [] 0 0 (lw_Z below #[Value.ref b] s) (entryFrame m ([Value.ref b] : List Value).toArray 7) := by
  obtain ⟨hx, hb, hr, hml, hown, hts, hX, hbl, hlocks, hgv⟩ := id C0
  have hst := hst_of hflags
  have htm : ∀ w ∈ tables_1, w.before #[Value.ref b] s = true := fun w h => hts w (tm h)
  have S0 : CallFix p m c cL_law 7 s #[.ref b] gws "LeasehallLaw" := ⟨hx, hb, hml, hown, fun w h => hts w (gm h)⟩
  obtain ⟨D, Y, hK⟩ := st_K (b := b) S0.2.2.2.2 htm
  obtain ⟨e0, hE⟩ := st_E (b := b) htm hgv
  have hG := st_G (b := b) hK hts hgv
  have hNc := st_Nc (b := b) htm hgv
  have hxL : lX s.heap.size e0 D Y (lA s) s [] s.heap [] := ⟨fun k q h => by simp at h, ⟨fun i j p q h => by simp at h, fun k q h => by simp at h⟩, va_S.rf, hK, fun q h => h, fun q h => h, hE⟩
  have hl := lv_entry ([.ref b]) (n := 7) (Nat.le_of_ble_eq_true rfl)
  rw [lg_entry_eq]
  generalize (lg_sl ([.ref b]) ++ List.replicate (7 - (lg_sl ([.ref b])).length) Slot.unset).toArray = ls at hl ⊢
  replace hl : lv_has ls 7 [(0, .ref b)] := hl
  refine l_new S0 hxL (C := RX8) (T := TX8) (N := 20) (ci := 9) inX8 tyX8 tyX8_ok kw_26 kw_27 kw_1 rfl (fs := [.null, .null, .null, .null, .null, .null, .null, .null, .null, .null, .null, .null, .int 0, .int 0, .int 0, .int 0, .int 0, .int 0, .int 0, .int 0]) (by decide) ⟨Nat.le_of_ble_eq_true rfl, Nat.le_of_ble_eq_true rfl⟩ dL_law_0 (fun q8 H hxL => ?_)
  refine lv_dup S0.1 S0.2.1 dL_law_3 rfl ?_
  refine l_call S0 hxL (As := []) (rest := [.ref q8]) (wr := []) [0] [] (kX8_init l D Y s.heap.size e0 q8) lyX8 kw_28 ⟨Nat.le_of_ble_eq_true rfl, Nat.le_of_ble_eq_true rfl⟩ rfl rfl rfl rfl rfl (by decide) hl.1 (Nat.le_of_ble_eq_true rfl) dL_law_4 ⟨Nat.le_of_ble_eq_true rfl, Nat.le_of_ble_eq_true rfl⟩ rfl (fun a8 H locs hxL => ?_)
  replace hxL : lX s.heap.size e0 D Y (lA s) s (wsX8E Y q8 e0 a8) _ _ := hxL
  refine lv_astore_n (lv' := [(1, .ref q8), (0, .ref b)]) S0.1 S0.2.1 dL_law_7 rfl hl (by decide) rfl (fun ls hl => ?_)
  refine l_new S0 hxL (C := RX9) (T := TX9) (N := 58) (ci := 10) inX9 tyX9 tyX9_ok kw_1140 kw_1141 kw_11 rfl (fs := [.null, .null, .null, .null, .null, .null, .null, .int 0, .null, .null, .null, .null, .null, .null, .null, .null, .null, .int 0, .int 0, .int 0, .null, .null, .null, .null, .null, .int 0, .int 0, .int 0, .int 0, .null, .null, .null, .null, .null, .null, .null, .null, .null, .null, .null, .null, .null, .null, .null, .null, .null, .null, .null, .int 0, .null, .null, .null, .int 0, .int 0, .int 0, .int 0, .int 0, .int 0]) (by decide) ⟨Nat.le_of_ble_eq_true rfl, Nat.le_of_ble_eq_true rfl⟩ dL_law_8 (fun q9 H hxL => ?_)
  refine lv_dup S0.1 S0.2.1 dL_law_11 rfl ?_
  refine l_call S0 hxL (As := []) (rest := [.ref q9]) (wr := wsX8E Y q8 e0 a8) [81] [0, 1, 2, 3, 4, 5, 6, 7, 8, 9, 10, 11, 12, 13, 14, 15, 16, 17, 18, 19, 20, 21, 22, 23, 24, 25, 26, 27, 28, 29, 30, 31, 32, 33, 34, 35, 36, 37, 38, 39, 40, 41, 42, 43, 44, 45, 46, 47, 48, 49, 50, 51, 52, 53, 54, 55, 56, 57, 58, 59, 60, 61, 62, 63, 64, 65, 66, 67, 68, 69, 70, 71, 72, 73, 74, 75, 76, 77, 78, 79, 80] (kX9_init l D Y s.heap.size e0 q9) lyX9 kw_1142 ⟨Nat.le_of_ble_eq_true rfl, Nat.le_of_ble_eq_true rfl⟩ rfl rfl rfl rfl rfl (by decide) hl.1 (Nat.le_of_ble_eq_true rfl) dL_law_12 ⟨Nat.le_of_ble_eq_true rfl, Nat.le_of_ble_eq_true rfl⟩ rfl (fun a9 H locs hxL => ?_)
  refine lv_astore_n (lv' := [(2, .ref q9), (1, .ref q8), (0, .ref b)]) S0.1 S0.2.1 dL_law_15 rfl hl (by decide) rfl (fun ls hl => ?_)
  refine lv_iconst (v := 1) S0.1 S0.2.1 dL_law_16 (by decide) ?_
  obtain ⟨hP, hD, hS, hK, hA, hAB, hE'⟩ := hxL
  refine va_newa (atype := .long) (ty := .long) (a0 := (1, .inr (.inl (fun _ => 0)))) S0.1 S0.2.1 (S0.2.2.2.2 _ kw_1623) rfl hK hP hD hS hA (fun cA => rfl) (by decide) (N' := 1) (by decide) (by decide) (Nat.le_of_ble_eq_true rfl) (Nat.le_of_ble_eq_true rfl) dL_law_17 (fun o cA H hK9 hP hD hS => ?_)
  have e9 : cA = Y 5 := va_RA_eq (hK9.2 6 (cA, .long) rfl).2 (hK.2 5 (Y 5, .long) rfl).2
  subst e9
  refine lv_astore_n (lv' := [(3, .ref o), (2, .ref q9), (1, .ref q8), (0, .ref b)]) S0.1 S0.2.1 dL_law_19 rfl hl (by decide) rfl (fun ls hl => ?_)
  refine lv_iconst (v := 0) S0.1 S0.2.1 dL_law_20 (by decide) ?_
  refine lv_istore (lv' := [(4, .int 0), (3, .ref o), (2, .ref q9), (1, .ref q8), (0, .ref b)]) S0.1 S0.2.1 dL_law_21 hl (by decide) rfl (fun ls hl => ?_)
  have hw : lW D Y (lA s) s (aC0 q8 e0 a8) σc0 (aM0 q9 a9) σm0 o (fun _ => 0) H locs := by
    refine lW_of (B0 := s.heap.size) (e0 := e0) (ws := (wsX8E Y q8 e0 a8 ++ wsX9E Y q9 a9) ++ [(o, .inl (Y 5, 1, .inr (.inl (fun _ => 0))))]) ⟨hP, hD, hS, hK, hA, hAB, hE'⟩ gC0 (fun k _ => 81 + gM0 k) 125 (fun k i hd => ?_) (fun k i hd => ?_) rfl (fun k i k' i' hd hd' h => cInj hd hd' h) (fun k i k' i' hd hd' h => mInj hd hd' (Nat.add_left_cancel h)) (fun k i k' i' hd hd' h => ?_) (fun k i hd h => ?_) (fun k i hd h => ?_)
    · obtain ⟨e8, h1, h2⟩ := cPlace (D := D) (H := H) (h0 := q8) (e0 := e0) (a := a8) hd
      have hlt := (List.getElem?_eq_some_iff.mp h1).1
      refine ⟨e8, ?_, h2⟩
      rw [List.append_assoc, List.getElem?_append_left hlt]
      exact h1
    · have h1 := mPlace (h0 := q9) (a := a9) hd
      have hlt := (List.getElem?_eq_some_iff.mp h1).1
      have h8 : (wsX8E Y q8 e0 a8).length = 81 := rfl
      rw [List.append_assoc, List.getElem?_append_right (by rw [h8]; omega), h8, Nat.add_sub_cancel_left, List.getElem?_append_left hlt]
      exact h1
    · have h1 := (cBack hd).2
      omega
    · have h1 := (cBack hd).2
      omega
    · have h1 := (mBack hd).2.2
      omega
  exact law_loop S0 hr hlocks hst hX hbl hL hG hE hNc hI 513 0 rfl (Nat.zero_le _) (aC0 q8 e0 a8) σc0 σm0 (fun _ => 0) H locs ls _ _ hw rfl ⟨fun _ => rfl, fun _ => rfl⟩ h0 (show _ ≤ _ from Nat.le_trans (Nat.le_of_ble_eq_true rfl : (0 + 1 + 80 + 1 + 43 + 1 : Nat) ≤ 126) (Nat.le_trans (Nat.le_add_right _ _) (Nat.le_add_right _ _))) (show _ ≤ _ from Nat.le_trans (Nat.le_of_ble_eq_true rfl : (0 + 20 + 9072 + 58 + 535106 + 1 : Nat) ≤ 544257) (Nat.le_trans (Nat.le_add_right _ _) (Nat.le_add_right _ _))) (lv_sub hl [4, 3, 2, 1, 0] rfl)

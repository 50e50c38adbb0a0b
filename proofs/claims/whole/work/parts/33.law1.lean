theorem qyX9_quota : qY yX9_quota RX9 cX9_quota 3 (some .int) 2 := ⟨⟨kw_1540, kw_1541, kw_11, kw_1542⟩, rfl, by decide, by decide, by decide +kernel⟩
set_option maxRecDepth 100000 in
set_option maxHeartbeats 4000000 in
theorem wLaw_quota {p : Program} {l : Launch} {e : Env} {s : State} {m : MethodId} {below : List Frame} {meth : Method} {c : Code} {Q : State → Prop} {D : va_G} {Y : Nat → ClassId} {am : qAd} {b L : Nat} {xs : Nat → Int32} {x0 o e0 F n : Nat} {I : Nat → qS → qS → Prop} {Φ : qS → Nat} (S0 : CallFix p m c cL_law 7 s #[.ref b] gws "LeasehallLaw") (hst : l.stackTraces = false) (hX : va_X b L xs s s.heap) (hbl : b < s.heap.size) (hL : L ≤ 4096) (hG : qG s.heap.size s s.heap) (hE : qE s.heap.size e0 s s.heap) (hNc : qNc s) (hΦ : ∀ n σ σm, I n σ σm → Φ σ ≤ 90000) (hc : cI_quota F I Φ) (hn : 8 * n + 8 ≤ L) (next : lNext p l e s m b below meth c Q D Y am x0 o e0 I Φ n (n + 1) 2620) : lNext p l e s m b below meth c Q D Y am x0 o e0 I Φ n n 1482 := by
  intro ad σ σm g H locs ls cells slots hw h0 hok hI hcl hsl hl
  have hbA : ¬ lA s b := Nat.not_le.mpr hbl
  have hAB : ∀ q, lA s q → s.heap.size ≤ q := fun _ h => h
  have hn5 : n < 512 := by omega
  obtain ⟨v, ex, σ9, w, σm9, f1, f2, f3, f4, f5, f6⟩ := hc n σ σm (xs (8 * n + 1)) (xs (8 * n + 2)) hn5 hI
  have hΦ9 := hΦ _ _ _ f5
  replace f6 : 0 + Φ σ ≤ Φ σ9 := f6
  subst h0
  refine lv_aload_n S0.1 S0.2.1 dL_law_1482 rfl (lv_at hl 1 rfl) ?_
  refine lv_aload_n S0.1 S0.2.1 dL_law_1483 rfl (lv_at hl 0 rfl) ?_
  refine lv_iload S0.1 S0.2.1 dL_law_1484 (lv_at hl 4 rfl) ?_
  refine lv_iconst (v := 1) S0.1 S0.2.1 dL_law_1486 (by decide) ?_
  refine l_sld S0 hX hbl hbA hL hw.1.1.2.2.1 (k := 1) rfl (by omega) dL_law_1487 dL_law_1488 ?_
  refine lv_aload_n S0.1 S0.2.1 dL_law_1489 rfl (lv_at hl 0 rfl) ?_
  refine lv_iload S0.1 S0.2.1 dL_law_1490 (lv_at hl 4 rfl) ?_
  refine lv_iconst (v := 2) S0.1 S0.2.1 dL_law_1492 (by decide) ?_
  refine l_sld S0 hX hbl hbA hL hw.1.1.2.2.1 (k := 2) rfl (by omega) dL_law_1493 dL_law_1494 ?_
  refine lv_aload_n S0.1 S0.2.1 dL_law_1495 rfl (lv_at hl 3 rfl) ?_
  refine l_wrap (n := 4) S0 hG hE hNc hAB hok hw (As := [.ref (ad 0 0), .int (xs (8 * n + 1)), .int (xs (8 * n + 2)), .ref o]) (rest := []) (wL_quota l hst D Y ad o g s.heap.size e0 F (xs (8 * n + 1)) (xs (8 * n + 2)) σ) kw_940 kw_938 kw_939 kw_0 ⟨by decide, by decide, by decide +kernel⟩ ⟨Nat.le_of_ble_eq_true rfl, Nat.le_of_ble_eq_true rfl⟩ f1 rfl hl.1 (Nat.le_of_ble_eq_true rfl) dL_law_1496 ⟨show cells + 1 ≤ 601024 by omega, show slots + 6 ≤ 7293034 by omega⟩ rfl (fun ad9 H locs hw1 h00 hok => ?_)
  replace h00 : ad9 0 0 = ad 0 0 := h00
  refine lv_istore (lv' := [(5, .int ((fun e => if e = 0 then 0 else if e = 2 then 1 else 0) ex)), (0, .ref b), (1, .ref (ad 0 0)), (2, .ref (am 0 0)), (3, .ref o), (4, .int (nI (8 * n)))]) S0.1 S0.2.1 dL_law_1499 hl (by decide) rfl (fun ls hl => ?_)
  refine lv_aload_n S0.1 S0.2.1 dL_law_1501 rfl (lv_at hl 3 rfl) ?_
  refine lv_aload_n S0.1 S0.2.1 dL_law_1502 rfl (lv_at hl 1 rfl) ?_
  refine lv_iload S0.1 S0.2.1 dL_law_1503 (lv_at hl 5 rfl) ?_
  refine lv_iconst (v := 1) S0.1 S0.2.1 dL_law_1505 (by decide) ?_
  refine l_sld S0 hX hbl hbA hL hw1.1.1.2.2.1 (k := 1) rfl (by omega) dL_law_1506 dL_law_1507 ?_
  refine lv_aload_n S0.1 S0.2.1 dL_law_1508 rfl (lv_at hl 1 rfl) ?_
  refine lv_iload S0.1 S0.2.1 dL_law_1509 (lv_at hl 5 rfl) ?_
  refine lv_iconst (v := 2) S0.1 S0.2.1 dL_law_1511 (by decide) ?_
  refine l_sld S0 hX hbl hbA hL hw1.1.1.2.2.1 (k := 2) rfl (by omega) dL_law_1512 dL_law_1513 ?_
  refine l_refi S0 hw1 (As := [.int (xs (8 * n + 1)), .int (xs (8 * n + 2))]) (rest := []) (wX9_quota l D Y am F (xs (8 * n + 1)) (xs (8 * n + 2)) σm) qyX9_quota kw_1539 ⟨Nat.le_of_ble_eq_true rfl, Nat.le_of_ble_eq_true rfl⟩ f2 rfl hl.1 (Nat.le_of_ble_eq_true rfl) dL_law_1514 ⟨show cells + 1 ≤ 601024 by omega, show slots + 6 ≤ 7293034 by omega⟩ rfl (fun H locs hw2 => ?_)
  refine lv_istore (lv' := [(6, .int w), (5, .int ((fun e => if e = 0 then 0 else if e = 2 then 1 else 0) ex)), (0, .ref b), (1, .ref (ad 0 0)), (2, .ref (am 0 0)), (3, .ref o), (4, .int (nI (8 * n)))]) S0.1 S0.2.1 dL_law_1517 hl (by decide) rfl (fun ls hl => ?_)
  refine lv_aload_n S0.1 S0.2.1 dL_law_1519 rfl (lv_at hl 4 rfl) ?_
  refine l_refi S0 hw2 (As := []) (rest := []) (wX9_thrown l D Y am F σm9) qyX9_thrown kw_1323 ⟨Nat.le_of_ble_eq_true rfl, Nat.le_of_ble_eq_true rfl⟩ f3 rfl hl.1 (Nat.le_of_ble_eq_true rfl) dL_law_1520 ⟨show cells + 1 ≤ 601024 by omega, show slots + 6 ≤ 7293034 by omega⟩ rfl (fun H locs hw3 => ?_)
  refine lv_iload S0.1 S0.2.1 dL_law_1523 (lv_at hl 1 rfl) ?_
  refine lv_icmp_eq (tgt := 1530) S0.1 S0.2.1 dL_law_1525 (by decide) (fun c1 => ?_) (fun c1 => absurd rfl c1)
  refine lv_iload S0.1 S0.2.1 dL_law_1530 (lv_at hl 1 rfl) ?_
  refine lv_if_ne (tgt := 1547) S0.1 S0.2.1 dL_law_1532 (by decide) (fun c2 => ?_) (fun c2 => ?_)
  · refine lv_goto (tgt := 2620) S0.1 S0.2.1 dL_law_1547 (by decide) ?_
    exact next ad9 σ9 σm9 _ _ _ ls _ _ hw3 h00 hok f5 (show cells + 1 ≤ 126 + 20 * (n + 1) + Φ σ9 by omega) (show slots + 6 ≤ 544257 + 130 * (n + 1) + 2 * Φ σ9 by omega) (lv_sub hl [2, 3, 4, 5, 6] rfl)
  · obtain ⟨rfl, rfl⟩ := f4 (Decidable.not_not.mp (fun h => h c2))
    refine lv_aload_n S0.1 S0.2.1 dL_law_1535 rfl (lv_at hl 5 rfl) ?_
    refine lv_iconst (v := 0) S0.1 S0.2.1 dL_law_1536 (by decide) ?_
    refine l_out0 S0 hw3 dL_law_1537 ?_
    refine lv_iload S0.1 S0.2.1 dL_law_1538 (lv_at hl 0 rfl) ?_
    refine lv_i2l (v := v.toInt64) S0.1 S0.2.1 dL_law_1540 rfl ?_
    refine l_lcmp0 S0 (x := v.toInt64) dL_law_1541 ?_
    refine lv_if_eq (tgt := 1547) S0.1 S0.2.1 dL_law_1542 (by decide) (fun c3 => ?_) (fun c3 => absurd rfl c3)
    refine lv_goto (tgt := 2620) S0.1 S0.2.1 dL_law_1547 (by decide) ?_
    exact next ad9 σ9 σm9 _ _ _ ls _ _ hw3 h00 hok f5 (show cells + 1 ≤ 126 + 20 * (n + 1) + Φ σ9 by omega) (show slots + 6 ≤ 544257 + 130 * (n + 1) + 2 * Φ σ9 by omega) (lv_sub hl [2, 3, 4, 5, 6] rfl)
theorem qyX9_read : qY yX9_read RX9 cX9_read 6 (some .int) 3 := ⟨⟨kw_1544, kw_1545, kw_11, kw_1546⟩, rfl, by decide, by decide, by decide +kernel⟩
set_option maxRecDepth 100000 in
set_option maxHeartbeats 4000000 in
theorem wLaw_read {p : Program} {l : Launch} {e : Env} {s : State} {m : MethodId} {below : List Frame} {meth : Method} {c : Code} {Q : State → Prop} {D : va_G} {Y : Nat → ClassId} {am : qAd} {b L : Nat} {xs : Nat → Int32} {x0 o e0 F n : Nat} {I : Nat → qS → qS → Prop} {Φ : qS → Nat} (S0 : CallFix p m c cL_law 7 s #[.ref b] gws "LeasehallLaw") (hst : l.stackTraces = false) (hX : va_X b L xs s s.heap) (hbl : b < s.heap.size) (hL : L ≤ 4096) (hG : qG s.heap.size s s.heap) (hE : qE s.heap.size e0 s s.heap) (hNc : qNc s) (hΦ : ∀ n σ σm, I n σ σm → Φ σ ≤ 90000) (hc : cI_read F I Φ) (hn : 8 * n + 8 ≤ L) (next : lNext p l e s m b below meth c Q D Y am x0 o e0 I Φ n (n + 1) 2620) : lNext p l e s m b below meth c Q D Y am x0 o e0 I Φ n n 1550 := by
  intro ad σ σm g H locs ls cells slots hw h0 hok hI hcl hsl hl
  have hbA : ¬ lA s b := Nat.not_le.mpr hbl
  have hAB : ∀ q, lA s q → s.heap.size ≤ q := fun _ h => h
  have hn5 : n < 512 := by omega
  obtain ⟨v, ex, σ9, w, σm9, f1, f2, f3, f4, f5, f6⟩ := hc n σ σm (xs (8 * n + 1)) (xs (8 * n + 2)) (xs (8 * n + 3)) hn5 hI
  have hΦ9 := hΦ _ _ _ f5
  replace f6 : 0 + Φ σ ≤ Φ σ9 := f6
  subst h0
  refine lv_aload_n S0.1 S0.2.1 dL_law_1550 rfl (lv_at hl 1 rfl) ?_
  refine lv_aload_n S0.1 S0.2.1 dL_law_1551 rfl (lv_at hl 0 rfl) ?_
  refine lv_iload S0.1 S0.2.1 dL_law_1552 (lv_at hl 4 rfl) ?_
  refine lv_iconst (v := 1) S0.1 S0.2.1 dL_law_1554 (by decide) ?_
  refine l_sld S0 hX hbl hbA hL hw.1.1.2.2.1 (k := 1) rfl (by omega) dL_law_1555 dL_law_1556 ?_
  refine lv_aload_n S0.1 S0.2.1 dL_law_1557 rfl (lv_at hl 0 rfl) ?_
  refine lv_iload S0.1 S0.2.1 dL_law_1558 (lv_at hl 4 rfl) ?_
  refine lv_iconst (v := 2) S0.1 S0.2.1 dL_law_1560 (by decide) ?_
  refine l_sld S0 hX hbl hbA hL hw.1.1.2.2.1 (k := 2) rfl (by omega) dL_law_1561 dL_law_1562 ?_
  refine lv_aload_n S0.1 S0.2.1 dL_law_1563 rfl (lv_at hl 0 rfl) ?_
  refine lv_iload S0.1 S0.2.1 dL_law_1564 (lv_at hl 4 rfl) ?_
  refine lv_iconst (v := 3) S0.1 S0.2.1 dL_law_1566 (by decide) ?_
  refine l_sld S0 hX hbl hbA hL hw.1.1.2.2.1 (k := 3) rfl (by omega) dL_law_1567 dL_law_1568 ?_
  refine lv_aload_n S0.1 S0.2.1 dL_law_1569 rfl (lv_at hl 3 rfl) ?_
  refine l_wrap (n := 5) S0 hG hE hNc hAB hok hw (As := [.ref (ad 0 0), .int (xs (8 * n + 1)), .int (xs (8 * n + 2)), .int (xs (8 * n + 3)), .ref o]) (rest := []) (wL_read l hst D Y ad o g s.heap.size e0 F (xs (8 * n + 1)) (xs (8 * n + 2)) (xs (8 * n + 3)) σ) kw_947 kw_945 kw_946 kw_0 ⟨by decide, by decide, by decide +kernel⟩ ⟨Nat.le_of_ble_eq_true rfl, Nat.le_of_ble_eq_true rfl⟩ f1 rfl hl.1 (Nat.le_of_ble_eq_true rfl) dL_law_1570 ⟨show cells + 2 ≤ 601024 by omega, show slots + 12 ≤ 7293034 by omega⟩ rfl (fun ad9 H locs hw1 h00 hok => ?_)
  replace h00 : ad9 0 0 = ad 0 0 := h00
  refine lv_istore (lv' := [(5, .int ((fun e => if e = 0 then 0 else if e = 1 then 1 else if e = 2 then 2 else if e = 3 then 3 else 0) ex)), (0, .ref b), (1, .ref (ad 0 0)), (2, .ref (am 0 0)), (3, .ref o), (4, .int (nI (8 * n)))]) S0.1 S0.2.1 dL_law_1573 hl (by decide) rfl (fun ls hl => ?_)
  refine lv_aload_n S0.1 S0.2.1 dL_law_1575 rfl (lv_at hl 3 rfl) ?_
  refine lv_aload_n S0.1 S0.2.1 dL_law_1576 rfl (lv_at hl 1 rfl) ?_
  refine lv_iload S0.1 S0.2.1 dL_law_1577 (lv_at hl 5 rfl) ?_
  refine lv_iconst (v := 1) S0.1 S0.2.1 dL_law_1579 (by decide) ?_
  refine l_sld S0 hX hbl hbA hL hw1.1.1.2.2.1 (k := 1) rfl (by omega) dL_law_1580 dL_law_1581 ?_
  refine lv_aload_n S0.1 S0.2.1 dL_law_1582 rfl (lv_at hl 1 rfl) ?_
  refine lv_iload S0.1 S0.2.1 dL_law_1583 (lv_at hl 5 rfl) ?_
  refine lv_iconst (v := 2) S0.1 S0.2.1 dL_law_1585 (by decide) ?_
  refine l_sld S0 hX hbl hbA hL hw1.1.1.2.2.1 (k := 2) rfl (by omega) dL_law_1586 dL_law_1587 ?_
  refine lv_aload_n S0.1 S0.2.1 dL_law_1588 rfl (lv_at hl 1 rfl) ?_
  refine lv_iload S0.1 S0.2.1 dL_law_1589 (lv_at hl 5 rfl) ?_
  refine lv_iconst (v := 3) S0.1 S0.2.1 dL_law_1591 (by decide) ?_
  refine l_sld S0 hX hbl hbA hL hw1.1.1.2.2.1 (k := 3) rfl (by omega) dL_law_1592 dL_law_1593 ?_
  refine l_refi S0 hw1 (As := [.int (xs (8 * n + 1)), .int (xs (8 * n + 2)), .int (xs (8 * n + 3))]) (rest := []) (wX9_read l D Y am F (xs (8 * n + 1)) (xs (8 * n + 2)) (xs (8 * n + 3)) σm) qyX9_read kw_1543 ⟨Nat.le_of_ble_eq_true rfl, Nat.le_of_ble_eq_true rfl⟩ f2 rfl hl.1 (Nat.le_of_ble_eq_true rfl) dL_law_1594 ⟨show cells + 2 ≤ 601024 by omega, show slots + 12 ≤ 7293034 by omega⟩ rfl (fun H locs hw2 => ?_)
  refine lv_istore (lv' := [(6, .int w), (5, .int ((fun e => if e = 0 then 0 else if e = 1 then 1 else if e = 2 then 2 else if e = 3 then 3 else 0) ex)), (0, .ref b), (1, .ref (ad 0 0)), (2, .ref (am 0 0)), (3, .ref o), (4, .int (nI (8 * n)))]) S0.1 S0.2.1 dL_law_1597 hl (by decide) rfl (fun ls hl => ?_)
  refine lv_aload_n S0.1 S0.2.1 dL_law_1599 rfl (lv_at hl 4 rfl) ?_
  refine l_refi S0 hw2 (As := []) (rest := []) (wX9_thrown l D Y am F σm9) qyX9_thrown kw_1323 ⟨Nat.le_of_ble_eq_true rfl, Nat.le_of_ble_eq_true rfl⟩ f3 rfl hl.1 (Nat.le_of_ble_eq_true rfl) dL_law_1600 ⟨show cells + 2 ≤ 601024 by omega, show slots + 12 ≤ 7293034 by omega⟩ rfl (fun H locs hw3 => ?_)
  refine lv_iload S0.1 S0.2.1 dL_law_1603 (lv_at hl 1 rfl) ?_
  refine lv_icmp_eq (tgt := 1610) S0.1 S0.2.1 dL_law_1605 (by decide) (fun c1 => ?_) (fun c1 => absurd rfl c1)
  refine lv_iload S0.1 S0.2.1 dL_law_1610 (lv_at hl 1 rfl) ?_
  refine lv_if_ne (tgt := 1627) S0.1 S0.2.1 dL_law_1612 (by decide) (fun c2 => ?_) (fun c2 => ?_)
  · refine lv_goto (tgt := 2620) S0.1 S0.2.1 dL_law_1627 (by decide) ?_
    exact next ad9 σ9 σm9 _ _ _ ls _ _ hw3 h00 hok f5 (show cells + 2 ≤ 126 + 20 * (n + 1) + Φ σ9 by omega) (show slots + 12 ≤ 544257 + 130 * (n + 1) + 2 * Φ σ9 by omega) (lv_sub hl [2, 3, 4, 5, 6] rfl)
  · obtain ⟨rfl, rfl⟩ := f4 (Decidable.not_not.mp (fun h => h c2))
    refine lv_aload_n S0.1 S0.2.1 dL_law_1615 rfl (lv_at hl 5 rfl) ?_
    refine lv_iconst (v := 0) S0.1 S0.2.1 dL_law_1616 (by decide) ?_
    refine l_out0 S0 hw3 dL_law_1617 ?_
    refine lv_iload S0.1 S0.2.1 dL_law_1618 (lv_at hl 0 rfl) ?_
    refine lv_i2l (v := v.toInt64) S0.1 S0.2.1 dL_law_1620 rfl ?_
    refine l_lcmp0 S0 (x := v.toInt64) dL_law_1621 ?_
    refine lv_if_eq (tgt := 1627) S0.1 S0.2.1 dL_law_1622 (by decide) (fun c3 => ?_) (fun c3 => absurd rfl c3)
    refine lv_goto (tgt := 2620) S0.1 S0.2.1 dL_law_1627 (by decide) ?_
    exact next ad9 σ9 σm9 _ _ _ ls _ _ hw3 h00 hok f5 (show cells + 2 ≤ 126 + 20 * (n + 1) + Φ σ9 by omega) (show slots + 12 ≤ 544257 + 130 * (n + 1) + 2 * Φ σ9 by omega) (lv_sub hl [2, 3, 4, 5, 6] rfl)
theorem qyX9_child : qY yX9_child RX9 cX9_child 5 (some .int) 3 := ⟨⟨kw_1552, kw_1553, kw_11, kw_1554⟩, rfl, by decide, by decide, by decide +kernel⟩
set_option maxRecDepth 100000 in
set_option maxHeartbeats 4000000 in
theorem wLaw_child {p : Program} {l : Launch} {e : Env} {s : State} {m : MethodId} {below : List Frame} {meth : Method} {c : Code} {Q : State → Prop} {D : va_G} {Y : Nat → ClassId} {am : qAd} {b L : Nat} {xs : Nat → Int32} {x0 o e0 F n : Nat} {I : Nat → qS → qS → Prop} {Φ : qS → Nat} (S0 : CallFix p m c cL_law 7 s #[.ref b] gws "LeasehallLaw") (hst : l.stackTraces = false) (hX : va_X b L xs s s.heap) (hbl : b < s.heap.size) (hL : L ≤ 4096) (hG : qG s.heap.size s s.heap) (hE : qE s.heap.size e0 s s.heap) (hNc : qNc s) (hΦ : ∀ n σ σm, I n σ σm → Φ σ ≤ 90000) (hc : cI_child F I Φ) (hn : 8 * n + 8 ≤ L) (next : lNext p l e s m b below meth c Q D Y am x0 o e0 I Φ n (n + 1) 2620) : lNext p l e s m b below meth c Q D Y am x0 o e0 I Φ n n 1630 := by
  intro ad σ σm g H locs ls cells slots hw h0 hok hI hcl hsl hl
  have hbA : ¬ lA s b := Nat.not_le.mpr hbl
  have hAB : ∀ q, lA s q → s.heap.size ≤ q := fun _ h => h
  have hn5 : n < 512 := by omega
  obtain ⟨v, ex, σ9, w, σm9, f1, f2, f3, f4, f5, f6⟩ := hc n σ σm (xs (8 * n + 1)) (xs (8 * n + 2)) (xs (8 * n + 3)) hn5 hI
  have hΦ9 := hΦ _ _ _ f5
  replace f6 : 0 + Φ σ ≤ Φ σ9 := f6
  subst h0
  refine lv_aload_n S0.1 S0.2.1 dL_law_1630 rfl (lv_at hl 1 rfl) ?_
  refine lv_aload_n S0.1 S0.2.1 dL_law_1631 rfl (lv_at hl 0 rfl) ?_
  refine lv_iload S0.1 S0.2.1 dL_law_1632 (lv_at hl 4 rfl) ?_
  refine lv_iconst (v := 1) S0.1 S0.2.1 dL_law_1634 (by decide) ?_
  refine l_sld S0 hX hbl hbA hL hw.1.1.2.2.1 (k := 1) rfl (by omega) dL_law_1635 dL_law_1636 ?_
  refine lv_aload_n S0.1 S0.2.1 dL_law_1637 rfl (lv_at hl 0 rfl) ?_
  refine lv_iload S0.1 S0.2.1 dL_law_1638 (lv_at hl 4 rfl) ?_
  refine lv_iconst (v := 2) S0.1 S0.2.1 dL_law_1640 (by decide) ?_
  refine l_sld S0 hX hbl hbA hL hw.1.1.2.2.1 (k := 2) rfl (by omega) dL_law_1641 dL_law_1642 ?_
  refine lv_aload_n S0.1 S0.2.1 dL_law_1643 rfl (lv_at hl 0 rfl) ?_
  refine lv_iload S0.1 S0.2.1 dL_law_1644 (lv_at hl 4 rfl) ?_
  refine lv_iconst (v := 3) S0.1 S0.2.1 dL_law_1646 (by decide) ?_
  refine l_sld S0 hX hbl hbA hL hw.1.1.2.2.1 (k := 3) rfl (by omega) dL_law_1647 dL_law_1648 ?_
  refine lv_aload_n S0.1 S0.2.1 dL_law_1649 rfl (lv_at hl 3 rfl) ?_
  refine l_wrap (n := 5) S0 hG hE hNc hAB hok hw (As := [.ref (ad 0 0), .int (xs (8 * n + 1)), .int (xs (8 * n + 2)), .int (xs (8 * n + 3)), .ref o]) (rest := []) (wL_child l hst D Y ad o g s.heap.size e0 F (xs (8 * n + 1)) (xs (8 * n + 2)) (xs (8 * n + 3)) σ) kw_955 kw_953 kw_954 kw_0 ⟨by decide, by decide, by decide +kernel⟩ ⟨Nat.le_of_ble_eq_true rfl, Nat.le_of_ble_eq_true rfl⟩ f1 rfl hl.1 (Nat.le_of_ble_eq_true rfl) dL_law_1650 ⟨show cells + 2 ≤ 601024 by omega, show slots + 12 ≤ 7293034 by omega⟩ rfl (fun ad9 H locs hw1 h00 hok => ?_)
  replace h00 : ad9 0 0 = ad 0 0 := h00
  refine lv_istore (lv' := [(5, .int ((fun e => if e = 0 then 0 else if e = 1 then 1 else if e = 3 then 2 else 0) ex)), (0, .ref b), (1, .ref (ad 0 0)), (2, .ref (am 0 0)), (3, .ref o), (4, .int (nI (8 * n)))]) S0.1 S0.2.1 dL_law_1653 hl (by decide) rfl (fun ls hl => ?_)
  refine lv_aload_n S0.1 S0.2.1 dL_law_1655 rfl (lv_at hl 3 rfl) ?_
  refine lv_aload_n S0.1 S0.2.1 dL_law_1656 rfl (lv_at hl 1 rfl) ?_
  refine lv_iload S0.1 S0.2.1 dL_law_1657 (lv_at hl 5 rfl) ?_
  refine lv_iconst (v := 1) S0.1 S0.2.1 dL_law_1659 (by decide) ?_
  refine l_sld S0 hX hbl hbA hL hw1.1.1.2.2.1 (k := 1) rfl (by omega) dL_law_1660 dL_law_1661 ?_
  refine lv_aload_n S0.1 S0.2.1 dL_law_1662 rfl (lv_at hl 1 rfl) ?_
  refine lv_iload S0.1 S0.2.1 dL_law_1663 (lv_at hl 5 rfl) ?_
  refine lv_iconst (v := 2) S0.1 S0.2.1 dL_law_1665 (by decide) ?_
  refine l_sld S0 hX hbl hbA hL hw1.1.1.2.2.1 (k := 2) rfl (by omega) dL_law_1666 dL_law_1667 ?_
  refine lv_aload_n S0.1 S0.2.1 dL_law_1668 rfl (lv_at hl 1 rfl) ?_
  refine lv_iload S0.1 S0.2.1 dL_law_1669 (lv_at hl 5 rfl) ?_
  refine lv_iconst (v := 3) S0.1 S0.2.1 dL_law_1671 (by decide) ?_
  refine l_sld S0 hX hbl hbA hL hw1.1.1.2.2.1 (k := 3) rfl (by omega) dL_law_1672 dL_law_1673 ?_
  refine l_refi S0 hw1 (As := [.int (xs (8 * n + 1)), .int (xs (8 * n + 2)), .int (xs (8 * n + 3))]) (rest := []) (wX9_child l D Y am F (xs (8 * n + 1)) (xs (8 * n + 2)) (xs (8 * n + 3)) σm) qyX9_child kw_1551 ⟨Nat.le_of_ble_eq_true rfl, Nat.le_of_ble_eq_true rfl⟩ f2 rfl hl.1 (Nat.le_of_ble_eq_true rfl) dL_law_1674 ⟨show cells + 2 ≤ 601024 by omega, show slots + 12 ≤ 7293034 by omega⟩ rfl (fun H locs hw2 => ?_)
  refine lv_istore (lv' := [(6, .int w), (5, .int ((fun e => if e = 0 then 0 else if e = 1 then 1 else if e = 3 then 2 else 0) ex)), (0, .ref b), (1, .ref (ad 0 0)), (2, .ref (am 0 0)), (3, .ref o), (4, .int (nI (8 * n)))]) S0.1 S0.2.1 dL_law_1677 hl (by decide) rfl (fun ls hl => ?_)
  refine lv_aload_n S0.1 S0.2.1 dL_law_1679 rfl (lv_at hl 4 rfl) ?_
  refine l_refi S0 hw2 (As := []) (rest := []) (wX9_thrown l D Y am F σm9) qyX9_thrown kw_1323 ⟨Nat.le_of_ble_eq_true rfl, Nat.le_of_ble_eq_true rfl⟩ f3 rfl hl.1 (Nat.le_of_ble_eq_true rfl) dL_law_1680 ⟨show cells + 2 ≤ 601024 by omega, show slots + 12 ≤ 7293034 by omega⟩ rfl (fun H locs hw3 => ?_)
  refine lv_iload S0.1 S0.2.1 dL_law_1683 (lv_at hl 1 rfl) ?_
  refine lv_icmp_eq (tgt := 1690) S0.1 S0.2.1 dL_law_1685 (by decide) (fun c1 => ?_) (fun c1 => absurd rfl c1)
  refine lv_iload S0.1 S0.2.1 dL_law_1690 (lv_at hl 1 rfl) ?_
  refine lv_if_ne (tgt := 1707) S0.1 S0.2.1 dL_law_1692 (by decide) (fun c2 => ?_) (fun c2 => ?_)
  · refine lv_goto (tgt := 2620) S0.1 S0.2.1 dL_law_1707 (by decide) ?_
    exact next ad9 σ9 σm9 _ _ _ ls _ _ hw3 h00 hok f5 (show cells + 2 ≤ 126 + 20 * (n + 1) + Φ σ9 by omega) (show slots + 12 ≤ 544257 + 130 * (n + 1) + 2 * Φ σ9 by omega) (lv_sub hl [2, 3, 4, 5, 6] rfl)
  · obtain ⟨rfl, rfl⟩ := f4 (Decidable.not_not.mp (fun h => h c2))
    refine lv_aload_n S0.1 S0.2.1 dL_law_1695 rfl (lv_at hl 5 rfl) ?_
    refine lv_iconst (v := 0) S0.1 S0.2.1 dL_law_1696 (by decide) ?_
    refine l_out0 S0 hw3 dL_law_1697 ?_
    refine lv_iload S0.1 S0.2.1 dL_law_1698 (lv_at hl 0 rfl) ?_
    refine lv_i2l (v := v.toInt64) S0.1 S0.2.1 dL_law_1700 rfl ?_
    refine l_lcmp0 S0 (x := v.toInt64) dL_law_1701 ?_
    refine lv_if_eq (tgt := 1707) S0.1 S0.2.1 dL_law_1702 (by decide) (fun c3 => ?_) (fun c3 => absurd rfl c3)
    refine lv_goto (tgt := 2620) S0.1 S0.2.1 dL_law_1707 (by decide) ?_
    exact next ad9 σ9 σm9 _ _ _ ls _ _ hw3 h00 hok f5 (show cells + 2 ≤ 126 + 20 * (n + 1) + Φ σ9 by omega) (show slots + 12 ≤ 544257 + 130 * (n + 1) + 2 * Φ σ9 by omega) (lv_sub hl [2, 3, 4, 5, 6] rfl)
theorem qyX9_watch : qY yX9_watch RX9 cX9_watch 5 (some .int) 3 := ⟨⟨kw_1560, kw_1561, kw_11, kw_1562⟩, rfl, by decide, by decide, by decide +kernel⟩
set_option maxRecDepth 100000 in
set_option maxHeartbeats 4000000 in
theorem wLaw_watch {p : Program} {l : Launch} {e : Env} {s : State} {m : MethodId} {below : List Frame} {meth : Method} {c : Code} {Q : State → Prop} {D : va_G} {Y : Nat → ClassId} {am : qAd} {b L : Nat} {xs : Nat → Int32} {x0 o e0 F n : Nat} {I : Nat → qS → qS → Prop} {Φ : qS → Nat} (S0 : CallFix p m c cL_law 7 s #[.ref b] gws "LeasehallLaw") (hst : l.stackTraces = false) (hX : va_X b L xs s s.heap) (hbl : b < s.heap.size) (hL : L ≤ 4096) (hG : qG s.heap.size s s.heap) (hE : qE s.heap.size e0 s s.heap) (hNc : qNc s) (hΦ : ∀ n σ σm, I n σ σm → Φ σ ≤ 90000) (hc : cI_watch F I Φ) (hn : 8 * n + 8 ≤ L) (next : lNext p l e s m b below meth c Q D Y am x0 o e0 I Φ n (n + 1) 2620) : lNext p l e s m b below meth c Q D Y am x0 o e0 I Φ n n 1710 := by
  intro ad σ σm g H locs ls cells slots hw h0 hok hI hcl hsl hl
  have hbA : ¬ lA s b := Nat.not_le.mpr hbl
  have hAB : ∀ q, lA s q → s.heap.size ≤ q := fun _ h => h
  have hn5 : n < 512 := by omega
  obtain ⟨v, ex, σ9, w, σm9, f1, f2, f3, f4, f5, f6⟩ := hc n σ σm (xs (8 * n + 1)) (xs (8 * n + 2)) (xs (8 * n + 3)) hn5 hI
  have hΦ9 := hΦ _ _ _ f5
  replace f6 : (σ9.2 3 (xs (8 * n + 1)).toNatClampNeg - σ.2 3 (xs (8 * n + 1)).toNatClampNeg) + Φ σ ≤ Φ σ9 := f6
  subst h0
  refine lv_aload_n S0.1 S0.2.1 dL_law_1710 rfl (lv_at hl 1 rfl) ?_
  refine lv_aload_n S0.1 S0.2.1 dL_law_1711 rfl (lv_at hl 0 rfl) ?_
  refine lv_iload S0.1 S0.2.1 dL_law_1712 (lv_at hl 4 rfl) ?_
  refine lv_iconst (v := 1) S0.1 S0.2.1 dL_law_1714 (by decide) ?_
  refine l_sld S0 hX hbl hbA hL hw.1.1.2.2.1 (k := 1) rfl (by omega) dL_law_1715 dL_law_1716 ?_
  refine lv_aload_n S0.1 S0.2.1 dL_law_1717 rfl (lv_at hl 0 rfl) ?_
  refine lv_iload S0.1 S0.2.1 dL_law_1718 (lv_at hl 4 rfl) ?_
  refine lv_iconst (v := 2) S0.1 S0.2.1 dL_law_1720 (by decide) ?_
  refine l_sld S0 hX hbl hbA hL hw.1.1.2.2.1 (k := 2) rfl (by omega) dL_law_1721 dL_law_1722 ?_
  refine lv_aload_n S0.1 S0.2.1 dL_law_1723 rfl (lv_at hl 0 rfl) ?_
  refine lv_iload S0.1 S0.2.1 dL_law_1724 (lv_at hl 4 rfl) ?_
  refine lv_iconst (v := 3) S0.1 S0.2.1 dL_law_1726 (by decide) ?_
  refine l_sld S0 hX hbl hbA hL hw.1.1.2.2.1 (k := 3) rfl (by omega) dL_law_1727 dL_law_1728 ?_
  refine lv_aload_n S0.1 S0.2.1 dL_law_1729 rfl (lv_at hl 3 rfl) ?_
  refine l_wrap (n := 5) S0 hG hE hNc hAB hok hw (As := [.ref (ad 0 0), .int (xs (8 * n + 1)), .int (xs (8 * n + 2)), .int (xs (8 * n + 3)), .ref o]) (rest := []) (wL_watch l hst D Y ad o g s.heap.size e0 F (xs (8 * n + 1)) (xs (8 * n + 2)) (xs (8 * n + 3)) σ) kw_974 kw_972 kw_973 kw_0 ⟨by decide, by decide, by decide +kernel⟩ ⟨Nat.le_of_ble_eq_true rfl, Nat.le_of_ble_eq_true rfl⟩ f1 rfl hl.1 (Nat.le_of_ble_eq_true rfl) dL_law_1730 ⟨show cells + (3 + (σ9.2 3 (xs (8 * n + 1)).toNatClampNeg - σ.2 3 (xs (8 * n + 1)).toNatClampNeg)) ≤ 601024 by omega, show slots + (18 + 2 * (σ9.2 3 (xs (8 * n + 1)).toNatClampNeg - σ.2 3 (xs (8 * n + 1)).toNatClampNeg)) ≤ 7293034 by omega⟩ rfl (fun ad9 H locs hw1 h00 hok => ?_)
  replace h00 : ad9 0 0 = ad 0 0 := h00
  refine lv_istore (lv' := [(5, .int ((fun e => if e = 0 then 0 else if e = 1 then 1 else if e = 2 then 2 else if e = 3 then 3 else 0) ex)), (0, .ref b), (1, .ref (ad 0 0)), (2, .ref (am 0 0)), (3, .ref o), (4, .int (nI (8 * n)))]) S0.1 S0.2.1 dL_law_1733 hl (by decide) rfl (fun ls hl => ?_)
  refine lv_aload_n S0.1 S0.2.1 dL_law_1735 rfl (lv_at hl 3 rfl) ?_
  refine lv_aload_n S0.1 S0.2.1 dL_law_1736 rfl (lv_at hl 1 rfl) ?_
  refine lv_iload S0.1 S0.2.1 dL_law_1737 (lv_at hl 5 rfl) ?_
  refine lv_iconst (v := 1) S0.1 S0.2.1 dL_law_1739 (by decide) ?_
  refine l_sld S0 hX hbl hbA hL hw1.1.1.2.2.1 (k := 1) rfl (by omega) dL_law_1740 dL_law_1741 ?_
  refine lv_aload_n S0.1 S0.2.1 dL_law_1742 rfl (lv_at hl 1 rfl) ?_
  refine lv_iload S0.1 S0.2.1 dL_law_1743 (lv_at hl 5 rfl) ?_
  refine lv_iconst (v := 2) S0.1 S0.2.1 dL_law_1745 (by decide) ?_
  refine l_sld S0 hX hbl hbA hL hw1.1.1.2.2.1 (k := 2) rfl (by omega) dL_law_1746 dL_law_1747 ?_
  refine lv_aload_n S0.1 S0.2.1 dL_law_1748 rfl (lv_at hl 1 rfl) ?_
  refine lv_iload S0.1 S0.2.1 dL_law_1749 (lv_at hl 5 rfl) ?_
  refine lv_iconst (v := 3) S0.1 S0.2.1 dL_law_1751 (by decide) ?_
  refine l_sld S0 hX hbl hbA hL hw1.1.1.2.2.1 (k := 3) rfl (by omega) dL_law_1752 dL_law_1753 ?_
  refine l_refi S0 hw1 (As := [.int (xs (8 * n + 1)), .int (xs (8 * n + 2)), .int (xs (8 * n + 3))]) (rest := []) (wX9_watch l D Y am F (xs (8 * n + 1)) (xs (8 * n + 2)) (xs (8 * n + 3)) σm) qyX9_watch kw_1559 ⟨Nat.le_of_ble_eq_true rfl, Nat.le_of_ble_eq_true rfl⟩ f2 rfl hl.1 (Nat.le_of_ble_eq_true rfl) dL_law_1754 ⟨show cells + (3 + (σ9.2 3 (xs (8 * n + 1)).toNatClampNeg - σ.2 3 (xs (8 * n + 1)).toNatClampNeg)) ≤ 601024 by omega, show slots + (18 + 2 * (σ9.2 3 (xs (8 * n + 1)).toNatClampNeg - σ.2 3 (xs (8 * n + 1)).toNatClampNeg)) ≤ 7293034 by omega⟩ rfl (fun H locs hw2 => ?_)
  refine lv_istore (lv' := [(6, .int w), (5, .int ((fun e => if e = 0 then 0 else if e = 1 then 1 else if e = 2 then 2 else if e = 3 then 3 else 0) ex)), (0, .ref b), (1, .ref (ad 0 0)), (2, .ref (am 0 0)), (3, .ref o), (4, .int (nI (8 * n)))]) S0.1 S0.2.1 dL_law_1757 hl (by decide) rfl (fun ls hl => ?_)
  refine lv_aload_n S0.1 S0.2.1 dL_law_1759 rfl (lv_at hl 4 rfl) ?_
  refine l_refi S0 hw2 (As := []) (rest := []) (wX9_thrown l D Y am F σm9) qyX9_thrown kw_1323 ⟨Nat.le_of_ble_eq_true rfl, Nat.le_of_ble_eq_true rfl⟩ f3 rfl hl.1 (Nat.le_of_ble_eq_true rfl) dL_law_1760 ⟨show cells + (3 + (σ9.2 3 (xs (8 * n + 1)).toNatClampNeg - σ.2 3 (xs (8 * n + 1)).toNatClampNeg)) ≤ 601024 by omega, show slots + (18 + 2 * (σ9.2 3 (xs (8 * n + 1)).toNatClampNeg - σ.2 3 (xs (8 * n + 1)).toNatClampNeg)) ≤ 7293034 by omega⟩ rfl (fun H locs hw3 => ?_)
  refine lv_iload S0.1 S0.2.1 dL_law_1763 (lv_at hl 1 rfl) ?_
  refine lv_icmp_eq (tgt := 1770) S0.1 S0.2.1 dL_law_1765 (by decide) (fun c1 => ?_) (fun c1 => absurd rfl c1)
  refine lv_iload S0.1 S0.2.1 dL_law_1770 (lv_at hl 1 rfl) ?_
  refine lv_if_ne (tgt := 1787) S0.1 S0.2.1 dL_law_1772 (by decide) (fun c2 => ?_) (fun c2 => ?_)
  · refine lv_goto (tgt := 2620) S0.1 S0.2.1 dL_law_1787 (by decide) ?_
    exact next ad9 σ9 σm9 _ _ _ ls _ _ hw3 h00 hok f5 (show cells + (3 + (σ9.2 3 (xs (8 * n + 1)).toNatClampNeg - σ.2 3 (xs (8 * n + 1)).toNatClampNeg)) ≤ 126 + 20 * (n + 1) + Φ σ9 by omega) (show slots + (18 + 2 * (σ9.2 3 (xs (8 * n + 1)).toNatClampNeg - σ.2 3 (xs (8 * n + 1)).toNatClampNeg)) ≤ 544257 + 130 * (n + 1) + 2 * Φ σ9 by omega) (lv_sub hl [2, 3, 4, 5, 6] rfl)
  · obtain ⟨rfl, rfl⟩ := f4 (Decidable.not_not.mp (fun h => h c2))
    refine lv_aload_n S0.1 S0.2.1 dL_law_1775 rfl (lv_at hl 5 rfl) ?_
    refine lv_iconst (v := 0) S0.1 S0.2.1 dL_law_1776 (by decide) ?_
    refine l_out0 S0 hw3 dL_law_1777 ?_
    refine lv_iload S0.1 S0.2.1 dL_law_1778 (lv_at hl 0 rfl) ?_
    refine lv_i2l (v := v.toInt64) S0.1 S0.2.1 dL_law_1780 rfl ?_
    refine l_lcmp0 S0 (x := v.toInt64) dL_law_1781 ?_
    refine lv_if_eq (tgt := 1787) S0.1 S0.2.1 dL_law_1782 (by decide) (fun c3 => ?_) (fun c3 => absurd rfl c3)
    refine lv_goto (tgt := 2620) S0.1 S0.2.1 dL_law_1787 (by decide) ?_
    exact next ad9 σ9 σm9 _ _ _ ls _ _ hw3 h00 hok f5 (show cells + (3 + (σ9.2 3 (xs (8 * n + 1)).toNatClampNeg - σ.2 3 (xs (8 * n + 1)).toNatClampNeg)) ≤ 126 + 20 * (n + 1) + Φ σ9 by omega) (show slots + (18 + 2 * (σ9.2 3 (xs (8 * n + 1)).toNatClampNeg - σ.2 3 (xs (8 * n + 1)).toNatClampNeg)) ≤ 544257 + 130 * (n + 1) + 2 * Φ σ9 by omega) (lv_sub hl [2, 3, 4, 5, 6] rfl)
theorem qyX9_hear : qY yX9_hear RX9 cX9_hear 2 (some .int) 1 := ⟨⟨kw_1564, kw_1565, kw_11, kw_1566⟩, rfl, by decide, by decide, by decide +kernel⟩
set_option maxRecDepth 100000 in
set_option maxHeartbeats 4000000 in
theorem wLaw_hear {p : Program} {l : Launch} {e : Env} {s : State} {m : MethodId} {below : List Frame} {meth : Method} {c : Code} {Q : State → Prop} {D : va_G} {Y : Nat → ClassId} {am : qAd} {b L : Nat} {xs : Nat → Int32} {x0 o e0 F n : Nat} {I : Nat → qS → qS → Prop} {Φ : qS → Nat} (S0 : CallFix p m c cL_law 7 s #[.ref b] gws "LeasehallLaw") (hst : l.stackTraces = false) (hX : va_X b L xs s s.heap) (hbl : b < s.heap.size) (hL : L ≤ 4096) (hG : qG s.heap.size s s.heap) (hE : qE s.heap.size e0 s s.heap) (hNc : qNc s) (hΦ : ∀ n σ σm, I n σ σm → Φ σ ≤ 90000) (hc : cI_hear F I Φ) (hn : 8 * n + 8 ≤ L) (next : lNext p l e s m b below meth c Q D Y am x0 o e0 I Φ n (n + 1) 2620) : lNext p l e s m b below meth c Q D Y am x0 o e0 I Φ n n 1790 := by
  intro ad σ σm g H locs ls cells slots hw h0 hok hI hcl hsl hl
  have hbA : ¬ lA s b := Nat.not_le.mpr hbl
  have hAB : ∀ q, lA s q → s.heap.size ≤ q := fun _ h => h
  have hn5 : n < 512 := by omega
  obtain ⟨v, ex, σ9, w, σm9, f1, f2, f3, f4, f5, f6⟩ := hc n σ σm (xs (8 * n + 1)) hn5 hI
  have hΦ9 := hΦ _ _ _ f5
  replace f6 : (σ9.2 3 (xs (8 * n + 1)).toNatClampNeg - σ.2 3 (xs (8 * n + 1)).toNatClampNeg) + Φ σ ≤ Φ σ9 := f6
  subst h0
  refine lv_aload_n S0.1 S0.2.1 dL_law_1790 rfl (lv_at hl 1 rfl) ?_
  refine lv_aload_n S0.1 S0.2.1 dL_law_1791 rfl (lv_at hl 0 rfl) ?_
  refine lv_iload S0.1 S0.2.1 dL_law_1792 (lv_at hl 4 rfl) ?_
  refine lv_iconst (v := 1) S0.1 S0.2.1 dL_law_1794 (by decide) ?_
  refine l_sld S0 hX hbl hbA hL hw.1.1.2.2.1 (k := 1) rfl (by omega) dL_law_1795 dL_law_1796 ?_
  refine lv_aload_n S0.1 S0.2.1 dL_law_1797 rfl (lv_at hl 3 rfl) ?_
  refine l_wrap (n := 3) S0 hG hE hNc hAB hok hw (As := [.ref (ad 0 0), .int (xs (8 * n + 1)), .ref o]) (rest := []) (wL_hear l hst D Y ad o g s.heap.size e0 F (xs (8 * n + 1)) σ) kw_1025 kw_1023 kw_1024 kw_0 ⟨by decide, by decide, by decide +kernel⟩ ⟨Nat.le_of_ble_eq_true rfl, Nat.le_of_ble_eq_true rfl⟩ f1 rfl hl.1 (Nat.le_of_ble_eq_true rfl) dL_law_1798 ⟨show cells + (2 + (σ9.2 3 (xs (8 * n + 1)).toNatClampNeg - σ.2 3 (xs (8 * n + 1)).toNatClampNeg)) ≤ 601024 by omega, show slots + (12 + 2 * (σ9.2 3 (xs (8 * n + 1)).toNatClampNeg - σ.2 3 (xs (8 * n + 1)).toNatClampNeg)) ≤ 7293034 by omega⟩ rfl (fun ad9 H locs hw1 h00 hok => ?_)
  replace h00 : ad9 0 0 = ad 0 0 := h00
  refine lv_istore (lv' := [(5, .int ((fun e => if e = 0 then 0 else if e = 1 then 1 else if e = 3 then 2 else 0) ex)), (0, .ref b), (1, .ref (ad 0 0)), (2, .ref (am 0 0)), (3, .ref o), (4, .int (nI (8 * n)))]) S0.1 S0.2.1 dL_law_1801 hl (by decide) rfl (fun ls hl => ?_)
  refine lv_aload_n S0.1 S0.2.1 dL_law_1803 rfl (lv_at hl 3 rfl) ?_
  refine lv_aload_n S0.1 S0.2.1 dL_law_1804 rfl (lv_at hl 1 rfl) ?_
  refine lv_iload S0.1 S0.2.1 dL_law_1805 (lv_at hl 5 rfl) ?_
  refine lv_iconst (v := 1) S0.1 S0.2.1 dL_law_1807 (by decide) ?_
  refine l_sld S0 hX hbl hbA hL hw1.1.1.2.2.1 (k := 1) rfl (by omega) dL_law_1808 dL_law_1809 ?_
  refine l_refi S0 hw1 (As := [.int (xs (8 * n + 1))]) (rest := []) (wX9_hear l D Y am F (xs (8 * n + 1)) σm) qyX9_hear kw_1563 ⟨Nat.le_of_ble_eq_true rfl, Nat.le_of_ble_eq_true rfl⟩ f2 rfl hl.1 (Nat.le_of_ble_eq_true rfl) dL_law_1810 ⟨show cells + (2 + (σ9.2 3 (xs (8 * n + 1)).toNatClampNeg - σ.2 3 (xs (8 * n + 1)).toNatClampNeg)) ≤ 601024 by omega, show slots + (12 + 2 * (σ9.2 3 (xs (8 * n + 1)).toNatClampNeg - σ.2 3 (xs (8 * n + 1)).toNatClampNeg)) ≤ 7293034 by omega⟩ rfl (fun H locs hw2 => ?_)
  refine lv_istore (lv' := [(6, .int w), (5, .int ((fun e => if e = 0 then 0 else if e = 1 then 1 else if e = 3 then 2 else 0) ex)), (0, .ref b), (1, .ref (ad 0 0)), (2, .ref (am 0 0)), (3, .ref o), (4, .int (nI (8 * n)))]) S0.1 S0.2.1 dL_law_1813 hl (by decide) rfl (fun ls hl => ?_)
  refine lv_aload_n S0.1 S0.2.1 dL_law_1815 rfl (lv_at hl 4 rfl) ?_
  refine l_refi S0 hw2 (As := []) (rest := []) (wX9_thrown l D Y am F σm9) qyX9_thrown kw_1323 ⟨Nat.le_of_ble_eq_true rfl, Nat.le_of_ble_eq_true rfl⟩ f3 rfl hl.1 (Nat.le_of_ble_eq_true rfl) dL_law_1816 ⟨show cells + (2 + (σ9.2 3 (xs (8 * n + 1)).toNatClampNeg - σ.2 3 (xs (8 * n + 1)).toNatClampNeg)) ≤ 601024 by omega, show slots + (12 + 2 * (σ9.2 3 (xs (8 * n + 1)).toNatClampNeg - σ.2 3 (xs (8 * n + 1)).toNatClampNeg)) ≤ 7293034 by omega⟩ rfl (fun H locs hw3 => ?_)
  refine lv_iload S0.1 S0.2.1 dL_law_1819 (lv_at hl 1 rfl) ?_
  refine lv_icmp_eq (tgt := 1826) S0.1 S0.2.1 dL_law_1821 (by decide) (fun c1 => ?_) (fun c1 => absurd rfl c1)
  refine lv_iload S0.1 S0.2.1 dL_law_1826 (lv_at hl 1 rfl) ?_
  refine lv_if_ne (tgt := 1843) S0.1 S0.2.1 dL_law_1828 (by decide) (fun c2 => ?_) (fun c2 => ?_)
  · refine lv_goto (tgt := 2620) S0.1 S0.2.1 dL_law_1843 (by decide) ?_
    exact next ad9 σ9 σm9 _ _ _ ls _ _ hw3 h00 hok f5 (show cells + (2 + (σ9.2 3 (xs (8 * n + 1)).toNatClampNeg - σ.2 3 (xs (8 * n + 1)).toNatClampNeg)) ≤ 126 + 20 * (n + 1) + Φ σ9 by omega) (show slots + (12 + 2 * (σ9.2 3 (xs (8 * n + 1)).toNatClampNeg - σ.2 3 (xs (8 * n + 1)).toNatClampNeg)) ≤ 544257 + 130 * (n + 1) + 2 * Φ σ9 by omega) (lv_sub hl [2, 3, 4, 5, 6] rfl)
  · obtain ⟨rfl, rfl⟩ := f4 (Decidable.not_not.mp (fun h => h c2))
    refine lv_aload_n S0.1 S0.2.1 dL_law_1831 rfl (lv_at hl 5 rfl) ?_
    refine lv_iconst (v := 0) S0.1 S0.2.1 dL_law_1832 (by decide) ?_
    refine l_out0 S0 hw3 dL_law_1833 ?_
    refine lv_iload S0.1 S0.2.1 dL_law_1834 (lv_at hl 0 rfl) ?_
    refine lv_i2l (v := v.toInt64) S0.1 S0.2.1 dL_law_1836 rfl ?_
    refine l_lcmp0 S0 (x := v.toInt64) dL_law_1837 ?_
    refine lv_if_eq (tgt := 1843) S0.1 S0.2.1 dL_law_1838 (by decide) (fun c3 => ?_) (fun c3 => absurd rfl c3)
    refine lv_goto (tgt := 2620) S0.1 S0.2.1 dL_law_1843 (by decide) ?_
    exact next ad9 σ9 σm9 _ _ _ ls _ _ hw3 h00 hok f5 (show cells + (2 + (σ9.2 3 (xs (8 * n + 1)).toNatClampNeg - σ.2 3 (xs (8 * n + 1)).toNatClampNeg)) ≤ 126 + 20 * (n + 1) + Φ σ9 by omega) (show slots + (12 + 2 * (σ9.2 3 (xs (8 * n + 1)).toNatClampNeg - σ.2 3 (xs (8 * n + 1)).toNatClampNeg)) ≤ 544257 + 130 * (n + 1) + 2 * Φ σ9 by omega) (lv_sub hl [2, 3, 4, 5, 6] rfl)
theorem qyX9_want : qY yX9_want RX9 cX9_want 4 (some .int) 3 := ⟨⟨kw_1568, kw_1569, kw_11, kw_1570⟩, rfl, by decide, by decide, by decide +kernel⟩
set_option maxRecDepth 100000 in
set_option maxHeartbeats 4000000 in
theorem wLaw_want {p : Program} {l : Launch} {e : Env} {s : State} {m : MethodId} {below : List Frame} {meth : Method} {c : Code} {Q : State → Prop} {D : va_G} {Y : Nat → ClassId} {am : qAd} {b L : Nat} {xs : Nat → Int32} {x0 o e0 F n : Nat} {I : Nat → qS → qS → Prop} {Φ : qS → Nat} (S0 : CallFix p m c cL_law 7 s #[.ref b] gws "LeasehallLaw") (hst : l.stackTraces = false) (hX : va_X b L xs s s.heap) (hbl : b < s.heap.size) (hL : L ≤ 4096) (hG : qG s.heap.size s s.heap) (hE : qE s.heap.size e0 s s.heap) (hNc : qNc s) (hΦ : ∀ n σ σm, I n σ σm → Φ σ ≤ 90000) (hc : cI_want F I Φ) (hn : 8 * n + 8 ≤ L) (next : lNext p l e s m b below meth c Q D Y am x0 o e0 I Φ n (n + 1) 2620) : lNext p l e s m b below meth c Q D Y am x0 o e0 I Φ n n 1846 := by
  intro ad σ σm g H locs ls cells slots hw h0 hok hI hcl hsl hl
  have hbA : ¬ lA s b := Nat.not_le.mpr hbl
  have hAB : ∀ q, lA s q → s.heap.size ≤ q := fun _ h => h
  have hn5 : n < 512 := by omega
  obtain ⟨v, ex, σ9, w, σm9, f1, f2, f3, f4, f5, f6⟩ := hc n σ σm (xs (8 * n + 1)) (xs (8 * n + 2)) (if xs (8 * n + 3) = 0 then 0 else 1) hn5 hI (by by_cases c9 : xs (8 * n + 3) = 0 <;> simp [c9])
  have hΦ9 := hΦ _ _ _ f5
  replace f6 : 0 + Φ σ ≤ Φ σ9 := f6
  subst h0
  refine lv_aload_n S0.1 S0.2.1 dL_law_1846 rfl (lv_at hl 1 rfl) ?_
  refine lv_aload_n S0.1 S0.2.1 dL_law_1847 rfl (lv_at hl 0 rfl) ?_
  refine lv_iload S0.1 S0.2.1 dL_law_1848 (lv_at hl 4 rfl) ?_
  refine lv_iconst (v := 1) S0.1 S0.2.1 dL_law_1850 (by decide) ?_
  refine l_sld S0 hX hbl hbA hL hw.1.1.2.2.1 (k := 1) rfl (by omega) dL_law_1851 dL_law_1852 ?_
  refine lv_aload_n S0.1 S0.2.1 dL_law_1853 rfl (lv_at hl 0 rfl) ?_
  refine lv_iload S0.1 S0.2.1 dL_law_1854 (lv_at hl 4 rfl) ?_
  refine lv_iconst (v := 2) S0.1 S0.2.1 dL_law_1856 (by decide) ?_
  refine l_sld S0 hX hbl hbA hL hw.1.1.2.2.1 (k := 2) rfl (by omega) dL_law_1857 dL_law_1858 ?_
  refine lv_aload_n S0.1 S0.2.1 dL_law_1859 rfl (lv_at hl 0 rfl) ?_
  refine lv_iload S0.1 S0.2.1 dL_law_1860 (lv_at hl 4 rfl) ?_
  refine lv_iconst (v := 3) S0.1 S0.2.1 dL_law_1862 (by decide) ?_
  refine l_sld S0 hX hbl hbA hL hw.1.1.2.2.1 (k := 3) rfl (by omega) dL_law_1863 dL_law_1864 ?_
  refine l_bool S0 (t := 1872) dL_law_1865 dL_law_1868 dL_law_1869 dL_law_1872 rfl ?_
  refine lv_aload_n S0.1 S0.2.1 dL_law_1873 rfl (lv_at hl 3 rfl) ?_
  refine l_wrap (n := 5) S0 hG hE hNc hAB hok hw (As := [.ref (ad 0 0), .int (xs (8 * n + 1)), .int (xs (8 * n + 2)), .int (if xs (8 * n + 3) = 0 then 0 else 1), .ref o]) (rest := []) (wL_want l hst D Y ad o g s.heap.size e0 F (xs (8 * n + 1)) (xs (8 * n + 2)) (if xs (8 * n + 3) = 0 then 0 else 1) σ) kw_1036 kw_1034 kw_1035 kw_0 ⟨by decide, by decide, by decide +kernel⟩ ⟨Nat.le_of_ble_eq_true rfl, Nat.le_of_ble_eq_true rfl⟩ f1 rfl hl.1 (Nat.le_of_ble_eq_true rfl) dL_law_1874 ⟨show cells + 3 ≤ 601024 by omega, show slots + 18 ≤ 7293034 by omega⟩ rfl (fun ad9 H locs hw1 h00 hok => ?_)
  replace h00 : ad9 0 0 = ad 0 0 := h00
  refine lv_istore (lv' := [(5, .int ((fun e => if e = 0 then 0 else if e = 1 then 1 else if e = 3 then 2 else 0) ex)), (0, .ref b), (1, .ref (ad 0 0)), (2, .ref (am 0 0)), (3, .ref o), (4, .int (nI (8 * n)))]) S0.1 S0.2.1 dL_law_1877 hl (by decide) rfl (fun ls hl => ?_)
  refine lv_aload_n S0.1 S0.2.1 dL_law_1879 rfl (lv_at hl 3 rfl) ?_
  refine lv_aload_n S0.1 S0.2.1 dL_law_1880 rfl (lv_at hl 1 rfl) ?_
  refine lv_iload S0.1 S0.2.1 dL_law_1881 (lv_at hl 5 rfl) ?_
  refine lv_iconst (v := 1) S0.1 S0.2.1 dL_law_1883 (by decide) ?_
  refine l_sld S0 hX hbl hbA hL hw1.1.1.2.2.1 (k := 1) rfl (by omega) dL_law_1884 dL_law_1885 ?_
  refine lv_aload_n S0.1 S0.2.1 dL_law_1886 rfl (lv_at hl 1 rfl) ?_
  refine lv_iload S0.1 S0.2.1 dL_law_1887 (lv_at hl 5 rfl) ?_
  refine lv_iconst (v := 2) S0.1 S0.2.1 dL_law_1889 (by decide) ?_
  refine l_sld S0 hX hbl hbA hL hw1.1.1.2.2.1 (k := 2) rfl (by omega) dL_law_1890 dL_law_1891 ?_
  refine lv_aload_n S0.1 S0.2.1 dL_law_1892 rfl (lv_at hl 1 rfl) ?_
  refine lv_iload S0.1 S0.2.1 dL_law_1893 (lv_at hl 5 rfl) ?_
  refine lv_iconst (v := 3) S0.1 S0.2.1 dL_law_1895 (by decide) ?_
  refine l_sld S0 hX hbl hbA hL hw1.1.1.2.2.1 (k := 3) rfl (by omega) dL_law_1896 dL_law_1897 ?_
  refine l_bool S0 (t := 1905) dL_law_1898 dL_law_1901 dL_law_1902 dL_law_1905 rfl ?_
  refine l_refi S0 hw1 (As := [.int (xs (8 * n + 1)), .int (xs (8 * n + 2)), .int (if xs (8 * n + 3) = 0 then 0 else 1)]) (rest := []) (wX9_want l D Y am F (xs (8 * n + 1)) (xs (8 * n + 2)) (if xs (8 * n + 3) = 0 then 0 else 1) σm) qyX9_want kw_1567 ⟨Nat.le_of_ble_eq_true rfl, Nat.le_of_ble_eq_true rfl⟩ f2 rfl hl.1 (Nat.le_of_ble_eq_true rfl) dL_law_1906 ⟨show cells + 3 ≤ 601024 by omega, show slots + 18 ≤ 7293034 by omega⟩ rfl (fun H locs hw2 => ?_)
  refine lv_istore (lv' := [(6, .int w), (5, .int ((fun e => if e = 0 then 0 else if e = 1 then 1 else if e = 3 then 2 else 0) ex)), (0, .ref b), (1, .ref (ad 0 0)), (2, .ref (am 0 0)), (3, .ref o), (4, .int (nI (8 * n)))]) S0.1 S0.2.1 dL_law_1909 hl (by decide) rfl (fun ls hl => ?_)
  refine lv_aload_n S0.1 S0.2.1 dL_law_1911 rfl (lv_at hl 4 rfl) ?_
  refine l_refi S0 hw2 (As := []) (rest := []) (wX9_thrown l D Y am F σm9) qyX9_thrown kw_1323 ⟨Nat.le_of_ble_eq_true rfl, Nat.le_of_ble_eq_true rfl⟩ f3 rfl hl.1 (Nat.le_of_ble_eq_true rfl) dL_law_1912 ⟨show cells + 3 ≤ 601024 by omega, show slots + 18 ≤ 7293034 by omega⟩ rfl (fun H locs hw3 => ?_)
  refine lv_iload S0.1 S0.2.1 dL_law_1915 (lv_at hl 1 rfl) ?_
  refine lv_icmp_eq (tgt := 1922) S0.1 S0.2.1 dL_law_1917 (by decide) (fun c1 => ?_) (fun c1 => absurd rfl c1)
  refine lv_iload S0.1 S0.2.1 dL_law_1922 (lv_at hl 1 rfl) ?_
  refine lv_if_ne (tgt := 1939) S0.1 S0.2.1 dL_law_1924 (by decide) (fun c2 => ?_) (fun c2 => ?_)
  · refine lv_goto (tgt := 2620) S0.1 S0.2.1 dL_law_1939 (by decide) ?_
    exact next ad9 σ9 σm9 _ _ _ ls _ _ hw3 h00 hok f5 (show cells + 3 ≤ 126 + 20 * (n + 1) + Φ σ9 by omega) (show slots + 18 ≤ 544257 + 130 * (n + 1) + 2 * Φ σ9 by omega) (lv_sub hl [2, 3, 4, 5, 6] rfl)
  · obtain ⟨rfl, rfl⟩ := f4 (Decidable.not_not.mp (fun h => h c2))
    refine lv_aload_n S0.1 S0.2.1 dL_law_1927 rfl (lv_at hl 5 rfl) ?_
    refine lv_iconst (v := 0) S0.1 S0.2.1 dL_law_1928 (by decide) ?_
    refine l_out0 S0 hw3 dL_law_1929 ?_
    refine lv_iload S0.1 S0.2.1 dL_law_1930 (lv_at hl 0 rfl) ?_
    refine lv_i2l (v := v.toInt64) S0.1 S0.2.1 dL_law_1932 rfl ?_
    refine l_lcmp0 S0 (x := v.toInt64) dL_law_1933 ?_
    refine lv_if_eq (tgt := 1939) S0.1 S0.2.1 dL_law_1934 (by decide) (fun c3 => ?_) (fun c3 => absurd rfl c3)
    refine lv_goto (tgt := 2620) S0.1 S0.2.1 dL_law_1939 (by decide) ?_
    exact next ad9 σ9 σm9 _ _ _ ls _ _ hw3 h00 hok f5 (show cells + 3 ≤ 126 + 20 * (n + 1) + Φ σ9 by omega) (show slots + 18 ≤ 544257 + 130 * (n + 1) + 2 * Φ σ9 by omega) (lv_sub hl [2, 3, 4, 5, 6] rfl)
theorem qyX9_has : qY yX9_has RX9 cX9_has 8 (some .int) 2 := ⟨⟨kw_1572, kw_1573, kw_11, kw_1574⟩, rfl, by decide, by decide, by decide +kernel⟩
set_option maxRecDepth 100000 in
set_option maxHeartbeats 4000000 in
theorem wLaw_has {p : Program} {l : Launch} {e : Env} {s : State} {m : MethodId} {below : List Frame} {meth : Method} {c : Code} {Q : State → Prop} {D : va_G} {Y : Nat → ClassId} {am : qAd} {b L : Nat} {xs : Nat → Int32} {x0 o e0 F n : Nat} {I : Nat → qS → qS → Prop} {Φ : qS → Nat} (S0 : CallFix p m c cL_law 7 s #[.ref b] gws "LeasehallLaw") (hst : l.stackTraces = false) (hX : va_X b L xs s s.heap) (hbl : b < s.heap.size) (hL : L ≤ 4096) (hG : qG s.heap.size s s.heap) (hE : qE s.heap.size e0 s s.heap) (hNc : qNc s) (hΦ : ∀ n σ σm, I n σ σm → Φ σ ≤ 90000) (hc : cI_has F I Φ) (hn : 8 * n + 8 ≤ L) (next : lNext p l e s m b below meth c Q D Y am x0 o e0 I Φ n (n + 1) 2620) : lNext p l e s m b below meth c Q D Y am x0 o e0 I Φ n n 1942 := by
  intro ad σ σm g H locs ls cells slots hw h0 hok hI hcl hsl hl
  have hbA : ¬ lA s b := Nat.not_le.mpr hbl
  have hAB : ∀ q, lA s q → s.heap.size ≤ q := fun _ h => h
  have hn5 : n < 512 := by omega
  obtain ⟨v, ex, σ9, w, σm9, f1, f2, f3, f4, f5, f6⟩ := hc n σ σm (xs (8 * n + 1)) (xs (8 * n + 2)) hn5 hI
  have hΦ9 := hΦ _ _ _ f5
  replace f6 : 0 + Φ σ ≤ Φ σ9 := f6
  subst h0
  refine lv_aload_n S0.1 S0.2.1 dL_law_1942 rfl (lv_at hl 1 rfl) ?_
  refine lv_aload_n S0.1 S0.2.1 dL_law_1943 rfl (lv_at hl 0 rfl) ?_
  refine lv_iload S0.1 S0.2.1 dL_law_1944 (lv_at hl 4 rfl) ?_
  refine lv_iconst (v := 1) S0.1 S0.2.1 dL_law_1946 (by decide) ?_
  refine l_sld S0 hX hbl hbA hL hw.1.1.2.2.1 (k := 1) rfl (by omega) dL_law_1947 dL_law_1948 ?_
  refine lv_aload_n S0.1 S0.2.1 dL_law_1949 rfl (lv_at hl 0 rfl) ?_
  refine lv_iload S0.1 S0.2.1 dL_law_1950 (lv_at hl 4 rfl) ?_
  refine lv_iconst (v := 2) S0.1 S0.2.1 dL_law_1952 (by decide) ?_
  refine l_sld S0 hX hbl hbA hL hw.1.1.2.2.1 (k := 2) rfl (by omega) dL_law_1953 dL_law_1954 ?_
  refine lv_aload_n S0.1 S0.2.1 dL_law_1955 rfl (lv_at hl 3 rfl) ?_
  refine l_wrap (n := 4) S0 hG hE hNc hAB hok hw (As := [.ref (ad 0 0), .int (xs (8 * n + 1)), .int (xs (8 * n + 2)), .ref o]) (rest := []) (wL_has l hst D Y ad o g s.heap.size e0 F (xs (8 * n + 1)) (xs (8 * n + 2)) σ) kw_1043 kw_1041 kw_1042 kw_0 ⟨by decide, by decide, by decide +kernel⟩ ⟨Nat.le_of_ble_eq_true rfl, Nat.le_of_ble_eq_true rfl⟩ f1 rfl hl.1 (Nat.le_of_ble_eq_true rfl) dL_law_1956 ⟨show cells + 2 ≤ 601024 by omega, show slots + 12 ≤ 7293034 by omega⟩ rfl (fun ad9 H locs hw1 h00 hok => ?_)
  replace h00 : ad9 0 0 = ad 0 0 := h00
  refine lv_istore (lv' := [(5, .int ((fun e => if e = 0 then 0 else if e = 1 then 1 else if e = 3 then 2 else 0) ex)), (0, .ref b), (1, .ref (ad 0 0)), (2, .ref (am 0 0)), (3, .ref o), (4, .int (nI (8 * n)))]) S0.1 S0.2.1 dL_law_1959 hl (by decide) rfl (fun ls hl => ?_)
  refine lv_aload_n S0.1 S0.2.1 dL_law_1961 rfl (lv_at hl 3 rfl) ?_
  refine lv_aload_n S0.1 S0.2.1 dL_law_1962 rfl (lv_at hl 1 rfl) ?_
  refine lv_iload S0.1 S0.2.1 dL_law_1963 (lv_at hl 5 rfl) ?_
  refine lv_iconst (v := 1) S0.1 S0.2.1 dL_law_1965 (by decide) ?_
  refine l_sld S0 hX hbl hbA hL hw1.1.1.2.2.1 (k := 1) rfl (by omega) dL_law_1966 dL_law_1967 ?_
  refine lv_aload_n S0.1 S0.2.1 dL_law_1968 rfl (lv_at hl 1 rfl) ?_
  refine lv_iload S0.1 S0.2.1 dL_law_1969 (lv_at hl 5 rfl) ?_
  refine lv_iconst (v := 2) S0.1 S0.2.1 dL_law_1971 (by decide) ?_
  refine l_sld S0 hX hbl hbA hL hw1.1.1.2.2.1 (k := 2) rfl (by omega) dL_law_1972 dL_law_1973 ?_
  refine l_refi S0 hw1 (As := [.int (xs (8 * n + 1)), .int (xs (8 * n + 2))]) (rest := []) (wX9_has l D Y am F (xs (8 * n + 1)) (xs (8 * n + 2)) σm) qyX9_has kw_1571 ⟨Nat.le_of_ble_eq_true rfl, Nat.le_of_ble_eq_true rfl⟩ f2 rfl hl.1 (Nat.le_of_ble_eq_true rfl) dL_law_1974 ⟨show cells + 2 ≤ 601024 by omega, show slots + 12 ≤ 7293034 by omega⟩ rfl (fun H locs hw2 => ?_)
  refine lv_istore (lv' := [(6, .int w), (5, .int ((fun e => if e = 0 then 0 else if e = 1 then 1 else if e = 3 then 2 else 0) ex)), (0, .ref b), (1, .ref (ad 0 0)), (2, .ref (am 0 0)), (3, .ref o), (4, .int (nI (8 * n)))]) S0.1 S0.2.1 dL_law_1977 hl (by decide) rfl (fun ls hl => ?_)
  refine lv_aload_n S0.1 S0.2.1 dL_law_1979 rfl (lv_at hl 4 rfl) ?_
  refine l_refi S0 hw2 (As := []) (rest := []) (wX9_thrown l D Y am F σm9) qyX9_thrown kw_1323 ⟨Nat.le_of_ble_eq_true rfl, Nat.le_of_ble_eq_true rfl⟩ f3 rfl hl.1 (Nat.le_of_ble_eq_true rfl) dL_law_1980 ⟨show cells + 2 ≤ 601024 by omega, show slots + 12 ≤ 7293034 by omega⟩ rfl (fun H locs hw3 => ?_)
  refine lv_iload S0.1 S0.2.1 dL_law_1983 (lv_at hl 1 rfl) ?_
  refine lv_icmp_eq (tgt := 1990) S0.1 S0.2.1 dL_law_1985 (by decide) (fun c1 => ?_) (fun c1 => absurd rfl c1)
  refine lv_iload S0.1 S0.2.1 dL_law_1990 (lv_at hl 1 rfl) ?_
  refine lv_if_ne (tgt := 2007) S0.1 S0.2.1 dL_law_1992 (by decide) (fun c2 => ?_) (fun c2 => ?_)
  · refine lv_goto (tgt := 2620) S0.1 S0.2.1 dL_law_2007 (by decide) ?_
    exact next ad9 σ9 σm9 _ _ _ ls _ _ hw3 h00 hok f5 (show cells + 2 ≤ 126 + 20 * (n + 1) + Φ σ9 by omega) (show slots + 12 ≤ 544257 + 130 * (n + 1) + 2 * Φ σ9 by omega) (lv_sub hl [2, 3, 4, 5, 6] rfl)
  · obtain ⟨rfl, rfl⟩ := f4 (Decidable.not_not.mp (fun h => h c2))
    refine lv_aload_n S0.1 S0.2.1 dL_law_1995 rfl (lv_at hl 5 rfl) ?_
    refine lv_iconst (v := 0) S0.1 S0.2.1 dL_law_1996 (by decide) ?_
    refine l_out0 S0 hw3 dL_law_1997 ?_
    refine lv_iload S0.1 S0.2.1 dL_law_1998 (lv_at hl 0 rfl) ?_
    refine lv_i2l (v := v.toInt64) S0.1 S0.2.1 dL_law_2000 rfl ?_
    refine l_lcmp0 S0 (x := v.toInt64) dL_law_2001 ?_
    refine lv_if_eq (tgt := 2007) S0.1 S0.2.1 dL_law_2002 (by decide) (fun c3 => ?_) (fun c3 => absurd rfl c3)
    refine lv_goto (tgt := 2620) S0.1 S0.2.1 dL_law_2007 (by decide) ?_
    exact next ad9 σ9 σm9 _ _ _ ls _ _ hw3 h00 hok f5 (show cells + 2 ≤ 126 + 20 * (n + 1) + Φ σ9 by omega) (show slots + 12 ≤ 544257 + 130 * (n + 1) + 2 * Φ σ9 by omega) (lv_sub hl [2, 3, 4, 5, 6] rfl)
theorem qyX9_giveUp : qY yX9_giveUp RX9 cX9_giveUp 5 (some .int) 2 := ⟨⟨kw_1576, kw_1577, kw_11, kw_1578⟩, rfl, by decide, by decide, by decide +kernel⟩
set_option maxRecDepth 100000 in
set_option maxHeartbeats 4000000 in
theorem wLaw_giveUp {p : Program} {l : Launch} {e : Env} {s : State} {m : MethodId} {below : List Frame} {meth : Method} {c : Code} {Q : State → Prop} {D : va_G} {Y : Nat → ClassId} {am : qAd} {b L : Nat} {xs : Nat → Int32} {x0 o e0 F n : Nat} {I : Nat → qS → qS → Prop} {Φ : qS → Nat} (S0 : CallFix p m c cL_law 7 s #[.ref b] gws "LeasehallLaw") (hst : l.stackTraces = false) (hX : va_X b L xs s s.heap) (hbl : b < s.heap.size) (hL : L ≤ 4096) (hG : qG s.heap.size s s.heap) (hE : qE s.heap.size e0 s s.heap) (hNc : qNc s) (hΦ : ∀ n σ σm, I n σ σm → Φ σ ≤ 90000) (hc : cI_giveUp F I Φ) (hn : 8 * n + 8 ≤ L) (next : lNext p l e s m b below meth c Q D Y am x0 o e0 I Φ n (n + 1) 2620) : lNext p l e s m b below meth c Q D Y am x0 o e0 I Φ n n 2010 := by
  intro ad σ σm g H locs ls cells slots hw h0 hok hI hcl hsl hl
  have hbA : ¬ lA s b := Nat.not_le.mpr hbl
  have hAB : ∀ q, lA s q → s.heap.size ≤ q := fun _ h => h
  have hn5 : n < 512 := by omega
  obtain ⟨v, ex, σ9, w, σm9, f1, f2, f3, f4, f5, f6⟩ := hc n σ σm (xs (8 * n + 1)) (xs (8 * n + 2)) hn5 hI
  have hΦ9 := hΦ _ _ _ f5
  replace f6 : 0 + Φ σ ≤ Φ σ9 := f6
  subst h0
  refine lv_aload_n S0.1 S0.2.1 dL_law_2010 rfl (lv_at hl 1 rfl) ?_
  refine lv_aload_n S0.1 S0.2.1 dL_law_2011 rfl (lv_at hl 0 rfl) ?_
  refine lv_iload S0.1 S0.2.1 dL_law_2012 (lv_at hl 4 rfl) ?_
  refine lv_iconst (v := 1) S0.1 S0.2.1 dL_law_2014 (by decide) ?_
  refine l_sld S0 hX hbl hbA hL hw.1.1.2.2.1 (k := 1) rfl (by omega) dL_law_2015 dL_law_2016 ?_
  refine lv_aload_n S0.1 S0.2.1 dL_law_2017 rfl (lv_at hl 0 rfl) ?_
  refine lv_iload S0.1 S0.2.1 dL_law_2018 (lv_at hl 4 rfl) ?_
  refine lv_iconst (v := 2) S0.1 S0.2.1 dL_law_2020 (by decide) ?_
  refine l_sld S0 hX hbl hbA hL hw.1.1.2.2.1 (k := 2) rfl (by omega) dL_law_2021 dL_law_2022 ?_
  refine lv_aload_n S0.1 S0.2.1 dL_law_2023 rfl (lv_at hl 3 rfl) ?_
  refine l_wrap (n := 4) S0 hG hE hNc hAB hok hw (As := [.ref (ad 0 0), .int (xs (8 * n + 1)), .int (xs (8 * n + 2)), .ref o]) (rest := []) (wL_giveUp l hst D Y ad o g s.heap.size e0 F (xs (8 * n + 1)) (xs (8 * n + 2)) σ) kw_1062 kw_1060 kw_1061 kw_0 ⟨by decide, by decide, by decide +kernel⟩ ⟨Nat.le_of_ble_eq_true rfl, Nat.le_of_ble_eq_true rfl⟩ f1 rfl hl.1 (Nat.le_of_ble_eq_true rfl) dL_law_2024 ⟨show cells + 2 ≤ 601024 by omega, show slots + 12 ≤ 7293034 by omega⟩ rfl (fun ad9 H locs hw1 h00 hok => ?_)
  replace h00 : ad9 0 0 = ad 0 0 := h00
  refine lv_istore (lv' := [(5, .int ((fun e => if e = 0 then 0 else if e = 1 then 1 else if e = 3 then 2 else 0) ex)), (0, .ref b), (1, .ref (ad 0 0)), (2, .ref (am 0 0)), (3, .ref o), (4, .int (nI (8 * n)))]) S0.1 S0.2.1 dL_law_2027 hl (by decide) rfl (fun ls hl => ?_)
  refine lv_aload_n S0.1 S0.2.1 dL_law_2029 rfl (lv_at hl 3 rfl) ?_
  refine lv_aload_n S0.1 S0.2.1 dL_law_2030 rfl (lv_at hl 1 rfl) ?_
  refine lv_iload S0.1 S0.2.1 dL_law_2031 (lv_at hl 5 rfl) ?_
  refine lv_iconst (v := 1) S0.1 S0.2.1 dL_law_2033 (by decide) ?_
  refine l_sld S0 hX hbl hbA hL hw1.1.1.2.2.1 (k := 1) rfl (by omega) dL_law_2034 dL_law_2035 ?_
  refine lv_aload_n S0.1 S0.2.1 dL_law_2036 rfl (lv_at hl 1 rfl) ?_
  refine lv_iload S0.1 S0.2.1 dL_law_2037 (lv_at hl 5 rfl) ?_
  refine lv_iconst (v := 2) S0.1 S0.2.1 dL_law_2039 (by decide) ?_
  refine l_sld S0 hX hbl hbA hL hw1.1.1.2.2.1 (k := 2) rfl (by omega) dL_law_2040 dL_law_2041 ?_
  refine l_refi S0 hw1 (As := [.int (xs (8 * n + 1)), .int (xs (8 * n + 2))]) (rest := []) (wX9_giveUp l D Y am F (xs (8 * n + 1)) (xs (8 * n + 2)) σm) qyX9_giveUp kw_1575 ⟨Nat.le_of_ble_eq_true rfl, Nat.le_of_ble_eq_true rfl⟩ f2 rfl hl.1 (Nat.le_of_ble_eq_true rfl) dL_law_2042 ⟨show cells + 2 ≤ 601024 by omega, show slots + 12 ≤ 7293034 by omega⟩ rfl (fun H locs hw2 => ?_)
  refine lv_istore (lv' := [(6, .int w), (5, .int ((fun e => if e = 0 then 0 else if e = 1 then 1 else if e = 3 then 2 else 0) ex)), (0, .ref b), (1, .ref (ad 0 0)), (2, .ref (am 0 0)), (3, .ref o), (4, .int (nI (8 * n)))]) S0.1 S0.2.1 dL_law_2045 hl (by decide) rfl (fun ls hl => ?_)
  refine lv_aload_n S0.1 S0.2.1 dL_law_2047 rfl (lv_at hl 4 rfl) ?_
  refine l_refi S0 hw2 (As := []) (rest := []) (wX9_thrown l D Y am F σm9) qyX9_thrown kw_1323 ⟨Nat.le_of_ble_eq_true rfl, Nat.le_of_ble_eq_true rfl⟩ f3 rfl hl.1 (Nat.le_of_ble_eq_true rfl) dL_law_2048 ⟨show cells + 2 ≤ 601024 by omega, show slots + 12 ≤ 7293034 by omega⟩ rfl (fun H locs hw3 => ?_)
  refine lv_iload S0.1 S0.2.1 dL_law_2051 (lv_at hl 1 rfl) ?_
  refine lv_icmp_eq (tgt := 2058) S0.1 S0.2.1 dL_law_2053 (by decide) (fun c1 => ?_) (fun c1 => absurd rfl c1)
  refine lv_iload S0.1 S0.2.1 dL_law_2058 (lv_at hl 1 rfl) ?_
  refine lv_if_ne (tgt := 2075) S0.1 S0.2.1 dL_law_2060 (by decide) (fun c2 => ?_) (fun c2 => ?_)
  · refine lv_goto (tgt := 2620) S0.1 S0.2.1 dL_law_2075 (by decide) ?_
    exact next ad9 σ9 σm9 _ _ _ ls _ _ hw3 h00 hok f5 (show cells + 2 ≤ 126 + 20 * (n + 1) + Φ σ9 by omega) (show slots + 12 ≤ 544257 + 130 * (n + 1) + 2 * Φ σ9 by omega) (lv_sub hl [2, 3, 4, 5, 6] rfl)
  · obtain ⟨rfl, rfl⟩ := f4 (Decidable.not_not.mp (fun h => h c2))
    refine lv_aload_n S0.1 S0.2.1 dL_law_2063 rfl (lv_at hl 5 rfl) ?_
    refine lv_iconst (v := 0) S0.1 S0.2.1 dL_law_2064 (by decide) ?_
    refine l_out0 S0 hw3 dL_law_2065 ?_
    refine lv_iload S0.1 S0.2.1 dL_law_2066 (lv_at hl 0 rfl) ?_
    refine lv_i2l (v := v.toInt64) S0.1 S0.2.1 dL_law_2068 rfl ?_
    refine l_lcmp0 S0 (x := v.toInt64) dL_law_2069 ?_
    refine lv_if_eq (tgt := 2075) S0.1 S0.2.1 dL_law_2070 (by decide) (fun c3 => ?_) (fun c3 => absurd rfl c3)
    refine lv_goto (tgt := 2620) S0.1 S0.2.1 dL_law_2075 (by decide) ?_
    exact next ad9 σ9 σm9 _ _ _ ls _ _ hw3 h00 hok f5 (show cells + 2 ≤ 126 + 20 * (n + 1) + Φ σ9 by omega) (show slots + 12 ≤ 544257 + 130 * (n + 1) + 2 * Φ σ9 by omega) (lv_sub hl [2, 3, 4, 5, 6] rfl)
theorem qyX9_believers : qY yX9_believers RX9 cX9_believers 4 (some .int) 1 := ⟨⟨kw_1580, kw_1581, kw_11, kw_1582⟩, rfl, by decide, by decide, by decide +kernel⟩
theorem qyX8_believers : qY yX8_believers RX8 cX8_believers 2 (some .int) 1 := ⟨⟨kw_293, kw_294, kw_1, kw_295⟩, rfl, by decide, by decide, by decide +kernel⟩
set_option maxRecDepth 100000 in
set_option maxHeartbeats 4000000 in
theorem wLaw_believers {p : Program} {l : Launch} {e : Env} {s : State} {m : MethodId} {below : List Frame} {meth : Method} {c : Code} {Q : State → Prop} {D : va_G} {Y : Nat → ClassId} {am : qAd} {b L : Nat} {xs : Nat → Int32} {x0 o e0 F n : Nat} {I : Nat → qS → qS → Prop} {Φ : qS → Nat} (S0 : CallFix p m c cL_law 7 s #[.ref b] gws "LeasehallLaw") (hst : l.stackTraces = false) (hX : va_X b L xs s s.heap) (hbl : b < s.heap.size) (hL : L ≤ 4096) (hG : qG s.heap.size s s.heap) (hE : qE s.heap.size e0 s s.heap) (hNc : qNc s) (hΦ : ∀ n σ σm, I n σ σm → Φ σ ≤ 90000) (hc : cI_believers F I Φ) (hn : 8 * n + 8 ≤ L) (next : lNext p l e s m b below meth c Q D Y am x0 o e0 I Φ n (n + 1) 2620) : lNext p l e s m b below meth c Q D Y am x0 o e0 I Φ n n 2078 := by
  intro ad σ σm g H locs ls cells slots hw h0 hok hI hcl hsl hl
  have hbA : ¬ lA s b := Nat.not_le.mpr hbl
  have hAB : ∀ q, lA s q → s.heap.size ≤ q := fun _ h => h
  have hn5 : n < 512 := by omega
  obtain ⟨v, σ9, σm9, f1, f2, f5, f6⟩ := hc n σ σm (xs (8 * n + 1)) hn5 hI
  have hΦ9 := hΦ _ _ _ f5
  subst h0
  refine lv_aload_n S0.1 S0.2.1 dL_law_2078 rfl (lv_at hl 1 rfl) ?_
  refine lv_aload_n S0.1 S0.2.1 dL_law_2079 rfl (lv_at hl 0 rfl) ?_
  refine lv_iload S0.1 S0.2.1 dL_law_2080 (lv_at hl 4 rfl) ?_
  refine lv_iconst (v := 1) S0.1 S0.2.1 dL_law_2082 (by decide) ?_
  refine l_sld S0 hX hbl hbA hL hw.1.1.2.2.1 (k := 1) rfl (by omega) dL_law_2083 dL_law_2084 ?_
  refine l_clsi S0 hw (As := [.int (xs (8 * n + 1))]) (rest := []) (wX8_believers l D Y ad F (xs (8 * n + 1)) σ) qyX8_believers kw_292 ⟨Nat.le_of_ble_eq_true rfl, Nat.le_of_ble_eq_true rfl⟩ f1 rfl hl.1 (Nat.le_of_ble_eq_true rfl) dL_law_2085 ⟨show cells ≤ 601024 by omega, show slots ≤ 7293034 by omega⟩ rfl (fun H locs hw1 => ?_)
  refine lv_aload_n S0.1 S0.2.1 dL_law_2088 rfl (lv_at hl 2 rfl) ?_
  refine lv_aload_n S0.1 S0.2.1 dL_law_2089 rfl (lv_at hl 0 rfl) ?_
  refine lv_iload S0.1 S0.2.1 dL_law_2090 (lv_at hl 4 rfl) ?_
  refine lv_iconst (v := 1) S0.1 S0.2.1 dL_law_2092 (by decide) ?_
  refine l_sld S0 hX hbl hbA hL hw1.1.1.2.2.1 (k := 1) rfl (by omega) dL_law_2093 dL_law_2094 ?_
  refine l_refi S0 hw1 (As := [.int (xs (8 * n + 1))]) (rest := [.int v]) (wX9_believers l D Y am F (xs (8 * n + 1)) σm) qyX9_believers kw_1579 ⟨Nat.le_of_ble_eq_true rfl, Nat.le_of_ble_eq_true rfl⟩ f2 rfl hl.1 (Nat.le_of_ble_eq_true rfl) dL_law_2095 ⟨show cells ≤ 601024 by omega, show slots ≤ 7293034 by omega⟩ rfl (fun H locs hw2 => ?_)
  refine lv_icmp_eq (tgt := 2620) S0.1 S0.2.1 dL_law_2098 (by decide) (fun c1 => ?_) (fun c1 => absurd rfl c1)
  exact next ad σ9 σm9 g _ _ ls cells slots hw2 rfl (hok.same (gn_fX8_believers f1)) f5 (by omega) (by omega) (lv_sub hl [0, 1, 2, 3, 4] rfl)
theorem qyX9_isOpen : qY yX9_isOpen RX9 cX9_isOpen 4 (some .boolean) 3 := ⟨⟨kw_1584, kw_1585, kw_11, kw_1586⟩, rfl, by decide, by decide, by decide +kernel⟩
set_option maxRecDepth 100000 in
set_option maxHeartbeats 4000000 in
theorem wLaw_isOpen {p : Program} {l : Launch} {e : Env} {s : State} {m : MethodId} {below : List Frame} {meth : Method} {c : Code} {Q : State → Prop} {D : va_G} {Y : Nat → ClassId} {am : qAd} {b L : Nat} {xs : Nat → Int32} {x0 o e0 F n : Nat} {I : Nat → qS → qS → Prop} {Φ : qS → Nat} (S0 : CallFix p m c cL_law 7 s #[.ref b] gws "LeasehallLaw") (hst : l.stackTraces = false) (hX : va_X b L xs s s.heap) (hbl : b < s.heap.size) (hL : L ≤ 4096) (hG : qG s.heap.size s s.heap) (hE : qE s.heap.size e0 s s.heap) (hNc : qNc s) (hΦ : ∀ n σ σm, I n σ σm → Φ σ ≤ 90000) (hc : cI_isOpen F I Φ) (hn : 8 * n + 8 ≤ L) (next : lNext p l e s m b below meth c Q D Y am x0 o e0 I Φ n (n + 1) 2620) : lNext p l e s m b below meth c Q D Y am x0 o e0 I Φ n n 2103 := by
  intro ad σ σm g H locs ls cells slots hw h0 hok hI hcl hsl hl
  have hbA : ¬ lA s b := Nat.not_le.mpr hbl
  have hAB : ∀ q, lA s q → s.heap.size ≤ q := fun _ h => h
  have hn5 : n < 512 := by omega
  obtain ⟨v, ex, σ9, w, σm9, f1, f2, f3, f4, f5, f6⟩ := hc n σ σm (xs (8 * n + 1)) (xs (8 * n + 2)) (xs (8 * n + 3)) hn5 hI
  have hΦ9 := hΦ _ _ _ f5
  replace f6 : 0 + Φ σ ≤ Φ σ9 := f6
  subst h0
  refine lv_aload_n S0.1 S0.2.1 dL_law_2103 rfl (lv_at hl 1 rfl) ?_
  refine lv_aload_n S0.1 S0.2.1 dL_law_2104 rfl (lv_at hl 0 rfl) ?_
  refine lv_iload S0.1 S0.2.1 dL_law_2105 (lv_at hl 4 rfl) ?_
  refine lv_iconst (v := 1) S0.1 S0.2.1 dL_law_2107 (by decide) ?_
  refine l_sld S0 hX hbl hbA hL hw.1.1.2.2.1 (k := 1) rfl (by omega) dL_law_2108 dL_law_2109 ?_
  refine lv_aload_n S0.1 S0.2.1 dL_law_2110 rfl (lv_at hl 0 rfl) ?_
  refine lv_iload S0.1 S0.2.1 dL_law_2111 (lv_at hl 4 rfl) ?_
  refine lv_iconst (v := 2) S0.1 S0.2.1 dL_law_2113 (by decide) ?_
  refine l_sld S0 hX hbl hbA hL hw.1.1.2.2.1 (k := 2) rfl (by omega) dL_law_2114 dL_law_2115 ?_
  refine lv_aload_n S0.1 S0.2.1 dL_law_2116 rfl (lv_at hl 0 rfl) ?_
  refine lv_iload S0.1 S0.2.1 dL_law_2117 (lv_at hl 4 rfl) ?_
  refine lv_iconst (v := 3) S0.1 S0.2.1 dL_law_2119 (by decide) ?_
  refine l_sld S0 hX hbl hbA hL hw.1.1.2.2.1 (k := 3) rfl (by omega) dL_law_2120 dL_law_2121 ?_
  refine lv_aload_n S0.1 S0.2.1 dL_law_2122 rfl (lv_at hl 3 rfl) ?_
  refine l_wrap (n := 5) S0 hG hE hNc hAB hok hw (As := [.ref (ad 0 0), .int (xs (8 * n + 1)), .int (xs (8 * n + 2)), .int (xs (8 * n + 3)), .ref o]) (rest := []) (wL_isOpen l hst D Y ad o g s.heap.size e0 F (xs (8 * n + 1)) (xs (8 * n + 2)) (xs (8 * n + 3)) σ) kw_1070 kw_1068 kw_1069 kw_0 ⟨by decide, by decide, by decide +kernel⟩ ⟨Nat.le_of_ble_eq_true rfl, Nat.le_of_ble_eq_true rfl⟩ f1 rfl hl.1 (Nat.le_of_ble_eq_true rfl) dL_law_2123 ⟨show cells + 2 ≤ 601024 by omega, show slots + 12 ≤ 7293034 by omega⟩ rfl (fun ad9 H locs hw1 h00 hok => ?_)
  replace h00 : ad9 0 0 = ad 0 0 := h00
  refine lv_istore (lv' := [(5, .int ((fun e => if e = 0 then 0 else if e = 1 then 1 else if e = 2 then 2 else if e = 3 then 3 else 0) ex)), (0, .ref b), (1, .ref (ad 0 0)), (2, .ref (am 0 0)), (3, .ref o), (4, .int (nI (8 * n)))]) S0.1 S0.2.1 dL_law_2126 hl (by decide) rfl (fun ls hl => ?_)
  refine lv_aload_n S0.1 S0.2.1 dL_law_2128 rfl (lv_at hl 3 rfl) ?_
  refine lv_aload_n S0.1 S0.2.1 dL_law_2129 rfl (lv_at hl 1 rfl) ?_
  refine lv_iload S0.1 S0.2.1 dL_law_2130 (lv_at hl 5 rfl) ?_
  refine lv_iconst (v := 1) S0.1 S0.2.1 dL_law_2132 (by decide) ?_
  refine l_sld S0 hX hbl hbA hL hw1.1.1.2.2.1 (k := 1) rfl (by omega) dL_law_2133 dL_law_2134 ?_
  refine lv_aload_n S0.1 S0.2.1 dL_law_2135 rfl (lv_at hl 1 rfl) ?_
  refine lv_iload S0.1 S0.2.1 dL_law_2136 (lv_at hl 5 rfl) ?_
  refine lv_iconst (v := 2) S0.1 S0.2.1 dL_law_2138 (by decide) ?_
  refine l_sld S0 hX hbl hbA hL hw1.1.1.2.2.1 (k := 2) rfl (by omega) dL_law_2139 dL_law_2140 ?_
  refine lv_aload_n S0.1 S0.2.1 dL_law_2141 rfl (lv_at hl 1 rfl) ?_
  refine lv_iload S0.1 S0.2.1 dL_law_2142 (lv_at hl 5 rfl) ?_
  refine lv_iconst (v := 3) S0.1 S0.2.1 dL_law_2144 (by decide) ?_
  refine l_sld S0 hX hbl hbA hL hw1.1.1.2.2.1 (k := 3) rfl (by omega) dL_law_2145 dL_law_2146 ?_
  refine l_refi S0 hw1 (As := [.int (xs (8 * n + 1)), .int (xs (8 * n + 2)), .int (xs (8 * n + 3))]) (rest := []) (wX9_isOpen l D Y am F (xs (8 * n + 1)) (xs (8 * n + 2)) (xs (8 * n + 3)) σm) qyX9_isOpen kw_1583 ⟨Nat.le_of_ble_eq_true rfl, Nat.le_of_ble_eq_true rfl⟩ f2 rfl hl.1 (Nat.le_of_ble_eq_true rfl) dL_law_2147 ⟨show cells + 2 ≤ 601024 by omega, show slots + 12 ≤ 7293034 by omega⟩ rfl (fun H locs hw2 => ?_)
  refine lv_istore (lv' := [(6, .int w), (5, .int ((fun e => if e = 0 then 0 else if e = 1 then 1 else if e = 2 then 2 else if e = 3 then 3 else 0) ex)), (0, .ref b), (1, .ref (ad 0 0)), (2, .ref (am 0 0)), (3, .ref o), (4, .int (nI (8 * n)))]) S0.1 S0.2.1 dL_law_2150 hl (by decide) rfl (fun ls hl => ?_)
  refine lv_aload_n S0.1 S0.2.1 dL_law_2152 rfl (lv_at hl 4 rfl) ?_
  refine l_refi S0 hw2 (As := []) (rest := []) (wX9_thrown l D Y am F σm9) qyX9_thrown kw_1323 ⟨Nat.le_of_ble_eq_true rfl, Nat.le_of_ble_eq_true rfl⟩ f3 rfl hl.1 (Nat.le_of_ble_eq_true rfl) dL_law_2153 ⟨show cells + 2 ≤ 601024 by omega, show slots + 12 ≤ 7293034 by omega⟩ rfl (fun H locs hw3 => ?_)
  refine lv_iload S0.1 S0.2.1 dL_law_2156 (lv_at hl 1 rfl) ?_
  refine lv_icmp_eq (tgt := 2163) S0.1 S0.2.1 dL_law_2158 (by decide) (fun c1 => ?_) (fun c1 => absurd rfl c1)
  refine lv_iload S0.1 S0.2.1 dL_law_2163 (lv_at hl 1 rfl) ?_
  refine lv_if_ne (tgt := 2187) S0.1 S0.2.1 dL_law_2165 (by decide) (fun c2 => ?_) (fun c2 => ?_)
  · refine lv_goto (tgt := 2620) S0.1 S0.2.1 dL_law_2187 (by decide) ?_
    exact next ad9 σ9 σm9 _ _ _ ls _ _ hw3 h00 hok f5 (show cells + 2 ≤ 126 + 20 * (n + 1) + Φ σ9 by omega) (show slots + 12 ≤ 544257 + 130 * (n + 1) + 2 * Φ σ9 by omega) (lv_sub hl [2, 3, 4, 5, 6] rfl)
  · obtain ⟨rfl, rfl⟩ := f4 (Decidable.not_not.mp (fun h => h c2))
    refine lv_aload_n S0.1 S0.2.1 dL_law_2168 rfl (lv_at hl 5 rfl) ?_
    refine lv_iconst (v := 0) S0.1 S0.2.1 dL_law_2169 (by decide) ?_
    refine l_out0 S0 hw3 dL_law_2170 ?_
    refine lv_iload S0.1 S0.2.1 dL_law_2171 (lv_at hl 0 rfl) ?_
    refine l_boolL S0 (t := 2180) dL_law_2173 dL_law_2176 dL_law_2177 dL_law_2180 rfl ?_
    refine l_lcmp0 S0 (x := (if v = 0 then 0 else 1)) dL_law_2181 ?_
    refine lv_if_eq (tgt := 2187) S0.1 S0.2.1 dL_law_2182 (by decide) (fun c3 => ?_) (fun c3 => absurd rfl c3)
    refine lv_goto (tgt := 2620) S0.1 S0.2.1 dL_law_2187 (by decide) ?_
    exact next ad9 σ9 σm9 _ _ _ ls _ _ hw3 h00 hok f5 (show cells + 2 ≤ 126 + 20 * (n + 1) + Φ σ9 by omega) (show slots + 12 ≤ 544257 + 130 * (n + 1) + 2 * Φ σ9 by omega) (lv_sub hl [2, 3, 4, 5, 6] rfl)
theorem qyX9_takeFirst : qY yX9_takeFirst RX9 cX9_takeFirst 6 (some .int) 2 := ⟨⟨kw_1588, kw_1589, kw_11, kw_1590⟩, rfl, by decide, by decide, by decide +kernel⟩
set_option maxRecDepth 100000 in
set_option maxHeartbeats 4000000 in
theorem wLaw_takeFirst {p : Program} {l : Launch} {e : Env} {s : State} {m : MethodId} {below : List Frame} {meth : Method} {c : Code} {Q : State → Prop} {D : va_G} {Y : Nat → ClassId} {am : qAd} {b L : Nat} {xs : Nat → Int32} {x0 o e0 F n : Nat} {I : Nat → qS → qS → Prop} {Φ : qS → Nat} (S0 : CallFix p m c cL_law 7 s #[.ref b] gws "LeasehallLaw") (hst : l.stackTraces = false) (hX : va_X b L xs s s.heap) (hbl : b < s.heap.size) (hL : L ≤ 4096) (hG : qG s.heap.size s s.heap) (hE : qE s.heap.size e0 s s.heap) (hNc : qNc s) (hΦ : ∀ n σ σm, I n σ σm → Φ σ ≤ 90000) (hc : cI_takeFirst F I Φ) (hn : 8 * n + 8 ≤ L) (next : lNext p l e s m b below meth c Q D Y am x0 o e0 I Φ n (n + 1) 2620) : lNext p l e s m b below meth c Q D Y am x0 o e0 I Φ n n 2190 := by
  intro ad σ σm g H locs ls cells slots hw h0 hok hI hcl hsl hl
  have hbA : ¬ lA s b := Nat.not_le.mpr hbl
  have hAB : ∀ q, lA s q → s.heap.size ≤ q := fun _ h => h
  have hn5 : n < 512 := by omega
  obtain ⟨v, ex, σ9, w, σm9, f1, f2, f3, f4, f5, f6⟩ := hc n σ σm (xs (8 * n + 1)) (xs (8 * n + 2)) hn5 hI
  have hΦ9 := hΦ _ _ _ f5
  replace f6 : 0 + Φ σ ≤ Φ σ9 := f6
  subst h0
  refine lv_aload_n S0.1 S0.2.1 dL_law_2190 rfl (lv_at hl 1 rfl) ?_
  refine lv_aload_n S0.1 S0.2.1 dL_law_2191 rfl (lv_at hl 0 rfl) ?_
  refine lv_iload S0.1 S0.2.1 dL_law_2192 (lv_at hl 4 rfl) ?_
  refine lv_iconst (v := 1) S0.1 S0.2.1 dL_law_2194 (by decide) ?_
  refine l_sld S0 hX hbl hbA hL hw.1.1.2.2.1 (k := 1) rfl (by omega) dL_law_2195 dL_law_2196 ?_
  refine lv_aload_n S0.1 S0.2.1 dL_law_2197 rfl (lv_at hl 0 rfl) ?_
  refine lv_iload S0.1 S0.2.1 dL_law_2198 (lv_at hl 4 rfl) ?_
  refine lv_iconst (v := 2) S0.1 S0.2.1 dL_law_2200 (by decide) ?_
  refine l_sld S0 hX hbl hbA hL hw.1.1.2.2.1 (k := 2) rfl (by omega) dL_law_2201 dL_law_2202 ?_
  refine lv_aload_n S0.1 S0.2.1 dL_law_2203 rfl (lv_at hl 3 rfl) ?_
  refine l_wrap (n := 4) S0 hG hE hNc hAB hok hw (As := [.ref (ad 0 0), .int (xs (8 * n + 1)), .int (xs (8 * n + 2)), .ref o]) (rest := []) (wL_takeFirst l hst D Y ad o g s.heap.size e0 F (xs (8 * n + 1)) (xs (8 * n + 2)) σ) kw_1078 kw_1076 kw_1077 kw_0 ⟨by decide, by decide, by decide +kernel⟩ ⟨Nat.le_of_ble_eq_true rfl, Nat.le_of_ble_eq_true rfl⟩ f1 rfl hl.1 (Nat.le_of_ble_eq_true rfl) dL_law_2204 ⟨show cells + 3 ≤ 601024 by omega, show slots + 18 ≤ 7293034 by omega⟩ rfl (fun ad9 H locs hw1 h00 hok => ?_)
  replace h00 : ad9 0 0 = ad 0 0 := h00
  refine lv_istore (lv' := [(5, .int ((fun e => if e = 0 then 0 else if e = 1 then 1 else if e = 3 then 2 else 0) ex)), (0, .ref b), (1, .ref (ad 0 0)), (2, .ref (am 0 0)), (3, .ref o), (4, .int (nI (8 * n)))]) S0.1 S0.2.1 dL_law_2207 hl (by decide) rfl (fun ls hl => ?_)
  refine lv_aload_n S0.1 S0.2.1 dL_law_2209 rfl (lv_at hl 3 rfl) ?_
  refine lv_aload_n S0.1 S0.2.1 dL_law_2210 rfl (lv_at hl 1 rfl) ?_
  refine lv_iload S0.1 S0.2.1 dL_law_2211 (lv_at hl 5 rfl) ?_
  refine lv_iconst (v := 1) S0.1 S0.2.1 dL_law_2213 (by decide) ?_
  refine l_sld S0 hX hbl hbA hL hw1.1.1.2.2.1 (k := 1) rfl (by omega) dL_law_2214 dL_law_2215 ?_
  refine lv_aload_n S0.1 S0.2.1 dL_law_2216 rfl (lv_at hl 1 rfl) ?_
  refine lv_iload S0.1 S0.2.1 dL_law_2217 (lv_at hl 5 rfl) ?_
  refine lv_iconst (v := 2) S0.1 S0.2.1 dL_law_2219 (by decide) ?_
  refine l_sld S0 hX hbl hbA hL hw1.1.1.2.2.1 (k := 2) rfl (by omega) dL_law_2220 dL_law_2221 ?_
  refine l_refi S0 hw1 (As := [.int (xs (8 * n + 1)), .int (xs (8 * n + 2))]) (rest := []) (wX9_takeFirst l D Y am F (xs (8 * n + 1)) (xs (8 * n + 2)) σm) qyX9_takeFirst kw_1587 ⟨Nat.le_of_ble_eq_true rfl, Nat.le_of_ble_eq_true rfl⟩ f2 rfl hl.1 (Nat.le_of_ble_eq_true rfl) dL_law_2222 ⟨show cells + 3 ≤ 601024 by omega, show slots + 18 ≤ 7293034 by omega⟩ rfl (fun H locs hw2 => ?_)
  refine lv_istore (lv' := [(6, .int w), (5, .int ((fun e => if e = 0 then 0 else if e = 1 then 1 else if e = 3 then 2 else 0) ex)), (0, .ref b), (1, .ref (ad 0 0)), (2, .ref (am 0 0)), (3, .ref o), (4, .int (nI (8 * n)))]) S0.1 S0.2.1 dL_law_2225 hl (by decide) rfl (fun ls hl => ?_)
  refine lv_aload_n S0.1 S0.2.1 dL_law_2227 rfl (lv_at hl 4 rfl) ?_
  refine l_refi S0 hw2 (As := []) (rest := []) (wX9_thrown l D Y am F σm9) qyX9_thrown kw_1323 ⟨Nat.le_of_ble_eq_true rfl, Nat.le_of_ble_eq_true rfl⟩ f3 rfl hl.1 (Nat.le_of_ble_eq_true rfl) dL_law_2228 ⟨show cells + 3 ≤ 601024 by omega, show slots + 18 ≤ 7293034 by omega⟩ rfl (fun H locs hw3 => ?_)
  refine lv_iload S0.1 S0.2.1 dL_law_2231 (lv_at hl 1 rfl) ?_
  refine lv_icmp_eq (tgt := 2238) S0.1 S0.2.1 dL_law_2233 (by decide) (fun c1 => ?_) (fun c1 => absurd rfl c1)
  refine lv_iload S0.1 S0.2.1 dL_law_2238 (lv_at hl 1 rfl) ?_
  refine lv_if_ne (tgt := 2255) S0.1 S0.2.1 dL_law_2240 (by decide) (fun c2 => ?_) (fun c2 => ?_)
  · refine lv_goto (tgt := 2620) S0.1 S0.2.1 dL_law_2255 (by decide) ?_
    exact next ad9 σ9 σm9 _ _ _ ls _ _ hw3 h00 hok f5 (show cells + 3 ≤ 126 + 20 * (n + 1) + Φ σ9 by omega) (show slots + 18 ≤ 544257 + 130 * (n + 1) + 2 * Φ σ9 by omega) (lv_sub hl [2, 3, 4, 5, 6] rfl)
  · obtain ⟨rfl, rfl⟩ := f4 (Decidable.not_not.mp (fun h => h c2))
    refine lv_aload_n S0.1 S0.2.1 dL_law_2243 rfl (lv_at hl 5 rfl) ?_
    refine lv_iconst (v := 0) S0.1 S0.2.1 dL_law_2244 (by decide) ?_
    refine l_out0 S0 hw3 dL_law_2245 ?_
    refine lv_iload S0.1 S0.2.1 dL_law_2246 (lv_at hl 0 rfl) ?_
    refine lv_i2l (v := v.toInt64) S0.1 S0.2.1 dL_law_2248 rfl ?_
    refine l_lcmp0 S0 (x := v.toInt64) dL_law_2249 ?_
    refine lv_if_eq (tgt := 2255) S0.1 S0.2.1 dL_law_2250 (by decide) (fun c3 => ?_) (fun c3 => absurd rfl c3)
    refine lv_goto (tgt := 2620) S0.1 S0.2.1 dL_law_2255 (by decide) ?_
    exact next ad9 σ9 σm9 _ _ _ ls _ _ hw3 h00 hok f5 (show cells + 3 ≤ 126 + 20 * (n + 1) + Φ σ9 by omega) (show slots + 18 ≤ 544257 + 130 * (n + 1) + 2 * Φ σ9 by omega) (lv_sub hl [2, 3, 4, 5, 6] rfl)
theorem qyX9_store : qY yX9_store RX9 cX9_store 3 (some .boolean) 2 := ⟨⟨kw_1592, kw_1593, kw_11, kw_1594⟩, rfl, by decide, by decide, by decide +kernel⟩
set_option maxRecDepth 100000 in
set_option maxHeartbeats 4000000 in
theorem wLaw_store {p : Program} {l : Launch} {e : Env} {s : State} {m : MethodId} {below : List Frame} {meth : Method} {c : Code} {Q : State → Prop} {D : va_G} {Y : Nat → ClassId} {am : qAd} {b L : Nat} {xs : Nat → Int32} {x0 o e0 F n : Nat} {I : Nat → qS → qS → Prop} {Φ : qS → Nat} (S0 : CallFix p m c cL_law 7 s #[.ref b] gws "LeasehallLaw") (hst : l.stackTraces = false) (hX : va_X b L xs s s.heap) (hbl : b < s.heap.size) (hL : L ≤ 4096) (hG : qG s.heap.size s s.heap) (hE : qE s.heap.size e0 s s.heap) (hNc : qNc s) (hΦ : ∀ n σ σm, I n σ σm → Φ σ ≤ 90000) (hc : cI_store F I Φ) (hn : 8 * n + 8 ≤ L) (next : lNext p l e s m b below meth c Q D Y am x0 o e0 I Φ n (n + 1) 2620) : lNext p l e s m b below meth c Q D Y am x0 o e0 I Φ n n 2258 := by
  intro ad σ σm g H locs ls cells slots hw h0 hok hI hcl hsl hl
  have hbA : ¬ lA s b := Nat.not_le.mpr hbl
  have hAB : ∀ q, lA s q → s.heap.size ≤ q := fun _ h => h
  have hn5 : n < 512 := by omega
  obtain ⟨v, ex, σ9, w, σm9, f1, f2, f3, f4, f5, f6⟩ := hc n σ σm (xs (8 * n + 1)) (xs (8 * n + 2)) hn5 hI
  have hΦ9 := hΦ _ _ _ f5
  replace f6 : 0 + Φ σ ≤ Φ σ9 := f6
  subst h0
  refine lv_aload_n S0.1 S0.2.1 dL_law_2258 rfl (lv_at hl 1 rfl) ?_
  refine lv_aload_n S0.1 S0.2.1 dL_law_2259 rfl (lv_at hl 0 rfl) ?_
  refine lv_iload S0.1 S0.2.1 dL_law_2260 (lv_at hl 4 rfl) ?_
  refine lv_iconst (v := 1) S0.1 S0.2.1 dL_law_2262 (by decide) ?_
  refine l_sld S0 hX hbl hbA hL hw.1.1.2.2.1 (k := 1) rfl (by omega) dL_law_2263 dL_law_2264 ?_
  refine lv_aload_n S0.1 S0.2.1 dL_law_2265 rfl (lv_at hl 0 rfl) ?_
  refine lv_iload S0.1 S0.2.1 dL_law_2266 (lv_at hl 4 rfl) ?_
  refine lv_iconst (v := 2) S0.1 S0.2.1 dL_law_2268 (by decide) ?_
  refine l_sld S0 hX hbl hbA hL hw.1.1.2.2.1 (k := 2) rfl (by omega) dL_law_2269 dL_law_2270 ?_
  refine lv_aload_n S0.1 S0.2.1 dL_law_2271 rfl (lv_at hl 3 rfl) ?_
  refine l_wrap (n := 4) S0 hG hE hNc hAB hok hw (As := [.ref (ad 0 0), .int (xs (8 * n + 1)), .int (xs (8 * n + 2)), .ref o]) (rest := []) (wL_store l hst D Y ad o g s.heap.size e0 F (xs (8 * n + 1)) (xs (8 * n + 2)) σ) kw_1089 kw_1087 kw_1088 kw_0 ⟨by decide, by decide, by decide +kernel⟩ ⟨Nat.le_of_ble_eq_true rfl, Nat.le_of_ble_eq_true rfl⟩ f1 rfl hl.1 (Nat.le_of_ble_eq_true rfl) dL_law_2272 ⟨show cells + 1 ≤ 601024 by omega, show slots + 6 ≤ 7293034 by omega⟩ rfl (fun ad9 H locs hw1 h00 hok => ?_)
  replace h00 : ad9 0 0 = ad 0 0 := h00
  refine lv_istore (lv' := [(5, .int ((fun e => if e = 0 then 0 else if e = 2 then 1 else 0) ex)), (0, .ref b), (1, .ref (ad 0 0)), (2, .ref (am 0 0)), (3, .ref o), (4, .int (nI (8 * n)))]) S0.1 S0.2.1 dL_law_2275 hl (by decide) rfl (fun ls hl => ?_)
  refine lv_aload_n S0.1 S0.2.1 dL_law_2277 rfl (lv_at hl 3 rfl) ?_
  refine lv_aload_n S0.1 S0.2.1 dL_law_2278 rfl (lv_at hl 1 rfl) ?_
  refine lv_iload S0.1 S0.2.1 dL_law_2279 (lv_at hl 5 rfl) ?_
  refine lv_iconst (v := 1) S0.1 S0.2.1 dL_law_2281 (by decide) ?_
  refine l_sld S0 hX hbl hbA hL hw1.1.1.2.2.1 (k := 1) rfl (by omega) dL_law_2282 dL_law_2283 ?_
  refine lv_aload_n S0.1 S0.2.1 dL_law_2284 rfl (lv_at hl 1 rfl) ?_
  refine lv_iload S0.1 S0.2.1 dL_law_2285 (lv_at hl 5 rfl) ?_
  refine lv_iconst (v := 2) S0.1 S0.2.1 dL_law_2287 (by decide) ?_
  refine l_sld S0 hX hbl hbA hL hw1.1.1.2.2.1 (k := 2) rfl (by omega) dL_law_2288 dL_law_2289 ?_
  refine l_refi S0 hw1 (As := [.int (xs (8 * n + 1)), .int (xs (8 * n + 2))]) (rest := []) (wX9_store l D Y am F (xs (8 * n + 1)) (xs (8 * n + 2)) σm) qyX9_store kw_1591 ⟨Nat.le_of_ble_eq_true rfl, Nat.le_of_ble_eq_true rfl⟩ f2 rfl hl.1 (Nat.le_of_ble_eq_true rfl) dL_law_2290 ⟨show cells + 1 ≤ 601024 by omega, show slots + 6 ≤ 7293034 by omega⟩ rfl (fun H locs hw2 => ?_)
  refine lv_istore (lv' := [(6, .int w), (5, .int ((fun e => if e = 0 then 0 else if e = 2 then 1 else 0) ex)), (0, .ref b), (1, .ref (ad 0 0)), (2, .ref (am 0 0)), (3, .ref o), (4, .int (nI (8 * n)))]) S0.1 S0.2.1 dL_law_2293 hl (by decide) rfl (fun ls hl => ?_)
  refine lv_aload_n S0.1 S0.2.1 dL_law_2295 rfl (lv_at hl 4 rfl) ?_
  refine l_refi S0 hw2 (As := []) (rest := []) (wX9_thrown l D Y am F σm9) qyX9_thrown kw_1323 ⟨Nat.le_of_ble_eq_true rfl, Nat.le_of_ble_eq_true rfl⟩ f3 rfl hl.1 (Nat.le_of_ble_eq_true rfl) dL_law_2296 ⟨show cells + 1 ≤ 601024 by omega, show slots + 6 ≤ 7293034 by omega⟩ rfl (fun H locs hw3 => ?_)
  refine lv_iload S0.1 S0.2.1 dL_law_2299 (lv_at hl 1 rfl) ?_
  refine lv_icmp_eq (tgt := 2306) S0.1 S0.2.1 dL_law_2301 (by decide) (fun c1 => ?_) (fun c1 => absurd rfl c1)
  refine lv_iload S0.1 S0.2.1 dL_law_2306 (lv_at hl 1 rfl) ?_
  refine lv_if_ne (tgt := 2330) S0.1 S0.2.1 dL_law_2308 (by decide) (fun c2 => ?_) (fun c2 => ?_)
  · refine lv_goto (tgt := 2620) S0.1 S0.2.1 dL_law_2330 (by decide) ?_
    exact next ad9 σ9 σm9 _ _ _ ls _ _ hw3 h00 hok f5 (show cells + 1 ≤ 126 + 20 * (n + 1) + Φ σ9 by omega) (show slots + 6 ≤ 544257 + 130 * (n + 1) + 2 * Φ σ9 by omega) (lv_sub hl [2, 3, 4, 5, 6] rfl)
  · obtain ⟨rfl, rfl⟩ := f4 (Decidable.not_not.mp (fun h => h c2))
    refine lv_aload_n S0.1 S0.2.1 dL_law_2311 rfl (lv_at hl 5 rfl) ?_
    refine lv_iconst (v := 0) S0.1 S0.2.1 dL_law_2312 (by decide) ?_
    refine l_out0 S0 hw3 dL_law_2313 ?_
    refine lv_iload S0.1 S0.2.1 dL_law_2314 (lv_at hl 0 rfl) ?_
    refine l_boolL S0 (t := 2323) dL_law_2316 dL_law_2319 dL_law_2320 dL_law_2323 rfl ?_
    refine l_lcmp0 S0 (x := (if v = 0 then 0 else 1)) dL_law_2324 ?_
    refine lv_if_eq (tgt := 2330) S0.1 S0.2.1 dL_law_2325 (by decide) (fun c3 => ?_) (fun c3 => absurd rfl c3)
    refine lv_goto (tgt := 2620) S0.1 S0.2.1 dL_law_2330 (by decide) ?_
    exact next ad9 σ9 σm9 _ _ _ ls _ _ hw3 h00 hok f5 (show cells + 1 ≤ 126 + 20 * (n + 1) + Φ σ9 by omega) (show slots + 6 ≤ 544257 + 130 * (n + 1) + 2 * Φ σ9 by omega) (lv_sub hl [2, 3, 4, 5, 6] rfl)
theorem qyX9_stored : qY yX9_stored RX9 cX9_stored 1 (some .int) 0 := ⟨⟨kw_1596, kw_1597, kw_11, kw_1598⟩, rfl, by decide, by decide, by decide +kernel⟩
theorem qyX8_stored : qY yX8_stored RX8 cX8_stored 1 (some .int) 0 := ⟨⟨kw_300, kw_301, kw_1, kw_302⟩, rfl, by decide, by decide, by decide +kernel⟩
set_option maxRecDepth 100000 in
set_option maxHeartbeats 4000000 in
theorem wLaw_stored {p : Program} {l : Launch} {e : Env} {s : State} {m : MethodId} {below : List Frame} {meth : Method} {c : Code} {Q : State → Prop} {D : va_G} {Y : Nat → ClassId} {am : qAd} {b L : Nat} {xs : Nat → Int32} {x0 o e0 F n : Nat} {I : Nat → qS → qS → Prop} {Φ : qS → Nat} (S0 : CallFix p m c cL_law 7 s #[.ref b] gws "LeasehallLaw") (hst : l.stackTraces = false) (hX : va_X b L xs s s.heap) (hbl : b < s.heap.size) (hL : L ≤ 4096) (hG : qG s.heap.size s s.heap) (hE : qE s.heap.size e0 s s.heap) (hNc : qNc s) (hΦ : ∀ n σ σm, I n σ σm → Φ σ ≤ 90000) (hc : cI_stored F I Φ) (hn : 8 * n + 8 ≤ L) (next : lNext p l e s m b below meth c Q D Y am x0 o e0 I Φ n (n + 1) 2620) : lNext p l e s m b below meth c Q D Y am x0 o e0 I Φ n n 2333 := by
  intro ad σ σm g H locs ls cells slots hw h0 hok hI hcl hsl hl
  have hbA : ¬ lA s b := Nat.not_le.mpr hbl
  have hAB : ∀ q, lA s q → s.heap.size ≤ q := fun _ h => h
  have hn5 : n < 512 := by omega
  obtain ⟨v, σ9, σm9, f1, f2, f5, f6⟩ := hc n σ σm hn5 hI
  have hΦ9 := hΦ _ _ _ f5
  subst h0
  refine lv_aload_n S0.1 S0.2.1 dL_law_2333 rfl (lv_at hl 1 rfl) ?_
  refine l_clsi S0 hw (As := []) (rest := []) (wX8_stored l D Y ad F σ) qyX8_stored kw_299 ⟨Nat.le_of_ble_eq_true rfl, Nat.le_of_ble_eq_true rfl⟩ f1 rfl hl.1 (Nat.le_of_ble_eq_true rfl) dL_law_2334 ⟨show cells ≤ 601024 by omega, show slots ≤ 7293034 by omega⟩ rfl (fun H locs hw1 => ?_)
  refine lv_aload_n S0.1 S0.2.1 dL_law_2337 rfl (lv_at hl 2 rfl) ?_
  refine l_refi S0 hw1 (As := []) (rest := [.int v]) (wX9_stored l D Y am F σm) qyX9_stored kw_1595 ⟨Nat.le_of_ble_eq_true rfl, Nat.le_of_ble_eq_true rfl⟩ f2 rfl hl.1 (Nat.le_of_ble_eq_true rfl) dL_law_2338 ⟨show cells ≤ 601024 by omega, show slots ≤ 7293034 by omega⟩ rfl (fun H locs hw2 => ?_)
  refine lv_icmp_eq (tgt := 2620) S0.1 S0.2.1 dL_law_2341 (by decide) (fun c1 => ?_) (fun c1 => absurd rfl c1)
  exact next ad σ9 σm9 g _ _ ls cells slots hw2 rfl (hok.same (gn_fX8_stored f1)) f5 (by omega) (by omega) (lv_sub hl [0, 1, 2, 3, 4] rfl)
theorem qyX9_valueAt : qY yX9_valueAt RX9 cX9_valueAt 5 (some .int) 2 := ⟨⟨kw_1600, kw_1601, kw_11, kw_1602⟩, rfl, by decide, by decide, by decide +kernel⟩
set_option maxRecDepth 100000 in
set_option maxHeartbeats 4000000 in
theorem wLaw_valueAt {p : Program} {l : Launch} {e : Env} {s : State} {m : MethodId} {below : List Frame} {meth : Method} {c : Code} {Q : State → Prop} {D : va_G} {Y : Nat → ClassId} {am : qAd} {b L : Nat} {xs : Nat → Int32} {x0 o e0 F n : Nat} {I : Nat → qS → qS → Prop} {Φ : qS → Nat} (S0 : CallFix p m c cL_law 7 s #[.ref b] gws "LeasehallLaw") (hst : l.stackTraces = false) (hX : va_X b L xs s s.heap) (hbl : b < s.heap.size) (hL : L ≤ 4096) (hG : qG s.heap.size s s.heap) (hE : qE s.heap.size e0 s s.heap) (hNc : qNc s) (hΦ : ∀ n σ σm, I n σ σm → Φ σ ≤ 90000) (hc : cI_valueAt F I Φ) (hn : 8 * n + 8 ≤ L) (next : lNext p l e s m b below meth c Q D Y am x0 o e0 I Φ n (n + 1) 2620) : lNext p l e s m b below meth c Q D Y am x0 o e0 I Φ n n 2346 := by
  intro ad σ σm g H locs ls cells slots hw h0 hok hI hcl hsl hl
  have hbA : ¬ lA s b := Nat.not_le.mpr hbl
  have hAB : ∀ q, lA s q → s.heap.size ≤ q := fun _ h => h
  have hn5 : n < 512 := by omega
  obtain ⟨v, ex, σ9, w, σm9, f1, f2, f3, f4, f5, f6⟩ := hc n σ σm (xs (8 * n + 1)) (xs (8 * n + 2)) hn5 hI
  have hΦ9 := hΦ _ _ _ f5
  replace f6 : 0 + Φ σ ≤ Φ σ9 := f6
  subst h0
  refine lv_aload_n S0.1 S0.2.1 dL_law_2346 rfl (lv_at hl 1 rfl) ?_
  refine lv_aload_n S0.1 S0.2.1 dL_law_2347 rfl (lv_at hl 0 rfl) ?_
  refine lv_iload S0.1 S0.2.1 dL_law_2348 (lv_at hl 4 rfl) ?_
  refine lv_iconst (v := 1) S0.1 S0.2.1 dL_law_2350 (by decide) ?_
  refine l_sld S0 hX hbl hbA hL hw.1.1.2.2.1 (k := 1) rfl (by omega) dL_law_2351 dL_law_2352 ?_
  refine lv_aload_n S0.1 S0.2.1 dL_law_2353 rfl (lv_at hl 0 rfl) ?_
  refine lv_iload S0.1 S0.2.1 dL_law_2354 (lv_at hl 4 rfl) ?_
  refine lv_iconst (v := 2) S0.1 S0.2.1 dL_law_2356 (by decide) ?_
  refine l_sld S0 hX hbl hbA hL hw.1.1.2.2.1 (k := 2) rfl (by omega) dL_law_2357 dL_law_2358 ?_
  refine lv_aload_n S0.1 S0.2.1 dL_law_2359 rfl (lv_at hl 3 rfl) ?_
  refine l_wrap (n := 4) S0 hG hE hNc hAB hok hw (As := [.ref (ad 0 0), .int (xs (8 * n + 1)), .int (xs (8 * n + 2)), .ref o]) (rest := []) (wL_valueAt l hst D Y ad o g s.heap.size e0 F (xs (8 * n + 1)) (xs (8 * n + 2)) σ) kw_1097 kw_1095 kw_1096 kw_0 ⟨by decide, by decide, by decide +kernel⟩ ⟨Nat.le_of_ble_eq_true rfl, Nat.le_of_ble_eq_true rfl⟩ f1 rfl hl.1 (Nat.le_of_ble_eq_true rfl) dL_law_2360 ⟨show cells + 2 ≤ 601024 by omega, show slots + 12 ≤ 7293034 by omega⟩ rfl (fun ad9 H locs hw1 h00 hok => ?_)
  replace h00 : ad9 0 0 = ad 0 0 := h00
  refine lv_istore (lv' := [(5, .int ((fun e => if e = 0 then 0 else if e = 2 then 1 else if e = 3 then 2 else 0) ex)), (0, .ref b), (1, .ref (ad 0 0)), (2, .ref (am 0 0)), (3, .ref o), (4, .int (nI (8 * n)))]) S0.1 S0.2.1 dL_law_2363 hl (by decide) rfl (fun ls hl => ?_)
  refine lv_aload_n S0.1 S0.2.1 dL_law_2365 rfl (lv_at hl 3 rfl) ?_
  refine lv_aload_n S0.1 S0.2.1 dL_law_2366 rfl (lv_at hl 1 rfl) ?_
  refine lv_iload S0.1 S0.2.1 dL_law_2367 (lv_at hl 5 rfl) ?_
  refine lv_iconst (v := 1) S0.1 S0.2.1 dL_law_2369 (by decide) ?_
  refine l_sld S0 hX hbl hbA hL hw1.1.1.2.2.1 (k := 1) rfl (by omega) dL_law_2370 dL_law_2371 ?_
  refine lv_aload_n S0.1 S0.2.1 dL_law_2372 rfl (lv_at hl 1 rfl) ?_
  refine lv_iload S0.1 S0.2.1 dL_law_2373 (lv_at hl 5 rfl) ?_
  refine lv_iconst (v := 2) S0.1 S0.2.1 dL_law_2375 (by decide) ?_
  refine l_sld S0 hX hbl hbA hL hw1.1.1.2.2.1 (k := 2) rfl (by omega) dL_law_2376 dL_law_2377 ?_
  refine l_refi S0 hw1 (As := [.int (xs (8 * n + 1)), .int (xs (8 * n + 2))]) (rest := []) (wX9_valueAt l D Y am F (xs (8 * n + 1)) (xs (8 * n + 2)) σm) qyX9_valueAt kw_1599 ⟨Nat.le_of_ble_eq_true rfl, Nat.le_of_ble_eq_true rfl⟩ f2 rfl hl.1 (Nat.le_of_ble_eq_true rfl) dL_law_2378 ⟨show cells + 2 ≤ 601024 by omega, show slots + 12 ≤ 7293034 by omega⟩ rfl (fun H locs hw2 => ?_)
  refine lv_istore (lv' := [(6, .int w), (5, .int ((fun e => if e = 0 then 0 else if e = 2 then 1 else if e = 3 then 2 else 0) ex)), (0, .ref b), (1, .ref (ad 0 0)), (2, .ref (am 0 0)), (3, .ref o), (4, .int (nI (8 * n)))]) S0.1 S0.2.1 dL_law_2381 hl (by decide) rfl (fun ls hl => ?_)
  refine lv_aload_n S0.1 S0.2.1 dL_law_2383 rfl (lv_at hl 4 rfl) ?_
  refine l_refi S0 hw2 (As := []) (rest := []) (wX9_thrown l D Y am F σm9) qyX9_thrown kw_1323 ⟨Nat.le_of_ble_eq_true rfl, Nat.le_of_ble_eq_true rfl⟩ f3 rfl hl.1 (Nat.le_of_ble_eq_true rfl) dL_law_2384 ⟨show cells + 2 ≤ 601024 by omega, show slots + 12 ≤ 7293034 by omega⟩ rfl (fun H locs hw3 => ?_)
  refine lv_iload S0.1 S0.2.1 dL_law_2387 (lv_at hl 1 rfl) ?_
  refine lv_icmp_eq (tgt := 2394) S0.1 S0.2.1 dL_law_2389 (by decide) (fun c1 => ?_) (fun c1 => absurd rfl c1)
  refine lv_iload S0.1 S0.2.1 dL_law_2394 (lv_at hl 1 rfl) ?_
  refine lv_if_ne (tgt := 2411) S0.1 S0.2.1 dL_law_2396 (by decide) (fun c2 => ?_) (fun c2 => ?_)
  · refine lv_goto (tgt := 2620) S0.1 S0.2.1 dL_law_2411 (by decide) ?_
    exact next ad9 σ9 σm9 _ _ _ ls _ _ hw3 h00 hok f5 (show cells + 2 ≤ 126 + 20 * (n + 1) + Φ σ9 by omega) (show slots + 12 ≤ 544257 + 130 * (n + 1) + 2 * Φ σ9 by omega) (lv_sub hl [2, 3, 4, 5, 6] rfl)
  · obtain ⟨rfl, rfl⟩ := f4 (Decidable.not_not.mp (fun h => h c2))
    refine lv_aload_n S0.1 S0.2.1 dL_law_2399 rfl (lv_at hl 5 rfl) ?_
    refine lv_iconst (v := 0) S0.1 S0.2.1 dL_law_2400 (by decide) ?_
    refine l_out0 S0 hw3 dL_law_2401 ?_
    refine lv_iload S0.1 S0.2.1 dL_law_2402 (lv_at hl 0 rfl) ?_
    refine lv_i2l (v := v.toInt64) S0.1 S0.2.1 dL_law_2404 rfl ?_
    refine l_lcmp0 S0 (x := v.toInt64) dL_law_2405 ?_
    refine lv_if_eq (tgt := 2411) S0.1 S0.2.1 dL_law_2406 (by decide) (fun c3 => ?_) (fun c3 => absurd rfl c3)
    refine lv_goto (tgt := 2620) S0.1 S0.2.1 dL_law_2411 (by decide) ?_
    exact next ad9 σ9 σm9 _ _ _ ls _ _ hw3 h00 hok f5 (show cells + 2 ≤ 126 + 20 * (n + 1) + Φ σ9 by omega) (show slots + 12 ≤ 544257 + 130 * (n + 1) + 2 * Φ σ9 by omega) (lv_sub hl [2, 3, 4, 5, 6] rfl)
theorem qyX9_changedAt : qY yX9_changedAt RX9 cX9_changedAt 7 (some .int) 3 := ⟨⟨kw_1604, kw_1605, kw_11, kw_1606⟩, rfl, by decide, by decide, by decide +kernel⟩
set_option maxRecDepth 100000 in
set_option maxHeartbeats 4000000 in
theorem wLaw_changedAt {p : Program} {l : Launch} {e : Env} {s : State} {m : MethodId} {below : List Frame} {meth : Method} {c : Code} {Q : State → Prop} {D : va_G} {Y : Nat → ClassId} {am : qAd} {b L : Nat} {xs : Nat → Int32} {x0 o e0 F n : Nat} {I : Nat → qS → qS → Prop} {Φ : qS → Nat} (S0 : CallFix p m c cL_law 7 s #[.ref b] gws "LeasehallLaw") (hst : l.stackTraces = false) (hX : va_X b L xs s s.heap) (hbl : b < s.heap.size) (hL : L ≤ 4096) (hG : qG s.heap.size s s.heap) (hE : qE s.heap.size e0 s s.heap) (hNc : qNc s) (hΦ : ∀ n σ σm, I n σ σm → Φ σ ≤ 90000) (hc : cI_changedAt F I Φ) (hn : 8 * n + 8 ≤ L) (next : lNext p l e s m b below meth c Q D Y am x0 o e0 I Φ n (n + 1) 2620) : lNext p l e s m b below meth c Q D Y am x0 o e0 I Φ n n 2414 := by
  intro ad σ σm g H locs ls cells slots hw h0 hok hI hcl hsl hl
  have hbA : ¬ lA s b := Nat.not_le.mpr hbl
  have hAB : ∀ q, lA s q → s.heap.size ≤ q := fun _ h => h
  have hn5 : n < 512 := by omega
  obtain ⟨v, ex, σ9, w, σm9, f1, f2, f3, f4, f5, f6⟩ := hc n σ σm (xs (8 * n + 1)) (xs (8 * n + 2)) (xs (8 * n + 3)) hn5 hI
  have hΦ9 := hΦ _ _ _ f5
  replace f6 : 0 + Φ σ ≤ Φ σ9 := f6
  subst h0
  refine lv_aload_n S0.1 S0.2.1 dL_law_2414 rfl (lv_at hl 1 rfl) ?_
  refine lv_aload_n S0.1 S0.2.1 dL_law_2415 rfl (lv_at hl 0 rfl) ?_
  refine lv_iload S0.1 S0.2.1 dL_law_2416 (lv_at hl 4 rfl) ?_
  refine lv_iconst (v := 1) S0.1 S0.2.1 dL_law_2418 (by decide) ?_
  refine l_sld S0 hX hbl hbA hL hw.1.1.2.2.1 (k := 1) rfl (by omega) dL_law_2419 dL_law_2420 ?_
  refine lv_aload_n S0.1 S0.2.1 dL_law_2421 rfl (lv_at hl 0 rfl) ?_
  refine lv_iload S0.1 S0.2.1 dL_law_2422 (lv_at hl 4 rfl) ?_
  refine lv_iconst (v := 2) S0.1 S0.2.1 dL_law_2424 (by decide) ?_
  refine l_sld S0 hX hbl hbA hL hw.1.1.2.2.1 (k := 2) rfl (by omega) dL_law_2425 dL_law_2426 ?_
  refine lv_aload_n S0.1 S0.2.1 dL_law_2427 rfl (lv_at hl 0 rfl) ?_
  refine lv_iload S0.1 S0.2.1 dL_law_2428 (lv_at hl 4 rfl) ?_
  refine lv_iconst (v := 3) S0.1 S0.2.1 dL_law_2430 (by decide) ?_
  refine l_sld S0 hX hbl hbA hL hw.1.1.2.2.1 (k := 3) rfl (by omega) dL_law_2431 dL_law_2432 ?_
  refine lv_aload_n S0.1 S0.2.1 dL_law_2433 rfl (lv_at hl 3 rfl) ?_
  refine l_wrap (n := 5) S0 hG hE hNc hAB hok hw (As := [.ref (ad 0 0), .int (xs (8 * n + 1)), .int (xs (8 * n + 2)), .int (xs (8 * n + 3)), .ref o]) (rest := []) (wL_changedAt l hst D Y ad o g s.heap.size e0 F (xs (8 * n + 1)) (xs (8 * n + 2)) (xs (8 * n + 3)) σ) kw_1114 kw_1112 kw_1113 kw_0 ⟨by decide, by decide, by decide +kernel⟩ ⟨Nat.le_of_ble_eq_true rfl, Nat.le_of_ble_eq_true rfl⟩ f1 rfl hl.1 (Nat.le_of_ble_eq_true rfl) dL_law_2434 ⟨show cells + 2 ≤ 601024 by omega, show slots + 12 ≤ 7293034 by omega⟩ rfl (fun ad9 H locs hw1 h00 hok => ?_)
  replace h00 : ad9 0 0 = ad 0 0 := h00
  refine lv_istore (lv' := [(5, .int ((fun e => if e = 0 then 0 else if e = 1 then 1 else if e = 2 then 2 else if e = 3 then 3 else 0) ex)), (0, .ref b), (1, .ref (ad 0 0)), (2, .ref (am 0 0)), (3, .ref o), (4, .int (nI (8 * n)))]) S0.1 S0.2.1 dL_law_2437 hl (by decide) rfl (fun ls hl => ?_)
  refine lv_aload_n S0.1 S0.2.1 dL_law_2439 rfl (lv_at hl 3 rfl) ?_
  refine lv_aload_n S0.1 S0.2.1 dL_law_2440 rfl (lv_at hl 1 rfl) ?_
  refine lv_iload S0.1 S0.2.1 dL_law_2441 (lv_at hl 5 rfl) ?_
  refine lv_iconst (v := 1) S0.1 S0.2.1 dL_law_2443 (by decide) ?_
  refine l_sld S0 hX hbl hbA hL hw1.1.1.2.2.1 (k := 1) rfl (by omega) dL_law_2444 dL_law_2445 ?_
  refine lv_aload_n S0.1 S0.2.1 dL_law_2446 rfl (lv_at hl 1 rfl) ?_
  refine lv_iload S0.1 S0.2.1 dL_law_2447 (lv_at hl 5 rfl) ?_
  refine lv_iconst (v := 2) S0.1 S0.2.1 dL_law_2449 (by decide) ?_
  refine l_sld S0 hX hbl hbA hL hw1.1.1.2.2.1 (k := 2) rfl (by omega) dL_law_2450 dL_law_2451 ?_
  refine lv_aload_n S0.1 S0.2.1 dL_law_2452 rfl (lv_at hl 1 rfl) ?_
  refine lv_iload S0.1 S0.2.1 dL_law_2453 (lv_at hl 5 rfl) ?_
  refine lv_iconst (v := 3) S0.1 S0.2.1 dL_law_2455 (by decide) ?_
  refine l_sld S0 hX hbl hbA hL hw1.1.1.2.2.1 (k := 3) rfl (by omega) dL_law_2456 dL_law_2457 ?_
  refine l_refi S0 hw1 (As := [.int (xs (8 * n + 1)), .int (xs (8 * n + 2)), .int (xs (8 * n + 3))]) (rest := []) (wX9_changedAt l D Y am F (xs (8 * n + 1)) (xs (8 * n + 2)) (xs (8 * n + 3)) σm) qyX9_changedAt kw_1603 ⟨Nat.le_of_ble_eq_true rfl, Nat.le_of_ble_eq_true rfl⟩ f2 rfl hl.1 (Nat.le_of_ble_eq_true rfl) dL_law_2458 ⟨show cells + 2 ≤ 601024 by omega, show slots + 12 ≤ 7293034 by omega⟩ rfl (fun H locs hw2 => ?_)
  refine lv_istore (lv' := [(6, .int w), (5, .int ((fun e => if e = 0 then 0 else if e = 1 then 1 else if e = 2 then 2 else if e = 3 then 3 else 0) ex)), (0, .ref b), (1, .ref (ad 0 0)), (2, .ref (am 0 0)), (3, .ref o), (4, .int (nI (8 * n)))]) S0.1 S0.2.1 dL_law_2461 hl (by decide) rfl (fun ls hl => ?_)
  refine lv_aload_n S0.1 S0.2.1 dL_law_2463 rfl (lv_at hl 4 rfl) ?_
  refine l_refi S0 hw2 (As := []) (rest := []) (wX9_thrown l D Y am F σm9) qyX9_thrown kw_1323 ⟨Nat.le_of_ble_eq_true rfl, Nat.le_of_ble_eq_true rfl⟩ f3 rfl hl.1 (Nat.le_of_ble_eq_true rfl) dL_law_2464 ⟨show cells + 2 ≤ 601024 by omega, show slots + 12 ≤ 7293034 by omega⟩ rfl (fun H locs hw3 => ?_)
  refine lv_iload S0.1 S0.2.1 dL_law_2467 (lv_at hl 1 rfl) ?_
  refine lv_icmp_eq (tgt := 2474) S0.1 S0.2.1 dL_law_2469 (by decide) (fun c1 => ?_) (fun c1 => absurd rfl c1)
  refine lv_iload S0.1 S0.2.1 dL_law_2474 (lv_at hl 1 rfl) ?_
  refine lv_if_ne (tgt := 2491) S0.1 S0.2.1 dL_law_2476 (by decide) (fun c2 => ?_) (fun c2 => ?_)
  · refine lv_goto (tgt := 2620) S0.1 S0.2.1 dL_law_2491 (by decide) ?_
    exact next ad9 σ9 σm9 _ _ _ ls _ _ hw3 h00 hok f5 (show cells + 2 ≤ 126 + 20 * (n + 1) + Φ σ9 by omega) (show slots + 12 ≤ 544257 + 130 * (n + 1) + 2 * Φ σ9 by omega) (lv_sub hl [2, 3, 4, 5, 6] rfl)
  · obtain ⟨rfl, rfl⟩ := f4 (Decidable.not_not.mp (fun h => h c2))
    refine lv_aload_n S0.1 S0.2.1 dL_law_2479 rfl (lv_at hl 5 rfl) ?_
    refine lv_iconst (v := 0) S0.1 S0.2.1 dL_law_2480 (by decide) ?_
    refine l_out0 S0 hw3 dL_law_2481 ?_
    refine lv_iload S0.1 S0.2.1 dL_law_2482 (lv_at hl 0 rfl) ?_
    refine lv_i2l (v := v.toInt64) S0.1 S0.2.1 dL_law_2484 rfl ?_
    refine l_lcmp0 S0 (x := v.toInt64) dL_law_2485 ?_
    refine lv_if_eq (tgt := 2491) S0.1 S0.2.1 dL_law_2486 (by decide) (fun c3 => ?_) (fun c3 => absurd rfl c3)
    refine lv_goto (tgt := 2620) S0.1 S0.2.1 dL_law_2491 (by decide) ?_
    exact next ad9 σ9 σm9 _ _ _ ls _ _ hw3 h00 hok f5 (show cells + 2 ≤ 126 + 20 * (n + 1) + Φ σ9 by omega) (show slots + 12 ≤ 544257 + 130 * (n + 1) + 2 * Φ σ9 by omega) (lv_sub hl [2, 3, 4, 5, 6] rfl)
theorem qyX9_compact : qY yX9_compact RX9 cX9_compact 2 (some .int) 1 := ⟨⟨kw_1608, kw_1609, kw_11, kw_1610⟩, rfl, by decide, by decide, by decide +kernel⟩
set_option maxRecDepth 100000 in
set_option maxHeartbeats 4000000 in
theorem wLaw_compact {p : Program} {l : Launch} {e : Env} {s : State} {m : MethodId} {below : List Frame} {meth : Method} {c : Code} {Q : State → Prop} {D : va_G} {Y : Nat → ClassId} {am : qAd} {b L : Nat} {xs : Nat → Int32} {x0 o e0 F n : Nat} {I : Nat → qS → qS → Prop} {Φ : qS → Nat} (S0 : CallFix p m c cL_law 7 s #[.ref b] gws "LeasehallLaw") (hst : l.stackTraces = false) (hX : va_X b L xs s s.heap) (hbl : b < s.heap.size) (hL : L ≤ 4096) (hG : qG s.heap.size s s.heap) (hE : qE s.heap.size e0 s s.heap) (hNc : qNc s) (hΦ : ∀ n σ σm, I n σ σm → Φ σ ≤ 90000) (hc : cI_compact F I Φ) (hn : 8 * n + 8 ≤ L) (next : lNext p l e s m b below meth c Q D Y am x0 o e0 I Φ n (n + 1) 2620) : lNext p l e s m b below meth c Q D Y am x0 o e0 I Φ n n 2494 := by
  intro ad σ σm g H locs ls cells slots hw h0 hok hI hcl hsl hl
  have hbA : ¬ lA s b := Nat.not_le.mpr hbl
  have hAB : ∀ q, lA s q → s.heap.size ≤ q := fun _ h => h
  have hn5 : n < 512 := by omega
  obtain ⟨v, ex, σ9, w, σm9, f1, f2, f3, f4, f5, f6⟩ := hc n σ σm (xs (8 * n + 1)) hn5 hI
  have hΦ9 := hΦ _ _ _ f5
  replace f6 : 0 + Φ σ ≤ Φ σ9 := f6
  subst h0
  refine lv_aload_n S0.1 S0.2.1 dL_law_2494 rfl (lv_at hl 1 rfl) ?_
  refine lv_aload_n S0.1 S0.2.1 dL_law_2495 rfl (lv_at hl 0 rfl) ?_
  refine lv_iload S0.1 S0.2.1 dL_law_2496 (lv_at hl 4 rfl) ?_
  refine lv_iconst (v := 1) S0.1 S0.2.1 dL_law_2498 (by decide) ?_
  refine l_sld S0 hX hbl hbA hL hw.1.1.2.2.1 (k := 1) rfl (by omega) dL_law_2499 dL_law_2500 ?_
  refine lv_aload_n S0.1 S0.2.1 dL_law_2501 rfl (lv_at hl 3 rfl) ?_
  refine l_wrap (n := 3) S0 hG hE hNc hAB hok hw (As := [.ref (ad 0 0), .int (xs (8 * n + 1)), .ref o]) (rest := []) (wL_compact l hst D Y ad o g s.heap.size e0 F (xs (8 * n + 1)) σ) kw_1121 kw_1119 kw_1120 kw_0 ⟨by decide, by decide, by decide +kernel⟩ ⟨Nat.le_of_ble_eq_true rfl, Nat.le_of_ble_eq_true rfl⟩ f1 rfl hl.1 (Nat.le_of_ble_eq_true rfl) dL_law_2502 ⟨show cells + 1 ≤ 601024 by omega, show slots + 6 ≤ 7293034 by omega⟩ rfl (fun ad9 H locs hw1 h00 hok => ?_)
  replace h00 : ad9 0 0 = ad 0 0 := h00
  refine lv_istore (lv' := [(5, .int ((fun e => if e = 0 then 0 else if e = 2 then 1 else 0) ex)), (0, .ref b), (1, .ref (ad 0 0)), (2, .ref (am 0 0)), (3, .ref o), (4, .int (nI (8 * n)))]) S0.1 S0.2.1 dL_law_2505 hl (by decide) rfl (fun ls hl => ?_)
  refine lv_aload_n S0.1 S0.2.1 dL_law_2507 rfl (lv_at hl 3 rfl) ?_
  refine lv_aload_n S0.1 S0.2.1 dL_law_2508 rfl (lv_at hl 1 rfl) ?_
  refine lv_iload S0.1 S0.2.1 dL_law_2509 (lv_at hl 5 rfl) ?_
  refine lv_iconst (v := 1) S0.1 S0.2.1 dL_law_2511 (by decide) ?_
  refine l_sld S0 hX hbl hbA hL hw1.1.1.2.2.1 (k := 1) rfl (by omega) dL_law_2512 dL_law_2513 ?_
  refine l_refi S0 hw1 (As := [.int (xs (8 * n + 1))]) (rest := []) (wX9_compact l D Y am F (xs (8 * n + 1)) σm) qyX9_compact kw_1607 ⟨Nat.le_of_ble_eq_true rfl, Nat.le_of_ble_eq_true rfl⟩ f2 rfl hl.1 (Nat.le_of_ble_eq_true rfl) dL_law_2514 ⟨show cells + 1 ≤ 601024 by omega, show slots + 6 ≤ 7293034 by omega⟩ rfl (fun H locs hw2 => ?_)
  refine lv_istore (lv' := [(6, .int w), (5, .int ((fun e => if e = 0 then 0 else if e = 2 then 1 else 0) ex)), (0, .ref b), (1, .ref (ad 0 0)), (2, .ref (am 0 0)), (3, .ref o), (4, .int (nI (8 * n)))]) S0.1 S0.2.1 dL_law_2517 hl (by decide) rfl (fun ls hl => ?_)
  refine lv_aload_n S0.1 S0.2.1 dL_law_2519 rfl (lv_at hl 4 rfl) ?_
  refine l_refi S0 hw2 (As := []) (rest := []) (wX9_thrown l D Y am F σm9) qyX9_thrown kw_1323 ⟨Nat.le_of_ble_eq_true rfl, Nat.le_of_ble_eq_true rfl⟩ f3 rfl hl.1 (Nat.le_of_ble_eq_true rfl) dL_law_2520 ⟨show cells + 1 ≤ 601024 by omega, show slots + 6 ≤ 7293034 by omega⟩ rfl (fun H locs hw3 => ?_)
  refine lv_iload S0.1 S0.2.1 dL_law_2523 (lv_at hl 1 rfl) ?_
  refine lv_icmp_eq (tgt := 2530) S0.1 S0.2.1 dL_law_2525 (by decide) (fun c1 => ?_) (fun c1 => absurd rfl c1)
  refine lv_iload S0.1 S0.2.1 dL_law_2530 (lv_at hl 1 rfl) ?_
  refine lv_if_ne (tgt := 2547) S0.1 S0.2.1 dL_law_2532 (by decide) (fun c2 => ?_) (fun c2 => ?_)
  · refine lv_goto (tgt := 2620) S0.1 S0.2.1 dL_law_2547 (by decide) ?_
    exact next ad9 σ9 σm9 _ _ _ ls _ _ hw3 h00 hok f5 (show cells + 1 ≤ 126 + 20 * (n + 1) + Φ σ9 by omega) (show slots + 6 ≤ 544257 + 130 * (n + 1) + 2 * Φ σ9 by omega) (lv_sub hl [2, 3, 4, 5, 6] rfl)
  · obtain ⟨rfl, rfl⟩ := f4 (Decidable.not_not.mp (fun h => h c2))
    refine lv_aload_n S0.1 S0.2.1 dL_law_2535 rfl (lv_at hl 5 rfl) ?_
    refine lv_iconst (v := 0) S0.1 S0.2.1 dL_law_2536 (by decide) ?_
    refine l_out0 S0 hw3 dL_law_2537 ?_
    refine lv_iload S0.1 S0.2.1 dL_law_2538 (lv_at hl 0 rfl) ?_
    refine lv_i2l (v := v.toInt64) S0.1 S0.2.1 dL_law_2540 rfl ?_
    refine l_lcmp0 S0 (x := v.toInt64) dL_law_2541 ?_
    refine lv_if_eq (tgt := 2547) S0.1 S0.2.1 dL_law_2542 (by decide) (fun c3 => ?_) (fun c3 => absurd rfl c3)
    refine lv_goto (tgt := 2620) S0.1 S0.2.1 dL_law_2547 (by decide) ?_
    exact next ad9 σ9 σm9 _ _ _ ls _ _ hw3 h00 hok f5 (show cells + 1 ≤ 126 + 20 * (n + 1) + Φ σ9 by omega) (show slots + 6 ≤ 544257 + 130 * (n + 1) + 2 * Φ σ9 by omega) (lv_sub hl [2, 3, 4, 5, 6] rfl)
theorem qyX9_snapshot : qY yX9_snapshot RX9 cX9_snapshot 3 (some .int) 0 := ⟨⟨kw_1612, kw_1613, kw_11, kw_1614⟩, rfl, by decide, by decide, by decide +kernel⟩
theorem qyX8_snapshot : qY yX8_snapshot RX8 cX8_snapshot 1 (some .int) 0 := ⟨⟨kw_304, kw_305, kw_1, kw_306⟩, rfl, by decide, by decide, by decide +kernel⟩
set_option maxRecDepth 100000 in
set_option maxHeartbeats 4000000 in
theorem wLaw_snapshot {p : Program} {l : Launch} {e : Env} {s : State} {m : MethodId} {below : List Frame} {meth : Method} {c : Code} {Q : State → Prop} {D : va_G} {Y : Nat → ClassId} {am : qAd} {b L : Nat} {xs : Nat → Int32} {x0 o e0 F n : Nat} {I : Nat → qS → qS → Prop} {Φ : qS → Nat} (S0 : CallFix p m c cL_law 7 s #[.ref b] gws "LeasehallLaw") (hst : l.stackTraces = false) (hX : va_X b L xs s s.heap) (hbl : b < s.heap.size) (hL : L ≤ 4096) (hG : qG s.heap.size s s.heap) (hE : qE s.heap.size e0 s s.heap) (hNc : qNc s) (hΦ : ∀ n σ σm, I n σ σm → Φ σ ≤ 90000) (hc : cI_snapshot F I Φ) (hn : 8 * n + 8 ≤ L) (next : lNext p l e s m b below meth c Q D Y am x0 o e0 I Φ n (n + 1) 2620) : lNext p l e s m b below meth c Q D Y am x0 o e0 I Φ n n 2550 := by
  intro ad σ σm g H locs ls cells slots hw h0 hok hI hcl hsl hl
  have hbA : ¬ lA s b := Nat.not_le.mpr hbl
  have hAB : ∀ q, lA s q → s.heap.size ≤ q := fun _ h => h
  have hn5 : n < 512 := by omega
  obtain ⟨v, σ9, σm9, f1, f2, f5, f6⟩ := hc n σ σm hn5 hI
  have hΦ9 := hΦ _ _ _ f5
  subst h0
  refine lv_aload_n S0.1 S0.2.1 dL_law_2550 rfl (lv_at hl 1 rfl) ?_
  refine l_clsi S0 hw (As := []) (rest := []) (wX8_snapshot l D Y ad F σ) qyX8_snapshot kw_303 ⟨Nat.le_of_ble_eq_true rfl, Nat.le_of_ble_eq_true rfl⟩ f1 rfl hl.1 (Nat.le_of_ble_eq_true rfl) dL_law_2551 ⟨show cells ≤ 601024 by omega, show slots ≤ 7293034 by omega⟩ rfl (fun H locs hw1 => ?_)
  refine lv_aload_n S0.1 S0.2.1 dL_law_2554 rfl (lv_at hl 2 rfl) ?_
  refine l_refi S0 hw1 (As := []) (rest := [.int v]) (wX9_snapshot l D Y am F σm) qyX9_snapshot kw_1611 ⟨Nat.le_of_ble_eq_true rfl, Nat.le_of_ble_eq_true rfl⟩ f2 rfl hl.1 (Nat.le_of_ble_eq_true rfl) dL_law_2555 ⟨show cells ≤ 601024 by omega, show slots ≤ 7293034 by omega⟩ rfl (fun H locs hw2 => ?_)
  refine lv_icmp_eq (tgt := 2620) S0.1 S0.2.1 dL_law_2558 (by decide) (fun c1 => ?_) (fun c1 => absurd rfl c1)
  exact next ad σ9 σm9 g _ _ ls cells slots hw2 rfl (hok.same (gn_fX8_snapshot f1)) f5 (by omega) (by omega) (lv_sub hl [0, 1, 2, 3, 4] rfl)
theorem qyX9_restore : qY yX9_restore RX9 cX9_restore 2 (some .int) 0 := ⟨⟨kw_1616, kw_1617, kw_11, kw_1618⟩, rfl, by decide, by decide, by decide +kernel⟩
set_option maxRecDepth 100000 in
set_option maxHeartbeats 4000000 in
theorem wLaw_restore {p : Program} {l : Launch} {e : Env} {s : State} {m : MethodId} {below : List Frame} {meth : Method} {c : Code} {Q : State → Prop} {D : va_G} {Y : Nat → ClassId} {am : qAd} {b L : Nat} {xs : Nat → Int32} {x0 o e0 F n : Nat} {I : Nat → qS → qS → Prop} {Φ : qS → Nat} (S0 : CallFix p m c cL_law 7 s #[.ref b] gws "LeasehallLaw") (hst : l.stackTraces = false) (hX : va_X b L xs s s.heap) (hbl : b < s.heap.size) (hL : L ≤ 4096) (hG : qG s.heap.size s s.heap) (hE : qE s.heap.size e0 s s.heap) (hNc : qNc s) (hΦ : ∀ n σ σm, I n σ σm → Φ σ ≤ 90000) (hc : cI_restore F I Φ) (hn : 8 * n + 8 ≤ L) (next : lNext p l e s m b below meth c Q D Y am x0 o e0 I Φ n (n + 1) 2620) : lNext p l e s m b below meth c Q D Y am x0 o e0 I Φ n n 2563 := by
  intro ad σ σm g H locs ls cells slots hw h0 hok hI hcl hsl hl
  have hbA : ¬ lA s b := Nat.not_le.mpr hbl
  have hAB : ∀ q, lA s q → s.heap.size ≤ q := fun _ h => h
  have hn5 : n < 512 := by omega
  obtain ⟨v, ex, σ9, w, σm9, f1, f2, f3, f4, f5, f6⟩ := hc n σ σm hn5 hI
  have hΦ9 := hΦ _ _ _ f5
  replace f6 : 0 + Φ σ ≤ Φ σ9 := f6
  subst h0
  refine lv_aload_n S0.1 S0.2.1 dL_law_2563 rfl (lv_at hl 1 rfl) ?_
  refine lv_aload_n S0.1 S0.2.1 dL_law_2564 rfl (lv_at hl 3 rfl) ?_
  refine l_wrap (n := 2) S0 hG hE hNc hAB hok hw (As := [.ref (ad 0 0), .ref o]) (rest := []) (wL_restore l hst D Y ad o g s.heap.size e0 F σ) kw_1129 kw_1127 kw_1128 kw_0 ⟨by decide, by decide, by decide +kernel⟩ ⟨Nat.le_of_ble_eq_true rfl, Nat.le_of_ble_eq_true rfl⟩ f1 rfl hl.1 (Nat.le_of_ble_eq_true rfl) dL_law_2565 ⟨show cells + 1 ≤ 601024 by omega, show slots + 6 ≤ 7293034 by omega⟩ rfl (fun ad9 H locs hw1 h00 hok => ?_)
  replace h00 : ad9 0 0 = ad 0 0 := h00
  refine lv_istore (lv' := [(5, .int ((fun e => if e = 0 then 0 else if e = 3 then 1 else 0) ex)), (0, .ref b), (1, .ref (ad 0 0)), (2, .ref (am 0 0)), (3, .ref o), (4, .int (nI (8 * n)))]) S0.1 S0.2.1 dL_law_2568 hl (by decide) rfl (fun ls hl => ?_)
  refine lv_aload_n S0.1 S0.2.1 dL_law_2570 rfl (lv_at hl 3 rfl) ?_
  refine l_refi S0 hw1 (As := []) (rest := []) (wX9_restore l D Y am F σm) qyX9_restore kw_1615 ⟨Nat.le_of_ble_eq_true rfl, Nat.le_of_ble_eq_true rfl⟩ f2 rfl hl.1 (Nat.le_of_ble_eq_true rfl) dL_law_2571 ⟨show cells + 1 ≤ 601024 by omega, show slots + 6 ≤ 7293034 by omega⟩ rfl (fun H locs hw2 => ?_)
  refine lv_istore (lv' := [(6, .int w), (5, .int ((fun e => if e = 0 then 0 else if e = 3 then 1 else 0) ex)), (0, .ref b), (1, .ref (ad 0 0)), (2, .ref (am 0 0)), (3, .ref o), (4, .int (nI (8 * n)))]) S0.1 S0.2.1 dL_law_2574 hl (by decide) rfl (fun ls hl => ?_)
  refine lv_aload_n S0.1 S0.2.1 dL_law_2576 rfl (lv_at hl 4 rfl) ?_
  refine l_refi S0 hw2 (As := []) (rest := []) (wX9_thrown l D Y am F σm9) qyX9_thrown kw_1323 ⟨Nat.le_of_ble_eq_true rfl, Nat.le_of_ble_eq_true rfl⟩ f3 rfl hl.1 (Nat.le_of_ble_eq_true rfl) dL_law_2577 ⟨show cells + 1 ≤ 601024 by omega, show slots + 6 ≤ 7293034 by omega⟩ rfl (fun H locs hw3 => ?_)
  refine lv_iload S0.1 S0.2.1 dL_law_2580 (lv_at hl 1 rfl) ?_
  refine lv_icmp_eq (tgt := 2587) S0.1 S0.2.1 dL_law_2582 (by decide) (fun c1 => ?_) (fun c1 => absurd rfl c1)
  refine lv_iload S0.1 S0.2.1 dL_law_2587 (lv_at hl 1 rfl) ?_
  refine lv_if_ne (tgt := 2604) S0.1 S0.2.1 dL_law_2589 (by decide) (fun c2 => ?_) (fun c2 => ?_)
  · refine lv_goto (tgt := 2620) S0.1 S0.2.1 dL_law_2604 (by decide) ?_
    exact next ad9 σ9 σm9 _ _ _ ls _ _ hw3 h00 hok f5 (show cells + 1 ≤ 126 + 20 * (n + 1) + Φ σ9 by omega) (show slots + 6 ≤ 544257 + 130 * (n + 1) + 2 * Φ σ9 by omega) (lv_sub hl [2, 3, 4, 5, 6] rfl)
  · obtain ⟨rfl, rfl⟩ := f4 (Decidable.not_not.mp (fun h => h c2))
    refine lv_aload_n S0.1 S0.2.1 dL_law_2592 rfl (lv_at hl 5 rfl) ?_
    refine lv_iconst (v := 0) S0.1 S0.2.1 dL_law_2593 (by decide) ?_
    refine l_out0 S0 hw3 dL_law_2594 ?_
    refine lv_iload S0.1 S0.2.1 dL_law_2595 (lv_at hl 0 rfl) ?_
    refine lv_i2l (v := v.toInt64) S0.1 S0.2.1 dL_law_2597 rfl ?_
    refine l_lcmp0 S0 (x := v.toInt64) dL_law_2598 ?_
    refine lv_if_eq (tgt := 2604) S0.1 S0.2.1 dL_law_2599 (by decide) (fun c3 => ?_) (fun c3 => absurd rfl c3)
    refine lv_goto (tgt := 2620) S0.1 S0.2.1 dL_law_2604 (by decide) ?_
    exact next ad9 σ9 σm9 _ _ _ ls _ _ hw3 h00 hok f5 (show cells + 1 ≤ 126 + 20 * (n + 1) + Φ σ9 by omega) (show slots + 6 ≤ 544257 + 130 * (n + 1) + 2 * Φ σ9 by omega) (lv_sub hl [2, 3, 4, 5, 6] rfl)
theorem qyX9_changes : qY yX9_changes RX9 cX9_changes 1 (some .int) 0 := ⟨⟨kw_1620, kw_1621, kw_11, kw_1622⟩, rfl, by decide, by decide, by decide +kernel⟩
theorem qyX8_changes : qY yX8_changes RX8 cX8_changes 1 (some .int) 0 := ⟨⟨kw_321, kw_322, kw_1, kw_323⟩, rfl, by decide, by decide, by decide +kernel⟩
set_option maxRecDepth 100000 in
set_option maxHeartbeats 4000000 in
theorem wLaw_changes {p : Program} {l : Launch} {e : Env} {s : State} {m : MethodId} {below : List Frame} {meth : Method} {c : Code} {Q : State → Prop} {D : va_G} {Y : Nat → ClassId} {am : qAd} {b L : Nat} {xs : Nat → Int32} {x0 o e0 F n : Nat} {I : Nat → qS → qS → Prop} {Φ : qS → Nat} (S0 : CallFix p m c cL_law 7 s #[.ref b] gws "LeasehallLaw") (hst : l.stackTraces = false) (hX : va_X b L xs s s.heap) (hbl : b < s.heap.size) (hL : L ≤ 4096) (hG : qG s.heap.size s s.heap) (hE : qE s.heap.size e0 s s.heap) (hNc : qNc s) (hΦ : ∀ n σ σm, I n σ σm → Φ σ ≤ 90000) (hc : cI_changes F I Φ) (hn : 8 * n + 8 ≤ L) (next : lNext p l e s m b below meth c Q D Y am x0 o e0 I Φ n (n + 1) 2620) : lNext p l e s m b below meth c Q D Y am x0 o e0 I Φ n n 2607 := by
  intro ad σ σm g H locs ls cells slots hw h0 hok hI hcl hsl hl
  have hbA : ¬ lA s b := Nat.not_le.mpr hbl
  have hAB : ∀ q, lA s q → s.heap.size ≤ q := fun _ h => h
  have hn5 : n < 512 := by omega
  obtain ⟨v, σ9, σm9, f1, f2, f5, f6⟩ := hc n σ σm hn5 hI
  have hΦ9 := hΦ _ _ _ f5
  subst h0
  refine lv_aload_n S0.1 S0.2.1 dL_law_2607 rfl (lv_at hl 1 rfl) ?_
  refine l_clsi S0 hw (As := []) (rest := []) (wX8_changes l D Y ad F σ) qyX8_changes kw_320 ⟨Nat.le_of_ble_eq_true rfl, Nat.le_of_ble_eq_true rfl⟩ f1 rfl hl.1 (Nat.le_of_ble_eq_true rfl) dL_law_2608 ⟨show cells ≤ 601024 by omega, show slots ≤ 7293034 by omega⟩ rfl (fun H locs hw1 => ?_)
  refine lv_aload_n S0.1 S0.2.1 dL_law_2611 rfl (lv_at hl 2 rfl) ?_
  refine l_refi S0 hw1 (As := []) (rest := [.int v]) (wX9_changes l D Y am F σm) qyX9_changes kw_1619 ⟨Nat.le_of_ble_eq_true rfl, Nat.le_of_ble_eq_true rfl⟩ f2 rfl hl.1 (Nat.le_of_ble_eq_true rfl) dL_law_2612 ⟨show cells ≤ 601024 by omega, show slots ≤ 7293034 by omega⟩ rfl (fun H locs hw2 => ?_)
  refine lv_icmp_eq (tgt := 2620) S0.1 S0.2.1 dL_law_2615 (by decide) (fun c1 => ?_) (fun c1 => absurd rfl c1)
  exact next ad σ9 σm9 g _ _ ls cells slots hw2 rfl (hok.same (gn_fX8_changes f1)) f5 (by omega) (by omega) (lv_sub hl [0, 1, 2, 3, 4] rfl)

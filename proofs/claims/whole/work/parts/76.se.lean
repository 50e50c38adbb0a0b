/-! PURE: acts are kept or taken back as was asked, in both -/
theorem kA_slot {σ m : qS} {C : Nat → qS} {π : Nat → Nat} {M S q q' : Nat} {v v' : Int32} (h : kA σ m C π M S) (hq' : q' ≠ 25 ∧ q' ≠ 7) : kA (qI σ 0 0 q v) (qI m 0 0 q' v') C π M S := by
  obtain ⟨h1, h2, h3, h4, h5⟩ := h
  have o : ∀ f k, f ≠ 0 → (qI σ 0 0 q v).1 f 0 k = σ.1 f 0 k := fun f k hf => by rw [qI_ap, if_neg (by omega)]
  have p : ∀ f k, f ≠ 0 → (qI m 0 0 q' v').1 f 0 k = m.1 f 0 k := fun f k hf => by rw [qI_ap, if_neg (by omega)]
  refine ⟨kLog_mfr (kLog_fr h1 (fun f hf => by funext k; exact o f k (by omega))) (by rw [qI_ap, if_neg (by omega)]) (fun f q k1 k2 => p f q (by omega)), kBr_mfr (kBr_fr h2 (fun f hf => by funext k; exact o f k (by omega))) (by rw [qI_ap, if_neg (by omega)]) (fun f q k1 k2 => p f q (by omega)), fun f k k1 k2 k3 => by rw [o f k (by omega)]; exact h3 f k k1 k2 k3, rEq_m h4 (fun f q k1 k2 k3 k4 => p f q (by omega)), fun k k1 => by rw [p 105 k (by omega)]; exact h5 k k1⟩
theorem kD_slot {σ m : qS} {C : Nat → qS} {π : Nat → Nat} {M M0 S S0 L Z q q' : Nat} {v v' : Int32} (h : kD σ m C π M M0 S S0 L Z) (hS9 : S0 ≤ 999) (hq : q ≠ 15) (hq' : q' ≠ 25 ∧ q' ≠ 7 ∧ q' ≠ 26 ∧ q' ≠ 48) : kD (qI σ 0 0 q v) (qI m 0 0 q' v') C π M M0 S S0 L Z :=
  kD_same h hS9 (kA_slot h.1 ⟨hq'.1, hq'.2.1⟩) rfl (fun f j k w1 w2 w3 w4 w5 w6 => by rw [qI_ap, if_neg (by omega)]) (fun f j k w => by rw [qI_ap, if_neg (by omega)])
/-- what acts and servers leave alone -/
def stF (σ σ' : qS) : Prop := σ'.2 = σ.2 ∧ ∀ f j k, f ≠ 38 → f ≠ 39 → ¬ (31 ≤ f ∧ f ≤ 37 ∧ j ≤ 2) → f ≠ 8 → f ≠ 9 → f ≠ 1 → ¬ (f = 0 ∧ j = 0 ∧ (k = 15 ∨ k = 17)) → σ'.1 f j k = σ.1 f j k
def stM (m m' : qS) (Z : Nat) : Prop := m'.2 = m.2 ∧ ∀ f j q, (((f = 143 ∨ f = 146) ∧ Z ≤ q) ∨ (f = 0 ∧ q ≠ 7 ∧ q ≠ 25 ∧ q ≠ 26 ∧ q ≠ 54) ∨ f = 106 ∨ (108 ≤ f ∧ f ≤ 114 ∧ 240 ≤ q) ∨ (115 ≤ f ∧ f ≤ 128) ∨ (131 ≤ f ∧ f ≤ 140) ∨ f = 145 ∨ 147 ≤ f) → m'.1 f j q = m.1 f j q
section SE
variable {F : Nat}
theorem pr_settle {σ m : qS} {C : Nat → qS} {π : Nat → Nat} {M M0 S S0 L Z z : Nat} (h : kD σ m C π M M0 S S0 L Z) (hS : S ≤ 999) (hR : π S ≤ 90000) (hZ : Z ≤ 10) (hf : kBf σ m (C S0) M0 (π S0)) (hv : ∀ k, k < 80 → ∃ y, y ≤ π S0 ∧ (C S0).1 33 0 k = nI y) (hQ : ∀ k, k < 80 → M0 ≤ k → σ.1 14 0 k = 80) (h27 : m.1 0 0 27 = nI (L + 1)) (hL9 : L + 1 < 2 ^ 31) (hN : σ.2 0 0 = Z) (hz : z < Z) (hl : m.1 135 0 z = 0) (hlo : (σ.1 0 0 17 = 0 ∧ m.1 0 0 54 = 0) ∨ (σ.1 0 0 17 = 1 ∧ m.1 0 0 54 = 2) ∨ (σ.1 0 0 17 = 2 ∧ m.1 0 0 54 = 1)) (hF : 100000 ≤ F) :
    ∃ v r σ' m' M' S' L', fX8_settle F z σ = some (v, σ') ∧ fX9_settles F (nI z) m = some (r, m') ∧ ((v = 1 ∧ r = 0) ∨ (v = 0 ∧ r = 1)) ∧ kD σ' m' C π M' M' S' S' L' Z ∧ ((M' = M0 ∧ S' = S0 ∧ L' = L) ∨ (M' = M ∧ S' = S ∧ L ≤ L' ∧ L' ≤ L + 1)) ∧ σ'.1 0 0 17 = 0 ∧ m'.1 0 0 54 = 0 ∧ stF σ σ' ∧ stM m m' Z := by
  have o : ∀ f j k, ¬ (f = 0 ∧ j = 0 ∧ k = 17) → (qI σ 0 0 17 0).1 f j k = σ.1 f j k := fun f j k w => by rw [qI_ap, if_neg w]
  have hS0 := h.2.2.2.2.1
  have hA1 : kA (qI σ 0 0 17 0) m C π M S := by
    obtain ⟨h1, h2, h3, h4, h5⟩ := h.1
    exact ⟨kLog_fr h1 (fun f hf => by funext k; exact o f 0 k (by omega)), kBr_fr h2 (fun f hf => by funext k; exact o f 0 k (by omega)), fun f k k1 k2 k3 => by rw [o f 0 k (by omega)]; exact h3 f k k1 k2 k3, h4, h5⟩
  have h1 : kD (qI σ 0 0 17 0) m C π M M0 S S0 L Z := kD_same h (by omega) hA1 rfl (fun f j k w1 w2 w3 w4 w5 w6 => o f j k (by omega)) (fun _ _ _ _ => rfl)
  obtain ⟨f1, f2, f3, f4, f5, f6⟩ := hf
  have hf1 : kBf (qI σ 0 0 17 0) m (C S0) M0 (π S0) := ⟨fun f k k1 k2 k3 => by rw [o f 3 k (by omega)]; exact f1 f k k1 k2 k3, by rw [o 0 0 13 (by omega)]; exact f2, f3, f4, f5, f6⟩
  have c17 : (qI σ 0 0 17 0).1 0 0 17 = 0 := by rw [qI_ap, if_pos ⟨rfl, rfl, rfl⟩]
  have fin : ∀ {σ' m' : qS} {M' S' L' : Nat}, kD σ' m' C π M' M' S' S' L' Z → S' ≤ 999 → kD σ' (qI m' 0 0 54 0) C π M' M' S' S' L' Z := fun hk h9 => kD_same hk h9 (by
    obtain ⟨h1, h2, h3, h4, h5⟩ := hk.1
    exact ⟨kLog_mfr h1 (by rw [qI_ap, if_neg (by omega)]) (fun f q k1 k2 => by rw [qI_ap, if_neg (by omega)]), kBr_mfr h2 (by rw [qI_ap, if_neg (by omega)]) (fun f q k1 k2 => by rw [qI_ap, if_neg (by omega)]), h3, rEq_m h4 (fun f q k1 k2 k3 k4 => by rw [qI_ap, if_neg (by omega)]), fun k k1 => by rw [qI_ap, if_neg (by omega)]; exact h5 k k1⟩) rfl (fun _ _ _ _ _ _ _ _ _ => rfl) (fun f j q w => by rw [qI_ap, if_neg (by omega)])
  unfold fX8_settle fX9_settles
  repeat rw [nm_x]
  rcases hlo with ⟨e1, e2⟩ | ⟨e1, e2⟩ | ⟨e1, e2⟩
  all_goals rw [e1, e2]
  · obtain ⟨σ1, m1, L', a1, a2, a3, a4, a5, a6, a7, a8⟩ := kD_commit (F := F) h1 hS hR hZ (fun _ => h27) f5 hL9 hF
    have hl1 : m1.1 135 0 z = 0 := by rw [a8.2 135 0 z (by omega) (by omega) (fun z _ => by omega)]; exact hl
    obtain ⟨q1, q2, q3⟩ := a3.2.2.2.1 z hz hl1
    have hcg := (a3.2.1 _ q1).2.2.2.2.2.1
    obtain ⟨σ2, m2, b1, b2, b3, b4, b5⟩ := kD_catch (F := F) (p := L') a3 hS hR hZ q1 (by omega) (by omega) hF
    rw [if_neg (by decide), a1, bnd_s, a7.1, show (qI σ 0 0 17 0).2 0 0 = Z from hN, gnl_pos hz]
    repeat rw [nm_x]
    have e22 : (qI σ 0 0 17 0).2 2 z = σ1.2 2 z := by rw [a7.1]
    rw [e22, a3.2.2.2.2.2.2.2.2.1, b1, bnd2_s, if_pos rfl]
    unfold fX8_settle_47 fX9_settles_12 fX9_settles_46
    rw [gbl_1, if_pos (by decide)]
    repeat rw [nm_x]
    rw [e2, if_neg (by decide), a2, bnd_s, ldi_nI (by omega) (by decide), q2]
    repeat rw [nm_x]
    rw [a3.2.2.2.2.2.2.2.2.2.1]
    have eu : cgN σ1 (σ1.2 2 z) + min L' (L' - cgN σ1 (σ1.2 2 z)) = L' := by omega
    rw [eu] at b2
    rw [b2, bnd_s]
    repeat rw [nm_x]
    rw [gbl_0]
    exact ⟨1, 0, σ2, qI m2 0 0 54 0, M, S, L', rfl, rfl, Or.inl ⟨rfl, rfl⟩, fin b3 hS, Or.inr ⟨rfl, rfl, a4, a5⟩, by rw [b4.2 0 0 17 (by omega) (by omega) (by omega) (by omega), a7.2 0 0 17 (by omega) (by omega), c17], by rw [qI_ap, if_pos ⟨rfl, rfl, rfl⟩], ⟨b4.1.trans a7.1, fun f j k w1 w2 w3 w4 w5 w6 w7 => by rw [b4.2 f j k w1 w2 (by omega) (by omega), a7.2 f j k (by omega) (by omega), o f j k (by omega)]⟩, ⟨b5.1.trans a8.1, fun f j q w => by rw [qI_ap, if_neg (by omega), b5.2 f j q (by omega) (by omega) (fun z hz => by have := hz.1; omega), a8.2 f j q (by omega) (by omega) (fun z hz => by have := hz.1; omega)]⟩⟩
  · obtain ⟨σ1, m1, L', a1, a2, a3, a4, a5, a6, a7, a8⟩ := kD_commit (F := F) h1 hS hR hZ (fun _ => h27) f5 hL9 hF
    have hl1 : m1.1 135 0 z = 0 := by rw [a8.2 135 0 z (by omega) (by omega) (fun z _ => by omega)]; exact hl
    obtain ⟨q1, q2, q3⟩ := a3.2.2.2.1 z hz hl1
    have hcg := (a3.2.1 _ q1).2.2.2.2.2.1
    obtain ⟨σ2, m2, b1, b2, b3, b4, b5⟩ := kD_catch (F := F) (p := L') a3 hS hR hZ q1 (by omega) (by omega) hF
    rw [if_neg (by decide), a1, bnd_s, a7.1, show (qI σ 0 0 17 0).2 0 0 = Z from hN, gnl_pos hz]
    repeat rw [nm_x]
    have e22 : (qI σ 0 0 17 0).2 2 z = σ1.2 2 z := by rw [a7.1]
    rw [e22, a3.2.2.2.2.2.2.2.2.1, b1, bnd2_s, if_neg (by decide)]
    unfold fX8_settle_47 fX9_settles_12 fX9_settles_46
    rw [gbl_0, if_neg (by decide)]
    repeat rw [nm_x]
    rw [e2, if_neg (by decide), a2, bnd_s, ldi_nI (by omega) (by decide), q2]
    repeat rw [nm_x]
    rw [a3.2.2.2.2.2.2.2.2.2.1]
    have eu : cgN σ1 (σ1.2 2 z) + min L' (L' - cgN σ1 (σ1.2 2 z)) = L' := by omega
    rw [eu] at b2
    rw [b2, bnd_s]
    repeat rw [nm_x]
    rw [gbl_1]
    exact ⟨0, 1, σ2, qI m2 0 0 54 0, M, S, L', rfl, rfl, Or.inr ⟨rfl, rfl⟩, fin b3 hS, Or.inr ⟨rfl, rfl, a4, a5⟩, by rw [b4.2 0 0 17 (by omega) (by omega) (by omega) (by omega), a7.2 0 0 17 (by omega) (by omega), c17], by rw [qI_ap, if_pos ⟨rfl, rfl, rfl⟩], ⟨b4.1.trans a7.1, fun f j k w1 w2 w3 w4 w5 w6 w7 => by rw [b4.2 f j k w1 w2 (by omega) (by omega), a7.2 f j k (by omega) (by omega), o f j k (by omega)]⟩, ⟨b5.1.trans a8.1, fun f j q w => by rw [qI_ap, if_neg (by omega), b5.2 f j q (by omega) (by omega) (fun z hz => by have := hz.1; omega), a8.2 f j q (by omega) (by omega) (fun z hz => by have := hz.1; omega)]⟩⟩
  · obtain ⟨σ1, m1, a1, a2, a3, a4, a5⟩ := kD_undo (F := F) h1 hS hf1 hv (fun k k1 k2 => by rw [o 14 0 k (by omega)]; exact hQ k k1 k2) (by omega)
    rw [if_pos rfl, a1, bnd_s, gbl_0]
    unfold fX9_settles_12 fX9_settles_46
    rw [if_neg (by decide)]
    repeat rw [nm_x]
    rw [e2, if_pos rfl, a2, bnd_s]
    repeat rw [nm_x]
    rw [gbl_1]
    exact ⟨0, 1, σ1, qI m1 0 0 54 0, M0, S0, L, rfl, rfl, Or.inr ⟨rfl, rfl⟩, fin a3 (by omega), Or.inl ⟨rfl, rfl, rfl⟩, by rw [a4.2, if_neg (by omega), if_neg (by omega), if_neg (by omega), c17], by rw [qI_ap, if_pos ⟨rfl, rfl, rfl⟩], ⟨a4.1, fun f j k w1 w2 w3 w4 w5 w6 w7 => by rw [a4.2, if_neg (by omega), if_neg (by omega), if_neg (by omega), o f j k (by omega)]⟩, ⟨a5.1, fun f j q w => by rw [qI_ap, if_neg (by omega), a5.2, if_neg (by omega), if_neg (by omega), if_neg (by omega), if_neg (by omega)]⟩⟩
end SE

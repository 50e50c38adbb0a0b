/-! PURE: acts are kept or taken back as was asked, in both -/
theorem kA_slot {σ m : qS} {C : Nat → qS} {π : Nat → Nat} {M S q q' : Nat} {v v' : Int32} (h : kA σ m C π M S) (hq' : q' ≠ 25 ∧ q' ≠ 7) : kA (qI σ 0 0 q v) (qI m 0 0 q' v') C π M S := by
  obtain ⟨h1, h2, h3, h4, h5⟩ := h
  have o : ∀ f k, f ≠ 0 → (qI σ 0 0 q v).1 f 0 k = σ.1 f 0 k := fun f k hf => by rw [qI_ap, if_neg (by omega)]
  have p : ∀ f k, f ≠ 0 → (qI m 0 0 q' v').1 f 0 k = m.1 f 0 k := fun f k hf => by rw [qI_ap, if_neg (by omega)]
  refine ⟨kLog_mfr (kLog_fr h1 (fun f hf => by funext k; exact o f k (by omega))) (by rw [qI_ap, if_neg (by omega)]) (fun f q k1 k2 => p f q (by omega)), kBr_mfr (kBr_fr h2 (fun f hf => by funext k; exact o f k (by omega))) (by rw [qI_ap, if_neg (by omega)]) (fun f q k1 k2 => p f q (by omega)), fun f k k1 k2 k3 => by rw [o f k (by omega)]; exact h3 f k k1 k2 k3, rEq_m h4 (fun f q k1 k2 k3 k4 => p f q (by omega)), fun k k1 => by rw [p 105 k (by omega)]; exact h5 k k1⟩
theorem kD_slot {σ m : qS} {C : Nat → qS} {π : Nat → Nat} {M M0 S S0 L Z q q' : Nat} {v v' : Int32} (h : kD σ m C π M M0 S S0 L Z) (hS9 : S0 ≤ 999) (hq : q ≠ 15) (hq' : q' ≠ 25 ∧ q' ≠ 7 ∧ q' ≠ 26 ∧ q' ≠ 48) : kD (qI σ 0 0 q v) (qI m 0 0 q' v') C π M M0 S S0 L Z :=
  kD_same h hS9 (kA_slot h.1 ⟨hq'.1, hq'.2.1⟩) rfl (fun f j k w1 w2 w3 w4 w5 w6 => by rw [qI_ap, if_neg (by omega)]) (fun f j k w => by rw [qI_ap, if_neg (by omega)])

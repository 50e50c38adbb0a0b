/-! PURE: all that moves, when acts begin -/
theorem kD_same {σ m σ' m' : qS} {C : Nat → qS} {π : Nat → Nat} {M M0 S S0 L Z : Nat} (h : kD σ m C π M M0 S S0 L Z) (hS9 : S0 ≤ 999) (hA : kA σ' m' C π M S) (hN : σ'.2 = σ.2) (o : ∀ f j k, f ≠ 38 → f ≠ 39 → ¬ (f = 0 ∧ j = 0 ∧ k ≠ 15) → ¬ (31 ≤ f ∧ f ≤ 37 ∧ (j = 0 ∨ 3 ≤ j)) → f ≠ 9 → f ≠ 1 → σ'.1 f j k = σ.1 f j k) (p : ∀ f j q, (f = 0 ∧ j = 0 ∧ (q = 26 ∨ q = 48)) ∨ f = 106 ∨ (108 ≤ f ∧ f ≤ 114 ∧ 80 ≤ q ∧ q < 240) ∨ 125 ≤ f → m'.1 f j q = m.1 f j q) : kD σ' m' C π M M0 S S0 L Z := by
  obtain ⟨hA0, hsv, hch, hH, hS, hM, hg, hq, hL, hLm, h48⟩ := h
  have est : ∀ s, stN σ' s = stN σ s := fun s => by unfold stN; rw [o 8 s 2 (by omega) (by omega) (by omega) (by omega) (by omega) (by omega)]
  have ecg : ∀ s, cgN σ' s = cgN σ s := fun s => by unfold cgN; rw [o 8 s 1 (by omega) (by omega) (by omega) (by omega) (by omega) (by omega)]
  have ech : ∀ i, chN σ' i = chN σ i := fun i => by unfold chN; rw [o 10 0 i (by omega) (by omega) (by omega) (by omega) (by omega) (by omega)]
  refine ⟨hA, fun s hs => ?_, ⟨fun i hi => by rw [ech]; exact hch.1 i hi, fun i h1 h2 => by rw [ech]; exact hch.2.1 i h1 h2, fun i j h1 h2 => by rw [ech, ech]; exact hch.2.2 i j h1 h2⟩, fun z hz hl => ?_, hS, hM, hg, fun k hk => ?_, by rw [o 0 0 15 (by omega) (by omega) (by omega) (by omega) (by omega) (by omega)]; exact hL, by rw [p 0 0 26 (by omega)]; exact hLm, by rw [p 0 0 48 (by omega)]; exact h48⟩
  · obtain ⟨v1, v2, v3, v4, v5, v6, v7, v8, v9⟩ := hsv s hs
    rw [est, ecg, o 8 s 2 (by omega) (by omega) (by omega) (by omega) (by omega) (by omega), o 8 s 1 (by omega) (by omega) (by omega) (by omega) (by omega) (by omega), p 129 0 s (by omega), p 130 0 s (by omega)]
    exact ⟨v1, v2, v3, v4, v5, v6, fun i hi => by rw [ech]; exact v7 i hi, fun h => ⟨fun f k k1 k2 k3 => by
      rw [o f s k (by omega) (by omega) (by omega) (by omega) (by omega) (by omega)]
      exact (v8 h).1 f k k1 k2 k3, rEq_m (v8 h).2 (fun f q k1 k2 k3 k4 => p f 0 q (by omega))⟩, v9⟩
  · have hl' : m.1 135 0 z = 0 := by rw [← p 135 0 z (by omega)]; exact hl
    obtain ⟨q1, q2, q3⟩ := hH z hz hl'
    have hv := hsv _ q1
    rw [hN, est]
    refine ⟨q1, by rw [p 132 0 z (by omega)]; exact q2, ?_⟩
    have h1 : kHz σ m' z (stN σ (σ.2 2 z)) := ⟨q3.1, q3.2.1, ssM_fr q3.2.2 (fun f q hq => p f 0 q (by omega)) (by
      have := hv.2.2.2.2.1
      omega)⟩
    exact kHz_fr h1 (by funext q; exact o 2 0 q (by omega) (by omega) (by omega) (by omega) (by omega) (by omega)) (fun i _ => ⟨o 11 0 i (by omega) (by omega) (by omega) (by omega) (by omega) (by omega), o 12 0 i (by omega) (by omega) (by omega) (by omega) (by omega) (by omega)⟩) ⟨o 50 z 10 (by omega) (by omega) (by omega) (by omega) (by omega) (by omega), o 50 z 11 (by omega) (by omega) (by omega) (by omega) (by omega) (by omega)⟩ (by funext q; exact o 53 z q (by omega) (by omega) (by omega) (by omega) (by omega) (by omega)) (by funext q; exact o 54 z q (by omega) (by omega) (by omega) (by omega) (by omega) (by omega)) (by funext q; exact o 55 z q (by omega) (by omega) (by omega) (by omega) (by omega) (by omega)) (by funext q; exact o 58 z q (by omega) (by omega) (by omega) (by omega) (by omega) (by omega)) (by rw [hN])
  · rw [o 14 0 k (by omega) (by omega) (by omega) (by omega) (by omega) (by omega), p 106 0 k (by omega)]
    exact hq k hk
section DB
variable {F : Nat}
theorem kD_begin {σ m : qS} {C : Nat → qS} {π : Nat → Nat} {M S L Z : Nat} (h : kD σ m C π M M S S L Z) (hS9 : S ≤ 999) (hF : 100 ≤ F) : ∃ σ' m', fX8_begin F σ = some σ' ∧ fX9_begin F m = some m' ∧ kD σ' m' C π M M S S L Z ∧ kBf σ' m' (C S) M (π S) ∧ m'.1 0 0 27 = nI (L + 1) ∧ bgS σ σ' ∧ bgM m m' := by
  obtain ⟨σ', m', a1, a2, a3, a4, a5, a6, a7⟩ := pr_begin (F := F) h.1 h.2.2.2.2.2.2.2.2.2.1 hF
  refine ⟨σ', m', a1, a2, kD_same h hS9 a3 a6.1 (fun f j k w1 w2 w3 w4 w5 w6 => ?_) (fun f j q w => ?_), a4, a5, a6, a7⟩
  · rw [a6.2, if_neg (by omega), if_neg (by omega)]
  · rw [a7.2, if_neg (by omega), if_neg (by omega), if_neg (by omega), if_neg (by omega), if_neg (by omega)]
/-- acts taken back: all that moves is as it was -/
theorem kD_undo {σ m : qS} {C : Nat → qS} {π : Nat → Nat} {M M0 S S0 L Z : Nat} (h : kD σ m C π M M0 S S0 L Z) (hS9 : S ≤ 999) (hf : kBf σ m (C S0) M0 (π S0)) (hv : ∀ k, k < 80 → ∃ y, y ≤ π S0 ∧ (C S0).1 33 0 k = nI y) (hQ : ∀ k, k < 80 → M0 ≤ k → σ.1 14 0 k = 80) (hF : 100 ≤ F) : ∃ σ' m', fX8_undo F σ = some σ' ∧ fX9_undo F m = some m' ∧ kD σ' m' C π M0 M0 S0 S0 L Z ∧ udS σ σ' ∧ udM m m' := by
  obtain ⟨hA, hsv, hch, hH, hS, hM, hg, hq, hL, hLm, h48⟩ := h
  have hM1 := (hg S0 (Nat.le_refl _)).1.2.1
  have h8 : σ.1 8 0 2 = nI S0 := by
    have := (hsv 0 (by decide))
    rw [← (this.2.2.2.2.2.2.2.2 rfl).1]
    exact this.1
  obtain ⟨σ', m', a1, a2, a3, a4, a5⟩ := pr_undo (F := F) hA hS hM hM1 hg hf h8 hv hF
  have h0 : kD σ' m' C π M0 M0 S0 S0 L Z := by
    have o : ∀ f j k, f ≠ 38 → f ≠ 39 → ¬ (31 ≤ f ∧ f ≤ 37 ∧ j = 0) → f ≠ 9 → f ≠ 1 → σ'.1 f j k = σ.1 f j k := fun f j k w1 w2 w3 w4 w5 => by
      rw [a4.2, if_neg (by omega), if_neg (by omega), if_neg (by omega)]
    have p : ∀ f j q, (f = 0 ∧ q ≠ 25 ∧ q ≠ 7) ∨ f = 106 ∨ (108 ≤ f ∧ f ≤ 114 ∧ 80 ≤ q) ∨ 115 ≤ f → m'.1 f j q = m.1 f j q := fun f j q w => by
      rw [a5.2, if_neg (by omega), if_neg (by omega), if_neg (by omega), if_neg (by omega)]
    have est : ∀ s, stN σ' s = stN σ s := fun s => by unfold stN; rw [o 8 s 2 (by omega) (by omega) (by omega) (by omega) (by omega)]
    have ecg : ∀ s, cgN σ' s = cgN σ s := fun s => by unfold cgN; rw [o 8 s 1 (by omega) (by omega) (by omega) (by omega) (by omega)]
    have ech : ∀ i, chN σ' i = chN σ i := fun i => by unfold chN; rw [o 10 0 i (by omega) (by omega) (by omega) (by omega) (by omega)]
    refine ⟨a3, fun s hs => ?_, ⟨fun i hi => by rw [ech]; exact hch.1 i hi, fun i h1 h2 => by omega, fun i j h1 h2 => by rw [ech, ech]; exact hch.2.2 i j h1 h2⟩, fun z hz hl => ?_, Nat.le_refl _, Nat.le_refl _, hg, fun k hk => ?_, by rw [o 0 0 15 (by omega) (by omega) (by omega) (by omega) (by omega)]; exact hL, by rw [p 0 0 26 (by omega)]; exact hLm, by rw [p 0 0 48 (by omega)]; exact h48⟩
    · obtain ⟨v1, v2, v3, v4, v5, v6, v7, v8, v9⟩ := hsv s hs
      rw [est, ecg, o 8 s 2 (by omega) (by omega) (by omega) (by omega) (by omega), o 8 s 1 (by omega) (by omega) (by omega) (by omega) (by omega), p 129 0 s (by omega), p 130 0 s (by omega)]
      exact ⟨v1, v2, v3, v4, v5, v6, fun i hi => by rw [ech]; exact v7 i (by omega), fun h => ⟨fun f k k1 k2 k3 => by
        rw [o f s k (by omega) (by omega) (by omega) (by omega) (by omega)]
        exact (v8 h).1 f k k1 k2 k3, rEq_m (v8 h).2 (fun f q k1 k2 k3 k4 => p f 0 q (by omega))⟩, v9⟩
    · have hl' : m.1 135 0 z = 0 := by rw [← p 135 0 z (by omega)]; exact hl
      obtain ⟨q1, q2, q3⟩ := hH z hz hl'
      have hv' := hsv _ q1
      rw [a4.1, est]
      refine ⟨q1, by rw [p 132 0 z (by omega)]; exact q2, ?_⟩
      have h1 : kHz σ m' z (stN σ (σ.2 2 z)) := ⟨q3.1, q3.2.1, ssM_fr q3.2.2 (fun f q hq => p f 0 q (by omega)) (by
        have := hv'.2.2.2.2.1
        omega)⟩
      exact kHz_fr h1 (by funext q; exact o 2 0 q (by omega) (by omega) (by omega) (by omega) (by omega)) (fun i _ => ⟨o 11 0 i (by omega) (by omega) (by omega) (by omega) (by omega), o 12 0 i (by omega) (by omega) (by omega) (by omega) (by omega)⟩) ⟨o 50 z 10 (by omega) (by omega) (by omega) (by omega) (by omega), o 50 z 11 (by omega) (by omega) (by omega) (by omega) (by omega)⟩ (by funext q; exact o 53 z q (by omega) (by omega) (by omega) (by omega) (by omega)) (by funext q; exact o 54 z q (by omega) (by omega) (by omega) (by omega) (by omega)) (by funext q; exact o 55 z q (by omega) (by omega) (by omega) (by omega) (by omega)) (by funext q; exact o 58 z q (by omega) (by omega) (by omega) (by omega) (by omega)) (by rw [a4.1])
    · rw [o 14 0 k (by omega) (by omega) (by omega) (by omega) (by omega), p 106 0 k (by omega)]
      exact ⟨fun h => (hq k hk).1 (by omega), fun h => hQ k hk h⟩
  exact ⟨σ', m', a1, a2, h0, a4, a5⟩
end DB

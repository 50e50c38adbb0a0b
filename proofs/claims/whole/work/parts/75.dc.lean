/-! PURE: all that moves, when a change is kept and a server catches up -/
section DC
variable {F : Nat}
theorem kD_commit {σ m : qS} {C : Nat → qS} {π : Nat → Nat} {M M0 S S0 L Z : Nat} (h : kD σ m C π M M0 S S0 L Z) (hS : S ≤ 999) (hR : π S ≤ 90000) (hZ : Z ≤ 10) (h27 : S0 < S → m.1 0 0 27 = nI (L + 1)) (h19 : m.1 0 0 19 = nI (π S0)) (hL9 : L + 1 < 2 ^ 31) (hF : 100000 ≤ F) : ∃ σ' m' L', fX8_commit F σ = some σ' ∧ fX9_commit F m = some m' ∧ kD σ' m' C π M M S S L' Z ∧ L ≤ L' ∧ L' ≤ L + 1 ∧ (L' = L ∨ S0 < S) ∧ (σ'.2 = σ.2 ∧ ∀ f j q, ¬ (f = 0 ∧ j = 0 ∧ q = 15) → ¬ (f = 8 ∧ j = 0 ∧ (q = 1 ∨ q = 2)) → σ'.1 f j q = σ.1 f j q) ∧ (m'.2 = m.2 ∧ ∀ f j q, ¬ (f = 0 ∧ j = 0 ∧ q = 26) → ¬ ((f = 129 ∨ f = 130) ∧ j = 0 ∧ q = 0) → (∀ z, z < Z ∧ lvS m 0 z → ¬ (j = 0 ∧ (((f = 141 ∨ f = 142) ∧ 8 * z ≤ q ∧ q < 8 * z + 8) ∨ ((f = 143 ∨ f = 146) ∧ q = z) ∨ (f = 144 ∧ 8000 * z ≤ q ∧ q < 8000 * z + 8000)))) → m'.1 f j q = m.1 f j q) := by
  obtain ⟨hA, hsv, hch, hH, hS0, hM, hg, hq, hL, hLm, h48⟩ := h
  obtain ⟨σ', m', L', a1, a2, a3, a4, a5, a6, a7, a8, a9, a10, a11, a12⟩ := pr_commit (F := F) hA.1 hA.2.1 hS hR hsv hS0 hch hZ h48 hH hL hLm h27 h19 hL9 hF
  have hk : kA σ' m' C π M S := by
    obtain ⟨h1, h2, h3, h4, h5⟩ := hA
    exact ⟨kLog_mfr (kLog_fr h1 (fun f hf => by funext k; exact a11.2 f 0 k (by omega) (by omega))) (a12.2 _ _ _ (by omega) (by omega) (fun z _ => by omega)) (fun f q k1 k2 => a12.2 f 0 q (by omega) (by omega) (fun z _ => by omega)), kBr_mfr (kBr_fr h2 (fun f hf => by funext k; exact a11.2 f 0 k (by omega) (by omega))) (a12.2 _ _ _ (by omega) (by omega) (fun z _ => by omega)) (fun f q k1 k2 => a12.2 f 0 q (by omega) (by omega) (fun z _ => by omega)), fun f k k1 k2 k3 => by rw [a11.2 f 0 k (by omega) (by omega)]; exact h3 f k k1 k2 k3, rEq_m h4 (fun f q k1 k2 k3 k4 => a12.2 f 0 q (by omega) (by omega) (fun z _ => by omega)), fun k k1 => by rw [a12.2 105 0 k (by omega) (by omega) (fun z _ => by omega)]; exact h5 k k1⟩
  refine ⟨σ', m', L', a1, a2, ⟨hk, a6, a8, a7, Nat.le_refl _, Nat.le_refl _, fun i hi => (hk.1.2.2.2 i hi).1, fun k hk => ?_, a9, a10, ?_⟩, a3, a4, a5, a11, a12⟩
  · rw [a11.2 14 0 k (by omega) (by omega), a12.2 106 0 k (by omega) (by omega) (fun z _ => by omega)]
    exact hq k hk
  · rw [a12.2 0 0 48 (by omega) (by omega) (fun z _ => by omega)]
    exact h48
theorem kD_catch {σ m : qS} {C : Nat → qS} {π : Nat → Nat} {M S L Z s p : Nat} (h : kD σ m C π M M S S L Z) (hS : S ≤ 999) (hR : π S ≤ 90000) (hZ : Z ≤ 10) (hs : s < 3) (hL9 : L < 2 ^ 31) (hp : p < 2 ^ 31) (hF : 100000 ≤ F) : ∃ σ' m', fX8_catchUp F s (nI p) σ = some (nI (min p (L - cgN σ s)), σ') ∧ fX9_follows F (nI s) (nI (cgN σ s + min p (L - cgN σ s))) m = some m' ∧ kD σ' m' C π M M S S L Z ∧ frK σ σ' s ∧ frL m m' s Z := by
  obtain ⟨hA, hsv, hch, hH, hS0, hM, hg, hq, hL, hLm, h48⟩ := h
  obtain ⟨σ', m', a1, a2, a3, a4, a5, a6, a7⟩ := pr_catch (F := F) (p := p) hA.1 hA.2.1 hS hR hsv hA.2.2.1 (fun i j h1 h2 => hch.2.2 i j h1 h2) hZ h48 hH hs hL hL9 hp hF
  have hk : kA σ' m' C π M S := by
    obtain ⟨h1, h2, h3, h4, h5⟩ := hA
    exact ⟨kLog_mfr (kLog_fr h1 (fun f hf => by funext k; exact a6.2 f 0 k (by omega) (by omega) (by omega) (by omega))) (a7.2 _ _ _ (by omega) (by omega) (fun z _ => by omega)) (fun f q k1 k2 => a7.2 f 0 q (by omega) (by omega) (fun z _ => by omega)), kBr_mfr (kBr_fr h2 (fun f hf => by funext k; exact a6.2 f 0 k (by omega) (by omega) (by omega) (by omega))) (a7.2 _ _ _ (by omega) (by omega) (fun z _ => by omega)) (fun f q k1 k2 => a7.2 f 0 q (by omega) (by omega) (fun z _ => by omega)), a5, rEq_m h4 (fun f q k1 k2 k3 k4 => a7.2 f 0 q (by omega) (by omega) (fun z _ => by omega)), fun k k1 => by rw [a7.2 105 0 k (by omega) (by omega) (fun z _ => by omega)]; exact h5 k k1⟩
  have ech : ∀ i, chN σ' i = chN σ i := fun i => by unfold chN; rw [a6.2 10 0 i (by omega) (by omega) (by omega) (by omega)]
  refine ⟨σ', m', a1, a2, ⟨hk, a3, ⟨fun i hi => by rw [ech]; exact hch.1 i hi, fun i h1 h2 => by omega, fun i j h1 h2 => by rw [ech, ech]; exact hch.2.2 i j h1 h2⟩, a4, hS0, hM, hg, fun k hk => ?_, by rw [a6.2 0 0 15 (by omega) (by omega) (by omega) (by omega)]; exact hL, by rw [a7.2 0 0 26 (by omega) (by omega) (fun z _ => by omega)]; exact hLm, by rw [a7.2 0 0 48 (by omega) (by omega) (fun z _ => by omega)]; exact h48⟩, a6, a7⟩
  rw [a6.2 14 0 k (by omega) (by omega) (by omega) (by omega), a7.2 106 0 k (by omega) (by omega) (fun z _ => by omega)]
  exact hq k hk
end DC

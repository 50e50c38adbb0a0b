/-! PURE: a server catches up, in both -/
def frK (σ σ' : qS) (s : Nat) : Prop := σ'.2 = σ.2 ∧ ∀ f j q, f ≠ 38 → f ≠ 39 → ¬ (31 ≤ f ∧ f ≤ 37 ∧ j = s) → ¬ (f = 8 ∧ j = s ∧ (q = 1 ∨ q = 2)) → σ'.1 f j q = σ.1 f j q
def frL (m m' : qS) (s Z : Nat) : Prop := m'.2 = m.2 ∧ ∀ f j q, ¬ (j = 0 ∧ 108 ≤ f ∧ f ≤ 114 ∧ 1 ≤ s ∧ 80 * s ≤ q ∧ q < 80 * s + 80) → ¬ ((f = 129 ∨ f = 130) ∧ j = 0 ∧ q = s) → (∀ z, z < Z ∧ lvS m s z → ¬ (j = 0 ∧ (((f = 141 ∨ f = 142) ∧ 8 * z ≤ q ∧ q < 8 * z + 8) ∨ ((f = 143 ∨ f = 146) ∧ q = z) ∨ (f = 144 ∧ 8000 * z ≤ q ∧ q < 8000 * z + 8000)))) → m'.1 f j q = m.1 f j q
section CU
variable {F : Nat}
theorem pr_catch {σ m : qS} {C : Nat → qS} {π : Nat → Nat} {M S L Z s p : Nat} (hk : kLog σ m C π M S) (hBr : kBr σ m M) (hS : S ≤ 999) (hR : π S ≤ 90000) (hsv : kSv σ m C π S S L) (ht0 : tEq σ 0 (C S) 0) (hmono : ∀ i j, i ≤ j → j < S → chN σ i ≤ chN σ j) (hZ : Z ≤ 10) (h48 : m.1 0 0 48 = nI Z) (hH : kHs σ m Z) (hs : s < 3) (hLs : σ.1 0 0 15 = nI L) (hL : L < 2 ^ 31) (hp : p < 2 ^ 31) (hF : 100000 ≤ F) :
    ∃ σ' m', fX8_catchUp F s (nI p) σ = some (nI (min p (L - cgN σ s)), σ') ∧ fX9_follows F (nI s) (nI (cgN σ s + min p (L - cgN σ s))) m = some m' ∧ kSv σ' m' C π S S L ∧ kHs σ' m' Z ∧ tEq σ' 0 (C S) 0 ∧ frK σ σ' s ∧ frL m m' s Z := by
  obtain ⟨v1, v2, v3, v4, v5, v6, v7, v8, v9⟩ := hsv s hs
  obtain ⟨σ', m', j, a1, a2, a3, a4, a5, a6, a7, a8, a9, a10, a11, a12, m1, a13, a14⟩ := pr_follow (F := F) (u := cgN σ s + min p (L - cgN σ s)) (nI (min p (L - cgN σ s))) hk hBr hS hR hsv ht0 hmono hZ h48 hH hs (by omega) (by omega) hL hF
  have fK : frK σ σ' s := ⟨a3.1, fun f i q w1 w2 w3 w4 => by
    rw [a3.2 f i q w1 w2 w3 (by omega), qI_ap, if_neg (by omega)]⟩
  have fL : frL m m' s Z := ⟨by rw [a14]; exact a13.1, fun f i q w1 w2 w3 => by
    rw [a14, qI_ap, if_neg (by omega), a13.2 f i q w1 (by omega) w3]⟩
  have e81 : σ'.1 8 s 1 = nI (cgN σ s + min p (L - cgN σ s)) := by
    rw [a3.2 8 s 1 (by omega) (by omega) (by omega) (by omega), qI_ap, if_pos ⟨rfl, rfl, rfl⟩]
  have est : stN σ' s = j := by unfold stN; rw [a4, ix_nI (by omega)]
  have ecg : cgN σ' s = cgN σ s + min p (L - cgN σ s) := by unfold cgN at *; rw [e81, ix_nI (by omega)]
  have est' : ∀ s', s' ≠ s → stN σ' s' = stN σ s' := fun s' h => by unfold stN; rw [fK.2 8 s' 2 (by omega) (by omega) (by omega) (by omega)]
  have ecg' : ∀ s', s' ≠ s → cgN σ' s' = cgN σ s' := fun s' h => by unfold cgN; rw [fK.2 8 s' 1 (by omega) (by omega) (by omega) (by omega)]
  have ech : ∀ i, chN σ' i = chN σ i := fun i => by unfold chN; rw [fK.2 10 0 i (by omega) (by omega) (by omega) (by omega)]
  refine ⟨σ', m', ?_, a2, fun s' hs' => ?_, fun z hz hl => ?_, ?_, fK, fL⟩
  · unfold fX8_catchUp
    rw [gnl_pos hs]
    repeat rw [nm_x]
    have e1 : nI L - nI (cgN σ s) = nI (L - cgN σ s) := nI_sub v6
    have e2 : (if nI p < nI (L - cgN σ s) then nI p else nI (L - cgN σ s)) = nI (min p (L - cgN σ s)) := by
      by_cases c : p < L - cgN σ s
      · rw [if_pos ((nI_lt' hp (by omega)).mpr c), Nat.min_eq_left (by omega)]
      · rw [if_neg (fun q => c ((nI_lt' hp (by omega)).mp q)), Nat.min_eq_right (by omega)]
    have e3 : (qI σ 8 s 1 (nI (cgN σ s + min p (L - cgN σ s)))).1 8 s 2 = nI (stN σ s) := by rw [qI_ap, if_neg (by omega)]; exact v1
    rw [hLs, v2, e1, e2, nI_add, e3]
    exact a1
  · by_cases c : s' = s
    · subst c
      rw [est, ecg]
      refine ⟨a4, e81, a9, a10, a7, by omega, fun i hi => by rw [ech]; exact a8 i hi, fun h => ⟨a5, a11 h⟩, fun h => ?_⟩
      have := v9 h
      omega
    · obtain ⟨w1, w2, w3, w4, w5, w6, w7, w8, w9⟩ := hsv s' hs'
      rw [est' s' c, ecg' s' c, fK.2 8 s' 2 (by omega) (by omega) (by omega) (by omega), fK.2 8 s' 1 (by omega) (by omega) (by omega) (by omega), fL.2 129 0 s' (by omega) (by omega) (fun z _ => by omega), fL.2 130 0 s' (by omega) (by omega) (fun z _ => by omega)]
      exact ⟨w1, w2, w3, w4, w5, w6, fun i hi => by rw [ech]; exact w7 i hi, fun h => ⟨fun f k k1 k2 k3 => by rw [fK.2 f s' k (by omega) (by omega) (by omega) (by omega)]; exact (w8 h).1 f k k1 k2 k3, rEq_m (w8 h).2 (fun f q h1 h2 h3 h4 => fL.2 f 0 q (by omega) (by omega) (fun z _ => by omega))⟩, w9⟩
  · have hl' : m.1 135 0 z = 0 := by rw [← fL.2 135 0 z (by omega) (by omega) (fun z _ => by omega)]; exact hl
    obtain ⟨q1, q2, q3⟩ := hH z hz hl'
    rw [fK.1]
    refine ⟨q1, by rw [fL.2 132 0 z (by omega) (by omega) (fun z _ => by omega)]; exact q2, ?_⟩
    have fin : ∀ t, kHz σ m' z t → kHz σ' m' z t := fun t h => kHz_fr h (by funext q; exact fK.2 2 0 q (by omega) (by omega) (by omega) (by omega)) (fun i _ => ⟨fK.2 11 0 i (by omega) (by omega) (by omega) (by omega), fK.2 12 0 i (by omega) (by omega) (by omega) (by omega)⟩) ⟨fK.2 50 z 10 (by omega) (by omega) (by omega) (by omega), fK.2 50 z 11 (by omega) (by omega) (by omega) (by omega)⟩ (by funext q; exact fK.2 53 z q (by omega) (by omega) (by omega) (by omega)) (by funext q; exact fK.2 54 z q (by omega) (by omega) (by omega) (by omega)) (by funext q; exact fK.2 55 z q (by omega) (by omega) (by omega) (by omega)) (by funext q; exact fK.2 58 z q (by omega) (by omega) (by omega) (by omega)) (by rw [fK.1])
    obtain ⟨r1, r2, r3⟩ := q3
    by_cases c : σ.2 2 z = s
    · rw [c, est]
      rw [c] at r2
      exact fin j ⟨r1, by omega, a12 z hz ⟨hl', by rw [q2, c]⟩⟩
    · rw [est' _ c]
      refine fin _ ⟨r1, r2, ssM_fr r3 (fun f q hq => fL.2 f 0 q (by omega) (by omega) (fun z' hz' => ?_)) (by
        have := (hsv _ q1).2.2.2.2.1
        omega)⟩
      have hne : z' ≠ z := fun e => by
        subst e
        exact c (nI_inj (by omega) (by omega) (q2.symm.trans hz'.2.2))
      omega
  · by_cases c : s = 0
    · subst c
      have := v9 rfl
      have e : j = S := by omega
      rw [← e]
      exact a5
    · intro f k k1 k2 k3
      rw [fK.2 f 0 k (by omega) (by omega) (by omega) (by omega)]
      exact ht0 f k k1 k2 k3
end CU

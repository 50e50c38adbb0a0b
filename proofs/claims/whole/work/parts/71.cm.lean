/-! PURE: a change is kept, in both -/
theorem kLog_mfr {σ m m' : qS} {C : Nat → qS} {π : Nat → Nat} {M S : Nat} (h : kLog σ m C π M S) (e25 : m'.1 0 0 25 = m.1 0 0 25) (e : ∀ f q, 120 ≤ f → f ≤ 124 → m'.1 f 0 q = m.1 f 0 q) : kLog σ m' C π M S := by
  obtain ⟨h1, h2, h3, h4⟩ := h
  exact ⟨h1, by rw [e25]; exact h2, fun i hi => ⟨(h3 i hi).1, blk_fr (h3 i hi).2.1 (fun f q k1 k2 _ => e f q k1 k2), (h3 i hi).2.2⟩, h4⟩
theorem kBr_mfr {σ m m' : qS} {M : Nat} (h : kBr σ m M) (e7 : m'.1 0 0 7 = m.1 0 0 7) (e : ∀ f q, 100 ≤ f → f ≤ 104 → m'.1 f 0 q = m.1 f 0 q) : kBr σ m' M := by
  obtain ⟨b1, b2, b3, b4, b5, b6⟩ := h
  exact ⟨b1, by rw [e7]; exact b2, b3, b4, b5, fun k k1 k2 => by
    rw [e 100 k (by decide) (by decide), e 101 k (by decide) (by decide), e 102 k (by decide) (by decide), e 103 k (by decide) (by decide), e 104 k (by decide) (by decide)]
    exact b6 k k1 k2⟩
theorem blk_pos {σ m : qS} {C : Nat → qS} {π : Nat → Nat} {M S i : Nat} (hk : kLog σ m C π M S) (hi : i < S) : π i < π (i + 1) := by
  obtain ⟨⟨_, l5, l6⟩, l7, l8⟩ := hk.2.2.1 i hi
  have hg : gvN (C i) (kdN σ i) (ndN σ i) (ndN σ i) := ⟨fun _ => rfl, fun _ => ⟨Nat.le_refl _, l5.1, Or.inl rfl⟩⟩
  have := cntN_lt_all l5.1 hg
  omega
/-- numbers of changes: S0 steps of changes up to L, the others are of change L + 1 -/
def kCh (σ : qS) (S S0 L : Nat) : Prop := (∀ i, i < S0 → chN σ i ≤ L) ∧ (∀ i, S0 ≤ i → i < S → chN σ i = L + 1) ∧ ∀ i j, i ≤ j → j < S0 → chN σ i ≤ chN σ j
section CM
variable {F : Nat}
theorem pr_commit {σ m : qS} {C : Nat → qS} {π : Nat → Nat} {M S S0 L Z : Nat} (hk : kLog σ m C π M S) (hBr : kBr σ m M) (hS : S ≤ 999) (hR : π S ≤ 90000) (hsv : kSv σ m C π S S0 L) (hS0 : S0 ≤ S) (hch : kCh σ S S0 L) (hZ : Z ≤ 10) (h48 : m.1 0 0 48 = nI Z) (hH : kHs σ m Z) (hLs : σ.1 0 0 15 = nI L) (hLm : m.1 0 0 26 = nI L) (h27 : S0 < S → m.1 0 0 27 = nI (L + 1)) (h19 : m.1 0 0 19 = nI (π S0)) (hL : L + 1 < 2 ^ 31) (hF : 100000 ≤ F) :
    ∃ σ' m' L', fX8_commit F σ = some σ' ∧ fX9_commit F m = some m' ∧ L ≤ L' ∧ L' ≤ L + 1 ∧ (L' = L ∨ S0 < S) ∧ kSv σ' m' C π S S L' ∧ kHs σ' m' Z ∧ kCh σ' S S L' ∧ σ'.1 0 0 15 = nI L' ∧ m'.1 0 0 26 = nI L' ∧ (σ'.2 = σ.2 ∧ ∀ f j q, ¬ (f = 0 ∧ j = 0 ∧ q = 15) → ¬ (f = 8 ∧ j = 0 ∧ (q = 1 ∨ q = 2)) → σ'.1 f j q = σ.1 f j q) ∧ (m'.2 = m.2 ∧ ∀ f j q, ¬ (f = 0 ∧ j = 0 ∧ q = 26) → ¬ ((f = 129 ∨ f = 130) ∧ j = 0 ∧ q = 0) → (∀ z, z < Z ∧ lvS m 0 z → ¬ (j = 0 ∧ (((f = 141 ∨ f = 142) ∧ 8 * z ≤ q ∧ q < 8 * z + 8) ∨ ((f = 143 ∨ f = 146) ∧ q = z) ∨ (f = 144 ∧ 8000 * z ≤ q ∧ q < 8000 * z + 8000)))) → m'.1 f j q = m.1 f j q) := by
  obtain ⟨v1, v2, v3, v4, v5, v6, v7, v8, v9⟩ := hsv 0 (by decide)
  obtain ⟨w1, w2⟩ := v9 rfl
  have hS0' : σ.1 8 0 2 = nI S0 := by rw [← w1]; exact v1
  have hπ0 : π S0 ≤ π S := kLog_mono hk hS0 (Nat.le_refl _)
  by_cases c : S0 < S
  · have hπ : π S0 < π S := Nat.lt_of_lt_of_le (blk_pos hk c) (kLog_mono hk (by omega) (Nat.le_refl _))
    have hcl := e_commit1 (F := F) hk.1 hS0' hLs (by omega) (by omega) c
    -- the reference
    have o : ∀ f j q, ¬ (f = 0 ∧ j = 0 ∧ q = 26) → (qI m 0 0 26 (nI (L + 1))).1 f j q = m.1 f j q := fun f j q h => by rw [qI_ap, if_neg h]
    have hk1 : kLog σ (qI m 0 0 26 (nI (L + 1))) C π M S := kLog_mfr hk (o _ _ _ (by omega)) (fun f q _ _ => o _ _ _ (by omega))
    have hB1 : kBr σ (qI m 0 0 26 (nI (L + 1))) M := kBr_mfr hBr (o _ _ _ (by omega)) (fun f q _ _ => o _ _ _ (by omega))
    have lv : ∀ s z, lvS (qI m 0 0 26 (nI (L + 1))) s z ↔ lvS m s z := fun s z => by
      unfold lvS
      rw [o _ _ _ (by omega), o _ _ _ (by omega)]
    have hpre : ∀ z, z < Z → lvS m 0 z → kHz σ m z S0 := fun z hz hl => by
      obtain ⟨q1, q2, q3⟩ := hH z hz hl.1
      have e : σ.2 2 z = 0 := nI_inj (b := 0) (by omega) (by omega) (q2.symm.trans hl.2)
      rw [e, w1] at q3
      exact q3
    obtain ⟨m1, d1, d2, d3, d4, d5⟩ := e_folS (F := F) (σ := σ) (s := 0) (i := S0) (j := S) (u := L + 1) (Z := Z) (P := fun x z => rng (fun i p => hst σ i p) S0 (x - S0) (pN σ z S0)) (by decide) hk1 hB1 (by rw [o _ _ _ (by omega), v3, w1]) hR hS0 (Nat.le_refl _) hS (fun x a b => by rw [hch.2.1 x a b]; omega) hL (by omega) hZ (by rw [o _ _ _ (by omega)]; exact h48) (fun x z a b => by
      show rng _ _ (x + 1 - S0) _ = _
      rw [show x + 1 - S0 = (x - S0) + 1 by omega, rng_split (d := x - S0) (e := 1)]
      show hst σ (S0 + (x - S0)) _ = _
      rw [show S0 + (x - S0) = x by omega]) (fun z hz hl => by
      show ssM _ z _ (rng _ _ (S0 - S0) _)
      rw [Nat.sub_self]
      exact ssM_fr (hpre z hz ((lv 0 z).mp hl)).2.2 (fun f q hq => o f 0 q (by omega)) (by omega)) (fun h => by omega)
    obtain ⟨n, hn⟩ : ∃ n, F = (n + 1) + (π S - π S0) := ⟨F - 1 - (π S - π S0), by omega⟩
    have hfin := e_folEnd (F := F) (m := m1) (s := 0) (p := π S) (R := π S) (u := L + 1) (n := n) (g := L) (by decide) d2 (by rw [frF_o d3 (by omega), o _ _ _ (by omega)]; exact hk.2.1) (Nat.le_refl _) hR (Or.inl rfl) (by rw [d3.2 130 0 0 (by omega) (by omega) (fun z _ => by omega), o _ _ _ (by omega), v4, w2]) hL (by omega)
    rw [Nat.max_eq_right (by omega)] at hfin
    have hfol : fX9_follows F 0 (nI (L + 1)) (qI m 0 0 26 (nI (L + 1))) = some (qI m1 130 0 0 (nI (L + 1))) := by
      unfold fX9_follows
      have e : fX9_follows_0 F F (nI 0) (nI (L + 1)) (qI m 0 0 26 (nI (L + 1))) = fX9_follows_0 F ((n + 1) + (π S - π S0)) (nI 0) (nI (L + 1)) (qI m 0 0 26 (nI (L + 1))) := by rw [← hn]
      rw [show (0 : Int32) = nI 0 from rfl, e, d1, hfin]
    have fσ : ∀ f j q, ¬ (f = 0 ∧ j = 0 ∧ q = 15) → ¬ (f = 8 ∧ j = 0 ∧ (q = 1 ∨ q = 2)) → (cmS σ S L).1 f j q = σ.1 f j q := fun f j q h1 h2 => by
      unfold cmS
      rw [qI_ap, if_neg (by omega), qI_ap, if_neg (by omega), qI_ap, if_neg (by omega)]
    have fm : ∀ f j q, ¬ (f = 0 ∧ j = 0 ∧ q = 26) → ¬ ((f = 129 ∨ f = 130) ∧ j = 0 ∧ q = 0) → (∀ z, z < Z ∧ lvS m 0 z → ¬ (j = 0 ∧ (((f = 141 ∨ f = 142) ∧ 8 * z ≤ q ∧ q < 8 * z + 8) ∨ ((f = 143 ∨ f = 146) ∧ q = z) ∨ (f = 144 ∧ 8000 * z ≤ q ∧ q < 8000 * z + 8000)))) → (qI m1 130 0 0 (nI (L + 1))).1 f j q = m.1 f j q := fun f j q h1 h2 h3 => by
      rw [qI_ap, if_neg (by omega), d3.2 f j q (by omega) (by omega) (fun z hz => h3 z ⟨hz.1, (lv 0 z).mp hz.2⟩), o f j q h1]
    have e82 : (cmS σ S L).1 8 0 2 = nI S := by unfold cmS; rw [qI_ap, if_pos ⟨rfl, rfl, rfl⟩]
    have e81 : (cmS σ S L).1 8 0 1 = nI (L + 1) := by unfold cmS; rw [qI_ap, if_neg (by omega), qI_ap, if_pos ⟨rfl, rfl, rfl⟩]
    have e15 : (cmS σ S L).1 0 0 15 = nI (L + 1) := by unfold cmS; rw [qI_ap, if_neg (by omega), qI_ap, if_neg (by omega), qI_ap, if_pos ⟨rfl, rfl, rfl⟩]
    have est : stN (cmS σ S L) 0 = S := by unfold stN; rw [e82, ix_nI (by omega)]
    have ecg : cgN (cmS σ S L) 0 = L + 1 := by unfold cgN; rw [e81, ix_nI (by omega)]
    have est' : ∀ s', s' ≠ 0 → stN (cmS σ S L) s' = stN σ s' := fun s' h => by unfold stN; rw [fσ 8 s' 2 (by omega) (by omega)]
    have ecg' : ∀ s', s' ≠ 0 → cgN (cmS σ S L) s' = cgN σ s' := fun s' h => by unfold cgN; rw [fσ 8 s' 1 (by omega) (by omega)]
    have ech : ∀ i, chN (cmS σ S L) i = chN σ i := fun i => by unfold chN; rw [fσ 10 0 i (by omega) (by omega)]
    have e26 : (qI m1 130 0 0 (nI (L + 1))).1 0 0 26 = nI (L + 1) := by rw [qI_ap, if_neg (by omega), frF_o d3 (by omega), qI_ap, if_pos ⟨rfl, rfl, rfl⟩]
    have hall : ∀ i, i < S → chN σ i ≤ L + 1 := fun i hi => by
      by_cases c9 : i < S0
      · have := hch.1 i c9
        omega
      · rw [hch.2.1 i (by omega) hi]
        omega
    refine ⟨cmS σ S L, qI m1 130 0 0 (nI (L + 1)), L + 1, hcl, ?_, by omega, Nat.le_refl _, Or.inr c, fun s' hs' => ?_, fun z hz hl => ?_, ⟨fun i hi => by rw [ech]; exact hall i hi, fun i a b => by omega, fun i j hij hj => ?_⟩, e15, e26, ⟨rfl, fσ⟩, ⟨d3.1, fm⟩⟩
    · unfold fX9_commit fX9_commit_19
      repeat rw [nm_x]
      rw [hk.2.1, h19, if_neg (fun q => by have := (nI_le' (by omega) (by omega)).mp q; omega), h27 c]
      repeat rw [nm_x]
      rw [show (qI m 0 0 26 (nI (L + 1))).1 0 0 26 = nI (L + 1) by rw [qI_ap, if_pos ⟨rfl, rfl, rfl⟩], hfol, bnd_s]
    · by_cases c9 : s' = 0
      · subst c9
        rw [est, ecg]
        refine ⟨e82, e81, by rw [qI_ap, if_neg (by omega)]; exact d2, by rw [qI_ap, if_pos ⟨rfl, rfl, rfl⟩], Nat.le_refl _, Nat.le_refl _, fun i hi => by rw [ech]; exact ⟨fun _ => hall i hi, fun _ => hi⟩, fun h => by omega, fun _ => ⟨rfl, rfl⟩⟩
      · obtain ⟨x1, x2, x3, x4, x5, x6, x7, x8, x9⟩ := hsv s' hs'
        rw [est' s' c9, ecg' s' c9, fσ 8 s' 2 (by omega) (by omega), fσ 8 s' 1 (by omega) (by omega), fm 129 0 s' (by omega) (by omega) (fun z _ => by omega), fm 130 0 s' (by omega) (by omega) (fun z _ => by omega)]
        exact ⟨x1, x2, x3, x4, by omega, by omega, fun i hi => by rw [ech]; exact x7 i hi, fun h => ⟨fun f k k1 k2 k3 => by rw [fσ f s' k (by omega) (by omega)]; exact (x8 h).1 f k k1 k2 k3, rEq_m (x8 h).2 (fun f q h1 h2 h3 h4 => fm f 0 q (by omega) (by omega) (fun z _ => by omega))⟩, fun h => absurd h c9⟩
    · have hl' : m.1 135 0 z = 0 := by rw [← fm 135 0 z (by omega) (by omega) (fun z _ => by omega)]; exact hl
      obtain ⟨q1, q2, q3⟩ := hH z hz hl'
      refine ⟨q1, by rw [fm 132 0 z (by omega) (by omega) (fun z _ => by omega)]; exact q2, ?_⟩
      have fin : ∀ t, kHz σ (qI m1 130 0 0 (nI (L + 1))) z t → kHz (cmS σ S L) (qI m1 130 0 0 (nI (L + 1))) z t := fun t h => kHz_fr h (by funext q; exact fσ 2 0 q (by omega) (by omega)) (fun i _ => ⟨fσ 11 0 i (by omega) (by omega), fσ 12 0 i (by omega) (by omega)⟩) ⟨fσ 50 z 10 (by omega) (by omega), fσ 50 z 11 (by omega) (by omega)⟩ (by funext q; exact fσ 53 z q (by omega) (by omega)) (by funext q; exact fσ 54 z q (by omega) (by omega)) (by funext q; exact fσ 55 z q (by omega) (by omega)) (by funext q; exact fσ 58 z q (by omega) (by omega)) rfl
      show kHz (cmS σ S L) _ z (stN (cmS σ S L) (σ.2 2 z))
      obtain ⟨r1, r2, r3⟩ := q3
      by_cases c9 : σ.2 2 z = 0
      · rw [c9, est]
        rw [c9, w1] at r2
        have h5 := d5 z hz ((lv 0 z).mpr ⟨hl', by rw [q2, c9]⟩)
        have eP : rng (fun i p => hst σ i p) S0 (S - S0) (pN σ z S0) = pN σ z S := by
          unfold pN
          rw [show S - aN σ z = (S0 - aN σ z) + (S - S0) by omega, rng_split, show aN σ z + (S0 - aN σ z) = S0 by omega]
        rw [eP] at h5
        exact fin S ⟨r1, by omega, ssM_fr h5 (fun f q hq => by rw [qI_ap, if_neg (by omega)]) (by omega)⟩
      · rw [est' _ c9]
        refine fin _ ⟨r1, r2, ssM_fr r3 (fun f q hq => fm f 0 q (by omega) (by omega) (fun z' hz' => ?_)) (by
          have := (hsv _ q1).2.2.2.2.1
          omega)⟩
        have hne : z' ≠ z := fun e => by
          subst e
          exact c9 (nI_inj (b := 0) (by omega) (by omega) (q2.symm.trans hz'.2.2))
        omega
    · rw [ech, ech]
      by_cases cj : j < S0
      · exact hch.2.2 i j hij cj
      · rw [hch.2.1 j (by omega) hj]
        exact hall i (by omega)
  · obtain rfl : S0 = S := by omega
    have em : qI m 130 0 0 (nI L) = m := by
      apply Prod.ext
      · funext f j q
        rw [qI_ap]
        by_cases h : f = 130 ∧ j = 0 ∧ q = 0
        · obtain ⟨rfl, rfl, rfl⟩ := h
          rw [if_pos ⟨rfl, rfl, rfl⟩, v4, w2]
        · rw [if_neg h]
      · rfl
    obtain ⟨n, hn⟩ : ∃ n, F = n + 1 := ⟨F - 1, by omega⟩
    have hfin := e_folEnd (F := F) (m := m) (s := 0) (p := π S0) (R := π S0) (u := L) (n := n) (g := L) (by decide) (by rw [v3, w1]) hk.2.1 (Nat.le_refl _) hR (Or.inl rfl) (by rw [v4, w2]) (by omega) (by omega)
    rw [Nat.max_eq_right (Nat.le_refl _), em] at hfin
    have hfol : fX9_follows F 0 (nI L) m = some m := by
      unfold fX9_follows
      have e : fX9_follows_0 F F (nI 0) (nI L) m = fX9_follows_0 F (n + 1) (nI 0) (nI L) m := by rw [← hn]
      rw [show (0 : Int32) = nI 0 from rfl, e, hfin]
    refine ⟨σ, m, L, e_commit0 hk.1 hS0' (by omega) (by omega) (Nat.le_refl _), ?_, Nat.le_refl _, by omega, Or.inl rfl, hsv, hH, ⟨hch.1, fun i a b => by omega, hch.2.2⟩, hLs, hLm, ⟨rfl, fun _ _ _ _ _ => rfl⟩, ⟨rfl, fun _ _ _ _ _ _ => rfl⟩⟩
    unfold fX9_commit fX9_commit_19
    repeat rw [nm_x]
    rw [hk.2.1, h19, if_pos (Int32.le_refl _), hLm, hfol, bnd_s]
end CM

/-! PURE: all that moves, in both, and how acts leave it -/
theorem hst_cp {σ σ' : qS} {i M0 : Nat} (hb : bwf σ M0) (h2 : ∀ k, k < 80 → k < M0 → σ'.1 2 0 k = σ.1 2 0 k) (hn8 : ndN σ i < 80) (hn : ndN σ i < M0) (h11 : σ'.1 11 0 i = σ.1 11 0 i) (h12 : σ'.1 12 0 i = σ.1 12 0 i) (p : List (Int32 × Int32) × List Int32) : hst σ' i p = hst σ i p := by
  have ek : kdN σ' i = kdN σ i := by unfold kdN; rw [h11]
  have en : ndN σ' i = ndN σ i := by unfold ndN; rw [h12]
  have ef : fir σ' (kdN σ i) (ndN σ i) = fir σ (kdN σ i) (ndN σ i) := by
    funext w
    have key : isB (parN σ') w.1.toNatClampNeg 80 (ndN σ i) = isB (parN σ) w.1.toNatClampNeg 80 (ndN σ i) :=
      isB_congr (wfB_hp (bwf_wfB hb)) (fun q hq _ => by unfold parN; rw [h2 q hq.1 hq.2]) 80 _ ⟨hn8, hn⟩
    unfold fir
    rw [key, h2 _ hn8 hn]
  unfold hst hrW hrT
  rw [ek, en, ef]
theorem kHz_fr2 {σ σ' m : qS} {z t M0 : Nat} (h : kHz σ m z t) (hb : bwf σ M0) (h2 : ∀ k, k < 80 → k < M0 → σ'.1 2 0 k = σ.1 2 0 k) (hn : ∀ i, i < t → ndN σ i < 80 ∧ ndN σ i < M0) (hl : ∀ i, i < t → σ'.1 11 0 i = σ.1 11 0 i ∧ σ'.1 12 0 i = σ.1 12 0 i) (h50 : σ'.1 50 z 10 = σ.1 50 z 10 ∧ σ'.1 50 z 11 = σ.1 50 z 11) (h53 : σ'.1 53 z = σ.1 53 z) (h54 : σ'.1 54 z = σ.1 54 z) (h55 : σ'.1 55 z = σ.1 55 z) (h58 : σ'.1 58 z = σ.1 58 z) (hN : σ'.2 3 z = σ.2 3 z) : kHz σ' m z t := by
  have ea : aN σ' z = aN σ z := by unfold aN; rw [h50.1]
  have ec : cN σ' z = cN σ z := by unfold cN; rw [h50.2]
  have eW : WN σ' z = WN σ z := by unfold WN; rw [ec, h53, h54]
  have eT : TN σ' z = TN σ z := by unfold TN; rw [h55, h58]
  obtain ⟨⟨q1, q2, q3, q4, q5, q6⟩, q7, q8⟩ := h
  have eR : rowL σ' z (TN σ z) := by
    obtain ⟨a, b, k, k1, k2, k3, k4, k5, k6, k7⟩ := q5
    exact ⟨a, b, k, by rw [h55]; exact k1, by rw [h55]; exact k2, k3, by rw [hN]; exact k4, by rw [hN]; exact k5, k6, by rw [h58]; exact k7⟩
  have eP : pN σ' z t = pN σ z t := by
    unfold pN
    rw [ea, eW, eT]
    exact rng_congr (fun k b k1 k2 => hst_cp hb h2 (hn k (by omega)).1 (hn k (by omega)).2 (hl k (by omega)).1 (hl k (by omega)).2 b)
  unfold kHz hsV
  rw [ea, ec, eW, eT, eP, h50.1, h50.2]
  exact ⟨⟨q1, q2, q3, q4, eR, q6⟩, q7, q8⟩
theorem log_M0 {σ m : qS} {C : Nat → qS} {π : Nat → Nat} {M S M0 S0 i : Nat} (h : kLog σ m C π M S) (hS : S0 ≤ S) (hg : ∀ i, i ≤ S0 → gdT (C i) M0) (hi : i < S0) : ndN σ i < 80 ∧ ndN σ i < M0 := by
  obtain ⟨⟨_, l5, l6⟩, _, _⟩ := h.2.2.1 i (by omega)
  obtain ⟨a1, a2, a3, a4, a5, a6, a7⟩ := l5
  refine ⟨a1, ?_⟩
  by_cases c : kdN σ i = 0
  · refine gdT_M (hg (i + 1) (by omega)) a1 ?_
    rw [l6 31 _ (by decide) (by decide) a1, c, apT_0, if_pos ⟨rfl, rfl⟩]
    decide
  · exact gdT_M (hg i (by omega)) a1 (a5 c)
/-- all that moves: the first server has S0 steps of M0 nodes, acts have made S of M -/
def kD (σ m : qS) (C : Nat → qS) (π : Nat → Nat) (M M0 S S0 L Z : Nat) : Prop := kA σ m C π M S ∧ kSv σ m C π S S0 L ∧ kCh σ S S0 L ∧ kHs σ m Z ∧ S0 ≤ S ∧ M0 ≤ M ∧ (∀ i, i ≤ S0 → gdT (C i) M0) ∧ kQ σ m M ∧ σ.1 0 0 15 = nI L ∧ m.1 0 0 26 = nI L ∧ m.1 0 0 48 = nI Z
theorem kD_eX {σ m σ' m' : qS} {C C' : Nat → qS} {π π' : Nat → Nat} {M M0 S S0 L Z M' S' a b : Nat} (h : kD σ m C π M M0 S S0 L Z) (hS9 : S0 ≤ 999) (hx : eX M0 L a b σ m C π M S σ' m' C' π' M' S') (hQ : kQ σ' m' M') : kD σ' m' C' π' M' M0 S' S0 L Z := by
  obtain ⟨hA, hsv, hch, hH, hS, hM, hg, hq, hL, hLm, h48⟩ := h
  obtain ⟨x1, x2, x3, x4, x5, x6, x7, x8, x9, x10⟩ := hx
  have o : ∀ f j k, f ≠ 38 → f ≠ 39 → (j ≠ 0 ∨ f = 0 ∨ f = 8 ∨ 14 ≤ f ∧ f < 31 ∨ 40 ≤ f ∨ (10 ≤ f ∧ f ≤ 13 ∧ k < S) ∨ (2 ≤ f ∧ f ≤ 6 ∧ k < M0)) → σ'.1 f j k = σ.1 f j k := fun f j k w1 w2 h => x2.2 f j k w1 w2 (by omega) (by omega) (by omega) (by omega) (by omega)
  have p : ∀ f j q, (f = 0 ∧ q ≠ 25 ∧ q ≠ 7 ∨ 125 ≤ f ∨ (108 ≤ f ∧ f ≤ 114 ∧ 80 ≤ q)) → m'.1 f j q = m.1 f j q := fun f j q h => x3.2 f j q (by omega) (by omega) (by omega) (by omega) (by omega)
  have est : ∀ s, stN σ' s = stN σ s := fun s => by unfold stN; rw [o 8 s 2 (by omega) (by omega) (by omega)]
  have ecg : ∀ s, cgN σ' s = cgN σ s := fun s => by unfold cgN; rw [o 8 s 1 (by omega) (by omega) (by omega)]
  obtain ⟨g0, g1⟩ := kA_here hA
  refine ⟨x1, fun s hs => ?_, ⟨fun i hi => ?_, fun i h1 h2 => ?_, fun i j h1 h2 => ?_⟩, fun z hz hl => ?_, by omega, by omega, fun i hi => ?_, hQ, by rw [o 0 0 15 (by omega) (by omega) (by omega)]; exact hL, by rw [p 0 0 26 (by omega)]; exact hLm, by rw [p 0 0 48 (by omega)]; exact h48⟩
  · obtain ⟨v1, v2, v3, v4, v5, v6, v7, v8, v9⟩ := hsv s hs
    rw [est, ecg, o 8 s 2 (by omega) (by omega) (by omega), o 8 s 1 (by omega) (by omega) (by omega), p 129 0 s (by omega), p 130 0 s (by omega), (x6 _ (by omega : stN σ s ≤ S)).2]
    refine ⟨v1, v2, v3, v4, v5, v6, fun i hi => ?_, fun h => ⟨?_, ?_⟩, v9⟩
    · by_cases c : i < S
      · rw [x7 i c]; exact v7 i c
      · rw [x8 i (by omega) hi]
        constructor
        · intro h; omega
        · intro h; omega
    · intro f k k1 k2 k3
      rw [o f s k (by omega) (by omega) (by omega), (x6 _ (by omega : stN σ s ≤ S)).1 f k k1 k2 k3]
      exact (v8 h).1 f k k1 k2 k3
    · exact rEq_congr (rEq_m (v8 h).2 (fun f q k1 k2 k3 k4 => p f 0 q (by omega))) (fun f k k1 k2 k3 => (x6 _ (by omega : stN σ s ≤ S)).1 f k k1 (by omega) k3)
  · rw [x7 i (by omega)]; exact hch.1 i hi
  · by_cases c : i < S
    · rw [x7 i c]; exact hch.2.1 i h1 c
    · exact x8 i (by omega) h2
  · rw [x7 i (by omega), x7 j (by omega)]; exact hch.2.2 i j h1 h2
  · have hl' : m.1 135 0 z = 0 := by rw [← p 135 0 z (by omega)]; exact hl
    obtain ⟨q1, q2, q3⟩ := hH z hz hl'
    have hv := hsv _ q1
    rw [x2.1, est]
    refine ⟨q1, by rw [p 132 0 z (by omega)]; exact q2, ?_⟩
    have h1 : kHz σ m' z (stN σ (σ.2 2 z)) := ⟨q3.1, q3.2.1, ssM_fr q3.2.2 (fun f q hq => p f 0 q (by omega)) (by
      have := hv.2.2.2.2.1
      omega)⟩
    exact kHz_fr2 (M0 := M0) h1 ⟨hA.2.1.2.2.1.1, fun k k1 k2 k3 => hA.2.1.2.2.1.2 k k1 k2 (by omega)⟩ (fun k k1 k2 => o 2 0 k (by omega) (by omega) (by omega)) (fun i hi => log_M0 hA.1 hS hg (by
      have := hv.2.2.2.2.1
      omega)) (fun i hi => by
      have := hv.2.2.2.2.1
      exact ⟨o 11 0 i (by omega) (by omega) (by omega), o 12 0 i (by omega) (by omega) (by omega)⟩) ⟨o 50 z 10 (by omega) (by omega) (by omega), o 50 z 11 (by omega) (by omega) (by omega)⟩ (by funext q; exact o 53 z q (by omega) (by omega) (by omega)) (by funext q; exact o 54 z q (by omega) (by omega) (by omega)) (by funext q; exact o 55 z q (by omega) (by omega) (by omega)) (by funext q; exact o 58 z q (by omega) (by omega) (by omega)) (by rw [x2.1])
  · have hgi := hg i hi
    have hb' := (x1.1.2.2.2 i (by omega)).2
    have hb := (hA.1.2.2.2 i (by omega)).2
    have hbe : bEq M0 (C i) (C' i) := fun f k k1 k2 k3 k4 => by
      rw [hb f k k1 k2 (by omega) k4, hb' f k k1 k2 (by omega) k4, o f 0 k (by omega) (by omega) (by omega)]
    exact gdT_cp hgi (x6 i (by omega)).1 hbe ⟨by
      rw [hb' 2 0 (by decide) (by decide) (by have := hgi.1.2.1; omega) (by decide), x1.2.1.2.2.1.1], fun k k1 k2 k3 => by
      rw [hb' 2 k (by decide) (by decide) (by omega) k2]
      exact x1.2.1.2.2.1.2 k k1 k2 (by omega)⟩ (Nat.le_refl _) hgi.1.2.2

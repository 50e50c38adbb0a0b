/-! PURE: frames of all that moves; beliefs; who calls -/
theorem kD_frZ {σ m σ' m' : qS} {C : Nat → qS} {π : Nat → Nat} {M M0 S S0 L Z Z' : Nat} (h : kD σ m C π M M0 S S0 L Z) (hH : kHs σ' m' Z') (hQ : kQ σ' m' M) (h48' : m'.1 0 0 48 = nI Z') (o : ∀ f j k, ((f = 0 ∧ j = 0 ∧ k = 15) ∨ (1 ≤ f ∧ f ≤ 13) ∨ (31 ≤ f ∧ f ≤ 37 ∧ j ≤ 2)) → σ'.1 f j k = σ.1 f j k) (p : ∀ f q, ((f = 0 ∧ (q = 7 ∨ q = 25 ∨ q = 26)) ∨ (100 ≤ f ∧ f ≤ 105) ∨ (108 ≤ f ∧ f ≤ 114 ∧ q < 240) ∨ (120 ≤ f ∧ f ≤ 124) ∨ f = 129 ∨ f = 130) → m'.1 f 0 q = m.1 f 0 q) : kD σ' m' C π M M0 S S0 L Z' := by
  obtain ⟨⟨h1, h2, h3, h4, h5⟩, hsv, hch, -, hS, hM, hg, hq, hL, hLm, h48⟩ := h
  have e1 : ∀ f, (1 ≤ f ∧ f ≤ 6 ∨ 9 ≤ f ∧ f ≤ 13) → σ'.1 f 0 = σ.1 f 0 := fun f w => by funext k; exact o f 0 k (by omega)
  have ech : ∀ i, chN σ' i = chN σ i := fun i => by unfold chN; rw [o 10 0 i (by omega)]
  have est : ∀ s, stN σ' s = stN σ s := fun s => by unfold stN; rw [o 8 s 2 (by omega)]
  have ecg : ∀ s, cgN σ' s = cgN σ s := fun s => by unfold cgN; rw [o 8 s 1 (by omega)]
  refine ⟨⟨kLog_mfr (kLog_fr h1 e1) (p 0 25 (by omega)) (fun f q w1 w2 => p f q (by omega)), kBr_mfr (kBr_fr h2 e1) (p 0 7 (by omega)) (fun f q w1 w2 => p f q (by omega)), fun f k w1 w2 w3 => by rw [o f 0 k (by omega)]; exact h3 f k w1 w2 w3, rEq_m h4 (fun f q w1 w2 w3 w4 => p f q (by omega)), fun k k8 => by rw [p 105 k (by omega)]; exact h5 k k8⟩, fun s hs => ?_, ⟨fun i hi => by rw [ech]; exact hch.1 i hi, fun i w1 w2 => by rw [ech]; exact hch.2.1 i w1 w2, fun i j w1 w2 => by rw [ech, ech]; exact hch.2.2 i j w1 w2⟩, hH, hS, hM, hg, hQ, by rw [o 0 0 15 (by omega)]; exact hL, by rw [p 0 26 (by omega)]; exact hLm, h48'⟩
  obtain ⟨v1, v2, v3, v4, v5, v6, v7, v8, v9⟩ := hsv s hs
  rw [est, ecg, o 8 s 2 (by omega), o 8 s 1 (by omega), p 129 s (by omega), p 130 s (by omega)]
  exact ⟨v1, v2, v3, v4, v5, v6, fun i hi => by rw [ech]; exact v7 i hi, fun w => ⟨fun f k k1 k2 k3 => by rw [o f s k (by omega)]; exact (v8 w).1 f k k1 k2 k3, rEq_m (v8 w).2 (fun f q w1 w2 w3 w4 => p f q (by omega))⟩, v9⟩
theorem kD_fr {σ m σ' m' : qS} {C : Nat → qS} {π : Nat → Nat} {M M0 S S0 L Z : Nat} (h : kD σ m C π M M0 S S0 L Z) (hH : kHs σ' m' Z) (o : ∀ f j k, ((f = 0 ∧ j = 0 ∧ k = 15) ∨ (1 ≤ f ∧ f ≤ 14) ∨ (31 ≤ f ∧ f ≤ 37 ∧ j ≤ 2)) → σ'.1 f j k = σ.1 f j k) (p : ∀ f q, ((f = 0 ∧ (q = 7 ∨ q = 25 ∨ q = 26 ∨ q = 48)) ∨ (100 ≤ f ∧ f ≤ 106) ∨ (108 ≤ f ∧ f ≤ 114 ∧ q < 240) ∨ (120 ≤ f ∧ f ≤ 124) ∨ f = 129 ∨ f = 130) → m'.1 f 0 q = m.1 f 0 q) : kD σ' m' C π M M0 S S0 L Z :=
  kD_frZ h hH (fun k k8 => by rw [o 14 0 k (by omega), p 106 k (by omega)]; exact h.2.2.2.2.2.2.2.1 k k8) (by rw [p 0 48 (by omega)]; exact h.2.2.2.2.2.2.2.2.2.2) (fun f j k w => o f j k (by omega)) (fun f q w => p f q (by omega))
theorem kHs_fr {σ m σ' m' : qS} {Z : Nat} (h : kHs σ m Z) (hl : ∀ z, z < Z → m'.1 135 0 z = 0 → m.1 135 0 z = 0 ∧ σ'.2 2 z = σ.2 2 z ∧ σ'.2 3 z = σ.2 3 z ∧ m'.1 132 0 z = m.1 132 0 z ∧ (σ'.1 50 z 10 = σ.1 50 z 10 ∧ σ'.1 50 z 11 = σ.1 50 z 11) ∧ (∀ f, (53 ≤ f ∧ f ≤ 55) ∨ f = 58 → σ'.1 f z = σ.1 f z) ∧ ∀ f q, (((f = 141 ∨ f = 142) ∧ 8 * z ≤ q ∧ q < 8 * z + 8) ∨ ((f = 143 ∨ f = 145 ∨ f = 146) ∧ q = z) ∨ (f = 144 ∧ 8000 * z ≤ q ∧ q < 8000 * z + 8000)) → m'.1 f 0 q = m.1 f 0 q) (h8 : ∀ s, σ'.1 8 s 2 = σ.1 8 s 2) (h2 : σ'.1 2 0 = σ.1 2 0) (hlog : ∀ f i, f = 11 ∨ f = 12 → σ'.1 f 0 i = σ.1 f 0 i) (hB : ∀ s, s < 3 → stN σ s ≤ 999) : kHs σ' m' Z := by
  intro z hz h0
  obtain ⟨l1, l2, l3, l4, l5, l6, l7⟩ := hl z hz h0
  obtain ⟨q1, q2, q3⟩ := h z hz l1
  have est : ∀ s, stN σ' s = stN σ s := fun s => by unfold stN; rw [h8]
  rw [l2, l4, est]
  refine ⟨q1, q2, ?_⟩
  obtain ⟨r1, r2, r3⟩ := q3
  exact kHz_fr ⟨r1, r2, ssM_fr r3 l7 (by have := hB _ q1; omega)⟩ h2 (fun i _ => ⟨hlog 11 i (Or.inl rfl), hlog 12 i (Or.inr rfl)⟩) l5 (l6 53 (by omega)) (l6 54 (by omega)) (l6 55 (by omega)) (l6 58 (by omega)) l3
/-- a change of the rest alone -/
theorem kI_re {n n' : Nat} {σ m σ' m' : qS} (h : kI n σ m) (hN : σ'.2 0 = σ.2 0 ∧ σ'.2 2 = σ.2 2 ∧ σ'.2 3 = σ.2 3) (o : ∀ f j k, ((f = 0 ∧ j = 0 ∧ (k = 15 ∨ k = 12)) ∨ (1 ≤ f ∧ f ≤ 14) ∨ (31 ≤ f ∧ f ≤ 37) ∨ (f = 50 ∧ (k = 10 ∨ k = 11)) ∨ (53 ≤ f ∧ f ≤ 55) ∨ f = 58) → σ'.1 f j k = σ.1 f j k) (p : ∀ f q, ((f = 0 ∧ (q = 7 ∨ q = 25 ∨ q = 26 ∨ q = 48 ∨ q = 17)) ∨ (100 ≤ f ∧ f ≤ 130) ∨ f = 132 ∨ f = 135 ∨ (141 ≤ f ∧ f ≤ 146)) → m'.1 f 0 q = m.1 f 0 q) (hn : n ≤ n') (h5 : n ≤ 600) (hR : ∀ L Z Y T cmp, σ.1 0 0 15 = nI L → m.1 0 0 26 = nI L → L ≤ 2000 * n → cmp ≤ L → T ≤ 50 * n → kR σ m Z Y T cmp → kLo σ m → ∃ Y' T' cmp', kR σ' m' Z Y' T' cmp' ∧ kLo σ' m' ∧ T' ≤ 50 * n' ∧ cmp ≤ cmp' ∧ cmp' ≤ L ∧ pnd m' Z + n ≤ pnd m Z + n') : kI n' σ' m' := by
  obtain ⟨C, π, M, S, L, Z, Y, T, cmp, hk, hR0, hlo, h6, hK, hP, hcL, hT, hLn, hS, hp⟩ := h
  obtain ⟨Y', T', cmp', r1, r2, r3, r4, r5, r6⟩ := hR L Z Y T cmp hk.2.2.2.2.2.2.2.2.1 hk.2.2.2.2.2.2.2.2.2.1 hLn hcL hT hR0 hlo
  have hM80 : M ≤ 80 := hk.1.2.1.2.2.2.2.1
  refine ⟨C, π, M, S, L, Z, Y', T', cmp', kD_fr hk (kHs_fr hk.2.2.2.1 (fun z hz h0 => ⟨by rw [← p 135 z (by omega)]; exact h0, by rw [hN.2.1], by rw [hN.2.2], p 132 z (by omega), ⟨o 50 z 10 (by omega), o 50 z 11 (by omega)⟩, fun f hf => by funext q; exact o f z q (by omega), fun f q w => p f q (by omega)⟩) (fun s => o 8 s 2 (by omega)) (by funext q; exact o 2 0 q (by omega)) (fun f i w => o f 0 i (by omega)) (fun s hs => by have := (hk.2.1 s hs).2.2.2.2.1; omega)) (fun f j k w => o f j k (by omega)) (fun f q w => p f q (by omega)), r1, r2, fun k k8 => by rw [o 6 0 k (by omega)]; exact h6 k k8, kK_fr hK (o 0 0 12 (by omega)) (fun f k w1 w2 => o f 5 k (by omega)) (p 0 17 (by omega)) (fun f q w => p f q (by omega)) (fun f k w1 w2 w3 => o f 0 k (by omega)) ?_ (Nat.le_refl _) hM80 (Nat.le_refl _), kP_fr hP (fun f k w1 w2 => o f 4 k (by omega)) (fun f k w1 w2 w3 => rfl) (fun f q w1 w2 w3 => p f q (by omega)) r4, r5, r3, by omega, by omega, by omega⟩
  have hw := hk.1.2.1.2.2.1
  exact ⟨by rw [o 2 0 0 (by omega)]; exact hw.1, fun k k1 k2 k3 => by rw [o 2 0 k (by omega)]; exact hw.2 k k1 k2 k3⟩

theorem kI_mono {n n' : Nat} {σ m : qS} (h : kI n σ m) (hn : n ≤ n') : kI n' σ m := by
  obtain ⟨C, π, M, S, L, Z, Y, T, cmp, hk, hR0, hlo, h6, hK, hP, hcL, hT, hLn, hS, hp⟩ := h
  exact ⟨C, π, M, S, L, Z, Y, T, cmp, hk, hR0, hlo, h6, hK, hP, hcL, by omega, by omega, by omega, by omega⟩
theorem kZ_fr {σ m σ' m' : qS} {z : Nat} (h : kZa σ m z ∧ kZb σ m z ∧ kZc σ m z) (o : ∀ f k, (f = 50 ∧ k ≠ 10 ∧ k ≠ 11) ∨ f = 52 → σ'.1 f z k = σ.1 f z k) (oa : ∀ a, 1 + 6 * z ≤ a → a < 7 + 6 * z → σ'.1 56 a = σ.1 56 a) (p : ∀ f, (131 ≤ f ∧ f ≤ 137) ∨ f = 140 → m'.1 f 0 z = m.1 f 0 z) (p8 : ∀ q, 42 * z ≤ q → q < 42 * z + 42 → m'.1 138 0 q = m.1 138 0 q) (p9 : ∀ q, 6 * z ≤ q → q < 6 * z + 6 → m'.1 139 0 q = m.1 139 0 q) : kZa σ' m' z ∧ kZb σ' m' z ∧ kZc σ' m' z := by
  obtain ⟨b1, b2, b3⟩ := h
  refine ⟨?_, ?_, ?_⟩
  · unfold kZa at b1 ⊢
    rw [o 50 0 (by omega), o 50 1 (by omega), o 50 2 (by omega), o 50 9 (by omega), o 50 15 (by omega), p 131 (by omega), p 133 (by omega), p 134 (by omega), p 135 (by omega), p 136 (by omega)]
    exact b1
  · obtain ⟨x, x1, x2, x3, x4⟩ := b2
    exact ⟨x, x1, by rw [o 50 13 (by omega)]; exact x2, by rw [p 140 (by omega)]; exact x3, fun i hi => by rw [o 52 i (by omega), p9 _ (by omega) (by omega)]; exact x4 i hi⟩
  · obtain ⟨c1, c2⟩ := b3
    refine ⟨by rw [o 50 14 (by omega), p 135 (by omega), p 136 (by omega)]; exact c1, ?_⟩
    rw [p 136 (by omega)]
    rcases c2 with c2 | ⟨c2, x, x1, x2, x3, x4⟩
    · exact Or.inl c2
    · refine Or.inr ⟨c2, x, x1, by rw [o 50 12 (by omega)]; exact x2, by rw [p 137 (by omega)]; exact x3, fun i hi => ?_⟩
      have := x4 i hi
      unfold kZe at this ⊢
      rw [p8 _ (by omega) (by omega), p8 _ (by omega) (by omega), p8 _ (by omega) (by omega), p8 _ (by omega) (by omega), p8 _ (by omega) (by omega), p8 _ (by omega) (by omega), p8 _ (by omega) (by omega)]
      exact actR_fr this (oa _ (by omega) (by omega))
theorem kLz_fr {σ m σ' m' : qS} {T T' l : Nat} (h : kLz σ m T l) (o : ∀ k, k < 3 → σ'.1 57 l k = σ.1 57 l k) (p : ∀ f, 149 ≤ f → f ≤ 151 → m'.1 f 0 l = m.1 f 0 l) (hT : T ≤ T') : kLz σ' m' T' l := by
  obtain ⟨t, r, t1, t2, t3, t4, t5, t6, t7, t8, t9⟩ := h
  exact ⟨t, r, t1, t2, by omega, by rw [o 0 (by decide)]; exact t4, by rw [o 1 (by decide)]; exact t5, by rw [p 149 (by decide) (by decide)]; exact t6, by rw [p 150 (by decide) (by decide)]; exact t7, by rw [o 2 (by decide), p 151 (by decide) (by decide)]; exact t8, by rw [p 151 (by decide) (by decide)]; exact t9⟩
theorem kFr_fr {m m' : qS} {Z Y : Nat} (h : kFr m Z Y) (p : ∀ f z, (f = 135 ∨ f = 136 ∨ f = 140 ∨ f = 143 ∨ f = 145 ∨ f = 146) → Z ≤ z → z < 10 → m'.1 f 0 z = m.1 f 0 z) (p7 : ∀ q, 80 * Z ≤ q → m'.1 147 0 q = m.1 147 0 q) (pl : ∀ l, Y ≤ l → l < 10 → m'.1 151 0 l = m.1 151 0 l) : kFr m' Z Y := by
  refine ⟨fun z h1 h2 => ?_, fun l h1 h2 => by rw [pl l h1 h2]; exact h.2 l h1 h2⟩
  obtain ⟨d1, d2, d3, d4, d5, d6, d7⟩ := h.1 z h1 h2
  exact ⟨by rw [p 135 z (by omega) h1 h2]; exact d1, by rw [p 136 z (by omega) h1 h2]; exact d2, by rw [p 140 z (by omega) h1 h2]; exact d3, by rw [p 143 z (by omega) h1 h2]; exact d4, by rw [p 145 z (by omega) h1 h2]; exact d5, by rw [p 146 z (by omega) h1 h2]; exact d6, fun k hk => by rw [p7 _ (by omega)]; exact d7 k hk⟩
theorem kBl_fr {σ m σ' m' : qS} {Z : Nat} (h : kBl σ m Z) (o : ∀ k, σ'.1 15 0 k = σ.1 15 0 k) (p : ∀ q, m'.1 147 0 q = m.1 147 0 q) : kBl σ' m' Z := fun k hk i hi => by rw [o, p]; exact h k hk i hi
theorem kLo_fr {σ m σ' m' : qS} (h : kLo σ m) (o : σ'.1 0 0 17 = σ.1 0 0 17) (p : m'.1 0 0 54 = m.1 0 0 54) : kLo σ' m' := by
  unfold kLo
  rw [o, p]
  exact h
/-- one session's own rows change -/
theorem kR_z {σ m σ' m' : qS} {Z Y T cmp z : Nat} (h : kR σ m Z Y T cmp) (hz : z < Z) (hN : σ'.2 = σ.2) (o : ∀ f j k, ¬ (f = 50 ∧ j = z) → ¬ (f = 52 ∧ j = z) → ¬ (f = 56 ∧ (j = 0 ∨ (1 + 6 * z ≤ j ∧ j < 7 + 6 * z))) → σ'.1 f j k = σ.1 f j k) (p : ∀ f q, ¬ (((131 ≤ f ∧ f ≤ 137) ∨ f = 140) ∧ q = z) → ¬ (f = 138 ∧ 42 * z ≤ q ∧ q < 42 * z + 42) → ¬ (f = 139 ∧ 6 * z ≤ q ∧ q < 6 * z + 6) → ¬ (f = 0 ∧ q = 57) → m'.1 f 0 q = m.1 f 0 q) (hz' : kZa σ' m' z ∧ kZb σ' m' z ∧ kZc σ' m' z) : kR σ' m' Z Y T cmp := by
  obtain ⟨⟨a1, a2, a3, a4, a5, a6, a7⟩, b, c, d, e, ⟨f1, f2, f3, f4⟩, g⟩ := h
  refine ⟨⟨by rw [hN]; exact a1, a2, by rw [hN]; exact a3, a4, by rw [p 0 52 (by omega) (by omega) (by omega) (by omega)]; exact a5, by rw [o 0 0 14 (by omega) (by omega) (by omega)]; exact a6, by rw [p 0 53 (by omega) (by omega) (by omega) (by omega)]; exact a7⟩, fun y hy => ?_, fun l hl => kLz_fr (c l hl) (fun k _ => o 57 l k (by omega) (by omega) (by omega)) (fun f w1 w2 => p f l (by omega) (by omega) (by omega) (by omega)) (Nat.le_refl _), kFr_fr d (fun f y w1 w2 w3 => p f y (by omega) (by omega) (by omega) (by omega)) (fun q _ => p 147 q (by omega) (by omega) (by omega) (by omega)) (fun l _ _ => p 151 l (by omega) (by omega) (by omega) (by omega)), kBl_fr e (fun k => o 15 0 k (by omega) (by omega) (by omega)) (fun q => p 147 q (by omega) (by omega) (by omega) (by omega)), ⟨by rw [o 0 0 18 (by omega) (by omega) (by omega), p 0 55 (by omega) (by omega) (by omega) (by omega)]; exact f1, by rw [o 0 0 19 (by omega) (by omega) (by omega), p 0 56 (by omega) (by omega) (by omega) (by omega)]; exact f2, by rw [o 0 0 16 (by omega) (by omega) (by omega)]; exact f3, by rw [p 0 28 (by omega) (by omega) (by omega) (by omega)]; exact f4⟩, by rw [hN]; exact g⟩
  by_cases e : y = z
  · subst e; exact hz'
  · exact kZ_fr (b y hy) (fun f k w => o f y k (by omega) (by omega) (by omega)) (fun a w1 w2 => by funext k; exact o 56 a k (by omega) (by omega) (by omega)) (fun f w => p f y (by omega) (by omega) (by omega) (by omega)) (fun q w1 w2 => p 138 q (by omega) (by omega) (by omega) (by omega)) (fun q w1 w2 => p 139 q (by omega) (by omega) (by omega) (by omega))
/-! bits of beliefs -/
theorem tb_and {a b : Int32} {i : Nat} : tbI (a &&& b) i = (tbI a i && tbI b i) := by
  unfold tbI
  rw [Int32.toBitVec_and, BitVec.getLsbD_and]
theorem tb_or {a b : Int32} {i : Nat} : tbI (a ||| b) i = (tbI a i || tbI b i) := by
  unfold tbI
  rw [Int32.toBitVec_or, BitVec.getLsbD_or]
theorem tb_xor {a b : Int32} {i : Nat} : tbI (a ^^^ b) i = (tbI a i != tbI b i) := by
  unfold tbI
  rw [Int32.toBitVec_xor, BitVec.getLsbD_xor]
theorem tb_m1 : ∀ i, i < 32 → tbI (-1) i = true := by decide +kernel
theorem tb_0 : ∀ i, i < 32 → tbI 0 i = false := by decide +kernel
theorem tb_sh : ∀ z, z < 10 → ∀ i, i < 32 → tbI (1 <<< (nI z &&& 31)) i = decide (i = z) := by decide +kernel
theorem tb_ext {a b : Int32} (h : ∀ i, i < 32 → tbI a i = tbI b i) : a = b := Int32.toBitVec_inj.mp (BitVec.eq_of_getLsbD_eq h)
/-- beliefs of session z about k, set in both -/
def blS (σ s : qS) (z : Nat) (X : Nat → Prop) [DecidablePred X] (b : Bool) : Prop := s.2 = σ.2 ∧ (∀ f j k, ¬ (f = 15 ∧ j = 0) → s.1 f j k = σ.1 f j k) ∧ ∀ k, (¬ (k < 80 ∧ X k) → s.1 15 0 k = σ.1 15 0 k) ∧ (k < 80 → ∀ i, i < 32 → tbI (s.1 15 0 k) i = if X k ∧ i = z then b else tbI (σ.1 15 0 k) i)
section BE
variable {F : Nat}
theorem e_believe {σ : qS} {z : Nat} {p v : Int32} (hz : z < σ.2 0 0) (hz10 : z < 10) (h0 : σ.1 50 z 0 = nI z) : ∃ s, fX8_believe F z p v σ = some s ∧ blS σ s z (fun k => p = nI k) (if v = 0 then false else true) := by
  unfold fX8_believe
  rw [e_isWithin, bnd2_s]
  by_cases c : ¬ p < 0 ∧ ¬ 79 < p
  · rw [b2_t c, if_neg (show ¬ (1 : Int32) = 0 by decide), gnl_pos hz]
    repeat rw [nm_x]
    have c8 : ¬ p < 0 ∧ ¬ 80 ≤ p := ⟨c.1, fun q => c.2 (Int32.lt_of_lt_of_le (by decide) q)⟩
    obtain ⟨a, ha, h31, rfl⟩ := in_ex (vp_in_80.mpr c8)
    rw [h0, ldi_nI ha i80', ldi_nI ha i80']
    unfold fX8_believe_50 fX8_believe_51
    have fin : ∀ w : Int32, ∀ b : Bool, (∀ i, i < 32 → tbI w i = if i = z then b else tbI (σ.1 15 0 a) i) → blS σ (qI σ 15 0 a w) z (fun k => nI a = nI k) b := fun w b hw => by
      refine ⟨rfl, fun f j k w1 => by rw [qI_ap, if_neg (by omega)], fun k => ⟨fun w1 => ?_, fun k8 i hi => ?_⟩⟩
      · rw [qI_ap, if_neg (fun q => w1 ⟨by omega, by rw [q.2.2]⟩)]
      · by_cases e : k = a
        · subst e
          rw [qI_ap, if_pos ⟨rfl, rfl, rfl⟩, hw i hi]
          by_cases e2 : i = z
          · rw [if_pos e2, if_pos ⟨rfl, e2⟩]
          · rw [if_neg e2, if_neg (fun q => e2 q.2)]
        · rw [qI_ap, if_neg (by omega), if_neg (fun q => e (nI_inj (by omega) h31 q.1.symm))]
    by_cases cv : v = 0
    · rw [if_pos cv, if_pos cv]
      repeat rw [nm_x]
      rw [inx_nI ha i80', ix_nI h31]
      refine ⟨_, rfl, fin _ _ (fun i hi => ?_)⟩
      rw [tb_and, tb_xor, tb_m1 i hi, tb_sh z hz10 i hi]
      by_cases e : i = z
      · rw [if_pos e, decide_eq_true e]; simp
      · rw [if_neg e, decide_eq_false e]; simp
    · rw [if_neg cv, if_neg cv]
      repeat rw [nm_x]
      rw [inx_nI ha i80', ix_nI h31]
      refine ⟨_, rfl, fin _ _ (fun i hi => ?_)⟩
      rw [tb_or, tb_sh z hz10 i hi]
      by_cases e : i = z
      · rw [if_pos e, decide_eq_true e]; simp
      · rw [if_neg e, decide_eq_false e]; simp
  · rw [b2_f c, if_pos rfl]
    refine ⟨σ, rfl, rfl, fun _ _ _ _ => rfl, fun k => ⟨fun _ => rfl, fun k8 i hi => ?_⟩⟩
    rw [if_neg (fun q => ?_)]
    rw [q.1] at c
    refine c ⟨fun w => ?_, fun w => ?_⟩
    · have := (nI_lt' (b := 0) (by omega) (by decide)).mp w
      omega
    · have := (nI_lt' (a := 79) (by decide) (by omega)).mp w
      omega
theorem e_forget_l {σ : qS} {z : Nat} (hz10 : z < 10) : ∀ (d t n : Nat) (s : qS), t + d = 80 → d < n → z < s.2 0 0 → s.1 50 z 0 = nI z → blS σ s z (fun k => k < t) false → ∃ s', fX8_forgetLocks_2 F z n (nI t) s = some s' ∧ blS σ s' z (fun _ => True) false := by
  intro d
  induction d with
  | zero =>
    intro t n s ht hn hz h0 h
    obtain ⟨n, rfl⟩ : ∃ k, n = k + 1 := ⟨n - 1, by omega⟩
    rw [fX8_forgetLocks_2, if_pos (le80 (by omega) (by omega))]
    refine ⟨s, rfl, h.1, h.2.1, fun k => ⟨fun w => (h.2.2 k).1 (fun q => w ⟨q.1, trivial⟩), fun k8 i hi => ?_⟩⟩
    rw [(h.2.2 k).2 k8 i hi]
    by_cases e : i = z
    · rw [if_pos ⟨by omega, e⟩, if_pos ⟨trivial, e⟩]
    · rw [if_neg (fun q => e q.2), if_neg (fun q => e q.2)]
  | succ d ih =>
    intro t n s ht hn hz h0 h
    obtain ⟨n, rfl⟩ : ∃ k, n = k + 1 := ⟨n - 1, by omega⟩
    rw [fX8_forgetLocks_2, if_neg (nle80 (by omega))]
    obtain ⟨s1, a1, a2⟩ := e_believe (F := F) (p := nI t) (v := 0) hz hz10 h0
    rw [if_pos rfl] at a2
    rw [a1, bnd_s, nm_x, nI_1]
    refine ih (t + 1) n s1 (by omega) (by omega) (by rw [a2.1]; exact hz) (by rw [a2.2.1 50 z 0 (by omega)]; exact h0) ⟨a2.1.trans h.1, fun f j k w => (a2.2.1 f j k w).trans (h.2.1 f j k w), fun k => ⟨fun w => ?_, fun k8 i hi => ?_⟩⟩
    · rw [(a2.2.2 k).1 (fun q => w ⟨q.1, by have := nI_inj (by omega) (by omega) q.2; omega⟩)]
      exact (h.2.2 k).1 (fun q => w ⟨q.1, by omega⟩)
    · rw [(a2.2.2 k).2 k8 i hi, (h.2.2 k).2 k8 i hi]
      by_cases e : i = z
      · by_cases e1 : k < t
        · rw [if_neg (fun q => by have := nI_inj (by omega) (by omega) q.1; omega), if_pos ⟨e1, e⟩, if_pos ⟨by omega, e⟩]
        · by_cases e2 : k = t
          · rw [if_pos ⟨by rw [e2], e⟩, if_pos ⟨by omega, e⟩]
          · rw [if_neg (fun q => e2 (nI_inj (by omega) (by omega) q.1.symm)), if_neg (fun q => e1 q.1), if_neg (fun q => by omega)]
      · rw [if_neg (fun q => e q.2), if_neg (fun q => e q.2), if_neg (fun q => e q.2)]
theorem e_forget {σ : qS} {z : Nat} (hF : 100 ≤ F) (hz : z < σ.2 0 0) (hz10 : z < 10) (h0 : σ.1 50 z 0 = nI z) : ∃ s', fX8_forgetLocks F z σ = some s' ∧ blS σ s' z (fun _ => True) false :=
  e_forget_l hz10 80 0 F σ (by omega) (by omega) hz h0 ⟨rfl, fun _ _ _ _ => rfl, fun k => ⟨fun _ => rfl, fun _ i _ => by rw [if_neg (by omega)]⟩⟩
/-- the same in the reference -/
def bmS (m s : qS) (z : Nat) (X : Nat → Prop) [DecidablePred X] (v : Int32) : Prop := s.2 = m.2 ∧ (∀ f j q, ¬ (f = 147 ∧ j = 0) → s.1 f j q = m.1 f j q) ∧ (∀ q, ¬ (80 * z ≤ q ∧ q < 80 * z + 80) → s.1 147 0 q = m.1 147 0 q) ∧ ∀ k, k < 80 → s.1 147 0 (80 * z + k) = if X k then v else m.1 147 0 (80 * z + k)
theorem kBl_of {σ m σ' m' : qS} {Z z : Nat} {X : Nat → Prop} [DecidablePred X] {b : Bool} {v : Int32} (h : kBl σ m Z) (hz : z < Z) (hs : blS σ σ' z X b) (hm : bmS m m' z X v) (hv : b = decide (v = 1)) : kBl σ' m' Z := by
  intro k hk i hi
  rw [(hs.2.2 k).2 hk i hi, h k hk i hi]
  by_cases e : i = z
  · subst e
    rw [hm.2.2.2 k hk]
    by_cases c : X k
    · rw [if_pos ⟨c, rfl⟩, if_pos c, hv]
      simp [hz]
    · rw [if_neg (fun q => c q.1), if_neg c]
  · rw [if_neg (fun q => e q.2), hm.2.2.1 _ (by omega)]
theorem e_ended0 {m : qS} {z : Nat} (hF : 100 ≤ F) (hz : z < 10) (h : m.1 135 0 z = 0) : fX9_ended F (nI z) m = some (0, m) := by
  unfold fX9_ended
  obtain ⟨k, rfl⟩ : ∃ k, F = k + 1 := ⟨F - 1, by omega⟩
  rw [fX9_ended_2, if_neg (by decide), ldi_nI hz (by decide), h, if_neg (by decide)]
  unfold fX9_ended_36 fX9_ended_51
  rw [ldi_nI hz (by decide), h, if_neg (by decide)]
  rfl
theorem e_ended1_l {m : qS} {z : Nat} (hz : z < 10) (h : m.1 135 0 z = 1) : ∀ (d t n : Nat) (s : qS), t + d = 80 → d < n → bmS m s z (fun k => k < t) 0 → ∃ s', fX9_ended_2 F n (nI z) (nI t) s = some (1, s') ∧ bmS m s' z (fun _ => True) 0 := by
  intro d
  induction d with
  | zero =>
    intro t n s ht hn hb
    obtain ⟨n, rfl⟩ : ∃ k, n = k + 1 := ⟨n - 1, by omega⟩
    rw [fX9_ended_2, if_pos (le80 (by omega) (by omega))]
    unfold fX9_ended_36 fX9_ended_51
    rw [ldi_nI hz (by decide), hb.2.1 135 0 z (by omega), h, if_pos rfl]
    exact ⟨s, rfl, hb.1, hb.2.1, hb.2.2.1, fun k hk => by rw [hb.2.2.2 k hk, if_pos (by omega), if_pos trivial]⟩
  | succ d ih =>
    intro t n s ht hn hb
    obtain ⟨n, rfl⟩ : ∃ k, n = k + 1 := ⟨n - 1, by omega⟩
    rw [fX9_ended_2, if_neg (nle80 (by omega)), ldi_nI hz (by decide), hb.2.1 135 0 z (by omega), h, if_pos rfl]
    repeat rw [nm_x]
    rw [nI_80, inx_nI (by omega) (by decide)]
    repeat rw [nm_x]
    rw [nI_1, ix_nI (by omega)]
    refine ih (t + 1) n _ (by omega) (by omega) ⟨hb.1, fun f j q w => by rw [qI_ap, if_neg (by omega)]; exact hb.2.1 f j q w, fun q w => by rw [qI_ap, if_neg (by omega)]; exact hb.2.2.1 q w, fun k hk => ?_⟩
    by_cases e : k = t
    · rw [qI_ap, if_pos ⟨rfl, rfl, by omega⟩, if_pos (by omega)]
    · rw [qI_ap, if_neg (by omega), hb.2.2.2 k hk]
      by_cases e2 : k < t
      · rw [if_pos e2, if_pos (by omega)]
      · rw [if_neg e2, if_neg (by omega)]
theorem e_ended1 {m : qS} {z : Nat} (hF : 100 ≤ F) (hz : z < 10) (h : m.1 135 0 z = 1) : ∃ m', fX9_ended F (nI z) m = some (1, m') ∧ bmS m m' z (fun _ => True) 0 := by
  unfold fX9_ended
  exact e_ended1_l hz h 80 0 F m (by omega) (by omega) ⟨rfl, fun _ _ _ _ => rfl, fun _ _ => rfl, fun k _ => by rw [if_neg (by omega)]⟩
end BE

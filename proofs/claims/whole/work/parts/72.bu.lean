/-! PURE: acts begin and are taken back, in both -/
/-- what acts began with, kept aside in both -/
def kBf (σ m c : qS) (M0 R0 : Nat) : Prop := tEq σ 3 c 0 ∧ σ.1 0 0 13 = nI M0 ∧ rEq m 4 (fun f k => c.1 f 0 k) ∧ m.1 0 0 18 = nI M0 ∧ m.1 0 0 19 = nI R0 ∧ ∀ k, k < 80 → c.1 31 0 k ≠ 0 → m.1 116 0 k = c.1 37 0 k
theorem kBf_fr {σ m σ' m' c c' : qS} {M0 R0 S R : Nat} (h : kBf σ m c M0 R0) (hσ : frB σ σ' S M0) (hm : frD m m' R M0) (ht : tEq c' 0 c 0) : kBf σ' m' c' M0 R0 := by
  obtain ⟨h1, h2, h3, h4, h5, h6⟩ := h
  refine ⟨fun f k k1 k2 k3 => ?_, ?_, ?_, ?_, ?_, fun k k1 k2 => ?_⟩
  · rw [hσ.2 f 3 k (by omega) (by omega) (by omega) (by omega) (by omega) (by omega) (by omega), ht f k k1 k2 k3]
    exact h1 f k k1 k2 k3
  · rw [hσ.2 0 0 13 (by omega) (by omega) (by omega) (by omega) (by omega) (by omega) (by omega)]
    exact h2
  · exact rEq_congr (rEq_m h3 (fun f q k1 k2 k3 k4 => hm.2 f 0 q (by omega) (by omega) (by omega) (by omega) (by omega))) (fun f k k1 k2 k3 => ht f k k1 (by omega) k3)
  · rw [hm.2 0 0 18 (by omega) (by omega) (by omega) (by omega) (by omega)]
    exact h4
  · rw [hm.2 0 0 19 (by omega) (by omega) (by omega) (by omega) (by omega)]
    exact h5
  · rw [hm.2 116 0 k (by omega) (by omega) (by omega) (by omega) (by omega), ht 37 k (by decide) (by decide) k1]
    rw [ht 31 k (by decide) (by decide) k1] at k2
    exact h6 k k1 k2
/-- the log cut where acts began -/
theorem kLog_cut {σ m σ' m' : qS} {C : Nat → qS} {π : Nat → Nat} {M S M0 S0 : Nat} (h : kLog σ m C π M S) (hS : S0 ≤ S) (hM : M0 ≤ M) (hg : ∀ i, i ≤ S0 → gdT (C i) M0) (e9 : σ'.1 9 0 4 = nI S0) (e : ∀ f, (2 ≤ f ∧ f ≤ 6 ∨ 10 ≤ f ∧ f ≤ 13) → σ'.1 f 0 = σ.1 f 0) (e25 : m'.1 0 0 25 = nI (π S0)) (em : ∀ f q, 120 ≤ f → f ≤ 124 → m'.1 f 0 q = m.1 f 0 q) : kLog σ' m' C π M0 S0 := by
  obtain ⟨h1, h2, h3, h4⟩ := h
  refine ⟨e9, e25, fun i hi => ?_, fun i hi => ⟨hg i hi, fun f k k1 k2 k3 k4 => by rw [e f (by omega)]; exact (h4 i (by omega)).2 f k k1 k2 (by omega) k4⟩⟩
  have ek : kdN σ' i = kdN σ i := by unfold kdN; rw [e 11 (by decide)]
  have en : ndN σ' i = ndN σ i := by unfold ndN; rw [e 12 (by decide)]
  have ec : chN σ' i = chN σ i := by unfold chN; rw [e 10 (by decide)]
  obtain ⟨⟨l1, l5, l6⟩, l7, l8⟩ := h3 i (by omega)
  have hn : ndN σ i < M0 := by
    obtain ⟨a1, a2, a3, a4, a5, a6, a7⟩ := l5
    by_cases c : kdN σ i = 0
    · refine gdT_M (hg (i + 1) (by omega)) a1 ?_
      rw [l6 31 _ (by decide) (by decide) a1, c, apT_0, if_pos ⟨rfl, rfl⟩]
      decide
    · exact gdT_M (hg i (by omega)) a1 (a5 c)
  unfold lgC lgR
  rw [ek, en, ec, e 10 (by decide), e 11 (by decide), e 12 (by decide), e 13 (by decide)]
  exact ⟨⟨l1, ⟨l5.1, hn, l5.2.2⟩, l6⟩, blk_fr l7 (fun f q k1 k2 _ => em f q k1 k2), l8⟩
section BU
variable {F : Nat}
theorem pr_begin {σ m : qS} {C : Nat → qS} {π : Nat → Nat} {M S L : Nat} (h : kA σ m C π M S) (hL : m.1 0 0 26 = nI L) (hF : 100 ≤ F) : ∃ σ' m', fX8_begin F σ = some σ' ∧ fX9_begin F m = some m' ∧ kA σ' m' C π M S ∧ kBf σ' m' (C S) M (π S) ∧ m'.1 0 0 27 = nI (L + 1) ∧ bgS σ σ' ∧ bgM m m' := by
  obtain ⟨hl, hb, ht, hr, hc⟩ := h
  obtain ⟨g0, g1⟩ := hl.2.2.2 S (Nat.le_refl _)
  obtain ⟨σ', a1, a2⟩ := e_begin (F := F) (σ := σ) hF (fun q hq => by
    rw [ht 31 q (by decide) (by decide) hq]
    rcases g0.2.1 q hq with e | e
    · exact Or.inl e
    · exact Or.inr e.1)
  obtain ⟨m', b1, b2⟩ := e_begin9 (F := F) (m := m) hF
  have o : ∀ f j k, ¬ (f = 0 ∧ j = 0 ∧ k = 13) → ¬ (j = 3 ∧ 31 ≤ f ∧ f ≤ 37) → σ'.1 f j k = σ.1 f j k := fun f j k h1 h2 => by
    rw [a2.2, if_neg h1, if_neg (by omega)]
  have p : ∀ f j q, ¬ (f = 0 ∧ j = 0 ∧ (q = 27 ∨ q = 19 ∨ q = 18)) → ¬ (f = 116 ∧ j = 0) → ¬ (j = 0 ∧ 108 ≤ f ∧ f ≤ 114 ∧ 320 ≤ q) → m'.1 f j q = m.1 f j q := fun f j q h1 h2 h3 => by
    rw [b2.2, if_neg (by omega), if_neg (by omega), if_neg (by omega), if_neg (by omega), if_neg (by omega)]
  refine ⟨σ', m', a1, b1, ⟨kLog_mfr (kLog_fr hl (fun f hf => by funext k; exact o f 0 k (by omega) (by omega))) (p _ _ _ (by omega) (by omega) (by omega)) (fun f q h1 h2 => p f 0 q (by omega) (by omega) (by omega)), kBr_mfr (kBr_fr hb (fun f hf => by funext k; exact o f 0 k (by omega) (by omega))) (p _ _ _ (by omega) (by omega) (by omega)) (fun f q h1 h2 => p f 0 q (by omega) (by omega) (by omega)), fun f k k1 k2 k3 => by rw [o f 0 k (by omega) (by omega)]; exact ht f k k1 k2 k3, rEq_m hr (fun f q h1 h2 h3 h4 => p f 0 q (by omega) (by omega) (by omega)), fun k k1 => by rw [p 105 0 k (by omega) (by omega) (by omega)]; exact hc k k1⟩, ⟨fun f k k1 k2 k3 => ?_, ?_, ?_, ?_, ?_, fun k k1 k2 => ?_⟩, ?_, a2, b2⟩
  · rw [a2.2, if_neg (by omega), if_pos ⟨rfl, k1, k2, k3⟩]
    exact ht f k k1 k2 k3
  · rw [a2.2, if_pos ⟨rfl, rfl, rfl⟩]
    exact hb.1
  · intro k hk
    have e : ∀ f, 108 ≤ f → f ≤ 114 → m'.1 f 0 (80 * 4 + k) = m.1 f 0 (80 * 0 + k) := fun f h1 h2 => by
      rw [b2.2, if_neg (by omega), if_neg (by omega), if_neg (by omega), if_neg (by omega), if_pos ⟨rfl, h1, h2, by omega, by omega⟩, show 80 * 4 + k - 320 = 80 * 0 + k by omega]
    rw [e 108 (by decide) (by decide), e 109 (by decide) (by decide), e 110 (by decide) (by decide), e 111 (by decide) (by decide), e 112 (by decide) (by decide), e 113 (by decide) (by decide), e 114 (by decide) (by decide)]
    exact hr k hk
  · rw [b2.2, if_neg (by omega), if_neg (by omega), if_pos ⟨rfl, rfl, rfl⟩]
    exact hb.2.1
  · rw [b2.2, if_neg (by omega), if_pos ⟨rfl, rfl, rfl⟩]
    exact hl.2.1
  · rw [b2.2, if_neg (by omega), if_neg (by omega), if_neg (by omega), if_pos ⟨rfl, rfl, k1⟩]
    exact (hc k k1).1 k2
  · rw [b2.2, if_pos ⟨rfl, rfl, rfl⟩, hL, nI_1]
theorem pr_undo {σ m : qS} {C : Nat → qS} {π : Nat → Nat} {M S M0 S0 : Nat} (h : kA σ m C π M S) (hS : S0 ≤ S) (hM : M0 ≤ M) (hM1 : 1 ≤ M0) (hg : ∀ i, i ≤ S0 → gdT (C i) M0) (hf : kBf σ m (C S0) M0 (π S0)) (h8 : σ.1 8 0 2 = nI S0) (hv : ∀ k, k < 80 → ∃ y, y ≤ π S0 ∧ (C S0).1 33 0 k = nI y) (hF : 100 ≤ F) : ∃ σ' m', fX8_undo F σ = some σ' ∧ fX9_undo F m = some m' ∧ kA σ' m' C π M0 S0 ∧ udS σ σ' ∧ udM m m' := by
  obtain ⟨hl, hb, ht, hr, hc⟩ := h
  obtain ⟨f1, f2, f3, f4, f5, f6⟩ := hf
  have g0 := hg S0 (Nat.le_refl _)
  obtain ⟨σ', a1, a2⟩ := e_undo (F := F) (σ := σ) hF (fun q hq => by
    rw [f1 31 q (by decide) (by decide) hq]
    rcases g0.2.1 q hq with e | e
    · exact Or.inl e
    · exact Or.inr e.1)
  obtain ⟨m', b1, b2⟩ := e_undo9 (F := F) (m := m) hF
  have o : ∀ f j k, ¬ (f = 9 ∧ j = 0 ∧ k = 4) → ¬ (f = 1 ∧ j = 0 ∧ k = 5) → ¬ (j = 0 ∧ 31 ≤ f ∧ f ≤ 37 ∧ k < 80) → σ'.1 f j k = σ.1 f j k := fun f j k h1 h2 h3 => by
    rw [a2.2, if_neg h1, if_neg h2, if_neg h3]
  have p : ∀ f j q, ¬ (f = 0 ∧ j = 0 ∧ (q = 25 ∨ q = 7)) → ¬ (f = 105 ∧ j = 0) → ¬ (j = 0 ∧ 108 ≤ f ∧ f ≤ 114 ∧ q < 80) → m'.1 f j q = m.1 f j q := fun f j q h1 h2 h3 => by
    rw [b2.2, if_neg (by omega), if_neg (by omega), if_neg (by omega), if_neg (by omega)]
  refine ⟨σ', m', a1, b1, ⟨kLog_cut hl hS hM hg (by rw [a2.2, if_pos ⟨rfl, rfl, rfl⟩, h8]) (fun f hf => by funext k; exact o f 0 k (by omega) (by omega) (by omega)) (by rw [b2.2, if_pos ⟨rfl, rfl, rfl⟩, f5]) (fun f q h1 h2 => p f 0 q (by omega) (by omega) (by omega)), ⟨by rw [a2.2, if_neg (by omega), if_pos ⟨rfl, rfl, rfl⟩, f2], by rw [b2.2, if_neg (by omega), if_pos ⟨rfl, rfl, rfl⟩, f4], ⟨by rw [o _ _ _ (by omega) (by omega) (by omega)]; exact hb.2.2.1.1, fun k k1 k2 k3 => by rw [o _ _ _ (by omega) (by omega) (by omega)]; exact hb.2.2.1.2 k k1 k2 (by omega)⟩, hM1, by have := hb.2.2.2.2.1; omega, fun k k1 k2 => ?_⟩, fun f k k1 k2 k3 => ?_, fun k hk => ?_, fun k k1 => ⟨fun k2 => ?_, hv k k1⟩⟩, a2, b2⟩
  · have e4 : isHd σ' k = isHd σ k := by unfold isHd; rw [o _ _ _ (by omega) (by omega) (by omega)]
    rw [e4, p 100 0 k (by omega) (by omega) (by omega), p 101 0 k (by omega) (by omega) (by omega), p 102 0 k (by omega) (by omega) (by omega), p 103 0 k (by omega) (by omega) (by omega), p 104 0 k (by omega) (by omega) (by omega), o 2 0 k (by omega) (by omega) (by omega), o 3 0 k (by omega) (by omega) (by omega), o 4 0 k (by omega) (by omega) (by omega), o 5 0 k (by omega) (by omega) (by omega), o 6 0 k (by omega) (by omega) (by omega)]
    exact hb.2.2.2.2.2 k k1 (by omega)
  · rw [a2.2, if_neg (by omega), if_neg (by omega), if_pos ⟨rfl, k1, k2, k3⟩]
    exact f1 f k k1 k2 k3
  · have e : ∀ f, 108 ≤ f → f ≤ 114 → m'.1 f 0 (80 * 0 + k) = m.1 f 0 (80 * 4 + k) := fun f h1 h2 => by
      rw [b2.2, if_neg (by omega), if_neg (by omega), if_neg (by omega), if_pos ⟨rfl, h1, h2, by omega⟩, show 320 + (80 * 0 + k) = 80 * 4 + k by omega]
    rw [e 108 (by decide) (by decide), e 109 (by decide) (by decide), e 110 (by decide) (by decide), e 111 (by decide) (by decide), e 112 (by decide) (by decide), e 113 (by decide) (by decide), e 114 (by decide) (by decide)]
    exact f3 k hk
  · rw [b2.2, if_neg (by omega), if_neg (by omega), if_pos ⟨rfl, rfl, k1⟩]
    exact f6 k k1 k2
end BU

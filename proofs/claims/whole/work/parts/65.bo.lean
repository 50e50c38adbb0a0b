/-! PURE: a birth -/
def setB (σ c : qS) : qS := (fun f j => if 2 ≤ f ∧ f ≤ 6 then σ.1 f j else c.1 f j, c.2)
theorem setB_t {σ c : qS} {f : Nat} (h : 31 ≤ f) : (setB σ c).1 f = c.1 f := by
  funext j
  exact if_neg (by omega)
theorem setB_b {σ c : qS} {f : Nat} (h1 : 2 ≤ f) (h2 : f ≤ 6) : (setB σ c).1 f = σ.1 f := by
  funext j
  exact if_pos ⟨h1, h2⟩
theorem gdT_cp {c c' : qS} {M M' : Nat} (h : gdT c M) (ht : tEq c' 0 c 0) (hb : bEq M c c') (hw : bwf c' M') (hM : M ≤ M') (hM8 : M' ≤ 80) : gdT c' M' := by
  have h' := h
  obtain ⟨⟨g1, g2, g2'⟩, g3, g4, g5, g6, g7, g8, g9⟩ := h
  have e : ∀ f k, 31 ≤ f → f ≤ 37 → k < 80 → c'.1 f 0 k = c.1 f 0 k := fun f k h1 h2 h3 => ht f k h1 h2 h3
  have hMk : ∀ k, k < 80 → c.1 31 0 k ≠ 0 → k < M := fun k h1 h2 => gdT_M h' h1 h2
  have ep : ∀ k, k < 80 → c.1 31 0 k ≠ 0 → parN c' k = parN c k := fun k h1 h2 => (bEq_par hb h1 (hMk k h1 h2)).symm
  have plt : ∀ k, 1 ≤ k → k < 80 → c.1 31 0 k ≠ 0 → parN c k < k := fun k h0 h1 h2 => (bwf_par g1 h0 h1 (hMk k h1 h2)).2
  refine ⟨⟨hw, by omega, hM8⟩, fun k hk => ?_, by rw [e 31 0 (by decide) (by decide) (by decide)]; exact g4, fun k a b d => ?_, fun k a b d => ?_, fun k k' a b a' b' d d' q q' => ?_, fun k a b => ?_, fun k a => ?_⟩
  · rw [e 31 k (by decide) (by decide) hk]
    rcases g3 k hk with q | q
    · exact Or.inl q
    · exact Or.inr ⟨q.1, by omega⟩
  · rw [e 31 k (by decide) (by decide) b] at d
    have hl := plt k a b d
    rw [ep k b d, e 31 _ (by decide) (by decide) (by omega)]
    obtain ⟨q1, q2⟩ := g5 k a b d
    refine ⟨q1, ?_⟩
    unfold isHd
    rw [← hb 4 _ (by decide) (by decide) (hMk _ (by omega) q1) (by omega)]
    exact q2
  · rw [e 31 k (by decide) (by decide) b] at d
    have hl := plt k a b d
    obtain ⟨x, q1, q2⟩ := g6 k a b d
    refine ⟨x, by rw [← hb 3 k (by decide) (by decide) (hMk k b d) b]; exact q1, ?_⟩
    rw [ep k b d, e 37 _ (by decide) (by decide) (by omega)]
    rcases q2 with q2 | ⟨q2, y, q3, q4, q5⟩
    · exact Or.inl q2
    · exact Or.inr ⟨q2, y, by omega, q4, q5⟩
  · rw [e 31 k (by decide) (by decide) b] at d
    rw [e 31 k' (by decide) (by decide) b'] at d'
    rw [← hb 2 k (by decide) (by decide) (hMk k b d) b, ← hb 2 k' (by decide) (by decide) (hMk k' b' d') b'] at q
    rw [← hb 3 k (by decide) (by decide) (hMk k b d) b, ← hb 3 k' (by decide) (by decide) (hMk k' b' d') b'] at q'
    exact g7 k k' a b a' b' d d' q q'
  · rw [e 33 k (by decide) (by decide) b, e 34 k (by decide) (by decide) b, e 35 k (by decide) (by decide) b, e 37 k (by decide) (by decide) b]
    exact g8 k (by omega) b
  · rw [e 37 k (by decide) (by decide) a]
    obtain ⟨y, q1, q2⟩ := g9 k a
    exact ⟨y, by omega, q2⟩
theorem gvN_cp {a b : qS} {M kd n k : Nat} (hb : bEq M b a) (ht : tEq a 0 b 0) (hw : wfT b 0) (hM : ∀ k, k < 80 → b.1 31 0 k ≠ 0 → k < M) : gvN a kd n k ↔ gvN b kd n k := by
  unfold gvN
  rw [giv_cp hb ht hw hM]
theorem sOK_cp {a b : qS} {M M' kd n : Nat} (h : sOK b kd n M) (hb : bEq M b a) (ht : tEq a 0 b 0) (hM : ∀ k, k < 80 → b.1 31 0 k ≠ 0 → k < M) (hMM : M ≤ M') : sOK a kd n M' := by
  obtain ⟨a1, a2, a3, a4, a5, a6, a7⟩ := h
  refine ⟨a1, by omega, a3, fun h => ?_, fun h => ?_, a6, fun h => wfT_cp hb ht (a7 h) hM⟩
  · obtain ⟨q1, q2, q3, q4, q5⟩ := a4 h
    rw [ht 31 n (by decide) (by decide) a1, ht 33 n (by decide) (by decide) a1, ht 34 n (by decide) (by decide) a1, ht 35 n (by decide) (by decide) a1]
    exact ⟨q1, q2, q3, q4, q5⟩
  · rw [ht 31 n (by decide) (by decide) a1]
    exact a5 h
theorem kLog_born {σ σ1 m m1 : qS} {C : Nat → qS} {π : Nat → Nat} {M S a : Nat} {nm ch : Int32} (h : kLog σ m C π M S) (hs : brS σ σ1 a M nm ch) (hw : bwf σ1 (M + 1)) (hM8 : M < 80) (hm : ∀ f q, 120 ≤ f → f ≤ 124 → m1.1 f 0 q = m.1 f 0 q) (hm25 : m1.1 0 0 25 = m.1 0 0 25) : kLog σ1 m1 (fun i => setB σ1 (C i)) π (M + 1) S := by
  obtain ⟨h1, h2, h3, h4⟩ := h
  have o : ∀ f k, f = 9 ∨ f = 10 ∨ f = 11 ∨ f = 12 ∨ f = 13 → σ1.1 f 0 k = σ.1 f 0 k := fun f k hf => by
    rw [hs.2, if_neg (by omega), if_neg (by omega), if_neg (by omega), if_neg (by omega), if_neg (by omega), if_neg (by omega)]
  have oM : ∀ f k, 2 ≤ f → f ≤ 6 → k < M → σ1.1 f 0 k = σ.1 f 0 k := fun f k hf1 hf2 hk => by
    rw [hs.2, if_neg (by omega), if_neg (by omega), if_neg (by omega), if_neg (by omega), if_neg (by omega), if_neg (by omega)]
  have hb : ∀ i, i ≤ S → bEq M (C i) (setB σ1 (C i)) := fun i hi f k k1 k2 k3 k4 => by
    rw [setB_b k1 k2, oM f k k1 k2 k3]
    exact (h4 i hi).2 f k k1 k2 k3 k4
  have ht : ∀ i, tEq (setB σ1 (C i)) 0 (C i) 0 := fun i f k k1 k2 k3 => by rw [setB_t k1]
  have hbw : ∀ i, bwf (setB σ1 (C i)) (M + 1) := fun i => ⟨by rw [setB_b (by decide) (by decide)]; exact hw.1, fun k k1 k2 k3 => by rw [setB_b (by decide) (by decide)]; exact hw.2 k k1 k2 k3⟩
  refine ⟨by rw [o 9 4 (by omega)]; exact h1, by rw [hm25]; exact h2, fun i hi => ?_, fun i hi => ⟨gdT_cp (h4 i hi).1 (ht i) (hb i hi) (hbw i) (by omega) (by omega), fun f k k1 k2 k3 k4 => by rw [setB_b k1 k2]⟩⟩
  obtain ⟨⟨⟨l1, l2, l3, l4⟩, l5, l6⟩, l7, l8⟩ := h3 i hi
  obtain ⟨g0, g1⟩ := h4 i (by omega)
  have ek : kdN σ1 i = kdN σ i := by unfold kdN; rw [o 11 i (by omega)]
  have en : ndN σ1 i = ndN σ i := by unfold ndN; rw [o 12 i (by omega)]
  have ec : chN σ1 i = chN σ i := by unfold chN; rw [o 10 i (by omega)]
  have hw0 := gdT_wf g0
  have hMk := fun k (k1 : k < 80) (k2 : (C i).1 31 0 k ≠ 0) => gdT_M g0 k1 k2
  have eg : ∀ k, gvN (setB σ1 (C i)) (kdN σ i) (ndN σ i) k ↔ gvN (C i) (kdN σ i) (ndN σ i) k := fun k => gvN_cp (hb i (by omega)) (ht i) hw0 hMk
  have ecn : ∀ t d, cntN (gvN (setB σ1 (C i)) (kdN σ i) (ndN σ i)) t d = cntN (gvN (C i) (kdN σ i) (ndN σ i)) t d := fun t d => cntN_congr (fun k _ _ => eg k)
  unfold lgC lgR
  rw [ek, en, ec, o 10 i (by omega), o 11 i (by omega), o 12 i (by omega), o 13 i (by omega)]
  refine ⟨⟨⟨l1, l2, l3, l4⟩, sOK_cp l5 (hb i (by omega)) (ht i) hMk (by omega), fun f k k1 k2 k3 => ?_⟩, ?_, ?_⟩
  · have hpar : parN (C i) (ndN σ i) < 80 := by
      by_cases c : 1 ≤ ndN σ i
      · have := (bwf_par g0.1.1 c l5.1 l5.2.1).2
        have := l5.1
        omega
      · have e0 : ndN σ i = 0 := by omega
        rw [e0]
        unfold parN
        rw [g0.1.1.1]
        decide
    rw [setB_t k1, apT_cp l5.2.2.1 l5.1 l5.2.1 hpar (hb i (by omega)) (ht i) hw0 hMk k1 k2 k3]
    exact l6 f k k1 k2 k3
  · intro k hk hg
    obtain ⟨k1, k2, k3, k4, k5⟩ := l7 k hk ((eg k).mp hg)
    rw [ecn, hm 120 _ (by decide) (by decide), hm 121 _ (by decide) (by decide), hm 122 _ (by decide) (by decide), hm 123 _ (by decide) (by decide), hm 124 _ (by decide) (by decide)]
    exact ⟨k1, k2, k3, k4, k5⟩
  · rw [l8]
    show π i + cntN _ 0 80 = π i + cntN _ 0 80
    rw [ecn]

/-! PURE: the log grows by a step; sound trees stay so -/
def stC (c : qS) (kd n : Nat) (v : Int32) : qS := (fun f j => if j = 0 ∧ 31 ≤ f ∧ f ≤ 37 then fun k => apT c 0 kd n v f k else c.1 f j, c.2)
theorem stC_t {c : qS} {kd n : Nat} {v : Int32} {f k : Nat} (h1 : 31 ≤ f) (h2 : f ≤ 37) : (stC c kd n v).1 f 0 k = apT c 0 kd n v f k := by
  show (if 0 = 0 ∧ 31 ≤ f ∧ f ≤ 37 then fun k => apT c 0 kd n v f k else c.1 f 0) k = _
  rw [if_pos ⟨rfl, h1, h2⟩]
theorem stC_o {c : qS} {kd n : Nat} {v : Int32} {f : Nat} (h : f < 31) : (stC c kd n v).1 f 0 = c.1 f 0 := if_neg (by omega)
theorem stC_stp {c : qS} {kd n : Nat} {v : Int32} : stp c (stC c kd n v) kd n v := fun f k h1 h2 _ => stC_t h1 h2
theorem stC_par {c : qS} {kd n : Nat} {v : Int32} : parN (stC c kd n v) = parN c := by
  funext q
  unfold parN
  rw [stC_o (by decide)]
theorem bEq_stC {c σ : qS} {kd n M : Nat} {v : Int32} (h : bEq M c σ) : bEq M (stC c kd n v) σ := fun f k h1 h2 h3 h4 => by rw [stC_o (by omega)]; exact h f k h1 h2 h3 h4
theorem rcS_o {σ s : qS} {S L kd n : Nat} {v : Int32} (h : rcS σ s S L kd n v) {f j k : Nat} (hf : f < 9 ∨ (13 < f ∧ f < 31) ∨ 39 < f ∨ (j ≠ 0 ∧ f ≠ 38 ∧ f ≠ 39) ∨ (f = 9 ∧ k ≠ 4) ∨ (10 ≤ f ∧ f ≤ 13 ∧ k ≠ S)) : s.1 f j k = σ.1 f j k := by
  rw [h.2 f j k (by omega) (by omega), if_neg (by omega), if_neg (by omega), if_neg (by omega), if_neg (by omega), if_neg (by omega), if_neg (by omega)]
theorem cntN_lt_all {c : qS} {kd n k : Nat} (hk : k < 80) (h : gvN c kd n k) : cntN (gvN c kd n) 0 k < blkN c kd n := by
  have e : blkN c kd n = cntN (gvN c kd n) 0 (k + 1) + cntN (gvN c kd n) (0 + (k + 1)) (79 - k) := by
    rw [← cntN_split, show k + 1 + (79 - k) = 80 by omega]
  have e2 : cntN (gvN c kd n) 0 (k + 1) = cntN (gvN c kd n) 0 k + (if gvN c kd n k then 1 else 0) := by rw [cntN_1, Nat.zero_add]
  rw [e, e2, if_pos h]
  omega
theorem blk_fr {m m' c : qS} {kd n ch p0 : Nat} {v : Int32} (h : blk m c kd n v ch p0) (o : ∀ f q, 120 ≤ f → f ≤ 124 → q < p0 + blkN c kd n → m'.1 f 0 q = m.1 f 0 q) : blk m' c kd n v ch p0 := by
  intro k hk hg
  obtain ⟨k1, k2, k3, k4, k5⟩ := h k hk hg
  have hlt := cntN_lt_all hk hg
  refine ⟨by rw [o _ _ (by omega) (by omega) (by omega)]; exact k1, by rw [o _ _ (by omega) (by omega) (by omega)]; exact k2, by rw [o _ _ (by omega) (by omega) (by omega)]; exact k3, fun h => by rw [o _ _ (by omega) (by omega) (by omega)]; exact k4 h, fun h => ?_⟩
  rw [o _ _ (by omega) (by omega) (by omega), o _ _ (by omega) (by omega) (by omega)]
  exact k5 h
/-- the log and the trees, a step longer -/
def xC (C : Nat → qS) (S : Nat) (c : qS) (i : Nat) : qS := if i ≤ S then C i else c
def xP (π : Nat → Nat) (S p : Nat) (i : Nat) : Nat := if i ≤ S then π i else p
theorem kLog_ext {σ σ' m m' : qS} {C : Nat → qS} {π : Nat → Nat} {M S L kd n : Nat} {v : Int32} (h : kLog σ m C π M S) (hσ : rcS σ σ' S L kd n v) (hs : sOK (C S) kd n M) (hg : gdT (stC (C S) kd n v) M) (hm25 : m'.1 0 0 25 = nI (π S + blkN (C S) kd n)) (hmo : ∀ f q, 120 ≤ f → f ≤ 124 → q < π S → m'.1 f 0 q = m.1 f 0 q) (hblk : blk m' (C S) kd n v (L + 1) (π S)) (hL : L + 1 < 2 ^ 31) : kLog σ' m' (xC C S (stC (C S) kd n v)) (xP π S (π S + blkN (C S) kd n)) M (S + 1) := by
  have eC : ∀ i, i ≤ S → xC C S (stC (C S) kd n v) i = C i := fun i hi => if_pos hi
  have eP : ∀ i, i ≤ S → xP π S (π S + blkN (C S) kd n) i = π i := fun i hi => if_pos hi
  have eC1 : xC C S (stC (C S) kd n v) (S + 1) = stC (C S) kd n v := if_neg (by omega)
  have eP1 : xP π S (π S + blkN (C S) kd n) (S + 1) = π S + blkN (C S) kd n := if_neg (by omega)
  have r : ∀ f k, (f = 10 ∨ f = 11 ∨ f = 12 ∨ f = 13) → k < S → σ'.1 f 0 k = σ.1 f 0 k := fun f k h1 h2 => rcS_o hσ (by omega)
  have n80 := hs.1
  have k4 := hs.2.2.1
  have r10 : σ'.1 10 0 S = nI (L + 1) := by rw [hσ.2 10 0 S (by omega) (by omega), if_neg (by omega), if_pos ⟨rfl, rfl, rfl⟩]
  have r11 : σ'.1 11 0 S = nI kd := by rw [hσ.2 11 0 S (by omega) (by omega), if_neg (by omega), if_neg (by omega), if_pos ⟨rfl, rfl, rfl⟩]
  have r12 : σ'.1 12 0 S = nI n := by rw [hσ.2 12 0 S (by omega) (by omega), if_neg (by omega), if_neg (by omega), if_neg (by omega), if_pos ⟨rfl, rfl, rfl⟩]
  have r13 : σ'.1 13 0 S = v := by rw [hσ.2 13 0 S (by omega) (by omega), if_neg (by omega), if_neg (by omega), if_neg (by omega), if_neg (by omega), if_pos ⟨rfl, rfl, rfl⟩]
  have hbσ : ∀ c, bEq M c σ → bEq M c σ' := fun c hc f k h1 h2 h3 h4 => by rw [rcS_o hσ (by omega)]; exact hc f k h1 h2 h3 h4
  refine ⟨by rw [hσ.2 9 0 4 (by omega) (by omega), if_neg (by omega), if_neg (by omega), if_neg (by omega), if_neg (by omega), if_neg (by omega), if_pos ⟨rfl, rfl, rfl⟩], by rw [eP1]; exact hm25, fun i hi => ?_, fun i hi => ?_⟩
  · by_cases c : i < S
    · obtain ⟨⟨⟨l1, l2, l3, l4⟩, l5, l6⟩, l7, l8⟩ := h.2.2.1 i c
      have ek : kdN σ' i = kdN σ i := by unfold kdN; rw [r 11 i (by omega) c]
      have en : ndN σ' i = ndN σ i := by unfold ndN; rw [r 12 i (by omega) c]
      have ec : chN σ' i = chN σ i := by unfold chN; rw [r 10 i (by omega) c]
      have hle : π (i + 1) ≤ π S := kLog_mono h (by omega) (Nat.le_refl _)
      unfold lgC lgR
      rw [ek, en, ec, eC i (by omega), eC (i + 1) (by omega), eP i (by omega), eP (i + 1) (by omega), r 10 i (by omega) c, r 11 i (by omega) c, r 12 i (by omega) c, r 13 i (by omega) c]
      exact ⟨⟨⟨l1, l2, l3, l4⟩, l5, l6⟩, blk_fr l7 (fun f q h1 h2 h3 => hmo f q h1 h2 (by omega)), l8⟩
    · obtain rfl : i = S := by omega
      have ek : kdN σ' i = kd := by unfold kdN; rw [r11, ix_nI (by omega)]
      have en : ndN σ' i = n := by unfold ndN; rw [r12, ix_nI (by omega)]
      have ec : chN σ' i = L + 1 := by unfold chN; rw [r10, ix_nI (by omega)]
      unfold lgC lgR
      rw [ek, en, ec, eC i (Nat.le_refl _), eC1, eP i (Nat.le_refl _), eP1, r10, r11, r12, r13]
      exact ⟨⟨⟨rfl, rfl, rfl, hL⟩, hs, stC_stp⟩, hblk, rfl⟩
  · by_cases c : i ≤ S
    · rw [eC i c]
      obtain ⟨g1, g2⟩ := h.2.2.2 i c
      exact ⟨g1, hbσ _ g2⟩
    · obtain rfl : i = S + 1 := by omega
      rw [eC1]
      exact ⟨hg, hbσ _ (bEq_stC (h.2.2.2 S (Nat.le_refl _)).2)⟩
/-- a step that leaves who is there, names' numbers and what was not made yet -/
theorem gd_keep {c : qS} {M kd n : Nat} {v : Int32} (h : gdT c M) (hs : sOK c kd n M) (h2 : kd = 1 ∨ kd = 3 ∨ kd = 4) : gdT (stC c kd n v) M := by
  obtain ⟨⟨g1, g2, g2'⟩, g3, g4, g5, g6, g7, g8, g9⟩ := h
  obtain ⟨s1, s2, s3, s4, s5, s6, s7⟩ := hs
  have e31 : ∀ k, (stC c kd n v).1 31 0 k = c.1 31 0 k := fun k => by
    rw [stC_t (by decide) (by decide)]
    obtain rfl | rfl | rfl := h2
    · rw [apT_1, if_neg (by omega), if_neg (by omega)]
    · rw [apT_3, if_neg (by omega), if_neg (by omega)]
    · rw [apT_4, if_neg (by omega), if_neg (by omega)]
  have e37 : ∀ k, (stC c kd n v).1 37 0 k = c.1 37 0 k := fun k => by
    rw [stC_t (by decide) (by decide)]
    obtain rfl | rfl | rfl := h2
    · rw [apT_1, if_neg (by omega), if_neg (by omega)]
    · rw [apT_3, if_neg (by omega), if_neg (by omega)]
    · rw [apT_4, if_neg (by omega), if_neg (by omega)]
  have hgM : ∀ k dp, giv c 0 n dp k → k < M := fun k dp hg => by
    rcases hg.2.2 with e | e
    · omega
    · rcases g3 k hg.2.1 with q | q
      · exact absurd q e.2.1
      · exact q.2
  have eo : ∀ f k, (f = 33 ∨ f = 34 ∨ f = 35) → M ≤ k → k < 80 → (stC c kd n v).1 f 0 k = c.1 f 0 k := fun f k hf hM hk => by
    rw [stC_t (by omega) (by omega)]
    obtain rfl | rfl | rfl := h2
    · rw [apT_1, if_neg (by omega), if_neg (by omega)]
    · rw [apT_3, if_neg (fun q => by have := hgM k _ q.1; omega), if_neg (fun q => by have := hgM k _ q.1; omega)]
    · rw [apT_4, if_neg (fun q => by have := hgM k _ q.1; omega), if_neg (fun q => by have := hgM k _ q.1; omega)]
  have eb : ∀ f, f < 31 → (stC c kd n v).1 f 0 = c.1 f 0 := fun f hf => stC_o hf
  refine ⟨⟨⟨by rw [eb 2 (by decide)]; exact g1.1, fun k a b d => by rw [eb 2 (by decide)]; exact g1.2 k a b d⟩, g2, g2'⟩, fun k hk => by rw [e31]; exact g3 k hk, by rw [e31]; exact g4, fun k a b d => ?_, fun k a b d => ?_, fun k k' a b a' b' d d' e e' => ?_, fun k a b => ?_, fun k a => by rw [e37]; exact g9 k a⟩
  · rw [e31] at d
    rw [stC_par, e31]
    unfold isHd
    rw [eb 4 (by decide)]
    exact g5 k a b d
  · rw [e31] at d
    rw [stC_par, e37, eb 3 (by decide)]
    exact g6 k a b d
  · rw [e31] at d d'
    rw [eb 2 (by decide)] at e
    rw [eb 3 (by decide)] at e'
    exact g7 k k' a b a' b' d d' e e'
  · rw [eo 33 k (by omega) a b, eo 34 k (by omega) a b, eo 35 k (by omega) a b, e37]
    exact g8 k a b
theorem gd_gone {c : qS} {M n : Nat} {v : Int32} (h : gdT c M) (hs : sOK c 2 n M) (hc : ∀ k, 1 ≤ k → k < 80 → c.1 31 0 k ≠ 0 → parN c k ≠ n) : gdT (stC c 2 n v) M := by
  obtain ⟨⟨g1, g2, g2'⟩, g3, g4, g5, g6, g7, g8, g9⟩ := h
  obtain ⟨s1, s2, s3, s4, s5, s6, s7⟩ := hs
  have n1 := s6 rfl
  have e31 : ∀ k, (stC c 2 n v).1 31 0 k = if k = n then 0 else c.1 31 0 k := fun k => by
    rw [stC_t (by decide) (by decide), apT_2]
    by_cases e : k = n
    · rw [if_pos ⟨e, rfl⟩, if_pos e]
    · rw [if_neg (fun h => e h.1), if_neg (by omega), if_neg e]
  have e37 : ∀ k, (stC c 2 n v).1 37 0 k = c.1 37 0 k := fun k => by rw [stC_t (by decide) (by decide), apT_2, if_neg (by omega), if_neg (by omega)]
  have hq := (bwf_par g1 n1 s1 s2).2
  have eo : ∀ f k, (f = 33 ∨ f = 34 ∨ f = 35) → M ≤ k → k < 80 → (stC c 2 n v).1 f 0 k = c.1 f 0 k := fun f k hf hM hk => by
    rw [stC_t (by omega) (by omega), apT_2, if_neg (by omega), if_neg (by omega)]
  have eb : ∀ f, f < 31 → (stC c 2 n v).1 f 0 = c.1 f 0 := fun f hf => stC_o hf
  have h31 : ∀ k, (stC c 2 n v).1 31 0 k ≠ 0 → c.1 31 0 k ≠ 0 ∧ k ≠ n := fun k hk => by
    rw [e31] at hk
    by_cases e : k = n
    · rw [if_pos e] at hk; exact absurd rfl hk
    · rw [if_neg e] at hk; exact ⟨hk, e⟩
  refine ⟨⟨⟨by rw [eb 2 (by decide)]; exact g1.1, fun k a b d => by rw [eb 2 (by decide)]; exact g1.2 k a b d⟩, g2, g2'⟩, fun k hk => ?_, by rw [e31, if_neg (by omega)]; exact g4, fun k a b d => ?_, fun k a b d => ?_, fun k k' a b a' b' d d' e e' => ?_, fun k a b => ?_, fun k a => by rw [e37]; exact g9 k a⟩
  · rw [e31]
    by_cases e : k = n
    · rw [if_pos e]; exact Or.inl rfl
    · rw [if_neg e]; exact g3 k hk
  · obtain ⟨d1, d2⟩ := h31 k d
    rw [stC_par, e31, if_neg (hc k a b d1)]
    unfold isHd
    rw [eb 4 (by decide)]
    exact g5 k a b d1
  · obtain ⟨d1, d2⟩ := h31 k d
    rw [stC_par, e37, eb 3 (by decide)]
    exact g6 k a b d1
  · rw [eb 2 (by decide)] at e
    rw [eb 3 (by decide)] at e'
    exact g7 k k' a b a' b' (h31 k d).1 (h31 k' d').1 e e'
  · rw [eo 33 k (by omega) a b, eo 34 k (by omega) a b, eo 35 k (by omega) a b, e37]
    exact g8 k a b
/-- a node that is made: under one that is there and not held, by a name that no child has -/
theorem gd_made {c : qS} {M n : Nat} {v : Int32} (h : gdT c M) (hs : sOK c 0 n M) (hp : c.1 31 0 (parN c n) ≠ 0 ∧ ¬ isHd c (parN c n)) (hn : ∃ x, c.1 3 0 n = nI x ∧ x < 2 ^ 31 ∧ (x < 100 ∧ (∀ k, 1 ≤ k → k < 80 → c.1 31 0 k ≠ 0 → parN c k = parN c n → c.1 3 0 k ≠ c.1 3 0 n) ∨ ∃ y, c.1 37 0 (parN c n) = nI y ∧ x = 1000 + y ∧ y < M)) : gdT (stC c 0 n v) M := by
  obtain ⟨⟨g1, g2, g2'⟩, g3, g4, g5, g6, g7, g8, g9⟩ := h
  obtain ⟨s1, s2, s3, s4, s5, s6, s7⟩ := hs
  obtain ⟨n1, n2, n3, n4, n5⟩ := s4 rfl
  obtain ⟨x, hx, hx31, hx2⟩ := hn
  have hq := (bwf_par g1 n1 s1 s2).2
  have e31 : ∀ k, (stC c 0 n v).1 31 0 k = if k = n then 1 else c.1 31 0 k := fun k => by
    rw [stC_t (by decide) (by decide), apT_0]
    by_cases e : k = n
    · rw [if_pos ⟨e, rfl⟩, if_pos e]
    · rw [if_neg (fun h => e h.1), if_neg (by omega), if_neg (by omega), if_neg (by omega), if_neg (by omega), if_neg e]
  have e37 : ∀ k, (stC c 0 n v).1 37 0 k = if k = parN c n ∧ ¬ c.1 3 0 n < 1000 then c.1 37 0 k + 1 else c.1 37 0 k := fun k => by
    rw [stC_t (by decide) (by decide), apT_0, if_neg (by omega), if_neg (by omega), if_neg (by omega), if_neg (by omega)]
    by_cases e : k = parN c n ∧ ¬ c.1 3 0 n < 1000
    · rw [if_pos ⟨e.1, rfl, e.2⟩, if_pos e]
    · rw [if_neg (fun h => e ⟨h.1, h.2.2⟩), if_neg e]
  have eo : ∀ f k, (f = 33 ∨ f = 34 ∨ f = 35) → M ≤ k → k < 80 → (stC c 0 n v).1 f 0 k = c.1 f 0 k := fun f k hf hM hk => by
    rw [stC_t (by omega) (by omega), apT_0, if_neg (by omega), if_neg (by omega), if_neg (by omega), if_neg (by omega), if_neg (by omega)]
  have eb : ∀ f, f < 31 → (stC c 0 n v).1 f 0 = c.1 f 0 := fun f hf => stC_o hf
  have h31 : ∀ k, (stC c 0 n v).1 31 0 k ≠ 0 → k ≠ n → c.1 31 0 k ≠ 0 := fun k hk e => by
    rw [e31, if_neg e] at hk; exact hk
  have x1000 : ∀ x : Nat, x < 2 ^ 31 → (nI x < 1000 ↔ x < 1000) := fun x hx => nI_lt' (b := 1000) hx (by decide)
  -- counters do not fall
  have up37 : ∀ k y, k < 80 → c.1 37 0 k = nI y → y ≤ M → ∃ y', y' ≤ M ∧ (stC c 0 n v).1 37 0 k = nI y' ∧ y ≤ y' := fun k y hk hy h9 => by
    by_cases e : k = parN c n ∧ ¬ c.1 3 0 n < 1000
    · rcases hx2 with ⟨hx2, -⟩ | ⟨w, hw, hw2, hw3⟩
      · exfalso
        apply e.2
        rw [hx, x1000 x hx31]
        omega
      · have hw' := hy
        rw [e.1] at hw'
        have := nI_inj (by omega) (by omega) (hw'.symm.trans hw)
        exact ⟨y + 1, by omega, by rw [e37, if_pos e, hy, nI_1], by omega⟩
    · exact ⟨y, h9, by rw [e37, if_neg e, hy], Nat.le_refl _⟩
  refine ⟨⟨⟨by rw [eb 2 (by decide)]; exact g1.1, fun k a b d => by rw [eb 2 (by decide)]; exact g1.2 k a b d⟩, g2, g2'⟩, fun k hk => ?_, by rw [e31, if_neg (by omega)]; exact g4, fun k a b d => ?_, fun k a b d => ?_, fun k k' a b a' b' d d' e e' => ?_, fun k a b => ?_, fun k a => ?_⟩
  · rw [e31]
    by_cases e : k = n
    · rw [if_pos e]; exact Or.inr ⟨rfl, by omega⟩
    · rw [if_neg e]; exact g3 k hk
  · rw [stC_par, e31]
    unfold isHd
    rw [eb 4 (by decide)]
    have hne : (if parN c k = n then 1 else c.1 31 0 (parN c k)) ≠ 0 ↔ (parN c k = n ∨ c.1 31 0 (parN c k) ≠ 0) := by
      by_cases e : parN c k = n
      · rw [if_pos e]; exact ⟨fun _ => Or.inl e, fun _ => by decide⟩
      · rw [if_neg e]; exact ⟨Or.inr, fun h => h.resolve_left e⟩
    by_cases e : k = n
    · subst e
      exact ⟨hne.mpr (Or.inr hp.1), hp.2⟩
    · have := g5 k a b (h31 k d e)
      exact ⟨hne.mpr (Or.inr this.1), this.2⟩
  · rw [stC_par, eb 3 (by decide)]
    by_cases e : k = n
    · subst e
      refine ⟨x, hx, ?_⟩
      rcases hx2 with ⟨hx2, -⟩ | ⟨y, hy, hy2, hy3⟩
      · exact Or.inl hx2
      · refine Or.inr ⟨by omega, y + 1, by omega, ?_, by omega⟩
        rw [e37, if_pos ⟨rfl, by rw [hx, x1000 x hx31]; omega⟩, hy, nI_1]
    · obtain ⟨w, hw, hw2⟩ := g6 k a b (h31 k d e)
      refine ⟨w, hw, ?_⟩
      rcases hw2 with hw2 | ⟨hw2, y, hy0, hy, hy2⟩
      · exact Or.inl hw2
      · obtain ⟨y', k0, k1, k2⟩ := up37 (parN c k) y (by
          have := gdT_M ⟨⟨g1, g2, g2'⟩, g3, g4, g5, g6, g7, g8, g9⟩ b (h31 k d e)
          have := (bwf_par g1 a b this).2
          omega) hy hy0
        exact Or.inr ⟨hw2, y', k0, k1, by omega⟩
  · rw [eb 2 (by decide)] at e
    rw [eb 3 (by decide)] at e'
    have clash : ∀ k, 1 ≤ k → k < 80 → c.1 31 0 k ≠ 0 → c.1 2 0 k = c.1 2 0 n → c.1 3 0 k = c.1 3 0 n → False := by
      intro k a b d e e'
      have ep : parN c k = parN c n := by unfold parN; rw [e]
      rcases hx2 with ⟨-, hx2⟩ | ⟨y, hy, hy2, hy3⟩
      · exact hx2 k a b d ep e'
      · obtain ⟨w, hw, hw2⟩ := g6 k a b d
        have hw9 : w < 2 ^ 31 := by
          rcases hw2 with hw2 | ⟨_, y', hy', _, _⟩ <;> omega
        have ew : w = x := nI_inj hw9 hx31 (hw.symm.trans (e'.trans hx))
        rcases hw2 with hw2 | ⟨_, y', hy', hy5, hy6⟩
        · omega
        · rw [ep] at hy5
          have := nI_inj (by omega) (by omega) (hy5.symm.trans hy)
          omega
    by_cases c1 : k = n
    · by_cases c2 : k' = n
      · rw [c1, c2]
      · subst c1
        exact (clash k' a' b' (h31 k' d' c2) e.symm e'.symm).elim
    · by_cases c2 : k' = n
      · subst c2
        exact (clash k a b (h31 k d c1) e e').elim
      · exact g7 k k' a b a' b' (h31 k d c1) (h31 k' d' c2) e e'
  · rw [eo 33 k (by omega) a b, eo 34 k (by omega) a b, eo 35 k (by omega) a b, e37, if_neg (by omega)]
    exact g8 k a b
  · by_cases e : k = parN c n ∧ ¬ c.1 3 0 n < 1000
    · rcases hx2 with ⟨hx2, -⟩ | ⟨y, hy, hy2, hy3⟩
      · exfalso
        apply e.2
        rw [hx, x1000 x hx31]
        omega
      · refine ⟨y + 1, by omega, ?_⟩
        rw [e37, if_pos e, e.1, hy, nI_1]
    · rw [e37, if_neg e]
      exact g9 k a

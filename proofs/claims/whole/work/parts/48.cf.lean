/-! PURE: children by names in the reference; fences in the class -/
section CF
variable {F : Nat}
theorem nxZ_neg {σ : qS} {i : Nat} {p z low : Int32} (hz : z < 0) {t d : Nat} {b : Int32} : rng (nxZ σ i p z low) t d b = rng (nxF σ i p low) t d b := by
  apply rng_congr
  intro k b _ _
  unfold nxZ nxF
  by_cases c : isCh σ i k p ∧ ¬ σ.1 3 0 k ≤ low ∧ (b < 0 ∨ ¬ σ.1 3 0 b.toNatClampNeg ≤ σ.1 3 0 k)
  · rw [if_pos c, if_pos ⟨⟨c.1, c.2.1, Or.inl hz⟩, c.2.2⟩]
  · rw [if_neg c, if_neg (fun h => c ⟨h.1.1, h.1.2.1, h.2⟩)]
theorem nxZ_spec {σ : qS} {i : Nat} {p z low : Int32} : ∀ d, d ≤ 79 → ((rng (nxZ σ i p z low) 1 d (-100) = -100 ∧ ∀ k, 1 ≤ k → k < 1 + d → isCh σ i k p → (z < 0 ∨ isOf σ z k) → σ.1 3 0 k ≤ low) ∨ (∃ q, 1 ≤ q ∧ q < 80 ∧ rng (nxZ σ i p z low) 1 d (-100) = nI q ∧ isCh σ i q p ∧ (z < 0 ∨ isOf σ z q) ∧ ¬ σ.1 3 0 q ≤ low ∧ ∀ k, 1 ≤ k → k < 1 + d → isCh σ i k p → (z < 0 ∨ isOf σ z k) → ¬ σ.1 3 0 k ≤ low → σ.1 3 0 q ≤ σ.1 3 0 k)) := by
  intro d
  induction d with
  | zero => intro _; exact Or.inl ⟨rfl, fun k h1 h2 => by omega⟩
  | succ d ih =>
    intro hd
    rw [show d + 1 = d + 1 from rfl, rng_split (d := d) (e := 1)]
    show (nxZ σ i p z low (1 + d) _ = -100 ∧ _) ∨ _
    rcases ih (by omega) with ⟨h1, h2⟩ | ⟨q, h1, h2, h3, h4, h4', h5, h6⟩
    · rw [h1]
      by_cases c : isCh σ i (1 + d) p ∧ ¬ σ.1 3 0 (1 + d) ≤ low ∧ (z < 0 ∨ isOf σ z (1 + d))
      · refine Or.inr ⟨1 + d, by omega, by omega, if_pos ⟨c, Or.inl (by decide)⟩, c.1, c.2.2, c.2.1, fun k h3 h4 h5 h5' h6 => ?_⟩
        by_cases e : k = 1 + d
        · subst e; exact Int32.le_refl _
        · exact absurd (h2 k h3 (by omega) h5 h5') h6
      · refine Or.inl ⟨if_neg (fun h9 => c h9.1), fun k h3 h4 h5 h5' => ?_⟩
        by_cases e : k = 1 + d
        · subst e; exact Decidable.byContradiction fun h9 => c ⟨h5, h9, h5'⟩
        · exact h2 k h3 (by omega) h5 h5'
    · rw [h3]
      have hq : (nI q).toNatClampNeg = q := ix_nI (by omega)
      by_cases c : (isCh σ i (1 + d) p ∧ ¬ σ.1 3 0 (1 + d) ≤ low ∧ (z < 0 ∨ isOf σ z (1 + d))) ∧ (nI q < 0 ∨ ¬ σ.1 3 0 (nI q).toNatClampNeg ≤ σ.1 3 0 (1 + d))
      · have c3 : ¬ σ.1 3 0 q ≤ σ.1 3 0 (1 + d) := by
          rcases c.2 with h9 | h9
          · exact absurd h9 (nI_pos (by omega))
          · rwa [hq] at h9
        refine Or.inr ⟨1 + d, by omega, by omega, if_pos c, c.1.1, c.1.2.2, c.1.2.1, fun k g3 g4 g5 g5' g6 => ?_⟩
        by_cases e : k = 1 + d
        · subst e; exact Int32.le_refl _
        · exact Int32.le_trans (Int32.le_of_lt (Int32.not_le.mp c3)) (h6 k g3 (by omega) g5 g5' g6)
      · refine Or.inr ⟨q, h1, h2, if_neg c, h4, h4', h5, fun k g3 g4 g5 g5' g6 => ?_⟩
        by_cases e : k = 1 + d
        · subst e
          exact Decidable.byContradiction fun h9 => c ⟨⟨g5, g6, g5'⟩, Or.inr (by rw [hq]; exact h9)⟩
        · exact h6 k g3 (by omega) g5 g5' g6
theorem nxZ_all {m : qS} {s M : Nat} {p z low : Int32} (h : rok m s M) : rng (nxZ (vw m) s p z low) 1 (M - 1) (-100) = rng (nxZ (vw m) s p z low) 1 79 (-100) := by
  have hM := h.2.2.1
  have h1 := h.2.1
  rw [show 79 = (M - 1) + (80 - M) by omega, rng_split, rng_id (t := 1 + (M - 1))]
  intro k b g1 g2
  unfold nxZ
  rw [if_neg (fun h9 => rok_ch h (by omega) (by omega) h9.1.1)]
theorem e_childAt9_l {m : qS} {s M a : Nat} {p z : Int32} (h : rok m s M) (hs : s < 5) (hz : z < 0) (hF : 100 ≤ F) (ha : a < 2 ^ 31) : ∀ (d t n : Nat) (low x : Int32), t + d = 82 → d < n → t ≤ a → nxC (vw m) s p low = sqC (vw m) s p t → fX9_childAt_10 F n (nI s) p (nI a) z low x (nI t) m = some (sqC (vw m) s p a, m) := by
  have hM := h.2.2.1
  have h1 := h.2.1
  intro d
  induction d with
  | zero =>
    intro t n low x ht hn hta hl
    obtain ⟨n, rfl⟩ : ∃ m, n = m + 1 := ⟨n - 1, by omega⟩
    rw [fX9_childAt_10, if_neg (by rw [nI_lt' ha (by omega)]; omega)]
    have h9 := e_childAt9_in (F := F) (p := p) (y := nI a) (z := z) (low := low) (j := nI t) (K := fX9_childAt_10 F n) h hs (M - 1) 1 F (-100) (by omega) (by omega) (Or.inl (by decide))
    rw [show (1 : Int32) = nI 1 from rfl, h9, nxZ_all h, nxZ_neg hz]
    show (if 0 ≤ nxC (vw m) s p low then _ else _) = _
    rw [hl, sqC_80 (by omega), if_neg (by decide), sqC_80 (by omega)]
  | succ d ih =>
    intro t n low x ht hn hta hl
    obtain ⟨n, rfl⟩ : ∃ m, n = m + 1 := ⟨n - 1, by omega⟩
    rw [fX9_childAt_10, if_neg (by rw [nI_lt' ha (by omega)]; omega)]
    have h9 := e_childAt9_in (F := F) (p := p) (y := nI a) (z := z) (low := low) (j := nI t) (K := fX9_childAt_10 F n) h hs (M - 1) 1 F (-100) (by omega) (by omega) (Or.inl (by decide))
    rw [show (1 : Int32) = nI 1 from rfl, h9, nxZ_all h, nxZ_neg hz, nI_1]
    show (if 0 ≤ nxC (vw m) s p low then ldi 80 (m.1 101 0) (nxC (vw m) s p low) (fun v5 => fX9_childAt_10 F n (nI s) p (nI a) z v5 (nxC (vw m) s p low) (nI (t + 1)) m) else some (-100, m)) = _
    rw [hl]
    rcases sqC_cases (σ := vw m) (i := s) (p := p) t with c | ⟨q, g1, g2, g3, g4, g5⟩
    · rw [c, if_neg (by decide), sqC_stay c a hta]
    · rw [g3, if_pos (show (0 : Int32) ≤ nI q from nI_le (a := 0) (by omega) (by omega)), ldi_nI g2 (by decide)]
      by_cases e : t = a
      · subst e
        obtain ⟨n, rfl⟩ : ∃ m, n = m + 1 := ⟨n - 1, by omega⟩
        rw [fX9_childAt_10, if_pos (by rw [nI_lt' (by omega) (by omega)]; omega), g3]
      · refine ih (t + 1) n _ _ (by omega) (by omega) (by omega) ?_
        show _ = (if sqC (vw m) s p t ≤ 0 then sqC (vw m) s p t else _)
        rw [g3, if_neg (nI_nle (by omega) (by omega)), ix_nI (by omega)]
        rfl
theorem e_childAt9 {m : qS} {s M : Nat} {p y z : Int32} (h : rok m s M) (hs : s < 5) (hz : z < 0) (hF : 100 ≤ F) (hy : ¬ y < 0) : fX9_childAt F (nI s) p y z m = some (sqC (vw m) s p y.toNatClampNeg, m) := by
  obtain ⟨a, ha, rfl⟩ := nI_of hy
  unfold fX9_childAt
  rw [ix_nI ha]
  exact e_childAt9_l h hs hz hF ha 82 0 F (-1) (-100) (by omega) (by omega) (by omega) rfl
theorem e_ownAt {m : qS} {s M : Nat} {p z : Int32} (h : rok m s M) (hs : s < 5) (hz : ¬ z < 0) (hF : 100 ≤ F) (hn : posN (vw m) s) : ∃ w, fX9_childAt F (nI s) p 0 z m = some (w, m) ∧ frC (vw m) s p (isOf (vw m) z) w := by
  have hM := h.2.2.1
  have h1 := h.2.1
  obtain ⟨n, hn9⟩ : ∃ n, F = n + 1 := ⟨F - 1, by omega⟩
  unfold fX9_childAt
  rw [show fX9_childAt_10 F F = fX9_childAt_10 F (n + 1) by rw [← hn9], fX9_childAt_10, if_neg (by decide)]
  have h9 := e_childAt9_in (F := F) (p := p) (y := 0) (z := z) (low := -1) (j := 0) (K := fX9_childAt_10 F n) h hs (M - 1) 1 F (-100) (by omega) (by omega) (Or.inl (by decide))
  rw [show nI 1 = (1 : Int32) from rfl] at h9
  rw [h9, nxZ_all h]
  rcases nxZ_spec (σ := vw m) (i := s) (p := p) (z := z) (low := -1) 79 (Nat.le_refl _) with ⟨g1, g2⟩ | ⟨q, g1, g2, g3, g4, g4', g5, g6⟩
  · rw [g1, if_neg (by decide)]
    exact ⟨-100, rfl, Or.inl ⟨rfl, fun k k1 k2 k3 k4 => hn k k1 k2 k3.1 (g2 k k1 k2 k3 (Or.inr k4))⟩⟩
  · rw [g3, if_pos (show (0 : Int32) ≤ nI q from nI_le (a := 0) (by omega) (by omega)), ldi_nI g2 (by decide)]
    obtain ⟨n', hn8⟩ : ∃ n', n = n' + 1 := ⟨n - 1, by omega⟩
    rw [hn8, fX9_childAt_10, if_pos (by decide)]
    exact ⟨nI q, rfl, Or.inr ⟨q, g1, g2, rfl, g4, g4'.resolve_left hz, fun k k1 k2 k3 k4 => g6 k k1 k2 k3 (Or.inr k4) (hn k k1 k2 k3.1)⟩⟩
/-- child k stands in the way of o -/
abbrev bdF (σ : qS) (i : Nat) (p : Int32) (o k : Nat) : Prop := isCh σ i k p ∧ ¬ σ.1 3 0 o ≤ σ.1 3 0 k ∧ ¬ (σ.1 32 i o = 1 ∧ σ.1 32 i k ≠ 0)
theorem e_fenceOf_l {σ : qS} {i o : Nat} {p sh : Int32} (hi : i < 6) (ho : o < 80) (hsh : sh = 0 ∨ sh = 1) (h1 : sh = 1 ↔ σ.1 32 i o = 1) : ∀ (d t n : Nat), t + d = 80 → d < n → ∃ v, fX7_fenceOf_38 F i n p (nI o) sh (nI t) σ = some (v, σ) ∧ ((v = -100 ∧ ∃ k, t ≤ k ∧ k < 80 ∧ bdF σ i p o k) ∨ (v = σ.1 6 0 o ∧ ∀ k, t ≤ k → k < 80 → ¬ bdF σ i p o k)) := by
  intro d
  induction d with
  | zero =>
    intro t n ht hn
    obtain ⟨n, rfl⟩ : ∃ m, n = m + 1 := ⟨n - 1, by omega⟩
    rw [fX7_fenceOf_38, if_pos (le80 (by omega) (by omega)), ldi_nI ho (by decide)]
    exact ⟨_, rfl, Or.inr ⟨rfl, fun k k1 k2 => by omega⟩⟩
  | succ d ih =>
    intro t n ht hn
    obtain ⟨n, rfl⟩ : ∃ m, n = m + 1 := ⟨n - 1, by omega⟩
    have ht8 : t < 80 := by omega
    rw [fX7_fenceOf_38, if_neg (nle80 ht8), e_isChild hi ht8, bnd2_s]
    unfold fX7_fenceOf_81 fX7_fenceOf_82 fX7_fenceOf_104 fX7_fenceOf_107
    simp only [nm_x, nI_1]
    have no : ¬ bdF σ i p o t → ∃ v, fX7_fenceOf_38 F i n p (nI o) sh (nI (t + 1)) σ = some (v, σ) ∧ ((v = -100 ∧ ∃ k, t ≤ k ∧ k < 80 ∧ bdF σ i p o k) ∨ (v = σ.1 6 0 o ∧ ∀ k, t ≤ k → k < 80 → ¬ bdF σ i p o k)) := fun c => by
      obtain ⟨v, g1, g2⟩ := ih (t + 1) n (by omega) (by omega)
      refine ⟨v, g1, ?_⟩
      rcases g2 with ⟨g2, k, g3, g4, g5⟩ | ⟨g2, g3⟩
      · exact Or.inl ⟨g2, k, by omega, g4, g5⟩
      · refine Or.inr ⟨g2, fun k k1 k2 => ?_⟩
        by_cases e : k = t
        · subst e; exact c
        · exact g3 k (by omega) k2
    have yes : bdF σ i p o t → ∃ v, (some ((-100 : Int32), σ) : Option (Int32 × qS)) = some (v, σ) ∧ ((v = -100 ∧ ∃ k, t ≤ k ∧ k < 80 ∧ bdF σ i p o k) ∨ (v = σ.1 6 0 o ∧ ∀ k, t ≤ k → k < 80 → ¬ bdF σ i p o k)) := fun c => ⟨-100, rfl, Or.inl ⟨rfl, t, Nat.le_refl _, ht8, c⟩⟩
    by_cases c : isCh σ i t p
    · rw [if_neg (fun q => b2_0.mp q c), ldi_nI ht8 (by decide), ldi_nI ho (by decide)]
      by_cases c2 : σ.1 3 0 o ≤ σ.1 3 0 t
      · rw [if_pos c2, if_pos trivial]
        exact no (fun h9 => h9.2.1 c2)
      · rw [if_neg c2, if_neg (by decide)]
        rcases hsh with e | e
        · rw [if_pos e]
          exact yes ⟨c, c2, fun h9 => by have := h1.mpr h9.1; rw [e] at this; exact absurd this (by decide)⟩
        · rw [if_neg (by rw [e]; decide), ldi_nI ht8 (by decide)]
          by_cases c3 : σ.1 32 i t = 0
          · rw [if_pos c3]
            exact yes ⟨c, c2, fun h9 => h9.2 c3⟩
          · rw [if_neg c3]
            exact no (fun h9 => h9.2.2 ⟨h1.mp e, c3⟩)
    · rw [if_pos (b2_0.mpr c), if_pos trivial]
      exact no (fun h9 => c h9.1)
theorem e_fenceOf {σ : qS} {i : Nat} {p z : Int32} (hd : dstN σ i) (hp : posN σ i) (hF : 100 ≤ F) (hi : i < 6) : ∃ v w, fX7_fenceOf F i z p σ = some (v, σ) ∧ frC σ i p (isOf σ z) w ∧ ((w = -100 ∧ v = -100) ∨ ∃ o, 1 ≤ o ∧ o < 80 ∧ w = nI o ∧ ((v = -100 ∧ ∃ k, 1 ≤ k ∧ k < 80 ∧ bdF σ i p o k) ∨ (v = σ.1 6 0 o ∧ ∀ k, 1 ≤ k → k < 80 → ¬ bdF σ i p o k))) := by
  unfold fX7_fenceOf
  obtain ⟨w, h1, h2⟩ := e_firstOf (F := F) (p := p) (z := z) hd hp hF hi
  rw [gnl_pos hi, h1, bnd2_s, e_holds hi, bnd2_s]
  rcases h2 with ⟨rfl, h2⟩ | ⟨o, g1, g2, rfl, g3, g4, g5⟩
  · rw [b2_f (fun h => h.1.1 (by decide)), if_pos rfl]
    exact ⟨-100, -100, rfl, Or.inl ⟨rfl, h2⟩, Or.inl ⟨rfl, rfl⟩⟩
  · rw [b2_t ⟨⟨nI_pos (by omega), nle80 g2⟩, by rw [ix_nI (by omega)]; exact g3.1⟩, if_neg (by decide), ldi_nI g2 (by decide)]
    unfold fX7_fenceOf_33
    by_cases c : σ.1 32 i o = 1
    · rw [if_pos c]
      obtain ⟨v, k1, k2⟩ := e_fenceOf_l (F := F) (p := p) (sh := 1) hi g2 (Or.inr rfl) ⟨fun _ => c, fun _ => rfl⟩ 79 1 F rfl (by omega)
      exact ⟨v, nI o, k1, Or.inr ⟨o, g1, g2, rfl, g3, g4, g5⟩, Or.inr ⟨o, g1, g2, rfl, k2⟩⟩
    · rw [if_neg c]
      obtain ⟨v, k1, k2⟩ := e_fenceOf_l (F := F) (p := p) (sh := 0) hi g2 (Or.inl rfl) ⟨fun h => absurd h (by decide), fun h => absurd h c⟩ 79 1 F rfl (by omega)
      exact ⟨v, nI o, k1, Or.inr ⟨o, g1, g2, rfl, g3, g4, g5⟩, Or.inr ⟨o, g1, g2, rfl, k2⟩⟩
end CF

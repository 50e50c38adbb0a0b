/-! PURE: quotas on the way up; children by names; fences -/
/-- one on the way up is bad -/
def cq (par : Nat → Nat) (bad : Nat → Prop) [DecidablePred bad] : Nat → Nat → Prop
  | 0, _ => False
  | f + 1, k => bad k ∨ (k ≠ 0 ∧ cq par bad f (par k))
theorem cq_fuel {par : Nat → Nat} {bad : Nat → Prop} [DecidablePred bad] {P : Nat → Prop} (hp : ∀ k, P k → 1 ≤ k → par k < k ∧ P (par k)) : ∀ f g k, P k → k < f → k < g → (cq par bad f k ↔ cq par bad g k) := by
  intro f
  induction f with
  | zero => intro g k _ h; omega
  | succ f ih =>
    intro g k hk h1 h2
    obtain ⟨g, rfl⟩ : ∃ m, g = m + 1 := ⟨g - 1, by omega⟩
    show (bad k ∨ (k ≠ 0 ∧ cq par bad f (par k))) ↔ (bad k ∨ (k ≠ 0 ∧ cq par bad g (par k)))
    by_cases c : k = 0
    · subst c
      constructor
      · rintro (h | h)
        · exact Or.inl h
        · exact absurd rfl h.1
      · rintro (h | h)
        · exact Or.inl h
        · exact absurd rfl h.1
    · obtain ⟨h3, h4⟩ := hp k hk (by omega)
      have := ih g (par k) h4 (by omega) (by omega)
      rw [this]
theorem cq_congr {par par' : Nat → Nat} {bad bad' : Nat → Prop} [DecidablePred bad] [DecidablePred bad'] {P : Nat → Prop} (hp : ∀ k, P k → 1 ≤ k → par k < k ∧ P (par k)) (he : ∀ k, P k → 1 ≤ k → par' k = par k) (hb : ∀ k, P k → (bad k ↔ bad' k)) : ∀ f k, P k → (cq par bad f k ↔ cq par' bad' f k) := by
  intro f
  induction f with
  | zero => intro k _; exact Iff.rfl
  | succ f ih =>
    intro k hk
    show (bad k ∨ (k ≠ 0 ∧ cq par bad f (par k))) ↔ (bad' k ∨ (k ≠ 0 ∧ cq par' bad' f (par' k)))
    rw [hb k hk]
    by_cases c : k = 0
    · subst c
      constructor
      · rintro (h | h)
        · exact Or.inl h
        · exact absurd rfl h.1
      · rintro (h | h)
        · exact Or.inl h
        · exact absurd rfl h.1
    · rw [he k hk (by omega), ih (par k) (hp k hk (by omega)).2]
section QU
variable {F : Nat}
theorem fX8_isQuotaUsed_l {σ : qS} {P : Nat → Prop} (hw : wfB σ P) {bl : Nat → Nat} {bad : Nat → Prop} [DecidablePred bad] (hb : ∀ k, k < 80 → P k → (bad k ↔ ¬ σ.1 38 0 k < σ.1 14 0 k)) : ∀ (n t k : Nat), k < 80 → P k → k + t < 80 → k + 1 < n → ∃ v, fX8_isQuotaUsed_11 F n (nI k) (nI t) σ = some (v, σ) ∧ ((v = 1 ∧ cq (parN σ) bad 80 k) ∨ (v = 0 ∧ ¬ cq (parN σ) bad 80 k)) := by
  intro n
  induction n with
  | zero => intro t k _ _ _ h; omega
  | succ n ih =>
    intro t k hk hp ht hn
    rw [fX8_isQuotaUsed_11, if_neg (nle80 (by omega)), if_neg (nI_pos (by omega)), ldi_nI hk (by decide), ldi_nI hk (by decide)]
    by_cases c : bad k
    · rw [if_neg ((hb k hk hp).mp c), gbl_1]
      exact ⟨1, rfl, Or.inl ⟨rfl, Or.inl c⟩⟩
    · rw [if_pos (Decidable.byContradiction fun h => c ((hb k hk hp).mpr h)), ldi_nI hk (by decide)]
      simp only [nm_x, nI_1]
      by_cases c0 : k = 0
      · subst c0
        rw [hw.1]
        obtain ⟨n, rfl⟩ : ∃ m, n = m + 1 := ⟨n - 1, by omega⟩
        rw [fX8_isQuotaUsed_11]
        unfold fX8_isQuotaUsed_57
        refine ⟨0, ?_, Or.inr ⟨rfl, ?_⟩⟩
        · by_cases c9 : (80 : Int32) ≤ nI (t + 1)
          · rw [if_pos c9, gbl_0]
          · rw [if_neg c9, if_pos (by decide), gbl_0]
        · rintro (h | h)
          · exact c h
          · exact h.1 rfl
      · rw [wfB_par hw (by omega) hk hp]
        obtain ⟨h1, h2, h3⟩ := wfB_hp hw k ⟨hk, hp⟩ (by omega)
        obtain ⟨v, g1, g2⟩ := ih (t + 1) (parN σ k) h2 h3 (by omega) (by omega)
        refine ⟨v, g1, ?_⟩
        have e : cq (parN σ) bad 80 k ↔ cq (parN σ) bad 80 (parN σ k) := by
          show (bad k ∨ (k ≠ 0 ∧ cq (parN σ) bad 79 (parN σ k))) ↔ _
          have := cq_fuel (bad := bad) (wfB_hp hw) 79 80 (parN σ k) ⟨h2, h3⟩ (by omega) (by omega)
          rw [← this]
          constructor
          · rintro (h | h)
            · exact absurd h c
            · exact h.2
          · intro h; exact Or.inr ⟨c0, h⟩
        rw [e]
        exact g2
/-- quotas of the class that are used up -/
abbrev badC (σ : qS) (k : Nat) : Prop := ¬ nI (nBl σ 0 k) < σ.1 14 0 k
theorem e_isQuotaUsed {σ : qS} {k : Nat} (hw : wfT σ 0) (h0 : σ.1 2 0 0 = -100) (hF : 100 ≤ F) (hk : k < 80) (hp : σ.1 31 0 k ≠ 0) : ∃ v s', fX8_isQuotaUsed F (nI k) σ = some (v, s') ∧ sq σ s' ∧ ((v = 1 ∧ cq (parN σ) (badC σ) 80 k) ∨ (v = 0 ∧ ¬ cq (parN σ) (badC σ) 80 k)) := by
  unfold fX8_isQuotaUsed
  obtain ⟨s', g1, g2, g3⟩ := e_countBelow (F := F) hw hF (i := 0) (by decide)
  rw [g1, bnd_s]
  have e2 : s'.1 2 = σ.1 2 := by funext j; exact g2.2 2 j (by decide) (by decide)
  have e14 : s'.1 14 = σ.1 14 := by funext j; exact g2.2 14 j (by decide) (by decide)
  have ep : parN s' = parN σ := by
    funext q
    unfold parN
    rw [e2]
  have hw' : wfB s' (fun k => σ.1 31 0 k ≠ 0) := ⟨by rw [e2]; exact h0, fun k h1 h2 h3 => by rw [e2]; exact hw.2 k h1 h2 h3⟩
  obtain ⟨v, q1, q2⟩ := fX8_isQuotaUsed_l (F := F) hw' (bl := nBl σ 0) (bad := badC σ) (fun k hk _ => by rw [g3 k hk, e14]) F 0 k hk hp (by omega) (by omega)
  rw [ep] at q2
  exact ⟨v, s', q1, g2, q2⟩
/-- quotas of the reference that are used up -/
abbrev badM (m : qS) (k : Nat) : Prop := ¬ m.1 106 0 k < 0 ∧ ¬ nI (nBl (vw m) 0 k) + 1 ≤ m.1 106 0 k
theorem e_fills_l {m : qS} {M : Nat} (h : rok m 0 M) (hw : wfT (vw m) 0) (h0 : m.1 100 0 0 = -100) (hF : 100 ≤ F) : ∀ (n k : Nat) (x : Int32), (x = 0 ∨ x = 1) → k < 80 → (vw m).1 31 0 k ≠ 0 → k + 1 < n → ∃ v, fX9_fills_4 F n x (nI k) m = some (v, m) ∧ (v = 0 ∨ v = 1) ∧ (v = 1 ↔ x = 1 ∨ cq (parN (vw m)) (badM m) 80 k) := by
  intro n
  induction n with
  | zero => intro k x _ _ _ h; omega
  | succ n ih =>
    intro k x hx hk hp hn
    have hB := wfT_wfB hw h0
    have step : ∀ y : Int32, (y = 0 ∨ y = 1) → (y = 1 ↔ x = 1 ∨ badM m k) → ∃ v, (ldi 80 (m.1 100 0) (nI k) fun v5 => fX9_fills_4 F n y v5 m) = some (v, m) ∧ (v = 0 ∨ v = 1) ∧ (v = 1 ↔ x = 1 ∨ cq (parN (vw m)) (badM m) 80 k) := by
      intro y hy1 hy2
      rw [ldi_nI hk (by decide)]
      by_cases c0 : k = 0
      · subst c0
        rw [h0]
        obtain ⟨n, rfl⟩ : ∃ m, n = m + 1 := ⟨n - 1, by omega⟩
        rw [fX9_fills_4, if_pos (by decide), gbl_or hy1]
        refine ⟨y, rfl, hy1, hy2.trans ?_⟩
        constructor
        · rintro (h | h)
          · exact Or.inl h
          · exact Or.inr (Or.inl h)
        · rintro (h | h | h)
          · exact Or.inl h
          · exact Or.inr h
          · exact absurd rfl h.1
      · have e : m.1 100 0 k = nI (parN (vw m) k) := wfB_par hB (by omega) hk hp
        obtain ⟨h1, h2, h3⟩ := wfB_hp hB k ⟨hk, hp⟩ (by omega)
        rw [e]
        obtain ⟨v, g1, g2, g3⟩ := ih (parN (vw m) k) y hy1 h2 h3 (by omega)
        refine ⟨v, g1, g2, g3.trans ?_⟩
        have e : cq (parN (vw m)) (badM m) 80 k ↔ badM m k ∨ cq (parN (vw m)) (badM m) 80 (parN (vw m) k) := by
          show (badM m k ∨ (k ≠ 0 ∧ cq (parN (vw m)) (badM m) 79 (parN (vw m) k))) ↔ _
          have := cq_fuel (bad := badM m) (wfB_hp hB) 79 80 (parN (vw m) k) ⟨h2, h3⟩ (by omega) (by omega)
          rw [← this]
          constructor
          · rintro (h | h)
            · exact Or.inl h
            · exact Or.inr h.2
          · rintro (h | h)
            · exact Or.inl h
            · exact Or.inr ⟨c0, h⟩
        rw [e, hy2, or_assoc]
    have e0 : x ||| 0 = x := by rcases hx with rfl | rfl <;> decide
    have e1 : x ||| 1 = 1 := by rcases hx with rfl | rfl <;> decide
    rw [fX9_fills_4, if_neg (nI_pos (by omega)), ldi_nI hk (by decide)]
    unfold fX9_fills_38 fX9_fills_39
    simp only [nm_x, e0, e1]
    by_cases c1 : m.1 106 0 k < 0
    · rw [if_pos c1]
      exact step x hx ⟨fun h => Or.inl h, fun h => h.elim id (fun h => absurd c1 h.1)⟩
    · rw [if_neg c1, e_below h hw h0 hF hk, bnd2_s, ldi_nI hk (by decide)]
      by_cases c2 : nI (nBl (vw m) 0 k) + 1 ≤ m.1 106 0 k
      · rw [if_pos c2]
        exact step x hx ⟨fun h => Or.inl h, fun h => h.elim id (fun h => absurd c2 h.2)⟩
      · rw [if_neg c2]
        exact step 1 (Or.inr rfl) ⟨fun _ => Or.inr ⟨c1, c2⟩, fun _ => rfl⟩
theorem e_fills {m : qS} {M k : Nat} (h : rok m 0 M) (hw : wfT (vw m) 0) (h0 : m.1 100 0 0 = -100) (hF : 100 ≤ F) (hk : k < 80) (hp : (vw m).1 31 0 k ≠ 0) : ∃ v, fX9_fills F (nI k) m = some (v, m) ∧ ((v = 1 ∧ cq (parN (vw m)) (badM m) 80 k) ∨ (v = 0 ∧ ¬ cq (parN (vw m)) (badM m) 80 k)) := by
  unfold fX9_fills
  obtain ⟨v, g1, g2, g3⟩ := e_fills_l (F := F) h hw h0 hF F k 0 (Or.inl rfl) hk hp (by omega)
  refine ⟨v, g1, ?_⟩
  rcases g2 with rfl | rfl
  · exact Or.inr ⟨rfl, fun h => absurd (g3.mpr (Or.inr h)) (by decide)⟩
  · refine Or.inl ⟨rfl, ?_⟩
    rcases g3.mp rfl with h | h
    · exact absurd h (by decide)
    · exact h
/-- as nxF, of one session alone where z is not below 0 -/
def nxZ (σ : qS) (i : Nat) (p z low : Int32) (k : Nat) (b : Int32) : Int32 := if (isCh σ i k p ∧ ¬ σ.1 3 0 k ≤ low ∧ (z < 0 ∨ isOf σ z k)) ∧ (b < 0 ∨ ¬ σ.1 3 0 b.toNatClampNeg ≤ σ.1 3 0 k) then nI k else b
theorem e_childAt9_in {m : qS} {s M : Nat} {p y z low j : Int32} {K : Int32 → Int32 → Int32 → Int32 → Int32 → Int32 → Int32 → qS → Option (Int32 × qS)} (h : rok m s M) (hs : s < 5) : ∀ (d t n : Nat) (b : Int32), t + d = M → d < n → (b < 0 ∨ vp_in b 80) → fX9_childAt_23 F K n (nI s) p y z low b j (nI t) m = (if 0 ≤ rng (nxZ (vw m) s p z low) t d b then ldi 80 (m.1 101 0) (rng (nxZ (vw m) s p z low) t d b) (fun v5 => K (nI s) p y z v5 (rng (nxZ (vw m) s p z low) t d b) (j + 1) m) else some (-100, m)) := by
  have hM := h.2.2.1
  intro d
  induction d with
  | zero =>
    intro t n b ht hn hb
    obtain ⟨n, rfl⟩ : ∃ m, n = m + 1 := ⟨n - 1, by omega⟩
    rw [fX9_childAt_23]
    simp only [nm_x]
    rw [if_pos (by rw [h.1, nI_le' (by omega) (by omega)]; omega)]
    rfl
  | succ d ih =>
    intro t n b ht hn hb
    obtain ⟨n, rfl⟩ : ∃ m, n = m + 1 := ⟨n - 1, by omega⟩
    have ht8 : t < 80 := by omega
    rw [fX9_childAt_23]
    unfold fX9_childAt_103 fX9_childAt_99 fX9_childAt_104 fX9_childAt_133 fX9_childAt_138 fX9_childAt_140
    simp only [nm_x, nI_1, nI_80]
    rw [if_neg (by rw [h.1, nI_le' (by omega) (by omega)]; omega), ldi_nI (by omega) (by decide)]
    generalize hgo : (fun v : Int32 => if 0 ≤ v then ldi 80 (m.1 101 0) v (fun v5 => K (nI s) p y z v5 v (j + 1) m) else some (-100, m)) = G
    have hG : ∀ v, (if 0 ≤ v then ldi 80 (m.1 101 0) v (fun v5 => K (nI s) p y z v5 v (j + 1) m) else some (-100, m)) = G v := fun v => by rw [← hgo]
    rw [hG]
    have ih' : ∀ (n : Nat) (b : Int32), d < n → (b < 0 ∨ vp_in b 80) → fX9_childAt_23 F K n (nI s) p y z low b j (nI (t + 1)) m = G (rng (nxZ (vw m) s p z low) (t + 1) d b) := fun n b hn hb => by rw [ih (t + 1) n b (by omega) hn hb, hG]
    have no : ¬ ((isCh (vw m) s t p ∧ ¬ (vw m).1 3 0 t ≤ low ∧ (z < 0 ∨ isOf (vw m) z t)) ∧ (b < 0 ∨ ¬ (vw m).1 3 0 b.toNatClampNeg ≤ (vw m).1 3 0 t)) → fX9_childAt_23 F K n (nI s) p y z low b j (nI (t + 1)) m = G (rng (nxZ (vw m) s p z low) t (d + 1) b) := fun c => by
      rw [ih' n b (by omega) hb]
      show _ = G (rng (nxZ (vw m) s p z low) (t + 1) d (nxZ (vw m) s p z low t b))
      rw [show nxZ (vw m) s p z low t b = b from if_neg c]
    have yes : ((isCh (vw m) s t p ∧ ¬ (vw m).1 3 0 t ≤ low ∧ (z < 0 ∨ isOf (vw m) z t)) ∧ (b < 0 ∨ ¬ (vw m).1 3 0 b.toNatClampNeg ≤ (vw m).1 3 0 t)) → fX9_childAt_23 F K n (nI s) p y z low (nI t) j (nI (t + 1)) m = G (rng (nxZ (vw m) s p z low) t (d + 1) b) := fun c => by
      rw [ih' n (nI t) (by omega) (Or.inr (in_nI ht8 (by decide)))]
      show _ = G (rng (nxZ (vw m) s p z low) (t + 1) d (nxZ (vw m) s p z low t b))
      rw [show nxZ (vw m) s p z low t b = nI t from if_pos c]
    have can : (isCh (vw m) s t p ∧ ¬ (vw m).1 3 0 t ≤ low ∧ (z < 0 ∨ isOf (vw m) z t)) → (if (1 : Int32) = 0 then fX9_childAt_23 F K n (nI s) p y z low b j (nI (t + 1)) m else if b < 0 then fX9_childAt_23 F K n (nI s) p y z low (nI t) j (nI (t + 1)) m else ldi 80 (m.1 101 0) (nI t) fun v14 => ldi 80 (m.1 101 0) b fun v15 => if v15 ≤ v14 then fX9_childAt_23 F K n (nI s) p y z low b j (nI (t + 1)) m else fX9_childAt_23 F K n (nI s) p y z low (nI t) j (nI (t + 1)) m) = G (rng (nxZ (vw m) s p z low) t (d + 1) b) := fun c => by
      rw [if_neg (by decide)]
      by_cases c3 : b < 0
      · rw [if_pos c3]; exact yes ⟨c, Or.inl c3⟩
      · rw [if_neg c3, ldi_nI ht8 (by decide), ldi_in (hb.resolve_left c3)]
        by_cases c4 : m.1 101 0 b.toNatClampNeg ≤ m.1 101 0 t
        · rw [if_pos c4]; exact no (fun h9 => h9.2.elim c3 (fun q => q c4))
        · rw [if_neg c4]; exact yes ⟨c, Or.inr c4⟩
    have cannot : ¬ (isCh (vw m) s t p ∧ ¬ (vw m).1 3 0 t ≤ low ∧ (z < 0 ∨ isOf (vw m) z t)) → (if (0 : Int32) = 0 then fX9_childAt_23 F K n (nI s) p y z low b j (nI (t + 1)) m else if b < 0 then fX9_childAt_23 F K n (nI s) p y z low (nI t) j (nI (t + 1)) m else ldi 80 (m.1 101 0) (nI t) fun v14 => ldi 80 (m.1 101 0) b fun v15 => if v15 ≤ v14 then fX9_childAt_23 F K n (nI s) p y z low b j (nI (t + 1)) m else fX9_childAt_23 F K n (nI s) p y z low (nI t) j (nI (t + 1)) m) = G (rng (nxZ (vw m) s p z low) t (d + 1) b) := fun c => by
      rw [if_pos rfl]
      exact no (fun h9 => c h9.1)
    by_cases c : m.1 108 0 (80 * s + t) = 1
    · rw [if_pos c, ldi_nI ht8 (by decide)]
      by_cases c2 : m.1 100 0 t = p
      · rw [if_pos c2, ldi_nI ht8 (by decide)]
        have cch : isCh (vw m) s t p := ⟨by rw [vw31, c]; decide, c2⟩
        by_cases c3 : m.1 101 0 t ≤ low
        · rw [if_pos c3]; exact cannot (fun h9 => h9.2.1 c3)
        · rw [if_neg c3]
          by_cases c4 : z < 0
          · rw [if_pos c4]; exact can ⟨cch, c3, Or.inl c4⟩
          · rw [if_neg c4, ldi_nI ht8 (by decide)]
            by_cases c5 : m.1 102 0 t = 1
            · rw [if_pos c5, ldi_nI ht8 (by decide)]
              by_cases c6 : m.1 103 0 t = z
              · rw [if_pos c6]; exact can ⟨cch, c3, Or.inr ⟨c5, c6⟩⟩
              · rw [if_neg c6]; exact cannot (fun h9 => h9.2.2.elim c4 (fun h => c6 h.2))
            · rw [if_neg c5]; exact cannot (fun h9 => h9.2.2.elim c4 (fun h => c5 h.1))
      · rw [if_neg c2]; exact cannot (fun h9 => c2 h9.1.2)
    · rw [if_neg c]; exact cannot (fun h9 => c ((rok_1 h ht8).mpr h9.1.1))
end QU

/-! PURE: what lies below a node -/
def parN (σ : qS) (k : Nat) : Nat := (σ.1 2 0 k).toNatClampNeg
/-- the tree is closed upwards, parents come first -/
def wfT (σ : qS) (i : Nat) : Prop := σ.1 31 i 0 ≠ 0 ∧ ∀ k, 1 ≤ k → k < 80 → σ.1 31 i k ≠ 0 → ∃ q, q < k ∧ σ.1 2 0 k = nI q ∧ σ.1 31 i q ≠ 0
/-- up from k until below low -/
def clm (par : Nat → Nat) (low : Nat) : Nat → Nat → Nat
  | 0, k => k
  | f + 1, k => if k < low then k else clm par low f (par k)
/-- top is k or over it -/
def isB (par : Nat → Nat) (top : Nat) : Nat → Nat → Bool
  | 0, _ => false
  | f + 1, k => if k = top then true else if k = 0 then false else isB par top f (par k)
section CL
variable {par : Nat → Nat} {P : Nat → Prop}
theorem clm_fuel {low : Nat} (hl : 1 ≤ low) (hp : ∀ k, P k → 1 ≤ k → par k < k ∧ P (par k)) : ∀ f g k, P k → k < f → k < g → clm par low f k = clm par low g k := by
  intro f
  induction f with
  | zero => intro g k _ h; omega
  | succ f ih =>
    intro g k hk h1 h2
    obtain ⟨g, rfl⟩ : ∃ m, g = m + 1 := ⟨g - 1, by omega⟩
    show (if k < low then k else _) = (if k < low then k else _)
    by_cases c : k < low
    · rw [if_pos c, if_pos c]
    · rw [if_neg c, if_neg c]
      obtain ⟨h3, h4⟩ := hp k hk (by omega)
      exact ih g (par k) h4 (by omega) (by omega)
theorem clm_up {low k : Nat} (hl : 1 ≤ low) (hp : ∀ k, P k → 1 ≤ k → par k < k ∧ P (par k)) (hk : P k) (h : k < 80) (h2 : low ≤ k) : clm par low 80 k = clm par low 80 (par k) := by
  obtain ⟨h3, h4⟩ := hp k hk (by omega)
  show (if k < low then k else clm par low 79 (par k)) = _
  rw [if_neg (by omega)]
  exact clm_fuel hl hp 79 80 (par k) h4 (by omega) (by omega)
theorem clm_low {low k : Nat} (h2 : k < low) : clm par low 80 k = k := by
  show (if k < low then k else clm par low 79 (par k)) = _
  rw [if_pos h2]
theorem clm_P {low : Nat} (hl : 1 ≤ low) (hp : ∀ k, P k → 1 ≤ k → par k < k ∧ P (par k)) : ∀ k, k < 80 → P k → P (clm par low 80 k) ∧ clm par low 80 k < low := by
  intro k
  induction k using Nat.strongRecOn with
  | ind k ih =>
    intro h hk
    by_cases c : k < low
    · rw [clm_low c]; exact ⟨hk, c⟩
    · rw [clm_up hl hp hk h (by omega)]
      obtain ⟨h3, h4⟩ := hp k hk (by omega)
      exact ih _ h3 (by omega) h4
theorem clm_next {low : Nat} (hl : 1 ≤ low) (hp : ∀ k, P k → 1 ≤ k → par k < k ∧ P (par k)) : ∀ k, k < 80 → P k → clm par low 80 k = if clm par (low + 1) 80 k = low then par low else clm par (low + 1) 80 k := by
  intro k
  induction k using Nat.strongRecOn with
  | ind k ih =>
    intro h hk
    by_cases c : k < low
    · rw [clm_low c, clm_low (by omega), if_neg (by omega)]
    · by_cases c2 : k = low
      · subst c2
        obtain ⟨h3, h4⟩ := hp k hk (by omega)
        rw [clm_up hl hp hk h (Nat.le_refl _), clm_low (low := k + 1) (by omega), if_pos rfl, clm_low h3]
      · obtain ⟨h3, h4⟩ := hp k hk (by omega)
        rw [clm_up hl hp hk h (by omega), clm_up (low := low + 1) (by omega) hp hk h (by omega)]
        exact ih _ h3 (by omega) h4
theorem isB_fuel {top : Nat} (hp : ∀ k, P k → 1 ≤ k → par k < k ∧ P (par k)) : ∀ f g k, P k → k < f → k < g → isB par top f k = isB par top g k := by
  intro f
  induction f with
  | zero => intro g k _ h; omega
  | succ f ih =>
    intro g k hk h1 h2
    obtain ⟨g, rfl⟩ : ∃ m, g = m + 1 := ⟨g - 1, by omega⟩
    show (if k = top then true else if k = 0 then false else _) = (if k = top then true else if k = 0 then false else _)
    by_cases c : k = top
    · rw [if_pos c, if_pos c]
    · rw [if_neg c, if_neg c]
      by_cases c2 : k = 0
      · rw [if_pos c2, if_pos c2]
      · rw [if_neg c2, if_neg c2]
        obtain ⟨h3, h4⟩ := hp k hk (by omega)
        exact ih g (par k) h4 (by omega) (by omega)
theorem isB_up {top k : Nat} (hp : ∀ k, P k → 1 ≤ k → par k < k ∧ P (par k)) (hk : P k) (h : k < 80) (h1 : k ≠ top) (h2 : k ≠ 0) : isB par top 80 k = isB par top 80 (par k) := by
  obtain ⟨h3, h4⟩ := hp k hk (by omega)
  show (if k = top then true else if k = 0 then false else isB par top 79 (par k)) = _
  rw [if_neg h1, if_neg h2]
  exact isB_fuel hp 79 80 (par k) h4 (by omega) (by omega)
theorem isB_t {top : Nat} : isB par top 80 top = true := if_pos rfl
/-- below it only what has a greater number -/
theorem isB_lt {top : Nat} (hp : ∀ k, P k → 1 ≤ k → par k < k ∧ P (par k)) : ∀ k, k < 80 → P k → k < top → isB par top 80 k = false := by
  intro k
  induction k using Nat.strongRecOn with
  | ind k ih =>
    intro h hk c
    by_cases c2 : k = 0
    · subst c2
      show (if 0 = top then true else if 0 = 0 then false else _) = false
      rw [if_neg (by omega), if_pos rfl]
    · rw [isB_up hp hk h (by omega) c2]
      obtain ⟨h3, h4⟩ := hp k hk (by omega)
      exact ih _ h3 (by omega) h4 (by omega)
theorem isB_clm {top : Nat} (hp : ∀ k, P k → 1 ≤ k → par k < k ∧ P (par k)) : ∀ k, k < 80 → P k → top < k → (isB par top 80 k = true ↔ clm par (top + 1) 80 k = top) := by
  intro k
  induction k using Nat.strongRecOn with
  | ind k ih =>
    intro h hk c
    obtain ⟨h3, h4⟩ := hp k hk (by omega)
    rw [isB_up hp hk h (by omega) (by omega), clm_up (by omega) hp hk h (by omega)]
    by_cases c2 : par k = top
    · rw [c2, isB_t, clm_low (by omega)]
      exact ⟨fun _ => rfl, fun _ => rfl⟩
    · by_cases c3 : par k < top
      · rw [isB_lt hp (par k) (by omega) h4 c3, clm_low (by omega)]
        exact ⟨fun h9 => (by cases h9), fun h9 => absurd h9 c2⟩
      · exact ih _ h3 (by omega) h4 (by omega)
end CL
theorem wfT_hp {σ : qS} {i : Nat} (h : wfT σ i) : ∀ k, (k < 80 ∧ σ.1 31 i k ≠ 0) → 1 ≤ k → parN σ k < k ∧ (parN σ k < 80 ∧ σ.1 31 i (parN σ k) ≠ 0) := by
  intro k hk h1
  obtain ⟨q, h2, h3, h4⟩ := h.2 k h1 hk.1 hk.2
  have e : parN σ k = q := by
    unfold parN
    rw [h3, ix_nI (by omega)]
  rw [e]
  exact ⟨h2, by omega, h4⟩
/-- the same but for rows to reckon in -/
def sq (σ σ' : qS) : Prop := σ'.2 = σ.2 ∧ ∀ k j, k ≠ 38 → k ≠ 39 → σ'.1 k j = σ.1 k j
theorem sq_rf {σ : qS} : sq σ σ := ⟨rfl, fun _ _ _ _ => rfl⟩
theorem sq_tr {a b c : qS} (h : sq a b) (h2 : sq b c) : sq a c := ⟨h2.1.trans h.1, fun k j h3 h4 => (h2.2 k j h3 h4).trans (h.2 k j h3 h4)⟩
/-- how many are below a node, of those that are there -/
def nBl (σ : qS) (i j : Nat) : Nat := cntN (fun k => σ.1 31 i k ≠ 0 ∧ clm (parN σ) (j + 1) 80 k = j) (j + 1) (79 - j)
theorem ite_add0 {B : Prop} [Decidable B] (a b : Nat) : (if B then a + b else 0) = (if B then a else 0) + (if B then b else 0) := by
  split <;> rfl
theorem cnt_arith {A B : Prop} [Decidable A] [Decidable B] {c1 c2 p t j : Nat} (h8 : c1 = if c2 = t + 1 then p else c2) (h : c2 = t + 1 → B) (hj : j ≤ t) (hA : A) : (if A ∧ c1 = j then 1 else 0) = (if A ∧ c2 = j then 1 else 0) + (if B ∧ p = j then (if A ∧ c2 = t + 1 then 1 else 0) else 0) := by
  by_cases c : c2 = t + 1
  · rw [if_pos c] at h8
    have hB := h c
    by_cases d : p = j
    · rw [if_pos ⟨hA, h8.trans d⟩, if_neg (fun h => by omega), if_pos ⟨hB, d⟩, if_pos ⟨hA, c⟩]
    · rw [if_neg (fun h => d (h8.symm.trans h.2)), if_neg (fun h => by omega), if_neg (fun h => d h.2)]
  · rw [if_neg c] at h8
    rw [h8, if_neg (c := A ∧ c2 = t + 1) (fun h => c h.2)]
    split <;> split <;> rfl
theorem e_countBelow_l {F i : Nat} {σ : qS} (hw : wfT σ i) : ∀ (t n : Nat) (s : qS), t < 80 → t < n → sq σ s → (∀ j, j < 80 → j ≤ t → s.1 38 i j = nI (cntN (fun k => σ.1 31 i k ≠ 0 ∧ clm (parN σ) (t + 1) 80 k = j) (t + 1) (79 - t))) → (∀ j, j < 80 → t < j → s.1 38 i j = nI (nBl σ i j)) →
    ∃ s', fX7_countBelow_11 F i n (nI t) s = some s' ∧ sq σ s' ∧ ∀ j, j < 80 → s'.1 38 i j = nI (nBl σ i j) := by
  intro t
  induction t with
  | zero =>
    intro n s ht hn hs h1 h2
    obtain ⟨n, rfl⟩ : ∃ m, n = m + 1 := ⟨n - 1, by omega⟩
    refine ⟨s, ?_, hs, fun j hj => ?_⟩
    · rw [fX7_countBelow_11, if_pos (by decide)]
    · by_cases c : 0 < j
      · exact h2 j hj c
      · obtain rfl : j = 0 := by omega
        exact h1 0 hj (Nat.le_refl _)
  | succ t ih =>
    intro n s ht hn hs h1 h2
    obtain ⟨n, rfl⟩ : ∃ m, n = m + 1 := ⟨n - 1, by omega⟩
    have hp := wfT_hp hw
    have e31 : s.1 31 i = σ.1 31 i := hs.2 31 i (by decide) (by decide)
    have e2 : s.1 2 0 = σ.1 2 0 := hs.2 2 0 (by decide) (by decide)
    rw [fX7_countBelow_11, if_neg (nI_nle (by omega) (by omega)), ldi_nI ht (by decide), e31]
    unfold fX7_countBelow_49
    have em1 : nI (t + 1) + (-1) = nI t := by
      rw [← nI_1, Int32.add_assoc]
      exact Int32.add_zero _
    -- what one row more counts
    have hcnt : ∀ j, j < 80 → j ≤ t → cntN (fun k => σ.1 31 i k ≠ 0 ∧ clm (parN σ) (t + 1) 80 k = j) (t + 1) (79 - t) = (if σ.1 31 i (t + 1) ≠ 0 ∧ parN σ (t + 1) = j then 1 else 0) + (cntN (fun k => σ.1 31 i k ≠ 0 ∧ clm (parN σ) (t + 2) 80 k = j) (t + 2) (78 - t) + (if σ.1 31 i (t + 1) ≠ 0 ∧ parN σ (t + 1) = j then cntN (fun k => σ.1 31 i k ≠ 0 ∧ clm (parN σ) (t + 2) 80 k = t + 1) (t + 2) (78 - t) else 0)) := by
      intro j hj hjt
      rw [show 79 - t = (78 - t) + 1 by omega, cntN_s]
      have a1 : (if σ.1 31 i (t + 1) ≠ 0 ∧ clm (parN σ) (t + 1) 80 (t + 1) = j then 1 else 0) = (if σ.1 31 i (t + 1) ≠ 0 ∧ parN σ (t + 1) = j then 1 else 0) := by
        by_cases c : σ.1 31 i (t + 1) ≠ 0
        · have h9 := hp (t + 1) ⟨ht, c⟩ (by omega)
          rw [clm_up (P := fun k => k < 80 ∧ σ.1 31 i k ≠ 0) (by omega) hp ⟨ht, c⟩ ht (Nat.le_refl _), clm_low h9.1]
        · rw [if_neg (fun h => c h.1), if_neg (fun h => c h.1)]
      rw [a1]
      refine congrArg _ ?_
      -- the others
      have step : ∀ (d x : Nat), x + d = 80 → t + 2 ≤ x → cntN (fun k => σ.1 31 i k ≠ 0 ∧ clm (parN σ) (t + 1) 80 k = j) x d = cntN (fun k => σ.1 31 i k ≠ 0 ∧ clm (parN σ) (t + 2) 80 k = j) x d + (if σ.1 31 i (t + 1) ≠ 0 ∧ parN σ (t + 1) = j then cntN (fun k => σ.1 31 i k ≠ 0 ∧ clm (parN σ) (t + 2) 80 k = t + 1) x d else 0) := by
        intro d
        induction d with
        | zero => intro x _ _; split <;> rfl
        | succ d ihd =>
          intro x hx hx2
          rw [cntN_s, cntN_s, cntN_s, ihd (x + 1) (by omega) (by omega)]
          have h9 : (if σ.1 31 i x ≠ 0 ∧ clm (parN σ) (t + 1) 80 x = j then 1 else 0) = (if σ.1 31 i x ≠ 0 ∧ clm (parN σ) (t + 2) 80 x = j then 1 else 0) + (if σ.1 31 i (t + 1) ≠ 0 ∧ parN σ (t + 1) = j then (if σ.1 31 i x ≠ 0 ∧ clm (parN σ) (t + 2) 80 x = t + 1 then 1 else 0) else 0) := by
            by_cases c : σ.1 31 i x ≠ 0
            · have h8 := clm_next (P := fun k => k < 80 ∧ σ.1 31 i k ≠ 0) (low := t + 1) (by omega) hp x (by omega) ⟨by omega, c⟩
              have h7 := (clm_P (P := fun k => k < 80 ∧ σ.1 31 i k ≠ 0) (low := t + 2) (by omega) hp x (by omega) ⟨by omega, c⟩).1
              exact cnt_arith h8 (fun e => by rw [e] at h7; exact h7.2) hjt c
            · rw [if_neg (fun h => c h.1), if_neg (fun h => c h.1), if_neg (c := σ.1 31 i x ≠ 0 ∧ clm (parN σ) (t + 2) 80 x = t + 1) (fun h => c h.1)]
              split <;> rfl
          rw [h9, ite_add0]
          omega
      exact step (78 - t) (t + 2) (by omega) (Nat.le_refl _)
    have e79 : 79 - (t + 1) = 78 - t := by omega
    have hb : s.1 38 i (t + 1) = nI (cntN (fun k => σ.1 31 i k ≠ 0 ∧ clm (parN σ) (t + 2) 80 k = t + 1) (t + 2) (78 - t)) := by
      rw [h1 (t + 1) ht (Nat.le_refl _), e79]
    by_cases c : σ.1 31 i (t + 1) = 0
    · rw [if_pos c, nm_x, em1]
      refine ih n s (by omega) (by omega) hs (fun j hj hjt => ?_) (fun j hj hjt => ?_)
      · rw [hcnt j hj hjt, if_neg (fun h => h.1 c), if_neg (fun h => h.1 c), h1 j hj (by omega), Nat.zero_add, e79]
        rfl
      · by_cases e : j = t + 1
        · subst e
          rw [hb, ← e79]; rfl
        · exact h2 j hj (by omega)
    · obtain ⟨q, hq1, hq2, hq3⟩ := hw.2 (t + 1) (by omega) ht c
      have epq : parN σ (t + 1) = q := by
        unfold parN
        rw [hq2, ix_nI (by omega)]
      rw [if_neg c, e2, ldi_nI ht (by decide), hq2, ldi_nI (by omega) (by decide), ldi_nI ht (by decide), nm_x, nm_x, inx_nI (by omega) (by decide)]
      simp only [nm_x]
      rw [em1]
      refine ih n _ (by omega) (by omega) ⟨hs.1, fun k j h3 h4 => (qI_k h3).trans (hs.2 k j h3 h4)⟩ (fun j hj hjt => ?_) (fun j hj hjt => ?_)
      · rw [qI_at, ix_nI (by omega), upd_if, hcnt j hj hjt]
        by_cases e : j = q
        · subst e
          rw [if_pos rfl, if_pos ⟨c, epq⟩, if_pos ⟨c, epq⟩, h1 j hj (by omega), hb, show (1 : Int32) = nI 1 from rfl, nI_add, nI_add]
          refine congrArg nI ?_
          rw [e79, show t + 1 + 1 = t + 2 from rfl]
          omega
        · rw [if_neg e, if_neg (fun h => e (h.2.symm.trans epq)), if_neg (fun h => e (h.2.symm.trans epq)), h1 j hj (by omega), Nat.zero_add, e79]
          rfl
      · rw [qI_at, ix_nI (by omega), upd_ne (by omega)]
        by_cases e : j = t + 1
        · subst e
          rw [hb, ← e79]; rfl
        · exact h2 j hj (by omega)
theorem e_countBelow {F i : Nat} {σ : qS} (hw : wfT σ i) (hF : 100 ≤ F) (hi : i < 6) : ∃ s', fX7_countBelow F i σ = some s' ∧ sq σ s' ∧ ∀ j, j < 80 → s'.1 38 i j = nI (nBl σ i j) := by
  unfold fX7_countBelow
  rw [gnl_pos hi, nm_x]
  have e38 : (qF σ 38 i (fun j => if j < 80 then 0 else σ.1 38 i j)).1 38 i = fun j => if j < 80 then 0 else σ.1 38 i j := qF_s
  exact e_countBelow_l hw 79 F (qF σ 38 i (fun j => if j < 80 then 0 else σ.1 38 i j)) (by decide) (by omega) ⟨rfl, fun k j h3 h4 => if_neg (fun h => h3 h.1)⟩ (fun j hj _ => by rw [e38]; exact if_pos hj) (fun j hj h => by omega)
theorem e_belowOf {F i a : Nat} {σ : qS} (hw : wfT σ i) (hF : 100 ≤ F) (hi : i < 6) (ha : a < 80) : ∃ s', fX7_belowOf F i (nI a) σ = some (nI (nBl σ i a), s') ∧ sq σ s' := by
  unfold fX7_belowOf
  obtain ⟨s', h1, h2, h3⟩ := e_countBelow (F := F) hw hF hi
  refine ⟨s', ?_, h2⟩
  rw [gnl_pos hi, h1, bnd_s, ldi_nI ha (by decide), h3 a ha]

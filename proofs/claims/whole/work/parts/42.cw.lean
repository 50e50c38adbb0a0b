/-! PURE: walks over children by names -/
def cntN (p : Nat → Prop) [DecidablePred p] (t d : Nat) : Nat := rng (fun k c => if p k then c + 1 else c) t d 0
theorem cntN_acc {p : Nat → Prop} [DecidablePred p] {t d a : Nat} : rng (fun k c => if p k then c + 1 else c) t d a = a + cntN p t d := by
  unfold cntN
  induction d generalizing t a with
  | zero => rfl
  | succ d ih =>
    show rng _ (t + 1) d (if p t then a + 1 else a) = a + rng _ (t + 1) d (if p t then 0 + 1 else 0)
    rw [ih, ih (a := if p t then 0 + 1 else 0)]
    by_cases c : p t
    · rw [if_pos c, if_pos c]; omega
    · rw [if_neg c, if_neg c]; omega
theorem cntN_s {p : Nat → Prop} [DecidablePred p] {t d : Nat} : cntN p t (d + 1) = (if p t then 1 else 0) + cntN p (t + 1) d := by
  show rng _ (t + 1) d (if p t then 0 + 1 else 0) = _
  rw [cntN_acc]
theorem cntN_le {p : Nat → Prop} [DecidablePred p] {t d : Nat} : cntN p t d ≤ d := by
  induction d generalizing t with
  | zero => exact Nat.le_refl _
  | succ d ih =>
    rw [cntN_s]
    have := ih (t := t + 1)
    by_cases c : p t
    · rw [if_pos c]; omega
    · rw [if_neg c]; omega
theorem cntN_mono {p q : Nat → Prop} [DecidablePred p] [DecidablePred q] {t d : Nat} (h : ∀ k, t ≤ k → k < t + d → p k → q k) : cntN p t d ≤ cntN q t d := by
  induction d generalizing t with
  | zero => exact Nat.le_refl _
  | succ d ih =>
    rw [cntN_s, cntN_s]
    have h1 := ih (t := t + 1) (fun k h1 h2 => h k (by omega) (by omega))
    by_cases c : p t
    · rw [if_pos c, if_pos (h t (Nat.le_refl _) (by omega) c)]; omega
    · rw [if_neg c]; omega
theorem cntN_lt {p q : Nat → Prop} [DecidablePred p] [DecidablePred q] {t d : Nat} (h : ∀ k, t ≤ k → k < t + d → p k → q k) {x : Nat} (h1 : t ≤ x) (h2 : x < t + d) (h3 : q x) (h4 : ¬ p x) : cntN p t d < cntN q t d := by
  induction d generalizing t with
  | zero => omega
  | succ d ih =>
    rw [cntN_s, cntN_s]
    by_cases e : x = t
    · subst e
      have h5 := cntN_mono (p := p) (q := q) (t := x + 1) (d := d) (fun k h1 h2 => h k (by omega) (by omega))
      rw [if_neg h4, if_pos h3]; omega
    · have h5 := ih (t := t + 1) (fun k h1 h2 => h k (by omega) (by omega)) (by omega) (by omega)
      by_cases c : p t
      · rw [if_pos c, if_pos (h t (Nat.le_refl _) (by omega) c)]; omega
      · rw [if_neg c]; omega
theorem cntN_congr {p q : Nat → Prop} [DecidablePred p] [DecidablePred q] {t d : Nat} (h : ∀ k, t ≤ k → k < t + d → (p k ↔ q k)) : cntN p t d = cntN q t d :=
  Nat.le_antisymm (cntN_mono fun k h1 h2 => (h k h1 h2).mp) (cntN_mono fun k h1 h2 => (h k h1 h2).mpr)
section CW
variable {F i : Nat} {σ : qS}
/-- how many children have names above one -/
def abv (σ : qS) (i : Nat) (p low : Int32) : Nat := cntN (fun k => isCh σ i k p ∧ ¬ σ.1 3 0 k ≤ low) 1 79
theorem abv_lt {p low : Int32} {q : Nat} (h1 : 1 ≤ q) (h2 : q < 80) (h3 : isCh σ i q p) (h4 : ¬ σ.1 3 0 q ≤ low) : abv σ i p (σ.1 3 0 q) < abv σ i p low :=
  cntN_lt (fun k _ _ h => ⟨h.1, fun h9 => h.2 (Int32.le_trans h9 (Int32.le_of_lt (Int32.not_le.mp h4)))⟩) h1 (by omega) ⟨h3, h4⟩ (fun h => h.2 (Int32.le_refl _))
theorem nxC_pos {p low : Int32} : nxC σ i p low ≤ 0 ↔ nxC σ i p low = -100 := by
  rcases nxC_spec (σ := σ) (i := i) (p := p) (low := low) with ⟨h, -⟩ | ⟨q, h1, h2, h3, -⟩
  · rw [h]; exact ⟨fun _ => rfl, fun _ => by decide⟩
  · rw [h3]
    refine ⟨fun h => absurd h (nI_nle (by omega) (by omega)), fun h => ?_⟩
    have := congrArg Int32.toNatClampNeg h
    rw [ix_nI (by omega)] at this
    exact absurd this (by intro h9; have h8 : (-100 : Int32).toNatClampNeg = 0 := by decide
                          omega)
/-- the children by their names: the first, then each time the next -/
def sqC (σ : qS) (i : Nat) (p : Int32) : Nat → Int32
  | 0 => nxC σ i p (-1)
  | j + 1 => if sqC σ i p j ≤ 0 then sqC σ i p j else nxC σ i p (σ.1 3 0 (sqC σ i p j).toNatClampNeg)
theorem sqC_cases {p : Int32} : ∀ j, (sqC σ i p j = -100) ∨ (∃ q, 1 ≤ q ∧ q < 80 ∧ sqC σ i p j = nI q ∧ isCh σ i q p ∧ abv σ i p (σ.1 3 0 q) + j < 80) := by
  intro j
  induction j with
  | zero =>
    rcases nxC_spec (σ := σ) (i := i) (p := p) (low := -1) with ⟨h, -⟩ | ⟨q, h1, h2, h3, h4, h5, -⟩
    · exact Or.inl h
    · refine Or.inr ⟨q, h1, h2, h3, h4, ?_⟩
      have := abv_lt (σ := σ) (i := i) h1 h2 h4 h5
      have h9 : abv σ i p (-1) ≤ 79 := cntN_le
      omega
  | succ j ih =>
    rcases ih with h | ⟨q, h1, h2, h3, h4, h5⟩
    · left
      show (if sqC σ i p j ≤ 0 then sqC σ i p j else _) = -100
      rw [h, if_pos (by decide)]
    · have e : sqC σ i p (j + 1) = nxC σ i p (σ.1 3 0 q) := by
        show (if sqC σ i p j ≤ 0 then sqC σ i p j else _) = _
        rw [h3, if_neg (nI_nle (by omega) (by omega)), ix_nI (by omega)]
      rw [e]
      rcases nxC_spec (σ := σ) (i := i) (p := p) (low := σ.1 3 0 q) with ⟨h, -⟩ | ⟨r, g1, g2, g3, g4, g5, -⟩
      · exact Or.inl h
      · refine Or.inr ⟨r, g1, g2, g3, g4, ?_⟩
        have := abv_lt (σ := σ) (i := i) g1 g2 g4 g5
        omega
theorem sqC_stay {p : Int32} {j : Nat} (h : sqC σ i p j = -100) : ∀ k, j ≤ k → sqC σ i p k = -100 := by
  intro k
  induction k with
  | zero => intro h1; obtain rfl : j = 0 := by omega
            exact h
  | succ k ih =>
    intro h1
    by_cases e : j = k + 1
    · subst e; exact h
    · have h2 := ih (by omega)
      show (if sqC σ i p k ≤ 0 then sqC σ i p k else _) = -100
      rw [h2, if_pos (by decide)]
theorem sqC_80 {p : Int32} {k : Nat} (h : 80 ≤ k) : sqC σ i p k = -100 := by
  rcases sqC_cases (σ := σ) (i := i) (p := p) k with h1 | ⟨q, -, -, -, -, h5⟩
  · exact h1
  · omega
theorem e_childAt_l {p : Int32} {a : Nat} (ha : a < 2 ^ 31) (hF : 100 ≤ F) (hi : i < 6) : ∀ (d t n : Nat), t + d = min a 80 → d < n → fX7_childAt_9 F i n p (nI a) (sqC σ i p t) (nI t) σ = some (sqC σ i p (min a 80), σ) := by
  intro d
  induction d with
  | zero =>
    intro t n h hn
    obtain ⟨n, rfl⟩ : ∃ m, n = m + 1 := ⟨n - 1, by omega⟩
    obtain rfl : t = min a 80 := by omega
    rw [fX7_childAt_9]
    unfold fX7_childAt_47
    by_cases c : a ≤ 80
    · rw [Nat.min_eq_left c, if_pos (nI_le (Nat.le_refl _) ha)]
    · rw [Nat.min_eq_right (by omega), if_neg (nI_ge (by omega) ha), if_pos (le80 (Nat.le_refl _) (by decide))]
  | succ d ih =>
    intro t n h hn
    obtain ⟨n, rfl⟩ : ∃ m, n = m + 1 := ⟨n - 1, by omega⟩
    rw [fX7_childAt_9]
    unfold fX7_childAt_47
    rw [if_neg (nI_ge (by omega) ha), if_neg (nle80 (by omega))]
    rcases sqC_cases (σ := σ) (i := i) (p := p) t with h1 | ⟨q, h1, h2, h3, h4, h5⟩
    · rw [h1, if_pos (by decide), sqC_stay h1 (min a 80) (by omega)]
    · have e : sqC σ i p (t + 1) = nxC σ i p (σ.1 3 0 q) := by
        show (if sqC σ i p t ≤ 0 then sqC σ i p t else _) = _
        rw [h3, if_neg (nI_nle (by omega) (by omega)), ix_nI (by omega)]
      rw [h3, if_neg (nI_nle (by omega) (by omega)), ldi_nI h2 (by decide), e_nextChild hF hi, bnd2_s, nm_x, nI_1, ← e]
      exact ih (t + 1) n (by omega) (by omega)
/-- the child at a place -/
theorem e_childAt {p y : Int32} (hF : 100 ≤ F) (hi : i < 6) (hy : ¬ y < 0) : fX7_childAt F i p y σ = some (sqC σ i p y.toNatClampNeg, σ) := by
  unfold fX7_childAt
  rw [gnl_pos hi, e_firstChild hF hi, bnd2_s]
  obtain ⟨a, ha, rfl⟩ := nI_of hy
  have h9 := e_childAt_l (σ := σ) (p := p) ha hF hi (min a 80) 0 F (by omega) (by omega)
  rw [show nxC σ i p (-1) = sqC σ i p 0 from rfl, show (0 : Int32) = nI 0 from rfl, h9, ix_nI ha]
  by_cases c : a ≤ 80
  · rw [Nat.min_eq_left c]
  · rw [Nat.min_eq_right (by omega), sqC_80 (Nat.le_refl _), sqC_80 (by omega)]
/-- names of children that are there are all different -/
def dstN (σ : qS) (i : Nat) : Prop := ∀ k k', 1 ≤ k → k < 80 → 1 ≤ k' → k' < 80 → σ.1 31 i k ≠ 0 → σ.1 31 i k' ≠ 0 → σ.1 2 0 k = σ.1 2 0 k' → σ.1 3 0 k = σ.1 3 0 k' → k = k'
/-- the first child by names that a test takes -/
def frC (σ : qS) (i : Nat) (p : Int32) (T : Nat → Prop) (v : Int32) : Prop := (v = -100 ∧ ∀ k, 1 ≤ k → k < 80 → isCh σ i k p → ¬ T k) ∨ (∃ q, 1 ≤ q ∧ q < 80 ∧ v = nI q ∧ isCh σ i q p ∧ T q ∧ ∀ k, 1 ≤ k → k < 80 → isCh σ i k p → T k → σ.1 3 0 q ≤ σ.1 3 0 k)
theorem frC_one {p : Int32} {T : Nat → Prop} {v w : Int32} (hd : dstN σ i) (h1 : frC σ i p T v) (h2 : frC σ i p T w) : v = w := by
  rcases h1 with ⟨rfl, h1⟩ | ⟨q, a1, a2, rfl, a3, a4, a5⟩
  · rcases h2 with ⟨rfl, -⟩ | ⟨q, a1, a2, rfl, a3, a4, a5⟩
    · rfl
    · exact absurd a4 (h1 q a1 a2 a3)
  · rcases h2 with ⟨rfl, h2⟩ | ⟨r, b1, b2, rfl, b3, b4, b5⟩
    · exact absurd a4 (h2 q a1 a2 a3)
    · rw [hd q r a1 a2 b1 b2 a3.1 b3.1 (a3.2.trans b3.2.symm) (Int32.le_antisymm (a5 r b1 b2 b3 b4) (b5 q a1 a2 a3 a4))]
/-- what a walk by names has before it: all lower ones were refused -/
def lowN (σ : qS) (i : Nat) (p : Int32) (T : Nat → Prop) (j : Nat) : Prop := ∀ k, 1 ≤ k → k < 80 → isCh σ i k p → (∀ q, sqC σ i p j = nI q → q < 80 → ¬ σ.1 3 0 q ≤ σ.1 3 0 k) → ¬ T k
theorem lowN_0 {p : Int32} {T : Nat → Prop} (hn : ∀ k, 1 ≤ k → k < 80 → σ.1 31 i k ≠ 0 → ¬ σ.1 3 0 k ≤ -1) : lowN σ i p T 0 := by
  intro k h1 h2 h3 h4
  exfalso
  rcases nxC_spec (σ := σ) (i := i) (p := p) (low := -1) with ⟨-, h⟩ | ⟨q, -, g2, g3, -, -, g6⟩
  · exact hn k h1 h2 h3.1 (h k h1 h2 h3)
  · exact h4 q g3 g2 (g6 k h1 h2 h3 (hn k h1 h2 h3.1))
theorem lowN_s {p : Int32} {T : Nat → Prop} {j q : Nat} (hd : dstN σ i) (h : lowN σ i p T j) (hq : sqC σ i p j = nI q) (h1 : 1 ≤ q) (h2 : q < 80) (hc : isCh σ i q p) (hT : ¬ T q) : lowN σ i p T (j + 1) := by
  have e : sqC σ i p (j + 1) = nxC σ i p (σ.1 3 0 q) := by
    show (if sqC σ i p j ≤ 0 then sqC σ i p j else _) = _
    rw [hq, if_neg (nI_nle (by omega) (by omega)), ix_nI (by omega)]
  intro k k1 k2 k3 k4
  rw [e] at k4
  by_cases c : σ.1 3 0 k ≤ σ.1 3 0 q
  · by_cases c2 : σ.1 3 0 q ≤ σ.1 3 0 k
    · rw [← hd q k h1 h2 k1 k2 hc.1 k3.1 (hc.2.trans k3.2.symm) (Int32.le_antisymm c2 c)]
      exact hT
    · refine h k k1 k2 k3 (fun r hr hr2 => ?_)
      have := nI_inj (a := q) (b := r) (by omega) (by omega) (hq.symm.trans hr)
      subst this
      exact c2
  · exfalso
    rcases nxC_spec (σ := σ) (i := i) (p := p) (low := σ.1 3 0 q) with ⟨-, g⟩ | ⟨r, -, g2, g3, -, -, g6⟩
    · exact c (g k k1 k2 k3)
    · exact k4 r g3 g2 (g6 k k1 k2 k3 c)
theorem lowN_end {p : Int32} {T : Nat → Prop} {j : Nat} (h : lowN σ i p T j) (hq : sqC σ i p j = -100) : frC σ i p T (sqC σ i p j) := by
  refine Or.inl ⟨hq, fun k h1 h2 h3 => h k h1 h2 h3 (fun q h4 h5 => ?_)⟩
  rw [hq] at h4
  have h6 := congrArg Int32.toNatClampNeg h4
  rw [ix_nI (by omega)] at h6
  have h7 : (-100 : Int32).toNatClampNeg = 0 := by decide
  rw [h7] at h6
  subst h6
  exact absurd h4 (by decide)
theorem lowN_hit {p : Int32} {T : Nat → Prop} {j q : Nat} (h : lowN σ i p T j) (hq : sqC σ i p j = nI q) (h1 : 1 ≤ q) (h2 : q < 80) (hc : isCh σ i q p) (hT : T q) : frC σ i p T (sqC σ i p j) := by
  refine Or.inr ⟨q, h1, h2, hq, hc, hT, fun k k1 k2 k3 k4 => Decidable.byContradiction fun c => h k k1 k2 k3 (fun r hr hr2 => ?_) k4⟩
  have := nI_inj (a := q) (b := r) (by omega) (by omega) (hq.symm.trans hr)
  subst this
  exact c
/-- names of nodes are not below 0 -/
def posN (σ : qS) (i : Nat) : Prop := ∀ k, 1 ≤ k → k < 80 → σ.1 31 i k ≠ 0 → ¬ σ.1 3 0 k ≤ -1
theorem e_first0_l {p : Int32} (hd : dstN σ i) (hF : 100 ≤ F) (hi : i < 6) : ∀ (d t n : Nat), t + d = 80 → d < n → lowN σ i p (fun k => nCh σ i (nI k) ≤ 0) t → ∃ v, fX7_firstWithoutChildren_8 F i n p (sqC σ i p t) (nI t) σ = some (v, σ) ∧ frC σ i p (fun k => nCh σ i (nI k) ≤ 0) v := by
  intro d
  induction d with
  | zero =>
    intro t n h hn hl
    obtain ⟨n, rfl⟩ : ∃ m, n = m + 1 := ⟨n - 1, by omega⟩
    rw [fX7_firstWithoutChildren_8]
    unfold fX7_firstWithoutChildren_47
    rw [if_pos (le80 (by omega) (by omega))]
    exact ⟨_, rfl, lowN_end hl (sqC_80 (by omega))⟩
  | succ d ih =>
    intro t n h hn hl
    obtain ⟨n, rfl⟩ : ∃ m, n = m + 1 := ⟨n - 1, by omega⟩
    rw [fX7_firstWithoutChildren_8]
    unfold fX7_firstWithoutChildren_47
    rw [if_neg (nle80 (by omega))]
    rcases sqC_cases (σ := σ) (i := i) (p := p) t with h1 | ⟨q, h1, h2, h3, h4, h5⟩
    · rw [if_pos (by rw [h1]; decide)]
      exact ⟨_, rfl, lowN_end hl h1⟩
    · rw [if_neg (by rw [h3]; exact nI_nle (by omega) (by omega)), e_childrenOf hF hi, bnd2_s, h3]
      by_cases c : nCh σ i (nI q) ≤ 0
      · rw [if_pos c]
        exact ⟨_, rfl, h3 ▸ lowN_hit hl h3 h1 h2 h4 c⟩
      · have e : sqC σ i p (t + 1) = nxC σ i p (σ.1 3 0 q) := by
          show (if sqC σ i p t ≤ 0 then sqC σ i p t else _) = _
          rw [h3, if_neg (nI_nle (by omega) (by omega)), ix_nI (by omega)]
        rw [if_neg c, ldi_nI h2 (by decide), e_nextChild hF hi, bnd2_s, nm_x, nI_1, ← e]
        exact ih (t + 1) n (by omega) (by omega) (lowN_s hd hl h3 h1 h2 h4 c)
theorem e_firstWithoutChildren {p : Int32} (hd : dstN σ i) (hp : posN σ i) (hF : 100 ≤ F) (hi : i < 6) : ∃ v, fX7_firstWithoutChildren F i p σ = some (v, σ) ∧ frC σ i p (fun k => nCh σ i (nI k) ≤ 0) v := by
  unfold fX7_firstWithoutChildren
  rw [gnl_pos hi, e_firstChild hF hi, bnd2_s]
  exact e_first0_l hd hF hi 80 0 F rfl (by omega) (lowN_0 hp)
abbrev isOf (σ : qS) (z : Int32) (k : Nat) : Prop := σ.1 4 0 k = 1 ∧ σ.1 5 0 k = z
theorem e_isOfSession {z : Int32} {k : Nat} (hi : i < 6) (hk : k < 80) : fX7_isOfSession F i (nI k) z σ = some (b2 (isOf σ z k), σ) := by
  unfold fX7_isOfSession fX7_isOfSession_30 fX7_isOfSession_31
  rw [gnl_pos hi, ldi_nI hk (by decide)]
  by_cases h : σ.1 4 0 k = 1
  · rw [if_pos h, ldi_nI hk (by decide)]
    by_cases h2 : σ.1 5 0 k = z
    · rw [if_pos h2, gbl_1, b2_t ⟨h, h2⟩]
    · rw [if_neg h2, gbl_0, b2_f (fun q => h2 q.2)]
  · rw [if_neg h, gbl_0, b2_f (fun q => h q.1)]
theorem e_firstOf_l {p z : Int32} (hd : dstN σ i) (hF : 100 ≤ F) (hi : i < 6) : ∀ (d t n : Nat), t + d = 80 → d < n → lowN σ i p (isOf σ z) t → ∃ v, fX7_firstOf_9 F i n z p (sqC σ i p t) (nI t) σ = some (v, σ) ∧ frC σ i p (isOf σ z) v := by
  intro d
  induction d with
  | zero =>
    intro t n h hn hl
    obtain ⟨n, rfl⟩ : ∃ m, n = m + 1 := ⟨n - 1, by omega⟩
    rw [fX7_firstOf_9]
    unfold fX7_firstOf_50
    rw [if_pos (le80 (by omega) (by omega))]
    exact ⟨_, rfl, lowN_end hl (sqC_80 (by omega))⟩
  | succ d ih =>
    intro t n h hn hl
    obtain ⟨n, rfl⟩ : ∃ m, n = m + 1 := ⟨n - 1, by omega⟩
    rw [fX7_firstOf_9]
    unfold fX7_firstOf_50
    rw [if_neg (nle80 (by omega))]
    rcases sqC_cases (σ := σ) (i := i) (p := p) t with h1 | ⟨q, h1, h2, h3, h4, h5⟩
    · rw [if_pos (by rw [h1]; decide)]
      exact ⟨_, rfl, lowN_end hl h1⟩
    · rw [if_neg (by rw [h3]; exact nI_nle (by omega) (by omega)), h3, e_isOfSession hi h2, bnd2_s]
      by_cases c : isOf σ z q
      · rw [if_neg (fun h9 => b2_0.mp h9 c)]
        exact ⟨_, rfl, h3 ▸ lowN_hit hl h3 h1 h2 h4 c⟩
      · have e : sqC σ i p (t + 1) = nxC σ i p (σ.1 3 0 q) := by
          show (if sqC σ i p t ≤ 0 then sqC σ i p t else _) = _
          rw [h3, if_neg (nI_nle (by omega) (by omega)), ix_nI (by omega)]
        rw [if_pos (b2_0.mpr c), ldi_nI h2 (by decide), e_nextChild hF hi, bnd2_s, nm_x, nI_1, ← e]
        exact ih (t + 1) n (by omega) (by omega) (lowN_s hd hl h3 h1 h2 h4 c)
theorem e_firstOf {p z : Int32} (hd : dstN σ i) (hp : posN σ i) (hF : 100 ≤ F) (hi : i < 6) : ∃ v, fX7_firstOf F i z p σ = some (v, σ) ∧ frC σ i p (isOf σ z) v := by
  unfold fX7_firstOf
  rw [gnl_pos hi, e_firstChild hF hi, bnd2_s]
  exact e_firstOf_l hd hF hi 80 0 F rfl (by omega) (lowN_0 hp)
end CW

/-! PURE: more of the class's questions; copies -/
theorem qI_ap {σ : qS} {k i j k' i' q : Nat} {v : Int32} : (qI σ k i j v).1 k' i' q = if k' = k ∧ i' = i ∧ q = j then v else σ.1 k' i' q := by
  by_cases h : k' = k ∧ i' = i
  · obtain ⟨rfl, rfl⟩ := h
    rw [qI_at, upd_if]
    by_cases h2 : q = j
    · rw [if_pos h2, if_pos ⟨rfl, rfl, h2⟩]
    · rw [if_neg h2, if_neg (fun h => h2 h.2.2)]
  · rw [if_neg (fun h2 => h ⟨h2.1, h2.2.1⟩)]
    show (if k' = k ∧ i' = i then _ else σ.1 k' i') q = _
    rw [if_neg h]
/-- bit x of r -/
abbrev bit1 (r x : Int32) : Prop := (r >>> (x &&& 31)) &&& 1 = 1
abbrev isHd (σ : qS) (k : Nat) : Prop := σ.1 4 0 k = 1 ∨ σ.1 4 0 k = 2
section CH
variable {F i : Nat} {σ : qS}
theorem e_mayWrite {k : Nat} {p : Int32} (hi : i < 6) (hk : k < 80) : fX7_mayWrite F i (nI k) p σ = some (b2 (bit1 (σ.1 36 i k) (4 + p)), σ) := by
  unfold fX7_mayWrite fX7_mayWrite_21
  rw [gnl_pos hi, ldi_nI hk (by decide)]
  simp only [nm_x]
  by_cases h : bit1 (σ.1 36 i k) (4 + p)
  · rw [if_pos h, gbl_1, b2_t h]
  · rw [if_neg h, gbl_0, b2_f h]
theorem e_hasVersion {k : Nat} {p : Int32} (hi : i < 6) (hk : k < 80) : fX7_hasVersion F i (nI k) p σ = some (b2 (p = -1 ∨ p = σ.1 33 i k), σ) := by
  unfold fX7_hasVersion fX7_hasVersion_15 fX7_hasVersion_20
  rw [gnl_pos hi]
  by_cases h : p = -1
  · rw [if_pos h, gbl_1, b2_t (Or.inl h)]
  · rw [if_neg h, ldi_nI hk (by decide)]
    by_cases h2 : p = σ.1 33 i k
    · rw [if_pos h2, gbl_1, b2_t (Or.inr h2)]
    · rw [if_neg h2, gbl_0, b2_f (fun q => q.elim h h2)]
theorem e_readingRefused {p z : Int32} (hi : i < 6) : fX7_readingRefused F i p z σ = some (if hlds σ i p then (if bit1 (σ.1 36 i p.toNatClampNeg) z then 0 else -2) else -1, σ) := by
  unfold fX7_readingRefused fX7_readingRefused_30
  rw [gnl_pos hi, e_holds hi, bnd2_s]
  by_cases h : hlds σ i p
  · rw [if_neg (fun q => b2_0.mp q h), if_pos h, ldi_in (vp_in_80.mpr h.1)]
    simp only [nm_x]
    by_cases h2 : bit1 (σ.1 36 i p.toNatClampNeg) z
    · rw [if_pos h2, if_pos h2]
    · rw [if_neg h2, if_neg h2]
  · rw [if_pos (b2_0.mpr h), if_neg h]
theorem e_isHeld {k : Nat} (hk : k < 80) : fX1_isHeld F (nI k) σ = some (b2 (isHd σ k), σ) := by
  unfold fX1_isHeld fX1_isHeld_20 fX1_isHeld_25
  rw [ldi_nI hk (by decide)]
  by_cases h : σ.1 4 0 k = 1
  · rw [if_pos h, gbl_1, b2_t (Or.inl h)]
  · rw [if_neg h, ldi_nI hk (by decide)]
    by_cases h2 : σ.1 4 0 k = 2
    · rw [if_pos h2, gbl_1, b2_t (Or.inr h2)]
    · rw [if_neg h2, gbl_0, b2_f (fun q => q.elim h h2)]
/-- whether a step is told -/
abbrev tlls (σ : qS) (k : Nat) : Prop := σ.1 11 0 k = 0 ∨ σ.1 11 0 k = 1 ∨ σ.1 11 0 k = 2
theorem e_tells {k : Nat} (hk : k < 1024) : fX3_tells F (nI k) σ = some (b2 (tlls σ k), σ) := by
  unfold fX3_tells fX3_tells_29 fX3_tells_34
  rw [ldi_nI hk (by decide)]
  by_cases h : σ.1 11 0 k = 0
  · rw [if_pos h, gbl_1, b2_t (Or.inl h)]
  · rw [if_neg h, ldi_nI hk (by decide)]
    by_cases h2 : σ.1 11 0 k = 1
    · rw [if_pos h2, gbl_1, b2_t (Or.inr (Or.inl h2))]
    · rw [if_neg h2, ldi_nI hk (by decide)]
      by_cases h3 : σ.1 11 0 k = 2
      · rw [if_pos h3, gbl_1, b2_t (Or.inr (Or.inr h3))]
      · rw [if_neg h3, gbl_0, b2_f (fun q => q.elim h (fun q => q.elim h2 h3))]
theorem nI_lt' {a b : Nat} (ha : a < 2 ^ 31) (hb : b < 2 ^ 31) : nI a < nI b ↔ a < b := by
  rw [Int32.lt_iff_toInt_lt, nI_toInt ha, nI_toInt hb]
  omega
theorem nI_le' {a b : Nat} (ha : a < 2 ^ 31) (hb : b < 2 ^ 31) : nI a ≤ nI b ↔ a ≤ b := by
  rw [Int32.le_iff_toInt_le, nI_toInt ha, nI_toInt hb]
  omega
/-- parents of what was made come first; the root has none -/
def wfB (σ : qS) (P : Nat → Prop) : Prop := σ.1 2 0 0 = -100 ∧ ∀ k, 1 ≤ k → k < 80 → P k → ∃ q, q < k ∧ σ.1 2 0 k = nI q ∧ P q
theorem wfB_hp {P : Nat → Prop} (h : wfB σ P) : ∀ k, (k < 80 ∧ P k) → 1 ≤ k → parN σ k < k ∧ (parN σ k < 80 ∧ P (parN σ k)) := by
  intro k hk h1
  obtain ⟨q, h2, h3, h4⟩ := h.2 k h1 hk.1 hk.2
  have e : parN σ k = q := by
    unfold parN
    rw [h3, ix_nI (by omega)]
  rw [e]
  exact ⟨h2, by omega, h4⟩
theorem wfB_par {P : Nat → Prop} (h : wfB σ P) {k : Nat} (h1 : 1 ≤ k) (hk : k < 80) (hp : P k) : σ.1 2 0 k = nI (parN σ k) := by
  obtain ⟨q, h2, h3, h4⟩ := h.2 k h1 hk hp
  unfold parN
  rw [h3, ix_nI (by omega)]
theorem e_isWithinBranch_l {P : Nat → Prop} (hw : wfB σ P) {a : Nat} (ha : a < 80) : ∀ (n t k : Nat), k < 80 → P k → k + t < 80 → k < n → fX1_isWithinBranch_5 F n (nI a) (nI k) (nI t) σ = some (b2 (isB (parN σ) a 80 k = true), σ) := by
  intro n
  induction n with
  | zero => intro t k _ _ _ h; omega
  | succ n ih =>
    intro t k hk hp ht hn
    rw [fX1_isWithinBranch_5, if_neg (nle80 (by omega))]
    unfold fX1_isWithinBranch_30 fX1_isWithinBranch_40
    by_cases c : k ≤ a
    · rw [if_pos ((nI_le' (by omega) (by omega)).mpr c)]
      by_cases c2 : k = a
      · subst c2
        rw [if_pos rfl, gbl_1, isB_t, b2_t rfl]
      · rw [if_neg (fun h => c2 (nI_inj (by omega) (by omega) h)), gbl_0, isB_lt (wfB_hp hw) k hk ⟨hk, hp⟩ (by omega), b2_f (by decide)]
    · rw [if_neg (fun h => c ((nI_le' (by omega) (by omega)).mp h)), ldi_nI hk (by decide), wfB_par hw (by omega) hk hp]
      simp only [nm_x, nI_1]
      obtain ⟨h1, h2, h3⟩ := wfB_hp hw k ⟨hk, hp⟩ (by omega)
      rw [ih (t + 1) (parN σ k) h2 h3 (by omega) (by omega), isB_up (wfB_hp hw) ⟨hk, hp⟩ hk (by omega) (by omega)]
theorem e_isWithinBranch {P : Nat → Prop} (hw : wfB σ P) {a k : Nat} (hF : 100 ≤ F) (ha : a < 80) (hk : k < 80) (hp : P k) : fX1_isWithinBranch F (nI k) (nI a) σ = some (b2 (isB (parN σ) a 80 k = true), σ) := by
  unfold fX1_isWithinBranch
  exact e_isWithinBranch_l hw ha F 0 k hk hp (by omega) (by omega)
/-- what a node tells -/
def tolV (σ : qS) (i k : Nat) (w : Int32) : Int32 :=
  if w = 0 then σ.1 32 i k else if w = 1 then σ.1 33 i k else if w = 2 then σ.1 34 i k else if w = 3 then σ.1 35 i k else if w = 4 then σ.1 2 0 k else if w = 5 then σ.1 3 0 k else if w = 6 then nCh σ i (nI k) else if w = 7 then σ.1 4 0 k else if w = 8 then σ.1 6 0 k else σ.1 36 i k
theorem e_told {k : Nat} {w : Int32} (hF : 100 ≤ F) (hi : i < 6) (hk : k < 80) : fX7_told F i (nI k) w σ = some (tolV σ i k w, σ) := by
  unfold fX7_told tolV
  rw [gnl_pos hi]
  simp only [ldi_nI hk (show 80 ≤ 2 ^ 31 by decide), e_childrenOf hF hi, bnd2_s]
  split
  · rfl
  split
  · rfl
  split
  · rfl
  split
  · rfl
  split
  · rfl
  split
  · rfl
  split
  · rfl
  split
  · rfl
  split
  · rfl
  rfl
end CH
/-- a tree is another's copy, up to t -/
def cpT (σ s : qS) (i j t : Nat) : Prop := s.2 = σ.2 ∧ ∀ k' i' q, s.1 k' i' q = if i' = i ∧ 31 ≤ k' ∧ k' ≤ 37 ∧ q < t then σ.1 k' j q else σ.1 k' i' q
theorem e_copyFrom_l {F i j : Nat} {σ : qS} (hij : i ≠ j) (hb : ∀ q, q < 80 → σ.1 31 j q = 0 ∨ σ.1 31 j q = 1) : ∀ (d t n : Nat) (s : qS), t + d = 80 → d < n → cpT σ s i j t → ∃ s', fX7_copyFrom_2 F i j n (nI t) s = some s' ∧ cpT σ s' i j 80 := by
  intro d
  induction d with
  | zero =>
    intro t n s h hn hs
    obtain ⟨n, rfl⟩ : ∃ m, n = m + 1 := ⟨n - 1, by omega⟩
    obtain rfl : t = 80 := by omega
    rw [fX7_copyFrom_2, if_pos (le80 (by omega) (by omega))]
    exact ⟨s, rfl, hs⟩
  | succ d ih =>
    intro t n s h hn hs
    obtain ⟨n, rfl⟩ : ∃ m, n = m + 1 := ⟨n - 1, by omega⟩
    have hj : ∀ k', s.1 k' j t = σ.1 k' j t := fun k' => by rw [hs.2, if_neg (fun h => hij h.1.symm)]
    rw [fX7_copyFrom_2, if_neg (nle80 (by omega))]
    simp only [ldi_nI (show t < 80 by omega) (show 80 ≤ 2 ^ 31 by decide), inx_nI (show t < 80 by omega) (show 80 ≤ 2 ^ 31 by decide), nm_x, ix_nI (show t < 2 ^ 31 by omega), nI_1]
    rw [hj, gbl_or (hb t (by omega))]
    refine ih (t + 1) n _ (by omega) (by omega) ⟨hs.1, fun k' i' q => ?_⟩
    simp only [qI_ap, hj]
    by_cases c1 : i' = i
    · subst c1
      by_cases c2 : q = t
      · subst c2
        simp only [hs.2, Nat.lt_irrefl, and_false, if_false, and_true, true_and, Nat.lt_succ_self]
        by_cases a7 : k' = 37
        · subst a7; simp
        by_cases a6 : k' = 36
        · subst a6; simp
        by_cases a5 : k' = 35
        · subst a5; simp
        by_cases a4 : k' = 34
        · subst a4; simp
        by_cases a3 : k' = 33
        · subst a3; simp
        by_cases a2 : k' = 32
        · subst a2; simp
        by_cases a1 : k' = 31
        · subst a1; simp
        rw [if_neg a7, if_neg a6, if_neg a5, if_neg a4, if_neg a3, if_neg a2, if_neg a1, if_neg (by omega)]
      · simp only [c2, and_false, if_false, hs.2]
        by_cases c3 : q < t
        · have c4 : q < t + 1 := by omega
          simp only [c3, c4]
        · have c4 : ¬ q < t + 1 := by omega
          simp only [c3, c4]
    · simp only [c1, false_and, and_false, if_false, hs.2]
theorem e_copyFrom {F i j : Nat} {σ : qS} (hF : 100 ≤ F) (hi : i < 6) (hj : j < 6) (hij : i ≠ j) (hb : ∀ q, q < 80 → σ.1 31 j q = 0 ∨ σ.1 31 j q = 1) : ∃ s', fX7_copyFrom F i j σ = some s' ∧ cpT σ s' i j 80 := by
  unfold fX7_copyFrom
  rw [gnl_pos hi, gnl_pos hj]
  exact e_copyFrom_l hij hb 80 0 F σ rfl (by omega) ⟨rfl, fun k' i' q => by rw [if_neg (by omega)]⟩
/-- what is held by one that ended is dropped, up to t -/
def drT (σ s : qS) (i t : Nat) : Prop := s.2 = σ.2 ∧ ∀ k' i' q, s.1 k' i' q = if i' = i ∧ k' = 31 ∧ 1 ≤ q ∧ q < t ∧ isHd σ q then 0 else σ.1 k' i' q
theorem e_dropHeld_l {F i : Nat} {σ : qS} : ∀ (d t n : Nat) (s : qS), 1 ≤ t → t + d = 80 → d < n → drT σ s i t → ∃ s', fX7_dropHeld_2 F i n (nI t) s = some s' ∧ drT σ s' i 80 := by
  intro d
  induction d with
  | zero =>
    intro t n s h1 h hn hs
    obtain ⟨n, rfl⟩ : ∃ m, n = m + 1 := ⟨n - 1, by omega⟩
    obtain rfl : t = 80 := by omega
    rw [fX7_dropHeld_2, if_pos (le80 (by omega) (by omega))]
    exact ⟨s, rfl, hs⟩
  | succ d ih =>
    intro t n s h1 h hn hs
    obtain ⟨n, rfl⟩ : ∃ m, n = m + 1 := ⟨n - 1, by omega⟩
    have e4 : s.1 4 0 = σ.1 4 0 := by
      funext q
      rw [hs.2, if_neg (fun h => by have := h.2.1; omega)]
    have eh : isHd s t ↔ isHd σ t := by
      show s.1 4 0 t = 1 ∨ s.1 4 0 t = 2 ↔ _
      rw [e4]
    rw [fX7_dropHeld_2, if_neg (nle80 (by omega)), e_isHeld (by omega), bnd2_s]
    unfold fX7_dropHeld_26
    simp only [nm_x, nI_1]
    by_cases c : isHd σ t
    · rw [if_neg (fun h => b2_0.mp h (eh.mpr c)), inx_nI (by omega) (by decide), gbl_0, ix_nI (by omega)]
      refine ih (t + 1) n _ (by omega) (by omega) (by omega) ⟨hs.1, fun k' i' q => ?_⟩
      rw [qI_ap, hs.2]
      by_cases c1 : k' = 31 ∧ i' = i ∧ q = t
      · obtain ⟨rfl, rfl, rfl⟩ := c1
        rw [if_pos ⟨rfl, rfl, rfl⟩, if_pos ⟨rfl, rfl, h1, by omega, c⟩]
      · rw [if_neg c1]
        by_cases c2 : i' = i ∧ k' = 31 ∧ 1 ≤ q ∧ q < t ∧ isHd σ q
        · rw [if_pos c2, if_pos ⟨c2.1, c2.2.1, c2.2.2.1, by omega, c2.2.2.2.2⟩]
        · rw [if_neg c2, if_neg (fun h => c2 ⟨h.1, h.2.1, h.2.2.1, by
            have : q ≠ t := fun e => c1 ⟨h.2.1, h.1, e⟩
            omega, h.2.2.2.2⟩)]
    · rw [if_pos (b2_0.mpr (fun h => c (eh.mp h)))]
      refine ih (t + 1) n _ (by omega) (by omega) (by omega) ⟨hs.1, fun k' i' q => ?_⟩
      rw [hs.2]
      by_cases c2 : i' = i ∧ k' = 31 ∧ 1 ≤ q ∧ q < t ∧ isHd σ q
      · rw [if_pos c2, if_pos ⟨c2.1, c2.2.1, c2.2.2.1, by omega, c2.2.2.2.2⟩]
      · rw [if_neg c2, if_neg (fun h => c2 ⟨h.1, h.2.1, h.2.2.1, by
          have : q ≠ t := fun e => c (e ▸ h.2.2.2.2)
          omega, h.2.2.2.2⟩)]
theorem e_dropHeld {F i : Nat} {σ : qS} (hF : 100 ≤ F) (hi : i < 6) : ∃ s', fX7_dropHeld F i σ = some s' ∧ drT σ s' i 80 := by
  unfold fX7_dropHeld
  rw [gnl_pos hi]
  exact e_dropHeld_l 79 1 F σ (Nat.le_refl _) rfl (by omega) ⟨rfl, fun k' i' q => by rw [if_neg (by omega)]⟩

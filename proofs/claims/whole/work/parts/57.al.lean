/-! PURE: trees that are alike -/
theorem isB_congr {par par' : Nat → Nat} {top : Nat} {P : Nat → Prop} (hp : ∀ k, P k → 1 ≤ k → par k < k ∧ P (par k)) (he : ∀ k, P k → 1 ≤ k → par' k = par k) : ∀ f k, P k → isB par' top f k = isB par top f k := by
  intro f
  induction f with
  | zero => intro k _; rfl
  | succ f ih =>
    intro k hk
    show (if k = top then true else if k = 0 then false else isB par' top f (par' k)) = (if k = top then true else if k = 0 then false else isB par top f (par k))
    by_cases c : k = 0
    · simp only [c, if_true]
    · rw [he k hk (by omega), ih (par k) (hp k hk (by omega)).2]
def tEq (a : qS) (i : Nat) (b : qS) (j : Nat) : Prop := ∀ f k, 31 ≤ f → f ≤ 37 → k < 80 → a.1 f i k = b.1 f j k
def bEq (M : Nat) (a b : qS) : Prop := ∀ f k, 2 ≤ f → f ≤ 6 → k < M → k < 80 → a.1 f 0 k = b.1 f 0 k
theorem bEq_par {M : Nat} {a b : qS} (h : bEq M a b) {k : Nat} (h8 : k < 80) (hM : k < M) : parN a k = parN b k := by
  unfold parN
  rw [h 2 k (by decide) (by decide) hM h8]
/-- a sound tree: number 0 of c, of the first M nodes -/
def gdT (c : qS) (M : Nat) : Prop := (bwf c M ∧ 1 ≤ M ∧ M ≤ 80) ∧ (∀ k, k < 80 → (c.1 31 0 k = 0 ∨ c.1 31 0 k = 1 ∧ k < M)) ∧ c.1 31 0 0 = 1 ∧ (∀ k, 1 ≤ k → k < 80 → c.1 31 0 k ≠ 0 → c.1 31 0 (parN c k) ≠ 0 ∧ ¬ isHd c (parN c k)) ∧ (∀ k, 1 ≤ k → k < 80 → c.1 31 0 k ≠ 0 → ∃ x, c.1 3 0 k = nI x ∧ (x < 100 ∨ (1000 ≤ x ∧ ∃ y, y ≤ M ∧ c.1 37 0 (parN c k) = nI y ∧ x < 1000 + y))) ∧ dstN c 0 ∧ (∀ k, M ≤ k → k < 80 → c.1 33 0 k = 0 ∧ c.1 34 0 k = 0 ∧ c.1 35 0 k = 0 ∧ c.1 37 0 k = 0) ∧ (∀ k, k < 80 → ∃ y, y ≤ M ∧ c.1 37 0 k = nI y)
theorem gdT_M {c : qS} {M k : Nat} (h : gdT c M) (hk : k < 80) (h1 : c.1 31 0 k ≠ 0) : k < M := by
  rcases h.2.1 k hk with e | ⟨-, e⟩
  · exact absurd e h1
  · exact e
theorem gdT_wf {c : qS} {M : Nat} (h : gdT c M) : wfT c 0 := by
  refine ⟨by rw [h.2.2.1]; decide, fun k h1 h2 h3 => ?_⟩
  have hM := gdT_M h h2 h3
  obtain ⟨g1, g2⟩ := bwf_par h.1.1 h1 h2 hM
  exact ⟨parN c k, g2, g1, (h.2.2.2.1 k h1 h2 h3).1⟩
/-- the same tree over other places: what hangs on births of nodes that are there is the same -/
theorem wfT_cp {a b : qS} {i j M : Nat} (hb : bEq M b a) (ht : tEq a i b j) (hw : wfT b j) (hM : ∀ k, k < 80 → b.1 31 j k ≠ 0 → k < M) : wfT a i := by
  refine ⟨by rw [ht 31 0 (by decide) (by decide) (by decide)]; exact hw.1, fun k h1 h2 h3 => ?_⟩
  rw [ht 31 k (by decide) (by decide) h2] at h3
  obtain ⟨q, g1, g2, g3⟩ := hw.2 k h1 h2 h3
  exact ⟨q, g1, by rw [← hb 2 k (by decide) (by decide) (hM k h2 h3) h2]; exact g2, by rw [ht 31 q (by decide) (by decide) (by omega)]; exact g3⟩
theorem giv_cp {a b : qS} {i j M n k : Nat} {dp : Int32} (hb : bEq M b a) (ht : tEq a i b j) (hw : wfT b j) (hM : ∀ k, k < 80 → b.1 31 j k ≠ 0 → k < M) : giv a i n dp k ↔ giv b j n dp k := by
  have key : k < 80 → b.1 31 j k ≠ 0 → isB (parN a) n 80 k = isB (parN b) n 80 k := fun h1 h2 =>
    isB_congr (wfT_hp hw) (fun q hq h => (bEq_par hb hq.1 (hM q hq.1 hq.2)).symm) 80 k ⟨h1, h2⟩
  constructor
  · rintro ⟨h1, h2, h3⟩
    refine ⟨h1, h2, ?_⟩
    rcases h3 with e | ⟨e1, e2, e3⟩
    · exact Or.inl e
    · rw [ht 31 k (by decide) (by decide) h2] at e2
      exact Or.inr ⟨e1, e2, by rw [← key h2 e2]; exact e3⟩
  · rintro ⟨h1, h2, h3⟩
    refine ⟨h1, h2, ?_⟩
    rcases h3 with e | ⟨e1, e2, e3⟩
    · exact Or.inl e
    · exact Or.inr ⟨e1, by rw [ht 31 k (by decide) (by decide) h2]; exact e2, by rw [key h2 e2]; exact e3⟩
theorem apT_cp {a b : qS} {i j M kd n : Nat} {v : Int32} (hkd : kd ≤ 4) (hn : n < 80) (hnM : n < M) (hpar : parN b n < 80) (hb : bEq M b a) (ht : tEq a i b j) (hw : wfT b j) (hM : ∀ k, k < 80 → b.1 31 j k ≠ 0 → k < M) {f k : Nat} (h1 : 31 ≤ f) (h2 : f ≤ 37) (hk : k < 80) : apT a i kd n v f k = apT b j kd n v f k := by
  have ep : parN a n = parN b n := (bEq_par hb hn hnM).symm
  have eg : ∀ dp, giv a i n dp k ↔ giv b j n dp k := fun dp => giv_cp hb ht hw hM
  have et : ∀ f, 31 ≤ f → f ≤ 37 → a.1 f i k = b.1 f j k := fun f g1 g2 => ht f k g1 g2 hk
  have e3 : a.1 3 0 n = b.1 3 0 n := (hb 3 n (by decide) (by decide) hnM hn).symm
  unfold apT
  simp only [ep, eg, e3, et 33 (by decide) (by decide), et 34 (by decide) (by decide), et 35 (by decide) (by decide), et 37 (by decide) (by decide), et f h1 h2, ht 36 (parN b n) (by decide) (by decide) hpar]
theorem fiM_fir {m σ : qS} {M kd n : Nat} (hkd : kd ≤ 2) (hn : n < 80) (hnM : n < M) (hb : bwf σ M) (hp : ∀ k, k < 80 → k < M → m.1 100 0 k = σ.1 2 0 k) : fiM m kd n = fir σ kd n := by
  funext w
  unfold fiM
  rw [decide_eq_true hkd, Bool.true_and]
  have e2 : (vw m).1 2 0 n = σ.1 2 0 n := hp n hn hnM
  have key : isB (parN (vw m)) w.1.toNatClampNeg 80 n = isB (parN σ) w.1.toNatClampNeg 80 n :=
    isB_congr (wfB_hp (bwf_wfB hb)) (fun q hq _ => by
      unfold parN
      rw [show (vw m).1 2 0 q = σ.1 2 0 q from hp q hq.1 hq.2]) 80 n ⟨hn, hnM⟩
  unfold fir
  rw [e2, key]
/-- one told step of the log, on watches and what was told -/
def kdN (σ : qS) (i : Nat) : Nat := (σ.1 11 0 i).toNatClampNeg
def ndN (σ : qS) (i : Nat) : Nat := (σ.1 12 0 i).toNatClampNeg
def chN (σ : qS) (i : Nat) : Nat := (σ.1 10 0 i).toNatClampNeg
def hst (σ : qS) (i : Nat) (p : List (Int32 × Int32) × List Int32) : List (Int32 × Int32) × List Int32 := if kdN σ i ≤ 2 then (hrW σ (kdN σ i) (ndN σ i) p.1, p.2 ++ hrT σ (kdN σ i) (ndN σ i) p.1) else p
theorem upM_hst {m σ : qS} {M i : Nat} {p : List (Int32 × Int32) × List Int32} (hn : ndN σ i < 80) (hnM : ndN σ i < M) (hb : bwf σ M) (hp : ∀ k, k < 80 → k < M → m.1 100 0 k = σ.1 2 0 k) : (if kdN σ i ≤ 2 then upM m (kdN σ i) (ndN σ i) p else p) = hst σ i p := by
  unfold hst
  by_cases c : kdN σ i ≤ 2
  · rw [if_pos c, if_pos c]
    unfold upM hmW hmT hrW hrT
    rw [fiM_fir c hn hnM hb hp]
  · rw [if_neg c, if_neg c]
/-- what the log's first S steps are, in the class and in the reference -/
def stp (c c' : qS) (kd n : Nat) (v : Int32) : Prop := ∀ f k, 31 ≤ f → f ≤ 37 → k < 80 → c'.1 f 0 k = apT c 0 kd n v f k
def lgC (σ : qS) (C : Nat → qS) (M i : Nat) : Prop := (σ.1 11 0 i = nI (kdN σ i) ∧ σ.1 12 0 i = nI (ndN σ i) ∧ σ.1 10 0 i = nI (chN σ i) ∧ chN σ i < 2 ^ 31) ∧ sOK (C i) (kdN σ i) (ndN σ i) M ∧ stp (C i) (C (i + 1)) (kdN σ i) (ndN σ i) (σ.1 13 0 i)
def lgR (σ m : qS) (C : Nat → qS) (π : Nat → Nat) (i : Nat) : Prop := blk m (C i) (kdN σ i) (ndN σ i) (σ.1 13 0 i) (chN σ i) (π i) ∧ π (i + 1) = π i + blkN (C i) (kdN σ i) (ndN σ i)
def kLog (σ m : qS) (C : Nat → qS) (π : Nat → Nat) (M S : Nat) : Prop := σ.1 9 0 4 = nI S ∧ m.1 0 0 25 = nI (π S) ∧ (∀ i, i < S → lgC σ C M i ∧ lgR σ m C π i) ∧ ∀ i, i ≤ S → gdT (C i) M ∧ bEq M (C i) σ
theorem kLog_mono {σ m : qS} {C : Nat → qS} {π : Nat → Nat} {M S : Nat} (h : kLog σ m C π M S) : ∀ {i j : Nat}, i ≤ j → j ≤ S → π i ≤ π j := by
  intro i j hij
  induction j with
  | zero => intro _; obtain rfl : i = 0 := by omega
            exact Nat.le_refl _
  | succ j ih =>
    intro hj
    by_cases e : i = j + 1
    · subst e; exact Nat.le_refl _
    · have h1 := ih (by omega) (by omega)
      have h2 := (h.2.2.1 j (by omega)).2.2
      omega
/-- births alike in both -/
def kBr (σ m : qS) (M : Nat) : Prop := σ.1 1 0 5 = nI M ∧ m.1 0 0 7 = nI M ∧ bwf σ M ∧ 1 ≤ M ∧ M ≤ 80 ∧ ∀ k, k < 80 → k < M → m.1 100 0 k = σ.1 2 0 k ∧ m.1 101 0 k = σ.1 3 0 k ∧ m.1 102 0 k = σ.1 4 0 k ∧ m.1 104 0 k = σ.1 6 0 k ∧ (isHd σ k → m.1 103 0 k = σ.1 5 0 k)

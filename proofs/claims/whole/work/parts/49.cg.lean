/-! PURE: what changes do, place by place -/
section CG
variable {F : Nat}
theorem i1024 : 1024 ≤ 2 ^ 31 := by decide
theorem i80' : 80 ≤ 2 ^ 31 := by decide
theorem nI_l1024 {S : Nat} (h : S < 1024) : nI S < 1024 := (nI_lt' (b := 1024) (by omega) (by decide)).mpr h
/-- a node's birth -/
def brS (σ s : qS) (a M : Nat) (nm ch : Int32) : Prop := s.2 = σ.2 ∧ ∀ f j k, s.1 f j k = if j = 0 ∧ k = M ∧ f = 2 then σ.1 56 a 1 else if j = 0 ∧ k = M ∧ f = 3 then nm else if j = 0 ∧ k = M ∧ f = 4 then σ.1 56 a 5 else if j = 0 ∧ k = M ∧ f = 5 then σ.1 56 a 6 else if j = 0 ∧ k = M ∧ f = 6 then ch else if j = 0 ∧ k = 5 ∧ f = 1 then nI (M + 1) else σ.1 f j k
theorem e_birth {σ : qS} {a M : Nat} {nm ch : Int32} (hM : σ.1 1 0 5 = nI M) (h8 : M < 80) (ha : a < 1 + 6 * σ.2 0 0) : ∃ s', fX1_add F a nm ch σ = some s' ∧ brS σ s' a M nm ch := by
  unfold fX1_add fX1_add_78
  simp only [nm_x]
  rw [hM, if_neg (nle80 h8), gnl_pos ha, inx_nI h8 i80', ix_nI (by omega)]
  have e5 : ∀ (s : qS) (k' j : Nat) (v : Int32), k' ≠ 1 → (qI s k' 0 j v).1 1 0 5 = s.1 1 0 5 := fun s k' j v h => by rw [qI_ap, if_neg (fun h9 => h h9.1.symm)]
  have e56 : ∀ (s : qS) (k' j q : Nat) (v : Int32), k' ≠ 56 → (qI s k' 0 j v).1 56 a q = s.1 56 a q := fun s k' j q v h => by rw [qI_ap, if_neg (fun h9 => h h9.1.symm)]
  have eN : ∀ (s : qS) (k' j : Nat) (v : Int32), (qI s k' 0 j v).2 = s.2 := fun s k' j v => rfl
  simp only [e5 _ 2 _ _ (by decide), e5 _ 3 _ _ (by decide), e5 _ 4 _ _ (by decide), e5 _ 5 _ _ (by decide), e5 _ 6 _ _ (by decide), e56 _ 2 _ _ _ (by decide), e56 _ 3 _ _ _ (by decide), e56 _ 4 _ _ _ (by decide), eN, hM, gnl_pos ha, inx_nI h8 i80', ix_nI (show M < 2 ^ 31 by omega), nI_1]
  refine ⟨_, rfl, rfl, fun f j k => ?_⟩
  simp only [qI_ap]
  by_cases c1 : f = 1
  · subst c1; simp [and_comm]
  by_cases c2 : f = 2
  · subst c2; simp
  by_cases c3 : f = 3
  · subst c3; simp
  by_cases c4 : f = 4
  · subst c4; simp
  by_cases c5 : f = 5
  · subst c5; simp
  by_cases c6 : f = 6
  · subst c6; simp
  simp [c1, c2, c3, c4, c5, c6]
/-- a step in the log -/
def lgS (σ s : qS) (S : Nat) (ch kd n v : Int32) : Prop := s.2 = σ.2 ∧ ∀ f j k, s.1 f j k = if j = 0 ∧ k = S ∧ f = 10 then ch else if j = 0 ∧ k = S ∧ f = 11 then kd else if j = 0 ∧ k = S ∧ f = 12 then n else if j = 0 ∧ k = S ∧ f = 13 then v else if j = 0 ∧ k = 4 ∧ f = 9 then nI (S + 1) else σ.1 f j k
theorem e_logAdd {σ : qS} {S : Nat} {ch kd n v : Int32} (hS : σ.1 9 0 4 = nI S) (h8 : S < 1024) : ∃ s', fX3_add F ch kd n v σ = some (1, s') ∧ lgS σ s' S ch kd n v := by
  unfold fX3_add
  simp only [nm_x]
  rw [hS, if_pos (nI_l1024 h8), inx_nI h8 i1024, ix_nI (by omega)]
  have e5 : ∀ (s : qS) (k' j : Nat) (v : Int32), k' ≠ 9 → (qI s k' 0 j v).1 9 0 4 = s.1 9 0 4 := fun s k' j v h => by rw [qI_ap, if_neg (fun h9 => h h9.1.symm)]
  simp only [e5 _ 10 _ _ (by decide), e5 _ 11 _ _ (by decide), e5 _ 12 _ _ (by decide), e5 _ 13 _ _ (by decide), hS, inx_nI h8 i1024, ix_nI (show S < 2 ^ 31 by omega), nI_1, gbl_1]
  refine ⟨_, rfl, rfl, fun f j k => ?_⟩
  simp only [qI_ap]
  by_cases c1 : f = 9
  · subst c1; simp [and_comm]
  by_cases c2 : f = 10
  · subst c2; simp
  by_cases c3 : f = 11
  · subst c3; simp
  by_cases c4 : f = 12
  · subst c4; simp
  by_cases c5 : f = 13
  · subst c5; simp
  simp [c1, c2, c3, c4, c5]
/-- a step, written and done to the truth; rows to reckon in aside -/
def rcS (σ s : qS) (S L kd n : Nat) (v : Int32) : Prop := s.2 = σ.2 ∧ ∀ f j k, f ≠ 38 → f ≠ 39 → s.1 f j k = if j = 0 ∧ 31 ≤ f ∧ f ≤ 37 then apT σ 0 kd n v f k else if j = 0 ∧ k = S ∧ f = 10 then nI (L + 1) else if j = 0 ∧ k = S ∧ f = 11 then nI kd else if j = 0 ∧ k = S ∧ f = 12 then nI n else if j = 0 ∧ k = S ∧ f = 13 then v else if j = 0 ∧ k = 4 ∧ f = 9 then nI (S + 1) else σ.1 f j k
theorem apT_off {σ : qS} {i kd n : Nat} {v : Int32} {f k : Nat} (hk : kd ≤ 4) (h : f < 31 ∨ 37 < f) : apT σ i kd n v f k = σ.1 f i k := by
  obtain rfl | rfl | rfl | rfl | rfl : kd = 0 ∨ kd = 1 ∨ kd = 2 ∨ kd = 3 ∨ kd = 4 := by omega
  · rw [apT_0, if_neg (by omega), if_neg (by omega), if_neg (by omega), if_neg (by omega), if_neg (by omega)]
  · rw [apT_1, if_neg (by omega), if_neg (by omega)]
  · rw [apT_2, if_neg (by omega), if_neg (by omega)]
  · rw [apT_3, if_neg (by omega), if_neg (by omega)]
  · rw [apT_4, if_neg (by omega), if_neg (by omega)]
/-- what a step does hangs on births and the tree alone -/
theorem apT_same {σ s : qS} {i kd n : Nat} {v : Int32} {f k : Nat} (h2 : s.1 2 = σ.1 2) (h3 : s.1 3 = σ.1 3) (h : ∀ f, 31 ≤ f → f ≤ 37 → s.1 f = σ.1 f) (h31 : 31 ≤ f) (h37 : f ≤ 37) : apT s i kd n v f k = apT σ i kd n v f k := by
  have ep : parN s = parN σ := by
    funext q
    unfold parN
    rw [h2]
  have eg : ∀ dp, giv s i n dp k = giv σ i n dp k := fun dp => by
    unfold giv
    rw [ep, h 31 (by decide) (by decide)]
  unfold apT
  simp only [eg, ep, h3, h 31 (by decide) (by decide), h 33 (by decide) (by decide), h 34 (by decide) (by decide), h 35 (by decide) (by decide), h 36 (by decide) (by decide), h 37 (by decide) (by decide), h f h31 h37]
theorem e_record {σ : qS} {S L kd n : Nat} {v : Int32} (hS : σ.1 9 0 4 = nI S) (h8 : S < 1024) (hL : σ.1 0 0 15 = nI L) (hF : 100 ≤ F) (hn : n < 80) (hk : kd ≤ 4) (h1 : kd = 0 ∨ kd = 2 → ∃ q, q < n ∧ σ.1 2 0 n = nI q) (h2 : 3 ≤ kd → wfT σ 0 ∧ σ.1 31 0 n ≠ 0) : ∃ s', fX8_record F (nI kd) (nI n) v σ = some s' ∧ rcS σ s' S L kd n v := by
  unfold fX8_record fX8_record_29
  simp only [nm_x]
  obtain ⟨s1, g1, g2⟩ := e_logAdd (F := F) (ch := σ.1 0 0 15 + 1) (kd := nI kd) (n := nI n) (v := v) hS h8
  have same : ∀ f, f < 9 ∨ 13 < f → s1.1 f = σ.1 f := by
    intro f hf
    funext j k
    rw [g2.2, if_neg (by omega), if_neg (by omega), if_neg (by omega), if_neg (by omega), if_neg (by omega)]
  rw [g1, bnd2_s, if_neg (by decide)]
  obtain ⟨s', k1, k2⟩ := e_apply (F := F) (i := 0) (σ := s1) (v := v) hF (by decide) hn hk (fun h => by rw [same 2 (by omega)]; exact h1 h) (fun h => ⟨⟨by rw [same 31 (by omega)]; exact (h2 h).1.1, fun k a b c => by
    rw [same 31 (by omega)] at c ⊢
    rw [same 2 (by omega)]
    exact (h2 h).1.2 k a b c⟩, by rw [same 31 (by omega)]; exact (h2 h).2⟩)
  rw [k1, bnd_s]
  refine ⟨s', rfl, k2.1.trans g2.1, fun f j k f1 f2 => ?_⟩
  rw [k2.2 f j k f1 f2]
  by_cases c : j = 0
  · subst c
    rw [if_pos rfl]
    by_cases c2 : 31 ≤ f ∧ f ≤ 37
    · rw [if_pos ⟨rfl, c2.1, c2.2⟩]
      exact apT_same (same 2 (by omega)) (same 3 (by omega)) (fun f h3 h4 => same f (by omega)) c2.1 c2.2
    · rw [if_neg (fun h => c2 h.2), apT_off hk (by omega), g2.2, hL, nI_1]
  · rw [if_neg c, g2.2]
    simp only [c, false_and, if_false]
/-- begin of acts -/
def bgS (σ s : qS) : Prop := s.2 = σ.2 ∧ ∀ f j k, s.1 f j k = if f = 0 ∧ j = 0 ∧ k = 13 then σ.1 1 0 5 else if j = 3 ∧ 31 ≤ f ∧ f ≤ 37 ∧ k < 80 then σ.1 f 0 k else σ.1 f j k
theorem e_begin {σ : qS} (hF : 100 ≤ F) (hb : ∀ q, q < 80 → σ.1 31 0 q = 0 ∨ σ.1 31 0 q = 1) : ∃ s', fX8_begin F σ = some s' ∧ bgS σ s' := by
  unfold fX8_begin
  obtain ⟨s1, g1, g2⟩ := e_copyFrom (F := F) (i := 3) (j := 0) hF (by decide) (by decide) (by decide) hb
  rw [g1, bnd_s]
  simp only [nm_x]
  refine ⟨_, rfl, g2.1, fun f j k => ?_⟩
  rw [qI_ap, g2.2, g2.2, if_neg (c := (0 : Nat) = 3 ∧ _) (by omega)]
/-- acts taken back -/
def udS (σ s : qS) : Prop := s.2 = σ.2 ∧ ∀ f j k, s.1 f j k = if f = 9 ∧ j = 0 ∧ k = 4 then σ.1 8 0 2 else if f = 1 ∧ j = 0 ∧ k = 5 then σ.1 0 0 13 else if j = 0 ∧ 31 ≤ f ∧ f ≤ 37 ∧ k < 80 then σ.1 f 3 k else σ.1 f j k
theorem e_undo {σ : qS} (hF : 100 ≤ F) (hb : ∀ q, q < 80 → σ.1 31 3 q = 0 ∨ σ.1 31 3 q = 1) : ∃ s', fX8_undo F σ = some s' ∧ udS σ s' := by
  unfold fX8_undo
  obtain ⟨s1, g1, g2⟩ := e_copyFrom (F := F) (i := 0) (j := 3) hF (by decide) (by decide) (by decide) hb
  rw [g1, bnd_s]
  simp only [nm_x]
  have e0 : (0 : Int32).toNatClampNeg = 0 := by decide
  rw [inx_v (j := 0) (n := 3) (by rw [vp_in_iff]; decide), e0, gnl_pos (by decide)]
  refine ⟨_, rfl, g2.1, fun f j k => ?_⟩
  rw [qI_ap, qI_ap, qI_ap, g2.2, g2.2, g2.2, if_neg (c := (8 : Nat) = 1 ∧ _) (by omega), if_neg (c := (0 : Nat) = 0 ∧ 31 ≤ 8 ∧ _) (by omega), if_neg (c := (0 : Nat) = 0 ∧ 31 ≤ 0 ∧ _) (by omega)]
theorem e_commit0 {σ : qS} {S S0 : Nat} (hS : σ.1 9 0 4 = nI S) (h0 : σ.1 8 0 2 = nI S0) (h8 : S < 2 ^ 31) (h9 : S0 < 2 ^ 31) (h : S ≤ S0) : fX8_commit F σ = some σ := by
  unfold fX8_commit fX8_commit_50
  have e0 : (0 : Int32).toNatClampNeg = 0 := by decide
  simp only [nm_x]
  rw [inx_v (j := 0) (n := 3) (by rw [vp_in_iff]; decide), e0, gnl_pos (by decide), hS, h0, if_pos ((nI_le' h8 h9).mpr h)]
/-- what was done is a change -/
def cmS (σ : qS) (S L : Nat) : qS := qI (qI (qI σ 0 0 15 (nI (L + 1))) 8 0 1 (nI (L + 1))) 8 0 2 (nI S)
theorem e_commit1 {σ : qS} {S S0 L : Nat} (hS : σ.1 9 0 4 = nI S) (h0 : σ.1 8 0 2 = nI S0) (hL : σ.1 0 0 15 = nI L) (h8 : S < 2 ^ 31) (h9 : S0 < 2 ^ 31) (h : S0 < S) : fX8_commit F σ = some (cmS σ S L) := by
  unfold fX8_commit fX8_commit_50
  have e0 : (0 : Int32).toNatClampNeg = 0 := by decide
  simp only [nm_x]
  rw [inx_v (j := 0) (n := 3) (by rw [vp_in_iff]; decide), e0, gnl_pos (by decide), hS, h0, if_neg (fun h7 => by have := (nI_le' h8 h9).mp h7; omega), gnl_pos (by decide), gnl_pos (by decide), hL, nI_1]
  have e1 : (qI σ 0 0 15 (nI (L + 1))).1 0 0 15 = nI (L + 1) := by rw [qI_ap, if_pos ⟨rfl, rfl, rfl⟩]
  have e2 : (qI (qI σ 0 0 15 (nI (L + 1))) 8 0 1 (nI (L + 1))).1 9 0 4 = nI S := by rw [qI_ap, if_neg (by omega), qI_ap, if_neg (by omega), hS]
  rw [e1, e2]
  rfl
end CG

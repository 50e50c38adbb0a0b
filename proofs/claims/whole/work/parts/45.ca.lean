/-! PURE: steps done to a tree -/
section CA
variable {F i : Nat} {σ : qS}
/-- what rights are given to -/
abbrev giv (σ : qS) (i n : Nat) (dp : Int32) (q : Nat) : Prop := n ≤ q ∧ q < 80 ∧ (q = n ∨ dp ≠ 0 ∧ σ.1 31 i q ≠ 0 ∧ isB (parN σ) n 80 q = true)
def gvT (σ s : qS) (i n t : Nat) (v dp : Int32) : Prop := s.2 = σ.2 ∧ (∀ q, n ≤ q → q < t → s.1 39 i q = b2 (giv σ i n dp q)) ∧ ∀ k' i' q, k' ≠ 39 → s.1 k' i' q = if i' = i ∧ q < t ∧ giv σ i n dp q ∧ k' = 36 then v else if i' = i ∧ q < t ∧ giv σ i n dp q ∧ k' = 35 then σ.1 35 i q + 1 else σ.1 k' i' q
theorem gvT_rd {s : qS} {n t : Nat} {v dp : Int32} (h : gvT σ s i n t v dp) {k' : Nat} (h9 : k' ≠ 39) (h5 : k' ≠ 35) (h6 : k' ≠ 36) : s.1 k' = σ.1 k' := by
  funext i' q
  rw [h.2.2 k' i' q h9, if_neg (fun h => h6 h.2.2.2), if_neg (fun h => h5 h.2.2.2)]
theorem e_giveRights_l (hw : wfT σ i) {n : Nat} {v dp : Int32} (hi : i < 6) (hh : σ.1 31 i n ≠ 0) : ∀ (d t m : Nat) (s : qS), t + d = 80 → d < m → n ≤ t → gvT σ s i n t v dp → ∃ s', fX7_giveRights_3 F i m (nI n) v dp (nI t) s = some s' ∧ gvT σ s' i n 80 v dp := by
  intro d
  induction d with
  | zero =>
    intro t m s h hn h0 hs
    obtain ⟨m, rfl⟩ : ∃ k, m = k + 1 := ⟨m - 1, by omega⟩
    obtain rfl : t = 80 := by omega
    rw [fX7_giveRights_3, if_pos (le80 (by omega) (by omega))]
    exact ⟨s, rfl, hs⟩
  | succ d ih =>
    intro t m s h hn h0 hs
    obtain ⟨m, rfl⟩ : ∃ k, m = k + 1 := ⟨m - 1, by omega⟩
    have ht : t < 80 := by omega
    have hp := wfT_hp hw
    have e2 : s.1 2 = σ.1 2 := gvT_rd hs (by decide) (by decide) (by decide)
    have e31 : s.1 31 = σ.1 31 := gvT_rd hs (by decide) (by decide) (by decide)
    have yes : giv σ i n dp t → ∃ s', fX7_giveRights_64 F i (fX7_giveRights_3 F i m) (nI n) v dp (nI t) (nI t) s = some s' ∧ gvT σ s' i n 80 v dp := by
      intro c
      unfold fX7_giveRights_64 fX7_giveRights_69 fX7_giveRights_99
      simp only [inx_nI ht (show 80 ≤ 2 ^ 31 by decide), gbl_1, nm_x, ix_nI (show t < 2 ^ 31 by omega), ldi_nI ht (show 80 ≤ 2 ^ 31 by decide), nI_1]
      rw [if_neg (by rw [qI_ap, if_pos ⟨rfl, rfl, rfl⟩]; decide)]
      refine ih (t + 1) m _ (by omega) (by omega) (by omega) ⟨hs.1, fun q g1 g2 => ?_, fun k' i' q hk => ?_⟩
      · by_cases e : q = t
        · subst e
          rw [b2_t c]
          simp [qI_ap]
        · rw [← hs.2.1 q g1 (by omega)]
          simp [qI_ap, e]
      · by_cases a : i' = i ∧ q = t
        · obtain ⟨rfl, rfl⟩ := a
          have e35 : s.1 35 i' q = σ.1 35 i' q := by rw [hs.2.2 35 _ q (by decide), if_neg (by omega), if_neg (by omega)]
          have ek : s.1 k' i' q = σ.1 k' i' q := by rw [hs.2.2 k' _ q hk, if_neg (by omega), if_neg (by omega)]
          by_cases a5 : k' = 35
          · subst a5
            simp [qI_ap, c, e35]
          · by_cases a6 : k' = 36
            · subst a6
              simp [qI_ap, c]
            · simp [qI_ap, a5, a6, hk, ek]
        · have g9 : ¬ (i' = i ∧ q = t) := a
          simp only [qI_ap, g9, and_false, if_false, hs.2.2 k' i' q hk]
          by_cases a2 : i' = i
          · subst a2
            have g9 : q < t + 1 ↔ q < t := by omega
            simp only [g9]
          · simp only [a2, false_and, if_false]
    have no : ¬ giv σ i n dp t → ∃ s', fX7_giveRights_68 F i (fX7_giveRights_3 F i m) (nI n) v dp (nI t) (nI t) s = some s' ∧ gvT σ s' i n 80 v dp := by
      intro c
      unfold fX7_giveRights_68 fX7_giveRights_69 fX7_giveRights_99
      simp only [inx_nI ht (show 80 ≤ 2 ^ 31 by decide), gbl_0, nm_x, ix_nI (show t < 2 ^ 31 by omega), ldi_nI ht (show 80 ≤ 2 ^ 31 by decide), nI_1]
      rw [if_pos (by rw [qI_ap, if_pos ⟨rfl, rfl, rfl⟩])]
      refine ih (t + 1) m _ (by omega) (by omega) (by omega) ⟨hs.1, fun q g1 g2 => ?_, fun k' i' q hk => ?_⟩
      · by_cases e : q = t
        · subst e
          rw [b2_f c]
          simp [qI_ap]
        · rw [← hs.2.1 q g1 (by omega)]
          simp [qI_ap, e]
      · rw [qI_ap, if_neg (fun h => hk h.1), hs.2.2 k' i' q hk]
        by_cases a : q = t
        · subst a
          simp only [c, false_and, and_false, if_false]
        · have g9 : q < t + 1 ↔ q < t := by omega
          simp only [g9]
    rw [fX7_giveRights_3, if_neg (nle80 ht), ldi_nI ht (by decide), e2]
    by_cases c1 : t = n
    · subst c1
      rw [if_pos rfl]
      exact yes ⟨Nat.le_refl _, ht, Or.inl rfl⟩
    rw [if_neg (fun h => c1 (nI_inj (by omega) (by omega) h))]
    by_cases c2 : dp = 0
    · rw [if_pos c2]
      exact no (fun h => h.2.2.elim c1 (fun h => h.1 c2))
    rw [if_neg c2, ldi_nI ht (by decide), e31]
    by_cases c3 : σ.1 31 i t = 0
    · rw [if_pos c3]
      exact no (fun h => h.2.2.elim c1 (fun h => h.2.1 c3))
    obtain ⟨q, hq1, hq2, hq3⟩ := hw.2 t (by omega) ht c3
    have epq : parN σ t = q := by
      unfold parN
      rw [hq2, ix_nI (by omega)]
    have eup : isB (parN σ) n 80 t = isB (parN σ) n 80 q := by
      rw [isB_up hp ⟨ht, c3⟩ ht c1 (by omega), epq]
    rw [if_neg c3, hq2]
    by_cases c4 : q < n
    · rw [if_pos ((nI_lt' (by omega) (by omega)).mpr c4)]
      refine no (fun h => h.2.2.elim c1 (fun h => ?_))
      have h9 := h.2.2
      rw [eup, isB_lt hp q (by omega) ⟨by omega, hq3⟩ c4] at h9
      exact absurd h9 (by decide)
    rw [if_neg (fun h => c4 ((nI_lt' (by omega) (by omega)).mp h)), ldi_nI (by omega) (by decide), hs.2.1 q (by omega) hq1]
    have eg : giv σ i n dp q ↔ isB (parN σ) n 80 q = true := by
      constructor
      · intro h
        rcases h.2.2 with e | h
        · subst e; exact isB_t
        · exact h.2.2
      · intro h
        exact ⟨by omega, by omega, Or.inr ⟨c2, hq3, h⟩⟩
    by_cases c5 : giv σ i n dp q
    · rw [if_neg (fun h => b2_0.mp h c5)]
      exact yes ⟨h0, ht, Or.inr ⟨c2, c3, eup.trans (eg.mp c5)⟩⟩
    · rw [if_pos (b2_0.mpr c5)]
      exact no (fun h => h.2.2.elim c1 (fun h => c5 (eg.mpr (eup.symm.trans h.2.2))))
theorem e_giveRights (hw : wfT σ i) {n : Nat} {v dp : Int32} (hF : 100 ≤ F) (hi : i < 6) (hn : n < 80) (hh : σ.1 31 i n ≠ 0) : ∃ s', fX7_giveRights F i (nI n) v dp σ = some s' ∧ gvT σ s' i n 80 v dp := by
  unfold fX7_giveRights
  rw [gnl_pos hi]
  refine e_giveRights_l hw hi hh (80 - n) n F σ (by omega) (by omega) (Nat.le_refl _) ⟨rfl, fun q g1 g2 => by omega, fun k' i' q _ => ?_⟩
  rw [if_neg (fun h => by have := h.2.2.1.1; omega), if_neg (fun h => by have := h.2.2.1.1; omega)]
/-- a tree's rows after a step -/
def apT (σ : qS) (i kd n : Nat) (v : Int32) (f k : Nat) : Int32 :=
  if kd = 0 then (if k = n ∧ f = 31 then 1 else if k = n ∧ f = 32 then v else if k = n ∧ f = 36 then σ.1 36 i (parN σ n) else if k = parN σ n ∧ f = 34 then σ.1 34 i k + 1 else if k = parN σ n ∧ f = 37 ∧ ¬ σ.1 3 0 n < 1000 then σ.1 37 i k + 1 else σ.1 f i k)
  else if kd = 1 then (if k = n ∧ f = 32 then v else if k = n ∧ f = 33 then σ.1 33 i k + 1 else σ.1 f i k)
  else if kd = 2 then (if k = n ∧ f = 31 then 0 else if k = parN σ n ∧ f = 34 then σ.1 34 i k + 1 else σ.1 f i k)
  else if giv σ i n (if kd = 4 then 1 else 0) k ∧ f = 36 then v else if giv σ i n (if kd = 4 then 1 else 0) k ∧ f = 35 then σ.1 35 i k + 1 else σ.1 f i k
theorem apT_0 {n : Nat} {v : Int32} {f k : Nat} : apT σ i 0 n v f k = (if k = n ∧ f = 31 then 1 else if k = n ∧ f = 32 then v else if k = n ∧ f = 36 then σ.1 36 i (parN σ n) else if k = parN σ n ∧ f = 34 then σ.1 34 i k + 1 else if k = parN σ n ∧ f = 37 ∧ ¬ σ.1 3 0 n < 1000 then σ.1 37 i k + 1 else σ.1 f i k) := rfl
theorem apT_1 {n : Nat} {v : Int32} {f k : Nat} : apT σ i 1 n v f k = (if k = n ∧ f = 32 then v else if k = n ∧ f = 33 then σ.1 33 i k + 1 else σ.1 f i k) := rfl
theorem apT_2 {n : Nat} {v : Int32} {f k : Nat} : apT σ i 2 n v f k = (if k = n ∧ f = 31 then 0 else if k = parN σ n ∧ f = 34 then σ.1 34 i k + 1 else σ.1 f i k) := rfl
theorem apT_3 {n : Nat} {v : Int32} {f k : Nat} : apT σ i 3 n v f k = if giv σ i n 0 k ∧ f = 36 then v else if giv σ i n 0 k ∧ f = 35 then σ.1 35 i k + 1 else σ.1 f i k := rfl
theorem apT_4 {n : Nat} {v : Int32} {f k : Nat} : apT σ i 4 n v f k = if giv σ i n 1 k ∧ f = 36 then v else if giv σ i n 1 k ∧ f = 35 then σ.1 35 i k + 1 else σ.1 f i k := rfl
/-- one state is another but for tree i, rows to reckon in aside -/
def apS (σ s : qS) (i kd n : Nat) (v : Int32) : Prop := s.2 = σ.2 ∧ ∀ f j k, f ≠ 38 → f ≠ 39 → s.1 f j k = if j = i then apT σ i kd n v f k else σ.1 f j k
theorem e_apply {kd n : Nat} {v : Int32} (hF : 100 ≤ F) (hi : i < 6) (hn : n < 80) (hk : kd ≤ 4) (h1 : kd = 0 ∨ kd = 2 → ∃ q, q < n ∧ σ.1 2 0 n = nI q) (h2 : 3 ≤ kd → wfT σ i ∧ σ.1 31 i n ≠ 0) : ∃ s', fX7_apply F i (nI kd) (nI n) v σ = some s' ∧ apS σ s' i kd n v := by
  unfold fX7_apply
  rw [gnl_pos hi]
  have hn' : n < 2 ^ 31 := by omega
  have i80 : 80 ≤ 2 ^ 31 := by decide
  obtain rfl | rfl | rfl | rfl | rfl : kd = 0 ∨ kd = 1 ∨ kd = 2 ∨ kd = 3 ∨ kd = 4 := by omega
  · obtain ⟨q, hq, e⟩ := h1 (Or.inl rfl)
    have epq : parN σ n = q := by
      unfold parN
      rw [e, ix_nI (by omega)]
    rw [if_pos (by decide), ldi_nI hn i80, e]
    unfold fX7_appear fX7_appear_61 fX7_apply_110
    rw [gnl_pos hi]
    simp only [inx_nI hn i80, gbl_1, nm_x, ix_nI hn', ldi_nI (show q < 80 by omega) i80, inx_nI (show q < 80 by omega) i80, ix_nI (show q < 2 ^ 31 by omega), ldi_nI hn i80]
    have e3 : ∀ (s : qS) (k' j : Nat) (v : Int32), k' ≠ 3 → (qI s k' i j v).1 3 0 n = s.1 3 0 n := fun s k' j v h => by rw [qI_ap, if_neg (fun h9 => h h9.1.symm)]
    rw [e3 _ _ _ _ (by decide), e3 _ _ _ _ (by decide), e3 _ _ _ _ (by decide), e3 _ _ _ _ (by decide)]
    have hqn : q ≠ n := by omega
    by_cases c : σ.1 3 0 n < 1000
    · rw [if_pos c, bnd_s]
      refine ⟨_, rfl, rfl, fun f j k f1 f2 => ?_⟩
      rw [apT_0, epq]
      simp only [qI_ap]
      by_cases a : j = i
      · subst a
        by_cases b : k = n
        · subst b
          have hnq : k ≠ q := by omega
          simp only [c, not_true, and_false, and_true, true_and, if_false, hnq, hqn, false_and]
          by_cases g1 : f = 31
          · subst g1; simp
          by_cases g2 : f = 32
          · subst g2; simp
          by_cases g3 : f = 36
          · subst g3; simp
          simp [g1, g2, g3]
        · by_cases b2 : k = q
          · subst b2
            by_cases g1 : f = 34
            · subst g1; simp [b, c]
            · simp [b, c, g1]
          · simp [b, b2]
      · simp [a]
    · rw [if_neg c, bnd_s]
      refine ⟨_, rfl, rfl, fun f j k f1 f2 => ?_⟩
      rw [apT_0, epq]
      simp only [qI_ap]
      by_cases a : j = i
      · subst a
        by_cases b : k = n
        · subst b
          have hnq : k ≠ q := by omega
          simp only [c, not_true, and_false, and_true, true_and, if_false, hnq, hqn, false_and]
          by_cases g1 : f = 31
          · subst g1; simp
          by_cases g2 : f = 32
          · subst g2; simp
          by_cases g3 : f = 36
          · subst g3; simp
          simp [g1, g2, g3]
        · by_cases b2 : k = q
          · subst b2
            by_cases g1 : f = 34
            · subst g1; simp [b, c]
            · by_cases g2 : f = 37
              · subst g2; simp [b, c]
              · simp [b, c, g1, g2]
          · simp [b, b2]
      · simp [a]
  · rw [if_neg (by decide), if_pos (by decide)]
    unfold fX7_apply_110
    simp only [inx_nI hn i80, nm_x, ix_nI hn', ldi_nI hn i80]
    refine ⟨_, rfl, rfl, fun f j k f1 f2 => ?_⟩
    rw [apT_1]
    simp only [qI_ap]
    by_cases a : j = i
    · subst a
      by_cases b : k = n
      · subst b
        by_cases g1 : f = 32
        · subst g1; simp
        by_cases g2 : f = 33
        · subst g2; simp
        simp [g1, g2]
      · simp [b]
    · simp [a]
  · obtain ⟨q, hq, e⟩ := h1 (Or.inr rfl)
    have epq : parN σ n = q := by
      unfold parN
      rw [e, ix_nI (by omega)]
    have hqn : q ≠ n := by omega
    rw [if_neg (by decide), if_neg (by decide), if_pos (by decide)]
    unfold fX7_apply_110
    have e2 : (qI σ 31 i n 0).1 2 0 n = nI q := by rw [qI_ap, if_neg (by omega), e]
    simp only [inx_nI hn i80, nm_x, gbl_0, ix_nI hn', ldi_nI hn i80, e2, ldi_nI (show q < 80 by omega) i80, inx_nI (show q < 80 by omega) i80, ix_nI (show q < 2 ^ 31 by omega)]
    refine ⟨_, rfl, rfl, fun f j k f1 f2 => ?_⟩
    rw [apT_2, epq]
    simp only [qI_ap]
    by_cases a : j = i
    · subst a
      by_cases b : k = n
      · subst b
        have hnq : k ≠ q := by omega
        by_cases g1 : f = 31
        · subst g1; simp
        simp [g1, hnq]
      · by_cases b2 : k = q
        · subst b2
          by_cases g1 : f = 34
          · subst g1; simp [b]
          · simp [b, g1]
        · simp [b, b2]
    · simp [a]
  · obtain ⟨hw, hh⟩ := h2 (by omega)
    rw [if_neg (by decide), if_neg (by decide), if_neg (by decide), if_neg (by decide)]
    unfold fX7_apply_107 fX7_apply_110
    obtain ⟨s', g1, g2⟩ := e_giveRights (v := v) (dp := 0) hw hF hi hn hh
    rw [g1, bnd_s]
    refine ⟨s', rfl, g2.1, fun f j k f1 f2 => ?_⟩
    rw [g2.2.2 f j k f2]
    rw [apT_3]
    by_cases a : j = i
    · subst a
      by_cases b : giv σ j n 0 k
      · have hk80 := b.2.1
        simp [b, hk80]
      · simp [b]
    · simp [a]
  · obtain ⟨hw, hh⟩ := h2 (by omega)
    rw [if_neg (by decide), if_neg (by decide), if_neg (by decide), if_pos (by decide)]
    unfold fX7_apply_107 fX7_apply_110
    obtain ⟨s', g1, g2⟩ := e_giveRights (v := v) (dp := 1) hw hF hi hn hh
    rw [g1, bnd_s]
    refine ⟨s', rfl, g2.1, fun f j k f1 f2 => ?_⟩
    rw [g2.2.2 f j k f2]
    rw [apT_4]
    by_cases a : j = i
    · subst a
      by_cases b : giv σ j n 1 k
      · have hk80 := b.2.1
        simp [b, hk80]
      · simp [b]
    · simp [a]
end CA

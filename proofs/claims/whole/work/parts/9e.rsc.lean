/-! PURE: restore, in the class -/
section RC9
variable {F : Nat}
/-- one number of many rows is set, up to t -/
def rsZ (σ s : qS) (f k t : Nat) : Prop := s.2 = σ.2 ∧ ∀ f' j q, s.1 f' j q = if f' = f ∧ q = k ∧ j < t then 1 else σ.1 f' j q
theorem rsZ_n {σ s : qS} {f k t : Nat} (h : rsZ σ s f k t) : rsZ σ (qI s f t k 1) f k (t + 1) := ⟨h.1, fun f' j q => by
  rw [qI_ap, h.2]
  by_cases c1 : f' = f ∧ j = t ∧ q = k
  · rw [if_pos c1, if_pos ⟨c1.1, c1.2.2, by omega⟩]
  · rw [if_neg c1]
    by_cases c2 : f' = f ∧ q = k ∧ j < t
    · rw [if_pos c2, if_pos ⟨c2.1, c2.2.1, by omega⟩]
    · rw [if_neg c2, if_neg (fun w => by
        by_cases e : j = t
        · exact c1 ⟨w.1, e, w.2.1⟩
        · exact c2 ⟨w.1, w.2.1, by omega⟩)]⟩
theorem rsZ_0 {σ : qS} {f k : Nat} : rsZ σ σ f k 0 := ⟨rfl, fun f' j q => by rw [if_neg (by omega)]⟩
theorem e_r38 {σ : qS} (hZ : σ.2 0 0 ≤ 10) : ∀ (d t n : Nat) (s : qS), t + d = σ.2 0 0 → d < n → rsZ σ s 50 15 t → ∃ s', fX8_restore_38 F n (nI t) s = fX8_restore_72 F F 0 s' ∧ rsZ σ s' 50 15 (σ.2 0 0) := by
  intro d
  induction d with
  | zero =>
    intro t n s h hn hs
    obtain ⟨n, rfl⟩ : ∃ z, n = z + 1 := ⟨n - 1, by omega⟩
    obtain rfl : t = σ.2 0 0 := by omega
    rw [fX8_restore_38, nm_x, hs.1, if_pos (Int32.le_refl _)]
    exact ⟨s, rfl, hs⟩
  | succ d ih =>
    intro t n s h hn hs
    obtain ⟨n, rfl⟩ : ∃ z, n = z + 1 := ⟨n - 1, by omega⟩
    rw [fX8_restore_38, nm_x, hs.1, if_neg (fun w => by have := (nI_le' (by omega) (by omega)).mp w; omega), gnl_pos (by omega), inx_nI (show t < σ.2 0 0 by omega) (by omega), nm_x, ix_nI (by omega), gnl_pos (show t < σ.2 0 0 by omega), gnl_pos (show t < σ.2 0 0 by omega), gbl_1, nm_x, nm_x, nI_1]
    exact ih (t + 1) n _ (by omega) (by omega) (rsZ_n hs)
theorem e_r72 {σ : qS} (hY : σ.2 1 0 ≤ 10) : ∀ (d t n : Nat) (s : qS), t + d = σ.2 1 0 → d < n → rsZ σ s 57 2 t → ∃ s', fX8_restore_72 F n (nI t) s = (bnd (fX7_copyFrom F 4 5 s') fun s12 => (bnd (fX7_dropHeld F 4 s12) fun s13 => fX8_restore_132 F F 0 (qI s13 9 0 4 0))) ∧ rsZ σ s' 57 2 (σ.2 1 0) := by
  intro d
  induction d with
  | zero =>
    intro t n s h hn hs
    obtain ⟨n, rfl⟩ : ∃ z, n = z + 1 := ⟨n - 1, by omega⟩
    obtain rfl : t = σ.2 1 0 := by omega
    rw [fX8_restore_72, nm_x, hs.1, if_pos (Int32.le_refl _)]
    exact ⟨s, rfl, hs⟩
  | succ d ih =>
    intro t n s h hn hs
    obtain ⟨n, rfl⟩ : ∃ z, n = z + 1 := ⟨n - 1, by omega⟩
    rw [fX8_restore_72, nm_x, hs.1, if_neg (fun w => by have := (nI_le' (by omega) (by omega)).mp w; omega), gnl_pos (by omega), inx_nI (show t < σ.2 1 0 by omega) (by omega), nm_x, ix_nI (by omega), gnl_pos (show t < σ.2 1 0 by omega), gnl_pos (show t < σ.2 1 0 by omega), gbl_1, nm_x, nm_x, nI_1]
    exact ih (t + 1) n _ (by omega) (by omega) (rsZ_n hs)
/-- servers start anew, up to t -/
def rvS (σ s : qS) (X : Int32) (t : Nat) : Prop := s.2 = σ.2 ∧ ∀ f j k, s.1 f j k = if f = 8 ∧ j < t ∧ k = 1 then X else if f = 8 ∧ j < t ∧ k = 2 then 0 else if 31 ≤ f ∧ f ≤ 37 ∧ j < t ∧ k < 80 then σ.1 f 4 k else σ.1 f j k
theorem e_r132 {σ : qS} {X : Int32} (hF : 100 ≤ F) (h15 : σ.1 0 0 15 = X) (hb : ∀ q, q < 80 → σ.1 31 4 q = 0 ∨ σ.1 31 4 q = 1) : ∀ (d t n : Nat) (s : qS), t + d = 3 → d < n → rvS σ s X t → ∃ s', fX8_restore_132 F n (nI t) s = some (X, 0, s') ∧ rvS σ s' X 3 := by
  intro d
  induction d with
  | zero =>
    intro t n s h hn hs
    obtain ⟨n, rfl⟩ : ∃ z, n = z + 1 := ⟨n - 1, by omega⟩
    obtain rfl : t = 3 := by omega
    rw [fX8_restore_132, if_pos (by decide), nm_x]
    refine ⟨s, ?_, hs⟩
    rw [show s.1 0 0 15 = X from by rw [hs.2, if_neg (by omega), if_neg (by omega), if_neg (by omega)]; exact h15]
  | succ d ih =>
    intro t n s h hn hs
    obtain ⟨n, rfl⟩ : ∃ z, n = z + 1 := ⟨n - 1, by omega⟩
    have ht3 : t < 3 := by omega
    have h4 : ∀ f q, s.1 f 4 q = σ.1 f 4 q := fun f q => by rw [hs.2, if_neg (by omega), if_neg (by omega), if_neg (by omega)]
    obtain ⟨s1, c1, c2⟩ := e_copyFrom (F := F) (i := t) (j := 4) (σ := s) hF (by omega) (by decide) (by omega) (fun q hq => by rw [h4]; exact hb q hq)
    rw [fX8_restore_132, if_neg (show ¬ (3 : Int32) ≤ nI t from nI_ge (b := 3) ht3 (by decide)), inx_nI ht3 (by decide), nm_x, ix_nI (by omega), gnl_pos ht3, gnl_pos (show t < 6 by omega), c1, bnd_s, inx_nI ht3 (by decide), nm_x, nm_x, gnl_pos ht3, nm_x, inx_nI ht3 (by decide), nm_x, gnl_pos ht3, nm_x, nm_x, nI_1]
    have e15 : s1.1 0 0 15 = X := by rw [c2.2, if_neg (by omega), hs.2, if_neg (by omega), if_neg (by omega), if_neg (by omega)]; exact h15
    rw [e15]
    refine ih (t + 1) n _ (by omega) (by omega) ⟨c2.1.trans hs.1, fun f j k => ?_⟩
    rw [qI_ap, qI_ap, c2.2]
    by_cases a1 : f = 8 ∧ j < t + 1 ∧ k = 1
    · rw [if_neg (by omega), if_pos a1]
      by_cases e : j = t
      · rw [if_pos ⟨a1.1, e, a1.2.2⟩]
      · rw [if_neg (by omega), if_neg (by omega), hs.2, if_pos ⟨a1.1, by omega, a1.2.2⟩]
    · rw [if_neg a1]
      by_cases a2 : f = 8 ∧ j < t + 1 ∧ k = 2
      · rw [if_pos a2]
        by_cases e : j = t
        · rw [if_pos ⟨a2.1, e, a2.2.2⟩]
        · rw [if_neg (by omega), if_neg (by omega), if_neg (by omega), hs.2, if_neg (by omega), if_pos ⟨a2.1, by omega, a2.2.2⟩]
      · rw [if_neg a2, if_neg (by omega), if_neg (by omega)]
        by_cases a3 : 31 ≤ f ∧ f ≤ 37 ∧ j < t + 1 ∧ k < 80
        · rw [if_pos a3]
          by_cases e : j = t
          · rw [if_pos ⟨e, a3.1, a3.2.1, a3.2.2.2⟩, h4]
          · rw [if_neg (by omega), hs.2, if_neg (by omega), if_neg (by omega), if_pos ⟨a3.1, a3.2.1, by omega, a3.2.2.2⟩]
        · rw [if_neg a3, if_neg (by omega), hs.2, if_neg (by omega), if_neg (by omega), if_neg (by omega)]
/-- the tree that a restore gives -/
def dS (σ : qS) (f k : Nat) : Int32 := if f = 31 ∧ 1 ≤ k ∧ isHd σ k then 0 else σ.1 f 5 k
def rC (σ s : qS) (X : Int32) : Prop := s.2 = σ.2 ∧ ∀ f j k, s.1 f j k = if f = 8 ∧ j < 3 ∧ k = 1 then X else if f = 8 ∧ j < 3 ∧ k = 2 then 0 else if 31 ≤ f ∧ f ≤ 37 ∧ j < 3 ∧ k < 80 then dS σ f k else if f = 9 ∧ j = 0 ∧ k = 4 then 0 else if 31 ≤ f ∧ f ≤ 37 ∧ j = 4 ∧ k < 80 then dS σ f k else if f = 57 ∧ k = 2 ∧ j < σ.2 1 0 then 1 else if f = 50 ∧ k = 15 ∧ j < σ.2 0 0 then 1 else if f = 0 ∧ j = 0 ∧ k = 16 then X else if f = 0 ∧ j = 0 ∧ k = 15 then X else σ.1 f j k
theorem e_restoreC {σ : qS} {L : Nat} (hF : 100 ≤ F) (h12 : σ.1 0 0 12 = 1) (h15 : σ.1 0 0 15 = nI L) (hZ : σ.2 0 0 ≤ 10) (hY : σ.2 1 0 ≤ 10) (hb : ∀ q, q < 80 → σ.1 31 5 q = 0 ∨ σ.1 31 5 q = 1) : ∃ s', fX8_restore F σ = some (nI (L + 1), 0, s') ∧ rC σ s' (nI (L + 1)) := by
  unfold fX8_restore
  rw [nm_x, h12, if_neg (show ¬ (1 : Int32) = 0 by decide), nm_x, nm_x, nm_x, h15, nI_1, nm_x, nm_x]
  have e6 : (qI σ 0 0 15 (nI (L + 1))).1 0 0 15 = nI (L + 1) := by rw [qI_ap, if_pos ⟨rfl, rfl, rfl⟩]
  rw [e6]
  obtain ⟨s1, a1, a2⟩ := e_r38 (F := F) (σ := qI (qI σ 0 0 15 (nI (L + 1))) 0 0 16 (nI (L + 1))) hZ (σ.2 0 0) 0 F _ (Nat.zero_add _) (by omega) rsZ_0
  rw [show fX8_restore_38 F F 0 (qI (qI σ 0 0 15 (nI (L + 1))) 0 0 16 (nI (L + 1))) = _ from a1]
  have aN : s1.2 = σ.2 := a2.1
  obtain ⟨s2, b1, b2⟩ := e_r72 (F := F) (σ := s1) (by rw [aN]; exact hY) (s1.2 1 0) 0 F s1 (Nat.zero_add _) (by rw [aN]; omega) rsZ_0
  rw [show fX8_restore_72 F F 0 s1 = _ from b1]
  have e2 : ∀ f j k, s2.1 f j k = if f = 57 ∧ k = 2 ∧ j < σ.2 1 0 then 1 else if f = 50 ∧ k = 15 ∧ j < σ.2 0 0 then 1 else if f = 0 ∧ j = 0 ∧ k = 16 then nI (L + 1) else if f = 0 ∧ j = 0 ∧ k = 15 then nI (L + 1) else σ.1 f j k := fun f j k => by
    rw [b2.2, aN, a2.2, qI_ap, qI_ap]
    rfl
  have u2 : ∀ f j k, ¬ (f = 0 ∧ j = 0) → f ≠ 50 → f ≠ 57 → s2.1 f j k = σ.1 f j k := fun f j k w1 w2 w3 => by
    rw [e2, if_neg (by omega), if_neg (by omega), if_neg (by omega), if_neg (by omega)]
  obtain ⟨s3, c1, c2⟩ := e_copyFrom (F := F) (i := 4) (j := 5) (σ := s2) hF (by decide) (by decide) (by decide) (fun q hq => by rw [u2 31 5 q (by omega) (by omega) (by omega)]; exact hb q hq)
  rw [c1, bnd_s]
  obtain ⟨s4, d1, d2⟩ := e_dropHeld (F := F) (i := 4) (σ := s3) hF (by decide)
  rw [d1, bnd_s]
  have hN4 : s4.2 = σ.2 := d2.1.trans (c2.1.trans (b2.1.trans aN))
  have hd : ∀ k, isHd s3 k ↔ isHd σ k := fun k => by
    unfold isHd
    rw [c2.2, if_neg (by omega), u2 4 0 k (by omega) (by omega) (by omega)]
  have t4 : ∀ f k, 31 ≤ f → f ≤ 37 → k < 80 → s4.1 f 4 k = dS σ f k := fun f k w1 w2 w3 => by
    unfold dS
    rw [d2.2]
    by_cases q : f = 31 ∧ 1 ≤ k ∧ isHd σ k
    · rw [if_pos q, if_pos ⟨rfl, q.1, q.2.1, w3, (hd k).mpr q.2.2⟩]
    · rw [if_neg q, if_neg (fun w => q ⟨w.2.1, w.2.2.1, (hd k).mp w.2.2.2.2⟩), c2.2, if_pos ⟨rfl, w1, w2, w3⟩, u2 f 5 k (by omega) (by omega) (by omega)]
  have o4 : ∀ f j k, ¬ (31 ≤ f ∧ f ≤ 37 ∧ j = 4 ∧ k < 80) → s4.1 f j k = s2.1 f j k := fun f j k w => by
    rw [d2.2, if_neg (fun q => w ⟨by omega, by omega, q.1, q.2.2.2.1⟩), c2.2, if_neg (by omega)]
  obtain ⟨s5, f1, f2⟩ := e_r132 (F := F) (σ := qI s4 9 0 4 0) (X := nI (L + 1)) hF (by rw [qI_ap, if_neg (by omega), o4 0 0 15 (by omega), e2, if_neg (by omega), if_neg (by omega), if_neg (by omega), if_pos ⟨rfl, rfl, rfl⟩]) (fun q hq => by
    rw [qI_ap, if_neg (by omega), t4 31 q (by decide) (by decide) hq]
    unfold dS
    split
    · exact Or.inl rfl
    · exact hb q hq) 3 0 F (qI s4 9 0 4 0) rfl (by omega) ⟨rfl, fun f j k => by rw [if_neg (by omega), if_neg (by omega), if_neg (by omega)]⟩
  refine ⟨s5, f1, f2.1.trans hN4, fun f j k => ?_⟩
  rw [f2.2]
  by_cases q1 : f = 8 ∧ j < 3 ∧ k = 1
  · rw [if_pos q1, if_pos q1]
  rw [if_neg q1, if_neg q1]
  by_cases q2 : f = 8 ∧ j < 3 ∧ k = 2
  · rw [if_pos q2, if_pos q2]
  rw [if_neg q2, if_neg q2]
  by_cases q3 : 31 ≤ f ∧ f ≤ 37 ∧ j < 3 ∧ k < 80
  · rw [if_pos q3, if_pos q3, qI_ap, if_neg (by omega), t4 f k q3.1 q3.2.1 q3.2.2.2]
  rw [if_neg q3, if_neg q3, qI_ap]
  by_cases q4 : f = 9 ∧ j = 0 ∧ k = 4
  · rw [if_pos q4, if_pos q4]
  rw [if_neg q4, if_neg q4]
  by_cases q5 : 31 ≤ f ∧ f ≤ 37 ∧ j = 4 ∧ k < 80
  · obtain ⟨w1, w2, rfl, w3⟩ := q5
    rw [if_pos ⟨w1, w2, rfl, w3⟩, t4 f k w1 w2 w3]
  rw [if_neg q5, o4 f j k q5, e2]
end RC9

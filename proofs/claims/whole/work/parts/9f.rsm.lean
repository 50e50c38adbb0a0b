/-! PURE: restore, in the reference -/
section RM9
variable {F : Nat}
/-- nodes get back their rows, up to t -/
def rsM (m s c : qS) (R t : Nat) (X : Int32) : Prop := s.2 = m.2 ∧ s.1 0 0 25 = nI (R + cntN (fun k => c.1 31 0 k ≠ 0) 0 t) ∧ (∀ k, k < t → s.1 108 0 k = c.1 31 0 k ∧ (c.1 31 0 k ≠ 0 → s.1 105 0 k = m.1 115 0 k ∧ s.1 121 0 (R + cntN (fun k => c.1 31 0 k ≠ 0) 0 k) = 5 ∧ s.1 122 0 (R + cntN (fun k => c.1 31 0 k ≠ 0) 0 k) = nI k ∧ s.1 123 0 (R + cntN (fun k => c.1 31 0 k ≠ 0) 0 k) = m.1 109 0 k)) ∧ (∀ q, R ≤ q → q < R + cntN (fun k => c.1 31 0 k ≠ 0) 0 t → s.1 120 0 q = X) ∧ ∀ f j q, ¬ (f = 108 ∧ j = 0 ∧ q < t) → ¬ (f = 105 ∧ j = 0 ∧ q < t) → ¬ (120 ≤ f ∧ f ≤ 124 ∧ j = 0 ∧ R ≤ q) → ¬ (f = 0 ∧ j = 0 ∧ q = 25) → s.1 f j q = m.1 f j q
theorem e_r98 {m s c : qS} {R t n : Nat} {X : Int32} (ht : t < 80) (h27 : m.1 0 0 27 = X) (hR : R + 80 ≤ 90000) (hs : rsM m s c R t X) (h01 : c.1 31 0 t = 0 ∨ c.1 31 0 t = 1) : ∃ s', fX9_restore_98 F (fX9_restore_55 F n) (nI t) (nI t) (c.1 31 0 t) s = fX9_restore_55 F n (nI (t + 1)) s' ∧ rsM m s' c R (t + 1) X := by
  obtain ⟨a1, a2, a3, a4, a5⟩ := hs
  have hct : cntN (fun k => c.1 31 0 k ≠ 0) 0 t ≤ t := cntN_le
  have hmo : ∀ k, k < t → c.1 31 0 k ≠ 0 → cntN (fun k => c.1 31 0 k ≠ 0) 0 k < cntN (fun k => c.1 31 0 k ≠ 0) 0 t := fun k k1 k2 => by
    have e := cntN_split (p := fun k => c.1 31 0 k ≠ 0) (t := 0) (d := k) (e := t - k)
    rw [show k + (t - k) = t by omega, Nat.zero_add, show t - k = (t - k - 1) + 1 by omega, cntN_s, if_pos k2] at e
    omega
  unfold fX9_restore_98
  rw [inx_nI (show t < 400 by omega) (by decide), ix_nI (by omega), nm_x, ldi_nI (show t < 400 by omega) (by decide)]
  have e8 : (qI s 108 0 t (c.1 31 0 t)).1 108 0 t = c.1 31 0 t := by rw [qI_ap, if_pos ⟨rfl, rfl, rfl⟩]
  rw [e8]
  have ecnt : cntN (fun k => c.1 31 0 k ≠ 0) 0 (t + 1) = cntN (fun k => c.1 31 0 k ≠ 0) 0 t + (if c.1 31 0 t ≠ 0 then 1 else 0) := by rw [cntN_1, Nat.zero_add]
  rcases h01 with q | q
  · rw [if_neg (show ¬ c.1 31 0 t = 1 from by rw [q]; decide), ldi_nI ht (by decide)]
    unfold fX9_restore_129
    rw [inx_nI ht (by decide), ix_nI (by omega), nm_x, ldi_nI (show t < 400 by omega) (by decide)]
    have e9 : (qI (qI s 108 0 t (c.1 31 0 t)) 105 0 t ((qI s 108 0 t (c.1 31 0 t)).1 105 0 t)).1 108 0 t = c.1 31 0 t := by rw [qI_ap, if_neg (by omega)]; exact e8
    rw [e9, if_neg (show ¬ c.1 31 0 t = 1 from by rw [q]; decide)]
    unfold fX9_restore_153
    rw [nm_x, nI_1]
    have en : cntN (fun k => c.1 31 0 k ≠ 0) 0 (t + 1) = cntN (fun k => c.1 31 0 k ≠ 0) 0 t := by rw [ecnt, if_neg (fun w => w q), Nat.add_zero]
    refine ⟨_, rfl, a1, ?_, fun k hk => ?_, fun x x1 x2 => ?_, fun f j x w1 w2 w3 w4 => ?_⟩
    · rw [en, qI_ap, if_neg (by omega), qI_ap, if_neg (by omega)]
      exact a2
    · by_cases e : k = t
      · subst e
        exact ⟨e9, fun w => absurd q w⟩
      · obtain ⟨b1, b2⟩ := a3 k (by omega)
        refine ⟨by rw [qI_ap, if_neg (by omega), qI_ap, if_neg (by omega)]; exact b1, fun w => ?_⟩
        obtain ⟨b3, b4, b5, b6⟩ := b2 w
        rw [qI_ap, if_neg (by omega), qI_ap, if_neg (by omega), qI_ap, if_neg (by omega), qI_ap, if_neg (by omega), qI_ap, if_neg (by omega), qI_ap, if_neg (by omega), qI_ap, if_neg (by omega), qI_ap, if_neg (by omega)]
        exact ⟨b3, b4, b5, b6⟩
    · rw [en] at x2
      rw [qI_ap, if_neg (by omega), qI_ap, if_neg (by omega)]
      exact a4 x x1 x2
    · rw [qI_ap, if_neg (by omega), qI_ap, if_neg (by omega)]
      exact a5 f j x (by omega) (by omega) w3 w4
  · have hne : c.1 31 0 t ≠ 0 := by rw [q]; decide
    rw [if_pos q, ldi_nI ht (by decide)]
    unfold fX9_restore_129
    rw [inx_nI ht (by decide), ix_nI (by omega), nm_x, ldi_nI (show t < 400 by omega) (by decide)]
    have e9 : (qI (qI s 108 0 t (c.1 31 0 t)) 105 0 t ((qI s 108 0 t (c.1 31 0 t)).1 115 0 t)).1 108 0 t = c.1 31 0 t := by rw [qI_ap, if_neg (by omega)]; exact e8
    rw [e9, if_pos q, ldi_nI (show t < 400 by omega) (by decide)]
    have e15 : (qI s 108 0 t (c.1 31 0 t)).1 115 0 t = m.1 115 0 t := by rw [qI_ap, if_neg (by omega)]; exact a5 115 0 t (by omega) (by omega) (by omega) (by omega)
    rw [e15]
    have e19 : (qI (qI s 108 0 t (c.1 31 0 t)) 105 0 t (m.1 115 0 t)).1 109 0 t = m.1 109 0 t := by rw [qI_ap, if_neg (by omega), qI_ap, if_neg (by omega)]; exact a5 109 0 t (by omega) (by omega) (by omega) (by omega)
    rw [e19]
    have e25 : (qI (qI s 108 0 t (c.1 31 0 t)) 105 0 t (m.1 115 0 t)).1 0 0 25 = nI (R + cntN (fun k => c.1 31 0 k ≠ 0) 0 t) := by rw [qI_ap, if_neg (by omega), qI_ap, if_neg (by omega)]; exact a2
    have e27 : (qI (qI s 108 0 t (c.1 31 0 t)) 105 0 t (m.1 115 0 t)).1 0 0 27 = X := by rw [qI_ap, if_neg (by omega), qI_ap, if_neg (by omega), a5 0 0 27 (by omega) (by omega) (by omega) (by omega)]; exact h27
    obtain ⟨s2, l1, l2⟩ := e_log (F := F) (kd := 5) (n := nI t) (v := m.1 109 0 t) (w := 0) e25 (by omega)
    rw [l1, bnd_s]
    unfold fX9_restore_153
    rw [nm_x, nI_1]
    have en : cntN (fun k => c.1 31 0 k ≠ 0) 0 (t + 1) = cntN (fun k => c.1 31 0 k ≠ 0) 0 t + 1 := by rw [ecnt, if_pos hne]
    have o : ∀ f j x, ¬ (120 ≤ f ∧ f ≤ 124 ∧ j = 0 ∧ x = R + cntN (fun k => c.1 31 0 k ≠ 0) 0 t) → ¬ (f = 0 ∧ j = 0 ∧ x = 25) → ¬ (f = 108 ∧ j = 0 ∧ x = t) → ¬ (f = 105 ∧ j = 0 ∧ x = t) → s2.1 f j x = s.1 f j x := fun f j x w1 w2 w3 w4 => by
      rw [l2.2, if_neg (by omega), if_neg (by omega), if_neg (by omega), if_neg (by omega), if_neg (by omega), if_neg (by omega), qI_ap, if_neg w4, qI_ap, if_neg w3]
    refine ⟨s2, rfl, l2.1.trans a1, ?_, fun k hk => ?_, fun x x1 x2 => ?_, fun f j x w1 w2 w3 w4 => ?_⟩
    · rw [en, l2.2, if_neg (by omega), if_neg (by omega), if_neg (by omega), if_neg (by omega), if_neg (by omega), if_pos ⟨rfl, rfl, rfl⟩, Nat.add_assoc]
    · by_cases e : k = t
      · subst e
        refine ⟨?_, fun _ => ⟨?_, ?_, ?_, ?_⟩⟩
        · rw [l2.2, if_neg (by omega), if_neg (by omega), if_neg (by omega), if_neg (by omega), if_neg (by omega), if_neg (by omega), qI_ap, if_neg (by omega)]
          exact e8
        · rw [l2.2, if_neg (by omega), if_neg (by omega), if_neg (by omega), if_neg (by omega), if_neg (by omega), if_neg (by omega), qI_ap, if_pos ⟨rfl, rfl, rfl⟩]
        · rw [l2.2, if_neg (by omega), if_pos ⟨rfl, rfl, rfl⟩]
        · rw [l2.2, if_neg (by omega), if_neg (by omega), if_pos ⟨rfl, rfl, rfl⟩]
        · rw [l2.2, if_neg (by omega), if_neg (by omega), if_neg (by omega), if_pos ⟨rfl, rfl, rfl⟩]
      · obtain ⟨b1, b2⟩ := a3 k (by omega)
        refine ⟨by rw [o _ _ _ (by omega) (by omega) (by omega) (by omega)]; exact b1, fun w => ?_⟩
        obtain ⟨b3, b4, b5, b6⟩ := b2 w
        have hlt := hmo k (by omega) w
        rw [o _ _ _ (by omega) (by omega) (by omega) (by omega), o _ _ _ (by omega) (by omega) (by omega) (by omega), o _ _ _ (by omega) (by omega) (by omega) (by omega), o _ _ _ (by omega) (by omega) (by omega) (by omega)]
        exact ⟨b3, b4, b5, b6⟩
    · rw [en] at x2
      by_cases e : x = R + cntN (fun k => c.1 31 0 k ≠ 0) 0 t
      · rw [l2.2, if_pos ⟨rfl, e, rfl⟩]
        exact e27
      · rw [o _ _ _ (by omega) (by omega) (by omega) (by omega)]
        exact a4 x x1 (by omega)
    · rw [o _ _ _ (by omega) (by omega) (by omega) (by omega)]
      exact a5 f j x (by omega) (by omega) w3 w4
theorem e_r55 {m c : qS} {R M : Nat} {X : Int32} (h7 : m.1 0 0 7 = nI M) (hM : M ≤ 80) (h27 : m.1 0 0 27 = X) (hR : R + 80 ≤ 90000) (hh : ∀ k, k < M → (c.1 31 0 k = if m.1 102 0 k = 1 ∨ m.1 102 0 k = 2 then 0 else m.1 108 0 k) ∧ (c.1 31 0 k = 0 ∨ c.1 31 0 k = 1)) : ∀ (d t n : Nat) (s : qS), t + d = M → d < n → rsM m s c R t X → ∃ s', fX9_restore_55 F n (nI t) s = fX9_restore_161 F F 0 s' ∧ rsM m s' c R M X := by
  intro d
  induction d with
  | zero =>
    intro t n s h hn hs
    obtain ⟨n, rfl⟩ : ∃ z, n = z + 1 := ⟨n - 1, by omega⟩
    obtain rfl : t = M := by omega
    rw [fX9_restore_55, nm_x, hs.2.2.2.2 0 0 7 (by omega) (by omega) (by omega) (by omega), h7, if_pos (Int32.le_refl _)]
    exact ⟨s, rfl, hs⟩
  | succ d ih =>
    intro t n s h hn hs
    obtain ⟨n, rfl⟩ : ∃ z, n = z + 1 := ⟨n - 1, by omega⟩
    have ht8 : t < 80 := by omega
    obtain ⟨h1, h2⟩ := hh t (by omega)
    have e2 : s.1 102 0 t = m.1 102 0 t := hs.2.2.2.2 102 0 t (by omega) (by omega) (by omega) (by omega)
    have e8 : s.1 108 0 t = m.1 108 0 t := hs.2.2.2.2 108 0 t (by omega) (by omega) (by omega) (by omega)
    obtain ⟨s', g1, g2⟩ := e_r98 (F := F) (n := n) ht8 h27 hR hs h2
    rw [fX9_restore_55, nm_x, hs.2.2.2.2 0 0 7 (by omega) (by omega) (by omega) (by omega), h7, if_neg (show ¬ nI M ≤ nI t from fun w => by have := (nI_le' (by omega) (by omega)).mp w; omega), ldi_nI ht8 (by decide), ldi_nI ht8 (by decide), ldi_nI (show t < 400 by omega) (by decide), e2, e8]
    unfold fX9_restore_88
    by_cases c1 : m.1 102 0 t = 1
    · rw [if_pos (Or.inl c1)] at h1
      rw [h1] at g1
      rw [if_pos c1, g1]
      exact ih (t + 1) n s' (by omega) (by omega) g2
    · rw [if_neg c1]
      by_cases c2 : m.1 102 0 t = 2
      · rw [if_pos (Or.inr c2)] at h1
        rw [h1] at g1
        rw [if_pos c2, g1]
        exact ih (t + 1) n s' (by omega) (by omega) g2
      · rw [if_neg (show ¬ (m.1 102 0 t = 1 ∨ m.1 102 0 t = 2) from fun w => w.elim c1 c2)] at h1
        rw [h1] at g1
        rw [if_neg c2, g1]
        exact ih (t + 1) n s' (by omega) (by omega) g2
/-- the followers start anew, up to t -/
def rwM (m s : qS) (A B : Int32) (t : Nat) : Prop := s.2 = m.2 ∧ (∀ i, i < t → s.1 129 0 i = A ∧ s.1 130 0 i = B) ∧ (∀ f i x, 108 ≤ f → f ≤ 114 → 1 ≤ i → i < t → x < 80 → s.1 f 0 (80 * i + x) = m.1 f 0 x) ∧ ∀ f j q, ¬ ((f = 129 ∨ f = 130) ∧ j = 0 ∧ q < t) → ¬ (108 ≤ f ∧ f ≤ 114 ∧ j = 0 ∧ 80 ≤ q ∧ q < 240) → s.1 f j q = m.1 f j q
theorem e_r176 {m s : qS} {A B : Int32} {t n : Nat} (ht : t < 3) (hA : m.1 0 0 25 = A) (hB : m.1 0 0 26 = B) (a1 : s.2 = m.2) (a2 : ∀ i, i < t → s.1 129 0 i = A ∧ s.1 130 0 i = B) (a3 : ∀ f i x, 108 ≤ f → f ≤ 114 → 1 ≤ i → i < t + 1 → x < 80 → s.1 f 0 (80 * i + x) = m.1 f 0 x) (a4 : ∀ f j q, ¬ ((f = 129 ∨ f = 130) ∧ j = 0 ∧ q < t) → ¬ (108 ≤ f ∧ f ≤ 114 ∧ j = 0 ∧ 80 ≤ q ∧ q < 240) → s.1 f j q = m.1 f j q) : ∃ s', fX9_restore_176 F (fX9_restore_161 F n) (nI t) s = fX9_restore_161 F n (nI (t + 1)) s' ∧ rwM m s' A B (t + 1) := by
  unfold fX9_restore_176
  rw [nm_x, a4 0 0 25 (by omega) (by omega), hA, inx_nI ht (by decide), ix_nI (by omega), nm_x, nm_x, show (qI s 129 0 t A).1 0 0 26 = B from by rw [qI_ap, if_neg (by omega), a4 0 0 26 (by omega) (by omega)]; exact hB, inx_nI ht (by decide), nm_x, nm_x, nI_1]
  refine ⟨_, rfl, a1, fun i hi => ?_, fun f i x w1 w2 w3 w4 w5 => ?_, fun f j q w1 w2 => ?_⟩
  · by_cases e : i = t
    · subst e
      refine ⟨?_, ?_⟩
      · rw [qI_ap, if_neg (by omega), qI_ap, if_pos ⟨rfl, rfl, rfl⟩]
      · rw [qI_ap, if_pos ⟨rfl, rfl, rfl⟩]
    · rw [qI_ap, if_neg (by omega), qI_ap, if_neg (by omega), qI_ap, if_neg (by omega), qI_ap, if_neg (by omega)]
      exact a2 i (by omega)
  · rw [qI_ap, if_neg (by omega), qI_ap, if_neg (by omega)]
    exact a3 f i x w1 w2 w3 w4 w5
  · rw [qI_ap, if_neg (by omega), qI_ap, if_neg (by omega)]
    exact a4 f j q (by omega) w2
theorem e_r161 {m : qS} {A B : Int32} (hF : 100 ≤ F) (hA : m.1 0 0 25 = A) (hB : m.1 0 0 26 = B) : ∀ (d t n : Nat) (s : qS), t + d = 3 → d < n → rwM m s A B t → ∃ s', fX9_restore_161 F n (nI t) s = fX9_restore_204 F F 0 s' ∧ rwM m s' A B 3 := by
  intro d
  induction d with
  | zero =>
    intro t n s h hn hs
    obtain ⟨n, rfl⟩ : ∃ z, n = z + 1 := ⟨n - 1, by omega⟩
    obtain rfl : t = 3 := by omega
    rw [fX9_restore_161, if_pos (by decide)]
    exact ⟨s, rfl, hs⟩
  | succ d ih =>
    intro t n s h hn hs
    obtain ⟨n, rfl⟩ : ∃ z, n = z + 1 := ⟨n - 1, by omega⟩
    have ht3 : t < 3 := by omega
    obtain ⟨a1, a2, a3, a4⟩ := hs
    rw [fX9_restore_161, if_neg (show ¬ (3 : Int32) ≤ nI t from nI_ge (b := 3) ht3 (by decide))]
    by_cases c : t = 0
    · subst c
      rw [if_pos (show nI 0 ≤ 0 from by decide)]
      obtain ⟨s', g1, g2⟩ := e_r176 (F := F) (n := n) ht3 hA hB a1 a2 (fun f i x _ _ w3 w4 => by omega) a4
      rw [g1]
      exact ih 1 n s' (by omega) (by omega) g2
    · rw [if_neg (show ¬ nI t ≤ 0 from fun w => by have := (nI_le' (b := 0) (by omega) (by decide)).mp w; omega)]
      obtain ⟨s1, k1, k2⟩ := e_copy (F := F) (m := s) (a := 0) (b := t) hF (by decide) (by omega) (by omega)
      rw [show (0 : Int32) = nI 0 from rfl, k1, bnd_s]
      obtain ⟨s', g1, g2⟩ := e_r176 (F := F) (m := m) (s := s1) (A := A) (B := B) (t := t) (n := n) ht3 hA hB (k2.1.trans a1) (fun i hi => by rw [k2.2, if_neg (by omega), k2.2, if_neg (by omega)]; exact a2 i hi) (fun f i x w1 w2 w3 w4 w5 => by
        by_cases e : i = t
        · subst e
          rw [k2.2, if_pos ⟨rfl, w1, w2, by omega, by omega⟩, show 80 * 0 + (80 * i + x - 80 * i) = x by omega, a4 f 0 x (by omega) (by omega)]
        · rw [k2.2, if_neg (by omega)]
          exact a3 f i x w1 w2 w3 (by omega) w5) (fun f j q w1 w2 => by
        rw [k2.2, if_neg (by omega)]
        exact a4 f j q w1 w2)
      rw [g1]
      exact ih (t + 1) n s' (by omega) (by omega) g2
/-- sessions end, up to t -/
def reZ (m s : qS) (t : Nat) : Prop := s.2 = m.2 ∧ ∀ f j q, s.1 f j q = if f = 135 ∧ j = 0 ∧ q < t then 1 else if (f = 136 ∨ f = 143 ∨ f = 145 ∨ f = 146) ∧ j = 0 ∧ q < t then 0 else m.1 f j q
theorem e_r204 {m : qS} {Z : Nat} (h48 : m.1 0 0 48 = nI Z) (hZ : Z ≤ 10) : ∀ (d t n : Nat) (s : qS), t + d = Z → d < n → reZ m s t → ∃ s', fX9_restore_204 F n (nI t) s = fX9_restore_255 F F 0 s' ∧ reZ m s' Z := by
  intro d
  induction d with
  | zero =>
    intro t n s h hn hs
    obtain ⟨n, rfl⟩ : ∃ z, n = z + 1 := ⟨n - 1, by omega⟩
    obtain rfl : t = Z := by omega
    have e48 : s.1 0 0 48 = nI t := by rw [hs.2, if_neg (by omega), if_neg (by omega), h48]
    rw [fX9_restore_204, nm_x, e48, if_pos (Int32.le_refl _)]
    exact ⟨s, rfl, hs⟩
  | succ d ih =>
    intro t n s h hn hs
    obtain ⟨n, rfl⟩ : ∃ z, n = z + 1 := ⟨n - 1, by omega⟩
    have ht : t < 10 := by omega
    have e48 : s.1 0 0 48 = nI Z := by rw [hs.2, if_neg (by omega), if_neg (by omega), h48]
    rw [fX9_restore_204, nm_x, e48, if_neg (show ¬ nI Z ≤ nI t from fun w => by have := (nI_le' (by omega) (by omega)).mp w; omega)]
    rw [inx_nI ht (by decide), ix_nI (by omega), nm_x, inx_nI ht (by decide), nm_x, inx_nI ht (by decide), nm_x, inx_nI ht (by decide), nm_x, inx_nI ht (by decide), nm_x, nm_x, nI_1]
    refine ih (t + 1) n _ (by omega) (by omega) ⟨hs.1, fun f j q => ?_⟩
    rw [qI_ap, qI_ap, qI_ap, qI_ap, qI_ap, hs.2]
    by_cases c1 : f = 135 ∧ j = 0 ∧ q < t + 1
    · rw [if_pos c1, if_neg (by omega), if_neg (by omega), if_neg (by omega), if_neg (by omega)]
      by_cases e : q = t
      · rw [if_pos ⟨c1.1, c1.2.1, e⟩]
      · rw [if_neg (by omega), if_pos ⟨c1.1, c1.2.1, by omega⟩]
    · rw [if_neg c1]
      by_cases c2 : (f = 136 ∨ f = 143 ∨ f = 145 ∨ f = 146) ∧ j = 0 ∧ q < t + 1
      · rw [if_pos c2]
        by_cases e : q = t
        · by_cases d1 : f = 145 ∧ j = 0 ∧ q = t
          · rw [if_pos d1]
          rw [if_neg d1]
          by_cases d2 : f = 146 ∧ j = 0 ∧ q = t
          · rw [if_pos d2]
          rw [if_neg d2]
          by_cases d3 : f = 143 ∧ j = 0 ∧ q = t
          · rw [if_pos d3]
          rw [if_neg d3]
          rw [if_pos (by omega)]
        · rw [if_neg (by omega), if_neg (by omega), if_neg (by omega), if_neg (by omega), if_neg (by omega), if_neg (by omega), if_pos ⟨c2.1, c2.2.1, by omega⟩]
      · rw [if_neg c2, if_neg (by omega), if_neg (by omega), if_neg (by omega), if_neg (by omega), if_neg (by omega), if_neg (by omega), if_neg (by omega)]
/-- leases end, up to t -/
def reL (m s : qS) (t : Nat) : Prop := s.2 = m.2 ∧ ∀ f j q, s.1 f j q = if f = 151 ∧ j = 0 ∧ q < t then 1 else m.1 f j q
theorem e_r255 {m : qS} {Y : Nat} {B : Int32} (h52 : m.1 0 0 52 = nI Y) (hY : Y ≤ 10) (hB : m.1 0 0 26 = B) : ∀ (d t n : Nat) (s : qS), t + d = Y → d < n → reL m s t → ∃ s', fX9_restore_255 F n (nI t) s = some (B, qI s' 0 0 28 B) ∧ reL m s' Y := by
  intro d
  induction d with
  | zero =>
    intro t n s h hn hs
    obtain ⟨n, rfl⟩ : ∃ z, n = z + 1 := ⟨n - 1, by omega⟩
    obtain rfl : t = Y := by omega
    have e26 : s.1 0 0 26 = B := by rw [hs.2, if_neg (by omega), hB]
    have e52 : s.1 0 0 52 = nI t := by rw [hs.2, if_neg (by omega), h52]
    rw [fX9_restore_255, nm_x, e52, if_pos (Int32.le_refl _), nm_x, e26, nm_x, nm_x, show (qI s 0 0 28 B).1 0 0 26 = B from by rw [qI_ap, if_neg (by omega)]; exact e26]
    exact ⟨s, rfl, hs⟩
  | succ d ih =>
    intro t n s h hn hs
    obtain ⟨n, rfl⟩ : ∃ z, n = z + 1 := ⟨n - 1, by omega⟩
    have ht : t < 10 := by omega
    have e52 : s.1 0 0 52 = nI Y := by rw [hs.2, if_neg (by omega), h52]
    rw [fX9_restore_255, nm_x, e52, if_neg (show ¬ nI Y ≤ nI t from fun w => by have := (nI_le' (by omega) (by omega)).mp w; omega), inx_nI ht (by decide), ix_nI (by omega), nm_x, nm_x, nI_1]
    refine ih (t + 1) n _ (by omega) (by omega) ⟨hs.1, fun f j q => ?_⟩
    rw [qI_ap, hs.2]
    by_cases c1 : f = 151 ∧ j = 0 ∧ q = t
    · rw [if_pos c1, if_pos ⟨c1.1, c1.2.1, by omega⟩]
    · rw [if_neg c1]
      by_cases c2 : f = 151 ∧ j = 0 ∧ q < t
      · rw [if_pos c2, if_pos ⟨c2.1, c2.2.1, by omega⟩]
      · rw [if_neg c2, if_neg (by omega)]
end RM9

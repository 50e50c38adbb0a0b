/-! PURE: the reference's rows seen as the class's; its questions -/
def vw (m : qS) : qS := (fun f i k => if f = 2 then m.1 100 0 k else if f = 3 then m.1 101 0 k else if f = 4 then m.1 102 0 k else if f = 5 then m.1 103 0 k else if f = 6 then m.1 104 0 k else if f = 31 then m.1 108 0 (80 * i + k) else if f = 32 then m.1 109 0 (80 * i + k) else if f = 33 then m.1 110 0 (80 * i + k) else if f = 34 then m.1 111 0 (80 * i + k) else if f = 35 then m.1 112 0 (80 * i + k) else if f = 36 then m.1 113 0 (80 * i + k) + 16 * m.1 114 0 (80 * i + k) else if f = 37 then m.1 105 0 k else 0, m.2)
section RQ
variable {F s M : Nat} {m : qS}
theorem vw2 {i : Nat} : (vw m).1 2 i = m.1 100 0 := rfl
theorem vw3 {i : Nat} : (vw m).1 3 i = m.1 101 0 := rfl
theorem vw4 {i : Nat} : (vw m).1 4 i = m.1 102 0 := rfl
theorem vw5 {i : Nat} : (vw m).1 5 i = m.1 103 0 := rfl
theorem vw6 {i : Nat} : (vw m).1 6 i = m.1 104 0 := rfl
theorem vw31 {i k : Nat} : (vw m).1 31 i k = m.1 108 0 (80 * i + k) := rfl
theorem vw32 {i k : Nat} : (vw m).1 32 i k = m.1 109 0 (80 * i + k) := rfl
theorem vw33 {i k : Nat} : (vw m).1 33 i k = m.1 110 0 (80 * i + k) := rfl
theorem vw34 {i k : Nat} : (vw m).1 34 i k = m.1 111 0 (80 * i + k) := rfl
theorem vw35 {i k : Nat} : (vw m).1 35 i k = m.1 112 0 (80 * i + k) := rfl
theorem vw36 {i k : Nat} : (vw m).1 36 i k = m.1 113 0 (80 * i + k) + 16 * m.1 114 0 (80 * i + k) := rfl
theorem vw37 {i k : Nat} : (vw m).1 37 i k = m.1 105 0 k := rfl
/-- what the reference's questions need of row s -/
def rok (m : qS) (s M : Nat) : Prop := m.1 0 0 7 = nI M ∧ 1 ≤ M ∧ M ≤ 80 ∧ ∀ k, k < 80 → ((vw m).1 31 s k = 0 ∨ (vw m).1 31 s k = 1 ∧ k < M)
theorem rok_1 (h : rok m s M) {k : Nat} (hk : k < 80) : (vw m).1 31 s k = 1 ↔ (vw m).1 31 s k ≠ 0 := by
  rcases h.2.2.2 k hk with e | ⟨e, -⟩
  · rw [e]; exact ⟨fun h => absurd h (by decide), fun h => absurd rfl h⟩
  · rw [e]; exact ⟨fun _ => by decide, fun _ => rfl⟩
theorem rok_M (h : rok m s M) {k : Nat} (hk : k < 80) (h1 : (vw m).1 31 s k ≠ 0) : k < M := by
  rcases h.2.2.2 k hk with e | ⟨-, e⟩
  · exact absurd e h1
  · exact e
theorem e_in {a b c : Int32} : fX9_in F a b c m = some (b2 (¬ a < b ∧ ¬ c < a), m) := by
  unfold fX9_in fX9_in_14 fX9_in_15
  by_cases h : a < b
  · rw [if_pos h, gbl_0, b2_f (fun q => q.1 h)]
  · rw [if_neg h]
    by_cases h2 : c < a
    · rw [if_pos h2, gbl_0, b2_f (fun q => q.2 h2)]
    · rw [if_neg h2, gbl_1, b2_t ⟨h, h2⟩]
theorem e_may {r x : Int32} : fX9_may F r x m = some (b2 (bit1 r x), m) := by
  unfold fX9_may fX9_may_14
  simp only [nm_x]
  by_cases h : bit1 r x
  · rw [if_pos h, gbl_1, b2_t h]
  · rw [if_neg h, gbl_0, b2_f h]
theorem nI_80 (a b : Nat) : 80 * nI a + nI b = nI (80 * a + b) := by
  rw [show (80 : Int32) = nI 80 from rfl, nI_mul, nI_add]
theorem e_isThere {p : Int32} (h : rok m s M) (hs : s < 5) : fX9_isThere F (nI s) p m = some (b2 (hlds (vw m) s p), m) := by
  unfold fX9_isThere fX9_isThere_34 fX9_isThere_35
  simp only [nm_x]
  have e1 : m.1 0 0 7 - 1 = nI (M - 1) := by rw [h.1]; exact nI_sub h.2.1
  have hM := h.2.2.1
  have h1 := h.2.1
  rw [e1, e_in, bnd2_s]
  by_cases c : ¬ p < 0 ∧ ¬ nI (M - 1) < p
  · rw [b2_t c, if_neg (by decide)]
    obtain ⟨a, ha, rfl⟩ := nI_of c.1
    have ha2 : a ≤ M - 1 := Nat.le_of_not_lt (fun h => c.2 ((nI_lt' (by omega) ha).mpr h))
    rw [nI_80, ldi_nI (by omega) (by decide)]
    by_cases d : m.1 108 0 (80 * s + a) = 1
    · rw [if_pos d, gbl_1, b2_t]
      refine ⟨⟨c.1, nle80 (by omega)⟩, ?_⟩
      rw [ix_nI ha, vw31, d]; decide
    · rw [if_neg d, gbl_0, b2_f]
      intro h9
      have h8 := h9.2
      rw [ix_nI ha] at h8
      exact d ((rok_1 h (by omega)).mpr h8)
  · rw [b2_f c, if_pos rfl, gbl_0, b2_f]
    intro h9
    obtain ⟨a, ha, rfl⟩ := nI_of h9.1.1
    have h8 := h9.2
    rw [ix_nI ha] at h8
    have ha80 : a < 80 := Nat.lt_of_not_le (fun h => h9.1.2 (le80 h ha))
    have := rok_M h ha80 h8
    exact c ⟨h9.1.1, fun h => by have := (nI_lt' (by omega) ha).mp h; omega⟩
theorem rok_ch {k : Nat} {p : Int32} (h : rok m s M) (hk : M ≤ k) (h8 : k < 80) : ¬ isCh (vw m) s k p := by
  intro h9
  have := rok_M h h8 h9.1
  omega
theorem e_children_l {p : Int32} (h : rok m s M) (hs : s < 5) : ∀ (d t n : Nat) (x : Int32), t + d = M → d < n → fX9_children_5 F n (nI s) p x (nI t) m = some (rng (chF (vw m) s p) t d x, m) := by
  have hM := h.2.2.1
  intro d
  induction d with
  | zero =>
    intro t n x ht hn
    obtain ⟨n, rfl⟩ : ∃ m, n = m + 1 := ⟨n - 1, by omega⟩
    rw [fX9_children_5]
    simp only [nm_x]
    rw [if_pos (by rw [h.1, nI_le' (by omega) (by omega)]; omega)]
    rfl
  | succ d ih =>
    intro t n x ht hn
    obtain ⟨n, rfl⟩ : ∃ m, n = m + 1 := ⟨n - 1, by omega⟩
    rw [fX9_children_5]
    unfold fX9_children_46 fX9_children_47
    simp only [nm_x, nI_1, nI_80]
    rw [if_neg (by rw [h.1, nI_le' (by omega) (by omega)]; omega), ldi_nI (by omega) (by decide)]
    have yes : isCh (vw m) s t p → fX9_children_5 F n (nI s) p (x + 1) (nI (t + 1)) m = some (rng (chF (vw m) s p) t (d + 1) x, m) := fun c => by
      rw [ih (t + 1) n (x + 1) (by omega) (by omega)]
      show _ = some (rng (chF (vw m) s p) (t + 1) d (chF (vw m) s p t x), m)
      unfold chF
      rw [if_pos c]
    have no : ¬ isCh (vw m) s t p → fX9_children_5 F n (nI s) p (x + 0) (nI (t + 1)) m = some (rng (chF (vw m) s p) t (d + 1) x, m) := fun c => by
      rw [Int32.add_zero, ih (t + 1) n x (by omega) (by omega)]
      show _ = some (rng (chF (vw m) s p) (t + 1) d (chF (vw m) s p t x), m)
      unfold chF
      rw [if_neg c]
    by_cases c : m.1 108 0 (80 * s + t) = 1
    · rw [if_pos c, ldi_nI (by omega) (by decide)]
      by_cases c2 : m.1 100 0 t = p
      · rw [if_pos c2]
        exact yes ⟨by rw [vw31, c]; decide, c2⟩
      · rw [if_neg c2]
        exact no (fun h9 => c2 h9.2)
    · rw [if_neg c]
      exact no (fun h9 => c ((rok_1 h (by omega)).mpr h9.1))
theorem e_children {p : Int32} (h : rok m s M) (hF : 100 ≤ F) (hs : s < 5) : fX9_children F (nI s) p m = some (nCh (vw m) s p, m) := by
  have hM := h.2.2.1
  have h1 := h.2.1
  unfold fX9_children
  have h9 := e_children_l (F := F) (p := p) h hs (M - 1) 1 F 0 (by omega) (by omega)
  rw [show (1 : Int32) = nI 1 from rfl, h9]
  unfold nCh
  rw [show 79 = (M - 1) + (80 - M) by omega, rng_split, rng_id (t := 1 + (M - 1))]
  intro k b g1 g2
  unfold chF
  rw [if_neg (rok_ch h (by omega) (by omega))]
theorem e_isBelow_l {P : Nat → Prop} (hw : wfB (vw m) P) {a : Nat} (ha : a < 80) : ∀ (n k : Nat), k < 80 → P k → k < n → fX9_isBelow_2 F n (nI a) (nI k) m = some (b2 (isB (parN (vw m)) a 80 k = true), m) := by
  intro n
  induction n with
  | zero => intro k _ _ h; omega
  | succ n ih =>
    intro k hk hp hn
    rw [fX9_isBelow_2]
    unfold fX9_isBelow_21 fX9_isBelow_31
    by_cases c0 : k = 0
    · subst c0
      rw [if_pos (by decide)]
      by_cases c2 : 0 = a
      · subst c2
        rw [if_pos rfl, gbl_1, isB_t, b2_t rfl]
      · rw [if_neg (fun h => c2 (nI_inj (by omega) (by omega) h)), gbl_0, isB_lt (wfB_hp hw) 0 hk ⟨hk, hp⟩ (by omega), b2_f (by decide)]
    · rw [if_neg (nI_nle (by omega) (by omega))]
      by_cases c2 : k = a
      · subst c2
        rw [if_pos rfl, if_pos rfl, gbl_1, isB_t, b2_t rfl]
      · have e : m.1 100 0 k = nI (parN (vw m) k) := wfB_par hw (by omega) hk hp
        rw [if_neg (fun h => c2 (nI_inj (by omega) (by omega) h)), ldi_nI hk (by decide), e]
        obtain ⟨h1, h2, h3⟩ := wfB_hp hw k ⟨hk, hp⟩ (by omega)
        rw [ih (parN (vw m) k) h2 h3 (by omega), isB_up (wfB_hp hw) ⟨hk, hp⟩ hk (by omega) (by omega)]
theorem e_isBelow {P : Nat → Prop} (hw : wfB (vw m) P) {a k : Nat} (hF : 100 ≤ F) (ha : a < 80) (hk : k < 80) (hp : P k) : fX9_isBelow F (nI k) (nI a) m = some (b2 (isB (parN (vw m)) a 80 k = true), m) := by
  unfold fX9_isBelow
  exact e_isBelow_l hw ha F k hk hp (by omega)
abbrev isBl (σ : qS) (i a k : Nat) : Prop := k ≠ a ∧ σ.1 31 i k ≠ 0 ∧ isB (parN σ) a 80 k = true
theorem cntN_split {p : Nat → Prop} [DecidablePred p] {t d e : Nat} : cntN p t (d + e) = cntN p t d + cntN p (t + d) e := by
  unfold cntN
  rw [rng_split, cntN_acc]
  rfl
theorem cntN_0 {p : Nat → Prop} [DecidablePred p] {t d : Nat} (h : ∀ k, t ≤ k → k < t + d → ¬ p k) : cntN p t d = 0 := by
  unfold cntN
  exact rng_id (fun k b h1 h2 => if_neg (h k h1 h2))
theorem isBl_nBl {σ : qS} {i a : Nat} (hw : wfT σ i) (ha : a < 80) : cntN (isBl σ i a) 1 79 = nBl σ i a := by
  have hp := wfT_hp hw
  unfold nBl
  rw [show 79 = a + (79 - a) by omega, cntN_split, cntN_0 (t := 1), Nat.zero_add, show a + (79 - a) - a = 79 - a by omega, show 1 + a = a + 1 by omega]
  · apply cntN_congr
    intro k h1 h2
    constructor
    · intro h
      exact ⟨h.2.1, (isB_clm hp k (by omega) ⟨by omega, h.2.1⟩ (by omega)).mp h.2.2⟩
    · intro h
      exact ⟨by omega, h.1, (isB_clm hp k (by omega) ⟨by omega, h.1⟩ (by omega)).mpr h.2⟩
  · intro k h1 h2 h
    have := isB_lt (top := a) hp k (by omega) ⟨by omega, h.2.1⟩ (by have := h.1; omega)
    exact absurd (this.symm.trans h.2.2) (by decide)
theorem wfT_wfB {σ : qS} {i : Nat} (hw : wfT σ i) (h0 : σ.1 2 0 0 = -100) : wfB σ (fun k => σ.1 31 i k ≠ 0) := ⟨h0, hw.2⟩
theorem e_below_l {a : Nat} (h : rok m 0 M) (hw : wfT (vw m) 0) (h0 : m.1 100 0 0 = -100) (hF : 100 ≤ F) (ha : a < 80) : ∀ (d t n x : Nat), t + d = M → d < n → fX9_below_4 F n (nI a) (nI x) (nI t) m = some (nI (x + cntN (isBl (vw m) 0 a) t d), m) := by
  have hM := h.2.2.1
  intro d
  induction d with
  | zero =>
    intro t n x ht hn
    obtain ⟨n, rfl⟩ : ∃ m, n = m + 1 := ⟨n - 1, by omega⟩
    rw [fX9_below_4]
    simp only [nm_x]
    rw [if_pos (by rw [h.1, nI_le' (by omega) (by omega)]; omega)]
    rfl
  | succ d ih =>
    intro t n x ht hn
    obtain ⟨n, rfl⟩ : ∃ m, n = m + 1 := ⟨n - 1, by omega⟩
    rw [fX9_below_4]
    unfold fX9_below_41 fX9_below_42
    simp only [nm_x, nI_1]
    rw [if_neg (by rw [h.1, nI_le' (by omega) (by omega)]; omega), cntN_s]
    have yes : isBl (vw m) 0 a t → fX9_below_4 F n (nI a) (nI (x + 1)) (nI (t + 1)) m = some (nI (x + ((if isBl (vw m) 0 a t then 1 else 0) + cntN (isBl (vw m) 0 a) (t + 1) d)), m) := fun c => by
      rw [ih (t + 1) n (x + 1) (by omega) (by omega), if_pos c, Nat.add_assoc]
    have no : ¬ isBl (vw m) 0 a t → fX9_below_4 F n (nI a) (nI x + 0) (nI (t + 1)) m = some (nI (x + ((if isBl (vw m) 0 a t then 1 else 0) + cntN (isBl (vw m) 0 a) (t + 1) d)), m) := fun c => by
      rw [Int32.add_zero, ih (t + 1) n x (by omega) (by omega), if_neg c, Nat.zero_add]
    by_cases c1 : t = a
    · subst c1
      rw [if_pos rfl]
      exact no (fun h9 => h9.1 rfl)
    · rw [if_neg (fun h => c1 (nI_inj (by omega) (by omega) h)), ldi_nI (by omega) (by decide)]
      have e31 : m.1 108 0 t = (vw m).1 31 0 t := by rw [vw31, Nat.mul_zero, Nat.zero_add]
      by_cases c : m.1 108 0 t = 1
      · have c' : (vw m).1 31 0 t ≠ 0 := by rw [← e31, c]; decide
        rw [if_pos c, e_isBelow (wfT_wfB hw h0) hF ha (by omega) c', bnd2_s]
        by_cases c2 : isB (parN (vw m)) a 80 t = true
        · rw [if_neg (fun q => b2_0.mp q c2)]
          exact yes ⟨c1, c', c2⟩
        · rw [if_pos (b2_0.mpr c2)]
          exact no (fun h9 => c2 h9.2.2)
      · rw [if_neg c]
        exact no (fun h9 => c (by rw [e31]; exact (rok_1 h (by omega)).mpr h9.2.1))
theorem e_below {a : Nat} (h : rok m 0 M) (hw : wfT (vw m) 0) (h0 : m.1 100 0 0 = -100) (hF : 100 ≤ F) (ha : a < 80) : fX9_below F (nI a) m = some (nI (nBl (vw m) 0 a), m) := by
  have hM := h.2.2.1
  have h1 := h.2.1
  unfold fX9_below
  have h9 := e_below_l (F := F) h hw h0 hF ha (M - 1) 1 F 0 (by omega) (by omega)
  rw [show (1 : Int32) = nI 1 from rfl, show (0 : Int32) = nI 0 from rfl, h9, Nat.zero_add, ← isBl_nBl hw ha, show 79 = (M - 1) + (80 - M) by omega, cntN_split, cntN_0 (t := 1 + (M - 1)), Nat.add_zero]
  intro k g1 g2 h9
  have := rok_M h (by omega) h9.2.1
  omega
theorem e_named_l {p q : Int32} (h : rok m 0 M) : ∀ (d t n : Nat) (x : Int32), t + d = M → d < n → ∃ v, fX9_named_5 F n p q x (nI t) m = some (v, m) ∧ ((v = x ∧ ∀ k, t ≤ k → k < M → ¬ isNm (vw m) 0 p q k) ∨ (¬ v < 0 ∧ ∃ k, t ≤ k ∧ k < 80 ∧ isNm (vw m) 0 p q k)) := by
  have hM := h.2.2.1
  intro d
  induction d with
  | zero =>
    intro t n x ht hn
    obtain ⟨n, rfl⟩ : ∃ m, n = m + 1 := ⟨n - 1, by omega⟩
    rw [fX9_named_5]
    simp only [nm_x]
    rw [if_pos (by rw [h.1, nI_le' (by omega) (by omega)]; omega)]
    exact ⟨x, rfl, Or.inl ⟨rfl, fun k h1 h2 => by omega⟩⟩
  | succ d ih =>
    intro t n x ht hn
    obtain ⟨n, rfl⟩ : ∃ m, n = m + 1 := ⟨n - 1, by omega⟩
    rw [fX9_named_5]
    unfold fX9_named_52 fX9_named_53
    simp only [nm_x, nI_1]
    have e31 : m.1 108 0 t = (vw m).1 31 0 t := by rw [vw31, Nat.mul_zero, Nat.zero_add]
    rw [if_neg (by rw [h.1, nI_le' (by omega) (by omega)]; omega), ldi_nI (by omega) (by decide)]
    have yes : isNm (vw m) 0 p q t → ∃ v, fX9_named_5 F n p q (nI t) (nI (t + 1)) m = some (v, m) ∧ ((v = x ∧ ∀ k, t ≤ k → k < M → ¬ isNm (vw m) 0 p q k) ∨ (¬ v < 0 ∧ ∃ k, t ≤ k ∧ k < 80 ∧ isNm (vw m) 0 p q k)) := fun c => by
      obtain ⟨v, g1, g2⟩ := ih (t + 1) n (nI t) (by omega) (by omega)
      refine ⟨v, g1, Or.inr ⟨?_, t, Nat.le_refl _, by omega, c⟩⟩
      rcases g2 with ⟨rfl, -⟩ | ⟨g2, -⟩
      · exact nI_pos (by omega)
      · exact g2
    have no : ¬ isNm (vw m) 0 p q t → ∃ v, fX9_named_5 F n p q x (nI (t + 1)) m = some (v, m) ∧ ((v = x ∧ ∀ k, t ≤ k → k < M → ¬ isNm (vw m) 0 p q k) ∨ (¬ v < 0 ∧ ∃ k, t ≤ k ∧ k < 80 ∧ isNm (vw m) 0 p q k)) := fun c => by
      obtain ⟨v, g1, g2⟩ := ih (t + 1) n x (by omega) (by omega)
      refine ⟨v, g1, ?_⟩
      rcases g2 with ⟨rfl, g3⟩ | ⟨g2, k, g3, g4, g5⟩
      · refine Or.inl ⟨rfl, fun k k1 k2 => ?_⟩
        by_cases e : k = t
        · subst e; exact c
        · exact g3 k (by omega) k2
      · exact Or.inr ⟨g2, k, by omega, g4, g5⟩
    by_cases c : m.1 108 0 t = 1
    · rw [if_pos c, ldi_nI (by omega) (by decide)]
      by_cases c2 : m.1 100 0 t = p
      · rw [if_pos c2, ldi_nI (by omega) (by decide)]
        by_cases c3 : m.1 101 0 t = q
        · rw [if_pos c3]
          exact yes ⟨⟨by rw [← e31, c]; decide, c2⟩, c3⟩
        · rw [if_neg c3]
          exact no (fun h9 => c3 h9.2)
      · rw [if_neg c2]
        exact no (fun h9 => c2 h9.1.2)
    · rw [if_neg c]
      exact no (fun h9 => c (by rw [e31]; exact (rok_1 h (by omega)).mpr h9.1.1))
theorem e_named {p q : Int32} (h : rok m 0 M) (hF : 100 ≤ F) : ∃ v, fX9_named F p q m = some (v, m) ∧ ((v < 0 ∧ ∀ k, 1 ≤ k → k < 80 → ¬ isNm (vw m) 0 p q k) ∨ (¬ v < 0 ∧ ∃ k, 1 ≤ k ∧ k < 80 ∧ isNm (vw m) 0 p q k)) := by
  have hM := h.2.2.1
  have h1 := h.2.1
  unfold fX9_named
  obtain ⟨v, g1, g2⟩ := e_named_l (F := F) (p := p) (q := q) h (M - 1) 1 F (-1) (by omega) (by omega)
  refine ⟨v, g1, ?_⟩
  rcases g2 with ⟨rfl, g3⟩ | g2
  · refine Or.inl ⟨by decide, fun k k1 k2 k3 => ?_⟩
    have := rok_M h k2 k3.1.1
    exact g3 k k1 this k3
  · exact Or.inr g2
end RQ

/-! PURE: the class's questions, as values -/
theorem gnl_pos {β : Type} {i n : Nat} {k : Option β} (h : i < n) : gnl i n k = k := if_pos h
theorem gbl_0 {β : Type} {k : Option β} : gbl 0 k = k := if_pos (Or.inl rfl)
theorem gbl_1 {β : Type} {k : Option β} : gbl 1 k = k := if_pos (Or.inr rfl)
theorem gbl_or {β : Type} {x : Int32} {k : Option β} (h : x = 0 ∨ x = 1) : gbl x k = k := if_pos h
theorem ldi_in {β : Type} {n : Nat} {f : Nat → Int32} {j : Int32} {k : Int32 → Option β} (h : vp_in j n) : ldi n f j k = k (f j.toNatClampNeg) := if_pos (vp_in_iff.mp h)
theorem ldi_nI {β : Type} {n a : Nat} {f : Nat → Int32} {k : Int32 → Option β} (h : a < n) (hn : n ≤ 2 ^ 31) : ldi n f (nI a) k = k (f a) := by
  rw [ldi_in (in_nI h hn), ix_nI (by omega)]
theorem inx_v {β : Type} {n : Nat} {j : Int32} {k : Option β} (h : vp_in j n) : inx n j k = k := if_pos (vp_in_iff.mp h)
theorem inx_nI {β : Type} {n a : Nat} {k : Option β} (h : a < n) (hn : n ≤ 2 ^ 31) : inx n (nI a) k = k := inx_v (in_nI h hn)
theorem nm_x {α β : Type} {x : α} {k : α → Option β} : nm x k = k x := rfl
theorem bnd_s {α β : Type} {a : α} {k : α → Option β} : bnd (some a) k = k a := rfl
theorem bnd2_s {α γ β : Type} {a : α} {c : γ} {k : α → γ → Option β} : bnd2 (some (a, c)) k = k a c := rfl
theorem bnd3_s0 {α γ β : Type} {a : α} {c : γ} {k : α → γ → Option β} {kx : Nat → γ → Option β} : bnd3 (some (a, 0, c)) k kx = k a c := rfl
theorem le80 {t : Nat} (h : 80 ≤ t) (h2 : t < 2 ^ 31) : (80 : Int32) ≤ nI t := nI_le (a := 80) h h2
theorem nle80 {t : Nat} (h : t < 80) : ¬ (80 : Int32) ≤ nI t := nI_ge (b := 80) h (by decide)
/-- over t, t + 1 .., d of them -/
def rng {α : Type} (f : Nat → α → α) : Nat → Nat → α → α
  | _, 0, a => a
  | t, d + 1, a => rng f (t + 1) d (f t a)
theorem rng_congr {α : Type} {f g : Nat → α → α} {t d : Nat} {a : α} (h : ∀ k b, t ≤ k → k < t + d → f k b = g k b) : rng f t d a = rng g t d a := by
  induction d generalizing t a with
  | zero => rfl
  | succ d ih =>
    show rng f (t + 1) d (f t a) = rng g (t + 1) d (g t a)
    rw [h t a (Nat.le_refl _) (by omega)]
    exact ih (fun k b h1 h2 => h k b (by omega) (by omega))
theorem rng_split {α : Type} {f : Nat → α → α} {t d e : Nat} {a : α} : rng f t (d + e) a = rng f (t + d) e (rng f t d a) := by
  induction d generalizing t a with
  | zero => rw [Nat.zero_add]; rfl
  | succ d ih =>
    rw [show d + 1 + e = (d + e) + 1 by omega]
    show rng f (t + 1) (d + e) (f t a) = rng f (t + (d + 1)) e (rng f (t + 1) d (f t a))
    rw [ih, show t + 1 + d = t + (d + 1) by omega]
theorem rng_id {α : Type} {f : Nat → α → α} {t d : Nat} {a : α} (h : ∀ k b, t ≤ k → k < t + d → f k b = b) : rng f t d a = a := by
  induction d generalizing t a with
  | zero => rfl
  | succ d ih =>
    show rng f (t + 1) d (f t a) = a
    rw [h t a (Nat.le_refl _) (by omega)]
    exact ih (fun k b h1 h2 => h k b (by omega) (by omega))
theorem rng_inv {α : Type} {f : Nat → α → α} {t d : Nat} {a : α} {P : α → Prop} (h0 : P a) (h : ∀ k b, t ≤ k → k < t + d → P b → P (f k b)) : P (rng f t d a) := by
  induction d generalizing t a with
  | zero => exact h0
  | succ d ih => exact ih (h t a (Nat.le_refl _) (by omega) h0) (fun k b h1 h2 => h k b (by omega) (by omega))
def b2 (P : Prop) [Decidable P] : Int32 := if P then 1 else 0
theorem b2_t {P : Prop} [Decidable P] (h : P) : b2 P = 1 := if_pos h
theorem b2_f {P : Prop} [Decidable P] (h : ¬ P) : b2 P = 0 := if_neg h
theorem b2_0 {P : Prop} [Decidable P] : b2 P = 0 ↔ ¬ P := by
  by_cases h : P
  · rw [b2_t h]; exact ⟨fun q => absurd q (by decide), fun q => absurd h q⟩
  · rw [b2_f h]; exact ⟨fun _ => h, fun _ => rfl⟩
theorem vp_in_80 {p : Int32} : vp_in p 80 ↔ ¬ p < 0 ∧ ¬ 80 ≤ p := by
  rw [vp_in_iff, Int32.lt_iff_toInt_lt, Int32.le_iff_toInt_le]
  have h0 : (0 : Int32).toInt = 0 := rfl
  have h8 : (80 : Int32).toInt = 80 := rfl
  rw [h0, h8]
  omega
/-- node k of tree i is there, and a child of p -/
abbrev isCh (σ : qS) (i k : Nat) (p : Int32) : Prop := σ.1 31 i k ≠ 0 ∧ σ.1 2 0 k = p
abbrev hlds (σ : qS) (i : Nat) (p : Int32) : Prop := (¬ p < 0 ∧ ¬ 80 ≤ p) ∧ σ.1 31 i p.toNatClampNeg ≠ 0
section CQ
variable {F i : Nat} {σ : qS}
theorem e_isWithin {a b c : Int32} : fX8_isWithin F a b c σ = some (b2 (¬ a < b ∧ ¬ c < a), σ) := by
  unfold fX8_isWithin fX8_isWithin_14 fX8_isWithin_15
  by_cases h : a < b
  · rw [if_pos h, gbl_0, b2_f (fun q => q.1 h)]
  · rw [if_neg h]
    by_cases h2 : c < a
    · rw [if_pos h2, gbl_0, b2_f (fun q => q.2 h2)]
    · rw [if_neg h2, gbl_1, b2_t ⟨h, h2⟩]
theorem e_holds {p : Int32} (hi : i < 6) : fX7_holds F i p σ = some (b2 (hlds σ i p), σ) := by
  unfold fX7_holds fX7_holds_23 fX7_holds_24
  rw [gnl_pos hi]
  by_cases h : p < 0
  · rw [if_pos h, gbl_0, b2_f (fun q => q.1.1 h)]
  · rw [if_neg h]
    by_cases h2 : 80 ≤ p
    · rw [if_pos h2, gbl_0, b2_f (fun q => q.1.2 h2)]
    · rw [if_neg h2, ldi_in (vp_in_80.mpr ⟨h, h2⟩)]
      by_cases h3 : σ.1 31 i p.toNatClampNeg = 0
      · rw [if_pos h3, gbl_0, b2_f (fun q => q.2 h3)]
      · rw [if_neg h3, gbl_1, b2_t ⟨⟨h, h2⟩, h3⟩]
theorem e_isChild {k : Nat} {p : Int32} (hi : i < 6) (hk : k < 80) : fX7_isChild F i (nI k) p σ = some (b2 (isCh σ i k p), σ) := by
  unfold fX7_isChild fX7_isChild_26 fX7_isChild_27
  rw [gnl_pos hi, ldi_nI hk (by decide)]
  by_cases h : σ.1 31 i k = 0
  · rw [if_pos h, gbl_0, b2_f (fun q => q.1 h)]
  · rw [if_neg h, ldi_nI hk (by decide)]
    by_cases h2 : σ.1 2 0 k = p
    · rw [if_pos h2, gbl_1, b2_t ⟨h, h2⟩]
    · rw [if_neg h2, gbl_0, b2_f (fun q => h2 q.2)]
def chF (σ : qS) (i : Nat) (p : Int32) (k : Nat) (c : Int32) : Int32 := if isCh σ i k p then c + 1 else c
theorem e_childrenOf_l {p : Int32} (hi : i < 6) : ∀ (d t n : Nat) (x : Int32), t + d = 80 → d < n → fX7_childrenOf_4 F i n p x (nI t) σ = some (rng (chF σ i p) t d x, σ) := by
  intro d
  induction d with
  | zero =>
    intro t n x h hn
    obtain ⟨n, rfl⟩ : ∃ m, n = m + 1 := ⟨n - 1, by omega⟩
    rw [fX7_childrenOf_4, if_pos (le80 (by omega) (by omega))]
    rfl
  | succ d ih =>
    intro t n x h hn
    obtain ⟨n, rfl⟩ : ∃ m, n = m + 1 := ⟨n - 1, by omega⟩
    rw [fX7_childrenOf_4, if_neg (nle80 (by omega)), e_isChild hi (by omega), bnd2_s]
    unfold fX7_childrenOf_22
    by_cases c : isCh σ i t p
    · rw [if_neg (fun q => b2_0.mp q c), nm_x, nm_x, nI_1, ih (t + 1) n (x + 1) (by omega) (by omega)]
      show _ = some (rng (chF σ i p) (t + 1) d (chF σ i p t x), σ)
      unfold chF
      rw [if_pos c]
    · rw [if_pos (b2_0.mpr c), nm_x, nI_1, ih (t + 1) n x (by omega) (by omega)]
      show _ = some (rng (chF σ i p) (t + 1) d (chF σ i p t x), σ)
      unfold chF
      rw [if_neg c]
/-- how many children -/
def nCh (σ : qS) (i : Nat) (p : Int32) : Int32 := rng (chF σ i p) 1 79 0
theorem e_childrenOf {p : Int32} (hF : 100 ≤ F) (hi : i < 6) : fX7_childrenOf F i p σ = some (nCh σ i p, σ) := by
  unfold fX7_childrenOf
  rw [gnl_pos hi]
  exact e_childrenOf_l hi 79 1 F 0 rfl (by omega)
abbrev isNm (σ : qS) (i : Nat) (p q : Int32) (k : Nat) : Prop := isCh σ i k p ∧ σ.1 3 0 k = q
theorem e_hasChildNamed_l {p q : Int32} (hi : i < 6) : ∀ (d t n : Nat), t + d = 80 → d < n → ∃ v, fX7_hasChildNamed_2 F i n p q (nI t) σ = some (v, σ) ∧ ((v = 1 ∧ ∃ k, t ≤ k ∧ k < 80 ∧ isNm σ i p q k) ∨ (v = 0 ∧ ∀ k, t ≤ k → k < 80 → ¬ isNm σ i p q k)) := by
  intro d
  induction d with
  | zero =>
    intro t n h hn
    obtain ⟨n, rfl⟩ : ∃ m, n = m + 1 := ⟨n - 1, by omega⟩
    rw [fX7_hasChildNamed_2, if_pos (le80 (by omega) (by omega)), gbl_0]
    exact ⟨0, rfl, Or.inr ⟨rfl, fun k h1 h2 => by omega⟩⟩
  | succ d ih =>
    intro t n h hn
    obtain ⟨n, rfl⟩ : ∃ m, n = m + 1 := ⟨n - 1, by omega⟩
    rw [fX7_hasChildNamed_2, if_neg (nle80 (by omega)), e_isChild hi (by omega), bnd2_s]
    unfold fX7_hasChildNamed_32
    have next : ¬ isNm σ i p q t → ∃ v, nm (nI t + 1) (fun v5 => fX7_hasChildNamed_2 F i n p q v5 σ) = some (v, σ) ∧ ((v = 1 ∧ ∃ k, t ≤ k ∧ k < 80 ∧ isNm σ i p q k) ∨ (v = 0 ∧ ∀ k, t ≤ k → k < 80 → ¬ isNm σ i p q k)) := by
      intro hno
      rw [nm_x, nI_1]
      obtain ⟨v, h1, h2⟩ := ih (t + 1) n (by omega) (by omega)
      refine ⟨v, h1, ?_⟩
      rcases h2 with ⟨h2, k, h3, h4, h5⟩ | ⟨h2, h3⟩
      · exact Or.inl ⟨h2, k, by omega, h4, h5⟩
      · refine Or.inr ⟨h2, fun k h4 h5 => ?_⟩
        by_cases e : k = t
        · subst e; exact hno
        · exact h3 k (by omega) h5
    by_cases c : isCh σ i t p
    · rw [if_neg (fun q => b2_0.mp q c), ldi_nI (by omega) (by decide)]
      by_cases c2 : σ.1 3 0 t = q
      · rw [if_pos c2, gbl_1]
        exact ⟨1, rfl, Or.inl ⟨rfl, t, Nat.le_refl _, by omega, c, c2⟩⟩
      · rw [if_neg c2]
        exact next (fun h9 => c2 h9.2)
    · rw [if_pos (b2_0.mpr c)]
      exact next (fun h9 => c h9.1)
theorem e_hasChildNamed {p q : Int32} (hF : 100 ≤ F) (hi : i < 6) : ∃ v, fX7_hasChildNamed F i p q σ = some (v, σ) ∧ ((v = 1 ∧ ∃ k, 1 ≤ k ∧ k < 80 ∧ isNm σ i p q k) ∨ (v = 0 ∧ ∀ k, 1 ≤ k → k < 80 → ¬ isNm σ i p q k)) := by
  unfold fX7_hasChildNamed
  rw [gnl_pos hi]
  exact e_hasChildNamed_l hi 79 1 F rfl (by omega)
/-- the child with the lowest name above one -/
def nxF (σ : qS) (i : Nat) (p low : Int32) (k : Nat) (b : Int32) : Int32 := if isCh σ i k p ∧ ¬ σ.1 3 0 k ≤ low ∧ (b < 0 ∨ ¬ σ.1 3 0 b.toNatClampNeg ≤ σ.1 3 0 k) then nI k else b
theorem e_nextChild_l {p low : Int32} (hi : i < 6) : ∀ (d t n : Nat) (b : Int32), t + d = 80 → d < n → (b < 0 ∨ vp_in b 80) → fX7_nextChild_6 F i n p low b (nI t) σ = some (rng (nxF σ i p low) t d b, σ) := by
  intro d
  induction d with
  | zero =>
    intro t n b h hn hb
    obtain ⟨n, rfl⟩ : ∃ m, n = m + 1 := ⟨n - 1, by omega⟩
    rw [fX7_nextChild_6, if_pos (le80 (by omega) (by omega))]
    rfl
  | succ d ih =>
    intro t n b h hn hb
    obtain ⟨n, rfl⟩ : ∃ m, n = m + 1 := ⟨n - 1, by omega⟩
    rw [fX7_nextChild_6, if_neg (nle80 (by omega)), e_isChild hi (by omega), bnd2_s]
    unfold fX7_nextChild_63 fX7_nextChild_66
    simp only [nm_x, nI_1]
    have hno : ¬ (isCh σ i t p ∧ ¬ σ.1 3 0 t ≤ low ∧ (b < 0 ∨ ¬ σ.1 3 0 b.toNatClampNeg ≤ σ.1 3 0 t)) → fX7_nextChild_6 F i n p low b (nI (t + 1)) σ = some (rng (nxF σ i p low) t (d + 1) b, σ) := fun c => by
      rw [ih (t + 1) n b (by omega) (by omega) hb]
      show _ = some (rng (nxF σ i p low) (t + 1) d (nxF σ i p low t b), σ)
      rw [show nxF σ i p low t b = b from if_neg c]
    have hyes : (isCh σ i t p ∧ ¬ σ.1 3 0 t ≤ low ∧ (b < 0 ∨ ¬ σ.1 3 0 b.toNatClampNeg ≤ σ.1 3 0 t)) → fX7_nextChild_6 F i n p low (nI t) (nI (t + 1)) σ = some (rng (nxF σ i p low) t (d + 1) b, σ) := fun c => by
      rw [ih (t + 1) n (nI t) (by omega) (by omega) (Or.inr (in_nI (by omega) (by decide)))]
      show _ = some (rng (nxF σ i p low) (t + 1) d (nxF σ i p low t b), σ)
      rw [show nxF σ i p low t b = nI t from if_pos c]
    by_cases c : isCh σ i t p
    · rw [if_neg (fun q => b2_0.mp q c), ldi_nI (by omega) (by decide)]
      by_cases c2 : σ.1 3 0 t ≤ low
      · rw [if_pos c2]; exact hno (fun h9 => h9.2.1 c2)
      · rw [if_neg c2]
        by_cases c3 : b < 0
        · rw [if_pos c3]; exact hyes ⟨c, c2, Or.inl c3⟩
        · rw [if_neg c3, ldi_nI (by omega) (by decide), ldi_in (hb.resolve_left c3)]
          by_cases c4 : σ.1 3 0 b.toNatClampNeg ≤ σ.1 3 0 t
          · rw [if_pos c4]; exact hno (fun h9 => h9.2.2.elim c3 (fun q => q c4))
          · rw [if_neg c4]; exact hyes ⟨c, c2, Or.inr c4⟩
    · rw [if_pos (b2_0.mpr c)]; exact hno (fun h9 => c h9.1)
def nxC (σ : qS) (i : Nat) (p low : Int32) : Int32 := rng (nxF σ i p low) 1 79 (-100)
theorem e_nextChild {p low : Int32} (hF : 100 ≤ F) (hi : i < 6) : fX7_nextChild F i p low σ = some (nxC σ i p low, σ) := by
  unfold fX7_nextChild
  rw [gnl_pos hi]
  exact e_nextChild_l hi 79 1 F (-100) rfl (by omega) (Or.inl (by decide))
theorem e_firstChild {p : Int32} (hF : 100 ≤ F) (hi : i < 6) : fX7_firstChild F i p σ = some (nxC σ i p (-1), σ) := by
  unfold fX7_firstChild
  rw [gnl_pos hi, e_nextChild hF hi, bnd2_s]
/-- of all children above a name the lowest, the first among these -/
theorem nxC_spec {p low : Int32} : (nxC σ i p low = -100 ∧ ∀ k, 1 ≤ k → k < 80 → isCh σ i k p → σ.1 3 0 k ≤ low) ∨ (∃ q, 1 ≤ q ∧ q < 80 ∧ nxC σ i p low = nI q ∧ isCh σ i q p ∧ ¬ σ.1 3 0 q ≤ low ∧ ∀ k, 1 ≤ k → k < 80 → isCh σ i k p → ¬ σ.1 3 0 k ≤ low → σ.1 3 0 q ≤ σ.1 3 0 k) := by
  have main : ∀ d, d ≤ 79 → ((rng (nxF σ i p low) 1 d (-100) = -100 ∧ ∀ k, 1 ≤ k → k < 1 + d → isCh σ i k p → σ.1 3 0 k ≤ low) ∨ (∃ q, 1 ≤ q ∧ q < 80 ∧ rng (nxF σ i p low) 1 d (-100) = nI q ∧ isCh σ i q p ∧ ¬ σ.1 3 0 q ≤ low ∧ ∀ k, 1 ≤ k → k < 1 + d → isCh σ i k p → ¬ σ.1 3 0 k ≤ low → σ.1 3 0 q ≤ σ.1 3 0 k)) := by
    intro d
    induction d with
    | zero => intro _; exact Or.inl ⟨rfl, fun k h1 h2 => by omega⟩
    | succ d ih =>
      intro hd
      rw [show d + 1 = d + 1 from rfl, rng_split (d := d) (e := 1)]
      show (nxF σ i p low (1 + d) _ = -100 ∧ _) ∨ _
      rcases ih (by omega) with ⟨h1, h2⟩ | ⟨q, h1, h2, h3, h4, h5, h6⟩
      · rw [h1]
        by_cases c : isCh σ i (1 + d) p ∧ ¬ σ.1 3 0 (1 + d) ≤ low
        · refine Or.inr ⟨1 + d, by omega, by omega, if_pos ⟨c.1, c.2, Or.inl (by decide)⟩, c.1, c.2, fun k h3 h4 h5 h6 => ?_⟩
          by_cases e : k = 1 + d
          · subst e; exact Int32.le_refl _
          · exact absurd (h2 k h3 (by omega) h5) h6
        · refine Or.inl ⟨if_neg (fun h9 => c ⟨h9.1, h9.2.1⟩), fun k h3 h4 h5 => ?_⟩
          by_cases e : k = 1 + d
          · subst e; exact Decidable.byContradiction fun h9 => c ⟨h5, h9⟩
          · exact h2 k h3 (by omega) h5
      · rw [h3]
        have hq : (nI q).toNatClampNeg = q := ix_nI (by omega)
        by_cases c : isCh σ i (1 + d) p ∧ ¬ σ.1 3 0 (1 + d) ≤ low ∧ (nI q < 0 ∨ ¬ σ.1 3 0 (nI q).toNatClampNeg ≤ σ.1 3 0 (1 + d))
        · have c3 : ¬ σ.1 3 0 q ≤ σ.1 3 0 (1 + d) := by
            rcases c.2.2 with h9 | h9
            · exact absurd h9 (nI_pos (by omega))
            · rwa [hq] at h9
          refine Or.inr ⟨1 + d, by omega, by omega, if_pos c, c.1, c.2.1, fun k g3 g4 g5 g6 => ?_⟩
          by_cases e : k = 1 + d
          · subst e; exact Int32.le_refl _
          · exact Int32.le_trans (Int32.le_of_lt (Int32.not_le.mp c3)) (h6 k g3 (by omega) g5 g6)
        · refine Or.inr ⟨q, h1, h2, if_neg c, h4, h5, fun k g3 g4 g5 g6 => ?_⟩
          by_cases e : k = 1 + d
          · subst e
            exact Decidable.byContradiction fun h9 => c ⟨g5, g6, Or.inr (by rw [hq]; exact h9)⟩
          · exact h6 k g3 (by omega) g5 g6
  exact main 79 (Nat.le_refl _)
end CQ

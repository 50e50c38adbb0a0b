/-! PURE: what acts do, in both; what goes -/
/-- the log, the truth and births from M0 on differ alone -/
def frB (σ σ' : qS) (S M0 : Nat) : Prop := σ'.2 = σ.2 ∧ ∀ f j k, f ≠ 38 → f ≠ 39 → ¬ (j = 0 ∧ 31 ≤ f ∧ f ≤ 37) → ¬ (j = 0 ∧ 10 ≤ f ∧ f ≤ 13 ∧ S ≤ k) → ¬ (f = 9 ∧ j = 0 ∧ k = 4) → ¬ (j = 0 ∧ 2 ≤ f ∧ f ≤ 6 ∧ M0 ≤ k) → ¬ (f = 1 ∧ j = 0 ∧ k = 5) → σ'.1 f j k = σ.1 f j k
def frD (m m' : qS) (R M0 : Nat) : Prop := m'.2 = m.2 ∧ ∀ f j x, ¬ (j = 0 ∧ 108 ≤ f ∧ f ≤ 114 ∧ x < 80) → ¬ (j = 0 ∧ 120 ≤ f ∧ f ≤ 124 ∧ R ≤ x) → ¬ (f = 0 ∧ j = 0 ∧ (x = 25 ∨ x = 7)) → ¬ (j = 0 ∧ ((100 ≤ f ∧ f ≤ 104) ∨ f = 106) ∧ M0 ≤ x) → ¬ (f = 105 ∧ j = 0) → m'.1 f j x = m.1 f j x
theorem frB_rf {σ : qS} {S M0 : Nat} : frB σ σ S M0 := ⟨rfl, fun _ _ _ _ _ _ _ _ _ _ => rfl⟩
theorem frD_rf {m : qS} {R M0 : Nat} : frD m m R M0 := ⟨rfl, fun _ _ _ _ _ _ _ _ => rfl⟩
theorem frB_tr {a b c : qS} {S S' M0 : Nat} (h : frB a b S M0) (g : frB b c S' M0) (hS : S ≤ S') : frB a c S M0 := ⟨g.1.trans h.1, fun f j k w1 w2 w3 w4 w5 w6 w7 => (g.2 f j k w1 w2 w3 (by omega) w5 w6 w7).trans (h.2 f j k w1 w2 w3 w4 w5 w6 w7)⟩
theorem frD_tr {a b c : qS} {S S' M0 : Nat} (h : frD a b S M0) (g : frD b c S' M0) (hS : S ≤ S') : frD a c S M0 := ⟨g.1.trans h.1, fun f j k w1 w2 w3 w4 w5 => (g.2 f j k w1 (by omega) w3 w4 w5).trans (h.2 f j k w1 w2 w3 w4 w5)⟩
theorem frA_B {a b : qS} {S M0 : Nat} (h : frA a b S) : frB a b S M0 := ⟨h.1, fun f j k w1 w2 w3 w4 w5 _ _ => h.2 f j k w1 w2 w3 w4 w5⟩
theorem frM_D {a b : qS} {S M0 : Nat} (h : frM a b S) : frD a b S M0 := ⟨h.1, fun f j k w1 w2 w3 _ _ => h.2 f j k w1 w2 (by omega)⟩
/-- both went on, by changes of number L + 1; a and b are how much more there may be -/
def eX (M0 L a b : Nat) (σ m : qS) (C : Nat → qS) (π : Nat → Nat) (M S : Nat) (σ' m' : qS) (C' : Nat → qS) (π' : Nat → Nat) (M' S' : Nat) : Prop := kA σ' m' C' π' M' S' ∧ frB σ σ' S M0 ∧ frD m m' (π S) M0 ∧ S ≤ S' ∧ M ≤ M' ∧ (∀ i, i ≤ S → tEq (C' i) 0 (C i) 0 ∧ π' i = π i) ∧ (∀ i, i < S → chN σ' i = chN σ i) ∧ (∀ i, S ≤ i → i < S' → chN σ' i = L + 1) ∧ S' + nH (C' S') + M ≤ S + nH (C S) + M' + a ∧ π' S' + nH (C' S') ≤ π S + nH (C S) + b
theorem tEq_tr {a b c : qS} {i j k : Nat} (h : tEq a i b j) (g : tEq b j c k) : tEq a i c k := fun f q h1 h2 h3 => (h f q h1 h2 h3).trans (g f q h1 h2 h3)
theorem tEq_rf {a : qS} {i : Nat} : tEq a i a i := fun _ _ _ _ _ => rfl
theorem eX_rf {M0 L : Nat} {σ m : qS} {C : Nat → qS} {π : Nat → Nat} {M S : Nat} (h : kA σ m C π M S) : eX M0 L 0 0 σ m C π M S σ m C π M S := ⟨h, frB_rf, frD_rf, Nat.le_refl _, Nat.le_refl _, fun _ _ => ⟨tEq_rf, rfl⟩, fun _ _ => rfl, fun i h1 h2 => by omega, by omega, by omega⟩
theorem eX_tr {M0 L a b a' b' : Nat} {σ m σ1 m1 σ2 m2 : qS} {C C1 C2 : Nat → qS} {π π1 π2 : Nat → Nat} {M S M1 S1 M2 S2 : Nat} (hk : kA σ m C π M S) (h : eX M0 L a b σ m C π M S σ1 m1 C1 π1 M1 S1) (g : eX M0 L a' b' σ1 m1 C1 π1 M1 S1 σ2 m2 C2 π2 M2 S2) : eX M0 L (a + a') (b + b') σ m C π M S σ2 m2 C2 π2 M2 S2 := by
  obtain ⟨h1, h2, h3, h4, h5, h6, h7, h8, h9, h10⟩ := h
  obtain ⟨g1, g2, g3, g4, g5, g6, g7, g8, g9, g10⟩ := g
  have hp : π S ≤ π1 S1 := by
    rw [← (h6 S (Nat.le_refl _)).2]
    exact kLog_mono h1.1 h4 (Nat.le_refl _)
  refine ⟨g1, frB_tr h2 g2 h4, frD_tr h3 g3 hp, by omega, by omega, fun i hi => ⟨tEq_tr (g6 i (by omega)).1 (h6 i hi).1, (g6 i (by omega)).2.trans (h6 i hi).2⟩, fun i hi => (g7 i (by omega)).trans (h7 i hi), fun i q1 q2 => ?_, by omega, by omega⟩
  by_cases c : i < S1
  · rw [g7 i c]; exact h8 i q1 c
  · exact g8 i (by omega) q2
/-- what the reference's questions about the truth need -/
theorem kA_rok {σ m : qS} {C : Nat → qS} {π : Nat → Nat} {M S : Nat} (h : kA σ m C π M S) : rok m 0 M := by
  obtain ⟨hl, ⟨b1, b2, b3, b4, b5, b6⟩, ht, hr, hc⟩ := h
  obtain ⟨g0, g1⟩ := hl.2.2.2 S (Nat.le_refl _)
  refine ⟨b2, b4, b5, fun k hk => ?_⟩
  rw [vw31, (hr k hk).1]
  exact g0.2.1 k hk
theorem kA_31 {σ m : qS} {C : Nat → qS} {π : Nat → Nat} {M S : Nat} (h : kA σ m C π M S) {k : Nat} (hk : k < 80) : σ.1 31 0 k = (C S).1 31 0 k ∧ (vw m).1 31 0 k = (C S).1 31 0 k := by
  obtain ⟨hl, hb, ht, hr, hc⟩ := h
  exact ⟨ht 31 k (by decide) (by decide) hk, by rw [vw31, (hr k hk).1]⟩
/-- the children that both see -/
theorem nCh_congr {a b : qS} {i j : Nat} {p : Int32} (h : ∀ k, 1 ≤ k → k < 80 → (isCh a i k p ↔ isCh b j k p)) : nCh a i p = nCh b j p := by
  unfold nCh
  apply rng_congr
  intro k x h1 h2
  unfold chF
  by_cases c : isCh a i k p
  · rw [if_pos c, if_pos ((h k h1 (by omega)).mp c)]
  · rw [if_neg c, if_neg (fun h9 => c ((h k h1 (by omega)).mpr h9))]
theorem kA_isCh {σ m : qS} {C : Nat → qS} {π : Nat → Nat} {M S : Nat} (h : kA σ m C π M S) {k : Nat} {p : Int32} (hk : k < 80) : (isCh σ 0 k p ↔ isCh (C S) 0 k p) ∧ (isCh (vw m) 0 k p ↔ isCh (C S) 0 k p) := by
  obtain ⟨e1, e2⟩ := kA_31 h hk
  obtain ⟨g0, g1⟩ := kA_here h
  unfold isCh
  rw [e1, e2]
  refine ⟨and_congr_right fun hh => ?_, and_congr_right fun hh => ?_⟩
  · rw [g1 2 k (by decide) (by decide) (gdT_M g0 hk hh) hk]
  · have hb := (h.2.1.2.2.2.2.2 k hk (gdT_M g0 hk hh)).1
    show m.1 100 0 k = p ↔ _
    rw [hb, g1 2 k (by decide) (by decide) (gdT_M g0 hk hh) hk]
theorem nCh_0 {a : qS} {i : Nat} {p : Int32} (h : nCh a i p = 0) : ∀ k, 1 ≤ k → k < 80 → ¬ isCh a i k p := by
  have e : ∀ t d x, rng (chF a i p) t d (nI x) = nI (x + cntN (fun k => isCh a i k p) t d) := by
    intro t d
    induction d generalizing t with
    | zero => intro x; rfl
    | succ d ih =>
      intro x
      rw [cntN_s]
      show rng (chF a i p) (t + 1) d (chF a i p t (nI x)) = _
      unfold chF
      by_cases c : isCh a i t p
      · rw [if_pos c, if_pos c, nI_1]
        have := ih (t + 1) (x + 1)
        unfold chF at this
        rw [this, Nat.add_assoc]
      · rw [if_neg c, if_neg c]
        have := ih (t + 1) x
        unfold chF at this
        rw [this, Nat.zero_add]
  intro k h1 h2 hk
  have e0 := e 1 79 0
  unfold nCh at h
  rw [show nI 0 = (0 : Int32) from rfl, h, Nat.zero_add] at e0
  have hle : cntN (fun k => isCh a i k p) 1 79 ≤ 79 := cntN_le
  have h0 : cntN (fun k => isCh a i k p) 1 79 = 0 := (nI_inj (b := 0) (by omega) (by omega) e0.symm)
  have hlt := cntN_lt (p := fun _ => False) (q := fun k => isCh a i k p) (t := 1) (d := 79) (fun k _ _ h => h.elim) (x := k) h1 (by omega) hk (fun h => h)
  omega
theorem nCh_val {a : qS} {i : Nat} {p : Int32} : nCh a i p = nI (cntN (fun k => isCh a i k p) 1 79) := by
  have e : ∀ t d x, rng (chF a i p) t d (nI x) = nI (x + cntN (fun k => isCh a i k p) t d) := by
    intro t d
    induction d generalizing t with
    | zero => intro x; rfl
    | succ d ih =>
      intro x
      rw [cntN_s]
      show rng (chF a i p) (t + 1) d (chF a i p t (nI x)) = _
      unfold chF
      by_cases c : isCh a i t p
      · rw [if_pos c, if_pos c, nI_1]
        have := ih (t + 1) (x + 1)
        unfold chF at this
        rw [this, Nat.add_assoc]
      · rw [if_neg c, if_neg c]
        have := ih (t + 1) x
        unfold chF at this
        rw [this, Nat.zero_add]
  have e0 := e 1 79 0
  rw [Nat.zero_add] at e0
  exact e0
theorem nCh_le0 {a : qS} {i : Nat} {p : Int32} (h : nCh a i p ≤ 0) : nCh a i p = 0 := by
  rw [nCh_val] at h ⊢
  have hle : cntN (fun k => isCh a i k p) 1 79 ≤ 79 := cntN_le
  have := (nI_le' (b := 0) (by omega) (by omega)).mp h
  rw [show cntN (fun k => isCh a i k p) 1 79 = 0 by omega]
  rfl
section GO
variable {F : Nat}
theorem pr_goes {M0 L M : Nat} (hL9 : L + 1 < 2 ^ 31) (hF : 100 ≤ F) : ∀ (n : Nat) (σ m : qS) (C : Nat → qS) (π : Nat → Nat) (S x N N' : Nat), kA σ m C π M S → 1 ≤ n → n < 80 → (C S).1 31 0 n ≠ 0 → (∀ k, 1 ≤ k → k < 80 → (C S).1 31 0 k ≠ 0 → parN (C S) k ≠ n) → σ.1 0 0 15 = nI L → m.1 0 0 27 = nI (L + 1) → S + nH (C S) ≤ 999 → π S + nH (C S) ≤ 90000 → x + n ≤ 79 → n < N → n + 1 < N' →
    ∃ σ' m' C' π' S' g, fX8_letGo_4 F N (nI n) (nI x) σ = some (nI g, σ') ∧ fX9_goes_7 F N' (nI x) (nI n) 1 m = some (nI g, m') ∧ x < g ∧ g ≤ 80 ∧ eX M0 L 0 0 σ m C π M S σ' m' C' π' M S' := by
  intro n
  induction n using Nat.strongRecOn with
  | ind n ih =>
    intro σ m C π S x N N' h h1 h8 hh hnc hL h27 hS hR hx hN hN'
    obtain ⟨N, rfl⟩ : ∃ k, N = k + 1 := ⟨N - 1, by omega⟩
    obtain ⟨N', rfl⟩ : ∃ k, N' = k + 1 := ⟨N' - 1, by omega⟩
    obtain ⟨g0, g1⟩ := kA_here h
    have hnM := gdT_M g0 h8 hh
    have hsk : sOK (C S) 2 n M := ⟨h8, hnM, by decide, fun h => by omega, fun _ => hh, fun _ => h1, fun h => by omega⟩
    have hH := nH_pos h8 hh
    obtain ⟨σ1, m1, C1, π1, r1, r2, r3, r4, r5, r6, r7, r8, r9, r10⟩ := pr_rec (F := F) (kd := 2) (v := 0) (w := 0) h (Or.inr rfl) hsk (gd_gone g0 hsk hnc) hL hL9 h27 (by omega) (by omega) hF
    have hH1 := nH_gone (v := 0) h8 hh
    rw [← r7] at hH1
    have ex1 : eX M0 L 0 0 σ m C π M S σ1 m1 C1 π1 M (S + 1) := ⟨r3, frA_B r4, frM_D r5, by omega, Nat.le_refl _, fun i hi => ⟨by rw [(r8 i hi).1]; exact tEq_rf, (r8 i hi).2⟩, r9, fun i q1 q2 => by
      obtain rfl : i = S := by omega
      exact r10, by omega, by omega⟩
    obtain ⟨hp1, hp2⟩ := bwf_par h.2.1.2.2.1 h1 h8 hnM
    have e2 : σ1.1 2 0 n = nI (parN σ n) := by rw [r4.2 2 0 n (by omega) (by omega) (by omega) (by omega) (by omega)]; exact hp1
    have e100 : m1.1 100 0 n = nI (parN σ n) := by
      rw [r5.2 100 0 n (by omega) (by omega) (by omega), (h.2.1.2.2.2.2.2 n h8 hnM).1]; exact hp1
    have gone : ∀ k, (C1 (S + 1)).1 31 0 k = if k = n then 0 else (C S).1 31 0 k := fun k => by
      rw [r7, stC_t (by decide) (by decide), apT_2]
      by_cases e : k = n
      · rw [if_pos ⟨e, rfl⟩, if_pos e]
      · rw [if_neg (fun h => e h.1), if_neg (by omega), if_neg e]
    rw [fX8_letGo_4, show (2 : Int32) = nI 2 from rfl, r1, bnd_s]
    simp only [nm_x, nI_1]
    rw [ldi_nI h8 i80', e2, if_neg (nle80 (by omega))]
    rw [fX9_goes_7, if_neg (show ¬ (1 : Int32) = 0 by decide), show (2 : Int32) = nI 2 from rfl, r2, bnd_s]
    simp only [nm_x, nI_1]
    rw [ldi_nI h8 i80', e100]
    unfold fX8_letGo_58 fX9_goes_57 fX9_goes_58
    obtain ⟨N'', rfl⟩ : ∃ k, N' = k + 1 := ⟨N' - 1, by omega⟩
    have stop : ∃ σ' m' C' π' S' g, (some (nI (x + 1), σ1) : Option (Int32 × qS)) = some (nI g, σ') ∧ fX9_goes_7 F (N'' + 1) (nI (x + 1)) (nI (parN σ n)) 0 m1 = some (nI g, m') ∧ x < g ∧ g ≤ 80 ∧ eX M0 L 0 0 σ m C π M S σ' m' C' π' M S' := by
      rw [fX9_goes_7, if_pos rfl]
      exact ⟨σ1, m1, C1, π1, S + 1, x + 1, rfl, rfl, by omega, by omega, ex1⟩
    by_cases c1 : parN σ n = 0
    · rw [c1, if_pos (by decide), if_pos (by decide)]
      rw [c1] at stop
      exact stop
    · rw [if_neg (nI_nle (by omega) (by omega)), if_neg (nI_nle (by omega) (by omega)), ldi_nI (by omega) i80', ldi_nI (by omega) i80']
      have hpM : parN σ n < M := by omega
      have ek : σ1.1 4 0 (parN σ n) = σ.1 4 0 (parN σ n) := r4.2 4 0 _ (by omega) (by omega) (by omega) (by omega) (by omega)
      have ek2 : m1.1 102 0 (parN σ n) = σ.1 4 0 (parN σ n) := by
        rw [r5.2 102 0 _ (by omega) (by omega) (by omega), (h.2.1.2.2.2.2.2 _ (by omega) hpM).2.2.1]
      rw [ek, ek2]
      by_cases c2 : σ.1 4 0 (parN σ n) = 3
      · rw [if_pos c2, if_pos c2, e_childrenOf hF (by decide), show (0 : Int32) = nI 0 from rfl, e_children (kA_rok r3) hF (by decide), bnd2_s, bnd2_s]
        have ec : nCh (vw m1) 0 (nI (parN σ n)) = nCh σ1 0 (nI (parN σ n)) := nCh_congr (fun k k1 k2 => (kA_isCh r3 k2).2.trans (kA_isCh r3 k2).1.symm)
        rw [ec]
        by_cases c3 : nCh σ1 0 (nI (parN σ n)) = nI 0
        · rw [if_pos c3, if_pos c3]
          have epar : parN (C S) n = parN σ n := bEq_par g1 h8 hnM
          have hup := g0.2.2.2.1 n h1 h8 hh
          rw [epar] at hup
          obtain ⟨σ', m', C', π', S', g, q1, q2, q3, q4, q5⟩ := ih (parN σ n) hp2 σ1 m1 C1 π1 (S + 1) (x + 1) N (N'' + 1) r3 (by omega) (by omega) (by rw [gone, if_neg (by omega)]; exact hup.1) (fun k k1 k2 k3 k4 => by
            refine nCh_0 (show nCh σ1 0 (nI (parN σ n)) = 0 from c3) k k1 k2 ((kA_isCh r3 k2).1.mpr ⟨k3, ?_⟩)
            obtain ⟨w0, w1⟩ := kA_here r3
            rw [(bwf_par w0.1.1 k1 k2 (gdT_M w0 k2 k3)).1, k4]) (by rw [r4.2 0 0 15 (by omega) (by omega) (by omega) (by omega) (by omega)]; exact hL) (by rw [r5.2 0 0 27 (by omega) (by omega) (by omega)]; exact h27) (by omega) (by omega) (by omega) (by omega) (by omega)
          refine ⟨σ', m', C', π', S', g, q1, q2, by omega, q4, eX_tr h ex1 q5⟩
        · rw [if_neg c3, if_neg c3]
          exact stop
      · rw [if_neg c2, if_neg c2]
        exact stop
end GO

/-! PURE: a server goes on, in the reference and in the class -/
section SQ
variable {F : Nat}
theorem e_folS {σ m : qS} {C : Nat → qS} {π : Nat → Nat} {s i j u M S Z : Nat} {P : Nat → Nat → List (Int32 × Int32) × List Int32} (hs3 : s < 3) (hL : kLog σ m C π M S) (hBr : kBr σ m M) (hpos : m.1 129 0 s = nI (π i)) (hR9 : π S ≤ 90000) (hij : i ≤ j) (hjS : j ≤ S) (hS : S ≤ 999) (hcu : ∀ x, i ≤ x → x < j → chN σ x ≤ u) (hu : u < 2 ^ 31) (hF : 100 ≤ F) (hZ : Z ≤ 10) (h48 : m.1 0 0 48 = nI Z) (hP : ∀ x z, i ≤ x → x < j → P (x + 1) z = hst σ x (P x z)) (hs : ∀ z, z < Z → lvS m s z → ssM m z (8 * i) (P i z)) (hr : 1 ≤ s → rEq m s (fun f k => (C i).1 f 0 k)) :
    ∃ m', (∀ n, fX9_follows_0 F (n + (π j - π i)) (nI s) (nI u) m = fX9_follows_0 F n (nI s) (nI u) m') ∧ m'.1 129 0 s = nI (π j) ∧ frF m m' s Z ∧ (1 ≤ s → rEq m' s (fun f k => (C j).1 f 0 k)) ∧ ∀ z, z < Z → lvS m s z → ssM m' z (8 * j) (P j z) := by
  obtain ⟨b1, b2, b3, b4, b5, b6⟩ := hBr
  have main : ∀ d, i + d ≤ j → ∃ m', (∀ n, fX9_follows_0 F (n + (π (i + d) - π i)) (nI s) (nI u) m = fX9_follows_0 F n (nI s) (nI u) m') ∧ m'.1 129 0 s = nI (π (i + d)) ∧ frF m m' s Z ∧ (1 ≤ s → rEq m' s (fun f k => (C (i + d)).1 f 0 k)) ∧ ∀ z, z < Z → lvS m s z → ssM m' z (8 * (i + d)) (P (i + d) z) := by
    intro d
    induction d with
    | zero =>
      intro _
      exact ⟨m, fun n => by rw [Nat.add_zero, Nat.sub_self, Nat.add_zero], hpos, frF_rf, hr, hs⟩
    | succ d ih =>
      intro hd
      obtain ⟨m1, q1, q2, q3, q4, q5⟩ := ih (by omega)
      obtain ⟨⟨⟨l1, l2, l3, l4⟩, l5, l6⟩, l7, l8⟩ := hL.2.2.1 (i + d) (by omega)
      obtain ⟨g1, g2⟩ := hL.2.2.2 (i + d) (by omega)
      have hm1 : π (i + d + 1) ≤ π S := kLog_mono hL (by omega) (by omega)
      have hm0 : π i ≤ π (i + d) := kLog_mono hL (by omega) (by omega)
      have o : ∀ f q, 115 ≤ f → f ≤ 128 → m1.1 f 0 q = m.1 f 0 q := fun f q h1 h2 => frF_o q3 (by omega)
      have o0 : ∀ f q, f ≤ 107 → m1.1 f 0 q = m.1 f 0 q := fun f q h1 => frF_o q3 (by omega)
      have hblk : blk m1 (C (i + d)) (kdN σ (i + d)) (ndN σ (i + d)) (σ.1 13 0 (i + d)) (chN σ (i + d)) (π (i + d)) := by
        intro k hk hg
        obtain ⟨k1, k2, k3, k4, k5⟩ := l7 k hk hg
        refine ⟨by rw [o _ _ (by omega) (by omega)]; exact k1, by rw [o _ _ (by omega) (by omega)]; exact k2, by rw [o _ _ (by omega) (by omega)]; exact k3, fun h => by rw [o _ _ (by omega) (by omega)]; exact k4 h, fun h => ?_⟩
        rw [o _ _ (by omega) (by omega), o _ _ (by omega) (by omega)]
        exact k5 h
      obtain ⟨m2, r1, r2, r3, r4, r5⟩ := e_folB (F := F) (m := m1) (c := C (i + d)) (s := s) (p0 := π (i + d)) (R := π S) (ch := chN σ (i + d)) (u := u) (kd := kdN σ (i + d)) (n := ndN σ (i + d)) (M := M) (Z := Z) (Bf := fun _ => 8 * (i + d)) (pf := P (i + d)) hs3 q2 (by rw [o0 _ _ (by omega)]; exact hL.2.1) hR9 (by omega) (hcu _ (by omega) (by omega)) hu hblk l5 g1.1.1 (fun k h1 h2 => gdT_M g1 h1 h2) (fun k h1 h2 => by
        rw [o0 _ _ (by omega), (b6 k h1 h2).1]
        exact (g2 2 k (by decide) (by decide) h2 h1).symm) hF hZ (by rw [o0 _ _ (by omega)]; exact h48) (fun z hz hl => ⟨q5 z hz ((frF_lv q3).mp hl), by omega⟩) q4 b4
      refine ⟨m2, fun n => ?_, by rw [r2, ← l8]; rfl, frF_tr q3 r3, fun h => rEq_congr (r4 h) (fun f k h1 h2 h3 => ?_), fun z hz hl => ?_⟩
      · have e : n + (π (i + (d + 1)) - π i) = (n + blkN (C (i + d)) (kdN σ (i + d)) (ndN σ (i + d))) + (π (i + d) - π i) := by
          show n + (π (i + d + 1) - π i) = _
          omega
        rw [e, q1, r1]
      · exact l6 f k h1 (by omega) h3
      · have h5 := r5 z hz ((frF_lv q3).mpr hl)
        have eh := upM_hst (m := m1) (σ := σ) (M := M) (i := i + d) (p := P (i + d) z) l5.1 l5.2.1 b3 (fun k h1 h2 => by
          rw [o0 _ _ (by omega)]
          exact (b6 k h1 h2).1)
        show ssM m2 z (8 * (i + d) + 8) (P (i + d + 1) z)
        rw [hP (i + d) z (by omega) (by omega), ← eh]
        exact h5
  obtain ⟨m', h1, h2, h3, h4, h5⟩ := main (j - i) (by omega)
  rw [show i + (j - i) = j by omega] at h1 h2 h4 h5
  exact ⟨m', h1, h2, h3, h4, h5⟩
/-- the same but for server s's tree and place -/
def frS (σ σ' : qS) (s : Nat) : Prop := σ'.2 = σ.2 ∧ ∀ f j q, f ≠ 38 → f ≠ 39 → ¬ (31 ≤ f ∧ f ≤ 37 ∧ j = s) → ¬ (f = 8 ∧ j = s ∧ q = 2) → σ'.1 f j q = σ.1 f j q
theorem frS_rf {σ : qS} {s : Nat} : frS σ σ s := ⟨rfl, fun _ _ _ _ _ _ _ => rfl⟩
theorem frS_tr {a b c : qS} {s : Nat} (h : frS a b s) (g : frS b c s) : frS a c s := ⟨g.1.trans h.1, fun f j q w1 w2 w3 w4 => (g.2 f j q w1 w2 w3 w4).trans (h.2 f j q w1 w2 w3 w4)⟩
theorem e_catS {σ m : qS} {C : Nat → qS} {π : Nat → Nat} {s i j u M S : Nat} (hs3 : s < 3) (hL : kLog σ m C π M S) (hB : bwf σ M) (hst : σ.1 8 s 2 = nI i) (hcs : σ.1 8 s 1 = nI u) (ht : tEq σ s (C i) 0) (hij : i ≤ j) (hjS : j ≤ S) (hS : S ≤ 999) (hcu : ∀ x, i ≤ x → x < j → chN σ x ≤ u) (hu : u < 2 ^ 31) (hend : j = S ∨ u < chN σ j) (hF : 1100 ≤ F) (x3 : Int32) :
    ∃ σ', fX8_catchUp_30 F s F x3 (nI i) σ = some (x3, σ') ∧ tEq σ' s (C j) 0 ∧ σ'.1 8 s 2 = nI j ∧ frS σ σ' s := by
  have main : ∀ d, i + d ≤ j → ∃ σ', (∀ n, fX8_catchUp_30 F s (n + d) x3 (nI i) σ = fX8_catchUp_30 F s n x3 (nI (i + d)) σ') ∧ tEq σ' s (C (i + d)) 0 ∧ σ'.1 8 s 2 = nI (i + d) ∧ frS σ σ' s := by
    intro d
    induction d with
    | zero => intro _; exact ⟨σ, fun _ => rfl, ht, hst, frS_rf⟩
    | succ d ih =>
      intro hd
      obtain ⟨s1, q1, q2, q3, q4⟩ := ih (by omega)
      obtain ⟨⟨⟨l1, l2, l3, l4⟩, l5, l6⟩, l7, l8⟩ := hL.2.2.1 (i + d) (by omega)
      obtain ⟨g1, g2⟩ := hL.2.2.2 (i + d) (by omega)
      have o : ∀ f j q, f < 8 ∨ (8 < f ∧ f < 31) → s1.1 f j q = σ.1 f j q := fun f j q h => q4.2 f j q (by omega) (by omega) (by omega) (by omega)
      have hb1 : bEq M (C (i + d)) s1 := fun f k h1 h2 h3 h4 => by rw [o f 0 k (by omega)]; exact g2 f k h1 h2 h3 h4
      have hwf := gdT_wf g1
      have hMc := fun k h1 h2 => gdT_M (k := k) g1 h1 h2
      have hp2 : kdN σ (i + d) = 0 ∨ kdN σ (i + d) = 2 → ∃ q, q < ndN σ (i + d) ∧ s1.1 2 0 (ndN σ (i + d)) = nI q := fun h => by
        have h1 : 1 ≤ ndN σ (i + d) := h.elim (fun h => (l5.2.2.2.1 h).1) l5.2.2.2.2.2.1
        obtain ⟨k1, k2⟩ := bwf_par hB h1 l5.1 l5.2.1
        exact ⟨_, k2, by rw [o 2 0 _ (by omega)]; exact k1⟩
      obtain ⟨s2, r1, r2⟩ := e_apply (F := F) (i := s) (σ := s1) (v := σ.1 13 0 (i + d)) (by omega) (by omega) l5.1 l5.2.2.1 hp2 (fun h => ⟨wfT_cp hb1 q2 hwf hMc, by rw [q2 31 _ (by decide) (by decide) l5.1]; exact l5.2.2.2.2.1 (by omega)⟩)
      have oo : ∀ f j q, f < 31 → s2.1 f j q = s1.1 f j q := fun f j q h => by
        rw [r2.2 f j q (by omega) (by omega)]
        by_cases c : j = s
        · subst c; rw [if_pos rfl, apT_off l5.2.2.1 (by omega)]
        · rw [if_neg c]
      have hpar : parN (C (i + d)) (ndN σ (i + d)) < 80 := by
        by_cases h : 1 ≤ ndN σ (i + d)
        · have := (bwf_par g1.1.1 h l5.1 l5.2.1).2
          have := l5.1
          omega
        · have e0 : ndN σ (i + d) = 0 := by omega
          rw [e0]
          unfold parN
          rw [g1.1.1.1]
          decide
      refine ⟨qI s2 8 s 2 (nI (i + d + 1)), fun n => ?_, fun f k h1 h2 h3 => ?_, by rw [qI_ap, if_pos ⟨rfl, rfl, rfl⟩]; rfl, frS_tr q4 ⟨r2.1, fun f j q w1 w2 w3 w4 => ?_⟩⟩
      · have i1k : 1024 ≤ 2 ^ 31 := by decide
        rw [show n + (d + 1) = (n + 1) + d by omega, q1, fX8_catchUp_30]
        simp only [nm_x]
        rw [o 9 0 4 (by omega), hL.1, if_neg (fun h => by have := (nI_le' (by omega) (by omega)).mp h; omega), ldi_nI (by omega) i1k, q4.2 8 s 1 (by omega) (by omega) (by omega) (by omega), hcs, o 10 0 _ (by omega), l3, if_neg (fun h => by have := (nI_lt' (by omega) (by omega)).mp h; have := hcu (i + d) (by omega) (by omega); omega), ldi_nI (by omega) i1k, ldi_nI (by omega) i1k, ldi_nI (by omega) i1k, o 11 0 _ (by omega), o 12 0 _ (by omega), o 13 0 _ (by omega), l1, l2, r1, bnd_s, oo 8 s 2 (by omega), q3, nI_1]
        rfl
      · rw [qI_ap, if_neg (by omega), r2.2 f s k (by omega) (by omega), if_pos rfl, apT_cp l5.2.2.1 l5.1 l5.2.1 hpar hb1 q2 hwf hMc h1 h2 h3]
        exact (l6 f k h1 h2 h3).symm
      · rw [qI_ap, if_neg w4, r2.2 f j q w1 w2]
        by_cases c : j = s
        · subst c; rw [if_pos rfl, apT_off l5.2.2.1 (by omega)]
        · rw [if_neg c]
  obtain ⟨σ', h1, h2, h3, h4⟩ := main (j - i) (by omega)
  rw [show i + (j - i) = j by omega] at h1 h2 h3
  refine ⟨σ', ?_, h2, h3, h4⟩
  obtain ⟨n, hn⟩ : ∃ n, F = (n + 1) + (j - i) := ⟨F - 1 - (j - i), by omega⟩
  have e : fX8_catchUp_30 F s F x3 (nI i) σ = fX8_catchUp_30 F s ((n + 1) + (j - i)) x3 (nI i) σ := by rw [← hn]
  rw [e, h1, fX8_catchUp_30]
  unfold fX8_catchUp_112
  simp only [nm_x]
  have o : ∀ f j q, f < 8 ∨ (8 < f ∧ f < 31) → σ'.1 f j q = σ.1 f j q := fun f j q h => h4.2 f j q (by omega) (by omega) (by omega) (by omega)
  rw [o 9 0 4 (by omega), hL.1]
  by_cases c : j = S
  · subst c
    rw [if_pos (Int32.le_refl _)]
  · have h5 := hend.resolve_left c
    obtain ⟨⟨⟨l1, l2, l3, l4⟩, l5, l6⟩, l7, l8⟩ := hL.2.2.1 j (by omega)
    rw [if_neg (fun h => by have := (nI_le' (by omega) (by omega)).mp h; omega), ldi_nI (by omega) (by decide), h4.2 8 s 1 (by omega) (by omega) (by omega) (by omega), hcs, o 10 0 _ (by omega), l3, if_pos ((nI_lt' hu l4).mpr h5)]
end SQ

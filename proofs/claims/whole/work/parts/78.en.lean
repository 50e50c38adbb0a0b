/-! PURE: what an end takes with it, in both -/
section EN
variable {F : Nat}
theorem pr_ends_l {M0 L M what which : Nat} (hL9 : L + 1 < 2 ^ 31) (hF : 200 ≤ F) (hw : what = 1 ∨ what = 2) : ∀ (d t n n' : Nat) (σ m : qS) (C : Nat → qS) (π : Nat → Nat) (S : Nat) (x : Int32), t + d = 80 → d < n → d < n' → 1 ≤ t → kA σ m C π M S → σ.1 0 0 15 = nI L → m.1 0 0 27 = nI (L + 1) → S + nH (C S) ≤ 999 → π S + nH (C S) ≤ 90000 →
    ∃ σ' m' C' π' S' g, fX8_letHeldGo_5 F n (nI what) (nI which) x (nI t) σ = bnd (fX8_commit F σ') (fun s => some (g, s)) ∧ fX9_ends_9 F n' (nI what) (nI which) x (nI t) m = bnd (fX9_commit F m') (fun s => some (g, s)) ∧ eX M0 L 0 0 σ m C π M S σ' m' C' π' M S' := by
  intro d
  induction d with
  | zero =>
    intro t n n' σ m C π S x ht hn hn' h1 h hL h27 hS hR
    obtain ⟨n, rfl⟩ : ∃ k, n = k + 1 := ⟨n - 1, by omega⟩
    obtain ⟨n', rfl⟩ : ∃ k, n' = k + 1 := ⟨n' - 1, by omega⟩
    have hM := h.2.1.2.2.2.2.1
    rw [fX8_letHeldGo_5, if_pos (le80 (by omega) (by omega)), fX9_ends_9]
    repeat rw [nm_x]
    rw [h.2.1.2.1, if_pos ((nI_le' (by omega) (by omega)).mpr (by omega))]
    exact ⟨σ, m, C, π, S, x, rfl, rfl, eX_rf h⟩
  | succ d ih =>
    intro t n n' σ m C π S x ht hn hn' h1 h hL h27 hS hR
    obtain ⟨n, rfl⟩ : ∃ k, n = k + 1 := ⟨n - 1, by omega⟩
    obtain ⟨k', rfl⟩ : ∃ k, n' = k + 1 := ⟨n' - 1, by omega⟩
    have hM := h.2.1.2.2.2.2.1
    have ht8 : t < 80 := by omega
    obtain ⟨g0, g1⟩ := kA_here h
    obtain ⟨e1, e2⟩ := kA_31 h ht8
    rw [fX8_letHeldGo_5, if_neg (nle80 ht8), ldi_nI ht8 i80', e1]
    unfold fX8_letHeldGo_62
    by_cases cM : M ≤ t
    · have h0 : (C S).1 31 0 t = 0 := by
        rcases g0.2.1 t ht8 with q | q
        · exact q
        · omega
      rw [if_pos h0, nm_x, nI_1]
      obtain ⟨σ', m', C', π', S', g, q1, q2, q3⟩ := ih (t + 1) n (k' + 1) σ m C π S x (by omega) (by omega) (by omega) (by omega) h hL h27 hS hR
      refine ⟨σ', m', C', π', S', g, q1, ?_, q3⟩
      rw [← q2, fX9_ends_9, fX9_ends_9]
      repeat rw [nm_x]
      rw [h.2.1.2.1, if_pos ((nI_le' (by omega) (by omega)).mpr cM), if_pos ((nI_le' (by omega) (by omega)).mpr (by omega))]
    · have e108 : m.1 108 0 t = (C S).1 31 0 t := by
        have := (h.2.2.2.1 t ht8).1
        rw [Nat.mul_zero, Nat.zero_add] at this
        exact this
      have hb := h.2.1.2.2.2.2.2 t ht8 (by omega)
      rw [fX9_ends_9]
      repeat rw [nm_x]
      rw [h.2.1.2.1, if_neg (show ¬ nI M ≤ nI t from fun q => by have := (nI_le' (by omega) (by omega)).mp q; omega), ldi_nI (a := t) (n := 400) (by omega) i400, e108]
      unfold fX9_ends_61 fX9_ends_62
      repeat rw [nm_x]
      rw [Int32.add_zero, nI_1]
      have skip := ih (t + 1) n k' σ m C π S x (by omega) (by omega) (by omega) (by omega) h hL h27 hS hR
      rcases g0.2.1 t ht8 with q | ⟨q, -⟩
      · rw [if_pos q, if_neg (by rw [q]; decide)]
        exact skip
      · have hh : (C S).1 31 0 t ≠ 0 := by rw [q]; decide
        rw [if_neg hh, if_pos q]
        simp only [ldi_nI ht8 i80']
        rw [hb.2.2.1]
        by_cases c1 : σ.1 4 0 t = nI what
        · have hd : isHd σ t := by
            unfold isHd
            rw [c1]
            rcases hw with rfl | rfl
            · exact Or.inl rfl
            · exact Or.inr rfl
          rw [if_pos c1, if_pos c1, hb.2.2.2.2 hd]
          by_cases c2 : σ.1 5 0 t = nI which
          · rw [if_pos c2, if_pos c2]
            have hdC : isHd (C S) t := by
              unfold isHd at hd ⊢
              rw [g1 4 t (by decide) (by decide) (by omega) ht8]
              exact hd
            obtain ⟨σ1, m1, C1, π1, S1, g, q1, q2, q3, q4, q5⟩ := pr_goes (F := F) (M0 := M0) (L := L) hL9 (by omega) t σ m C π S 0 F F h h1 ht8 hh (fun k k1 k2 k3 k4 => (g0.2.2.2.1 k k1 k2 k3).2 (by rw [k4]; exact hdC)) hL h27 hS hR (by omega) (by omega) (by omega)
            unfold fX8_letGo fX9_goes
            rw [show (0 : Int32) = nI 0 from rfl, q1, q2, bnd2_s, bnd2_s]
            repeat rw [nm_x]
            have hx := q5
            obtain ⟨y1, y2, y3, y4, y5, y6, y7, y8, y9, y10⟩ := hx
            obtain ⟨σ', m', C', π', S', g', r1, r2, r3⟩ := ih (t + 1) n k' σ1 m1 C1 π1 S1 (x + nI g) (by omega) (by omega) (by omega) (by omega) y1 (by rw [y2.2 0 0 15 (by omega) (by omega) (by omega) (by omega) (by omega) (by omega) (by omega)]; exact hL) (by rw [y3.2 0 0 27 (by omega) (by omega) (by omega) (by omega) (by omega)]; exact h27) (by omega) (by omega)
            exact ⟨σ', m', C', π', S', g', r1, r2, eX_tr h q5 r3⟩
          · rw [if_neg c2, if_neg c2]
            exact skip
        · rw [if_neg c1, if_neg c1]
          exact skip
end EN

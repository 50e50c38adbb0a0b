/-! PURE: one act alone, in both -/
theorem actR_fr {σ σ' : qS} {z a : Nat} {w x1 x2 x3 x4 x5 x6 : Int32} (h : actR σ z a w x1 x2 x3 x4 x5 x6) (e : σ'.1 56 a = σ.1 56 a) : actR σ' z a w x1 x2 x3 x4 x5 x6 := by
  unfold actR at h ⊢
  rw [e]
  exact h
theorem bgS_stF {σ σ' : qS} (h : bgS σ σ') : σ'.2 = σ.2 ∧ ∀ f j k, ¬ (f = 0 ∧ j = 0 ∧ k = 13) → ¬ (31 ≤ f ∧ f ≤ 37 ∧ j = 3) → σ'.1 f j k = σ.1 f j k := ⟨h.1, fun f j k w1 w2 => by rw [h.2, if_neg (by omega), if_neg (by omega)]⟩
section SU
variable {F : Nat}
/-- begin, an act, and what becomes of it -/
theorem pr_one {σ m : qS} {C : Nat → qS} {π : Nat → Nat} {M S L Z z a p : Nat} {w x1 x2 x3 x4 x5 x6 : Int32} (h : kD σ m C π M M S S L Z) (hS : S + nH (C S) ≤ 990) (hR : π S + 170 ≤ 89999) (hZ : Z ≤ 10) (hL9 : L + 1 < 2 ^ 31) (hN : σ.2 0 0 = Z) (hz : z < Z) (hl : m.1 135 0 z = 0) (ha : a < 1 + 6 * Z) (hp : σ.1 50 z 1 = nI p) (hp4 : p < 4) (hpm : m.1 131 0 z = nI p) (hr : actR σ z a w x1 x2 x3 x4 x5 x6) (hF : 100000 ≤ F) :
    ∃ v σ1 m1 σ2 m2 C' π' M' S', fX8_begin F σ = some σ1 ∧ fX9_begin F m = some m1 ∧ fX8_perform F z a σ1 = some (v, σ2) ∧ fX9_acts F (nI z) w x1 x2 x3 x4 x5 x6 m1 = some (v, m2) ∧ kD σ2 m2 C' π' M' M S' S L Z ∧ kBf σ2 m2 (C' S) M (π' S) ∧ (v < 0 → S' = S ∧ M' = M) ∧ eX M L 1 80 σ1 m1 C π M S σ2 m2 C' π' M' S' ∧ bgS σ σ1 ∧ bgM m m1 ∧ m2.1 0 0 27 = nI (L + 1) := by
  have hH : nH (C S) ≤ 80 := nH_le
  obtain ⟨σ1, m1, a1, a2, a3, a4, a5, a6, a7⟩ := kD_begin (F := F) h (by omega) (by omega)
  obtain ⟨b1, b2⟩ := bgS_stF a6
  obtain ⟨v, σ2, m2, C', π', M', S', c1, c2, c3, c4, c5⟩ := pr_act (F := F) (M0 := M) (L := L) (z := z) (a := a) (p := p) (w := w) (x1 := x1) (x2 := x2) (x3 := x3) (x4 := x4) (x5 := x5) (x6 := x6) (by omega) a3.1 a3.2.2.2.2.2.2.2.1 (by rw [b1, hN]; exact hz) (by omega) (by rw [b1, hN]; exact ha) (by rw [b2 50 z 1 (by omega) (by omega)]; exact hp) hp4 (by rw [a7.2, if_neg (by omega), if_neg (by omega), if_neg (by omega), if_neg (by omega), if_neg (by omega)]; exact hpm) a3.2.2.2.2.2.2.2.2.1 hL9 a5 (by omega) (by omega) (by omega) (Nat.le_refl _) (actR_fr hr (by funext k; exact b2 56 a k (by omega) (by omega)))
  have hk := kD_eX a3 (by omega) c3 c4
  have hB : kBf σ2 m2 (C' S) M (π S) := kBf_fr a4 c3.2.1 c3.2.2.1 (c3.2.2.2.2.2.1 S (Nat.le_refl _)).1
  rw [← (c3.2.2.2.2.2.1 S (Nat.le_refl _)).2] at hB
  exact ⟨v, σ1, m1, σ2, m2, C', π', M', S', a1, a2, c1, c2, hk, hB, c5, c3, a6, a7, by rw [c3.2.2.1.2 0 0 27 (by omega) (by omega) (by omega) (by omega) (by omega)]; exact a5⟩
end SU

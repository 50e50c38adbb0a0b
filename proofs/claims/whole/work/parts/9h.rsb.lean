/-! PURE: restore, what both hold then -/
section RB9
variable {F : Nat}
theorem cnt_at {p : Nat → Prop} [DecidablePred p] : ∀ (n a : Nat), a < cntN p 0 n → ∃ t, t < n ∧ p t ∧ cntN p 0 t = a := by
  intro n
  induction n with
  | zero =>
    intro a h
    have : cntN p 0 0 = 0 := rfl
    omega
  | succ n ih =>
    intro a h
    rw [cntN_1, Nat.zero_add] at h
    by_cases c : a < cntN p 0 n
    · obtain ⟨t, t1, t2, t3⟩ := ih a c
      exact ⟨t, by omega, t2, t3⟩
    · by_cases d : p n
      · rw [if_pos d] at h
        exact ⟨n, by omega, d, by omega⟩
      · rw [if_neg d] at h
        omega
theorem sc_le {σ m : qS} {C : Nat → qS} {π : Nat → Nat} {M S L : Nat} (hk : kLog σ m C π M S) (hch : ∀ i, i < S → chN σ i ≤ L) (h0 : ∀ k, k < π 0 → ∃ x, x ≤ L ∧ m.1 120 0 k = nI x) : ∀ i, i ≤ S → ∀ k, k < π i → ∃ x, x ≤ L ∧ m.1 120 0 k = nI x := by
  intro i
  induction i with
  | zero => intro _; exact h0
  | succ i ih =>
    intro hi k hk9
    by_cases c : k < π i
    · exact ih (by omega) k c
    · obtain ⟨-, l7, l8⟩ := hk.2.2.1 i (by omega)
      obtain ⟨t, t1, t2, t3⟩ := cnt_at (p := gvN (C i) (kdN σ i) (ndN σ i)) 80 (k - π i) (show k - π i < blkN (C i) (kdN σ i) (ndN σ i) by rw [l8] at hk9; omega)
      refine ⟨chN σ i, hch i (by omega), ?_⟩
      have := (l7 t t1 t2).1
      rw [t3, show π i + (k - π i) = k by omega] at this
      exact this
theorem rvl_rst {s c : qS} {R M : Nat} {W : Nat → Int32} {v : Int32} (h4 : s.1 121 0 R = 4) (hM : M ≤ 80) (hl : ∀ k, k < M → c.1 31 0 k ≠ 0 → s.1 121 0 (R + 1 + cT c k) = 5 ∧ s.1 122 0 (R + 1 + cT c k) = nI k ∧ s.1 123 0 (R + 1 + cT c k) = W k) : ∀ t, t ≤ M → rvl s v (R + 1 + cT c t) = if (¬ v < 0 ∧ ¬ 80 ≤ v) ∧ v.toNatClampNeg < t ∧ c.1 31 0 v.toNatClampNeg ≠ 0 then W v.toNatClampNeg else -100 := by
  intro t
  induction t with
  | zero =>
    intro _
    rw [if_neg (by omega), show R + 1 + cT c 0 = R + 1 from rfl, rvl, if_pos h4]
  | succ t ih =>
    intro ht
    have ih := ih (by omega)
    have ec : cT c (t + 1) = cT c t + (if c.1 31 0 t ≠ 0 then 1 else 0) := by
      show cntN _ 0 (t + 1) = _
      rw [cntN_1, Nat.zero_add]
    rw [ec]
    by_cases q : c.1 31 0 t ≠ 0
    · obtain ⟨l1, l2, l3⟩ := hl t (by omega) q
      rw [if_pos q, ← Nat.add_assoc, rvl, l1, l2, l3, if_neg (show ¬ (5 : Int32) = 4 by decide)]
      by_cases e : nI t = v
      · subst e
        rw [if_pos rfl, if_neg (show ¬ (5 : Int32) = 3 by decide), if_neg (show ¬ (5 : Int32) = 2 by decide), ix_nI (by omega), if_pos ⟨⟨nI_nn (by omega), nle80 (by omega)⟩, Nat.lt_succ_self t, q⟩]
      · rw [if_neg e, ih]
        by_cases w : (¬ v < 0 ∧ ¬ 80 ≤ v) ∧ v.toNatClampNeg < t ∧ c.1 31 0 v.toNatClampNeg ≠ 0
        · rw [if_pos w, if_pos ⟨w.1, by omega, w.2.2⟩]
        · rw [if_neg w, if_neg (fun u => w ⟨u.1, by
            have : v.toNatClampNeg ≠ t := fun e2 => e (by rw [← e2]; exact (in80 u.1).2.symm)
            omega, u.2.2⟩)]
    · rw [if_neg q, show R + 1 + (cT c t + 0) = R + 1 + cT c t from rfl, ih]
      by_cases w : (¬ v < 0 ∧ ¬ 80 ≤ v) ∧ v.toNatClampNeg < t ∧ c.1 31 0 v.toNatClampNeg ≠ 0
      · rw [if_pos w, if_pos ⟨w.1, by omega, w.2.2⟩]
      · rw [if_neg w, if_neg (fun u => w ⟨u.1, by
          have : v.toNatClampNeg ≠ t := fun e2 => q (by rw [← e2]; exact u.2.2)
          omega, u.2.2⟩)]
theorem pnd_0 {m : qS} : ∀ {Z : Nat}, (∀ z, z < Z → m.1 136 0 z = 0) → pnd m Z = 0
  | 0, _ => rfl
  | Z + 1, h => by
    rw [pnd, pnd_0 (fun z hz => h z (by omega))]
    unfold pnC
    rw [h Z (by omega), if_neg (show ¬ (0 : Int32) = 1 by decide)]
/-- the tree that a restore gives -/
def dT (σ : qS) : qS := (fun f j k => if 31 ≤ f ∧ f ≤ 37 then dS σ f k else σ.1 f j k, σ.2)
theorem dT_b {σ : qS} {f j k : Nat} (h : ¬ (31 ≤ f ∧ f ≤ 37)) : (dT σ).1 f j k = σ.1 f j k := if_neg h
theorem dT_t {σ : qS} {f j k : Nat} (h1 : 31 ≤ f) (h2 : f ≤ 37) : (dT σ).1 f j k = dS σ f k := if_pos ⟨h1, h2⟩
theorem dS_o {σ : qS} {f k : Nat} (h : f ≠ 31) : dS σ f k = σ.1 f 5 k := if_neg (fun w => h w.1)
theorem dS_n {σ : qS} {k : Nat} (h : dS σ 31 k ≠ 0) : σ.1 31 5 k ≠ 0 ∧ ¬ (1 ≤ k ∧ isHd σ k) := by
  unfold dS at h
  by_cases c : 1 ≤ k ∧ isHd σ k
  · rw [if_pos ⟨rfl, c⟩] at h
    exact absurd rfl h
  · rw [if_neg (fun w => c w.2)] at h
    exact ⟨h, c⟩
theorem dS_y {σ : qS} {k : Nat} (h : ¬ (1 ≤ k ∧ isHd σ k)) : dS σ 31 k = σ.1 31 5 k := if_neg (fun w => h w.2)
theorem dT_gd {σ ck : qS} {M : Nat} (hg : gdT ck M) (hb : bEq M ck σ) (ht : tEq σ 5 ck 0) (hw : bwf σ M) : gdT (dT σ) M := by
  have hM8 : M ≤ 80 := hg.1.2.2
  have hd : ∀ k, k < M → (isHd ck k ↔ isHd σ k) := fun k hk => by
    unfold isHd
    rw [hb 4 k (by decide) (by decide) hk (by omega)]
  have there : ∀ k, k < 80 → (dT σ).1 31 0 k ≠ 0 → ck.1 31 0 k ≠ 0 ∧ ¬ (1 ≤ k ∧ isHd σ k) ∧ k < M := fun k k8 h => by
    rw [dT_t (by decide) (by decide)] at h
    obtain ⟨a, b⟩ := dS_n h
    rw [ht 31 k (by decide) (by decide) k8] at a
    exact ⟨a, b, gdT_M hg k8 a⟩
  have ot : ∀ f k, 32 ≤ f → f ≤ 37 → k < 80 → (dT σ).1 f 0 k = ck.1 f 0 k := fun f k w1 w2 w3 => by
    rw [dT_t (by omega) w2, dS_o (by omega), ht f k (by omega) w2 w3]
  have ob : ∀ f k, 2 ≤ f → f ≤ 6 → k < M → (dT σ).1 f 0 k = ck.1 f 0 k := fun f k w1 w2 w3 => by
    rw [dT_b (by omega), hb f k w1 w2 w3 (by omega)]
  refine ⟨⟨⟨by rw [dT_b (by decide)]; exact hw.1, fun k k1 k2 k3 => by rw [dT_b (by decide)]; exact hw.2 k k1 k2 k3⟩, hg.1.2⟩, fun k k8 => ?_, ?_, fun k k1 k8 h => ?_, fun k k1 k8 h => ?_, fun k k' k1 k2 k3 k4 h1 h2 e1 e2 => ?_, fun k k1 k2 => ?_, fun k k8 => ?_⟩
  · by_cases c : (dT σ).1 31 0 k ≠ 0
    · obtain ⟨a, b, d⟩ := there k k8 c
      rw [dT_t (by decide) (by decide), dS_y b, ht 31 k (by decide) (by decide) k8]
      exact hg.2.1 k k8
    · exact Or.inl (Classical.not_not.mp c)
  · rw [dT_t (by decide) (by decide), dS_y (by omega), ht 31 0 (by decide) (by decide) (by decide)]
    exact hg.2.2.1
  · obtain ⟨a, b, d⟩ := there k k8 h
    obtain ⟨g1, g2⟩ := hg.2.2.2.1 k k1 k8 a
    obtain ⟨p1, p2⟩ := bwf_par hg.1.1 k1 k8 d
    have ep : parN (dT σ) k = parN ck k := by
      unfold parN
      rw [ob 2 k (by decide) (by decide) d]
    rw [ep]
    have hn : ¬ isHd σ (parN ck k) := fun w => g2 ((hd _ (by omega)).mpr w)
    refine ⟨?_, fun w => hn ?_⟩
    · rw [dT_t (by decide) (by decide), dS_y (fun w => hn w.2), ht 31 _ (by decide) (by decide) (by omega)]
      exact g1
    · unfold isHd at w ⊢
      rw [dT_b (by decide)] at w
      exact w
  · obtain ⟨a, b, d⟩ := there k k8 h
    obtain ⟨p1, p2⟩ := bwf_par hg.1.1 k1 k8 d
    have ep : parN (dT σ) k = parN ck k := by
      unfold parN
      rw [ob 2 k (by decide) (by decide) d]
    rw [ep, ob 3 k (by decide) (by decide) d, ot 37 _ (by decide) (by decide) (by omega)]
    exact hg.2.2.2.2.1 k k1 k8 a
  · obtain ⟨a, b, d⟩ := there k k2 h1
    obtain ⟨a', b', d'⟩ := there k' k4 h2
    rw [ob 2 k (by decide) (by decide) d, ob 2 k' (by decide) (by decide) d'] at e1
    rw [ob 3 k (by decide) (by decide) d, ob 3 k' (by decide) (by decide) d'] at e2
    exact hg.2.2.2.2.2.1 k k' k1 k2 k3 k4 a a' e1 e2
  · rw [ot 33 k (by decide) (by decide) k2, ot 34 k (by decide) (by decide) k2, ot 35 k (by decide) (by decide) k2, ot 37 k (by decide) (by decide) k2]
    exact hg.2.2.2.2.2.2.1 k k1 k2
  · rw [ot 37 k (by decide) (by decide) k8]
    exact hg.2.2.2.2.2.2.2 k k8
end RB9

/-! PURE: what both hold at first -/
section K09
theorem z_clm : (0 : Int32).toNatClampNeg = 0 := by decide
theorem z80_clm : (80 : Int32).toNatClampNeg = 80 := by decide
theorem z160_clm : (160 : Int32).toNatClampNeg = 160 := by decide
theorem c0_31 {j k : Nat} : σc0.1 31 j k = if k = 0 then 1 else 0 := by
  show upd (fun _ => 0) (0 : Int32).toNatClampNeg 1 k = _
  rw [z_clm, upd_if]
theorem c0_36 {j k : Nat} : σc0.1 36 j k = if k = 0 then 255 else 0 := by
  show upd (fun _ => 0) (0 : Int32).toNatClampNeg 255 k = _
  rw [z_clm, upd_if]
theorem m0_3 {s k : Nat} (v : Int32) (hs : s < 3) (hk : k < 80) : upd (upd (upd (fun _ => 0) (0 : Int32).toNatClampNeg v) (80 : Int32).toNatClampNeg v) (160 : Int32).toNatClampNeg v (80 * s + k) = if k = 0 then v else 0 := by
  rw [z_clm, z80_clm, z160_clm, upd_if, upd_if, upd_if]
  by_cases c : k = 0
  · rw [if_pos c]
    have : s = 0 ∨ s = 1 ∨ s = 2 := by omega
    rcases this with w | w | w
    · rw [if_neg (by omega), if_neg (by omega), if_pos (by omega)]
    · rw [if_neg (by omega), if_pos (by omega)]
    · rw [if_pos (by omega)]
  · rw [if_neg c, if_neg (by omega), if_neg (by omega), if_neg (by omega)]
theorem rEq_0 {s : Nat} (hs : s < 3) : rEq σm0 s (fun f k => σc0.1 f 0 k) := fun k hk => by
  refine ⟨(m0_3 1 hs hk).trans c0_31.symm, rfl, rfl, rfl, rfl, ?_⟩
  by_cases c : k = 0
  · exact ⟨15, 15, by decide, by decide, (m0_3 15 hs hk).trans (if_pos c), (m0_3 15 hs hk).trans (if_pos c), c0_36.trans (if_pos c)⟩
  · exact ⟨0, 0, by decide, by decide, (m0_3 15 hs hk).trans (if_neg c), (m0_3 15 hs hk).trans (if_neg c), c0_36.trans (if_neg c)⟩
theorem c0_n {k : Nat} (h : σc0.1 31 0 k ≠ 0) : k = 0 := by
  rw [c0_31] at h
  by_cases c : k = 0
  · exact c
  · rw [if_neg c] at h
    exact absurd rfl h
theorem c0_bwf : bwf σc0 1 := ⟨by decide, fun k k1 _ k3 => by omega⟩
theorem c0_gd : gdT σc0 1 := by
  refine ⟨⟨c0_bwf, Nat.le_refl _, by decide⟩, fun k _ => ?_, by decide, fun k k1 _ h => ?_, fun k k1 _ h => ?_, fun k k' k1 _ _ _ h _ _ _ => ?_, fun k _ _ => ⟨rfl, rfl, rfl, rfl⟩, fun k _ => ⟨0, by omega, rfl⟩⟩
  · by_cases c : k = 0
    · exact Or.inr ⟨c0_31.trans (if_pos c), by omega⟩
    · exact Or.inl (c0_31.trans (if_neg c))
  · have := c0_n h; omega
  · have := c0_n h; omega
  · have := c0_n h; omega
theorem c0_nH : nH σc0 = 1 := (cntN_one (p := fun k => σc0.1 31 0 k ≠ 0) (n := 0) (by decide) (fun k _ => ⟨c0_n, fun h => by rw [c0_31, if_pos h]; decide⟩)).1
theorem kI_first : kI 0 σc0 σm0 := by
  refine ⟨fun _ => σc0, fun _ => 0, 1, 0, 0, 0, 0, 0, 0, ⟨⟨⟨rfl, rfl, fun i hi => absurd hi (Nat.not_lt_zero i), fun _ _ => ⟨c0_gd, fun _ _ _ _ _ _ => rfl⟩⟩, ⟨rfl, rfl, c0_bwf, Nat.le_refl _, by decide, fun k _ k1 => ?_⟩, fun _ _ _ _ _ => rfl, rEq_0 (by decide), fun k _ => ⟨fun _ => rfl, 0, Nat.le_refl _, rfl⟩⟩, fun s hs => ⟨rfl, rfl, rfl, rfl, Nat.le_refl _, Nat.le_refl _, fun i hi => absurd hi (Nat.not_lt_zero i), fun _ => ⟨fun _ _ _ _ _ => rfl, rEq_0 hs⟩, fun _ => ⟨rfl, rfl⟩⟩, ⟨fun i hi => absurd hi (Nat.not_lt_zero i), fun i _ hi => absurd hi (Nat.not_lt_zero i), fun i j _ hj => absurd hj (Nat.not_lt_zero j)⟩, fun z hz => absurd hz (Nat.not_lt_zero z), Nat.le_refl _, Nat.le_refl _, fun _ _ => c0_gd, fun k k8 => ?_, rfl, rfl, rfl⟩, ⟨⟨rfl, by decide, rfl, by decide, rfl, rfl, rfl⟩, fun z hz => absurd hz (Nat.not_lt_zero z), fun l hl => absurd hl (Nat.not_lt_zero l), ⟨fun z _ _ => ⟨rfl, rfl, rfl, rfl, rfl, rfl, fun _ _ => rfl⟩, fun l _ _ => rfl⟩, fun k _ i hi => ?_, ⟨rfl, rfl, rfl, rfl⟩, fun z => ⟨Nat.zero_le _, fun _ => rfl⟩⟩, Or.inl ⟨rfl, rfl⟩, fun k _ => ⟨0, by decide, rfl⟩, ⟨⟨Nat.le_refl _, by decide⟩, Or.inl ⟨rfl, rfl⟩⟩, ⟨fun _ _ _ _ _ => rfl, fun k hk => absurd hk (Nat.not_lt_zero k), fun v => ?_⟩, Nat.le_refl _, Nat.le_refl _, Nat.le_refl _, ?_, ?_⟩
  · obtain rfl : k = 0 := by omega
    exact ⟨rfl, rfl, rfl, rfl, fun _ => rfl⟩
  · have e14 : σc0.1 14 0 k = 80 := by
      show (if k < 80 then (80 : Int32) else _) = 80
      rw [if_pos k8]
    have e106 : σm0.1 106 0 k = -1 := by
      show (if k < 80 then (-1 : Int32) else 0) = -1
      rw [if_pos k8]
    exact ⟨fun _ => Or.inl ⟨e14, e106⟩, fun _ => e14⟩
  · rw [decide_eq_false (fun w : i < 0 ∧ _ => Nat.not_lt_zero i w.1)]
    exact tb_0 i hi
  · show (if v = 0 then 0 else -100) = cvl σc0 v
    unfold cvl
    by_cases c : v = 0
    · subst c
      rw [if_pos rfl, if_pos (show hlds σc0 0 0 by decide)]
      rfl
    · rw [if_neg c, if_neg (fun w : hlds σc0 0 v => c (by
        rw [(in80 w.1).2, c0_n w.2]
        rfl))]
  · show 0 + nH σc0 + 0 ≤ 0 + 1
    rw [c0_nH]
    decide
  · show 0 + nH σc0 + 80 * 0 ≤ 1 + 161 * 0
    rw [c0_nH]
    decide
end K09

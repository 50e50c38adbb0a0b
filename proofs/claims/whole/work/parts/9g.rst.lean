/-! PURE: restore, in both -/
section RS9
variable {F : Nat}
abbrev cT (c : qS) (t : Nat) : Nat := cntN (fun k => c.1 31 0 k ≠ 0) 0 t
/-- what a restore leaves in the reference -/
def rMM (m s c : qS) (R M Z Y : Nat) (X : Int32) : Prop := (s.1 0 0 25 = nI (R + 1 + cT c M) ∧ s.1 0 0 26 = X ∧ s.1 0 0 28 = X) ∧ (∀ i x, i < 3 → x < 80 → s.1 108 0 (80 * i + x) = if x < M then c.1 31 0 x else m.1 108 0 (240 + x)) ∧ (∀ f i x, 109 ≤ f → f ≤ 114 → i < 3 → x < 80 → s.1 f 0 (80 * i + x) = m.1 f 0 (240 + x)) ∧ (∀ x, x < M → c.1 31 0 x ≠ 0 → s.1 105 0 x = m.1 115 0 x) ∧ (∀ i, i < 3 → s.1 129 0 i = nI (R + 1 + cT c M) ∧ s.1 130 0 i = X) ∧ (∀ z, z < Z → s.1 135 0 z = 1 ∧ s.1 136 0 z = 0) ∧ (∀ l, l < Y → s.1 151 0 l = 1) ∧ (s.1 121 0 R = 4 ∧ ∀ q, R ≤ q → q < R + 1 + cT c M → s.1 120 0 q = X) ∧ (∀ k, k < M → c.1 31 0 k ≠ 0 → s.1 121 0 (R + 1 + cT c k) = 5 ∧ s.1 122 0 (R + 1 + cT c k) = nI k ∧ s.1 123 0 (R + 1 + cT c k) = m.1 109 0 (240 + k)) ∧ ∀ f q, ¬ (f = 0 ∧ 25 ≤ q ∧ q ≤ 28) → ¬ (f = 105 ∧ q < M) → ¬ (108 ≤ f ∧ f ≤ 114 ∧ q < 240) → ¬ (120 ≤ f ∧ f ≤ 124 ∧ R ≤ q) → ¬ ((f = 129 ∨ f = 130) ∧ q < 3) → ¬ ((f = 135 ∨ f = 136 ∨ f = 143 ∨ f = 145 ∨ f = 146) ∧ q < Z) → ¬ (f = 151 ∧ q < Y) → s.1 f 0 q = m.1 f 0 q
theorem e_restoreM {m0 m c : qS} {R L M Z Y : Nat} (hF : 100000 ≤ F) (hm : qI m0 0 0 57 0 = m) (h25 : m.1 0 0 25 = nI R) (hR : R + 81 ≤ 90000) (h26 : m.1 0 0 26 = nI L) (h7 : m.1 0 0 7 = nI M) (hM : M ≤ 80) (h48 : m.1 0 0 48 = nI Z) (hZ : Z ≤ 10) (h52 : m.1 0 0 52 = nI Y) (hY : Y ≤ 10) (hh : ∀ k, k < M → (c.1 31 0 k = if m.1 102 0 k = 1 ∨ m.1 102 0 k = 2 then 0 else m.1 108 0 (240 + k)) ∧ (c.1 31 0 k = 0 ∨ c.1 31 0 k = 1)) : ∃ s', fX9_restore_13 F 0 m0 = some (nI (L + 1), s') ∧ rMM m s' c R M Z Y (nI (L + 1)) := by
  unfold fX9_restore_13
  rw [e_h0, bnd2_s, if_pos rfl, hm, nm_x, h26, nm_x, nI_1, nm_x, nm_x, show (qI m 0 0 26 (nI (L + 1))).1 0 0 26 = nI (L + 1) from by rw [qI_ap, if_pos ⟨rfl, rfl, rfl⟩], nm_x]
  obtain ⟨s1, a1, a2⟩ := e_copy (F := F) (m := qI (qI m 0 0 26 (nI (L + 1))) 0 0 27 (nI (L + 1))) (a := 3) (b := 0) (by omega) (by decide) (by decide) (by decide)
  rw [show fX9_copy F 3 0 (qI (qI m 0 0 26 (nI (L + 1))) 0 0 27 (nI (L + 1))) = some s1 from a1, bnd_s]
  have o1 : ∀ f q, ¬ (f = 0 ∧ (q = 26 ∨ q = 27)) → ¬ (108 ≤ f ∧ f ≤ 114 ∧ q < 80) → s1.1 f 0 q = m.1 f 0 q := fun f q w1 w2 => by
    rw [a2.2, if_neg (by omega), qI_ap, if_neg (by omega), qI_ap, if_neg (by omega)]
  have r1 : ∀ f x, 108 ≤ f → f ≤ 114 → x < 80 → s1.1 f 0 x = m.1 f 0 (240 + x) := fun f x w1 w2 w3 => by
    rw [a2.2, if_pos ⟨rfl, w1, w2, by omega, by omega⟩, show 80 * 3 + (x - 80 * 0) = 240 + x by omega, qI_ap, if_neg (by omega), qI_ap, if_neg (by omega)]
  have e26 : s1.1 0 0 26 = nI (L + 1) := by rw [a2.2, if_neg (by omega), qI_ap, if_neg (by omega), qI_ap, if_pos ⟨rfl, rfl, rfl⟩]
  have e27 : s1.1 0 0 27 = nI (L + 1) := by rw [a2.2, if_neg (by omega), qI_ap, if_pos ⟨rfl, rfl, rfl⟩]
  obtain ⟨s2, b1, b2⟩ := e_log (F := F) (m := s1) (R := R) (kd := 4) (n := -1) (v := 0) (w := 0) (by rw [o1 0 25 (by omega) (by omega)]; exact h25) (by omega)
  rw [b1, bnd_s]
  have o2 : ∀ f q, ¬ (f = 0 ∧ q = 25) → ¬ (120 ≤ f ∧ f ≤ 124 ∧ q = R) → s2.1 f 0 q = s1.1 f 0 q := fun f q w1 w2 => by
    rw [b2.2, if_neg (by omega), if_neg (by omega), if_neg (by omega), if_neg (by omega), if_neg (by omega), if_neg (by omega)]
  have e225 : s2.1 0 0 25 = nI (R + 1) := by
    rw [b2.2, if_neg (by omega), if_neg (by omega), if_neg (by omega), if_neg (by omega), if_neg (by omega), if_pos ⟨rfl, rfl, rfl⟩]
  obtain ⟨s3, c1, c2⟩ := e_r55 (F := F) (m := s2) (c := c) (R := R + 1) (M := M) (X := nI (L + 1)) (by rw [o2 0 7 (by omega) (by omega), o1 0 7 (by omega) (by omega)]; exact h7) hM (by rw [o2 0 27 (by omega) (by omega)]; exact e27) (by omega) (fun k hk => by
    rw [o2 102 k (by omega) (by omega), o1 102 k (by omega) (by omega), o2 108 k (by omega) (by omega), r1 108 k (by omega) (by omega) (by omega)]
    exact hh k hk) M 0 F s2 (Nat.zero_add _) (by omega) ⟨rfl, e225, fun k hk => by omega, fun q q1 q2 => by
      have : cntN (fun k => c.1 31 0 k ≠ 0) 0 0 = 0 := rfl
      omega, fun _ _ _ _ _ _ _ => rfl⟩
  rw [show fX9_restore_55 F F 0 s2 = _ from c1]
  obtain ⟨-, c3, c4, c5, c6⟩ := c2
  have e326 : s3.1 0 0 26 = nI (L + 1) := by rw [c6 0 0 26 (by omega) (by omega) (by omega) (by omega), o2 0 26 (by omega) (by omega), e26]
  obtain ⟨s4, d1, d2⟩ := e_r161 (F := F) (m := s3) (by omega) c3 e326 3 0 F s3 rfl (by omega) ⟨rfl, fun i hi => by omega, fun f i x _ _ w3 w4 => by omega, fun _ _ _ _ _ => rfl⟩
  rw [show fX9_restore_161 F F 0 s3 = _ from d1]
  obtain ⟨-, d3, d4, d5⟩ := d2
  have t4 : ∀ f q, ¬ (f = 0 ∧ 25 ≤ q ∧ q ≤ 27) → ¬ (f = 105 ∧ q < M) → ¬ (108 ≤ f ∧ f ≤ 114 ∧ q < 240) → ¬ (120 ≤ f ∧ f ≤ 124 ∧ R ≤ q) → ¬ ((f = 129 ∨ f = 130) ∧ q < 3) → s4.1 f 0 q = m.1 f 0 q := fun f q w1 w2 w3 w4 w5 => by
    rw [d5 f 0 q (by omega) (by omega), c6 f 0 q (by omega) (by omega) (by omega) (by omega), o2 f q (by omega) (by omega), o1 f q (by omega) (by omega)]
  obtain ⟨s5, f1, f2⟩ := e_r204 (F := F) (m := s4) (Z := Z) (by rw [t4 0 48 (by omega) (by omega) (by omega) (by omega) (by omega)]; exact h48) hZ Z 0 F s4 (Nat.zero_add _) (by omega) ⟨rfl, fun f j q => by rw [if_neg (by omega), if_neg (by omega)]⟩
  rw [show fX9_restore_204 F F 0 s4 = _ from f1]
  have o5 : ∀ f q, ¬ ((f = 135 ∨ f = 136 ∨ f = 143 ∨ f = 145 ∨ f = 146) ∧ q < Z) → s5.1 f 0 q = s4.1 f 0 q := fun f q w => by
    rw [f2.2, if_neg (by omega), if_neg (by omega)]
  obtain ⟨s6, g1, g2⟩ := e_r255 (F := F) (m := s5) (Y := Y) (B := nI (L + 1)) (by rw [o5 0 52 (by omega), t4 0 52 (by omega) (by omega) (by omega) (by omega) (by omega)]; exact h52) hY (by rw [o5 0 26 (by omega), d5 0 0 26 (by omega) (by omega)]; exact e326) Y 0 F s5 (Nat.zero_add _) (by omega) ⟨rfl, fun f j q => by rw [if_neg (by omega)]⟩
  rw [show fX9_restore_255 F F 0 s5 = _ from g1]
  have o7 : ∀ f q, ¬ (f = 0 ∧ q = 28) → ¬ ((f = 135 ∨ f = 136 ∨ f = 143 ∨ f = 145 ∨ f = 146) ∧ q < Z) → ¬ (f = 151 ∧ q < Y) → (qI s6 0 0 28 (nI (L + 1))).1 f 0 q = s4.1 f 0 q := fun f q w1 w2 w3 => by
    rw [qI_ap, if_neg (by omega), g2.2, if_neg (by omega), o5 f q w2]
  have rows3 : ∀ f x, 109 ≤ f → f ≤ 114 → x < 80 → s3.1 f 0 x = m.1 f 0 (240 + x) := fun f x w1 w2 w3 => by
    rw [c6 f 0 x (by omega) (by omega) (by omega) (by omega), o2 f x (by omega) (by omega), r1 f x (by omega) (by omega) w3]
  have row8 : ∀ x, x < 80 → s3.1 108 0 x = if x < M then c.1 31 0 x else m.1 108 0 (240 + x) := fun x w3 => by
    by_cases e : x < M
    · rw [if_pos e]
      exact (c4 x e).1
    · rw [if_neg e, c6 108 0 x (by omega) (by omega) (by omega) (by omega), o2 108 x (by omega) (by omega), r1 108 x (by omega) (by omega) w3]
  have rows4 : ∀ f i x, 108 ≤ f → f ≤ 114 → i < 3 → x < 80 → s4.1 f 0 (80 * i + x) = s3.1 f 0 x := fun f i x w1 w2 w3 w4 => by
    by_cases e : i = 0
    · subst e
      rw [show 80 * 0 + x = x by omega]
      exact d5 f 0 x (by omega) (by omega)
    · exact d4 f i x w1 w2 (by omega) w3 w4
  refine ⟨_, rfl, ⟨?_, ?_, ?_⟩, fun i x i3 x8 => ?_, fun f i x w1 w2 i3 x8 => ?_, fun x xM hx => ?_, fun i i3 => ?_, fun z hz => ⟨?_, ?_⟩, fun l hl => ?_, ⟨?_, fun q q1 q2 => ?_⟩, fun k kM hk => ?_, fun f q w1 w2 w3 w4 w5 w6 w7 => ?_⟩
  · rw [o7 0 25 (by omega) (by omega) (by omega), d5 0 0 25 (by omega) (by omega)]
    exact c3
  · rw [o7 0 26 (by omega) (by omega) (by omega), d5 0 0 26 (by omega) (by omega)]
    exact e326
  · rw [qI_ap, if_pos ⟨rfl, rfl, rfl⟩]
  · rw [o7 108 _ (by omega) (by omega) (by omega), rows4 108 i x (by omega) (by omega) i3 x8, row8 x x8]
  · rw [o7 f _ (by omega) (by omega) (by omega), rows4 f i x (by omega) (by omega) i3 x8, rows3 f x w1 w2 x8]
  · rw [o7 105 x (by omega) (by omega) (by omega), d5 105 0 x (by omega) (by omega), ((c4 x xM).2 hx).1, o2 115 x (by omega) (by omega), o1 115 x (by omega) (by omega)]
  · rw [o7 129 i (by omega) (by omega) (by omega), o7 130 i (by omega) (by omega) (by omega)]
    exact d3 i i3
  · rw [qI_ap, if_neg (by omega), g2.2, if_neg (by omega), f2.2, if_pos ⟨rfl, rfl, hz⟩]
  · rw [qI_ap, if_neg (by omega), g2.2, if_neg (by omega), f2.2, if_neg (by omega), if_pos ⟨Or.inl rfl, rfl, hz⟩]
  · rw [qI_ap, if_neg (by omega), g2.2, if_pos ⟨rfl, rfl, hl⟩]
  · rw [o7 121 R (by omega) (by omega) (by omega), d5 121 0 R (by omega) (by omega), c6 121 0 R (by omega) (by omega) (by omega) (by omega), b2.2, if_neg (by omega), if_pos ⟨rfl, rfl, rfl⟩]
  · rw [o7 120 q (by omega) (by omega) (by omega), d5 120 0 q (by omega) (by omega)]
    by_cases e : q = R
    · subst e
      rw [c6 120 0 q (by omega) (by omega) (by omega) (by omega), b2.2, if_pos ⟨rfl, rfl, rfl⟩]
      exact e27
    · exact c5 q (by omega) q2
  · obtain ⟨-, v1, v2, v3⟩ := (c4 k kM).2 hk
    rw [o7 121 _ (by omega) (by omega) (by omega), d5 121 0 _ (by omega) (by omega), o7 122 _ (by omega) (by omega) (by omega), d5 122 0 _ (by omega) (by omega), o7 123 _ (by omega) (by omega) (by omega), d5 123 0 _ (by omega) (by omega)]
    refine ⟨v1, v2, v3.trans ?_⟩
    rw [o2 109 k (by omega) (by omega), r1 109 k (by omega) (by omega) (by omega)]
  · rw [o7 f q (by omega) w6 w7, t4 f q (by omega) w2 w3 w4 w5]
end RS9

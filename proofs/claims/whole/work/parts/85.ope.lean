/-! PURE: a session is opened, begins to gather; quotas; in both -/
theorem phs_mono {f g : Nat → Nat} : ∀ {n : Nat}, (∀ z, z < n → f z ≤ g z) → phs f n ≤ phs g n
  | 0, _ => Nat.le_refl _
  | n + 1, h => Nat.add_le_add (phs_mono (fun z hz => h z (by omega))) (h n (by omega))
section OP
variable {F : Nat}
theorem e_kServer1 {σ : qS} {s : Nat} (hs : s < 3) : fX8_knownServer F (nI s) σ = some (s, 0, σ) := by
  unfold fX8_knownServer
  rw [if_neg (nI_nn (by omega)), if_pos (show nI s < 3 from (nI_lt' (b := 3) (by omega) (by decide)).mpr hs), inx_nI hs (by decide), nm_x, ix_nI (by omega)]
theorem e_kServer0 {σ : qS} {p : Int32} (h : ¬ ∃ s, s < 3 ∧ p = nI s) : fX8_knownServer F p σ = some (0, 1, σ) := by
  unfold fX8_knownServer fX8_knownServer_9
  by_cases c : p < 0
  · rw [if_pos c]
  · obtain ⟨a, ha, rfl⟩ := nI_of c
    rw [if_neg c, if_neg (show ¬ nI a < 3 from fun q => h ⟨a, (nI_lt' (b := 3) ha (by decide)).mp q, rfl⟩)]
theorem in_rng {p : Int32} {a b : Nat} (ha : a < 2 ^ 31) (hb : b < 2 ^ 31) : (∃ s, a ≤ s ∧ s ≤ b ∧ p = nI s) ↔ (¬ p < nI a ∧ ¬ nI b < p) := by
  constructor
  · rintro ⟨s, h1, h2, rfl⟩
    exact ⟨fun q => by have := (nI_lt' (by omega) (by omega)).mp q; omega, fun q => by have := (nI_lt' (by omega) (by omega)).mp q; omega⟩
  · rintro ⟨h1, h2⟩
    by_cases c : p < 0
    · exact absurd (Int32.lt_of_lt_of_le c (nI_pos' ha)) h1
    · obtain ⟨s, hs, rfl⟩ := nI_of c
      refine ⟨s, ?_, ?_, rfl⟩
      · have : ¬ s < a := fun q => h1 ((nI_lt' hs ha).mpr q)
        omega
      · have : ¬ b < s := fun q => h2 ((nI_lt' hb hs).mpr q)
        omega
/-- the reference's rows for a session that is opened -/
def opM (m s : qS) (Z : Nat) (x1 x2 x3 : Int32) : Prop := s.2 = m.2 ∧ s.1 131 0 Z = x1 ∧ s.1 132 0 Z = x2 ∧ s.1 133 0 Z = x3 ∧ s.1 134 0 Z = m.1 0 0 53 ∧ s.1 0 0 48 = nI (Z + 1) ∧ s.1 0 0 57 = 0 ∧ ∀ f q, ¬ (131 ≤ f ∧ f ≤ 134 ∧ q = Z) → ¬ (f = 0 ∧ (q = 48 ∨ q = 57)) → s.1 f 0 q = m.1 f 0 q
theorem e_open9 {m : qS} {Z : Nat} {x1 x2 x3 : Int32} (h48 : m.1 0 0 48 = nI Z) (hZ : Z < 10) : ∃ m', fX9_open_54 F x1 x2 x3 0 m = some (nI Z, m') ∧ opM m m' Z x1 x2 x3 := by
  unfold fX9_open_54
  rw [e_h0, bnd2_s, if_pos rfl]
  repeat rw [nm_x]
  have e0 : (qI m 0 0 57 0).1 0 0 48 = nI Z := by rw [qI_ap, if_neg (by omega)]; exact h48
  rw [e0, inx_nI hZ (by decide), ix_nI (by omega)]
  repeat rw [nm_x]
  have e1 : (qI (qI m 0 0 57 0) 131 0 Z x1).1 0 0 48 = nI Z := by rw [qI_ap, if_neg (by omega)]; exact e0
  rw [e1, inx_nI hZ (by decide), ix_nI (by omega)]
  repeat rw [nm_x]
  have e2 : (qI (qI (qI m 0 0 57 0) 131 0 Z x1) 132 0 Z x2).1 0 0 48 = nI Z := by rw [qI_ap, if_neg (by omega)]; exact e1
  rw [e2, inx_nI hZ (by decide), ix_nI (by omega)]
  repeat rw [nm_x]
  have e3 : (qI (qI (qI (qI m 0 0 57 0) 131 0 Z x1) 132 0 Z x2) 133 0 Z x3).1 0 0 48 = nI Z := by rw [qI_ap, if_neg (by omega)]; exact e2
  have e53 : (qI (qI (qI (qI m 0 0 57 0) 131 0 Z x1) 132 0 Z x2) 133 0 Z x3).1 0 0 53 = m.1 0 0 53 := by rw [qI_ap, if_neg (by omega), qI_ap, if_neg (by omega), qI_ap, if_neg (by omega), qI_ap, if_neg (by omega)]
  rw [e3, e53, inx_nI hZ (by decide), ix_nI (by omega)]
  repeat rw [nm_x]
  have e4 : (qI (qI (qI (qI (qI m 0 0 57 0) 131 0 Z x1) 132 0 Z x2) 133 0 Z x3) 134 0 Z (m.1 0 0 53)).1 0 0 48 = nI Z := by rw [qI_ap, if_neg (by omega)]; exact e3
  rw [e4, nI_1, qI_ap, if_pos ⟨rfl, rfl, rfl⟩, show nI (Z + 1) - 1 = nI Z from by rw [show nI (Z + 1) - 1 = nI (Z + 1 - 1) from nI_sub (a := Z + 1) (b := 1) (by omega), Nat.add_sub_cancel]]
  refine ⟨_, rfl, rfl, by rw [qI_ap, if_neg (by omega), qI_ap, if_neg (by omega), qI_ap, if_neg (by omega), qI_ap, if_neg (by omega), qI_ap, if_pos ⟨rfl, rfl, rfl⟩], by rw [qI_ap, if_neg (by omega), qI_ap, if_neg (by omega), qI_ap, if_neg (by omega), qI_ap, if_pos ⟨rfl, rfl, rfl⟩], by rw [qI_ap, if_neg (by omega), qI_ap, if_neg (by omega), qI_ap, if_pos ⟨rfl, rfl, rfl⟩], by rw [qI_ap, if_neg (by omega), qI_ap, if_pos ⟨rfl, rfl, rfl⟩], by rw [qI_ap, if_pos ⟨rfl, rfl, rfl⟩], by rw [qI_ap, if_neg (by omega), qI_ap, if_neg (by omega), qI_ap, if_neg (by omega), qI_ap, if_neg (by omega), qI_ap, if_neg (by omega), qI_ap, if_pos ⟨rfl, rfl, rfl⟩], fun f q w1 w2 => by rw [qI_ap, if_neg (by omega), qI_ap, if_neg (by omega), qI_ap, if_neg (by omega), qI_ap, if_neg (by omega), qI_ap, if_neg (by omega), qI_ap, if_neg (by omega)]⟩
/-- rows of the class when a session is opened -/
theorem newS_r {σ : qS} {p1 p3 : Int32} {i2 f j : Nat} : (newS p1 p3 i2 σ).1 f j = (if f = 16 ∧ j = 0 then upd (σ.1 16 0) 0 (σ.1 16 0 0 + 1) else if f = 50 ∧ j = σ.2 0 0 then sesI (nI (σ.2 0 0)) p1 p3 (σ.1 0 0 14) (σ.1 8 i2 2) else if 51 ≤ f ∧ f ≤ 55 ∧ j = σ.2 0 0 then (fun _ => 0) else if f = 58 ∧ j = σ.2 0 0 then (fun _ => 0) else if f = 56 ∧ 1 + 6 * σ.2 0 0 ≤ j ∧ j < 7 + 6 * σ.2 0 0 then actI else σ.1 f j) := rfl
theorem newS_o {σ : qS} {p1 p3 : Int32} {i2 f j k : Nat} (h : f ≠ 16 ∧ ¬ (50 ≤ f ∧ f ≤ 55 ∧ j = σ.2 0 0) ∧ ¬ (f = 58 ∧ j = σ.2 0 0) ∧ ¬ (f = 56 ∧ 1 + 6 * σ.2 0 0 ≤ j ∧ j < 7 + 6 * σ.2 0 0)) : (newS p1 p3 i2 σ).1 f j k = σ.1 f j k := by
  rw [newS_r, if_neg (by omega), if_neg (by omega), if_neg (by omega), if_neg (by omega), if_neg (by omega)]
theorem newS_50 {σ : qS} {p1 p3 : Int32} {i2 k : Nat} : (newS p1 p3 i2 σ).1 50 (σ.2 0 0) k = sesI (nI (σ.2 0 0)) p1 p3 (σ.1 0 0 14) (σ.1 8 i2 2) k := by
  have e : (newS p1 p3 i2 σ).1 50 (σ.2 0 0) = sesI (nI (σ.2 0 0)) p1 p3 (σ.1 0 0 14) (σ.1 8 i2 2) := newS_r.trans ((if_neg (by omega)).trans (if_pos ⟨rfl, rfl⟩))
  rw [e]
theorem newS_55 {σ : qS} {p1 p3 : Int32} {i2 k : Nat} : (newS p1 p3 i2 σ).1 55 (σ.2 0 0) k = 0 := by
  have e : (newS p1 p3 i2 σ).1 55 (σ.2 0 0) = (fun _ => 0) := newS_r.trans ((if_neg (by omega)).trans ((if_neg (by omega)).trans (if_pos ⟨by omega, by omega, rfl⟩)))
  rw [e]
theorem newS_2 {σ : qS} {p1 p3 : Int32} {i2 k i : Nat} : (newS p1 p3 i2 σ).2 k i = if k = 0 ∧ i = 0 then σ.2 0 0 + 1 else if k = 2 ∧ i = σ.2 0 0 then i2 else if k = 3 ∧ i = σ.2 0 0 then 16 else σ.2 k i := rfl
theorem kI_open {n p s x3 : Nat} {σ m m' : qS} {p3 : Int32} (h : kI n σ m) (h5 : n ≤ 600) (hZ : σ.2 0 0 < 10) (hp : p < 4) (hs : s < 3) (hm : opM m m' (σ.2 0 0) (nI p) (nI s) p3) : kI n (newS (nI p) p3 s σ) m' ∧ phi σ ≤ phi (newS (nI p) p3 s σ) := by
  obtain ⟨C, π, M, S, L, Z, Y, T, cmp, hk, hR, hlo, h6, hK, hP, hcL, hT, hLn, hS, hp9⟩ := h
  have hM80 : M ≤ 80 := hk.1.2.1.2.2.2.2.1
  have eZ := hR.1.1
  rw [eZ] at hZ hm
  have o : ∀ f j k, (f ≠ 16 ∧ ¬ (50 ≤ f ∧ f ≤ 55 ∧ j = Z) ∧ ¬ (f = 58 ∧ j = Z) ∧ ¬ (f = 56 ∧ 1 + 6 * Z ≤ j ∧ j < 7 + 6 * Z)) → (newS (nI p) p3 s σ).1 f j k = σ.1 f j k := fun f j k w => newS_o (by rw [eZ]; exact w)
  have q : ∀ f q, ¬ (131 ≤ f ∧ f ≤ 134 ∧ q = Z) → ¬ (f = 0 ∧ (q = 48 ∨ q = 57)) → m'.1 f 0 q = m.1 f 0 q := fun f q w1 w2 => by
    exact hm.2.2.2.2.2.2.2 f q w1 w2
  have n2 : ∀ z, z ≠ Z → (newS (nI p) p3 s σ).2 2 z = σ.2 2 z := fun z hz => by rw [newS_2, if_neg (by omega), if_neg (by omega), if_neg (by omega)]
  have n3 : ∀ z, z ≠ Z → (newS (nI p) p3 s σ).2 3 z = σ.2 3 z := fun z hz => by rw [newS_2, if_neg (by omega), if_neg (by omega), if_neg (by omega)]
  have n2Z : (newS (nI p) p3 s σ).2 2 Z = s := by rw [newS_2, if_neg (by omega), if_pos ⟨rfl, eZ.symm⟩]
  have n3Z : (newS (nI p) p3 s σ).2 3 Z = 16 := by rw [newS_2, if_neg (by omega), if_neg (by omega), if_pos ⟨rfl, eZ.symm⟩]
  have n0 : (newS (nI p) p3 s σ).2 0 0 = Z + 1 := by rw [newS_2, if_pos ⟨rfl, rfl⟩, eZ]
  have n1 : (newS (nI p) p3 s σ).2 1 0 = σ.2 1 0 := by rw [newS_2, if_neg (by omega), if_neg (by omega), if_neg (by omega)]
  have c50 : ∀ k, (newS (nI p) p3 s σ).1 50 Z k = sesI (nI Z) (nI p) p3 (σ.1 0 0 14) (σ.1 8 s 2) k := fun k => by
    have := newS_50 (σ := σ) (p1 := nI p) (p3 := p3) (i2 := s) (k := k)
    rw [eZ] at this
    exact this
  have c55 : ∀ k, (newS (nI p) p3 s σ).1 55 Z k = 0 := fun k => by
    have := newS_55 (σ := σ) (p1 := nI p) (p3 := p3) (i2 := s) (k := k)
    rw [eZ] at this
    exact this
  obtain ⟨⟨a1, a2, a3, a4, a5, a6, a7⟩, b, c, d, e, ⟨f1, f2, f3, f4⟩, g⟩ := hR
  obtain ⟨d1, d2, d3, d4, d5, d6, d7⟩ := d.1 Z (Nat.le_refl _) hZ
  have hsv := hk.2.1 s hs
  have est : ∀ s', stN (newS (nI p) p3 s σ) s' = stN σ s' := fun s' => by unfold stN; rw [o 8 s' 2 (by omega)]
  have hH : kHs (newS (nI p) p3 s σ) m' (Z + 1) := by
    have h0 : kHs (newS (nI p) p3 s σ) m' Z := kHs_fr hk.2.2.2.1 (fun z hz h0 => ⟨by rw [← q 135 z (by omega) (by omega)]; exact h0, n2 z (by omega), n3 z (by omega), q 132 z (by omega) (by omega), ⟨o 50 z 10 (by omega), o 50 z 11 (by omega)⟩, fun f hf => by funext k; exact o f z k (by omega), fun f x w => q f x (by omega) (by omega)⟩) (fun s' => o 8 s' 2 (by omega)) (by funext k; exact o 2 0 k (by omega)) (fun f i w => o f 0 i (by omega)) (fun s' hs' => by have := (hk.2.1 s' hs').2.2.2.2.1; omega)
    intro z hz hl
    by_cases ez : z = Z
    · subst ez
      have ea : aN (newS (nI p) p3 s σ) z = stN σ s := by
        unfold aN
        rw [c50, show sesI (nI z) (nI p) p3 (σ.1 0 0 14) (σ.1 8 s 2) 10 = σ.1 8 s 2 from rfl]
        rfl
      have ec : cN (newS (nI p) p3 s σ) z = 0 := by
        unfold cN
        rw [c50]
        rfl
      have eW : WN (newS (nI p) p3 s σ) z = [] := by unfold WN; rw [ec]; rfl
      have eT : TN (newS (nI p) p3 s σ) z = [] := by unfold TN; rw [c55, c55]; rfl
      rw [n2Z, est]
      refine ⟨hs, hm.2.2.1, ⟨?_, ?_, ?_, ?_, ?_, ?_⟩, by rw [ea]; exact Nat.le_refl _, ?_⟩
      · rw [ea, c50]
        exact hsv.1
      · rw [ec, c50]; rfl
      · rw [ec]; omega
      · rw [eW]; exact fun w hw => by cases hw
      · rw [eT]
        exact ⟨0, 0, 0, by rw [c55]; rfl, by rw [c55]; rfl, Nat.le_refl _, by omega, by rw [n3Z], by omega, rfl⟩
      · rw [eT]; exact Nat.zero_le _
      · have eP : pN (newS (nI p) p3 s σ) z (stN σ s) = ([], []) := by
          unfold pN
          rw [ea, Nat.sub_self, eW, eT]
          rfl
        rw [eP]
        exact ⟨0, by omega, by rw [q 143 z (by omega) (by omega), d4]; rfl, rfl, (fun w hw => by cases hw), 0, 0, by rw [q 145 z (by omega) (by omega), d5]; rfl, by rw [q 146 z (by omega) (by omega), d6]; rfl, Nat.le_refl _, Nat.zero_le _, rfl⟩
    · exact h0 z (by omega) hl
  refine ⟨⟨C, π, M, S, L, Z + 1, Y, T, cmp, kD_frZ hk hH (fun k k8 => by rw [o 14 0 k (by omega), q 106 k (by omega) (by omega)]; exact hk.2.2.2.2.2.2.2.1 k k8) hm.2.2.2.2.2.1 (fun f j k w => o f j k (by omega)) (fun f x w => q f x (by omega) (by omega)), ⟨⟨n0, by omega, by rw [n1]; exact a3, a4, by rw [q 0 52 (by omega) (by omega)]; exact a5, by rw [o 0 0 14 (by omega)]; exact a6, by rw [q 0 53 (by omega) (by omega)]; exact a7⟩, fun z hz => ?_, fun l hl => kLz_fr (c l hl) (fun k _ => o 57 l k (by omega)) (fun f w1 w2 => q f l (by omega) (by omega)) (Nat.le_refl _), kFr_fr ⟨fun z w1 w2 => d.1 z (by omega) w2, d.2⟩ (fun f z w1 w2 w3 => q f z (by omega) (by omega)) (fun x _ => q 147 x (by omega) (by omega)) (fun l _ _ => q 151 l (by omega) (by omega)), fun k hk8 i hi => ?_, ⟨by rw [o 0 0 18 (by omega), q 0 55 (by omega) (by omega)]; exact f1, by rw [o 0 0 19 (by omega), q 0 56 (by omega) (by omega)]; exact f2, by rw [o 0 0 16 (by omega)]; exact f3, by rw [q 0 28 (by omega) (by omega)]; exact f4⟩, fun z => ?_⟩, kLo_fr hlo (o 0 0 17 (by omega)) (q 0 54 (by omega) (by omega)), fun k k8 => by rw [o 6 0 k (by omega)]; exact h6 k k8, kK_fr hK (o 0 0 12 (by omega)) (fun f k w1 w2 => o f 5 k (by omega)) (q 0 17 (by omega) (by omega)) (fun f x w => q f x (by omega) (by omega)) (fun f k w1 w2 w3 => o f 0 k (by omega)) ⟨by rw [o 2 0 0 (by omega)]; exact hk.1.2.1.2.2.1.1, fun k k1 k2 k3 => by rw [o 2 0 k (by omega)]; exact hk.1.2.1.2.2.1.2 k k1 k2 k3⟩ (Nat.le_refl _) hM80 (Nat.le_refl _), kP_fr hP (fun f k w1 w2 => o f 4 k (by omega)) (fun f k w1 w2 w3 => rfl) (fun f x w1 w2 w3 => q f x (by omega) (by omega)) (Nat.le_refl _), hcL, hT, hLn, ?_, ?_⟩, ?_⟩
  · by_cases ez : z = Z
    · subst ez
      refine ⟨⟨by rw [c50]; rfl, ⟨p, hp, by rw [c50]; rfl, hm.2.1⟩, by rw [c50, hm.2.2.2.1]; rfl, by rw [c50, hm.2.2.2.2.1, a7, ← a6]; rfl, by rw [c50, q 135 z (by omega) (by omega), d1]; rfl, Or.inl (by rw [q 135 z (by omega) (by omega)]; exact d1)⟩, ⟨0, by omega, by rw [c50]; rfl, by rw [q 140 z (by omega) (by omega), d3]; rfl, fun i hi => by omega⟩, ⟨fun _ => by rw [c50, q 136 z (by omega) (by omega), d2]; rfl, Or.inl (by rw [q 136 z (by omega) (by omega)]; exact d2)⟩⟩
    · exact kZ_fr (b z (by omega)) (fun f k w => o f z k (by omega)) (fun a _ _ => by funext k; exact o 56 a k (by omega)) (fun f w => q f z (by omega) (by omega)) (fun x _ _ => q 138 x (by omega) (by omega)) (fun x _ _ => q 139 x (by omega) (by omega))
  · rw [o 15 0 k (by omega), e k hk8 i hi, q 147 _ (by omega) (by omega)]
    by_cases ei : i = Z
    · subst ei
      rw [d7 k hk8]
      simp
    · exact decide_eq_decide.mpr ⟨fun w => ⟨by have := w.1; omega, w.2⟩, fun w => ⟨by have := w.1; omega, w.2⟩⟩
  · by_cases ez : z = Z
    · subst ez
      rw [n3Z]
      exact ⟨by omega, fun w => by omega⟩
    · rw [n3 z ez]
      exact ⟨(g z).1, fun w => (g z).2 (by omega)⟩
  · have e1 : pnd m' Z = pnd m Z := pnd_congr (fun y hy => pnC_congr (q 136 y (by omega) (by omega)) (q 137 y (by omega) (by omega)))
    have e2 : pnC m' Z = 0 := by unfold pnC; rw [q 136 Z (by omega) (by omega), d2, if_neg (by decide)]
    rw [pnd, e1, e2]
    omega
  · have e1 : pnd m' Z = pnd m Z := pnd_congr (fun y hy => pnC_congr (q 136 y (by omega) (by omega)) (q 137 y (by omega) (by omega)))
    have e2 : pnC m' Z = 0 := by unfold pnC; rw [q 136 Z (by omega) (by omega), d2, if_neg (by decide)]
    rw [pnd, e1, e2]
    omega
  · refine phs_mono (fun z _ => ?_)
    by_cases ez : z = Z
    · subst ez
      rw [n3Z, (g z).2 (Nat.le_refl _)]
      omega
    · rw [n3 z ez]
      exact Nat.le_refl _
theorem c_open (hF : 100000 ≤ F) : cI_open F kI phi := by
  intro n σ m p1 p2 p3 hn h
  obtain ⟨h48, h10, -⟩ := kI_Z h
  unfold fX8_open fX9_open fX9_open_21
  have thr : ∀ e c : Nat, (e = 1 ∧ c = 1) ∨ (e = 2 ∧ c = 2) ∨ (e = 3 ∧ c = 3) → lC F kI phi (fun e => if e = 0 then 0 else if e = 1 then 1 else if e = 2 then 2 else if e = 3 then 3 else 0) n σ (some (0, e, σ)) (fX9_open_54 F p1 p2 p3 (nI c) m) (fun _ => 0) := fun e c hec => by
    unfold fX9_open_54
    rcases hec with ⟨rfl, rfl⟩ | ⟨rfl, rfl⟩ | ⟨rfl, rfl⟩
    all_goals
      rw [e_h1 (by decide), bnd2_s, if_neg (show ¬ (1 : Int32) = 0 by decide)]
      exact lC_t rfl (by decide) h (by omega) rfl rfl
  rw [e_isWithin, bnd2_s, e_in, bnd2_s]
  by_cases c1 : ¬ p1 < 0 ∧ ¬ 3 < p1
  · obtain ⟨p, -, hp, rfl⟩ := (in_rng (a := 0) (b := 3) (by decide) (by decide)).mpr c1
    rw [b2_t c1, if_neg (show ¬ (1 : Int32) = 0 by decide), if_neg (show ¬ (1 : Int32) = 0 by decide)]
    by_cases c2 : ∃ s, s < 3 ∧ p2 = nI s
    · obtain ⟨s, hs, rfl⟩ := c2
      rw [e_kServer1 hs, bnd3_s0, if_pos ⟨rfl, rfl⟩, e_in, bnd2_s, b2_t (show ¬ nI s < 0 ∧ ¬ 2 < nI s from (in_rng (a := 0) (b := 2) (by decide) (by decide)).mp ⟨s, by omega, by omega, rfl⟩), if_neg (show ¬ (1 : Int32) = 0 by decide), e_isWithin, bnd2_s, e_in, bnd2_s]
      by_cases c3 : ¬ p3 < 1 ∧ ¬ 50 < p3
      · rw [b2_t c3, if_neg (show ¬ (1 : Int32) = 0 by decide), if_neg (show ¬ (1 : Int32) = 0 by decide), gnl_pos hs, gnl_pos (by omega), nm_x, h48]
        by_cases d : σ.2 0 0 = 10
        · rw [if_neg (show ¬ nI (σ.2 0 0) < 10 from fun w => by have := (nI_lt' (b := 10) (by omega) (by decide)).mp w; omega), if_pos (show nI (σ.2 0 0) = 10 from by rw [d]; rfl)]
          exact thr 3 3 (by omega)
        · have hZ : σ.2 0 0 < 10 := by omega
          rw [if_pos (show nI (σ.2 0 0) < 10 from (nI_lt' (b := 10) (by omega) (by decide)).mpr hZ), if_neg (show ¬ nI (σ.2 0 0) = 10 from fun w => d (nI_inj (b := 10) (by omega) (by decide) w))]
          obtain ⟨m', a1, a2⟩ := e_open9 (F := F) (x1 := nI p) (x2 := nI s) (x3 := p3) h48 hZ
          rw [a1]
          obtain ⟨k1, k2⟩ := kI_open (x3 := 0) h (by omega) hZ (by omega) hs a2
          exact lC_o rfl (kI_mono k1 (Nat.le_succ n)) a2.2.2.2.2.2.2.1 (by omega)
      · rw [b2_f c3, if_pos rfl, if_pos rfl]
        exact thr 2 2 (by omega)
    · rw [e_kServer0 c2, bnd3_se (by decide), e_in, bnd2_s, b2_f (fun w => c2 (by
        obtain ⟨s, _, s2, s3⟩ := (in_rng (a := 0) (b := 2) (by decide) (by decide)).mpr w
        exact ⟨s, by omega, s3⟩)), if_pos rfl]
      exact thr 1 1 (by omega)
  · rw [b2_f c1, if_pos rfl, if_pos rfl]
    exact thr 1 1 (by omega)
theorem c_gather (hF : 100000 ≤ F) : cI_gather F kI phi := by
  intro n σ m p hn h
  obtain ⟨h48, h10, hZ⟩ := kI_Z h
  unfold fX8_gather fX9_gather fX9_gather_31
  have thr : ∀ (σ' m' : qS) (v : Int32) (e : Nat) (c : Int32), (e = 1 ∧ c = 1) ∨ (e = 3 ∧ c = 2) → kI n σ' m' → σ'.2 = σ.2 → lCv F kI phi (fun e => if e = 0 then 0 else if e = 1 then 1 else if e = 3 then 2 else 0) n σ (some (v, e, σ')) (fX9_gather_36 F p c m') := fun σ' m' v e c hec hk hN => by
    have h9 := kI_mono (kI_57 (v := c) hk (by omega)) (Nat.le_succ n)
    unfold fX9_gather_36 fX9_gather_61
    rcases hec with ⟨rfl, rfl⟩ | ⟨rfl, rfl⟩
    all_goals
      rw [e_h1 (by decide), bnd2_s, if_neg (show ¬ (1 : Int32) = 0 by decide)]
      refine ⟨v, _, σ', _, rfl, rfl, ?_, h9, by rw [phi_N hN]; exact Nat.le_refl _⟩
      unfold fX9_thrown
      rw [nm_x, qI_ap, if_pos ⟨rfl, rfl, rfl⟩]
      rfl
  by_cases hp : ∃ z, z < σ.2 0 0 ∧ p = nI z
  · obtain ⟨z, hz, rfl⟩ := hp
    have hz10 : z < 10 := by omega
    rw [e_known1 hz h10, bnd3_s0, e_ses1 h48 hz h10, bnd2_s, if_neg (show ¬ (1 : Int32) = 0 by decide)]
    rcases wk (F := F) h (by omega) hz (by omega) with ⟨s1, m1, w1, w2, w3, w4, w5⟩ | ⟨w1, w2, w3, w4, w5, w6, w7, w8⟩
    · rw [w1, bnd3_se (by decide), w3, bnd2_s, if_neg (show ¬ (1 : Int32) = 0 by decide)]
      exact thr _ _ _ 3 2 (Or.inr ⟨rfl, rfl⟩) w4 w5
    · obtain ⟨⟨q1, q2, q3, q4, q5, q6⟩, b2, b3, b4⟩ := hZ z hz
      rw [w1, bnd3_s0, w3, bnd2_s, if_pos rfl, ldi_nI hz10 (by decide)]
      unfold fX8_mustNotGather
      rw [gnl_pos hz, nm_x, b3 w4]
      by_cases d : m.1 136 0 z = 1
      · rw [d, if_neg (by decide), if_pos rfl, bnd3_se (by decide)]
        exact thr _ _ _ 3 2 (Or.inr ⟨rfl, rfl⟩) h rfl
      · have d0 : m.1 136 0 z = 0 := by rcases b4 with q | q; exact q; exact absurd q.1 d
        rw [d0, if_pos rfl, if_neg (by decide), bnd3_s0, nm_x, gnl_pos hz, nm_x]
        unfold fX9_gather_36 fX9_gather_61
        rw [e_h0, bnd2_s, if_pos rfl, w5, bnd_s, inx_nI hz10 (by decide), ix_nI (by omega)]
        repeat rw [nm_x]
        rw [inx_nI hz10 (by decide)]
        rw [show qI σ 50 z 9 (σ.1 0 0 14) = lsC σ z from rfl, gnl_pos (show z < (lsC σ z).2 0 0 from hz), gbl_1, gnl_pos (show z < (qI (lsC σ z) 50 z 14 1).2 0 0 from hz)]
        have o : ∀ f j k, ¬ (f = 50 ∧ j = z ∧ (k = 14 ∨ k = 12)) → (qI (qI (lsC σ z) 50 z 14 1) 50 z 12 0).1 f j k = (lsC σ z).1 f j k := fun f j k w => by rw [qI_ap, if_neg (by omega), qI_ap, if_neg (by omega)]
        have pp : ∀ f x, ¬ ((f = 136 ∨ f = 137) ∧ x = z) → (qI (qI (lsM m z) 136 0 z 1) 137 0 z 0).1 f 0 x = (lsM m z).1 f 0 x := fun f x w => by rw [qI_ap, if_neg (by omega), qI_ap, if_neg (by omega)]
        have l135 : (lsM m z).1 135 0 z = 0 := by rw [lsM_o (by omega) (by omega)]; exact w4
        have l136 : (lsM m z).1 136 0 z = 0 := by rw [lsM_o (by omega) (by omega)]; exact d0
        have e136 : (qI (qI (lsM m z) 136 0 z 1) 137 0 z 0).1 136 0 z = 1 := by rw [qI_ap, if_neg (by omega), qI_ap, if_pos ⟨rfl, rfl, rfl⟩]
        have e137 : (qI (qI (lsM m z) 136 0 z 1) 137 0 z 0).1 137 0 z = 0 := by rw [qI_ap, if_pos ⟨rfl, rfl, rfl⟩]
        have key : kI n (qI (qI (lsC σ z) 50 z 14 1) 50 z 12 0) (qI (qI (lsM m z) 136 0 z 1) 137 0 z 0) := by
          refine kI_re w6 ⟨rfl, rfl, rfl⟩ (fun f j k w => o f j k (by omega)) (fun f x w => pp f x (by omega)) (Nat.le_refl _) (by omega) (fun L Z Y T cmp _ _ _ hcL hT hR hlo => ⟨Y, T, cmp, ?_, kLo_fr hlo (o 0 0 17 (by omega)) (pp 0 54 (by omega)), hT, Nat.le_refl _, hcL, ?_⟩)
          · have hzZ : z < Z := by rw [← hR.1.1]; exact hz
            obtain ⟨k1, k2, k3⟩ := hR.2.1 z hzZ
            refine kR_z hR hzZ rfl (fun f j k w1 w2 w3 => o f j k (by omega)) (fun f x w1 w2 w3 w4 => pp f x (by omega)) ⟨?_, ?_, ?_⟩
            · obtain ⟨r1, r2, r3, r4, r5, r6⟩ := k1
              refine ⟨by rw [o 50 z 0 (by omega)]; exact r1, ?_, by rw [o 50 z 2 (by omega), pp 133 z (by omega)]; exact r3, by rw [o 50 z 9 (by omega), pp 134 z (by omega)]; exact r4, by rw [o 50 z 15 (by omega), pp 135 z (by omega)]; exact r5, Or.inl (by rw [pp 135 z (by omega)]; exact l135)⟩
              rw [o 50 z 1 (by omega), pp 131 z (by omega)]
              exact r2
            · obtain ⟨x, x1, x2, x3, x4⟩ := k2
              exact ⟨x, x1, by rw [o 50 z 13 (by omega)]; exact x2, by rw [pp 140 z (by omega)]; exact x3, fun i hi => by rw [o 52 z i (by omega), pp 139 _ (by omega)]; exact x4 i hi⟩
            · exact ⟨fun _ => by rw [e136, qI_ap, if_neg (by omega), qI_ap, if_pos ⟨rfl, rfl, rfl⟩], Or.inr ⟨e136, 0, by omega, by rw [qI_ap, if_pos ⟨rfl, rfl, rfl⟩]; rfl, by rw [e137]; rfl, fun i hi => by omega⟩⟩
          · have hzZ : z < Z := by rw [← hR.1.1]; exact hz
            have e1 : pnC (qI (qI (lsM m z) 136 0 z 1) 137 0 z 0) z = 0 := by unfold pnC; rw [e136, e137, if_pos rfl]; rfl
            have e2 := pnd_upd (m := lsM m z) (m' := qI (qI (lsM m z) 136 0 z 1) 137 0 z 0) hzZ (fun y _ hy => pnC_congr (pp 136 y (by omega)) (pp 137 y (by omega)))
            omega
        refine ⟨0, 0, _, _, rfl, rfl, ?_, kI_mono key (Nat.le_succ n), Nat.le_refl _⟩
        unfold fX9_thrown
        rw [nm_x, pp 0 57 (by omega), ls57]
        rfl
  · rw [e_known0 h10 hp, bnd3_se (by decide), e_ses0 h48 h10 hp, bnd2_s, if_pos rfl]
    exact thr _ _ _ 1 1 (Or.inl ⟨rfl, rfl⟩) h rfl
end OP

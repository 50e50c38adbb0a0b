/-! PURE: what ends, in both: sessions, leases, time -/
/-- both, at most at time t, of at most l changes -/
def kIb (n t l : Nat) (σ m : qS) : Prop := ∃ C π M S L Z Y T cmp, kD σ m C π M M S S L Z ∧ kR σ m Z Y T cmp ∧ kLo σ m ∧ nn6 σ ∧ kK σ m M (π S) ∧ kP σ m (C 0) (π 0) cmp ∧ cmp ≤ L ∧ T ≤ t ∧ L ≤ l ∧ S + nH (C S) + pnd m Z ≤ n + M ∧ π S + nH (C S) + 80 * pnd m Z ≤ 1 + 161 * n
theorem kI_b {n : Nat} {σ m : qS} (h : kI n σ m) : kIb n (50 * n) (2000 * n) σ m := h
theorem kIb_I {n t l n' : Nat} {σ m : qS} (h : kIb n t l σ m) (hn : n ≤ n') (ht : t ≤ 50 * n') (hl : l ≤ 2000 * n') : kI n' σ m := by
  obtain ⟨C, π, M, S, L, Z, Y, T, cmp, hk, hR0, hlo, h6, hK, hP, hcL, hT, hLn, hS, hp⟩ := h
  exact ⟨C, π, M, S, L, Z, Y, T, cmp, hk, hR0, hlo, h6, hK, hP, hcL, by omega, by omega, by omega, by omega⟩
section EN2
variable {F : Nat}
/-- what lives by one goes, by a change -/
theorem kI_ends {n t l what which : Nat} {σ m : qS} (h : kIb n t l σ m) (h5 : n ≤ 512) (hl : l < 2 ^ 30) (hw : what = 1 ∨ what = 2) (hF : 100000 ≤ F) : ∃ g σ' m', fX8_letHeldGo F (nI what) (nI which) σ = some (g, σ') ∧ fX9_ends F (nI what) (nI which) m = some (g, m') ∧ kIb n t (l + 1) σ' m' ∧ σ'.2 = σ.2 ∧ m'.1 0 0 57 = m.1 0 0 57 := by
  obtain ⟨C, π, M, S, L, Z, Y, T, cmp, hk, hR, hlo, h6, hK, hP, hcL, hT, hLn, hS, hp9⟩ := h
  have hM80 : M ≤ 80 := hk.1.2.1.2.2.2.2.1
  obtain ⟨m1, a1, a2⟩ := e_begin9 (F := F) (m := m) (by omega)
  have q1 : ∀ f q, ¬ (f = 0 ∧ (q = 27 ∨ q = 19 ∨ q = 18)) → f ≠ 116 → ¬ (108 ≤ f ∧ f ≤ 114 ∧ 320 ≤ q) → m1.1 f 0 q = m.1 f 0 q := fun f q w1 w2 w3 => by
    rw [a2.2, if_neg (by omega), if_neg (by omega), if_neg (by omega), if_neg (by omega), if_neg (by omega)]
  have e27 : m1.1 0 0 27 = nI (L + 1) := by rw [a2.2, if_pos ⟨rfl, rfl, rfl⟩, hk.2.2.2.2.2.2.2.2.2.1, nI_1]
  have e19 : m1.1 0 0 19 = nI (π S) := by rw [a2.2, if_neg (by omega), if_pos ⟨rfl, rfl, rfl⟩]; exact hk.1.1.2.1
  have hk1 : kD σ m1 C π M M S S L Z := kD_fr hk (kHs_fr hk.2.2.2.1 (fun z hz h0 => ⟨by rw [← q1 135 z (by omega) (by omega) (by omega)]; exact h0, rfl, rfl, q1 132 z (by omega) (by omega) (by omega), ⟨rfl, rfl⟩, fun f hf => rfl, fun f x w => q1 f x (by omega) (by omega) (by omega)⟩) (fun s => rfl) rfl (fun f i w => rfl) (fun s hs => by have := (hk.2.1 s hs).2.2.2.2.1; omega)) (fun _ _ _ _ => rfl) (fun f q w => q1 f q (by omega) (by omega) (by omega))
  obtain ⟨σ2, m2, C', π', S', g, b1, b2, b3⟩ := pr_ends_l (F := F) (M0 := 80) (L := L) (what := what) (which := which) (by omega) (by omega) hw 79 1 F F σ m1 C π S 0 (by omega) (by omega) (by omega) (by omega) hk1.1 hk1.2.2.2.2.2.2.2.2.1 e27 (by omega) (by omega)
  have hQ := eX_kQ b3 hk1.2.2.2.2.2.2.2.1
  have b4 := eX_weak (M0 := M) b3 hM80 (Nat.le_refl _) (Nat.le_refl _)
  have hk2 := kD_eX hk1 (by omega) b4 hQ
  obtain ⟨x1, x2, x3, x4, x5, x6, x7, x8, x9, x10⟩ := b3
  obtain ⟨σ3, m3, L', c1, c2, c3, c4, c5, c6, c7, c8⟩ := kD_commit (F := F) hk2 (by omega) (by omega) hR.1.2.1 (fun _ => by rw [x3.2 0 0 27 (by omega) (by omega) (by omega) (by omega) (by omega)]; exact e27) (by rw [x3.2 0 0 19 (by omega) (by omega) (by omega) (by omega) (by omega), (x6 S (Nat.le_refl _)).2]; exact e19) (by omega) hF
  have o : ∀ f j k, f ≠ 38 → f ≠ 39 → ¬ (31 ≤ f ∧ f ≤ 37 ∧ j = 0) → ¬ (10 ≤ f ∧ f ≤ 13) → f ≠ 8 → f ≠ 9 → ¬ (f = 0 ∧ j = 0 ∧ k = 15) → f ≠ 1 → ¬ (j = 0 ∧ 2 ≤ f ∧ f ≤ 6 ∧ 80 ≤ k) → σ3.1 f j k = σ.1 f j k := fun f j k w1 w2 w3 w4 w5 w6 w7 w8 w9 => by
    rw [c7.2 f j k (by omega) (by omega), x2.2 f j k (by omega) (by omega) (by omega) (by omega) (by omega) (by omega) (by omega)]
  have q : ∀ f q, ((f = 0 ∧ q ≠ 7 ∧ q ≠ 18 ∧ q ≠ 19 ∧ q ≠ 25 ∧ q ≠ 26 ∧ q ≠ 27) ∨ (108 ≤ f ∧ f ≤ 114 ∧ 240 ≤ q ∧ q < 320) ∨ f = 115 ∨ (120 ≤ f ∧ f ≤ 124 ∧ q < π S) ∨ (131 ≤ f ∧ f ≤ 140) ∨ f = 145 ∨ ((f = 143 ∨ f = 146) ∧ Z ≤ q) ∨ 147 ≤ f) → m3.1 f 0 q = m.1 f 0 q := fun f q w => by
    rw [c8.2 f 0 q (by omega) (by omega) (fun z hz => by have := hz.1; omega), x3.2 f 0 q (by omega) (by omega) (by omega) (by omega) (by omega), q1 f q (by omega) (by omega) (by omega)]
  have hU : frU σ σ3 := ⟨by rw [c7.1, x2.1], fun f j k w => o f j k (by omega) (by omega) (by omega) (by omega) (by omega) (by omega) (by omega) (by omega) (by omega)⟩
  have hV : frV m m3 (π S) Z := fun f x w => q f x (by omega)
  have hpn : pnd m3 Z = pnd m Z := pnd_congr (fun z _ => pnC_congr (hV 136 z (by omega)) (hV 137 z (by omega)))
  have eSS := (x6 S (Nat.le_refl _)).2
  have hmo : π' S ≤ π' S' := kLog_mono c3.1.1 x4 (Nat.le_refl _)
  refine ⟨g, σ3, m3, ?_, ?_, ⟨C', π', M, S', L', Z, Y, T, cmp, c3, kR_fr hR hU hV, kLo_fr hlo (o 0 0 17 (by omega) (by omega) (by omega) (by omega) (by omega) (by omega) (by omega) (by omega) (by omega)) (q 0 54 (by omega)), fun k k8 => by rw [o 6 0 k (by omega) (by omega) (by omega) (by omega) (by omega) (by omega) (by omega) (by omega) (by omega)]; exact h6 k k8, kK_fr hK (hU.2 0 0 12 (by omega)) (fun f k k1 k2 => hU.2 f 5 k (by omega)) (hV 0 17 (by omega)) (fun f q w => hV f q (by omega)) (fun f k w1 w2 w3 => o f 0 k (by omega) (by omega) (by omega) (by omega) (by omega) (by omega) (by omega) (by omega) (by omega)) c3.1.2.1.2.2.1 (Nat.le_refl _) hM80 (by omega), ?_, by omega, hT, by omega, by rw [hpn]; omega, by rw [hpn]; omega⟩, hU.1, q 0 57 (by omega)⟩
  · unfold fX8_letHeldGo
    rw [show (1 : Int32) = nI 1 from rfl, b1, c1, bnd_s]
  · unfold fX9_ends
    rw [a1, bnd_s, show (1 : Int32) = nI 1 from rfl, b2, c2, bnd_s]
  · rw [(x6 0 (Nat.zero_le _)).2]
    exact kP_fr hP (fun f k k1 k2 => hU.2 f 4 k (by omega)) (x6 0 (Nat.zero_le _)).1 (fun f q k1 k2 k3 => hV f q (by have := kLog_mono hk.1.1 (Nat.zero_le S) (Nat.le_refl _); omega)) (Nat.le_refl _)
/-- the reference's rows of a session that ends -/
def spM (m s : qS) (z : Nat) : Prop := s.1 135 0 z = 1 ∧ s.1 136 0 z = 0 ∧ ∀ f q, ¬ ((f = 135 ∨ f = 136 ∨ f = 143 ∨ f = 145 ∨ f = 146) ∧ q = z) → s.1 f 0 q = m.1 f 0 q
theorem kI_stop0 {n t l z : Nat} {σ m m' : qS} (h : kIb n t l σ m) (h5 : n ≤ 512) (hz : z < σ.2 0 0) (hm : spM m m' z) : kIb n t l (qI σ 50 z 15 1) m' := by
  obtain ⟨C, π, M, S, L, Z, Y, T, cmp, hk, hR, hlo, h6, hK, hP, hcL, hT, hLn, hS, hp9⟩ := h
  have hM80 : M ≤ 80 := hk.1.2.1.2.2.2.2.1
  have hzZ : z < Z := by rw [← hR.1.1]; exact hz
  have o : ∀ f j k, ¬ (f = 50 ∧ j = z ∧ k = 15) → (qI σ 50 z 15 1).1 f j k = σ.1 f j k := fun f j k w => by rw [qI_ap, if_neg w]
  have q := hm.2.2
  have hH : kHs (qI σ 50 z 15 1) m' Z := kHs_fr hk.2.2.2.1 (fun y hy h0 => by
    by_cases e : y = z
    · subst e
      rw [hm.1] at h0
      exact absurd h0 (by decide)
    · exact ⟨by rw [← q 135 y (by omega)]; exact h0, rfl, rfl, q 132 y (by omega), ⟨o 50 y 10 (by omega), o 50 y 11 (by omega)⟩, fun f hf => by funext k; exact o f y k (by omega), fun f x w => q f x (by omega)⟩) (fun s => o 8 s 2 (by omega)) (by funext k; exact o 2 0 k (by omega)) (fun f i w => o f 0 i (by omega)) (fun s hs => by have := (hk.2.1 s hs).2.2.2.2.1; omega)
  have hp1 : pnd m' Z ≤ pnd m Z := by
    have p1 : pnC m' z = 0 := by unfold pnC; rw [hm.2.1, if_neg (by decide)]
    have p2 := pnd_upd (m := m) (m' := m') hzZ (fun y _ hy => pnC_congr (q 136 y (by omega)) (q 137 y (by omega)))
    omega
  refine ⟨C, π, M, S, L, Z, Y, T, cmp, kD_fr hk hH (fun f j k w => o f j k (by omega)) (fun f x w => q f x (by omega)), ?_, kLo_fr hlo (o 0 0 17 (by omega)) (q 0 54 (by omega)), fun k k8 => by rw [o 6 0 k (by omega)]; exact h6 k k8, kK_fr hK (o 0 0 12 (by omega)) (fun f k w1 w2 => o f 5 k (by omega)) (q 0 17 (by omega)) (fun f x w => q f x (by omega)) (fun f k w1 w2 w3 => o f 0 k (by omega)) ⟨by rw [o 2 0 0 (by omega)]; exact hk.1.2.1.2.2.1.1, fun k k1 k2 k3 => by rw [o 2 0 k (by omega)]; exact hk.1.2.1.2.2.1.2 k k1 k2 k3⟩ (Nat.le_refl _) hM80 (Nat.le_refl _), kP_fr hP (fun f k w1 w2 => o f 4 k (by omega)) (fun f k w1 w2 w3 => rfl) (fun f x w1 w2 w3 => q f x (by omega)) (Nat.le_refl _), hcL, hT, hLn, by omega, by omega⟩
  obtain ⟨⟨a1, a2, a3, a4, a5, a6, a7⟩, b, c, d, e, ⟨f1, f2, f3, f4⟩, g⟩ := hR
  refine ⟨⟨a1, a2, a3, a4, by rw [q 0 52 (by omega)]; exact a5, by rw [o 0 0 14 (by omega)]; exact a6, by rw [q 0 53 (by omega)]; exact a7⟩, fun y hy => ?_, fun i hi => kLz_fr (c i hi) (fun k _ => o 57 i k (by omega)) (fun f w1 w2 => q f i (by omega)) (Nat.le_refl _), kFr_fr d (fun f y w1 w2 w3 => q f y (by omega)) (fun x _ => q 147 x (by omega)) (fun i _ _ => q 151 i (by omega)), kBl_fr e (fun k => o 15 0 k (by omega)) (fun x => q 147 x (by omega)), ⟨by rw [o 0 0 18 (by omega), q 0 55 (by omega)]; exact f1, by rw [o 0 0 19 (by omega), q 0 56 (by omega)]; exact f2, by rw [o 0 0 16 (by omega)]; exact f3, by rw [q 0 28 (by omega)]; exact f4⟩, g⟩
  by_cases ey : y = z
  · subst ey
    obtain ⟨⟨r1, r2, r3, r4, r5, r6⟩, k2, k3⟩ := b y hy
    refine ⟨⟨by rw [o 50 y 0 (by omega)]; exact r1, ?_, by rw [o 50 y 2 (by omega), q 133 y (by omega)]; exact r3, by rw [o 50 y 9 (by omega), q 134 y (by omega)]; exact r4, by rw [qI_ap, if_pos ⟨rfl, rfl, rfl⟩, hm.1], Or.inr ⟨hm.1, hm.2.1⟩⟩, ?_, ⟨fun w => ?_, Or.inl hm.2.1⟩⟩
    · rw [o 50 y 1 (by omega), q 131 y (by omega)]; exact r2
    · obtain ⟨x, x1, x2, x3, x4⟩ := k2
      exact ⟨x, x1, by rw [o 50 y 13 (by omega)]; exact x2, by rw [q 140 y (by omega)]; exact x3, fun i hi => by rw [o 52 y i (by omega), q 139 _ (by omega)]; exact x4 i hi⟩
    · rw [hm.1] at w
      exact absurd w (by decide)
  · exact kZ_fr (b y hy) (fun f k w => o f y k (by omega)) (fun a _ _ => by funext k; exact o 56 a k (by omega)) (fun f w => q f y (by omega)) (fun x _ _ => q 138 x (by omega)) (fun x _ _ => q 139 x (by omega))
theorem kIb_Z {n t l : Nat} {σ m : qS} (h : kIb n t l σ m) : m.1 0 0 48 = nI (σ.2 0 0) ∧ σ.2 0 0 ≤ 10 ∧ (∀ z, z < σ.2 0 0 → kZa σ m z) ∧ ∃ T Y, σ.1 0 0 14 = nI T ∧ m.1 0 0 53 = nI T ∧ T ≤ t ∧ σ.2 1 0 = Y ∧ Y ≤ 10 ∧ m.1 0 0 52 = nI Y ∧ ∀ l, l < Y → kLz σ m T l := by
  obtain ⟨C, π, M, S, L, Z, Y, T, cmp, hk, hR0, hlo, h6, hK, hP, hcL, hT, hLn, -⟩ := h
  rw [hR0.1.1]
  exact ⟨hk.2.2.2.2.2.2.2.2.2.2, hR0.1.2.1, fun z hz => (hR0.2.1 z hz).1, T, Y, hR0.1.2.2.2.2.2.1, hR0.1.2.2.2.2.2.2, hT, hR0.1.2.2.1, hR0.1.2.2.2.1, hR0.1.2.2.2.2.1, hR0.2.2.1⟩
/-- a session ends -/
theorem kI_stop {n t l z : Nat} {σ m : qS} (h : kIb n t l σ m) (h5 : n ≤ 512) (hl : l < 2 ^ 30) (hz : z < σ.2 0 0) (hF : 100000 ≤ F) : ∃ g σ' m', fX8_endSession F z σ = some (g, σ') ∧ fX9_stop F (nI z) m = some (g, m') ∧ kIb n t (l + 1) σ' m' ∧ σ'.2 = σ.2 ∧ m'.1 0 0 57 = m.1 0 0 57 := by
  obtain ⟨h48, h10, hZ, -⟩ := kIb_Z h
  have hz10 : z < 10 := by omega
  have hm : spM m (qI (qI (qI (qI (qI m 135 0 z 1) 136 0 z 0) 143 0 z 0) 146 0 z 0) 145 0 z 0) z := ⟨by rw [qI_ap, if_neg (by omega), qI_ap, if_neg (by omega), qI_ap, if_neg (by omega), qI_ap, if_neg (by omega), qI_ap, if_pos ⟨rfl, rfl, rfl⟩], by rw [qI_ap, if_neg (by omega), qI_ap, if_neg (by omega), qI_ap, if_neg (by omega), qI_ap, if_pos ⟨rfl, rfl, rfl⟩], fun f q w => by rw [qI_ap, if_neg (by omega), qI_ap, if_neg (by omega), qI_ap, if_neg (by omega), qI_ap, if_neg (by omega), qI_ap, if_neg (by omega)]⟩
  have h1 := kI_stop0 h h5 hz hm
  obtain ⟨g, σ', m', a1, a2, a3, a4, a5⟩ := kI_ends (F := F) (what := 1) (which := z) h1 h5 hl (Or.inl rfl) hF
  refine ⟨g, σ', m', ?_, ?_, a3, a4, by rw [a5, hm.2.2 0 57 (by omega)]⟩
  · unfold fX8_endSession
    rw [gnl_pos hz, gbl_1, nm_x, gnl_pos (show z < (qI σ 50 z 15 1).2 0 0 from hz), nm_x, show (qI σ 50 z 15 1).1 50 z 0 = nI z from by rw [qI_ap, if_neg (by omega)]; exact (hZ z hz).1, show (1 : Int32) = nI 1 from rfl]
    rw [show (1 : Int32) = nI 1 from rfl] at a1
    rw [a1, bnd2_s]
  · unfold fX9_stop
    rw [inx_nI hz10 (by decide), ix_nI (by omega), nm_x, inx_nI hz10 (by decide), nm_x, inx_nI hz10 (by decide), nm_x, inx_nI hz10 (by decide), nm_x, inx_nI hz10 (by decide), nm_x, show (1 : Int32) = nI 1 from rfl]
    rw [show (1 : Int32) = nI 1 from rfl] at a2
    rw [a2, bnd2_s]
end EN2

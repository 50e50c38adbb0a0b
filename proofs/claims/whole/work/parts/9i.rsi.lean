/-! PURE: restore, in both: what holds then -/
section RI9
variable {F : Nat}
theorem kI_rst {n L Z Y T R M cmp S : Nat} {σ m σ' m' ck : qS} {C : Nat → qS} {π : Nat → Nat} (hk : kD σ m C π M M S S L Z) (hR : kR σ m Z Y T cmp) (hlo : kLo σ m) (h6 : nn6 σ) (hK : kK σ m M (π S)) (hP : kP σ m (C 0) (π 0) cmp) (hcL : cmp ≤ L) (hT : T ≤ 50 * n) (hLn : L ≤ 2000 * n) (hn6 : n ≤ 600) (hRe : R = π S) (hp : R + 1 ≤ 1 + 161 * n + 1) (g : gdT ck M) (hb : bEq M ck σ) (ht : tEq σ 5 ck 0) (hr3 : rEq m 3 (fun f k => ck.1 f 0 k)) (h115 : ∀ k, k < 80 → ck.1 31 0 k ≠ 0 → m.1 115 0 k = ck.1 37 0 k) (h33 : ∀ k, k < 80 → ∃ y, y ≤ π S ∧ ck.1 33 0 k = nI y) (hc : rC σ σ' (nI (L + 1))) (hm : rMM m m' (dT σ) R M Z Y (nI (L + 1))) : kI (n + 1) σ' m' := by
  subst hRe
  obtain ⟨hA, hsv, hch, hH, -, -, hg, hQ, hL, hLm, h48⟩ := hk
  obtain ⟨hl, ⟨b1, b2, b3, b4, b5, b6⟩, ht0, hr0, hc0⟩ := hA
  obtain ⟨⟨z1, z2, z3, z4, z5, z6, z7⟩, rb, rc, rd, re, ⟨f1, f2, f3, f4⟩, rg⟩ := hR
  obtain ⟨cN, cF⟩ := hc
  obtain ⟨⟨m1, m2, m3⟩, mr8, mr, m105, m129, m135, m151, ⟨mk, m120⟩, mlog, mF⟩ := hm
  have o : ∀ f j k, ¬ (f = 8 ∧ j < 3 ∧ (k = 1 ∨ k = 2)) → ¬ (31 ≤ f ∧ f ≤ 37 ∧ (j < 3 ∨ j = 4) ∧ k < 80) → ¬ (f = 9 ∧ j = 0 ∧ k = 4) → ¬ (f = 57 ∧ k = 2 ∧ j < Y) → ¬ (f = 50 ∧ k = 15 ∧ j < Z) → ¬ (f = 0 ∧ j = 0 ∧ (k = 15 ∨ k = 16)) → σ'.1 f j k = σ.1 f j k := fun f j k w1 w2 w3 w4 w5 w6 => by
    rw [cF, z1, z3, if_neg (by omega), if_neg (by omega), if_neg (by omega), if_neg (by omega), if_neg (by omega), if_neg (by omega), if_neg (by omega), if_neg (by omega), if_neg (by omega)]
  have oT : ∀ f j k, 31 ≤ f → f ≤ 37 → (j < 3 ∨ j = 4) → k < 80 → σ'.1 f j k = dS σ f k := fun f j k w1 w2 w3 w4 => by
    rw [cF, if_neg (by omega), if_neg (by omega)]
    by_cases e : j < 3
    · rw [if_pos ⟨w1, w2, e, w4⟩]
    · rw [if_neg (by omega), if_neg (by omega), if_pos ⟨w1, w2, by omega, w4⟩]
  have o81 : ∀ s, s < 3 → σ'.1 8 s 1 = nI (L + 1) := fun s w => by rw [cF, if_pos ⟨rfl, w, rfl⟩]
  have o82 : ∀ s, s < 3 → σ'.1 8 s 2 = nI 0 := fun s w => by rw [cF, if_neg (by omega), if_pos ⟨rfl, w, rfl⟩]; rfl
  have o94 : σ'.1 9 0 4 = nI 0 := by rw [cF, if_neg (by omega), if_neg (by omega), if_neg (by omega), if_pos ⟨rfl, rfl, rfl⟩]; rfl
  have o57 : ∀ l, l < Y → σ'.1 57 l 2 = 1 := fun l w => by rw [cF, z3, if_neg (by omega), if_neg (by omega), if_neg (by omega), if_neg (by omega), if_neg (by omega), if_pos ⟨rfl, rfl, w⟩]
  have o50 : ∀ z, z < Z → σ'.1 50 z 15 = 1 := fun z w => by rw [cF, z3, z1, if_neg (by omega), if_neg (by omega), if_neg (by omega), if_neg (by omega), if_neg (by omega), if_neg (by omega), if_pos ⟨rfl, rfl, w⟩]
  have o16 : σ'.1 0 0 16 = nI (L + 1) := by rw [cF, z3, z1, if_neg (by omega), if_neg (by omega), if_neg (by omega), if_neg (by omega), if_neg (by omega), if_neg (by omega), if_neg (by omega), if_pos ⟨rfl, rfl, rfl⟩]
  have o15 : σ'.1 0 0 15 = nI (L + 1) := by rw [cF, z3, z1, if_neg (by omega), if_neg (by omega), if_neg (by omega), if_neg (by omega), if_neg (by omega), if_neg (by omega), if_neg (by omega), if_neg (by omega), if_pos ⟨rfl, rfl, rfl⟩]
  have p : ∀ f q, ((f = 0 ∧ (q = 7 ∨ q = 17 ∨ 48 ≤ q)) ∨ (100 ≤ f ∧ f ≤ 104) ∨ f = 106 ∨ f = 115 ∨ (108 ≤ f ∧ f ≤ 114 ∧ 240 ≤ q) ∨ (120 ≤ f ∧ f ≤ 124 ∧ q < π S) ∨ (131 ≤ f ∧ f ≤ 134) ∨ (137 ≤ f ∧ f ≤ 142) ∨ ((f = 135 ∨ f = 136 ∨ f = 143 ∨ f = 145 ∨ f = 146) ∧ Z ≤ q) ∨ (147 ≤ f ∧ f ≤ 150) ∨ (f = 151 ∧ Y ≤ q)) → m'.1 f 0 q = m.1 f 0 q := fun f q w => mF f q (by omega) (by omega) (by omega) (by omega) (by omega) (by omega) (by omega)
  have hbw : bwf σ' M := ⟨by rw [o 2 0 0 (by omega) (by omega) (by omega) (by omega) (by omega) (by omega)]; exact b3.1, fun k k1 k2 k3 => by rw [o 2 0 k (by omega) (by omega) (by omega) (by omega) (by omega) (by omega)]; exact b3.2 k k1 k2 k3⟩
  have hgd : gdT (dT σ) M := dT_gd g hb ht b3
  have hbd : bEq M (dT σ) σ' := fun f k k1 k2 k3 k4 => by
    rw [dT_b (by omega), o f 0 k (by omega) (by omega) (by omega) (by omega) (by omega) (by omega)]
  have htd : ∀ j, (j < 3 ∨ j = 4) → tEq σ' j (dT σ) 0 := fun j w f k k1 k2 k3 => by
    rw [oT f j k k1 k2 w k3, dT_t k1 k2]
  have d31 : ∀ k, k < 80 → (dT σ).1 31 0 k ≠ 0 → ck.1 31 0 k ≠ 0 := fun k k8 h => by
    rw [dT_t (by decide) (by decide)] at h
    have := (dS_n h).1
    rw [ht 31 k (by decide) (by decide) k8] at this
    exact this
  have ot : ∀ f k, 32 ≤ f → f ≤ 37 → k < 80 → (dT σ).1 f 0 k = ck.1 f 0 k := fun f k w1 w2 w3 => by
    rw [dT_t (by omega) w2, dS_o (by omega), ht f k (by omega) w2 w3]
  have hrd : ∀ s, s < 3 → rEq m' s (fun f k => (dT σ).1 f 0 k) := fun s hs k k8 => by
    have h3 := hr3 k k8
    rw [mr8 s k hs k8, mr 109 s k (by decide) (by decide) hs k8, mr 110 s k (by decide) (by decide) hs k8, mr 111 s k (by decide) (by decide) hs k8, mr 112 s k (by decide) (by decide) hs k8, mr 113 s k (by decide) (by decide) hs k8, mr 114 s k (by decide) (by decide) hs k8]
    rw [show 80 * 3 + k = 240 + k by omega] at h3
    obtain ⟨a1, a2, a3, a4, a5, a6⟩ := h3
    refine ⟨?_, a2.trans (ot 32 k (by decide) (by decide) k8).symm, a3.trans (ot 33 k (by decide) (by decide) k8).symm, a4.trans (ot 34 k (by decide) (by decide) k8).symm, a5.trans (ot 35 k (by decide) (by decide) k8).symm, ?_⟩
    · by_cases e : k < M
      · rw [if_pos e]
      · rw [if_neg e, a1]
        have q1 : ck.1 31 0 k = 0 := by
          rcases g.2.1 k k8 with w | w
          · exact w
          · exact absurd w.2 e
        have q2 : (dT σ).1 31 0 k = 0 := by
          rcases hgd.2.1 k k8 with w | w
          · exact w
          · exact absurd w.2 e
        exact q1.trans q2.symm
    · obtain ⟨x, y, x1, y1, e1, e2, e3⟩ := a6
      exact ⟨x, y, x1, y1, e1, e2, (ot 36 k (by decide) (by decide) k8).trans e3⟩
  have hcM : cT (dT σ) M ≤ M := cntN_le
  have hnH : nH (dT σ) = cT (dT σ) M := by
    have e := cntN_split (p := fun k => (dT σ).1 31 0 k ≠ 0) (t := 0) (d := M) (e := 80 - M)
    rw [show M + (80 - M) = 80 by omega, cntN_0 (t := 0 + M) (fun k k1 k2 k3 => by
      have := gdT_M hgd (by omega) k3
      omega), Nat.add_zero] at e
    exact e
  have hst : ∀ s, s < 3 → stN σ' s = 0 := fun s hs => by unfold stN; rw [o82 s hs]; rfl
  have hcg : ∀ s, s < 3 → cgN σ' s = L + 1 := fun s hs => by unfold cgN; rw [o81 s hs, ix_nI (by omega)]
  have hZ : ∀ z, z < Z → m'.1 135 0 z = 1 ∧ m'.1 136 0 z = 0 := m135
  have hpn : pnd m' Z = 0 := pnd_0 (fun z hz => (hZ z hz).2)
  refine ⟨fun _ => dT σ, fun _ => π S + 1 + cT (dT σ) M, M, 0, L + 1, Z, Y, T, L + 1, ⟨⟨⟨o94, m1, fun i hi => absurd hi (Nat.not_lt_zero i), fun _ _ => ⟨hgd, hbd⟩⟩, ⟨?_, ?_, ?_, b4, b5, fun k k8 kM => ?_⟩, htd 0 (by omega), hrd 0 (by decide), fun k k8 => ⟨fun h => ?_, ?_⟩⟩, fun s hs => ?_, ⟨fun i hi => absurd hi (Nat.not_lt_zero i), fun i _ hi => absurd hi (Nat.not_lt_zero i), fun i j _ hj => absurd hj (Nat.not_lt_zero j)⟩, fun z hz h => ?_, Nat.le_refl _, Nat.le_refl _, fun _ _ => hgd, fun k k8 => ?_, o15, m2, ?_⟩, ⟨⟨?_, z2, ?_, z4, ?_, ?_, ?_⟩, fun z hz => ⟨?_, ?_, ?_⟩, fun l hl9 => ?_, kFr_fr rd (fun f z w1 w2 w3 => p f z (by omega)) (fun q _ => p 147 q (by omega)) (fun l w1 w2 => p 151 l (by omega)), kBl_fr re (fun k => o 15 0 k (by omega) (by omega) (by omega) (by omega) (by omega) (by omega)) (fun q => p 147 q (by omega)), ⟨?_, ?_, o16, m3⟩, ?_⟩, kLo_fr hlo (o 0 0 17 (by omega) (by omega) (by omega) (by omega) (by omega) (by omega)) (p 0 54 (by omega)), fun k k8 => ?_, ?_, ⟨htd 4 (by omega), fun k hk9 => ?_, fun v => ?_⟩, Nat.le_refl _, by omega, by omega, ?_, ?_⟩
  · rw [o 1 0 5 (by omega) (by omega) (by omega) (by omega) (by omega) (by omega)]; exact b1
  · rw [p 0 7 (by omega)]; exact b2
  · exact hbw
  · obtain ⟨w1, w2, w3, w4, w5⟩ := b6 k k8 kM
    unfold isHd at w5 ⊢
    rw [p 100 k (by omega), p 101 k (by omega), p 102 k (by omega), p 103 k (by omega), p 104 k (by omega), o 2 0 k (by omega) (by omega) (by omega) (by omega) (by omega) (by omega), o 3 0 k (by omega) (by omega) (by omega) (by omega) (by omega) (by omega), o 4 0 k (by omega) (by omega) (by omega) (by omega) (by omega) (by omega), o 5 0 k (by omega) (by omega) (by omega) (by omega) (by omega) (by omega), o 6 0 k (by omega) (by omega) (by omega) (by omega) (by omega) (by omega)]
    exact ⟨w1, w2, w3, w4, w5⟩
  · rw [m105 k (gdT_M hgd k8 h) h, h115 k k8 (d31 k k8 h), ot 37 k (by decide) (by decide) k8]
  · obtain ⟨y, y1, y2⟩ := h33 k k8
    exact ⟨y, Nat.le_trans y1 (show π S ≤ π S + 1 + cT (dT σ) M by omega), by rw [ot 33 k (by decide) (by decide) k8]; exact y2⟩
  · rw [hst s hs, hcg s hs, o82 s hs, o81 s hs, (m129 s hs).1, (m129 s hs).2]
    exact ⟨rfl, rfl, rfl, rfl, Nat.le_refl _, Nat.le_refl _, fun i hi => absurd hi (Nat.not_lt_zero i), fun _ => ⟨htd s (Or.inl hs), hrd s hs⟩, fun _ => ⟨rfl, rfl⟩⟩
  · rw [(hZ z hz).1] at h
    exact absurd h (by decide)
  · rw [o 14 0 k (by omega) (by omega) (by omega) (by omega) (by omega) (by omega), p 106 k (by omega)]
    exact hQ k k8
  · rw [p 0 48 (by omega)]; exact h48
  · rw [cN]; exact z1
  · rw [cN]; exact z3
  · rw [p 0 52 (by omega)]; exact z5
  · rw [o 0 0 14 (by omega) (by omega) (by omega) (by omega) (by omega) (by omega)]; exact z6
  · rw [p 0 53 (by omega)]; exact z7
  · obtain ⟨⟨a1, ⟨q, q1, q2, q3⟩, a3, a4, a5, a6⟩, -, -⟩ := rb z hz
    exact ⟨by rw [o 50 z 0 (by omega) (by omega) (by omega) (by omega) (by omega) (by omega)]; exact a1, ⟨q, q1, by rw [o 50 z 1 (by omega) (by omega) (by omega) (by omega) (by omega) (by omega)]; exact q2, by rw [p 131 z (by omega)]; exact q3⟩, by rw [o 50 z 2 (by omega) (by omega) (by omega) (by omega) (by omega) (by omega), p 133 z (by omega)]; exact a3, by rw [o 50 z 9 (by omega) (by omega) (by omega) (by omega) (by omega) (by omega), p 134 z (by omega)]; exact a4, by rw [o50 z hz, (hZ z hz).1], Or.inr (hZ z hz)⟩
  · obtain ⟨-, ⟨x, x1, x2, x3, x4⟩, -⟩ := rb z hz
    exact ⟨x, x1, by rw [o 50 z 13 (by omega) (by omega) (by omega) (by omega) (by omega) (by omega)]; exact x2, by rw [p 140 z (by omega)]; exact x3, fun i hi => by rw [o 52 z i (by omega) (by omega) (by omega) (by omega) (by omega) (by omega), p 139 _ (by omega)]; exact x4 i hi⟩
  · exact ⟨fun w => by rw [(hZ z hz).1] at w; exact absurd w (by decide), Or.inl (hZ z hz).2⟩
  · obtain ⟨t, r, t1, t2, t3, t4, t5, t6, t7, t8, t9⟩ := rc l hl9
    exact ⟨t, r, t1, t2, t3, by rw [o 57 l 0 (by omega) (by omega) (by omega) (by omega) (by omega) (by omega)]; exact t4, by rw [o 57 l 1 (by omega) (by omega) (by omega) (by omega) (by omega) (by omega)]; exact t5, by rw [p 149 l (by omega)]; exact t6, by rw [p 150 l (by omega)]; exact t7, by rw [o57 l hl9, m151 l hl9], Or.inr (m151 l hl9)⟩
  · rw [o 0 0 18 (by omega) (by omega) (by omega) (by omega) (by omega) (by omega), p 0 55 (by omega)]; exact f1
  · rw [o 0 0 19 (by omega) (by omega) (by omega) (by omega) (by omega) (by omega), p 0 56 (by omega)]; exact f2
  · rw [cN]; exact rg
  · rw [o 6 0 k (by omega) (by omega) (by omega) (by omega) (by omega) (by omega)]; exact h6 k k8
  · exact kK_fr hK (o 0 0 12 (by omega) (by omega) (by omega) (by omega) (by omega) (by omega)) (fun f k w1 w2 => o f 5 k (by omega) (by omega) (by omega) (by omega) (by omega) (by omega)) (p 0 17 (by omega)) (fun f q w => p f q (by omega)) (fun f k w1 w2 w3 => o f 0 k (by omega) (by omega) (by omega) (by omega) (by omega) (by omega)) hbw (Nat.le_refl _) b5 (show π S ≤ π S + 1 + cT (dT σ) M by omega)
  · by_cases e : k < π S
    · obtain ⟨x, x1, x2⟩ := sc_le (L := L) hl hch.1 (fun k hk0 => by
        obtain ⟨x, x1, x2⟩ := hP.2.1 k hk0
        exact ⟨x, by omega, x2⟩) S (Nat.le_refl _) k e
      exact ⟨x, by omega, by rw [p 120 k (by omega)]; exact x2⟩
    · exact ⟨L + 1, Nat.le_refl _, m120 k (by omega) hk9⟩
  · rw [rvl_rst (W := fun k => m.1 109 0 (240 + k)) (v := v) mk b5 (fun k k1 k2 => mlog k k1 k2) M (Nat.le_refl _)]
    unfold cvl
    by_cases w : hlds (dT σ) 0 v
    · have w8 := (in80 w.1).1
      rw [if_pos w, if_pos ⟨w.1, gdT_M hgd w8 w.2, w.2⟩]
      have := (hr3 _ w8).2.1
      rw [show 80 * 3 + v.toNatClampNeg = 240 + v.toNatClampNeg by omega] at this
      exact this.trans (ot 32 _ (by decide) (by decide) w8).symm
    · rw [if_neg w, if_neg (fun u => w ⟨u.1, u.2.2⟩)]
  · show 0 + nH (dT σ) + pnd m' Z ≤ n + 1 + M
    rw [hpn, hnH]; omega
  · show π S + 1 + cT (dT σ) M + nH (dT σ) + 80 * pnd m' Z ≤ 1 + 161 * (n + 1)
    rw [hpn, hnH]; omega
theorem c_restore (hF : 100000 ≤ F) : cI_restore F kI phi := by
  intro n σ m0 hn h0
  have h := kI_57 (v := 0) h0 (by omega)
  unfold fX9_restore
  rw [nm_x, show m0.1 0 0 17 = (qI m0 0 0 57 0).1 0 0 17 from by rw [qI_ap, if_neg (by omega)]]
  have e57 : (qI m0 0 0 57 0).1 0 0 57 = 0 := by rw [qI_ap, if_pos ⟨rfl, rfl, rfl⟩]
  generalize hm : qI m0 0 0 57 0 = m at h e57 ⊢
  obtain ⟨C, π, M, S, L, Z, Y, T, cmp, hk, hR, hlo, h6, hK, hP, hcL, hT, hLn, hS, hp⟩ := h
  have hK0 := hK
  obtain ⟨⟨hM1, hr0⟩, hK⟩ := hK
  rcases hK with ⟨e12, e17⟩ | ⟨e12, e17, ck, g, hb, ht, hr3, h115, h33⟩
  · rw [e17, if_pos rfl]
    unfold fX8_restore fX9_restore_13
    rw [nm_x, e12, if_pos rfl, e_h1 (by decide), bnd2_s, if_neg (show ¬ (1 : Int32) = 0 by decide)]
    exact lC_t rfl (by decide) h0 (by omega) rfl rfl
  · have hM8 : M ≤ 80 := g.1.2.2
    have hL := hk.2.2.2.2.2.2.2.2.1
    obtain ⟨σ', c1, c2⟩ := e_restoreC (F := F) (σ := σ) (L := L) (by omega) e12 hL (by rw [hR.1.1]; exact hR.1.2.1) (by rw [hR.1.2.2.1]; exact hR.1.2.2.2.1) (fun q hq => by
      rw [ht 31 q (by decide) (by decide) hq]
      rcases g.2.1 q hq with w | w
      · exact Or.inl w
      · exact Or.inr w.1)
    have hgd : gdT (dT σ) M := dT_gd g hb ht hk.1.2.1.2.2.1
    have h02 := hk.1.2.1.2.2.2.2.2
    obtain ⟨m', k1, k2⟩ := e_restoreM (F := F) (m0 := m0) (m := m) (c := dT σ) (R := π S) (L := L) (M := M) (Z := Z) (Y := Y) hF hm hk.1.1.2.1 (by omega) hk.2.2.2.2.2.2.2.2.2.1 hk.1.2.1.2.1 hM8 hk.2.2.2.2.2.2.2.2.2.2 hR.1.2.1 hR.1.2.2.2.2.1 hR.1.2.2.2.1 (fun k kM => by
      have k8 : k < 80 := by omega
      refine ⟨?_, ?_⟩
      · have e108 : m.1 108 0 (240 + k) = ck.1 31 0 k := (hr3 k k8).1
        rw [(h02 k k8 kM).2.2.1, e108, dT_t (by decide) (by decide)]
        by_cases w : isHd σ k
        · rw [if_pos w]
          have k1 : 1 ≤ k := by
            by_cases e : k = 0
            · subst e
              exact absurd w hr0
            · omega
          unfold dS
          rw [if_pos ⟨rfl, k1, w⟩]
        · rw [if_neg w, dS_y (fun u => w u.2), ht 31 k (by decide) (by decide) k8]
      · rcases hgd.2.1 k k8 with w | w
        · exact Or.inl w
        · exact Or.inr w.1)
    rw [e17, if_neg (show ¬ (1 : Int32) = 0 by decide), c1, k1]
    have hI : kI (n + 1) σ' m' := kI_rst hk hR hlo h6 hK0 hP hcL hT hLn (by omega) rfl (by omega) g hb ht hr3 h115 h33 c2 k2
    refine lC_o rfl hI ?_ ?_
    · rw [k2.2.2.2.2.2.2.2.2.2 0 57 (by omega) (by omega) (by omega) (by omega) (by omega) (by omega) (by omega)]
      exact e57
    · rw [phi_N c2.1]
      omega
end RI9

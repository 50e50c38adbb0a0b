/-! PURE: done, in both -/
section DN
variable {F : Nat}
theorem c_done (hF : 100000 ≤ F) : cI_done F kI phi := by
  intro n σ m p hn h
  obtain ⟨h48, h10, hZ⟩ := kI_Z h
  unfold fX8_done fX9_done fX9_done_30
  have thr : ∀ (σ' m' : qS) (u : Int32) (e : Nat) (c : Int32), (e = 1 ∧ c = 1) ∨ (e = 3 ∧ c = 2) → kI n σ' m' → σ'.2 = σ.2 → lC F kI phi (fun e => if e = 0 then 0 else if e = 1 then 1 else if e = 3 then 2 else 0) n σ (some (u, e, σ')) (fX9_done_35 F p c m') (fun _ => 0) := fun σ' m' u e c hec hk hN => by
    unfold fX9_done_35
    rcases hec with ⟨rfl, rfl⟩ | ⟨rfl, rfl⟩
    all_goals
      rw [e_h1 (by decide), bnd2_s, if_neg (show ¬ (1 : Int32) = 0 by decide)]
      exact lC_t rfl (by decide) hk (by omega) hN rfl
  by_cases hp : ∃ z, z < σ.2 0 0 ∧ p = nI z
  · obtain ⟨z, hz, rfl⟩ := hp
    have hz10 : z < 10 := by omega
    rw [e_known1 hz h10, bnd3_s0, e_ses1 h48 hz h10, bnd2_s, if_neg (show ¬ (1 : Int32) = 0 by decide)]
    rcases wk (F := F) h (by omega) hz (by omega) with ⟨s1, m1, w1, w2, w3, w4, w5⟩ | ⟨w1, w2, w3, w4, w5, w6, w7, w8⟩
    · rw [w1, bnd3_se (by decide), w3, bnd2_s, if_neg (show ¬ (1 : Int32) = 0 by decide)]
      exact thr _ _ _ 3 2 (Or.inr ⟨rfl, rfl⟩) w4 w5
    · obtain ⟨b1, b2, b3, b4⟩ := hZ z hz
      rw [w1, bnd3_s0, w3, bnd2_s, if_pos rfl, gnl_pos hz, nm_x, b3 w4, ldi_nI hz10 (by decide)]
      rcases b4 with d | ⟨d, g, g6, g1, g2, g3⟩
      · rw [d, if_pos rfl, if_pos rfl]
        exact thr _ _ _ 3 2 (Or.inr ⟨rfl, rfl⟩) h rfl
      · rw [d, if_neg (show ¬ (1 : Int32) = 0 by decide), if_neg (show ¬ (1 : Int32) = 0 by decide), nm_x, gnl_pos hz, nm_x, show qI σ 50 z 9 (σ.1 0 0 14) = lsC σ z from rfl, gnl_pos (show z < (lsC σ z).2 0 0 from hz), gbl_0, nm_x]
        unfold fX9_done_35
        rw [e_h0, bnd2_s, if_pos rfl, w5, bnd_s, inx_nI hz10 (by decide), ix_nI (by omega), nm_x, ldi_nI hz10 (by decide), show (qI (lsM m z) 136 0 z 0).1 137 0 z = nI g from by rw [qI_ap, if_neg (by omega), lsM_o (by omega) (by omega)]; exact g2, inx_nI hz10 (by decide), nm_x]
        have hI := w6
        obtain ⟨C, π, M, S, L, Z, Y, T, cmp, hk, hR, hlo, h6, hK, hP, hcL, hT, hLn, hS, hp9⟩ := hI
        have hZN : σ.2 0 0 = Z := hR.1.1
        have hzZ : z < Z := by omega
        have hM80 : M ≤ 80 := hk.1.2.1.2.2.2.2.1
        have h0S : π 0 ≤ π S := kLog_mono hk.1.1 (Nat.zero_le _) (Nat.le_refl _)
        generalize hσa : qI (lsC σ z) 50 z 14 0 = σa
        generalize hma : qI (qI (lsM m z) 136 0 z 0) 140 0 z (nI g) = ma
        have oa : ∀ f j k, ¬ (f = 50 ∧ j = z ∧ k = 14) → σa.1 f j k = (lsC σ z).1 f j k := fun f j k w => by rw [← hσa, qI_ap, if_neg w]
        have na : σa.2 = σ.2 := by rw [← hσa]; rfl
        have pa : ∀ f q, ¬ ((f = 136 ∨ f = 140) ∧ q = z) → ma.1 f 0 q = (lsM m z).1 f 0 q := fun f q w => by rw [← hma, qI_ap, if_neg (by omega), qI_ap, if_neg (by omega)]
        have pa136 : ma.1 136 0 z = 0 := by rw [← hma, qI_ap, if_neg (by omega), qI_ap, if_pos ⟨rfl, rfl, rfl⟩]
        have pa140 : ma.1 140 0 z = nI g := by rw [← hma, qI_ap, if_pos ⟨rfl, rfl, rfl⟩]
        have oa14 : σa.1 50 z 14 = 0 := by rw [← hσa, qI_ap, if_pos ⟨rfl, rfl, rfl⟩]
        have hka : kD σa ma C π M M S S L Z := kD_fr hk (kHs_fr hk.2.2.2.1 (fun y hy h0 => ⟨by rw [← pa 135 y (by omega)]; exact h0, by rw [na]; rfl, by rw [na]; rfl, pa 132 y (by omega), ⟨oa 50 y 10 (by omega), oa 50 y 11 (by omega)⟩, fun f hf => by funext k; exact oa f y k (by omega), fun f q w => pa f q (by omega)⟩) (fun s => oa 8 s 2 (by omega)) (by funext k; exact oa 2 0 k (by omega)) (fun f i w => oa f 0 i (by omega)) (fun s hs => by have := (hk.2.1 s hs).2.2.2.2.1; omega)) (fun f j k w => oa f j k (by omega)) (fun f q w => pa f q (by omega))
        obtain ⟨s1, m1, k1, k2, k3, k4, k5, k6, k7⟩ := kD_begin (F := F) hka (by omega) (by omega)
        have o1 : ∀ f j k, ¬ (f = 0 ∧ j = 0 ∧ k = 13) → ¬ (31 ≤ f ∧ f ≤ 37 ∧ j = 3) → s1.1 f j k = σa.1 f j k := fun f j k w1 w2 => by rw [k6.2, if_neg (by omega), if_neg (by omega)]
        have p1 : ∀ f q, ¬ (f = 0 ∧ (q = 27 ∨ q = 19 ∨ q = 18)) → f ≠ 116 → ¬ (108 ≤ f ∧ f ≤ 114 ∧ 320 ≤ q) → m1.1 f 0 q = ma.1 f 0 q := fun f q w1 w2 w3 => by
          rw [k7.2, if_neg (by omega), if_neg (by omega), if_neg (by omega), if_neg (by omega), if_neg (by omega)]
        have n1 : s1.2 = σ.2 := k6.1.trans na
        have hz1 : z < s1.2 0 0 := by rw [n1]; exact hz
        generalize hs2 : qI s1 50 z 13 (nI g) = s2
        have o2 : ∀ f j k, ¬ (f = 50 ∧ j = z ∧ k = 13) → s2.1 f j k = s1.1 f j k := fun f j k w => by rw [← hs2, qI_ap, if_neg w]
        have n2 : s2.2 = σ.2 := by rw [← hs2]; exact n1
        have o213 : s2.1 50 z 13 = nI g := by rw [← hs2, qI_ap, if_pos ⟨rfl, rfl, rfl⟩]
        have hk2 : kD s2 m1 C π M M S S L Z := kD_fr k3 (kHs_fr k3.2.2.2.1 (fun y hy h0 => ⟨h0, by rw [n2, n1], by rw [n2, n1], rfl, ⟨o2 50 y 10 (by omega), o2 50 y 11 (by omega)⟩, fun f hf => by funext k; exact o2 f y k (by omega), fun f q w => rfl⟩) (fun s => o2 8 s 2 (by omega)) (by funext k; exact o2 2 0 k (by omega)) (fun f i w => o2 f 0 i (by omega)) (fun s hs => by have := (k3.2.1 s hs).2.2.2.2.1; omega)) (fun f j k w => o2 f j k (by omega)) (fun f q w => rfl)
        have hB2 : kBf s2 m1 (C S) M (π S) := by
          obtain ⟨f1, f2, f3, f4, f5, f6⟩ := k4
          exact ⟨fun f k q1 q2 q3 => by rw [o2 f 3 k (by omega)]; exact f1 f k q1 q2 q3, by rw [o2 0 0 13 (by omega)]; exact f2, f3, f4, f5, f6⟩
        have o3 : ∀ f j k, 40 ≤ f → ¬ (f = 50 ∧ j = z ∧ (k = 13 ∨ k = 14)) → s2.1 f j k = (lsC σ z).1 f j k := fun f j k w1 w2 => by rw [o2 f j k (by omega), o1 f j k (by omega) (by omega), oa f j k (by omega)]
        have p3 : ∀ f q, 125 ≤ f → ¬ ((f = 136 ∨ f = 140) ∧ q = z) → m1.1 f 0 q = (lsM m z).1 f 0 q := fun f q w1 w2 => by rw [p1 f q (by omega) (by omega) (by omega), pa f q w2]
        have h62 : nn6 s2 := fun k k8 => by rw [o2 6 0 k (by omega), o1 6 0 k (by omega) (by omega), oa 6 0 k (by omega)]; exact h6 k k8
        obtain ⟨⟨r1, ⟨pp, pp4, e1, e131⟩, r3, r4, r5, r6⟩, rb, rc⟩ := hR.2.1 z hzZ
        have g7 : ∀ j, j < g → kZe (lsC σ z) (lsM m z) z j := fun j hj => by
          have := g3 j hj
          unfold kZe at this ⊢
          rw [lsM_o (by omega) (by omega), lsM_o (by omega) (by omega), lsM_o (by omega) (by omega), lsM_o (by omega) (by omega), lsM_o (by omega) (by omega), lsM_o (by omega) (by omega), lsM_o (by omega) (by omega)]
          exact actR_fr this (by funext q; exact lsC_o (by omega))
        have eg12 : (lsC σ z).1 50 z 12 = nI g := by rw [lsC_o (by omega)]; exact g1
        have eg137 : (lsM m z).1 137 0 z = nI g := by rw [lsM_o (by omega) (by omega)]; exact g2
        have hpg : pnd (lsM m z) Z ≥ g := by
          have q1 : pnC (lsM m z) z = g := by
            unfold pnC
            rw [lsM_o (by omega) (by omega), d, if_pos rfl, eg137, ix_nI (by omega)]
          have q2 := pnd_upd (m := lsM m z) (m' := ma) hzZ (fun y _ hy => pnC_congr (pa 136 y (by omega)) (pa 137 y (by omega)))
          have q3 : pnC ma z = 0 := by unfold pnC; rw [pa136, if_neg (by decide)]
          omega
        -- all acts, one behind the other
        have pack : ∃ r σ' m' C' π' M' S' k2, fX8_performAll_16 F z F (-1) 0 s2 = some (r, σ') ∧ fX9_done_75 F F (nI z) (-1) 0 m1 = fX9_done_75 F (k2 + 1) (nI z) r (nI g) m' ∧ (r = -1 ∨ ∃ b, b < g ∧ r = nI b) ∧ frG s2 σ' z S M ∧ frH9 m1 m' z (π S) M ∧ (∀ j, j < g → σ'.1 52 z j = m'.1 139 0 (6 * z + j)) ∧ kD σ' m' C' π' M' M S' S L Z ∧ kBf σ' m' (C' S) M (π' S) ∧ nn6 σ' ∧ S ≤ S' ∧ M ≤ M' ∧ (∀ x, x ≤ S → tEq (C' x) 0 (C x) 0 ∧ π' x = π x) ∧ S' + nH (C' S') + M ≤ S + nH (C S) + M' + g ∧ π' S' + nH (C' S') ≤ π S + nH (C S) + 80 * g ∧ (g = 0 → r = -1 ∧ S' = S ∧ M' = M) := by
          by_cases g0 : g = 0
          · subst g0
            obtain ⟨k2, hk2F⟩ : ∃ x, F = x + 1 := ⟨F - 1, by omega⟩
            refine ⟨-1, s2, m1, C, π, M, S, k2, ?_, by rw [hk2F]; rfl, Or.inl rfl, ⟨rfl, fun _ _ _ _ _ _ _ _ _ _ _ => rfl⟩, fun _ _ _ _ _ _ _ _ => rfl, fun j h2 => by omega, hk2, hB2, h62, Nat.le_refl _, Nat.le_refl _, fun x _ => ⟨tEq_rf, rfl⟩, by omega, by omega, fun _ => ⟨rfl, rfl, rfl⟩⟩
            rw [hk2F]
            unfold fX8_performAll_16 fX8_performAll_77
            rw [gnl_pos (by rw [n2]; exact hz), nm_x, o3 50 z 12 (by omega) (by omega), eg12, if_pos (show nI 0 ≤ 0 from Int32.le_refl _)]
          · obtain ⟨r, σ', m', C', π', M', S', k2, a1, a2, a3, a4, a5, a6, a7, a8, a9, a10, a11, a12, a13, a14, a15⟩ := pr_all_l (F := F) (M0 := M) (S0 := S) (L := L) (g := g) (p := pp) hR.1.2.1 hzZ g6 pp4 (by omega) hF g 0 F F s2 m1 C π M S (-1) (by omega) (by omega) (by omega) (by rw [n2]; exact hZN) (by rw [o3 50 z 1 (by omega) (by omega)]; exact e1) (by rw [p3 131 z (by omega) (by omega)]; exact e131) (by rw [o3 50 z 12 (by omega) (by omega)]; exact eg12) (by rw [p3 137 z (by omega) (by omega)]; exact eg137) (fun j _ hj => by
              have := g7 j hj
              unfold kZe at this ⊢
              rw [p3 138 (42 * z + 7 * j) (by omega) (by omega), p3 138 (42 * z + 7 * j + 1) (by omega) (by omega), p3 138 (42 * z + 7 * j + 2) (by omega) (by omega), p3 138 (42 * z + 7 * j + 3) (by omega) (by omega), p3 138 (42 * z + 7 * j + 4) (by omega) (by omega), p3 138 (42 * z + 7 * j + 5) (by omega) (by omega), p3 138 (42 * z + 7 * j + 6) (by omega) (by omega)]
              exact actR_fr this (by funext q; exact o3 56 _ q (by omega) (by omega))) hk2 (by omega) hB2 h62 k5 (by omega) (by omega) (Or.inl rfl)
            exact ⟨r, σ', m', C', π', M', S', k2, a1, a2, a3, a4, a5, fun j hj => a6 j (by omega) hj, a8, a9, a10, a11, a12, a13, a14, a15, fun q => absurd q g0⟩
        obtain ⟨r, σ', m', C', π', M', S', k2', a1, a2, a3, a4, a5, a6, a8, a9, a10, a11, a12, a13, a14, a15, a16⟩ := pack
        have h0' := (a13 0 (Nat.zero_le _)).2
        have ht0 := (a13 0 (Nat.zero_le _)).1
        have eSS := (a13 S (Nat.le_refl _)).2
        have eHS := nH_tEq (a13 S (Nat.le_refl _)).1
        have hM80' : M' ≤ 80 := a8.1.2.1.2.2.2.2.1
        -- rows behind the loop
        have o5 : ∀ f j k, (f = 0 ∧ j = 0 ∧ k ≠ 13) ∨ (40 ≤ f ∧ ¬ (f = 50 ∧ j = z ∧ (k = 13 ∨ k = 14)) ∧ ¬ (f = 52 ∧ j = z)) ∨ (14 ≤ f ∧ f ≤ 30) ∨ (31 ≤ f ∧ f ≤ 37 ∧ 4 ≤ j) ∨ (2 ≤ f ∧ f ≤ 6 ∧ k < M) → σ'.1 f j k = (lsC σ z).1 f j k := fun f j k w => by
          rw [a4.2 f j k (by omega) (by omega) (by omega) (by omega) (by omega) (by omega) (by omega) (by omega), o2 f j k (by omega), o1 f j k (by omega) (by omega), oa f j k (by omega)]
        have o550 : ∀ k, k ≠ 13 → k ≠ 14 → σ'.1 50 z k = (lsC σ z).1 50 z k := fun k w1 w2 => o5 50 z k (by omega)
        have o513 : σ'.1 50 z 13 = nI g := by rw [a4.2 50 z 13 (by omega) (by omega) (by omega) (by omega) (by omega) (by omega) (by omega) (by omega)]; exact o213
        have o514 : σ'.1 50 z 14 = 0 := by rw [a4.2 50 z 14 (by omega) (by omega) (by omega) (by omega) (by omega) (by omega) (by omega) (by omega), o2 50 z 14 (by omega), o1 50 z 14 (by omega) (by omega)]; exact oa14
        have p5 : ∀ f q, ((f = 0 ∧ q ≠ 7 ∧ q ≠ 18 ∧ q ≠ 19 ∧ q ≠ 25 ∧ q ≠ 27) ∨ (108 ≤ f ∧ f ≤ 114 ∧ 240 ≤ q ∧ q < 320) ∨ f = 115 ∨ (120 ≤ f ∧ f ≤ 124 ∧ q < π S) ∨ 125 ≤ f) → ¬ ((f = 136 ∨ f = 140) ∧ q = z) → ¬ (f = 139 ∧ 6 * z ≤ q ∧ q < 6 * z + 6) → m'.1 f 0 q = (lsM m z).1 f 0 q := fun f q w1 w2 w3 => by
          rw [a5 f q (by omega) (by omega) (by omega) (by omega) (by omega) w3, p1 f q (by omega) (by omega) (by omega), pa f q w2]
        have p5136 : m'.1 136 0 z = 0 := by rw [a5 136 z (by omega) (by omega) (by omega) (by omega) (by omega) (by omega), p1 136 z (by omega) (by omega) (by omega)]; exact pa136
        have p5140 : m'.1 140 0 z = nI g := by rw [a5 140 z (by omega) (by omega) (by omega) (by omega) (by omega) (by omega), p1 140 z (by omega) (by omega) (by omega)]; exact pa140
        have n5 : σ'.2 = σ.2 := a4.1.trans n2
        have l135 : m'.1 135 0 z = 0 := by rw [p5 135 z (by omega) (by omega) (by omega), lsM_o (by omega) (by omega)]; exact w4
        have hlo5 : kLo σ' m' := kLo_fr hlo (o5 0 0 17 (by omega)) (p5 0 54 (by omega) (by omega) (by omega))
        -- both as they were ahead of the acts, with the answers
        have hRp : kR (fun f j k => if f = 50 ∨ f = 52 then σ'.1 f j k else (lsC σ z).1 f j k, σ.2) (fun f j q => if f = 136 ∨ f = 139 ∨ f = 140 then m'.1 f j q else (lsM m z).1 f j q, (lsM m z).2) Z Y T cmp := by
          have u : ∀ f j k, f ≠ 50 → f ≠ 52 → ((fun f j k => if f = 50 ∨ f = 52 then σ'.1 f j k else (lsC σ z).1 f j k, σ.2) : qS).1 f j k = (lsC σ z).1 f j k := fun f j k h1 h2 => if_neg (by omega)
          have u5 : ∀ f j k, f = 50 ∨ f = 52 → ((fun f j k => if f = 50 ∨ f = 52 then σ'.1 f j k else (lsC σ z).1 f j k, σ.2) : qS).1 f j k = σ'.1 f j k := fun f j k h1 => if_pos h1
          have y : ∀ f q, f ≠ 136 → f ≠ 139 → f ≠ 140 → ((fun f j q => if f = 136 ∨ f = 139 ∨ f = 140 then m'.1 f j q else (lsM m z).1 f j q, (lsM m z).2) : qS).1 f 0 q = (lsM m z).1 f 0 q := fun f q h1 h2 h3 => if_neg (by omega)
          have y5 : ∀ f q, f = 136 ∨ f = 139 ∨ f = 140 → ((fun f j q => if f = 136 ∨ f = 139 ∨ f = 140 then m'.1 f j q else (lsM m z).1 f j q, (lsM m z).2) : qS).1 f 0 q = m'.1 f 0 q := fun f q h1 => if_pos h1
          refine kR_z hR hzZ rfl (fun f j k w1 w2 w3 => ?_) (fun f q w1 w2 w3 w4 => ?_) ⟨⟨by rw [u5 50 z 0 (by omega), o550 0 (by omega) (by omega)]; exact r1, ⟨pp, pp4, by rw [u5 50 z 1 (by omega), o550 1 (by omega) (by omega)]; exact e1, by rw [y 131 z (by omega) (by omega) (by omega)]; exact e131⟩, by rw [u5 50 z 2 (by omega), o550 2 (by omega) (by omega), y 133 z (by omega) (by omega) (by omega)]; exact r3, by rw [u5 50 z 9 (by omega), o550 9 (by omega) (by omega), y 134 z (by omega) (by omega) (by omega)]; exact r4, by rw [u5 50 z 15 (by omega), o550 15 (by omega) (by omega), y 135 z (by omega) (by omega) (by omega)]; exact r5, Or.inl (by rw [y 135 z (by omega) (by omega) (by omega), lsM_o (by omega) (by omega)]; exact w4)⟩, ⟨g, g6, by rw [u5 50 z 13 (by omega)]; exact o513, by rw [y5 140 z (by omega)]; exact p5140, fun i hi => by rw [u5 52 z i (by omega), y5 139 _ (by omega)]; exact a6 i hi⟩, ⟨fun _ => by rw [u5 50 z 14 (by omega), y5 136 z (by omega), o514, p5136], Or.inl (by rw [y5 136 z (by omega)]; exact p5136)⟩⟩
          · by_cases e5 : f = 50 ∨ f = 52
            · rw [u5 f j k e5, o5 f j k (by omega)]
            · rw [u f j k (by omega) (by omega)]
          · by_cases e5 : f = 136 ∨ f = 139 ∨ f = 140
            · rw [y5 f q e5, p5 f q (by omega) (by omega) (by omega)]
            · rw [y f q (by omega) (by omega) (by omega)]
        have hpn : pnd ((fun f j q => if f = 136 ∨ f = 139 ∨ f = 140 then m'.1 f j q else (lsM m z).1 f j q, (lsM m z).2) : qS) Z + g = pnd (lsM m z) Z := by
          have y : ∀ f q, ¬ (f = 136 ∨ f = 139 ∨ f = 140) → ((fun f j q => if f = 136 ∨ f = 139 ∨ f = 140 then m'.1 f j q else (lsM m z).1 f j q, (lsM m z).2) : qS).1 f 0 q = (lsM m z).1 f 0 q := fun f q h1 => if_neg h1
          have y5 : ∀ f q, f = 136 ∨ f = 139 ∨ f = 140 → ((fun f j q => if f = 136 ∨ f = 139 ∨ f = 140 then m'.1 f j q else (lsM m z).1 f j q, (lsM m z).2) : qS).1 f 0 q = m'.1 f 0 q := fun f q h1 => if_pos h1
          have q1 : pnC (lsM m z) z = g := by
            unfold pnC
            rw [lsM_o (by omega) (by omega), d, if_pos rfl, eg137, ix_nI (by omega)]
          have q2 := pnd_upd (m := lsM m z) (m' := ((fun f j q => if f = 136 ∨ f = 139 ∨ f = 140 then m'.1 f j q else (lsM m z).1 f j q, (lsM m z).2) : qS)) hzZ (fun x _ hx => pnC_congr ((y5 136 x (by omega)).trans (p5 136 x (by omega) (by omega) (by omega))) (y 137 x (by omega)))
          have q3 : pnC ((fun f j q => if f = 136 ∨ f = 139 ∨ f = 140 then m'.1 f j q else (lsM m z).1 f j q, (lsM m z).2) : qS) z = 0 := by
            unfold pnC
            exact if_neg (fun w => by
              have w9 : m'.1 136 0 z = 1 := (y5 136 z (by omega)).symm.trans w
              rw [p5136] at w9
              exact absurd w9 (by decide))
          omega
        have fin : ∀ (v : Int32) (σ3 m3 : qS) (M3 S3 L3 : Nat), kD σ3 m3 C' π' M3 M3 S3 S3 L3 Z → frU σ' σ3 → frV m' m3 (π S) Z → frB6 σ' σ3 M → nn6 σ3 → M ≤ M3 → kLo σ3 m3 → L ≤ L3 → L3 ≤ L + 1 → S ≤ S3 → S3 + nH (C' S3) + M ≤ S + nH (C S) + M3 + g → π' S3 + nH (C' S3) ≤ π S + nH (C S) + 80 * g → lC F kI phi (fun e => if e = 0 then 0 else if e = 1 then 1 else if e = 3 then 2 else 0) n σ (some (v, 0, σ3)) (some (v, m3)) (fun _ => 0) := fun v σ3 m3 M3 S3 L3 c1 c2 c3 c4 c5 c6 c7 c8 c9 c10 c11 c12 => by
          have hmo : π' S ≤ π' S3 := kLog_mono c1.1.1 c10 (Nat.le_refl _)
          have hUp : frU (fun f j k => if f = 50 ∨ f = 52 then σ'.1 f j k else (lsC σ z).1 f j k, σ.2) σ3 := ⟨c2.1.trans n5, fun f j k w => by
            rw [c2.2 f j k w]
            by_cases e5 : f = 50 ∨ f = 52
            · exact (if_pos e5).symm
            · exact (o5 f j k (by omega)).trans (if_neg e5).symm⟩
          have hVp : frV (fun f j q => if f = 136 ∨ f = 139 ∨ f = 140 then m'.1 f j q else (lsM m z).1 f j q, (lsM m z).2) m3 (π S) Z := fun f q w => by
            rw [c3 f q w]
            by_cases e5 : f = 136 ∨ f = 139 ∨ f = 140
            · exact (if_pos e5).symm
            · exact (p5 f q (by omega) (by omega) (by omega)).trans (if_neg e5).symm
          refine lC_o rfl (kI_of (n := n) hRp (kK_fr hK rfl (fun f k k1 k2 => if_neg (by omega)) rfl (fun f q w => if_neg (by omega)) (fun f k k1 k2 k3 => if_neg (by omega)) hk.1.2.1.2.2.1 (Nat.le_refl _) hM80 (Nat.le_refl _)) (kP_fr (c' := C 0) hP (fun f k k1 k2 => if_neg (by omega)) tEq_rf (fun f q k1 k2 k3 => if_neg (by omega)) (Nat.le_refl _)) h0S hcL c1 hUp hVp (fun f k k1 k2 k3 => by rw [c4 f k k1 k2 k3]; exact (o5 f 0 k (by omega)).trans (if_neg (by omega)).symm) c5 c6 h0' ht0 (by omega) c7 c8 (by omega) (by omega) (by omega) (by omega)) ?_ (by rw [phi_N (c2.1.trans n5)]; omega)
          rw [c3 0 57 (by omega), p5 0 57 (by omega) (by omega) (by omega)]
          exact ls57
        have hz5 : z < σ'.2 0 0 := by rw [n5]; exact hz
        have e137 : m'.1 137 0 z = nI g := by rw [p5 137 z (by omega) (by omega) (by omega)]; exact eg137
        unfold fX8_performAll
        rw [k1, bnd_s, gnl_pos hz1, nm_x, o1 50 z 12 (by omega) (by omega), oa 50 z 12 (by omega), eg12, gnl_pos hz1, nm_x, hs2, a1, bnd2_s, k2, bnd_s, a2, fX9_done_75, ldi_nI hz10 (by decide), e137, if_pos (Int32.le_refl _)]
        have hv5 : ∀ k, k < 80 → ∃ y, y ≤ π' S ∧ (C' S).1 33 0 k = nI y := fun k k8 => by
          obtain ⟨y, z1, z2⟩ := (hk.1.2.2.2.2 k k8).2
          exact ⟨y, by omega, by rw [(a13 S (Nat.le_refl _)).1 33 k (by decide) (by decide) k8]; exact z2⟩
        have hQ5 : ∀ k, k < 80 → M ≤ k → σ'.1 14 0 k = 80 := fun k k8 kM => by
          rw [o5 14 0 k (by omega)]
          exact (hk.2.2.2.2.2.2.2.1 k k8).2 kM
        rcases a3 with rfl | ⟨b, b1, rfl⟩
        · rw [if_pos (show (-1 : Int32) < 0 by decide), if_pos (show (-1 : Int32) < 0 by decide), gnl_pos hz5, nm_x, o513, ldi_nI hz10 (by decide), e137]
          by_cases g0 : g = 0
          · obtain ⟨-, rfl, rfl⟩ := a16 g0
            rw [if_pos (show nI g = 0 from by rw [g0]; rfl), if_pos (show nI g = 0 from by rw [g0]; rfl), gnl_pos hz5, nm_x, nm_x]
            obtain ⟨q1, q2, q3⟩ := a8.2.2.2.1 z hzZ l135
            have hcg := (a8.2.1 _ q1).2.2.2.2.2.1
            obtain ⟨σ3, m3, v1, v2, v3, v4, v5⟩ := kD_catch (F := F) (s := σ'.2 2 z) (p := L) a8 (by omega) (by omega) hR.1.2.1 q1 (by omega) (by omega) hF
            rw [a8.2.2.2.2.2.2.2.2.1, v1, bnd2_s, nm_x, ldi_nI hz10 (by decide), q2]
            repeat rw [nm_x]
            rw [show cgN σ' (σ'.2 2 z) + min L (L - cgN σ' (σ'.2 2 z)) = L by omega] at v2
            rw [a8.2.2.2.2.2.2.2.2.2.1, v2, bnd_s, nm_x, v3.2.2.2.2.2.2.2.2.1, v3.2.2.2.2.2.2.2.2.2.1]
            have ox : ∀ f j k, f ≠ 38 → f ≠ 39 → f ≠ 8 → ¬ (31 ≤ f ∧ f ≤ 37 ∧ j ≤ 2) → σ3.1 f j k = σ'.1 f j k := fun f j k w1 w2 w3 w4 => v4.2 f j k w1 w2 (by omega) (by omega)
            exact fin _ σ3 m3 _ _ _ v3 ⟨v4.1, fun f j k w => ox f j k (by omega) (by omega) (by omega) (by omega)⟩ (fun f q w => v5.2 f 0 q (by omega) (by omega) (fun y hy => by have := hy.1; omega)) (fun f k w1 w2 w3 => ox f 0 k (by omega) (by omega) (by omega) (by omega)) (fun k k8 => by rw [ox 6 0 k (by omega) (by omega) (by omega) (by omega)]; exact a10 k k8) (Nat.le_refl _) (kLo_fr hlo5 (ox 0 0 17 (by omega) (by omega) (by omega) (by omega)) (v5.2 0 0 54 (by omega) (by omega) (fun y _ => by omega))) (Nat.le_refl _) (by omega) (Nat.le_refl _) (by omega) (by omega)
          · have hgn : ¬ nI g = 0 := fun w => g0 (nI_inj (b := 0) (by omega) (by decide) w)
            rw [if_neg hgn, if_neg hgn]
            obtain ⟨t, r, σ3, m3, M3, S3, L3, v1, v2, v3, v4, v5, v6, v7, v8, v9⟩ := pr_settle (F := F) (z := z) a8 (by omega) (by omega) hR.1.2.1 a9 hv5 hQ5 (by rw [a5 0 27 (by omega) (by omega) (by omega) (by omega) (by omega) (by omega)]; exact k5) (by omega) (by rw [n5]; exact hZN) hzZ l135 hlo5 hF
            obtain ⟨c1, c2⟩ := fr_st v8
            have c3 := fr_stM (R := π S) v9
            have fin' := fun v => fin v σ3 m3 M3 S3 L3 v4 c1 c3 (fun f k k1 k2 k3 => c2 f k k1 k2) (fun k k8 => by rw [c2 6 k (by decide) (by decide)]; exact a10 k k8) (by rcases v5 with q | q <;> omega) (Or.inl ⟨v6, v7⟩) (by rcases v5 with q | q <;> omega) (by rcases v5 with q | q <;> omega) (by rcases v5 with q | q <;> omega) (by
              rcases v5 with q | q
              · rw [q.2.1]; omega
              · rw [q.2.1]; omega) (by
              rcases v5 with q | q
              · rw [q.2.1]; omega
              · rw [q.2.1]; omega)
            unfold fX8_done_101 fX9_done_265
            rw [v1, v2, bnd2_s, bnd2_s]
            rcases v3 with ⟨q1, q2⟩ | ⟨q1, q2⟩
            · rw [q1, q2, if_neg (show ¬ (1 : Int32) = 0 by decide), if_pos rfl, nm_x, nm_x, v4.2.2.2.2.2.2.2.2.1, v4.2.2.2.2.2.2.2.2.2.1]
              exact fin' _
            · rw [q1, q2, if_pos rfl, if_neg (show ¬ (1 : Int32) = 0 by decide)]
              exact fin' _
        · have hb : ¬ nI b < 0 := nI_nn (by omega)
          rw [if_neg hb, if_neg hb]
          obtain ⟨σ3, m3, v1, v2, v3, v4, v5⟩ := kD_undo (F := F) a8 (by omega) a9 hv5 hQ5 (by omega)
          rw [v1, v2, bnd_s, bnd_s, nm_x, nm_x]
          have ox : ∀ f j k, f ≠ 38 → f ≠ 39 → f ≠ 9 → f ≠ 1 → ¬ (31 ≤ f ∧ f ≤ 37 ∧ j = 0) → σ3.1 f j k = σ'.1 f j k := fun f j k w1 w2 w3 w4 w5 => by rw [v4.2, if_neg (by omega), if_neg (by omega), if_neg (by omega)]
          have px : ∀ f q, ¬ (f = 0 ∧ (q = 25 ∨ q = 7)) → f ≠ 105 → ¬ (108 ≤ f ∧ f ≤ 114 ∧ q < 80) → m3.1 f 0 q = m'.1 f 0 q := fun f q w1 w2 w3 => by rw [v5.2, if_neg (by omega), if_neg (by omega), if_neg (by omega), if_neg (by omega)]
          exact fin _ σ3 m3 _ _ _ v3 ⟨v4.1, fun f j k w => ox f j k (by omega) (by omega) (by omega) (by omega) (by omega)⟩ (fun f q w => px f q (by omega) (by omega) (by omega)) (fun f k w1 w2 w3 => ox f 0 k (by omega) (by omega) (by omega) (by omega) (by omega)) (fun k k8 => by rw [ox 6 0 k (by omega) (by omega) (by omega) (by omega) (by omega)]; exact a10 k k8) (Nat.le_refl _) (kLo_fr hlo5 (ox 0 0 17 (by omega) (by omega) (by omega) (by omega) (by omega)) (px 0 54 (by omega) (by omega) (by omega))) (Nat.le_refl _) (by omega) (Nat.le_refl _) (by omega) (by omega)
  · rw [e_known0 h10 hp, bnd3_se (by decide), e_ses0 h48 h10 hp, bnd2_s, if_pos rfl]
    exact thr _ _ _ 1 1 (Or.inl ⟨rfl, rfl⟩) h rfl
end DN

/-! PURE: acts are told, in both: done at once or gathered -/
section AC9
variable {F : Nat}
theorem e_toDo {σ : qS} {a : Nat} {k nd nb vr : Int32} (ha : a < 1 + 6 * σ.2 0 0) : ∃ s, fX0_toDo F a k nd nb vr σ = some s ∧ s.2 = σ.2 ∧ (s.1 56 a 0 = k ∧ s.1 56 a 1 = nd ∧ s.1 56 a 3 = nb ∧ s.1 56 a 4 = vr) ∧ ∀ f j q, ¬ (f = 56 ∧ j = a ∧ (q = 0 ∨ q = 1 ∨ q = 3 ∨ q = 4)) → s.1 f j q = σ.1 f j q := by
  unfold fX0_toDo
  rw [gnl_pos ha, nm_x, gnl_pos (show a < 1 + 6 * (qI σ 56 a 0 k).2 0 0 from ha), nm_x, gnl_pos (show a < 1 + 6 * (qI (qI σ 56 a 0 k) 56 a 1 nd).2 0 0 from ha), nm_x, gnl_pos (show a < 1 + 6 * (qI (qI (qI σ 56 a 0 k) 56 a 1 nd) 56 a 3 nb).2 0 0 from ha), nm_x]
  exact ⟨_, rfl, rfl, ⟨by rw [qI_ap, if_neg (by omega), qI_ap, if_neg (by omega), qI_ap, if_neg (by omega), qI_ap, if_pos ⟨rfl, rfl, rfl⟩], by rw [qI_ap, if_neg (by omega), qI_ap, if_neg (by omega), qI_ap, if_pos ⟨rfl, rfl, rfl⟩], by rw [qI_ap, if_neg (by omega), qI_ap, if_pos ⟨rfl, rfl, rfl⟩], by rw [qI_ap, if_pos ⟨rfl, rfl, rfl⟩]⟩, fun f j q w => by rw [qI_ap, if_neg (by omega), qI_ap, if_neg (by omega), qI_ap, if_neg (by omega), qI_ap, if_neg (by omega)]⟩
theorem e_toMake {σ : qS} {a : Nat} {up nm9 vl kd : Int32} (ha : a < 1 + 6 * σ.2 0 0) : ∃ s, fX0_toMake F a up nm9 vl kd σ = some s ∧ s.2 = σ.2 ∧ (s.1 56 a 0 = 0 ∧ s.1 56 a 1 = up ∧ s.1 56 a 2 = nm9 ∧ s.1 56 a 3 = vl ∧ s.1 56 a 5 = kd) ∧ ∀ f j q, ¬ (f = 56 ∧ j = a ∧ q < 6) → s.1 f j q = σ.1 f j q := by
  unfold fX0_toMake
  obtain ⟨s, s1, s2, ⟨s3, s4, s5, s6⟩, s7⟩ := e_toDo (F := F) (k := 0) (nd := up) (nb := vl) (vr := -1) ha
  have ha' : a < 1 + 6 * s.2 0 0 := by rw [s2]; exact ha
  rw [gnl_pos ha, s1, bnd_s, gnl_pos ha', nm_x, gnl_pos (show a < 1 + 6 * (qI s 56 a 2 nm9).2 0 0 from ha'), nm_x]
  exact ⟨_, rfl, s2, ⟨by rw [qI_ap, if_neg (by omega), qI_ap, if_neg (by omega)]; exact s3, by rw [qI_ap, if_neg (by omega), qI_ap, if_neg (by omega)]; exact s4, by rw [qI_ap, if_neg (by omega), qI_ap, if_pos ⟨rfl, rfl, rfl⟩], by rw [qI_ap, if_neg (by omega), qI_ap, if_neg (by omega)]; exact s5, by rw [qI_ap, if_pos ⟨rfl, rfl, rfl⟩]⟩, fun f j q w => by rw [qI_ap, if_neg (by omega), qI_ap, if_neg (by omega), s7 f j q (by omega)]⟩
/-- where the next act goes -/
theorem nx {n z : Nat} {σ m : qS} (h : kI n σ m) (h5 : n ≤ 600) (hz : z < σ.2 0 0) (hF : 100 ≤ F) :
    (∃ σ' m', fX8_nextAct F z σ = some (0, 3, σ') ∧ fX9_barred F (nI z) m = some (1, m') ∧ kI n σ' m' ∧ σ'.2 = σ.2 ∧ (fX8_mustLive F z σ = some (0, 3, σ') ∨ (fX8_mustLive F z σ = some (0, 0, σ) ∧ σ' = σ ∧ m' = m))) ∨
    (∃ a, fX8_mustLive F z σ = some (0, 0, σ) ∧ fX8_nextAct F z σ = some (a, 0, lsC σ z) ∧ fX9_barred F (nI z) m = some (0, m) ∧ m.1 135 0 z = 0 ∧ fX9_does F (nI z) (qI m 0 0 57 0) = some (lsM m z) ∧ kI n (lsC σ z) (lsM m z) ∧ ((a = 0 ∧ m.1 136 0 z = 0) ∨ ∃ g, g < 6 ∧ a = 1 + 6 * z + g ∧ m.1 136 0 z = 1 ∧ m.1 137 0 z = nI g ∧ σ.1 50 z 12 = nI g)) := by
  obtain ⟨h48, h10, hZ⟩ := kI_Z h
  obtain ⟨-, -, b3, b4⟩ := hZ z hz
  have hz10 : z < 10 := by omega
  unfold fX8_nextAct fX9_barred fX9_barred_29 fX9_barred_33 fX9_barred_34
  rcases wk (F := F) h h5 hz hF with ⟨s1, m1, w1, w2, w3, w4, w5⟩ | ⟨w1, w2, w3, w4, w5, w6, w7, w8⟩
  · refine Or.inl ⟨s1, m1, ?_, ?_, w4, w5, Or.inl w1⟩
    · rw [w1, bnd3_se (by decide)]
    · rw [w3, bnd2_s, if_neg (show ¬ (1 : Int32) = 0 by decide), gbl_1]
  · have hz' : z < (lsC σ z).2 0 0 := hz
    rw [w1, bnd3_s0, w3, bnd2_s, if_pos rfl, gnl_pos hz, nm_x, b3 w4, ldi_nI hz10 (by decide)]
    unfold fX8_nextAct_32 fX8_nextAct_63
    rw [nm_x, gnl_pos hz, nm_x]
    rw [show qI σ 50 z 9 (σ.1 0 0 14) = lsC σ z from rfl, gnl_pos hz', nm_x, show (lsC σ z).1 50 z 14 = m.1 136 0 z from by rw [lsC_o (by omega)]; exact b3 w4]
    rcases b4 with c | ⟨c, g, g1, g2, g3, g4⟩
    · rw [c, if_pos rfl, if_pos rfl, if_neg (show ¬ (0 : Int32) = 1 by decide), gbl_0]
      exact Or.inr ⟨0, rfl, rfl, rfl, w4, w5, w6, Or.inl ⟨rfl, rfl⟩⟩
    · rw [c, if_neg (by decide), if_pos rfl, gnl_pos hz, nm_x, g2, ldi_nI hz10 (by decide), g3]
      by_cases c6 : g = 6
      · rw [if_neg (show ¬ nI g < 6 from fun q => by have := (nI_lt' (b := 6) (by omega) (by decide)).mp q; omega), if_pos (show nI g = 6 from by rw [c6]; rfl), gbl_1]
        exact Or.inl ⟨σ, m, rfl, rfl, h, rfl, Or.inr ⟨rfl, rfl, rfl⟩⟩
      · have hg : g < 6 := by omega
        rw [if_pos (show nI g < 6 from (nI_lt' (b := 6) (by omega) (by decide)).mpr hg), if_neg (show ¬ nI g = 6 from fun q => c6 (nI_inj (b := 6) (by omega) (by decide) q)), gbl_0, if_neg (by decide), gnl_pos hz', gnl_pos hz', nm_x, gnl_pos hz', show (lsC σ z).1 50 z 12 = nI g from by rw [lsC_o (by omega)]; exact g2, inx_nI hg (by decide), nm_x, ix_nI (by omega)]
        exact Or.inr ⟨1 + 6 * z + g, rfl, rfl, rfl, w4, w5, w6, Or.inr ⟨g, hg, rfl, rfl, rfl, rfl⟩⟩
/-- what the reference gathers -/
theorem e_gath {m : qS} {z g : Nat} {w x1 x2 x3 x4 x5 x6 : Int32} (hz : z < 10) (hg : g < 6) (h36 : (lsM m z).1 136 0 z = 1) (h37 : (lsM m z).1 137 0 z = nI g) (hd : fX9_does F (nI z) (qI m 0 0 57 0) = some (lsM m z)) : ∃ m', fX9_act F (nI z) w x1 x2 x3 x4 x5 x6 (qI m 0 0 57 0) = some (-11, m') ∧ (m'.1 138 0 (42 * z + 7 * g) = w ∧ m'.1 138 0 (42 * z + 7 * g + 1) = x1 ∧ m'.1 138 0 (42 * z + 7 * g + 2) = x2 ∧ m'.1 138 0 (42 * z + 7 * g + 3) = x3 ∧ m'.1 138 0 (42 * z + 7 * g + 4) = x4 ∧ m'.1 138 0 (42 * z + 7 * g + 5) = x5 ∧ m'.1 138 0 (42 * z + 7 * g + 6) = x6 ∧ m'.1 137 0 z = nI (g + 1)) ∧ ∀ f q, ¬ (f = 138 ∧ 42 * z + 7 * g ≤ q ∧ q < 42 * z + 7 * g + 7) → ¬ (f = 137 ∧ q = z) → m'.1 f 0 q = (lsM m z).1 f 0 q := by
  unfold fX9_act
  rw [hd, bnd_s, ldi_nI hz (by decide), h36, if_pos rfl]
  repeat rw [nm_x]
  rw [ldi_nI hz (by decide), h37]
  repeat rw [nm_x]
  generalize hx : 42 * z + 7 * g = x
  rw [show (42 : Int32) * nI z + 7 * nI g = nI x from by rw [show (42 : Int32) = nI 42 from rfl, show (7 : Int32) = nI 7 from rfl, nI_mul, nI_mul, nI_add, hx]]
  have e2 : nI x + 2 = nI (x + 2) := by rw [show (2 : Int32) = nI 2 from rfl, nI_add]
  have e3 : nI x + 3 = nI (x + 3) := by rw [show (3 : Int32) = nI 3 from rfl, nI_add]
  have e4 : nI x + 4 = nI (x + 4) := by rw [show (4 : Int32) = nI 4 from rfl, nI_add]
  have e5 : nI x + 5 = nI (x + 5) := by rw [show (5 : Int32) = nI 5 from rfl, nI_add]
  have e6 : nI x + 6 = nI (x + 6) := by rw [show (6 : Int32) = nI 6 from rfl, nI_add]
  rw [inx_nI (show x < 420 by omega) (by decide), nI_1, e2, e3, e4, e5, e6, inx_nI (show x + 1 < 420 by omega) (by decide), inx_nI (show x + 2 < 420 by omega) (by decide), inx_nI (show x + 3 < 420 by omega) (by decide), inx_nI (show x + 4 < 420 by omega) (by decide), inx_nI (show x + 5 < 420 by omega) (by decide), inx_nI (show x + 6 < 420 by omega) (by decide), ix_nI (show x < 2 ^ 31 by omega), ix_nI (show x + 1 < 2 ^ 31 by omega), ix_nI (show x + 2 < 2 ^ 31 by omega), ix_nI (show x + 3 < 2 ^ 31 by omega), ix_nI (show x + 4 < 2 ^ 31 by omega), ix_nI (show x + 5 < 2 ^ 31 by omega), ix_nI (show x + 6 < 2 ^ 31 by omega), ldi_nI hz (by decide)]
  repeat rw [nm_x]
  rw [inx_nI hz (by decide), ix_nI (show z < 2 ^ 31 by omega), show (qI (qI (qI (qI (qI (qI (qI (lsM m z) 138 0 x w) 138 0 (x + 1) x1) 138 0 (x + 2) x2) 138 0 (x + 3) x3) 138 0 (x + 4) x4) 138 0 (x + 5) x5) 138 0 (x + 6) x6).1 137 0 z = nI g from by rw [qI_ap, if_neg (by omega), qI_ap, if_neg (by omega), qI_ap, if_neg (by omega), qI_ap, if_neg (by omega), qI_ap, if_neg (by omega), qI_ap, if_neg (by omega), qI_ap, if_neg (by omega)]; exact h37, nI_1]
  refine ⟨_, rfl, ⟨?_, ?_, ?_, ?_, ?_, ?_, ?_, by rw [qI_ap, if_pos ⟨rfl, rfl, rfl⟩]⟩, fun f q w1 w2 => by rw [qI_ap, if_neg (by omega), qI_ap, if_neg (by omega), qI_ap, if_neg (by omega), qI_ap, if_neg (by omega), qI_ap, if_neg (by omega), qI_ap, if_neg (by omega), qI_ap, if_neg (by omega), qI_ap, if_neg (by omega)]⟩
  · rw [qI_ap, if_neg (by omega), qI_ap, if_neg (by omega), qI_ap, if_neg (by omega), qI_ap, if_neg (by omega), qI_ap, if_neg (by omega), qI_ap, if_neg (by omega), qI_ap, if_neg (by omega), qI_ap, if_pos ⟨rfl, rfl, rfl⟩]
  · rw [qI_ap, if_neg (by omega), qI_ap, if_neg (by omega), qI_ap, if_neg (by omega), qI_ap, if_neg (by omega), qI_ap, if_neg (by omega), qI_ap, if_neg (by omega), qI_ap, if_pos ⟨rfl, rfl, rfl⟩]
  · rw [qI_ap, if_neg (by omega), qI_ap, if_neg (by omega), qI_ap, if_neg (by omega), qI_ap, if_neg (by omega), qI_ap, if_neg (by omega), qI_ap, if_pos ⟨rfl, rfl, rfl⟩]
  · rw [qI_ap, if_neg (by omega), qI_ap, if_neg (by omega), qI_ap, if_neg (by omega), qI_ap, if_neg (by omega), qI_ap, if_pos ⟨rfl, rfl, rfl⟩]
  · rw [qI_ap, if_neg (by omega), qI_ap, if_neg (by omega), qI_ap, if_neg (by omega), qI_ap, if_pos ⟨rfl, rfl, rfl⟩]
  · rw [qI_ap, if_neg (by omega), qI_ap, if_neg (by omega), qI_ap, if_pos ⟨rfl, rfl, rfl⟩]
  · rw [qI_ap, if_neg (by omega), qI_ap, if_pos ⟨rfl, rfl, rfl⟩]
/-- rows of an act that does not wait yet -/
theorem kI_56 {n z a : Nat} {σ m σ' : qS} (h : kI n σ m) (h5 : n ≤ 600) (hz : z < σ.2 0 0) (ha : a = 0 ∨ ∃ g, g < 6 ∧ a = 1 + 6 * z + g ∧ m.1 137 0 z = nI g) (hN : σ'.2 = σ.2) (o : ∀ f j q, ¬ (f = 56 ∧ j = a) → σ'.1 f j q = σ.1 f j q) : kI n σ' m := by
  refine kI_re h ⟨by rw [hN], by rw [hN], by rw [hN]⟩ (fun f j k w => o f j k (by omega)) (fun _ _ _ => rfl) (Nat.le_refl _) h5 (fun L Z Y T cmp _ _ _ hcL hT hR hlo => ⟨Y, T, cmp, ?_, kLo_fr hlo (o 0 0 17 (by omega)) rfl, hT, Nat.le_refl _, hcL, Nat.le_refl _⟩)
  have hzZ : z < Z := by rw [← hR.1.1]; exact hz
  have hZ10 := hR.1.2.1
  refine kR_z hR hzZ hN (fun f j k w1 w2 w3 => o f j k (by
    rcases ha with rfl | ⟨g, g1, rfl, -⟩ <;> omega)) (fun _ _ _ _ _ _ => rfl) ?_
  rcases ha with rfl | ⟨g, g1, rfl, g2⟩
  · exact kZ_fr (hR.2.1 z hzZ) (fun f k w => o f z k (by omega)) (fun a w1 w2 => by funext k; exact o 56 a k (by omega)) (fun _ _ => rfl) (fun _ _ _ => rfl) (fun _ _ _ => rfl)
  · obtain ⟨b1, b2, b3, b4⟩ := hR.2.1 z hzZ
    refine ⟨?_, ?_, by rw [o 50 z 14 (by omega)]; exact b3, ?_⟩
    · unfold kZa at b1 ⊢
      rw [o 50 z 0 (by omega), o 50 z 1 (by omega), o 50 z 2 (by omega), o 50 z 9 (by omega), o 50 z 15 (by omega)]
      exact b1
    · obtain ⟨x, x1, x2, x3, x4⟩ := b2
      exact ⟨x, x1, by rw [o 50 z 13 (by omega)]; exact x2, x3, fun i hi => by rw [o 52 z i (by omega)]; exact x4 i hi⟩
    · rcases b4 with c2 | ⟨c2, x, x1, x2, x3, x4⟩
      · exact Or.inl c2
      · refine Or.inr ⟨c2, x, x1, by rw [o 50 z 12 (by omega)]; exact x2, x3, fun i hi => ?_⟩
        have hxg : x = g := nI_inj (by omega) (by omega) (x3.symm.trans g2)
        exact actR_fr (x4 i hi) (by funext q; exact o 56 _ q (by omega))
/-- an act that is filled in is submitted -/
theorem pr_do {n z a : Nat} {σ m σ2 : qS} {w x1 x2 x3 x4 x5 x6 : Int32} (h : kI n (lsC σ z) (lsM m z)) (hn : n < 512) (hz : z < σ.2 0 0) (hl : m.1 135 0 z = 0) (hd : fX9_does F (nI z) (qI m 0 0 57 0) = some (lsM m z)) (ha : (a = 0 ∧ m.1 136 0 z = 0) ∨ ∃ g, g < 6 ∧ a = 1 + 6 * z + g ∧ m.1 136 0 z = 1 ∧ m.1 137 0 z = nI g ∧ σ.1 50 z 12 = nI g) (hN : σ2.2 = σ.2) (o : ∀ f j q, ¬ (f = 56 ∧ j = a) → σ2.1 f j q = (lsC σ z).1 f j q) (hr : actR σ2 z a w x1 x2 x3 x4 x5 x6) (hF : 100000 ≤ F) : ∃ v σ' m', fX8_submit F z a σ2 = some (v, σ') ∧ fX9_act F (nI z) w x1 x2 x3 x4 x5 x6 (qI m 0 0 57 0) = some (v, m') ∧ kI (n + 1) σ' m' ∧ σ'.2 = σ.2 ∧ m'.1 0 0 57 = 0 := by
  obtain ⟨h48, h10, hZ⟩ := kI_Z h
  have h10' : σ.2 0 0 ≤ 10 := h10
  have hz10 : z < 10 := by omega
  have l135 : (lsM m z).1 135 0 z = 0 := by rw [lsM_o (by omega) (by omega)]; exact hl
  have e136 : (lsM m z).1 136 0 z = m.1 136 0 z := lsM_o (by omega) (by omega)
  have e137 : (lsM m z).1 137 0 z = m.1 137 0 z := lsM_o (by omega) (by omega)
  have hk : kI n σ2 (lsM m z) := kI_56 h (by omega) hz (by
    rcases ha with ⟨q, -⟩ | ⟨g, g1, g2, g3, g4, g5⟩
    · exact Or.inl q
    · exact Or.inr ⟨g, g1, g2, by rw [e137]; exact g4⟩) hN o
  rcases ha with ⟨rfl, c⟩ | ⟨g, g1, rfl, g3, g4, g5⟩
  · obtain ⟨v, σ', m', a1, a2, a3, a4, a5⟩ := pr_sub (F := F) hk hn (by rw [hN]; exact hz) l135 (by rw [e136]; exact c) (by omega) hr hF
    refine ⟨v, σ', m', a1, ?_, a3, a4.trans hN, by rw [a5]; exact ls57⟩
    rw [← a2]
    unfold fX9_act aTl
    rw [hd, bnd_s, ldi_nI hz10 (by decide), e136, c, if_neg (by decide)]
  · obtain ⟨m', d1, ⟨t0, t1, t2, t3, t4, t5, t6, t7⟩, d3⟩ := e_gath (F := F) (w := w) (x1 := x1) (x2 := x2) (x3 := x3) (x4 := x4) (x5 := x5) (x6 := x6) hz10 g1 (by rw [e136]; exact g3) (by rw [e137]; exact g4) hd
    have hz2 : z < σ2.2 0 0 := by rw [hN]; exact hz
    obtain ⟨-, -, hZ2⟩ := kI_Z hk
    obtain ⟨-, -, b3, b4⟩ := hZ2 z hz2
    have e12 : σ2.1 50 z 12 = nI g := by rw [o 50 z 12 (by omega), lsC_o (by omega)]; exact g5
    have o' : ∀ f j q, ¬ (f = 50 ∧ j = z ∧ q = 12) → (qI σ2 50 z 12 (nI (g + 1))).1 f j q = σ2.1 f j q := fun f j q w => by rw [qI_ap, if_neg w]
    refine ⟨-11, qI σ2 50 z 12 (nI (g + 1)), m', ?_, d1, ?_, hN, by rw [d3 0 57 (by omega) (by omega)]; exact ls57⟩
    · unfold fX8_submit
      rw [gnl_pos hz2, nm_x, b3 l135, e136, g3, if_neg (by decide), gnl_pos hz2, nm_x, e12, nm_x, nI_1, gnl_pos hz2, nm_x]
    · refine kI_re hk ⟨rfl, rfl, rfl⟩ (fun f j k w => o' f j k (by omega)) (fun f q w => d3 f q (by omega) (by omega)) (Nat.le_succ n) (by omega) (fun L Z Y T cmp _ _ _ hcL hT hR hlo => ⟨Y, T, cmp, ?_, kLo_fr hlo (o' 0 0 17 (by omega)) (d3 0 54 (by omega) (by omega)), by omega, Nat.le_refl _, hcL, ?_⟩)
      · have hzZ : z < Z := by rw [← hR.1.1]; exact hz2
        obtain ⟨k1, k2, k3, k4⟩ := hR.2.1 z hzZ
        refine kR_z hR hzZ rfl (fun f j k w1 w2 w3 => o' f j k (by omega)) (fun f q w1 w2 w3 w4 => d3 f q (by omega) (by omega)) ⟨?_, ?_, ?_, ?_⟩
        · unfold kZa at k1 ⊢
          rw [o' 50 z 0 (by omega), o' 50 z 1 (by omega), o' 50 z 2 (by omega), o' 50 z 9 (by omega), o' 50 z 15 (by omega), d3 131 z (by omega) (by omega), d3 133 z (by omega) (by omega), d3 134 z (by omega) (by omega), d3 135 z (by omega) (by omega), d3 136 z (by omega) (by omega)]
          exact k1
        · obtain ⟨x, y1, y2, y3, y4⟩ := k2
          exact ⟨x, y1, by rw [o' 50 z 13 (by omega)]; exact y2, by rw [d3 140 z (by omega) (by omega)]; exact y3, fun i hi => by rw [o' 52 z i (by omega), d3 139 _ (by omega) (by omega)]; exact y4 i hi⟩
        · rw [o' 50 z 14 (by omega), d3 135 z (by omega) (by omega), d3 136 z (by omega) (by omega)]; exact k3
        · rw [d3 136 z (by omega) (by omega)]
          rcases k4 with c2 | ⟨c2, x, y1, y2, y3, y4⟩
          · rw [e136, g3] at c2
            exact absurd c2 (by decide)
          · have hxg : x = g := nI_inj (by omega) (by omega) (y2.symm.trans e12)
            subst hxg
            refine Or.inr ⟨c2, x + 1, by omega, by rw [qI_ap, if_pos ⟨rfl, rfl, rfl⟩], t7, fun i hi => ?_⟩
            by_cases ei : i = x
            · subst ei
              unfold kZe
              rw [t0, t1, t2, t3, t4, t5, t6]
              exact actR_fr hr (by funext q; exact o' 56 _ q (by omega))
            · have hw := y4 i (by omega)
              unfold kZe at hw ⊢
              rw [d3 138 (42 * z + 7 * i) (by omega) (by omega), d3 138 (42 * z + 7 * i + 1) (by omega) (by omega), d3 138 (42 * z + 7 * i + 2) (by omega) (by omega), d3 138 (42 * z + 7 * i + 3) (by omega) (by omega), d3 138 (42 * z + 7 * i + 4) (by omega) (by omega), d3 138 (42 * z + 7 * i + 5) (by omega) (by omega), d3 138 (42 * z + 7 * i + 6) (by omega) (by omega)]
              exact actR_fr hw (by funext q; exact o' 56 _ q (by omega))
      · have hzZ : z < Z := by rw [← hR.1.1]; exact hz2
        have p1 : pnC m' z = g + 1 := by
          unfold pnC
          rw [d3 136 z (by omega) (by omega), e136, g3, if_pos rfl, t7, ix_nI (by omega)]
        have p2 : pnC (lsM m z) z = g := by
          unfold pnC
          rw [e136, g3, if_pos rfl, e137, g4, ix_nI (by omega)]
        have p3 := pnd_upd (m := lsM m z) (m' := m') hzZ (fun y _ hy => pnC_congr (d3 136 y (by omega) (by omega)) (d3 137 y (by omega) (by omega)))
        omega
end AC9

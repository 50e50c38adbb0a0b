/-! PURE: locks given up, queues; in both -/
section GU
variable {F : Nat}
theorem kI_go {n z o : Nat} {σ m : qS} (h : kI n σ m) (h5 : n < 512) (hz : z < σ.2 0 0) (hl : m.1 135 0 z = 0) (ho : o < 80) (ho1 : 1 ≤ o) (hh : σ.1 31 0 o ≠ 0) (hd : σ.1 4 0 o = 1) (hF : 100000 ≤ F) : ∃ g σa σb u σ3 m1 ma mb m3 L, fX8_letGo F (nI o) σ = some (nI g, σa) ∧ fX8_commit F σa = some σb ∧ σb.2 = σ.2 ∧ σ.2 2 z < 3 ∧ σb.1 0 0 15 = nI L ∧ fX8_catchUp F (σ.2 2 z) (nI L) σb = some (u, σ3) ∧ fX9_begin F m = some m1 ∧ fX9_goes F (nI o) m1 = some (nI g, ma) ∧ fX9_commit F ma = some mb ∧ mb.1 132 0 z = nI (σ.2 2 z) ∧ mb.1 0 0 26 = nI L ∧ fX9_follows F (nI (σ.2 2 z)) (nI L) mb = some m3 ∧ kI (n + 1) σ3 m3 ∧ σ3.2 = σ.2 ∧ m3.1 0 0 57 = m.1 0 0 57 := by
  have hI := h
  obtain ⟨C, π, M, S, L, Z, Y, T, cmp, hk, hR, hlo, h6, hK, hP, hcL, hT, hLn, hS, hp9⟩ := hI
  have hM80 : M ≤ 80 := hk.1.2.1.2.2.2.2.1
  have hzZ : z < Z := by rw [← hR.1.1]; exact hz
  obtain ⟨m1, a1, a2⟩ := e_begin9 (F := F) (m := m) (by omega)
  have q1 : ∀ f q, ¬ (f = 0 ∧ (q = 27 ∨ q = 19 ∨ q = 18)) → f ≠ 116 → ¬ (108 ≤ f ∧ f ≤ 114 ∧ 320 ≤ q) → m1.1 f 0 q = m.1 f 0 q := fun f q w1 w2 w3 => by
    rw [a2.2, if_neg (by omega), if_neg (by omega), if_neg (by omega), if_neg (by omega), if_neg (by omega)]
  have e27 : m1.1 0 0 27 = nI (L + 1) := by rw [a2.2, if_pos ⟨rfl, rfl, rfl⟩, hk.2.2.2.2.2.2.2.2.2.1, nI_1]
  have e19 : m1.1 0 0 19 = nI (π S) := by rw [a2.2, if_neg (by omega), if_pos ⟨rfl, rfl, rfl⟩]; exact hk.1.1.2.1
  have hk1 : kD σ m1 C π M M S S L Z := kD_fr hk (kHs_fr hk.2.2.2.1 (fun z hz h0 => ⟨by rw [← q1 135 z (by omega) (by omega) (by omega)]; exact h0, rfl, rfl, q1 132 z (by omega) (by omega) (by omega), ⟨rfl, rfl⟩, fun f hf => rfl, fun f x w => q1 f x (by omega) (by omega) (by omega)⟩) (fun s => rfl) rfl (fun f i w => rfl) (fun s hs => by have := (hk.2.1 s hs).2.2.2.2.1; omega)) (fun _ _ _ _ => rfl) (fun f q w => q1 f q (by omega) (by omega) (by omega))
  obtain ⟨g0, g1⟩ := kA_here hk1.1
  have hhC : (C S).1 31 0 o ≠ 0 := by rw [← (kA_31 hk1.1 ho).1]; exact hh
  have hdC : isHd (C S) o := by
    unfold isHd
    rw [g1 4 o (by decide) (by decide) (gdT_M g0 ho hhC) ho]
    exact Or.inl hd
  obtain ⟨σ2, m2, C', π', S', g, b1, b2, b3, b4, b5⟩ := pr_goes (F := F) (M0 := 80) (L := L) (by omega) (by omega) o σ m1 C π S 0 F F hk1.1 ho1 ho hhC (fun k k1 k2 k3 k4 => (g0.2.2.2.1 k k1 k2 k3).2 (by rw [k4]; exact hdC)) hk1.2.2.2.2.2.2.2.2.1 e27 (by omega) (by omega) (by omega) (by omega) (by omega)
  have hQ := eX_kQ b5 hk1.2.2.2.2.2.2.2.1
  have b6 := eX_weak (M0 := M) b5 hM80 (Nat.le_refl _) (Nat.le_refl _)
  have hk2 := kD_eX hk1 (by omega) b6 hQ
  obtain ⟨x1, x2, x3, x4, x5, x6, x7, x8, x9, x10⟩ := b5
  obtain ⟨σ3, m3, L', c1, c2, c3, c4, c5, c6, c7, c8⟩ := kD_commit (F := F) hk2 (by omega) (by omega) hR.1.2.1 (fun _ => by rw [x3.2 0 0 27 (by omega) (by omega) (by omega) (by omega) (by omega)]; exact e27) (by rw [x3.2 0 0 19 (by omega) (by omega) (by omega) (by omega) (by omega), (x6 S (Nat.le_refl _)).2]; exact e19) (by omega) hF
  have o3 : ∀ f j k, f ≠ 38 → f ≠ 39 → ¬ (31 ≤ f ∧ f ≤ 37 ∧ j = 0) → ¬ (10 ≤ f ∧ f ≤ 13) → f ≠ 8 → f ≠ 9 → ¬ (f = 0 ∧ j = 0 ∧ k = 15) → f ≠ 1 → ¬ (j = 0 ∧ 2 ≤ f ∧ f ≤ 6 ∧ 80 ≤ k) → σ3.1 f j k = σ.1 f j k := fun f j k w1 w2 w3 w4 w5 w6 w7 w8 w9 => by
    rw [c7.2 f j k (by omega) (by omega), x2.2 f j k (by omega) (by omega) (by omega) (by omega) (by omega) (by omega) (by omega)]
  have q3 : ∀ f q, ((f = 0 ∧ q ≠ 7 ∧ q ≠ 18 ∧ q ≠ 19 ∧ q ≠ 25 ∧ q ≠ 26 ∧ q ≠ 27) ∨ (108 ≤ f ∧ f ≤ 114 ∧ 240 ≤ q ∧ q < 320) ∨ f = 115 ∨ (120 ≤ f ∧ f ≤ 124 ∧ q < π S) ∨ (131 ≤ f ∧ f ≤ 140) ∨ f = 145 ∨ ((f = 143 ∨ f = 146) ∧ Z ≤ q) ∨ 147 ≤ f) → m3.1 f 0 q = m.1 f 0 q := fun f q w => by
    rw [c8.2 f 0 q (by omega) (by omega) (fun z hz => by have := hz.1; omega), x3.2 f 0 q (by omega) (by omega) (by omega) (by omega) (by omega), q1 f q (by omega) (by omega) (by omega)]
  have n3 : σ3.2 = σ.2 := by rw [c7.1, x2.1]
  have l3 : m3.1 135 0 z = 0 := by rw [q3 135 z (by omega)]; exact hl
  obtain ⟨s1, s2, s3⟩ := c3.2.2.2.1 z hzZ l3
  rw [n3] at s1 s2
  have hcg := (c3.2.1 _ s1).2.2.2.2.2.1
  obtain ⟨σ4, m4, d1, d2, d3, d4, d5⟩ := kD_catch (F := F) (s := σ.2 2 z) (p := L') c3 (by omega) (by omega) hR.1.2.1 s1 (by omega) (by omega) hF
  rw [show cgN σ3 (σ.2 2 z) + min L' (L' - cgN σ3 (σ.2 2 z)) = L' by omega] at d2
  have o4 : ∀ f j k, f ≠ 38 → f ≠ 39 → f ≠ 8 → ¬ (31 ≤ f ∧ f ≤ 37 ∧ j ≤ 2) → σ4.1 f j k = σ3.1 f j k := fun f j k w1 w2 w3 w4 => d4.2 f j k w1 w2 (by omega) (by omega)
  have q4 : ∀ f q, ((f = 0 ∧ q ≠ 7 ∧ q ≠ 18 ∧ q ≠ 19 ∧ q ≠ 25 ∧ q ≠ 26 ∧ q ≠ 27) ∨ (108 ≤ f ∧ f ≤ 114 ∧ 240 ≤ q ∧ q < 320) ∨ f = 115 ∨ (120 ≤ f ∧ f ≤ 124 ∧ q < π S) ∨ (131 ≤ f ∧ f ≤ 140) ∨ f = 145 ∨ ((f = 143 ∨ f = 146) ∧ Z ≤ q) ∨ 147 ≤ f) → m4.1 f 0 q = m.1 f 0 q := fun f q w => by
    rw [d5.2 f 0 q (by omega) (by omega) (fun z hz => by have := hz.1; omega), q3 f q w]
  have eSS := (x6 S (Nat.le_refl _)).2
  have hmo : π' S ≤ π' S' := kLog_mono c3.1.1 x4 (Nat.le_refl _)
  refine ⟨g, σ2, σ3, nI (min L' (L' - cgN σ3 (σ.2 2 z))), σ4, m1, m2, m3, m4, L', b1, c1, n3, s1, c3.2.2.2.2.2.2.2.2.1, d1, a1, b2, c2, s2, c3.2.2.2.2.2.2.2.2.2.1, d2, ?_, d4.1.trans n3, q4 0 57 (by omega)⟩
  exact kI_of (n := n) hR hK hP (kLog_mono hk.1.1 (Nat.zero_le _) (Nat.le_refl _)) hcL d3 ⟨d4.1.trans n3, fun f j k w => by rw [o4 f j k (by omega) (by omega) (by omega) (by omega), o3 f j k (by omega) (by omega) (by omega) (by omega) (by omega) (by omega) (by omega) (by omega) (by omega)]⟩ (fun f q w => q4 f q (by omega)) (fun f k w1 w2 w3 => by rw [o4 f 0 k (by omega) (by omega) (by omega) (by omega), o3 f 0 k (by omega) (by omega) (by omega) (by omega) (by omega) (by omega) (by omega) (by omega) (by omega)]) (fun k k8 => by rw [o4 6 0 k (by omega) (by omega) (by omega) (by omega), o3 6 0 k (by omega) (by omega) (by omega) (by omega) (by omega) (by omega) (by omega) (by omega) (by omega)]; exact h6 k k8) (Nat.le_refl _) (x6 0 (Nat.zero_le _)).2 (x6 0 (Nat.zero_le _)).1 (by omega) (kLo_fr hlo (by rw [o4 0 0 17 (by omega) (by omega) (by omega) (by omega), o3 0 0 17 (by omega) (by omega) (by omega) (by omega) (by omega) (by omega) (by omega) (by omega) (by omega)]) (q4 0 54 (by omega))) c4 (by omega) (by omega) (by omega) (by omega)
theorem c_giveUp (hF : 100000 ≤ F) : cI_giveUp F kI phi := by
  intro n σ m p x hn h
  obtain ⟨h48, h10, hZ⟩ := kI_Z h
  unfold fX8_giveUp fX9_giveUp
  by_cases hp : ∃ z, z < σ.2 0 0 ∧ p = nI z
  · obtain ⟨z, hz, rfl⟩ := hp
    have hz10 : z < 10 := by omega
    rw [e_known1 hz h10, bnd3_s0, e_ses1 h48 hz h10, bnd2_s, if_neg (show ¬ (1 : Int32) = 0 by decide)]
    unfold fX9_giveUp_26
    rcases wk (F := F) h (by omega) hz (by omega) with ⟨s1, m1, w1, w2, w3, w4, w5⟩ | ⟨w1, w2, w3, w4, w5, w6, w7, w8⟩
    · rw [w2, bnd3_se (by decide), w3, bnd2_s, if_neg (show ¬ (1 : Int32) = 0 by decide), e_h1 (by decide), bnd2_s, if_neg (show ¬ (1 : Int32) = 0 by decide)]
      exact lC_t rfl (by decide) w4 (by omega) w5 rfl
    · have hz' : z < (lsC σ z).2 0 0 := hz
      obtain ⟨-, -, hZ'⟩ := kI_Z w6
      have r0 := (hZ' z hz').1.1
      obtain ⟨s', b1, b2⟩ := e_believe (F := F) (p := x) (v := 0) hz' hz10 r0
      rw [if_pos rfl] at b2
      -- the reference forgets, too
      have ref : ∃ m', (bnd2 (fX9_in F x 0 79 (lsM m z)) fun v12 s11 => (if v12 = 0 then (fX9_giveUp_62 F (nI z) x s11) else (nm (80 * nI z) fun v27 => (nm (v27 + x) fun v28 => (inx 800 v28 (nm (qI s11 147 0 v28.toNatClampNeg 0) fun s29 => (fX9_giveUp_62 F (nI z) x s29))))))) = fX9_giveUp_62 F (nI z) x m' ∧ bmS (lsM m z) m' z (fun k => x = nI k) 0 := by
        rw [e_in, bnd2_s]
        by_cases cc : ¬ x < 0 ∧ ¬ 79 < x
        · have c8 : ¬ x < 0 ∧ ¬ 80 ≤ x := ⟨cc.1, fun q => cc.2 (Int32.lt_of_lt_of_le (by decide) q)⟩
          obtain ⟨a, ha, h31, rfl⟩ := in_ex (vp_in_80.mpr c8)
          rw [b2_t cc, if_neg (show ¬ (1 : Int32) = 0 by decide)]
          repeat rw [nm_x]
          rw [nI_80, inx_nI (by omega) (by decide), ix_nI (by omega)]
          refine ⟨_, rfl, rfl, fun f j q w => by rw [qI_ap, if_neg (by omega)], fun q w => by rw [qI_ap, if_neg (by omega)], fun k hk => ?_⟩
          by_cases e : k = a
          · subst e
            rw [qI_ap, if_pos ⟨rfl, rfl, rfl⟩, if_pos rfl]
          · rw [qI_ap, if_neg (by omega), if_neg (fun q => e (nI_inj (by omega) h31 q.symm))]
        · rw [b2_f cc, if_pos rfl]
          refine ⟨lsM m z, rfl, rfl, fun _ _ _ _ => rfl, fun _ _ => rfl, fun k hk => ?_⟩
          rw [if_neg (fun q => ?_)]
          rw [q] at cc
          refine cc ⟨nI_nn (by omega), fun w => ?_⟩
          have := (nI_lt' (a := 79) (by decide) (by omega)).mp w
          omega
      obtain ⟨m', r1, r2⟩ := ref
      have hk := kI_bel w6 (by omega) hz' b2 r2 rfl
      have n2 : s'.2 = σ.2 := b2.1.trans rfl
      have hz2 : z < s'.2 0 0 := by rw [n2]; exact hz
      have e57 : m'.1 0 0 57 = 0 := by rw [r2.2.1 0 0 57 (by omega)]; exact ls57
      have l135 : m'.1 135 0 z = 0 := by rw [r2.2.1 135 0 z (by omega), lsM_o (by omega) (by omega)]; exact w4
      obtain ⟨c, M, ht⟩ := kI_tree (s := 0) hk (by omega)
      obtain ⟨v, f1, f2⟩ := e_firstOf (F := F) (p := x) (z := nI z) (tA_dst ht) (tA_pos ht).1 (by omega) (by decide)
      obtain ⟨w', g1, g2⟩ := tA_own (F := F) (p := x) ht (by omega) (by omega) hz10
      have ew : w' = v := frC_one (tA_dst ht) g2 f2
      subst ew
      have ref2 : fX9_giveUp_62 F (nI z) x m' = fX9_giveUp_84 F (nI z) w' m' := by
        unfold fX9_giveUp_62
        rw [e_isThere0 (tA_rok ht), bnd2_s]
        by_cases d : hlds s' 0 x
        · rw [if_pos d] at g1
          rw [b2_t ((tA_hl ht).mpr d), if_neg (show ¬ (1 : Int32) = 0 by decide), show fX9_childAt F 0 x 0 (nI z) m' = some (w', m') from g1, bnd2_s]
        · rw [if_neg d] at g1
          cases g1
          rw [b2_f (fun q => d ((tA_hl ht).mp q)), if_pos rfl]
      rw [w2, bnd3_s0, b1, bnd_s, f1, bnd2_s, w3, bnd2_s, if_pos rfl, e_h0, bnd2_s, if_pos rfl, w5, bnd_s, r1, ref2]
      unfold fX9_giveUp_84
      rcases f2 with ⟨q1, q2⟩ | ⟨o, q1, q2, q3, q4, q5, q6⟩
      · rw [q1, if_pos rfl, if_neg (by decide)]
        exact lC_o rfl (kI_mono hk (Nat.le_succ n)) e57 (by rw [phi_N n2]; omega)
      · rw [q3, if_neg (fun w => absurd (show (-100 : Int32) < 0 by decide) (by rw [← w]; exact nI_nn (by omega))), if_pos (nI_pos' (by omega))]
        obtain ⟨g, σa, σb, u, σ3, m1, ma, mb, m3, L, a1, a2, a3, a4, a5, a6, a7, a8, a9, a10, a11, a12, a13, a14, a15⟩ := kI_go (F := F) hk hn hz2 l135 q2 q1 q4.1 q5.1 hF
        rw [a1, bnd2_s, a2, bnd_s, a3, gnl_pos hz2, nm_x, nm_x, a5, a6, bnd2_s, a7, bnd_s, a8, bnd2_s, a9, bnd_s, ldi_nI hz10 (by decide), a10, nm_x, a11, a12, bnd_s]
        exact lC_o rfl a13 (by rw [a15]; exact e57) (by rw [phi_N (a14.trans n2)]; omega)
  · rw [e_known0 h10 hp, bnd3_se (by decide), e_ses0 h48 h10 hp, bnd2_s, if_pos rfl]
    unfold fX9_giveUp_26
    rw [e_h1 (by decide), bnd2_s, if_neg (show ¬ (1 : Int32) = 0 by decide)]
    exact lC_t rfl (by decide) h (by omega) rfl rfl
/-- a child without children -/
abbrev cnd (m : qS) (p : Int32) (k : Nat) : Prop := isCh (vw m) 0 k p ∧ nCh (vw m) 0 (nI k) = 0
/-- what the reference does with the first of a queue -/
def tkE (F : Nat) (z x3 : Int32) (m : qS) : Option (Int32 × qS) := if 0 ≤ x3 then (ldi 400 (m.1 109 0) x3 fun v22 => (bnd (fX9_begin F m) fun s23 => (bnd2 (fX9_goes F x3 s23) fun v25 s24 => (bnd2 (fX9_settles F z s24) fun v27 s26 => (if v27 = 0 then (fX9_takeFirst_215 F v22 s26) else (fX9_takeFirst_215 F ((-9)) s26)))))) else (some ((-100), m))
theorem e_take_l {σ m c : qS} {M : Nat} {p z : Int32} (h : tA σ m 0 c M) (hF : 100 ≤ F) : ∀ (d t n : Nat) (x : Int32), t + d = M → 1 ≤ t → d < n → ((x = -100 ∧ ∀ k, 1 ≤ k → k < t → ¬ cnd m p k) ∨ ∃ q, 1 ≤ q ∧ q < t ∧ x = nI q ∧ cnd m p q ∧ ∀ k, 1 ≤ k → k < t → cnd m p k → m.1 101 0 q ≤ m.1 101 0 k) → ∃ y, fX9_takeFirst_88 F n z p x (nI t) m = tkE F z y m ∧ frC (vw m) 0 p (fun k => nCh (vw m) 0 (nI k) = 0) y := by
  have hM80 : M ≤ 80 := h.1.1.2.2
  have hr := tA_rok h
  intro d
  induction d with
  | zero =>
    intro t n x ht h1 hn hx
    obtain ⟨n, rfl⟩ : ∃ k, n = k + 1 := ⟨n - 1, by omega⟩
    obtain rfl : t = M := by omega
    refine ⟨x, ?_, ?_⟩
    · rw [fX9_takeFirst_88, nm_x, hr.1, if_pos (Int32.le_refl _)]
      rfl
    · rcases hx with ⟨q1, q2⟩ | ⟨q, q1, q2, q3, q4, q5⟩
      · exact Or.inl ⟨q1, fun k k1 k2 k3 k4 => q2 k k1 (rok_M hr k2 k3.1) ⟨k3, k4⟩⟩
      · refine Or.inr ⟨q, q1, by omega, q3, q4.1, q4.2, fun k k1 k2 k3 k4 => ?_⟩
        rw [vw3]
        exact q5 k k1 (rok_M hr k2 k3.1) ⟨k3, k4⟩
  | succ d ih =>
    intro t n x ht h1 hn hx
    obtain ⟨n, rfl⟩ : ∃ k, n = k + 1 := ⟨n - 1, by omega⟩
    have ht8 : t < 80 := by omega
    have skip : ¬ cnd m p t → ∃ y, fX9_takeFirst_88 F n z p x (nI (t + 1)) m = tkE F z y m ∧ frC (vw m) 0 p (fun k => nCh (vw m) 0 (nI k) = 0) y := fun hb => ih (t + 1) n x (by omega) (by omega) (by omega) (by
      rcases hx with ⟨q1, q2⟩ | ⟨q, q1, q2, q3, q4, q5⟩
      · refine Or.inl ⟨q1, fun k k1 k2 => ?_⟩
        by_cases e : k = t
        · rw [e]; exact hb
        · exact q2 k k1 (by omega)
      · refine Or.inr ⟨q, q1, by omega, q3, q4, fun k k1 k2 k3 => ?_⟩
        by_cases e : k = t
        · rw [e] at k3; exact absurd k3 hb
        · exact q5 k k1 (by omega) k3)
    have take : cnd m p t → (∀ k, 1 ≤ k → k < t → cnd m p k → m.1 101 0 t ≤ m.1 101 0 k) → ∃ y, fX9_takeFirst_88 F n z p (nI t) (nI (t + 1)) m = tkE F z y m ∧ frC (vw m) 0 p (fun k => nCh (vw m) 0 (nI k) = 0) y := fun hb hm => ih (t + 1) n (nI t) (by omega) (by omega) (by omega) (Or.inr ⟨t, h1, by omega, rfl, hb, fun k k1 k2 k3 => by
      by_cases e : k = t
      · rw [e]; exact Int32.le_refl _
      · exact hm k k1 (by omega) k3⟩)
    rw [fX9_takeFirst_88, nm_x, hr.1, if_neg (fun w => by have := (nI_le' (by omega) (by omega)).mp w; omega), ldi_nI (by omega) i400]
    unfold fX9_takeFirst_133 fX9_takeFirst_134 fX9_takeFirst_161 fX9_takeFirst_166 fX9_takeFirst_167
    rw [if_pos rfl, nm_x, nI_1]
    have v31 : (vw m).1 31 0 t = m.1 108 0 t := by rw [vw31, Nat.mul_zero, Nat.zero_add]
    by_cases c1 : m.1 108 0 t = 1
    · rw [if_pos c1, ldi_nI ht8 i80']
      by_cases c2 : m.1 100 0 t = p
      · have hch : isCh (vw m) 0 t p := ⟨by rw [v31, c1]; decide, by rw [vw2]; exact c2⟩
        rw [if_pos c2, show fX9_children F 0 (nI t) m = some (nCh (vw m) 0 (nI t), m) from e_children (s := 0) hr hF (by omega), bnd2_s]
        by_cases c3 : nCh (vw m) 0 (nI t) = 0
        · rw [if_pos c3, if_neg (show ¬ (1 : Int32) = 0 by decide)]
          rcases hx with ⟨q1, q2⟩ | ⟨q, q1, q2, q3, q4, q5⟩
          · rw [if_pos (show x < 0 by rw [q1]; decide), nm_x]
            exact take ⟨hch, c3⟩ (fun k k1 k2 k3 => absurd k3 (q2 k k1 k2))
          · rw [q3, if_neg (nI_nn (by omega)), ldi_nI ht8 i80', ldi_nI (show q < 80 by omega) i80']
            by_cases c4 : m.1 101 0 q ≤ m.1 101 0 t
            · rw [if_pos c4]
              have := ih (t + 1) n x (by omega) (by omega) (by omega) (Or.inr ⟨q, q1, by omega, q3, q4, fun k k1 k2 k3 => by
                by_cases e : k = t
                · rw [e]; exact c4
                · exact q5 k k1 (by omega) k3⟩)
              rw [q3] at this
              exact this
            · rw [if_neg c4, nm_x]
              exact take ⟨hch, c3⟩ (fun k k1 k2 k3 => Int32.le_trans (Int32.le_of_lt (Int32.not_le.mp c4)) (q5 k k1 k2 k3))
        · rw [if_neg c3]
          exact skip (fun q => c3 q.2)
      · rw [if_neg c2]
        exact skip (fun q => c2 (by have := q.1.2; rw [vw2] at this; exact this))
    · rw [if_neg c1]
      exact skip (fun q => c1 (by
        have := (rok_1 hr ht8).mpr q.1.1
        rw [v31] at this
        exact this))
end GU

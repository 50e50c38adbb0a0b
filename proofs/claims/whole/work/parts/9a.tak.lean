/-! PURE: takeFirst, in both -/
section TK
variable {F : Nat}
theorem nCh_iff {a : qS} {i : Nat} {p : Int32} : nCh a i p ≤ 0 ↔ nCh a i p = 0 := ⟨nCh_le0, fun q => by rw [q]; exact Int32.le_refl _⟩
theorem c_takeFirst (hF : 100000 ≤ F) : cI_takeFirst F kI phi := by
  intro n σ m p x hn h
  obtain ⟨h48, h10, hZ⟩ := kI_Z h
  unfold fX8_takeFirst fX9_takeFirst fX9_takeFirst_31
  have thr : ∀ (σ' m' : qS) (u : Int32) (e : Nat) (c : Int32), (e = 1 ∧ c = 1) ∨ (e = 3 ∧ c = 2) → kI n σ' m' → σ'.2 = σ.2 → lC F kI phi (fun e => if e = 0 then 0 else if e = 1 then 1 else if e = 3 then 2 else 0) n σ (some (u, e, σ')) (fX9_takeFirst_36 F p x c m') (fun _ => 0) := fun σ' m' u e c hec hk hN => by
    unfold fX9_takeFirst_36
    rcases hec with ⟨rfl, rfl⟩ | ⟨rfl, rfl⟩
    all_goals
      rw [e_h1 (by decide), bnd2_s, if_neg (show ¬ (1 : Int32) = 0 by decide)]
      exact lC_t rfl (by decide) hk (by omega) hN rfl
  by_cases hp : ∃ z, z < σ.2 0 0 ∧ p = nI z
  · obtain ⟨z, hz, rfl⟩ := hp
    have hz10 : z < 10 := by omega
    rw [e_known1 hz h10, bnd3_s0, e_ses1 h48 hz h10, bnd2_s, if_neg (show ¬ (1 : Int32) = 0 by decide)]
    rcases wk (F := F) h (by omega) hz (by omega) with ⟨s1, m1, w1, w2, w3, w4, w5⟩ | ⟨w1, w2, w3, w4, w5, w6, w7, w8⟩
    · rw [w1, bnd3_se (by decide), w3, bnd2_s, if_neg (show ¬ (1 : Int32) = 0 by decide)]
      exact thr _ _ _ 3 2 (Or.inr ⟨rfl, rfl⟩) w4 w5
    · obtain ⟨-, -, b3, b4⟩ := hZ z hz
      rw [w1, bnd3_s0, w3, bnd2_s, if_pos rfl, ldi_nI hz10 (by decide)]
      unfold fX8_mustNotGather
      rw [gnl_pos hz, nm_x, b3 w4]
      by_cases d : m.1 136 0 z = 1
      · rw [d, if_neg (show ¬ (1 : Int32) = 0 by decide), if_pos rfl, bnd3_se (by decide)]
        exact thr _ _ _ 3 2 (Or.inr ⟨rfl, rfl⟩) h rfl
      · have d0 : m.1 136 0 z = 0 := by rcases b4 with q | q; exact q; exact absurd q.1 d
        rw [d0, if_pos rfl, if_neg (show ¬ (0 : Int32) = 1 by decide), bnd3_s0, nm_x, gnl_pos hz, nm_x, show qI σ 50 z 9 (σ.1 0 0 14) = lsC σ z from rfl]
        have l135 : (lsM m z).1 135 0 z = 0 := by rw [lsM_o (by omega) (by omega)]; exact w4
        have l136 : (lsM m z).1 136 0 z = 0 := by rw [lsM_o (by omega) (by omega)]; exact d0
        have hz' : z < (lsC σ z).2 0 0 := hz
        obtain ⟨-, -, hZ'⟩ := kI_Z w6
        obtain ⟨⟨q1, ⟨pp, p4, e1, e131⟩, -⟩, -⟩ := hZ' z hz'
        obtain ⟨c, M, ht⟩ := kI_tree (s := 0) w6 (by omega)
        unfold fX9_takeFirst_36
        rw [e_h0, bnd2_s, if_pos rfl, w5, bnd_s, e_holds (by decide), bnd2_s, e_isThere0 (tA_rok ht), bnd2_s]
        have fin : ∀ v σ' m', kI (n + 1) σ' m' → m'.1 0 0 57 = 0 → σ'.2 = σ.2 → lC F kI phi (fun e => if e = 0 then 0 else if e = 1 then 1 else if e = 3 then 2 else 0) n σ (some (v, 0, σ')) (some (v, m')) (fun _ => 0) := fun v σ' m' k1 k2 k3 => lC_o rfl k1 k2 (by rw [phi_N k3]; omega)
        by_cases c1 : hlds (lsC σ z) 0 x
        · obtain ⟨a, ha, rfl, hh⟩ := hl_ex c1
          have hca : c.1 31 0 a ≠ 0 := by rw [← (tA_31 ht ha).1]; exact hh
          rw [b2_t c1, b2_t ((tA_hl ht).mpr c1), if_neg (show ¬ (1 : Int32) = 0 by decide), if_neg (show ¬ (1 : Int32) = 0 by decide), gnl_pos hz', nm_x, e1, e_mayWrite (by decide) ha, bnd2_s, ldi_nI (by omega) i400, ldi_nI hz10 (by decide), e131, e_may, bnd2_s]
          obtain ⟨-, -, -, -, -, rx, ry, rx1, ry1, r1, r2, r3⟩ := ht.2.2.2.1 a ha
          rw [Nat.mul_zero, Nat.zero_add] at r1 r2
          replace r3 : c.1 36 0 a = nI (rx + 16 * ry) := r3
          have ewr : b2 (bit1 ((lsC σ z).1 36 0 a) (4 + nI pp)) = b2 (bit1 ((lsM m z).1 114 0 a) (nI pp)) := by
            rw [ht.2.2.1 36 a (by decide) (by decide) ha, r3, r2]
            exact b2_congr (bit_wr rx rx1 ry ry1 pp p4)
          rw [ewr]
          by_cases c2 : bit1 ((lsM m z).1 114 0 a) (nI pp)
          · rw [b2_t c2, if_neg (show ¬ (1 : Int32) = 0 by decide), if_neg (show ¬ (1 : Int32) = 0 by decide)]
            obtain ⟨v, f1, f2⟩ := e_firstWithoutChildren (F := F) (p := nI a) (tA_dst ht) (tA_pos ht).1 (by omega) (by decide)
            have hM1 := ht.1.1.2.1
            have hM80 := ht.1.1.2.2
            obtain ⟨y, g1, g2⟩ := e_take_l (F := F) (p := nI a) (z := nI z) ht (by omega) (M - 1) 1 F (-100) (by omega) (by omega) (by omega) (Or.inl ⟨rfl, fun k k1 k2 => by omega⟩)
            have g3 : frC (lsC σ z) 0 (nI a) (fun k => nCh (lsC σ z) 0 (nI k) ≤ 0) y := frC_cp ht (fun k k1 k2 k3 => by
              rw [tA_nCh ht, nCh_iff]) g2
            have ey : y = v := frC_one (tA_dst ht) g3 f2
            subst ey
            rw [f1, bnd2_s, show fX9_takeFirst_88 F F (nI z) (nI a) (-100) 1 (lsM m z) = tkE F (nI z) y (lsM m z) from g1, e_holds (by decide), bnd2_s]
            unfold tkE
            rcases f2 with ⟨q1, q2⟩ | ⟨k, q1, q2, q3, q4, q5, q6⟩
            · have hn0 : ¬ hlds (lsC σ z) 0 y := fun w => w.1.1 (by rw [q1]; decide)
              rw [b2_f hn0, if_pos rfl, if_neg (show ¬ 0 ≤ y by rw [q1]; decide)]
              exact fin _ _ _ (kI_mono w6 (Nat.le_succ n)) ls57 rfl
            · have hck : c.1 31 0 k ≠ 0 := by rw [← (tA_31 ht q2).1]; exact q4.1
              have hy : hlds (lsC σ z) 0 y := by
                rw [q3]
                exact ⟨⟨nI_nn (by omega), fun w => by have := (nI_le' (a := 80) (by decide) (by omega)).mp w; omega⟩, by rw [ix_nI (by omega)]; exact q4.1⟩
              rw [b2_t hy, if_neg (show ¬ (1 : Int32) = 0 by decide), q3, if_pos (nI_pos' (by omega)), ldi_nI q2 i80', ldi_nI (by omega) i400]
              obtain ⟨s, t1, t2, ⟨t3, t4, t5, t6⟩, t7⟩ := e_toDo (F := F) (σ := lsC σ z) (a := 0) (k := 2) (nd := nI k) (nb := 0) (vr := -1) (by omega)
              have hks : kI n s (lsM m z) := kI_56 w6 (by omega) hz' (Or.inl rfl) t2 (fun f j q w => t7 f j q (by omega))
              obtain ⟨u, σ', m', d1, d2, d3, d4, d5⟩ := pr_sub (F := F) (a := 0) (w := 2) (x1 := nI k) (x2 := -1) (x3 := 0) (x4 := 0) (x5 := 0) (x6 := 0) hks hn (by rw [t2]; exact hz') l135 l136 (by omega) (Or.inr (Or.inr (Or.inl ⟨rfl, t3, t4, t6⟩))) hF
              -- the reference's way: what goes is told apart
              have hI := w6
              obtain ⟨C, π, M', S, L, Z, Y, T, cmp, hk, hR, hlo, h6, hK, hP, hcL, hT, hLn, hS, hp9⟩ := hI
              have hM8' : M' ≤ 80 := hk.1.2.1.2.2.2.2.1
              obtain ⟨s9, m1, k1, k2, k3, k4, k5, k6, k7⟩ := kD_begin (F := F) hk (by omega) (by omega)
              obtain ⟨g0, gb⟩ := kA_here k3.1
              have o9 : ∀ f j i, f ≠ 0 → ¬ (31 ≤ f ∧ f ≤ 37 ∧ j = 3) → s9.1 f j i = (lsC σ z).1 f j i := fun f j i w1 w2 => by rw [k6.2, if_neg (by omega), if_neg (by omega)]
              have p9 : ∀ f q, ¬ (f = 0 ∧ (q = 27 ∨ q = 19 ∨ q = 18)) → f ≠ 116 → ¬ (108 ≤ f ∧ f ≤ 114 ∧ 320 ≤ q) → m1.1 f 0 q = (lsM m z).1 f 0 q := fun f q w1 w2 w3 => by
                rw [k7.2, if_neg (by omega), if_neg (by omega), if_neg (by omega), if_neg (by omega), if_neg (by omega)]
              have hhC : (C S).1 31 0 k ≠ 0 := by rw [← (kA_31 k3.1 q2).1, o9 31 0 k (by omega) (by omega)]; exact q4.1
              have hM80' := k3.1.2.1.2.2.2.2.1
              have nch0 : nCh (vw m1) 0 (nI k) = 0 := by
                rw [nCh_congr (a := vw m1) (b := lsC σ z) (i := 0) (j := 0) (fun i i1 i2 => ?_)]
                · exact nCh_le0 q5
                · have w9 := kA_isCh k3.1 (p := nI k) i2
                  have : isCh s9 0 i (nI k) ↔ isCh (lsC σ z) 0 i (nI k) := by unfold isCh; rw [o9 31 0 i (by omega) (by omega), o9 2 0 i (by omega) (by omega)]
                  exact w9.2.trans (w9.1.symm.trans this)
              have hno : ∀ i, 1 ≤ i → i < 80 → (C S).1 31 0 i ≠ 0 → parN (C S) i ≠ k := fun i i1 i2 i3 i4 => by
                refine nCh_0 nch0 i i1 i2 ((kA_isCh k3.1 i2).2.mpr ⟨i3, ?_⟩)
                obtain ⟨e5, -⟩ := bwf_par g0.1.1 i1 i2 (gdT_M g0 i2 i3)
                rw [e5, i4]
              have hH := nH_le (c := C S)
              obtain ⟨σ5, m5, C5, π5, S5, g, v1, v2, v3, v4, v5⟩ := pr_goes (F := F) (M0 := 0) (L := L) (by omega) (by omega) k s9 m1 C π S 0 F F k3.1 q1 q2 hhC hno k3.2.2.2.2.2.2.2.2.1 k5 (by omega) (by omega) (by omega) (by omega) (by omega)
              have v2' : fX9_goes F (nI k) m1 = some (nI g, m5) := v2
              have hrok := kA_rok k3.1
              have h100 : m1.1 100 0 k = nI a := by
                rw [p9 100 k (by omega) (by omega) (by omega), (tA_b ht q2 hck).2.2.1]
                exact q4.2
              have hdel : fX9_acts F (nI z) 2 (nI k) (-1) 0 0 0 0 m1 = some (nI g, m5) := by
                unfold fX9_acts
                rw [if_neg (by decide), if_neg (by decide), if_pos rfl, ldi_nI hz10 (by decide), p9 131 z (by omega) (by omega) (by omega), e131]
                unfold fX9_deletes fX9_deletes_37 fX9_deletes_55 fX9_deletes_78
                have hlk : hlds (vw m1) 0 (nI k) := ⟨⟨nI_nn (by omega), fun w => by have := (nI_le' (a := 80) (by decide) (by omega)).mp w; omega⟩, by rw [ix_nI (by omega), (kA_31 k3.1 q2).2]; exact hhC⟩
                rw [e_isThere0 hrok, bnd2_s, b2_t hlk, if_neg (show ¬ (1 : Int32) = 0 by decide), if_neg (show ¬ nI k ≤ 0 from fun w => by have := (nI_le' (b := 0) (by omega) (by decide)).mp w; omega), ldi_nI q2 i80', h100, ldi_nI (by omega) i400, p9 114 a (by omega) (by omega) (by omega), e_may, bnd2_s, b2_t c2, if_neg (show ¬ (1 : Int32) = 0 by decide), if_pos rfl, if_neg (show ¬ nI k = 0 from fun w => by have := nI_inj (b := 0) (by omega) (by decide) w; omega), show fX9_children F 0 (nI k) m1 = some (nCh (vw m1) 0 (nI k), m1) from e_children (s := 0) hrok (by omega) (by omega), bnd2_s, nch0, if_pos (Int32.le_refl _), v2', bnd2_s]
                rfl
              unfold aTl at d2
              rw [k2, bnd_s, hdel, bnd2_s, if_pos (nI_pos' (by omega))] at d2
              have eval : (lsM m z).1 109 0 k = (lsC σ z).1 32 0 k := by
                have := (ht.2.2.2.1 k q2).2.1
                rw [Nat.mul_zero, Nat.zero_add] at this
                rw [this, ht.2.2.1 32 k (by decide) (by decide) q2]
              rw [t1, bnd_s, d1, bnd2_s, k2, bnd_s, v2', bnd2_s, eval]
              unfold fX8_takeFirst_126 fX9_takeFirst_215
              unfold fX9_act_164 at d2
              obtain ⟨v9, s8, e8, d2⟩ := bnd2_some d2
              rw [e8, bnd2_s]
              rcases ite_some d2 with ⟨c9, d2⟩ | ⟨c9, d2⟩
              · cases d2
                rw [if_pos c9, if_pos (nI_pos' (by omega))]
                exact fin _ _ _ d3 (by rw [d5]; exact ls57) (d4.trans t2)
              · cases d2
                rw [if_neg c9, if_neg (show ¬ (0 : Int32) ≤ -9 by decide)]
                exact fin _ _ _ d3 (by rw [d5]; exact ls57) (d4.trans t2)
          · rw [b2_f c2, if_pos rfl, if_pos rfl]
            exact fin _ _ _ (kI_mono w6 (Nat.le_succ n)) ls57 rfl
        · rw [b2_f c1, b2_f (fun q => c1 ((tA_hl ht).mp q)), if_pos rfl, if_pos rfl]
          exact fin _ _ _ (kI_mono w6 (Nat.le_succ n)) ls57 rfl
  · rw [e_known0 h10 hp, bnd3_se (by decide), e_ses0 h48 h10 hp, bnd2_s, if_pos rfl]
    exact thr _ _ _ 1 1 (Or.inl ⟨rfl, rfl⟩) h rfl
end TK

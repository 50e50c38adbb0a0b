/-! PURE: a session moves, in both -/
section MV
variable {F : Nat}
theorem e_mv1 {m : qS} {z s p q n : Nat} (hs3 : s < 3) (hpos : m.1 129 0 s = nI q) (hpq : p < q) (hq : q ≤ 90000) : fX9_move_86 F (n + 1) (nI z) (nI s) (nI p) m = bnd (fX9_watched F (nI z) (nI p) m) fun s17 => fX9_move_86 F n (nI z) (nI s) (nI (p + 1)) s17 := by
  rw [fX9_move_86, ldi_nI hs3 (by decide), hpos, if_neg (fun w => by have := (nI_le' (by omega) (by omega)).mp w; omega), nI_1]
  rfl
theorem e_mvB {m c : qS} {z s p0 q ch kd n M B : Nat} {v : Int32} {pp : List (Int32 × Int32) × List Int32} (hz : z < 10) (hs3 : s < 3) (hpos : m.1 129 0 s = nI q) (hq : p0 + blkN c kd n ≤ q) (hq9 : q ≤ 90000) (hB : blk m c kd n v ch p0) (hok : sOK c kd n M) (hhM : ∀ k, k < 80 → c.1 31 0 k ≠ 0 → k < M) (hwm : wfB (vw m) (fun k => k < M)) (hF : 100 ≤ F) (hs : ssM m z B pp) (hB8 : B + 8 ≤ 8000) : ∃ m', (∀ j, fX9_move_86 F (j + blkN c kd n) (nI z) (nI s) (nI p0) m = fX9_move_86 F j (nI z) (nI s) (nI (p0 + blkN c kd n)) m') ∧ frW m m' z ∧ ssM m' z (B + 8) (if kd ≤ 2 then upM m kd n pp else pp) := by
  obtain ⟨a1, a2, a3, a4, a5, a6, a7⟩ := hok
  by_cases c2 : kd ≤ 2
  · have hg : ∀ k, k < 80 → (gvN c kd n k ↔ k = n) := fun k _ => ⟨fun h => h.1 c2, fun h => ⟨fun _ => h, fun h => by omega⟩⟩
    obtain ⟨o1, o2⟩ := cntN_one a1 hg
    obtain ⟨g1, g2, g3, g4, g5⟩ := hB n a1 ((hg n a1).mpr rfl)
    rw [o2, Nat.add_zero] at g1 g2 g3 g4
    rw [show min kd 3 = kd by omega] at g2
    have ebl : blkN c kd n = 1 := o1
    rw [ebl] at hq ⊢
    obtain ⟨m', q1, q2, q3⟩ := e_watched (F := F) (pl := p0) hz (show kd ≤ 3 by omega) a1 a2 hwm hF (by omega) g3 g2 hs hB8
    refine ⟨m', fun j => ?_, q2, ?_⟩
    · rw [e_mv1 hs3 hpos (by omega) hq9, q1, bnd_s]
    · rw [if_pos c2]
      exact q3
  · have c3 : 3 ≤ kd := by omega
    have main : ∀ t, t ≤ 80 → ∃ m', (∀ j, fX9_move_86 F (j + cntN (gvN c kd n) 0 t) (nI z) (nI s) (nI p0) m = fX9_move_86 F j (nI z) (nI s) (nI (p0 + cntN (gvN c kd n) 0 t)) m') ∧ frW m m' z ∧ ssM m' z B pp := by
      intro t
      induction t with
      | zero => intro _; exact ⟨m, fun _ => rfl, frW_rf, hs⟩
      | succ t ih =>
        intro ht
        obtain ⟨m1, q1, q2, q3⟩ := ih (by omega)
        have ecnt : cntN (gvN c kd n) 0 (t + 1) = cntN (gvN c kd n) 0 t + (if gvN c kd n t then 1 else 0) := by rw [cntN_1, Nat.zero_add]
        by_cases cg : gvN c kd n t
        · rw [ecnt, if_pos cg]
          obtain ⟨g1, g2, g3, g4, g5⟩ := hB t (by omega) cg
          rw [show min kd 3 = 3 by omega] at g2
          have o : ∀ f x, f < 141 → m1.1 f 0 x = m.1 f 0 x := fun f x h1 => q2.2 f 0 x (by omega)
          have hw1 : wfB (vw m1) (fun k => k < M) := ⟨by show m1.1 100 0 0 = _; rw [o 100 0 (by omega)]; exact hwm.1, fun k g1 g2 g3 => by
            show ∃ q, q < k ∧ m1.1 100 0 k = nI q ∧ _
            rw [o 100 k (by omega)]
            exact hwm.2 k g1 g2 g3⟩
          have ht8 : t < 80 := by omega
          have hgt := cg.2 c3
          have htM : t < M := by
            rcases hgt.2.2 with e | e
            · omega
            · exact hhM t ht8 e.2.1
          have hle : cntN (gvN c kd n) 0 t + 1 ≤ blkN c kd n := by
            have e : blkN c kd n = cntN (gvN c kd n) 0 (t + 1) + cntN (gvN c kd n) (0 + (t + 1)) (79 - t) := by
              rw [← cntN_split, show t + 1 + (79 - t) = 80 by omega]
            rw [e, ecnt, if_pos cg]
            omega
          obtain ⟨m2, r1, r2, r3⟩ := e_watched3 (F := F) (m := m1) (nn := t) (M := M) (pl := p0 + cntN (gvN c kd n) 0 t) hz ht8 htM hw1 hF (by omega) (by rw [o 122 _ (by omega)]; exact g3) (by rw [o 121 _ (by omega)]; exact g2) q3 hB8
          refine ⟨m2, fun j => ?_, frW_tr q2 r2, r3⟩
          rw [show j + (cntN (gvN c kd n) 0 t + 1) = (j + 1) + cntN (gvN c kd n) 0 t by omega, q1, e_mv1 hs3 (by rw [o 129 s (by omega)]; exact hpos) (by omega) hq9, r1, bnd_s, Nat.add_assoc]
        · rw [ecnt, if_neg cg, Nat.add_zero]
          exact ⟨m1, q1, q2, q3⟩
    obtain ⟨m', q1, q2, q3⟩ := main 80 (Nat.le_refl _)
    refine ⟨m', q1, q2, ?_⟩
    rw [if_neg c2]
    exact ssM_le q3 (by omega)
theorem e_mvS {σ m : qS} {C : Nat → qS} {π : Nat → Nat} {z s i j M S : Nat} {P : Nat → List (Int32 × Int32) × List Int32} (hz : z < 10) (hs3 : s < 3) (hL : kLog σ m C π M S) (hBr : kBr σ m M) (hpos : m.1 129 0 s = nI (π j)) (hR9 : π S ≤ 90000) (hij : i ≤ j) (hjS : j ≤ S) (hS : S ≤ 990) (hF : 100 ≤ F) (hP : ∀ x, i ≤ x → x < j → P (x + 1) = hst σ x (P x)) (hs : ssM m z (8 * i) (P i)) : ∃ m', (∀ n, fX9_move_86 F (n + (π j - π i)) (nI z) (nI s) (nI (π i)) m = fX9_move_86 F n (nI z) (nI s) (nI (π j)) m') ∧ frW m m' z ∧ ssM m' z (8 * j) (P j) := by
  obtain ⟨b1, b2, b3, b4, b5, b6⟩ := hBr
  have hj : π j ≤ π S := kLog_mono hL hjS (Nat.le_refl _)
  have main : ∀ d, i + d ≤ j → ∃ m', (∀ n, fX9_move_86 F (n + (π (i + d) - π i)) (nI z) (nI s) (nI (π i)) m = fX9_move_86 F n (nI z) (nI s) (nI (π (i + d))) m') ∧ frW m m' z ∧ ssM m' z (8 * (i + d)) (P (i + d)) := by
    intro d
    induction d with
    | zero => intro _; exact ⟨m, fun n => by rw [Nat.add_zero, Nat.sub_self, Nat.add_zero], frW_rf, hs⟩
    | succ d ih =>
      intro hd
      obtain ⟨m1, q1, q2, q3⟩ := ih (by omega)
      obtain ⟨⟨⟨l1, l2, l3, l4⟩, l5, l6⟩, l7, l8⟩ := hL.2.2.1 (i + d) (by omega)
      obtain ⟨g1, g2⟩ := hL.2.2.2 (i + d) (by omega)
      have hm1 : π (i + d + 1) ≤ π j := kLog_mono hL (by omega) hjS
      have hm0 : π i ≤ π (i + d) := kLog_mono hL (by omega) (by omega)
      have o : ∀ f x, f < 141 → m1.1 f 0 x = m.1 f 0 x := fun f x h1 => q2.2 f 0 x (by omega)
      have hblk : blk m1 (C (i + d)) (kdN σ (i + d)) (ndN σ (i + d)) (σ.1 13 0 (i + d)) (chN σ (i + d)) (π (i + d)) := by
        intro k hk hg
        obtain ⟨k1, k2, k3, k4, k5⟩ := l7 k hk hg
        refine ⟨by rw [o _ _ (by omega)]; exact k1, by rw [o _ _ (by omega)]; exact k2, by rw [o _ _ (by omega)]; exact k3, fun h => by rw [o _ _ (by omega)]; exact k4 h, fun h => ?_⟩
        rw [o _ _ (by omega), o _ _ (by omega)]
        exact k5 h
      have hp1 : ∀ k, k < 80 → k < M → m1.1 100 0 k = σ.1 2 0 k := fun k h1 h2 => by rw [o _ _ (by omega)]; exact (b6 k h1 h2).1
      have hwm : wfB (vw m1) (fun k => k < M) := ⟨by show m1.1 100 0 0 = _; rw [hp1 0 (by decide) (by omega)]; exact b3.1, fun k h1 h2 h3 => by
        obtain ⟨q, e1, e2⟩ := b3.2 k h1 h2 h3
        show ∃ q, q < k ∧ m1.1 100 0 k = nI q ∧ _
        exact ⟨q, e1, by rw [hp1 k h2 h3]; exact e2, show q < M by omega⟩⟩
      obtain ⟨m2, r1, r2, r3⟩ := e_mvB (F := F) (m := m1) (c := C (i + d)) (s := s) (p0 := π (i + d)) (q := π j) hz hs3 (by rw [o 129 s (by omega)]; exact hpos) (by omega) (by omega) hblk l5 (fun k h1 h2 => gdT_M g1 h1 h2) hwm hF q3 (by omega)
      refine ⟨m2, fun n => ?_, frW_tr q2 r2, ?_⟩
      · rw [show i + (d + 1) = i + d + 1 by omega, l8, show n + (π (i + d) + blkN (C (i + d)) (kdN σ (i + d)) (ndN σ (i + d)) - π i) = (n + blkN (C (i + d)) (kdN σ (i + d)) (ndN σ (i + d))) + (π (i + d) - π i) by omega, q1, r1]
      · rw [show i + (d + 1) = i + d + 1 by omega, hP (i + d) (by omega) (by omega), ← upM_hst l5.1 l5.2.1 b3 hp1, Nat.mul_succ]
        exact r3
  obtain ⟨m', q1, q2, q3⟩ := main (j - i) (by omega)
  rw [show i + (j - i) = j by omega] at q1 q3
  exact ⟨m', q1, q2, q3⟩
theorem c_move (hF : 100000 ≤ F) : cI_move F kI phi := by
  intro n σ m p x hn h
  obtain ⟨h48, h10, hZ⟩ := kI_Z h
  unfold fX8_move fX9_move fX9_move_19
  have thr : ∀ (σ' m' : qS) (u : Int32) (e : Nat) (c : Int32), (e = 1 ∧ c = 1) ∨ (e = 3 ∧ c = 2) → kI n σ' m' → σ'.2 = σ.2 → lC F kI phi (fun e => if e = 0 then 0 else if e = 1 then 1 else if e = 3 then 2 else 0) n σ (some (u, e, σ')) (fX9_move_36 F p x c m') (fun _ => 0) := fun σ' m' u e c hec hk hN => by
    unfold fX9_move_36
    rcases hec with ⟨rfl, rfl⟩ | ⟨rfl, rfl⟩
    all_goals
      rw [e_h1 (by decide), bnd2_s, if_neg (show ¬ (1 : Int32) = 0 by decide), gbl_0]
      exact lC_t rfl (by decide) hk (by omega) hN rfl
  by_cases hp : ∃ z, z < σ.2 0 0 ∧ p = nI z
  · obtain ⟨z, hz, rfl⟩ := hp
    have hz10 : z < 10 := by omega
    rw [e_known1 hz h10, bnd3_s0, e_ses1 h48 hz h10, bnd2_s, if_neg (show ¬ (1 : Int32) = 0 by decide), e_in, bnd2_s]
    by_cases c1 : ∃ s, s < 3 ∧ x = nI s
    · obtain ⟨s, hs, rfl⟩ := c1
      rw [e_kServer1 hs, bnd3_s0, b2_t (show ¬ nI s < 0 ∧ ¬ 2 < nI s from (in_rng (a := 0) (b := 2) (by decide) (by decide)).mp ⟨s, by omega, by omega, rfl⟩), if_neg (show ¬ (1 : Int32) = 0 by decide)]
      rcases wk (F := F) h (by omega) hz (by omega) with ⟨s1, m1, w1, w2, w3, w4, w5⟩ | ⟨w1, w2, w3, w4, w5, w6, w7, w8⟩
      · rw [w2, bnd3_se (by decide), w3, bnd2_s, if_neg (show ¬ (1 : Int32) = 0 by decide)]
        exact thr _ _ _ 3 2 (Or.inr ⟨rfl, rfl⟩) w4 w5
      · have l135 : (lsM m z).1 135 0 z = 0 := by rw [lsM_o (by omega) (by omega)]; exact w4
        obtain ⟨s3, s2, s4⟩ := kI_srv w6 hz l135
        have hI := w6
        obtain ⟨C, π, M, S, L, Z, Y, T, cmp, hk, hR, hlo, h6, hK, hP, hcL, hT, hLn, hS, hp9⟩ := hI
        have hM80 : M ≤ 80 := hk.1.2.1.2.2.2.2.1
        have hzZ : z < Z := by rw [← hR.1.1]; exact hz
        obtain ⟨v1, v2, v3, v4, v5, v6, v7, v8, v9⟩ := hk.2.1 s hs
        obtain ⟨y1, y2, y3, y4, y5, y6, y7, y8, y9⟩ := hk.2.1 _ s3
        have hz' : z < (lsC σ z).2 0 0 := hz
        unfold fX9_move_36
        rw [w2, bnd3_s0, w3, bnd2_s, if_pos rfl, e_h0, bnd2_s, if_pos rfl, w5, bnd_s, gnl_pos hs, nm_x, gnl_pos hz', nm_x, gnl_pos s3, nm_x, ldi_nI hs (by decide), ldi_nI hz10 (by decide), s2, ldi_nI s3 (by decide), v2, y2, v4, y4]
        by_cases c : cgN (lsC σ z) ((lsC σ z).2 2 z) ≤ cgN (lsC σ z) s
        · rw [if_pos ((nI_le' (by omega) (by omega)).mpr c), if_pos ((nI_le' (by omega) (by omega)).mpr c), gnl_pos hz', nm_x, gbl_1, ldi_nI hz10 (by decide), s2, ldi_nI s3 (by decide), y3]
          have htt : stN (lsC σ z) ((lsC σ z).2 2 z) ≤ stN (lsC σ z) s := by
            by_cases e : stN (lsC σ z) s < stN (lsC σ z) ((lsC σ z).2 2 z)
            · have e1 := (y7 (stN (lsC σ z) s) (by omega)).mp e
              have e2 := (v7 (stN (lsC σ z) s) (by omega)).mpr (by omega)
              omega
            · omega
          obtain ⟨-, -, ⟨u1, u2, u3⟩⟩ := hk.2.2.2.1 z hzZ l135
          obtain ⟨m2, a1, a2, a3⟩ := e_mvS (F := F) (P := fun x => pN (lsC σ z) z x) hz10 hs hk.1.1 hk.1.2.1 v3 (by omega) htt v5 (by omega) (by omega) (fun x h1 _ => pN_s (by omega)) u3
          obtain ⟨F', rfl⟩ : ∃ x, F = x + 1 + (π (stN (lsC σ z) s) - π (stN (lsC σ z) ((lsC σ z).2 2 z))) := ⟨F - 1 - (π (stN (lsC σ z) s) - π (stN (lsC σ z) ((lsC σ z).2 2 z))), by
            have := kLog_mono hk.1.1 v5 (Nat.le_refl _)
            omega⟩
          generalize hG : F' + 1 + (π (stN (lsC σ z) s) - π (stN (lsC σ z) ((lsC σ z).2 2 z))) = G at a1 hF thr ⊢
          have a1' := a1 (F' + 1)
          rw [hG] at a1'
          have o : ∀ f q, ¬ ((f = 141 ∨ f = 142) ∧ 8 * z ≤ q ∧ q < 8 * z + 8) → ¬ ((f = 143 ∨ f = 146) ∧ q = z) → ¬ (f = 144 ∧ 8000 * z ≤ q ∧ q < 8000 * z + 8000) → m2.1 f 0 q = (lsM m z).1 f 0 q := fun f q w1 w2 w3 => a2.2 f 0 q (by omega)
          rw [a1', fX9_move_86, ldi_nI hs (by decide), o 129 s (by omega) (by omega) (by omega), v3, if_pos (Int32.le_refl _), inx_nI hz10 (by decide), ix_nI (by omega), nm_x, gbl_1]
          have n2 : ∀ k i, ¬ (k = 2 ∧ i = z) → (qN (lsC σ z) 2 z s).2 k i = (lsC σ z).2 k i := fun k i w => if_neg w
          have n2z : (qN (lsC σ z) 2 z s).2 2 z = s := if_pos ⟨rfl, rfl⟩
          have pp : ∀ f q, ¬ (f = 132 ∧ q = z) → (qI m2 132 0 z (nI s)).1 f 0 q = m2.1 f 0 q := fun f q w => by rw [qI_ap, if_neg (by omega)]
          have key : kI n (qN (lsC σ z) 2 z s) (qI m2 132 0 z (nI s)) := by
            refine kI_own2 w6 (by omega) hz' l135 (fun k i w => n2 k i (by omega)) (fun _ _ _ _ _ => rfl) (fun f q w1 w2 w3 w4 => by rw [pp f q w1, o f q w2 (by omega) w4]) ⟨by rw [n2z]; exact hs, by rw [n2z, qI_ap, if_pos ⟨rfl, rfl, rfl⟩], ?_⟩
            rw [n2z]
            have hB8 : 8 * stN (lsC σ z) s ≤ 8000 := by omega
            show kHz (qN (lsC σ z) 2 z s) (qI m2 132 0 z (nI s)) z (stN (lsC σ z) s)
            exact kHz_fr ⟨u1, Nat.le_trans u2 htt, ssM_fr a3 (fun f q w => pp f q (by omega)) hB8⟩ rfl (fun _ _ => ⟨rfl, rfl⟩) ⟨rfl, rfl⟩ rfl rfl rfl rfl (n2 3 z (by omega))
          refine lC_o rfl (kI_mono key (Nat.le_succ n)) (by rw [pp 0 57 (by omega), o 0 57 (by omega) (by omega) (by omega)]; exact ls57) ?_
          have : phi (qN (lsC σ z) 2 z s) = phi σ := by
            unfold phi
            exact phs_congr (fun y _ => n2 3 y (by omega))
          omega
        · rw [if_neg (fun w => c ((nI_le' (by omega) (by omega)).mp w)), if_neg (fun w => c ((nI_le' (by omega) (by omega)).mp w)), gbl_0, gbl_0]
          exact lC_o rfl (kI_mono w6 (Nat.le_succ n)) ls57 (by rw [phi_N (show (lsC σ z).2 = σ.2 from rfl)]; omega)
    · rw [e_kServer0 c1, bnd3_se (by decide), b2_f (fun w => c1 (by
        obtain ⟨i, _, i2, i3⟩ := (in_rng (a := 0) (b := 2) (by decide) (by decide)).mpr w
        exact ⟨i, by omega, i3⟩)), if_pos rfl]
      exact thr _ _ _ 1 1 (Or.inl ⟨rfl, rfl⟩) h rfl
  · rw [e_known0 h10 hp, bnd3_se (by decide), e_ses0 h48 h10 hp, bnd2_s, if_pos rfl]
    exact thr _ _ _ 1 1 (Or.inl ⟨rfl, rfl⟩) h rfl
end MV

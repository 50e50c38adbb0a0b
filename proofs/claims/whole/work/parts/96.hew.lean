/-! PURE: hear, watch, move, in both -/
theorem kZ_fr2 {σ m σ' m' : qS} {z : Nat} (h : kZa σ m z ∧ kZb σ m z ∧ kZc σ m z) (o : ∀ f k, (f = 50 ∧ k ≠ 10 ∧ k ≠ 11) ∨ f = 52 → σ'.1 f z k = σ.1 f z k) (oa : ∀ a, 1 + 6 * z ≤ a → a < 7 + 6 * z → σ'.1 56 a = σ.1 56 a) (p : ∀ f, (131 ≤ f ∧ f ≤ 137 ∧ f ≠ 132) ∨ f = 140 → m'.1 f 0 z = m.1 f 0 z) (p8 : ∀ q, 42 * z ≤ q → q < 42 * z + 42 → m'.1 138 0 q = m.1 138 0 q) (p9 : ∀ q, 6 * z ≤ q → q < 6 * z + 6 → m'.1 139 0 q = m.1 139 0 q) : kZa σ' m' z ∧ kZb σ' m' z ∧ kZc σ' m' z := by
  obtain ⟨b1, b2, b3⟩ := h
  refine ⟨?_, ?_, ?_⟩
  · unfold kZa at b1 ⊢
    rw [o 50 0 (by omega), o 50 1 (by omega), o 50 2 (by omega), o 50 9 (by omega), o 50 15 (by omega), p 131 (by omega), p 133 (by omega), p 134 (by omega), p 135 (by omega), p 136 (by omega)]
    exact b1
  · obtain ⟨x, x1, x2, x3, x4⟩ := b2
    exact ⟨x, x1, by rw [o 50 13 (by omega)]; exact x2, by rw [p 140 (by omega)]; exact x3, fun i hi => by rw [o 52 i (by omega), p9 _ (by omega) (by omega)]; exact x4 i hi⟩
  · obtain ⟨c1, c2⟩ := b3
    refine ⟨by rw [o 50 14 (by omega), p 135 (by omega), p 136 (by omega)]; exact c1, ?_⟩
    rw [p 136 (by omega)]
    rcases c2 with c2 | ⟨c2, x, x1, x2, x3, x4⟩
    · exact Or.inl c2
    · refine Or.inr ⟨c2, x, x1, by rw [o 50 12 (by omega)]; exact x2, by rw [p 137 (by omega)]; exact x3, fun i hi => ?_⟩
      have := x4 i hi
      unfold kZe at this ⊢
      rw [p8 _ (by omega) (by omega), p8 _ (by omega) (by omega), p8 _ (by omega) (by omega), p8 _ (by omega) (by omega), p8 _ (by omega) (by omega), p8 _ (by omega) (by omega), p8 _ (by omega) (by omega)]
      exact actR_fr this (oa _ (by omega) (by omega))
/-- session z's own watches, row and server change, in both -/
theorem kI_own2 {n z : Nat} {σ m σ' m' : qS} (h : kI n σ m) (h5 : n ≤ 512) (hz : z < σ.2 0 0) (hl : m.1 135 0 z = 0) (hN : ∀ k j, ¬ ((k = 3 ∨ k = 2) ∧ j = z) → σ'.2 k j = σ.2 k j) (o : ∀ f j k, ¬ ((f = 53 ∨ f = 54 ∨ f = 55 ∨ f = 58) ∧ j = z) → ¬ (f = 50 ∧ j = z ∧ (k = 10 ∨ k = 11)) → σ'.1 f j k = σ.1 f j k) (p : ∀ f q, ¬ (f = 132 ∧ q = z) → ¬ ((f = 141 ∨ f = 142) ∧ 8 * z ≤ q ∧ q < 8 * z + 8) → ¬ ((f = 143 ∨ f = 145 ∨ f = 146) ∧ q = z) → ¬ (f = 144 ∧ 8000 * z ≤ q ∧ q < 8000 * z + 8000) → m'.1 f 0 q = m.1 f 0 q) (hu : σ'.2 2 z < 3 ∧ m'.1 132 0 z = nI (σ'.2 2 z) ∧ kHz σ' m' z (stN σ' (σ'.2 2 z))) : kI n σ' m' := by
  obtain ⟨C, π, M, S, L, Z, Y, T, cmp, hk, hR, hlo, h6, hK, hP, hcL, hT, hLn, hS, hp9⟩ := h
  have hM80 : M ≤ 80 := hk.1.2.1.2.2.2.2.1
  have hzZ : z < Z := by rw [← hR.1.1]; exact hz
  obtain ⟨u1, u2, u3⟩ := hu
  have est : ∀ s, stN σ' s = stN σ s := fun s => by unfold stN; rw [o 8 s 2 (by omega) (by omega)]
  have hH : kHs σ' m' Z := fun y hy h0 => by
    by_cases e : y = z
    · subst e
      exact ⟨u1, u2, u3⟩
    · have hl' : m.1 135 0 y = 0 := by rw [← p 135 y (by omega) (by omega) (by omega) (by omega)]; exact h0
      obtain ⟨q1, q2, q3⟩ := hk.2.2.2.1 y hy hl'
      rw [hN 2 y (by omega), p 132 y (by omega) (by omega) (by omega) (by omega), est]
      refine ⟨q1, q2, ?_⟩
      obtain ⟨r1, r2, r3⟩ := q3
      have hB := (hk.2.1 _ q1).2.2.2.2.1
      exact kHz_fr ⟨r1, r2, ssM_fr r3 (fun f q hq => p f q (by omega) (by omega) (by omega) (by omega)) (by omega)⟩ (by funext q; exact o 2 0 q (by omega) (by omega)) (fun i _ => ⟨o 11 0 i (by omega) (by omega), o 12 0 i (by omega) (by omega)⟩) ⟨o 50 y 10 (by omega) (by omega), o 50 y 11 (by omega) (by omega)⟩ (by funext q; exact o 53 y q (by omega) (by omega)) (by funext q; exact o 54 y q (by omega) (by omega)) (by funext q; exact o 55 y q (by omega) (by omega)) (by funext q; exact o 58 y q (by omega) (by omega)) (hN 3 y (by omega))
  have hpn : pnd m' Z = pnd m Z := pnd_congr (fun y _ => pnC_congr (p 136 y (by omega) (by omega) (by omega) (by omega)) (p 137 y (by omega) (by omega) (by omega) (by omega)))
  refine ⟨C, π, M, S, L, Z, Y, T, cmp, kD_fr hk hH (fun f j k w => o f j k (by omega) (by omega)) (fun f q w => p f q (by omega) (by omega) (by omega) (by omega)), ?_, kLo_fr hlo (o 0 0 17 (by omega) (by omega)) (p 0 54 (by omega) (by omega) (by omega) (by omega)), fun k k8 => by rw [o 6 0 k (by omega) (by omega)]; exact h6 k k8, kK_fr hK (o 0 0 12 (by omega) (by omega)) (fun f k w1 w2 => o f 5 k (by omega) (by omega)) (p 0 17 (by omega) (by omega) (by omega) (by omega)) (fun f q w => p f q (by omega) (by omega) (by omega) (by omega)) (fun f k w1 w2 w3 => o f 0 k (by omega) (by omega)) ⟨by rw [o 2 0 0 (by omega) (by omega)]; exact hk.1.2.1.2.2.1.1, fun k k1 k2 k3 => by rw [o 2 0 k (by omega) (by omega)]; exact hk.1.2.1.2.2.1.2 k k1 k2 k3⟩ (Nat.le_refl _) hM80 (Nat.le_refl _), kP_fr hP (fun f k w1 w2 => o f 4 k (by omega) (by omega)) (fun f k w1 w2 w3 => rfl) (fun f q w1 w2 w3 => p f q (by omega) (by omega) (by omega) (by omega)) (Nat.le_refl _), hcL, hT, hLn, by rw [hpn]; exact hS, by rw [hpn]; exact hp9⟩
  obtain ⟨⟨a1, a2, a3, a4, a5, a6, a7⟩, b, c, d, e, ⟨f1, f2, f3, f4⟩, g⟩ := hR
  refine ⟨⟨by rw [hN 0 0 (by omega)]; exact a1, a2, by rw [hN 1 0 (by omega)]; exact a3, a4, by rw [p 0 52 (by omega) (by omega) (by omega) (by omega)]; exact a5, by rw [o 0 0 14 (by omega) (by omega)]; exact a6, by rw [p 0 53 (by omega) (by omega) (by omega) (by omega)]; exact a7⟩, fun y hy => kZ_fr2 (b y hy) (fun f k w => o f y k (by omega) (by omega)) (fun a _ _ => by funext k; exact o 56 a k (by omega) (by omega)) (fun f w => p f y (by omega) (by omega) (by omega) (by omega)) (fun q _ _ => p 138 q (by omega) (by omega) (by omega) (by omega)) (fun q _ _ => p 139 q (by omega) (by omega) (by omega) (by omega)), fun i hi => kLz_fr (c i hi) (fun k _ => o 57 i k (by omega) (by omega)) (fun f w1 w2 => p f i (by omega) (by omega) (by omega) (by omega)) (Nat.le_refl _), kFr_fr d (fun f y w1 w2 w3 => p f y (by omega) (by omega) (by omega) (by omega)) (fun q _ => p 147 q (by omega) (by omega) (by omega) (by omega)) (fun i _ _ => p 151 i (by omega) (by omega) (by omega) (by omega)), kBl_fr e (fun k => o 15 0 k (by omega) (by omega)) (fun q => p 147 q (by omega) (by omega) (by omega) (by omega)), ⟨by rw [o 0 0 18 (by omega) (by omega), p 0 55 (by omega) (by omega) (by omega) (by omega)]; exact f1, by rw [o 0 0 19 (by omega) (by omega), p 0 56 (by omega) (by omega) (by omega) (by omega)]; exact f2, by rw [o 0 0 16 (by omega) (by omega)]; exact f3, by rw [p 0 28 (by omega) (by omega) (by omega) (by omega)]; exact f4⟩, fun y => ?_⟩
  by_cases e : y = z
  · subst e
    exact ⟨(rowL_TN u3.1.2.2.2.2.1).2, fun w => by omega⟩
  · rw [hN 3 y (by omega)]
    exact g y
section HE9
variable {F : Nat}
theorem sl_cons {f : Nat → Int32} {a d : Nat} : sl f a (d + 1) = f a :: sl f (a + 1) d := rfl
theorem c_hear (hF : 100000 ≤ F) : cI_hear F kI phi := by
  intro n σ m p hn h
  obtain ⟨h48, h10, hZ⟩ := kI_Z h
  unfold fX8_hear fX9_hear
  by_cases hp : ∃ z, z < σ.2 0 0 ∧ p = nI z
  · obtain ⟨z, hz, rfl⟩ := hp
    have hz10 : z < 10 := by omega
    rw [e_known1 hz h10, bnd3_s0, e_ses1 h48 hz h10, bnd2_s, if_neg (show ¬ (1 : Int32) = 0 by decide)]
    unfold fX9_hear_26
    rcases wk (F := F) h (by omega) hz (by omega) with ⟨s1, m1, w1, w2, w3, w4, w5⟩ | ⟨w1, w2, w3, w4, w5, w6, w7, w8⟩
    · rw [w2, bnd3_se (by decide), w3, bnd2_s, if_neg (show ¬ (1 : Int32) = 0 by decide), e_h1 (by decide), bnd2_s, if_neg (show ¬ (1 : Int32) = 0 by decide)]
      exact lC_t rfl (by decide) w4 (by omega) w5 (by rw [w5, Nat.sub_self])
    · have l135 : (lsM m z).1 135 0 z = 0 := by rw [lsM_o (by omega) (by omega)]; exact w4
      have hz' : z < (lsC σ z).2 0 0 := hz
      obtain ⟨s2, a1, a2, a3, a4, a5, a6⟩ := kI_tell (F := F) w6 (by omega) hz' l135 hF
      obtain ⟨t, t1, t2, t3, w, ⟨c, c1, c2, c3, c4, a, b, k, x1, x2, x3, x4, x5, x6, x7⟩, u2, ⟨c0, d1, d2, d3, d4, a', b', y1, y2, y3, y4, y5⟩⟩ := a3
      have hz2 : z < s2.2 0 0 := by rw [a4 0 0 (by omega)]; exact hz
      have hpw := pw9 x6
      have hlen : b - a = b' - a' := by
        have := congrArg List.length (x7.symm.trans y5)
        rw [sl_len, sl_len] at this
        exact this
      have hph : phi (lsC σ z) = phi σ := phi_N rfl
      have hgr : s2.2 3 (nI z).toNatClampNeg - σ.2 3 (nI z).toNatClampNeg + phi σ ≤ phi s2 := by
        rw [ix_nI (by omega), ← hph]
        exact a6
      rw [w2, bnd3_s0, a1, bnd_s, w3, bnd2_s, if_pos rfl, e_h0, bnd2_s, if_pos rfl, w5, bnd_s]
      unfold fX8_hear_16 fX4_takeOldest
      rw [gnl_pos hz2, gnl_pos hz2, gnl_pos hz2, nm_x, gnl_pos hz2, nm_x, x1, x2, ldi_nI hz10 (by decide), ldi_nI hz10 (by decide), y1, y2]
      by_cases e : b = a
      · rw [if_neg (fun q => by have := (nI_lt' (by omega) (by omega)).mp q; omega), bnd2_s, if_pos (congrArg nI (by omega))]
        exact lC_o rfl (kI_mono a2 (Nat.le_succ n)) ls57 hgr
      · rw [if_pos ((nI_lt' (by omega) (by omega)).mpr (by omega)), if_neg (fun q => by have := nI_inj (by omega) (by omega) q; omega), gnl_pos hz2, gnl_pos hz2, nm_x, gnl_pos hz2, ldi_nI (show a < s2.2 3 z by omega) (by omega), gnl_pos hz2, nm_x, nm_x, nI_1, gnl_pos hz2, nm_x, bnd2_s, ldi_nI hz10 (by decide), y1]
        repeat rw [nm_x]
        rw [nI_1, inx_nI hz10 (by decide), ix_nI (by omega), ldi_nI hz10 (by decide), show (qI (lsM m z) 145 0 z (nI (a' + 1))).1 145 0 z = nI (a' + 1) from by rw [qI_ap, if_pos ⟨rfl, rfl, rfl⟩]]
        repeat rw [nm_x]
        rw [show (8000 : Int32) * nI z + nI (a' + 1) - 1 = nI (8000 * z + a') from by
          rw [show (8000 : Int32) = nI 8000 from rfl, nI_mul, nI_add, show nI (8000 * z + (a' + 1)) - 1 = nI (8000 * z + (a' + 1) - 1) from nI_sub (a := 8000 * z + (a' + 1)) (b := 1) (by omega), show 8000 * z + (a' + 1) - 1 = 8000 * z + a' by omega], ldi_nI (show 8000 * z + a' < 80000 by omega) (by decide)]
        have hsl : sl (s2.1 58 z) a (b - a) = sl (fun j => (lsM m z).1 144 0 (8000 * z + j)) a' (b' - a') := x7.symm.trans y5
        rw [show b - a = (b - a - 1) + 1 by omega, show b' - a' = (b - a - 1) + 1 by omega, sl_cons, sl_cons] at hsl
        obtain ⟨h1, h2⟩ := List.cons.inj hsl
        rw [show (qI (lsM m z) 145 0 z (nI (a' + 1))).1 144 0 (8000 * z + a') = s2.1 58 z a from by rw [qI_ap, if_neg (by omega)]; exact h1.symm]
        have key : kI n (qI s2 55 z 1 (nI (a + 1))) (qI (lsM m z) 145 0 z (nI (a' + 1))) := by
          refine kI_own a2 (by omega) hz2 l135 (fun _ _ _ => rfl) (fun f j k w1 w2 => by rw [qI_ap, if_neg (by omega)]) (fun f q w1 w2 w3 => by rw [qI_ap, if_neg (by omega)]) ⟨t, t1, by rw [qI_ap, if_neg (by omega)]; exact t2, by rw [qI_ap, if_neg (by omega)]; exact t3, (w.1, sl (s2.1 58 z) (a + 1) (b - a - 1)), ⟨c, c1, by rw [qI_ap, if_neg (by omega)]; exact c2, by rw [qI_k (by omega), qI_k (by omega)]; exact c3, c4, a + 1, b, k, by rw [qI_ap, if_pos ⟨rfl, rfl, rfl⟩], by rw [qI_ap, if_neg (by omega)]; exact x2, by omega, x4, x5, x6, ?_⟩, ?_, ⟨c0, d1, by rw [qI_ap, if_neg (by omega)]; exact d2, ?_, d4, a' + 1, b', by rw [qI_ap, if_pos ⟨rfl, rfl, rfl⟩], by rw [qI_ap, if_neg (by omega)]; exact y2, by omega, y4, ?_⟩⟩
          · rw [qI_k (by omega), show b - (a + 1) = b - a - 1 by omega]
          · have := u2
            rw [x7, sl_len] at this
            show (sl (s2.1 58 z) (a + 1) (b - a - 1)).length ≤ _
            rw [sl_len]
            omega
          · show wM (qI (lsM m z) 145 0 z (nI (a' + 1))) z 0 c0 = w.1
            rw [← d3]
            exact wl_congr (fun j hj => ⟨by rw [qI_ap, if_neg (by omega)], by rw [qI_ap, if_neg (by omega)]⟩)
          · show sl (s2.1 58 z) (a + 1) (b - a - 1) = sl (fun j => (qI (lsM m z) 145 0 z (nI (a' + 1))).1 144 0 (8000 * z + j)) (a' + 1) (b' - (a' + 1))
            rw [h2, show b' - (a' + 1) = b - a - 1 by omega]
            exact sl_congr (fun j hj => by rw [qI_ap, if_neg (by omega)])
        exact lC_o rfl (kI_mono key (Nat.le_succ n)) (by rw [qI_ap, if_neg (by omega)]; exact ls57) (by
          rw [← hph]
          exact a6)
  · rw [e_known0 h10 hp, bnd3_se (by decide), e_ses0 h48 h10 hp, bnd2_s, if_pos rfl]
    unfold fX9_hear_26
    rw [e_h1 (by decide), bnd2_s, if_neg (show ¬ (1 : Int32) = 0 by decide)]
    exact lC_t rfl (by decide) h (by omega) rfl (Nat.sub_self _)
theorem c_watch (hF : 100000 ≤ F) : cI_watch F kI phi := by
  intro n σ m p x q hn h
  obtain ⟨h48, h10, hZ⟩ := kI_Z h
  unfold fX8_watch fX9_watch fX9_watch_46
  have thr : ∀ (σ' m' : qS) (u : Int32) (e : Nat) (c : Int32), (e = 1 ∧ c = 1) ∨ (e = 2 ∧ c = 2) ∨ (e = 3 ∧ c = 3) → kI n σ' m' → σ'.2 3 p.toNatClampNeg - σ.2 3 p.toNatClampNeg + phi σ ≤ phi σ' → lC F kI phi (fun e => if e = 0 then 0 else if e = 1 then 1 else if e = 2 then 2 else if e = 3 then 3 else 0) n σ (some (u, e, σ')) (fX9_watch_51 F p x q c m') (fun s9 => s9.2 3 p.toNatClampNeg - σ.2 3 p.toNatClampNeg) := fun σ' m' u e c hec hk hN => by
    unfold fX9_watch_51
    rcases hec with ⟨rfl, rfl⟩ | ⟨rfl, rfl⟩ | ⟨rfl, rfl⟩
    all_goals
      rw [e_h1 (by decide), bnd2_s, if_neg (show ¬ (1 : Int32) = 0 by decide)]
      refine ⟨u, _, σ', -1, _, rfl, rfl, ?_, fun w => absurd w (by decide), kI_mono (kI_57 hk (by omega)) (Nat.le_succ n), hN⟩
      unfold fX9_thrown
      rw [nm_x, qI_ap, if_pos ⟨rfl, rfl, rfl⟩]
      rfl
  by_cases hp : ∃ z, z < σ.2 0 0 ∧ p = nI z
  · obtain ⟨z, hz, rfl⟩ := hp
    have hz10 : z < 10 := by omega
    rw [e_known1 hz h10, bnd3_s0, e_ses1 h48 hz h10, bnd2_s, if_neg (show ¬ (1 : Int32) = 0 by decide), e_isWithin, bnd2_s, e_in, bnd2_s]
    by_cases cq : ¬ q < 0 ∧ ¬ 2 < q
    · rw [b2_t cq, if_neg (show ¬ (1 : Int32) = 0 by decide), if_neg (show ¬ (1 : Int32) = 0 by decide)]
      rcases wk (F := F) h (by omega) hz (by omega) with ⟨s1, m1, w1, w2, w3, w4, w5⟩ | ⟨w1, w2, w3, w4, w5, w6, w7, w8⟩
      · rw [w1, bnd3_se (by decide), w3, bnd2_s, if_neg (show ¬ (1 : Int32) = 0 by decide)]
        exact thr _ _ _ 3 3 (Or.inr (Or.inr ⟨rfl, rfl⟩)) w4 (by rw [w5, Nat.sub_self, phi_N w5]; omega)
      · obtain ⟨s2, a1, a2, a3, a4, a5, a6⟩ := kI_tell (F := F) w7 (by omega) hz (by rw [qI_ap, if_neg (by omega)]; exact w4) hF
        have hU := a3
        obtain ⟨t, t1, t2, t3, w, ⟨c, c1, c2, c3, c4, c5⟩, u2, ⟨c0, d1, d2, d3, d4, d5⟩⟩ := a3
        have hc0 : c0 = c := by
          have e1 : w.1.length = c := by rw [← c3, wl_len]
          have e2 : w.1.length = c0 := by rw [← d3, wl_len]
          omega
        subst hc0
        have hz2 : z < s2.2 0 0 := by rw [a4 0 0 (by omega)]; exact hz
        have d2' : m.1 143 0 z = nI c0 := by rw [qI_ap, if_neg (by omega)] at d2; exact d2
        have hgr : s2.2 3 (nI z).toNatClampNeg - σ.2 3 (nI z).toNatClampNeg + phi σ ≤ phi s2 := by
          rw [ix_nI (by omega)]
          exact a6
        unfold fX8_watch_38 fX8_watch_104
        rw [w1, bnd3_s0, a1, bnd_s, w3, bnd2_s, if_pos rfl, ldi_nI hz10 (by decide), d2', gnl_pos hz2, nm_x, c2]
        by_cases c8 : c0 = 8
        · rw [if_neg (show ¬ nI c0 < 8 from fun w => by have := (nI_lt' (b := 8) (by omega) (by decide)).mp w; omega), if_pos (show nI c0 = 8 from by rw [c8]; rfl)]
          have hk : kI n s2 m := by
            have h2 := kI_57 (v := m.1 0 0 57) a2 (by omega)
            have e : qI (qI m 0 0 57 0) 0 0 57 (m.1 0 0 57) = m := by
              refine Prod.ext ?_ rfl
              funext f j k
              rw [qI_ap]
              by_cases e : f = 0 ∧ j = 0 ∧ k = 57
              · rw [if_pos e, e.1, e.2.1, e.2.2]
              · rw [if_neg e, qI_ap, if_neg e]
            rw [e] at h2
            exact h2
          exact thr _ _ _ 3 3 (Or.inr (Or.inr ⟨rfl, rfl⟩)) hk hgr
        · rw [if_pos (show nI c0 < 8 from (nI_lt' (b := 8) (by omega) (by decide)).mpr (by omega)), if_neg (show ¬ nI c0 = 8 from fun w => c8 (nI_inj (b := 8) (by omega) (by decide) w)), nm_x, gnl_pos hz2, nm_x, show qI s2 50 z 9 (s2.1 0 0 14) = lsC s2 z from rfl]
          have e14 : s2.1 0 0 14 = m.1 0 0 53 := by rw [a5 0 0 14 (by omega) (by omega)]; exact w8
          have h9 : kI n (lsC s2 z) (lsM m z) := by
            have := kI_last (v := s2.1 0 0 14) a2 (by omega) hz2
            unfold lsC lsM
            rw [← e14]
            exact this
          have hz9 : z < (lsC s2 z).2 0 0 := hz2
          have l135 : (lsM m z).1 135 0 z = 0 := by rw [lsM_o (by omega) (by omega)]; exact w4
          obtain ⟨s3, s2', -⟩ := kI_srv h9 hz9 l135
          obtain ⟨-, -, hZ'⟩ := kI_Z h9
          obtain ⟨⟨q1, ⟨pp, p4, p1, p2⟩, -⟩, -⟩ := hZ' z hz9
          obtain ⟨cc, M, ht⟩ := kI_tree h9 s3
          unfold fX9_watch_51
          rw [e_h0, bnd2_s, if_pos rfl, w5, bnd_s, gnl_pos hz9, nm_x, gnl_pos s3, gnl_pos hz9, nm_x, gnl_pos (by omega), p1]
          obtain ⟨v, b1, b2, b3⟩ := tA_sees (F := F) (x := x) ht s3 hz10 s2' p2 p4
          rw [b1, b2, bnd2_s, bnd2_s]
          have hph : phi (lsC s2 z) = phi s2 := phi_N rfl
          have e57 : ∀ f, ¬ (f = 134) → f ≠ 0 → ∀ y, (lsM m z).1 f 0 y = (qI m 0 0 57 0).1 f 0 y := fun f h1 h2 y => by
            unfold lsM
            rw [qI_ap, if_neg (by omega)]
          by_cases cv : 0 ≤ v
          · obtain ⟨a, ha, rfl, hca⟩ := b3 cv
            have d2'' : (lsM m z).1 143 0 z = nI c0 := by rw [lsM_o (by omega) (by omega)]; exact d2'
            have e11 : (lsC s2 z).1 50 z 11 = nI c0 := by rw [lsC_o (by omega)]; exact c2
            rw [if_pos cv, if_pos cv, gnl_pos hz9]
            unfold fX6_addWatch fX6_addWatch_39
            rw [gnl_pos hz9, nm_x, e11, if_neg (show ¬ (8 : Int32) ≤ nI c0 from fun w => by have := (nI_le' (a := 8) (by decide) (by omega)).mp w; omega), gnl_pos hz9, gnl_pos hz9, nm_x, gnl_pos hz9, inx_nI (show c0 < 8 by omega) (by decide), ix_nI (show c0 < 2 ^ 31 by omega), nm_x]
            have e11a : (qI (lsC s2 z) 53 z c0 (nI a)).1 50 z 11 = nI c0 := by rw [qI_ap, if_neg (by omega)]; exact e11
            rw [gnl_pos (show z < (qI (lsC s2 z) 53 z c0 (nI a)).2 0 0 from hz2), gnl_pos (show z < (qI (lsC s2 z) 53 z c0 (nI a)).2 0 0 from hz2), nm_x, e11a, gnl_pos (show z < (qI (lsC s2 z) 53 z c0 (nI a)).2 0 0 from hz2), inx_nI (show c0 < 8 by omega) (by decide), ix_nI (show c0 < 2 ^ 31 by omega), nm_x]
            have e11b : (qI (qI (lsC s2 z) 53 z c0 (nI a)) 54 z c0 q).1 50 z 11 = nI c0 := by rw [qI_ap, if_neg (by omega)]; exact e11a
            rw [gnl_pos (show z < (qI (qI (lsC s2 z) 53 z c0 (nI a)) 54 z c0 q).2 0 0 from hz2), nm_x, e11b, nm_x, nI_1, gnl_pos (show z < (qI (qI (lsC s2 z) 53 z c0 (nI a)) 54 z c0 q).2 0 0 from hz2), nm_x, gnl_pos (show z < (qI (qI (qI (lsC s2 z) 53 z c0 (nI a)) 54 z c0 q) 50 z 11 (nI (c0 + 1))).2 0 0 from hz2), nm_x, show (qI (qI (qI (lsC s2 z) 53 z c0 (nI a)) 54 z c0 q) 50 z 11 (nI (c0 + 1))).1 50 z 11 = nI (c0 + 1) from by rw [qI_ap, if_pos ⟨rfl, rfl, rfl⟩], bnd2_s, nm_x, ldi_nI hz10 (by decide), d2'']
            repeat rw [nm_x]
            rw [show (8 : Int32) * nI z + nI c0 = nI (8 * z + c0) from nI_8 z c0, inx_nI (show 8 * z + c0 < 80 by omega) (by decide), ix_nI (show 8 * z + c0 < 2 ^ 31 by omega), ldi_nI hz10 (by decide), show (qI (lsM m z) 141 0 (8 * z + c0) (nI a)).1 143 0 z = nI c0 from by rw [qI_ap, if_neg (by omega)]; exact d2'']
            repeat rw [nm_x]
            rw [show (8 : Int32) * nI z + nI c0 = nI (8 * z + c0) from nI_8 z c0, inx_nI (show 8 * z + c0 < 80 by omega) (by decide), ix_nI (show 8 * z + c0 < 2 ^ 31 by omega), ldi_nI hz10 (by decide), show (qI (qI (lsM m z) 141 0 (8 * z + c0) (nI a)) 142 0 (8 * z + c0) q).1 143 0 z = nI c0 from by rw [qI_ap, if_neg (by omega), qI_ap, if_neg (by omega)]; exact d2'']
            repeat rw [nm_x]
            rw [nI_1, inx_nI hz10 (by decide), ix_nI (show z < 2 ^ 31 by omega), ldi_nI hz10 (by decide), show (qI (qI (qI (lsM m z) 141 0 (8 * z + c0) (nI a)) 142 0 (8 * z + c0) q) 143 0 z (nI (c0 + 1))).1 143 0 z = nI (c0 + 1) from by rw [qI_ap, if_pos ⟨rfl, rfl, rfl⟩]]
            have oo : ∀ f j k, ¬ (f = 53 ∧ j = z ∧ k = c0) → ¬ (f = 54 ∧ j = z ∧ k = c0) → ¬ (f = 50 ∧ j = z ∧ k = 11) → (qI (qI (qI (lsC s2 z) 53 z c0 (nI a)) 54 z c0 q) 50 z 11 (nI (c0 + 1))).1 f j k = (lsC s2 z).1 f j k := fun f j k w1 w2 w3 => by rw [qI_ap, if_neg (by omega), qI_ap, if_neg (by omega), qI_ap, if_neg (by omega)]
            have pp' : ∀ f y, ¬ ((f = 141 ∨ f = 142) ∧ y = 8 * z + c0) → ¬ (f = 143 ∧ y = z) → (qI (qI (qI (lsM m z) 141 0 (8 * z + c0) (nI a)) 142 0 (8 * z + c0) q) 143 0 z (nI (c0 + 1))).1 f 0 y = (lsM m z).1 f 0 y := fun f y w1 w2 => by rw [qI_ap, if_neg (by omega), qI_ap, if_neg (by omega), qI_ap, if_neg (by omega)]
            have oq : ∀ f j k, ¬ (f = 50 ∧ j = z ∧ k = 9) → (lsC s2 z).1 f j k = s2.1 f j k := fun f j k w => lsC_o w
            have key : kI n (qI (qI (qI (lsC s2 z) 53 z c0 (nI a)) 54 z c0 q) 50 z 11 (nI (c0 + 1))) (qI (qI (qI (lsM m z) 141 0 (8 * z + c0) (nI a)) 142 0 (8 * z + c0) q) 143 0 z (nI (c0 + 1))) := by
              obtain ⟨xa, xb, xk, x1, x2, x3, x4, x5, x6, x7⟩ := c5
              obtain ⟨ya, yb, y1, y2, y3, y4, y5⟩ := d5
              refine kI_own h9 (by omega) hz9 l135 (fun _ _ _ => rfl) (fun f j k w1 w2 => oo f j k (by omega) (by omega) (by omega)) (fun f y w1 w2 w3 => pp' f y (by omega) (by omega)) ⟨t, t1, by rw [oo 50 z 10 (by omega) (by omega) (by omega), oq 50 z 10 (by omega)]; exact t2, by rw [oo 8 _ 2 (by omega) (by omega) (by omega), oq 8 _ 2 (by omega)]; exact t3, (w.1 ++ [(nI a, q)], w.2), ⟨c0 + 1, by omega, by rw [qI_ap, if_pos ⟨rfl, rfl, rfl⟩], ?_, ?_, xa, xb, xk, by rw [oo 55 z 1 (by omega) (by omega) (by omega), oq 55 z 1 (by omega)]; exact x1, by rw [oo 55 z 2 (by omega) (by omega) (by omega), oq 55 z 2 (by omega)]; exact x2, x3, x4, x5, x6, ?_⟩, u2, ⟨c0 + 1, by omega, by rw [qI_ap, if_pos ⟨rfl, rfl, rfl⟩], ?_, ?_, ya, yb, by rw [pp' 145 z (by omega) (by omega), e57 145 (by omega) (by omega)]; exact y1, by rw [pp' 146 z (by omega) (by omega), e57 146 (by omega) (by omega)]; exact y2, y3, y4, ?_⟩⟩
              · show wl _ _ 0 (c0 + 1) = w.1 ++ [(nI a, q)]
                rw [wl_snoc, Nat.zero_add, ← c3]
                congr 1
                · refine wl_congr (fun j hj => ⟨?_, ?_⟩)
                  · rw [Nat.zero_add, oo 53 z j (by omega) (by omega) (by omega), oq 53 z j (by omega)]
                  · rw [Nat.zero_add, oo 54 z j (by omega) (by omega) (by omega), oq 54 z j (by omega)]
                · rw [show (qI (qI (qI (lsC s2 z) 53 z c0 (nI a)) 54 z c0 q) 50 z 11 (nI (c0 + 1))).1 53 z c0 = nI a from by rw [qI_ap, if_neg (by omega), qI_ap, if_neg (by omega), qI_ap, if_pos ⟨rfl, rfl, rfl⟩], show (qI (qI (qI (lsC s2 z) 53 z c0 (nI a)) 54 z c0 q) 50 z 11 (nI (c0 + 1))).1 54 z c0 = q from by rw [qI_ap, if_neg (by omega), qI_ap, if_pos ⟨rfl, rfl, rfl⟩]]
              · intro y hy
                rcases List.mem_append.mp hy with hy | hy
                · exact c4 y hy
                · rw [List.mem_singleton.mp hy]
                  exact ⟨a, ha, rfl⟩
              · show w.2 = _
                rw [x7]
                exact sl_congr (fun j hj => by rw [oo 58 z _ (by omega) (by omega) (by omega), oq 58 z _ (by omega)])
              · unfold wM
                rw [wl_snoc, Nat.zero_add, ← d3]
                congr 1
                · refine wl_congr (fun j hj => ⟨?_, ?_⟩)
                  · rw [Nat.zero_add, pp' 141 _ (by omega) (by omega), e57 141 (by omega) (by omega)]
                  · rw [Nat.zero_add, pp' 142 _ (by omega) (by omega), e57 142 (by omega) (by omega)]
                · rw [show (qI (qI (qI (lsM m z) 141 0 (8 * z + c0) (nI a)) 142 0 (8 * z + c0) q) 143 0 z (nI (c0 + 1))).1 141 0 (8 * z + c0) = nI a from by rw [qI_ap, if_neg (by omega), qI_ap, if_neg (by omega), qI_ap, if_pos ⟨rfl, rfl, rfl⟩], show (qI (qI (qI (lsM m z) 141 0 (8 * z + c0) (nI a)) 142 0 (8 * z + c0) q) 143 0 z (nI (c0 + 1))).1 142 0 (8 * z + c0) = q from by rw [qI_ap, if_neg (by omega), qI_ap, if_pos ⟨rfl, rfl, rfl⟩]]
              · intro y hy
                rcases List.mem_append.mp hy with hy | hy
                · exact c4 y hy
                · rw [List.mem_singleton.mp hy]
                  exact ⟨a, ha, rfl⟩
              · show w.2 = _
                rw [y5]
                exact sl_congr (fun j hj => by rw [pp' 144 _ (by omega) (by omega), e57 144 (by omega) (by omega)])
            exact lC_o rfl (kI_mono key (Nat.le_succ n)) (by rw [pp' 0 57 (by omega) (by omega)]; exact ls57) (by
              show s2.2 3 z - σ.2 3 z + phi σ ≤ phi s2
              exact a6)
          · rw [if_neg cv, if_neg cv]
            exact lC_o rfl (kI_mono h9 (Nat.le_succ n)) ls57 (by
              show s2.2 3 (nI z).toNatClampNeg - σ.2 3 (nI z).toNatClampNeg + phi σ ≤ phi (lsC s2 z)
              rw [hph]
              exact hgr)
    · rw [b2_f cq, if_pos rfl, if_pos rfl]
      exact thr _ _ _ 2 2 (Or.inr (Or.inl ⟨rfl, rfl⟩)) h (by omega)
  · rw [e_known0 h10 hp, bnd3_se (by decide), e_ses0 h48 h10 hp, bnd2_s, if_pos rfl]
    exact thr _ _ _ 1 1 (Or.inl ⟨rfl, rfl⟩) h (by omega)
end HE9

/-! PURE: close, time, in both -/
theorem kIb_re {n t l t' : Nat} {σ m σ' m' : qS} (h : kIb n t l σ m) (hN : σ'.2 = σ.2) (o : ∀ f j k, ((f = 0 ∧ j = 0 ∧ (k = 15 ∨ k = 12)) ∨ (1 ≤ f ∧ f ≤ 14) ∨ (31 ≤ f ∧ f ≤ 37) ∨ (f = 50 ∧ (k = 10 ∨ k = 11)) ∨ (53 ≤ f ∧ f ≤ 55) ∨ f = 58) → σ'.1 f j k = σ.1 f j k) (p : ∀ f q, ((f = 0 ∧ (q = 7 ∨ q = 25 ∨ q = 26 ∨ q = 48 ∨ q = 17)) ∨ (100 ≤ f ∧ f ≤ 130) ∨ f = 132 ∨ f = 135 ∨ (141 ≤ f ∧ f ≤ 146)) → m'.1 f 0 q = m.1 f 0 q) (h5 : n ≤ 600) (hR : ∀ Z Y T cmp, T ≤ t → kR σ m Z Y T cmp → kLo σ m → ∃ T', kR σ' m' Z Y T' cmp ∧ kLo σ' m' ∧ T' ≤ t' ∧ pnd m' Z ≤ pnd m Z) : kIb n t' l σ' m' := by
  obtain ⟨C, π, M, S, L, Z, Y, T, cmp, hk, hR0, hlo, h6, hK, hP, hcL, hT, hLn, hS, hp⟩ := h
  obtain ⟨T', r1, r2, r3, r6⟩ := hR Z Y T cmp hT hR0 hlo
  have hM80 : M ≤ 80 := hk.1.2.1.2.2.2.2.1
  refine ⟨C, π, M, S, L, Z, Y, T', cmp, kD_fr hk (kHs_fr hk.2.2.2.1 (fun z hz h0 => ⟨by rw [← p 135 z (by omega)]; exact h0, by rw [hN], by rw [hN], p 132 z (by omega), ⟨o 50 z 10 (by omega), o 50 z 11 (by omega)⟩, fun f hf => by funext q; exact o f z q (by omega), fun f q w => p f q (by omega)⟩) (fun s => o 8 s 2 (by omega)) (by funext q; exact o 2 0 q (by omega)) (fun f i w => o f 0 i (by omega)) (fun s hs => by have := (hk.2.1 s hs).2.2.2.2.1; omega)) (fun f j k w => o f j k (by omega)) (fun f q w => p f q (by omega)), r1, r2, fun k k8 => by rw [o 6 0 k (by omega)]; exact h6 k k8, kK_fr hK (o 0 0 12 (by omega)) (fun f k w1 w2 => o f 5 k (by omega)) (p 0 17 (by omega)) (fun f q w => p f q (by omega)) (fun f k w1 w2 w3 => o f 0 k (by omega)) ?_ (Nat.le_refl _) hM80 (Nat.le_refl _), kP_fr hP (fun f k w1 w2 => o f 4 k (by omega)) (fun f k w1 w2 w3 => rfl) (fun f q w1 w2 w3 => p f q (by omega)) (Nat.le_refl _), hcL, r3, hLn, by omega, by omega⟩
  have hw := hk.1.2.1.2.2.1
  exact ⟨by rw [o 2 0 0 (by omega)]; exact hw.1, fun k k1 k2 k3 => by rw [o 2 0 k (by omega)]; exact hw.2 k k1 k2 k3⟩
/-- a lease ends -/
theorem kI_lend {n t l i : Nat} {σ m : qS} (h : kIb n t l σ m) (h5 : n ≤ 600) (hi : i < σ.2 1 0) : kIb n t l (qI σ 57 i 2 1) (qI m 151 0 i 1) := by
  have o : ∀ f j k, ¬ (f = 57 ∧ j = i ∧ k = 2) → (qI σ 57 i 2 1).1 f j k = σ.1 f j k := fun f j k w => by rw [qI_ap, if_neg w]
  have q : ∀ f x, ¬ (f = 151 ∧ x = i) → (qI m 151 0 i 1).1 f 0 x = m.1 f 0 x := fun f x w => by rw [qI_ap, if_neg (by omega)]
  refine kIb_re h rfl (fun f j k w => o f j k (by omega)) (fun f x w => q f x (by omega)) h5 (fun Z Y T cmp hT hR hlo => ⟨T, ?_, kLo_fr hlo (o 0 0 17 (by omega)) (q 0 54 (by omega)), hT, ?_⟩)
  · obtain ⟨⟨a1, a2, a3, a4, a5, a6, a7⟩, b, c, d, e, ⟨f1, f2, f3, f4⟩, g⟩ := hR
    refine ⟨⟨a1, a2, a3, a4, by rw [q 0 52 (by omega)]; exact a5, by rw [o 0 0 14 (by omega)]; exact a6, by rw [q 0 53 (by omega)]; exact a7⟩, fun z hz => kZ_fr (b z hz) (fun f k w => o f z k (by omega)) (fun a _ _ => by funext k; exact o 56 a k (by omega)) (fun f w => q f z (by omega)) (fun x _ _ => q 138 x (by omega)) (fun x _ _ => q 139 x (by omega)), fun y hy => ?_, kFr_fr d (fun f z w1 w2 w3 => q f z (by omega)) (fun x _ => q 147 x (by omega)) (fun y h1 h2 => q 151 y (by omega)), kBl_fr e (fun k => o 15 0 k (by omega)) (fun x => q 147 x (by omega)), ⟨by rw [o 0 0 18 (by omega), q 0 55 (by omega)]; exact f1, by rw [o 0 0 19 (by omega), q 0 56 (by omega)]; exact f2, by rw [o 0 0 16 (by omega)]; exact f3, by rw [q 0 28 (by omega)]; exact f4⟩, g⟩
    by_cases ey : y = i
    · subst ey
      obtain ⟨x, r, t1, t2, t3, t4, t5, t6, t7, t8, t9⟩ := c y hy
      exact ⟨x, r, t1, t2, t3, by rw [o 57 y 0 (by omega)]; exact t4, by rw [o 57 y 1 (by omega)]; exact t5, by rw [q 149 y (by omega)]; exact t6, by rw [q 150 y (by omega)]; exact t7, by rw [qI_ap, if_pos ⟨rfl, rfl, rfl⟩, qI_ap, if_pos ⟨rfl, rfl, rfl⟩], by rw [qI_ap, if_pos ⟨rfl, rfl, rfl⟩]; exact Or.inr rfl⟩
    · exact kLz_fr (c y hy) (fun k _ => o 57 y k (by omega)) (fun f w1 w2 => q f y (by omega)) (Nat.le_refl _)
  · rw [pnd_congr (fun z _ => pnC_congr (q 136 z (by omega)) (q 137 z (by omega)))]
    exact Nat.le_refl _
/-- time goes by one -/
theorem kI_tick {n t l : Nat} {σ m : qS} (h : kIb n t l σ m) (h5 : n ≤ 600) : kIb n (t + 1) l (qI σ 0 0 14 (σ.1 0 0 14 + 1)) (qI m 0 0 53 (m.1 0 0 53 + 1)) := by
  have o : ∀ f j k, ¬ (f = 0 ∧ j = 0 ∧ k = 14) → (qI σ 0 0 14 (σ.1 0 0 14 + 1)).1 f j k = σ.1 f j k := fun f j k w => by rw [qI_ap, if_neg w]
  have q : ∀ f x, ¬ (f = 0 ∧ x = 53) → (qI m 0 0 53 (m.1 0 0 53 + 1)).1 f 0 x = m.1 f 0 x := fun f x w => by rw [qI_ap, if_neg (by omega)]
  refine kIb_re h rfl (fun f j k w => o f j k (by omega)) (fun f x w => q f x (by omega)) h5 (fun Z Y T cmp hT hR hlo => ⟨T + 1, ?_, kLo_fr hlo (o 0 0 17 (by omega)) (q 0 54 (by omega)), by omega, ?_⟩)
  · obtain ⟨⟨a1, a2, a3, a4, a5, a6, a7⟩, b, c, d, e, ⟨f1, f2, f3, f4⟩, g⟩ := hR
    exact ⟨⟨a1, a2, a3, a4, by rw [q 0 52 (by omega)]; exact a5, by rw [qI_ap, if_pos ⟨rfl, rfl, rfl⟩, a6, nI_1], by rw [qI_ap, if_pos ⟨rfl, rfl, rfl⟩, a7, nI_1]⟩, fun z hz => kZ_fr (b z hz) (fun f k w => o f z k (by omega)) (fun a _ _ => by funext k; exact o 56 a k (by omega)) (fun f w => q f z (by omega)) (fun x _ _ => q 138 x (by omega)) (fun x _ _ => q 139 x (by omega)), fun y hy => kLz_fr (c y hy) (fun k _ => o 57 y k (by omega)) (fun f w1 w2 => q f y (by omega)) (Nat.le_succ T), kFr_fr d (fun f z w1 w2 w3 => q f z (by omega)) (fun x _ => q 147 x (by omega)) (fun y h1 h2 => q 151 y (by omega)), kBl_fr e (fun k => o 15 0 k (by omega)) (fun x => q 147 x (by omega)), ⟨by rw [o 0 0 18 (by omega), q 0 55 (by omega)]; exact f1, by rw [o 0 0 19 (by omega), q 0 56 (by omega)]; exact f2, by rw [o 0 0 16 (by omega)]; exact f3, by rw [q 0 28 (by omega)]; exact f4⟩, g⟩
  · rw [pnd_congr (fun z _ => pnC_congr (q 136 z (by omega)) (q 137 z (by omega)))]
    exact Nat.le_refl _
section PA
variable {F : Nat}
theorem e_close_l {m : qS} {z : Nat} (hz : z < 10) : ∀ (d t n : Nat) (s : qS), t + d = 80 → d < n → bmS m s z (fun k => k < t) 0 → ∃ s', fX9_close_36 F n (nI z) (nI t) s = fX9_stop F (nI z) s' ∧ bmS m s' z (fun _ => True) 0 := by
  intro d
  induction d with
  | zero =>
    intro t n s ht hn hb
    obtain ⟨n, rfl⟩ : ∃ k, n = k + 1 := ⟨n - 1, by omega⟩
    rw [fX9_close_36, if_pos (le80 (by omega) (by omega)), bnd2_id]
    exact ⟨s, rfl, hb.1, hb.2.1, hb.2.2.1, fun k hk => by rw [hb.2.2.2 k hk, if_pos (by omega), if_pos trivial]⟩
  | succ d ih =>
    intro t n s ht hn hb
    obtain ⟨n, rfl⟩ : ∃ k, n = k + 1 := ⟨n - 1, by omega⟩
    rw [fX9_close_36, if_neg (nle80 (by omega))]
    repeat rw [nm_x]
    rw [nI_80, inx_nI (by omega) (by decide)]
    repeat rw [nm_x]
    rw [nI_1, ix_nI (by omega)]
    refine ih (t + 1) n _ (by omega) (by omega) ⟨hb.1, fun f j q w => by rw [qI_ap, if_neg (by omega)]; exact hb.2.1 f j q w, fun q w => by rw [qI_ap, if_neg (by omega)]; exact hb.2.2.1 q w, fun k hk => ?_⟩
    by_cases e : k = t
    · rw [qI_ap, if_pos ⟨rfl, rfl, by omega⟩, if_pos (by omega)]
    · rw [qI_ap, if_neg (by omega), hb.2.2.2 k hk]
      by_cases e2 : k < t
      · rw [if_pos e2, if_pos (by omega)]
      · rw [if_neg e2, if_neg (by omega)]
theorem c_close (hF : 100000 ≤ F) : cI_close F kI phi := by
  intro n σ m p hn h
  obtain ⟨h48, h10, hZ⟩ := kI_Z h
  unfold fX8_close fX9_close
  by_cases hp : ∃ z, z < σ.2 0 0 ∧ p = nI z
  · obtain ⟨z, hz, rfl⟩ := hp
    have hz10 : z < 10 := by omega
    rw [e_known1 hz h10, bnd3_s0, e_ses1 h48 hz h10, bnd2_s, if_neg (show ¬ (1 : Int32) = 0 by decide)]
    unfold fX9_close_26
    rcases wk (F := F) h (by omega) hz (by omega) with ⟨s1, m1, w1, w2, w3, w4, w5⟩ | ⟨w1, w2, w3, w4, w5, w6, w7, w8⟩
    · rw [w1, bnd3_se (by decide), w3, bnd2_s, if_neg (show ¬ (1 : Int32) = 0 by decide), e_h1 (by decide), bnd2_s, if_neg (show ¬ (1 : Int32) = 0 by decide)]
      exact lC_t rfl (by decide) w4 (by omega) w5 rfl
    · obtain ⟨s1, a1, a2⟩ := e_forget (F := F) (by omega) hz hz10 (hZ z hz).1.1
      obtain ⟨m1, b1, b2⟩ := e_close_l (F := F) hz10 80 0 F (qI m 0 0 57 0) (by omega) (by omega) ⟨rfl, fun _ _ _ _ => rfl, fun _ _ => rfl, fun k _ => by rw [if_neg (by omega)]⟩
      have h1 := kI_bel w7 (by omega) hz a2 b2 rfl
      obtain ⟨g, σ', m', c1, c2, c3, c4, c5⟩ := kI_stop (F := F) (kI_b h1) (by omega) (by omega) (by rw [a2.1]; exact hz) hF
      rw [w1, bnd3_s0, a1, bnd_s, c1, bnd2_s, w3, bnd2_s, if_pos rfl, e_h0, bnd2_s, if_pos rfl, show fX9_close_36 F F (nI z) 0 (qI m 0 0 57 0) = fX9_stop F (nI z) m1 from b1, c2]
      exact lC_o rfl (kIb_I c3 (by omega) (by omega) (by omega)) (by rw [c5, b2.2.1 0 0 57 (by omega), qI_ap, if_pos ⟨rfl, rfl, rfl⟩]) (by rw [phi_N c4, phi_N a2.1]; omega)
  · rw [e_known0 h10 hp, bnd3_se (by decide), e_ses0 h48 h10 hp, bnd2_s, if_pos rfl]
    unfold fX9_close_26
    rw [e_h1 (by decide), bnd2_s, if_neg (show ¬ (1 : Int32) = 0 by decide)]
    exact lC_t rfl (by decide) h (by omega) rfl rfl
theorem lap_s {n t Z : Nat} {k27 : Int32 → Int32 → qS → Option (Int32 × qS)} {x1 x2 : Int32} (h5 : n ≤ 512) (hF : 100000 ≤ F) : ∀ (d z k k' l : Nat) (σ m : qS), z + d = Z → d < k → d < k' → kIb n t l σ m → σ.2 0 0 = Z → l + d < 2 ^ 30 → ∃ σ' m', fX8_lapseSessions_2 F k (nI z) σ = some σ' ∧ fX9_pass_44 F k27 k' x1 x2 (nI z) m = fX9_pass_96 F k27 F x1 x2 0 m' ∧ kIb n t (l + d) σ' m' ∧ σ'.2 = σ.2 ∧ m'.1 0 0 57 = m.1 0 0 57 := by
  intro d
  induction d with
  | zero =>
    intro z k k' l σ m hz hk hk' h hN hl
    obtain ⟨k, rfl⟩ : ∃ x, k = x + 1 := ⟨k - 1, by omega⟩
    obtain ⟨k', rfl⟩ : ∃ x, k' = x + 1 := ⟨k' - 1, by omega⟩
    obtain ⟨h48, h10, -⟩ := kIb_Z h
    rw [fX8_lapseSessions_2, nm_x, hN, if_pos (show nI Z ≤ nI z from (nI_le' (by omega) (by omega)).mpr (by omega)), fX9_pass_44, nm_x, h48, hN, if_pos (show nI Z ≤ nI z from (nI_le' (by omega) (by omega)).mpr (by omega))]
    exact ⟨σ, m, rfl, rfl, h, rfl, rfl⟩
  | succ d ih =>
    intro z k k' l σ m hz hk hk' h hN hl
    obtain ⟨k, rfl⟩ : ∃ x, k = x + 1 := ⟨k - 1, by omega⟩
    obtain ⟨k', rfl⟩ : ∃ x, k' = x + 1 := ⟨k' - 1, by omega⟩
    obtain ⟨h48, h10, hZ, T, Y, e14, e53, -⟩ := kIb_Z h
    have hzN : z < σ.2 0 0 := by omega
    have hz10 : z < 10 := by omega
    obtain ⟨q1, q2, q3, q4, q5, q6⟩ := hZ z hzN
    have hzn : ¬ nI Z ≤ nI z := fun w => by have := (nI_le' (by omega) (by omega)).mp w; omega
    rw [fX8_lapseSessions_2, fX9_pass_44]
    repeat rw [nm_x]
    rw [h48, hN, if_neg hzn, if_neg hzn, gnl_pos (by omega), inx_nI (by omega) (by omega), ix_nI (by omega)]
    unfold fX8_lapseSessions_54 fX9_pass_88
    repeat rw [nm_x]
    rw [gnl_pos (show z < Z by omega), gnl_pos (show z < Z by omega), q5, ldi_nI hz10 (by decide), nI_1]
    have skip : ∃ σ' m', fX8_lapseSessions_2 F k (nI (z + 1)) σ = some σ' ∧ fX9_pass_44 F k27 k' x1 x2 (nI (z + 1)) m = fX9_pass_96 F k27 F x1 x2 0 m' ∧ kIb n t (l + (d + 1)) σ' m' ∧ σ'.2 = σ.2 ∧ m'.1 0 0 57 = m.1 0 0 57 := by
      obtain ⟨σ', m', r1, r2, r3, r4, r5⟩ := ih (z + 1) k k' l σ m (by omega) (by omega) (by omega) h hN (by omega)
      obtain ⟨C, π, M, S, L, Z', Y', T', cmp, g1, g2, g3, g4, g5, g6, g7, g8, g9, g10⟩ := r3
      exact ⟨σ', m', r1, r2, ⟨C, π, M, S, L, Z', Y', T', cmp, g1, g2, g3, g4, g5, g6, g7, g8, by omega, g10⟩, r4, r5⟩
    by_cases c : m.1 135 0 z = 0
    · rw [if_pos c, if_pos c, gnl_pos (show z < Z by omega), gnl_pos (show z < Z by omega), ldi_nI hz10 (by decide)]
      repeat rw [nm_x]
      rw [ldi_nI hz10 (by decide), q3, q4, e14, e53]
      by_cases c2 : nI T - m.1 134 0 z < m.1 133 0 z
      · rw [if_pos c2, if_pos c2]
        exact skip
      · rw [if_neg c2, if_neg c2]
        obtain ⟨g, σ1, m1, r1, r2, r3, r4, r5⟩ := kI_stop (F := F) h h5 (by omega) hzN hF
        rw [r1, r2, bnd2_s, bnd2_s]
        obtain ⟨σ', m', s1, s2, s3, s4, s5⟩ := ih (z + 1) k k' (l + 1) σ1 m1 (by omega) (by omega) (by omega) r3 (by rw [r4]; exact hN) (by omega)
        refine ⟨σ', m', s1, s2, ?_, s4.trans r4, s5.trans r5⟩
        rw [show l + (d + 1) = l + 1 + d by omega]
        exact s3
    · rw [if_neg c, if_neg c]
      exact skip
theorem lap_l {n t Y : Nat} {k27 : Int32 → Int32 → qS → Option (Int32 × qS)} {x1 x2 : Int32} (h5 : n ≤ 512) (ht : t < 2 ^ 30) (hF : 100000 ≤ F) : ∀ (d i k k' l : Nat) (σ m : qS), i + d = Y → d < k → d < k' → kIb n t l σ m → σ.2 1 0 = Y → l + d < 2 ^ 30 → ∃ σ' m', fX8_lapseLeases_2 F k (nI i) σ = some σ' ∧ fX9_pass_96 F k27 k' x1 x2 (nI i) m = k27 x1 (x2 + 1) m' ∧ kIb n t (l + d) σ' m' ∧ σ'.2 = σ.2 ∧ m'.1 0 0 57 = m.1 0 0 57 := by
  intro d
  induction d with
  | zero =>
    intro i k k' l σ m hz hk hk' h hN hl
    obtain ⟨k, rfl⟩ : ∃ x, k = x + 1 := ⟨k - 1, by omega⟩
    obtain ⟨k', rfl⟩ : ∃ x, k' = x + 1 := ⟨k' - 1, by omega⟩
    obtain ⟨h48, h10, -, T, Y', e14, e53, e3, e4, e5, e6, e7⟩ := kIb_Z h
    obtain rfl : Y' = Y := by omega
    rw [fX8_lapseLeases_2, nm_x, hN, if_pos (show nI Y' ≤ nI i from (nI_le' (by omega) (by omega)).mpr (by omega)), fX9_pass_96, nm_x, e6, if_pos (show nI Y' ≤ nI i from (nI_le' (by omega) (by omega)).mpr (by omega)), nm_x]
    exact ⟨σ, m, rfl, rfl, h, rfl, rfl⟩
  | succ d ih =>
    intro i k k' l σ m hz hk hk' h hN hl
    obtain ⟨k, rfl⟩ : ∃ x, k = x + 1 := ⟨k - 1, by omega⟩
    obtain ⟨k', rfl⟩ : ∃ x, k' = x + 1 := ⟨k' - 1, by omega⟩
    obtain ⟨h48, h10, -, T, Y', e14, e53, e3, e4, e5, e6, e7⟩ := kIb_Z h
    obtain rfl : Y' = Y := by omega
    have hi10 : i < 10 := by omega
    have hiN : i < σ.2 1 0 := by omega
    obtain ⟨x, r, l1, l2, l3, l4, l5, l6, l7, l8, l9⟩ := e7 i (by omega)
    have hzn : ¬ nI Y' ≤ nI i := fun w => by have := (nI_le' (by omega) (by omega)).mp w; omega
    rw [fX8_lapseLeases_2, fX9_pass_96]
    repeat rw [nm_x]
    rw [e6, hN, if_neg hzn, if_neg hzn, gnl_pos (by omega), inx_nI (by omega) (by omega), ix_nI (by omega)]
    unfold fX8_lapseLeases_55 fX9_pass_148
    repeat rw [nm_x]
    rw [gnl_pos (show i < Y' by omega), gnl_pos (show i < Y' by omega), l8, ldi_nI hi10 (by decide), nI_1]
    have skip : ∃ σ' m', fX8_lapseLeases_2 F k (nI (i + 1)) σ = some σ' ∧ fX9_pass_96 F k27 k' x1 x2 (nI (i + 1)) m = k27 x1 (x2 + 1) m' ∧ kIb n t (l + (d + 1)) σ' m' ∧ σ'.2 = σ.2 ∧ m'.1 0 0 57 = m.1 0 0 57 := by
      obtain ⟨σ', m', r1, r2, r3, r4, r5⟩ := ih (i + 1) k k' l σ m (by omega) (by omega) (by omega) h hN (by omega)
      obtain ⟨C, π, M, S, L, Z', Y', T', cmp, g1, g2, g3, g4, g5, g6, g7, g8, g9, g10⟩ := r3
      exact ⟨σ', m', r1, r2, ⟨C, π, M, S, L, Z', Y', T', cmp, g1, g2, g3, g4, g5, g6, g7, g8, by omega, g10⟩, r4, r5⟩
    by_cases c : m.1 151 0 i = 0
    · rw [if_pos c, if_pos c, gnl_pos (show i < Y' by omega), ldi_nI hi10 (by decide)]
      repeat rw [nm_x]
      rw [ldi_nI hi10 (by decide), e14, e53, l5, l6, l7, nI_sub l3]
      by_cases c2 : T < r + x
      · rw [if_pos ((nI_lt' (by omega) (by omega)).mpr c2), if_pos (show nI (T - r) < nI x from (nI_lt' (by omega) (by omega)).mpr (by omega))]
        exact skip
      · rw [if_neg (fun w => c2 ((nI_lt' (by omega) (by omega)).mp w)), if_neg (show ¬ nI (T - r) < nI x from fun w => by have := (nI_lt' (by omega) (by omega)).mp w; omega), gnl_pos (show i < Y' by omega), gbl_1, inx_nI hi10 (by decide)]
        obtain ⟨g, σ1, m1, r1, r2, r3, r4, r5⟩ := kI_ends (F := F) (what := 2) (which := i) (kI_lend h (by omega) hiN) h5 (by omega) (Or.inr rfl) hF
        rw [show fX9_ends F 2 (nI i) (qI m 151 0 i 1) = some (g, m1) from r2, show fX8_letHeldGo F 2 (nI i) (qI σ 57 i 2 1) = some (g, σ1) from r1, bnd2_s, bnd2_s, nm_x, nm_x]
        obtain ⟨σ', m', s1, s2, s3, s4, s5⟩ := ih (i + 1) k k' (l + 1) σ1 m1 (by omega) (by omega) (by omega) r3 (by rw [r4]; exact hN) (by omega)
        refine ⟨σ', m', s1, s2, ?_, s4.trans r4, s5.trans (r5.trans (by rw [qI_ap, if_neg (by omega)]))⟩
        rw [show l + (d + 1) = l + 1 + d by omega]
        exact s3
    · rw [if_neg c, if_neg c]
      exact skip
theorem pas_l {n a : Nat} (h5 : n ≤ 512) (ha : a ≤ 50) (hF : 100000 ≤ F) : ∀ (d j k k' t l : Nat) (σ m : qS), j + d = a → d < k → d < k' → kIb n t l σ m → t + d < 2 ^ 30 → l + 20 * d < 2 ^ 30 → ∃ v σ' m', fX8_pass_22 F k (nI a) (nI j) σ = some (v, 0, σ') ∧ fX9_pass_27 F k' (nI a) (nI j) m = some (v, m') ∧ kIb n (t + d) (l + 20 * d) σ' m' ∧ σ'.2 = σ.2 ∧ m'.1 0 0 57 = m.1 0 0 57 := by
  intro d
  induction d with
  | zero =>
    intro j k k' t l σ m hz hk hk' h ht hl
    obtain ⟨k, rfl⟩ : ∃ x, k = x + 1 := ⟨k - 1, by omega⟩
    obtain ⟨k', rfl⟩ : ∃ x, k' = x + 1 := ⟨k' - 1, by omega⟩
    obtain ⟨h48, h10, -, T, Y, e14, e53, -⟩ := kIb_Z h
    rw [fX8_pass_22, if_pos (show nI a ≤ nI j from (nI_le' (by omega) (by omega)).mpr (by omega)), fX9_pass_27, if_pos (show nI a ≤ nI j from (nI_le' (by omega) (by omega)).mpr (by omega)), nm_x, nm_x, e14, e53]
    exact ⟨nI T, σ, m, rfl, rfl, h, rfl, rfl⟩
  | succ d ih =>
    intro j k k' t l σ m hz hk hk' h ht hl
    obtain ⟨k, rfl⟩ : ∃ x, k = x + 1 := ⟨k - 1, by omega⟩
    obtain ⟨k', rfl⟩ : ∃ x, k' = x + 1 := ⟨k' - 1, by omega⟩
    rw [fX8_pass_22, if_neg (show ¬ nI a ≤ nI j from fun w => by have := (nI_le' (by omega) (by omega)).mp w; omega), fX9_pass_27, if_neg (show ¬ nI a ≤ nI j from fun w => by have := (nI_le' (by omega) (by omega)).mp w; omega)]
    repeat rw [nm_x]
    have h1 := kI_tick h (by omega)
    obtain ⟨h48, h10, -, T, Y, e14, e53, e3, e4, e5, e6, e7⟩ := kIb_Z h1
    have h10' : σ.2 0 0 ≤ 10 := h10
    obtain ⟨σ1, m1, a1, a2, a3, a4, a5⟩ := lap_s (F := F) (Z := σ.2 0 0) (k27 := fX9_pass_27 F k') (x1 := nI a) (x2 := nI j) h5 hF (σ.2 0 0) 0 F F l _ _ (Nat.zero_add _) (by omega) (by omega) h1 rfl (by omega)
    obtain ⟨σ2, m2, b1, b2, b3, b4, b5⟩ := lap_l (F := F) (Y := Y) (k27 := fX9_pass_27 F k') (x1 := nI a) (x2 := nI j) h5 (by omega) hF Y 0 F F (l + σ.2 0 0) σ1 m1 (Nat.zero_add _) (by omega) (by omega) a3 (by rw [a4]; exact e4) (by omega)
    unfold fX8_lapseSessions fX8_lapseLeases
    rw [show fX8_lapseSessions_2 F F 0 (qI σ 0 0 14 (σ.1 0 0 14 + 1)) = some σ1 from a1, bnd_s, show fX8_lapseLeases_2 F F 0 σ1 = some σ2 from b1, bnd_s, nm_x, show fX9_pass_44 F (fX9_pass_27 F k') F (nI a) (nI j) 0 (qI m 0 0 53 (m.1 0 0 53 + 1)) = fX9_pass_96 F (fX9_pass_27 F k') F (nI a) (nI j) 0 m1 from a2, show fX9_pass_96 F (fX9_pass_27 F k') F (nI a) (nI j) 0 m1 = fX9_pass_27 F k' (nI a) (nI j + 1) m2 from b2, nI_1]
    have b3' : kIb n (t + 1) (l + 20) σ2 m2 := by
      obtain ⟨C, π, M, S, L, Z', Y', T', cmp, g1, g2, g3, g4, g5, g6, g7, g8, g9, g10⟩ := b3
      exact ⟨C, π, M, S, L, Z', Y', T', cmp, g1, g2, g3, g4, g5, g6, g7, g8, by omega, g10⟩
    obtain ⟨v, σ', m', c1, c2, c3, c4, c5⟩ := ih (j + 1) k k' (t + 1) (l + 20) σ2 m2 (by omega) (by omega) (by omega) b3' (by omega) (by omega)
    refine ⟨v, σ', m', c1, c2, ?_, c4.trans (b4.trans a4), c5.trans (b5.trans (a5.trans (by rw [qI_ap, if_neg (by omega)])))⟩
    rw [show t + (d + 1) = t + 1 + d by omega, show l + 20 * (d + 1) = l + 20 + 20 * d by omega]
    exact c3
theorem c_pass (hF : 100000 ≤ F) : cI_pass F kI phi := by
  intro n σ m p hn h
  have h7 := kI_57 (v := 0) h (by omega)
  unfold fX8_pass fX9_pass
  rw [e_isWithin, bnd2_s, e_in, bnd2_s]
  by_cases c : ¬ p < 1 ∧ ¬ 50 < p
  · obtain ⟨a, a1, a2, rfl⟩ := (in_rng (a := 1) (b := 50) (by decide) (by decide)).mpr c
    rw [b2_t c, if_neg (show ¬ (1 : Int32) = 0 by decide), if_neg (show ¬ (1 : Int32) = 0 by decide)]
    unfold fX9_pass_17
    obtain ⟨v, σ', m', c1, c2, c3, c4, c5⟩ := pas_l (F := F) (a := a) (by omega) a2 hF a 0 F F (50 * n) (2000 * n) σ _ (by omega) (by omega) (by omega) (kI_b h7) (by omega) (by omega)
    rw [e_h0, bnd2_s, if_pos rfl, show fX8_pass_22 F F (nI a) 0 σ = some (v, 0, σ') from c1, show fX9_pass_27 F F (nI a) 0 (qI m 0 0 57 0) = some (v, m') from c2]
    exact lC_o rfl (kIb_I c3 (by omega) (by omega) (by omega)) (by rw [c5, qI_ap, if_pos ⟨rfl, rfl, rfl⟩]) (by rw [phi_N c4]; omega)
  · rw [b2_f c, if_pos rfl, if_pos rfl]
    unfold fX9_pass_17
    rw [e_h1 (by decide), bnd2_s, if_neg (show ¬ (1 : Int32) = 0 by decide)]
    exact lC_t rfl (by decide) h (by omega) rfl rfl
end PA

/-! PURE: calls that change little, in both -/
theorem kR_sl {σ m σ' m' : qS} {Z Y T cmp cmp' : Nat} (h : kR σ m Z Y T cmp) (hN : σ'.2 = σ.2) (o : ∀ f j k, ¬ (f = 0 ∧ j = 0 ∧ k ≠ 14) → σ'.1 f j k = σ.1 f j k) (p : ∀ f q, ¬ (f = 0 ∧ q ≠ 52 ∧ q ≠ 53) → m'.1 f 0 q = m.1 f 0 q) (hs : σ'.1 0 0 18 = m'.1 0 0 55 ∧ σ'.1 0 0 19 = m'.1 0 0 56 ∧ σ'.1 0 0 16 = nI cmp' ∧ m'.1 0 0 28 = nI cmp') : kR σ' m' Z Y T cmp' := by
  obtain ⟨⟨a1, a2, a3, a4, a5, a6, a7⟩, b, c, d, e, f, g⟩ := h
  exact ⟨⟨by rw [hN]; exact a1, a2, by rw [hN]; exact a3, a4, by rw [p 0 52 (by omega)]; exact a5, by rw [o 0 0 14 (by omega)]; exact a6, by rw [p 0 53 (by omega)]; exact a7⟩, fun z hz => kZ_fr (b z hz) (fun f k w => o f z k (by omega)) (fun a _ _ => by funext k; exact o 56 a k (by omega)) (fun f w => p f z (by omega)) (fun q _ _ => p 138 q (by omega)) (fun q _ _ => p 139 q (by omega)), fun l hl => kLz_fr (c l hl) (fun k _ => o 57 l k (by omega)) (fun f w1 w2 => p f l (by omega)) (Nat.le_refl _), kFr_fr d (fun f z w1 w2 w3 => p f z (by omega)) (fun q _ => p 147 q (by omega)) (fun l _ _ => p 151 l (by omega)), kBl_fr e (fun k => o 15 0 k (by omega)) (fun q => p 147 q (by omega)), hs, by rw [hN]; exact g⟩
/-- slots of the two objects change -/
theorem kI_sl {n : Nat} {σ m σ' m' : qS} (h : kI n σ m) (h5 : n ≤ 600) (hN : σ'.2 = σ.2) (o : ∀ f j k, ¬ (f = 0 ∧ j = 0 ∧ (k = 16 ∨ k = 17 ∨ k = 18 ∨ k = 19)) → σ'.1 f j k = σ.1 f j k) (p : ∀ f q, ¬ (f = 0 ∧ (q = 28 ∨ (54 ≤ q ∧ q ≤ 57))) → m'.1 f 0 q = m.1 f 0 q) (hlo : kLo σ m → kLo σ' m') (hs : ∀ L cmp, σ.1 0 0 15 = nI L → cmp ≤ L → L ≤ 2000 * n → σ.1 0 0 18 = m.1 0 0 55 ∧ σ.1 0 0 19 = m.1 0 0 56 ∧ σ.1 0 0 16 = nI cmp ∧ m.1 0 0 28 = nI cmp → ∃ cmp', cmp ≤ cmp' ∧ cmp' ≤ L ∧ σ'.1 0 0 18 = m'.1 0 0 55 ∧ σ'.1 0 0 19 = m'.1 0 0 56 ∧ σ'.1 0 0 16 = nI cmp' ∧ m'.1 0 0 28 = nI cmp') : kI n σ' m' := by
  refine kI_re h ⟨by rw [hN], by rw [hN], by rw [hN]⟩ (fun f j k w => o f j k (by omega)) (fun f q w => p f q (by omega)) (Nat.le_refl _) h5 (fun L Z Y T cmp hL _ hLn hcL hT hR hl => ?_)
  obtain ⟨cmp', c1, c2, c3⟩ := hs L cmp hL hcL hLn hR.2.2.2.2.2.1
  refine ⟨Y, T, cmp', kR_sl hR hN (fun f j k w => o f j k (by omega)) (fun f q w => p f q (by omega)) c3, hlo hl, hT, c1, c2, ?_⟩
  rw [pnd_congr (fun z _ => pnC_congr (p 136 z (by omega)) (p 137 z (by omega)))]
  exact Nat.le_refl _
theorem kI_sq {n : Nat} {σ m σ' : qS} (h : kI n σ m) (h5 : n ≤ 600) (e : sq σ σ') : kI n σ' m := by
  have o : ∀ f j k, f ≠ 38 → f ≠ 39 → σ'.1 f j k = σ.1 f j k := fun f j k w1 w2 => by rw [e.2 f j w1 w2]
  refine kI_re h ⟨by rw [e.1], by rw [e.1], by rw [e.1]⟩ (fun f j k w => o f j k (by omega) (by omega)) (fun _ _ _ => rfl) (Nat.le_refl _) h5 (fun L Z Y T cmp hL _ hLn hcL hT hR hl => ⟨Y, T, cmp, kR_fr (R := 0) hR ⟨e.1, fun f j k w => o f j k (by omega) (by omega)⟩ frV_rf, kLo_fr hl (o 0 0 17 (by omega) (by omega)) rfl, hT, Nat.le_refl _, hcL, Nat.le_refl _⟩)
theorem lsM_o {m : qS} {z f q : Nat} (h : ¬ (f = 134 ∧ q = z)) (h2 : ¬ (f = 0 ∧ q = 57)) : (lsM m z).1 f 0 q = m.1 f 0 q := by
  unfold lsM
  rw [qI_ap, if_neg (by omega), qI_ap, if_neg (by omega)]
theorem lsC_o {σ : qS} {z f j k : Nat} (h : ¬ (f = 50 ∧ j = z ∧ k = 9)) : (lsC σ z).1 f j k = σ.1 f j k := by
  unfold lsC
  rw [qI_ap, if_neg h]
theorem kI_srv {n z : Nat} {σ m : qS} (h : kI n σ m) (hz : z < σ.2 0 0) (hl : m.1 135 0 z = 0) : σ.2 2 z < 3 ∧ m.1 132 0 z = nI (σ.2 2 z) ∧ σ.1 8 (σ.2 2 z) 1 = m.1 130 0 (σ.2 2 z) := by
  obtain ⟨C, π, M, S, L, Z, Y, T, cmp, hk, hR0, -⟩ := h
  obtain ⟨q1, q2, q3⟩ := hk.2.2.2.1 z (by rw [← hR0.1.1]; exact hz) hl
  obtain ⟨v1, v2, v3, v4, v5⟩ := hk.2.1 _ q1
  exact ⟨q1, q2, by rw [v2, v4]⟩
section SI
variable {F : Nat}
theorem c_ping (hF : 100000 ≤ F) : cI_ping F kI phi := by
  intro n σ m p hn h
  obtain ⟨h48, h10, hZ⟩ := kI_Z h
  unfold fX8_ping fX9_ping
  by_cases hp : ∃ z, z < σ.2 0 0 ∧ p = nI z
  · obtain ⟨z, hz, rfl⟩ := hp
    rw [e_known1 hz h10, bnd3_s0, e_ses1 h48 hz h10, bnd2_s, if_neg (show ¬ (1 : Int32) = 0 by decide)]
    unfold fX9_ping_26
    rcases wk (F := F) h (by omega) hz (by omega) with ⟨s1, m1, w1, w2, w3, w4, w5⟩ | ⟨w1, w2, w3, w4, w5, w6, w7, w8⟩
    · rw [w2, bnd3_se (by decide), w3, bnd2_s, if_neg (show ¬ (1 : Int32) = 0 by decide), e_h1 (by decide), bnd2_s, if_neg (show ¬ (1 : Int32) = 0 by decide)]
      exact lC_t rfl (by decide) w4 (by omega) w5 rfl
    · obtain ⟨s1, s2, s3⟩ := kI_srv w6 hz (by rw [lsM_o (by omega) (by omega)]; exact w4)
      have hz10 : z < 10 := by omega
      rw [w2, bnd3_s0, w3, bnd2_s, if_pos rfl, e_h0, bnd2_s, if_pos rfl, w5, bnd_s, gnl_pos (show z < (lsC σ z).2 0 0 from hz), nm_x, gnl_pos s1, nm_x, ldi_nI hz10 (by decide), s2, ldi_nI s1 (by decide), s3]
      exact lC_o rfl (kI_mono w6 (Nat.le_succ n)) ls57 (by rw [phi_N (show (lsC σ z).2 = σ.2 from rfl)]; omega)
  · rw [e_known0 h10 hp, bnd3_se (by decide), e_ses0 h48 h10 hp, bnd2_s, if_pos rfl]
    unfold fX9_ping_26
    rw [e_h1 (by decide), bnd2_s, if_neg (show ¬ (1 : Int32) = 0 by decide)]
    exact lC_t rfl (by decide) h (by omega) rfl rfl
theorem c_changes (hF : 100000 ≤ F) : cI_changes F kI phi := by
  intro n σ m hn h
  unfold fX8_changes fX9_changes
  rw [e_h0, bnd2_s, nm_x, nm_x]
  have e : (qI m 0 0 57 0).1 0 0 26 = σ.1 0 0 15 := by
    rw [qI_ap, if_neg (by omega)]
    obtain ⟨C, π, M, S, L, Z, Y, T, cmp, hk, hR0, -⟩ := h
    rw [hk.2.2.2.2.2.2.2.2.1, hk.2.2.2.2.2.2.2.2.2.1]
  rw [e]
  exact ⟨_, _, _, rfl, rfl, kI_mono (kI_57 h (by omega)) (Nat.le_succ n), Nat.le_refl _⟩
theorem c_stored (hF : 100000 ≤ F) : cI_stored F kI phi := by
  intro n σ m hn h
  unfold fX8_stored fX9_stored
  rw [e_h0, bnd2_s, nm_x, nm_x]
  have e : (qI m 0 0 57 0).1 0 0 56 = σ.1 0 0 19 := by
    rw [qI_ap, if_neg (by omega)]
    obtain ⟨C, π, M, S, L, Z, Y, T, cmp, hk, hR0, -⟩ := h
    exact hR0.2.2.2.2.2.1.2.1.symm
  rw [e]
  exact ⟨_, _, _, rfl, rfl, kI_mono (kI_57 h (by omega)) (Nat.le_succ n), Nat.le_refl _⟩
theorem c_store (hF : 100000 ≤ F) : cI_store F kI phi := by
  intro n σ m p v hn h
  unfold fX8_store fX9_store
  rw [e_isWithin, bnd2_s, e_in, bnd2_s]
  by_cases c : ¬ p < 0 ∧ ¬ 10000 < p
  · rw [b2_t c, if_neg (show ¬ (1 : Int32) = 0 by decide), if_neg (show ¬ (1 : Int32) = 0 by decide)]
    unfold fX9_store_18 fX9_store_32
    have h7 := kI_57 (v := 0) h (by omega)
    rw [e_h0, bnd2_s, if_pos rfl]
    repeat rw [nm_x]
    have e : (qI m 0 0 57 0).1 0 0 55 = σ.1 0 0 18 := by
      rw [qI_ap, if_neg (by omega)]
      obtain ⟨C, π, M, S, L, Z, Y, T, cmp, hk, hR0, -⟩ := h
      exact hR0.2.2.2.2.2.1.1.symm
    rw [e]
    by_cases c2 : σ.1 0 0 18 ≤ p
    · rw [if_pos c2, if_pos c2, gbl_1, gbl_1]
      refine lC_o rfl (kI_mono (kI_sl h7 (by omega) rfl (fun f j k w => by rw [qI_ap, if_neg (by omega), qI_ap, if_neg (by omega)]) (fun f q w => by rw [qI_ap, if_neg (by omega), qI_ap, if_neg (by omega)]) (fun q => kLo_fr q (by rw [qI_ap, if_neg (by omega), qI_ap, if_neg (by omega)]) (by rw [qI_ap, if_neg (by omega), qI_ap, if_neg (by omega)])) (fun L cmp _ hcL _ q => ⟨cmp, Nat.le_refl _, hcL, by rw [qI_ap, if_neg (by omega), qI_ap, if_pos ⟨rfl, rfl, rfl⟩, qI_ap, if_neg (by omega), qI_ap, if_pos ⟨rfl, rfl, rfl⟩], by rw [qI_ap, if_pos ⟨rfl, rfl, rfl⟩, qI_ap, if_pos ⟨rfl, rfl, rfl⟩], by rw [qI_ap, if_neg (by omega), qI_ap, if_neg (by omega)]; exact q.2.2.1, by rw [qI_ap, if_neg (by omega), qI_ap, if_neg (by omega)]; exact q.2.2.2⟩)) (Nat.le_succ n)) ?_ (by rw [phi_N (show (qI (qI σ 0 0 18 p) 0 0 19 v).2 = σ.2 from rfl)]; omega)
      rw [qI_ap, if_neg (by omega), qI_ap, if_neg (by omega), qI_ap, if_pos ⟨rfl, rfl, rfl⟩]
    · rw [if_neg c2, if_neg c2, gbl_0, gbl_0]
      exact lC_o rfl (kI_mono h7 (Nat.le_succ n)) (by rw [qI_ap, if_pos ⟨rfl, rfl, rfl⟩]) (by omega)
  · rw [b2_f c, if_pos rfl, if_pos rfl]
    unfold fX9_store_18 fX9_store_32
    rw [e_h1 (by decide), bnd2_s, if_neg (show ¬ (1 : Int32) = 0 by decide), gbl_0]
    exact lC_t rfl (by decide) h (by omega) rfl rfl
theorem c_lose (hF : 100000 ≤ F) : cI_lose F kI phi := by
  intro n σ m p hn h hp
  unfold fX8_lose fX9_lose fX8_lose_10 fX9_lose_16
  have h7 := kI_57 (v := 0) h (by omega)
  rw [e_h0, bnd2_s]
  have key : ∀ a b : Int32, (a = 2 ∧ b = 1) ∨ (a = 1 ∧ b = 2) → kI (n + 1) (qI σ 0 0 17 a) (qI (qI m 0 0 57 0) 0 0 54 b) := fun a b hab => kI_mono (kI_sl h7 (by omega) rfl (fun f j k w => by rw [qI_ap, if_neg (by omega)]) (fun f q w => by rw [qI_ap, if_neg (by omega)]) (fun _ => by
    unfold kLo
    rw [qI_ap, if_pos ⟨rfl, rfl, rfl⟩, qI_ap, if_pos ⟨rfl, rfl, rfl⟩]
    rcases hab with q | q
    · exact Or.inr (Or.inr q)
    · exact Or.inr (Or.inl q)) (fun L cmp _ hcL _ q => ⟨cmp, Nat.le_refl _, hcL, by rw [qI_ap, if_neg (by omega), qI_ap, if_neg (by omega)]; exact q.1, by rw [qI_ap, if_neg (by omega), qI_ap, if_neg (by omega)]; exact q.2.1, by rw [qI_ap, if_neg (by omega)]; exact q.2.2.1, by rw [qI_ap, if_neg (by omega)]; exact q.2.2.2⟩)) (Nat.le_succ n)
  by_cases c : p = 0
  · rw [if_pos c, if_pos c]
    exact ⟨_, _, rfl, rfl, key _ _ (Or.inl ⟨rfl, rfl⟩), Nat.le_refl _⟩
  · rw [if_neg c, if_neg c]
    exact ⟨_, _, rfl, rfl, key _ _ (Or.inr ⟨rfl, rfl⟩), Nat.le_refl _⟩
theorem kI_L {n : Nat} {σ m : qS} (h : kI n σ m) : ∃ L cmp, σ.1 0 0 15 = nI L ∧ m.1 0 0 26 = nI L ∧ L ≤ 2000 * n ∧ cmp ≤ L ∧ σ.1 0 0 16 = nI cmp ∧ m.1 0 0 28 = nI cmp := by
  obtain ⟨C, π, M, S, L, Z, Y, T, cmp, hk, hR0, hlo, h6, hK, hP, hcL, hT, hLn, -⟩ := h
  exact ⟨L, cmp, hk.2.2.2.2.2.2.2.2.1, hk.2.2.2.2.2.2.2.2.2.1, hLn, hcL, hR0.2.2.2.2.2.1.2.2⟩
theorem c_compact (hF : 100000 ≤ F) : cI_compact F kI phi := by
  intro n σ m p hn h
  obtain ⟨L, cmp, e1, e2, hLn, hcL, e3, e4⟩ := kI_L h
  have h7 := kI_57 (v := 0) h (by omega)
  unfold fX8_compact fX9_compact fX8_mustBeChange
  repeat rw [nm_x]
  rw [e_isWithin, bnd2_s, e_in, bnd2_s, e1, e2]
  by_cases c : ¬ p < 0 ∧ ¬ nI L < p
  · obtain ⟨a, ha, rfl⟩ := nI_of c.1
    have haL : a ≤ L := by
      have : ¬ L < a := fun q => c.2 ((nI_lt' (by omega) ha).mpr q)
      omega
    rw [b2_t c, if_neg (show ¬ (1 : Int32) = 0 by decide), if_neg (show ¬ (1 : Int32) = 0 by decide), bnd3_s0]
    unfold fX9_compact_19 fX9_compact_44
    repeat rw [nm_x]
    rw [e_h0, bnd2_s, if_pos rfl]
    repeat rw [nm_x]
    rw [show (qI m 0 0 57 0).1 0 0 28 = nI cmp from by rw [qI_ap, if_neg (by omega)]; exact e4, e3]
    have key : kI (n + 1) (qI σ 0 0 16 (nI (max cmp a))) (qI (qI m 0 0 57 0) 0 0 28 (nI (max cmp a))) := kI_mono (kI_sl h7 (by omega) rfl (fun f j k w => by rw [qI_ap, if_neg (by omega)]) (fun f q w => by rw [qI_ap, if_neg (by omega)]) (fun q => kLo_fr q (by rw [qI_ap, if_neg (by omega)]) (by rw [qI_ap, if_neg (by omega)])) (fun L' cmp' hL' hcL' hLn' q => by
      have z1 : L' = L := nI_inj (by omega) (by omega) (hL'.symm.trans e1)
      have z2 : cmp' = cmp := nI_inj (by omega) (by omega) (q.2.2.1.symm.trans e3)
      exact ⟨max cmp a, by omega, by omega, by rw [qI_ap, if_neg (by omega), qI_ap, if_neg (by omega)]; exact q.1, by rw [qI_ap, if_neg (by omega), qI_ap, if_neg (by omega)]; exact q.2.1, by rw [qI_ap, if_pos ⟨rfl, rfl, rfl⟩], by rw [qI_ap, if_pos ⟨rfl, rfl, rfl⟩]⟩)) (Nat.le_succ n)
    have v1 : (if nI cmp < nI a then nI a else nI cmp) = nI (max cmp a) := by
      by_cases d : cmp < a
      · rw [if_pos ((nI_lt' (by omega) ha).mpr d), Nat.max_eq_right (by omega)]
      · rw [if_neg (fun q => d ((nI_lt' (by omega) ha).mp q)), Nat.max_eq_left (by omega)]
    rw [v1]
    have out : ∀ x, x = nI (max cmp a) → lC F kI phi (fun e => if e = 0 then 0 else if e = 2 then 1 else 0) n σ (some ((qI σ 0 0 16 (nI (max cmp a))).1 0 0 16, 0, qI σ 0 0 16 (nI (max cmp a)))) (some ((qI (qI m 0 0 57 0) 0 0 28 x).1 0 0 28, qI (qI m 0 0 57 0) 0 0 28 x)) (fun _ => 0) := fun x hx => by
      subst hx
      rw [show (qI σ 0 0 16 (nI (max cmp a))).1 0 0 16 = nI (max cmp a) from by rw [qI_ap, if_pos ⟨rfl, rfl, rfl⟩], show (qI (qI m 0 0 57 0) 0 0 28 (nI (max cmp a))).1 0 0 28 = nI (max cmp a) from by rw [qI_ap, if_pos ⟨rfl, rfl, rfl⟩]]
      exact lC_o rfl key (by rw [qI_ap, if_neg (by omega), qI_ap, if_pos ⟨rfl, rfl, rfl⟩]) (by rw [phi_N (show (qI σ 0 0 16 (nI (max cmp a))).2 = σ.2 from rfl)]; omega)
    by_cases d : a ≤ cmp
    · rw [if_pos ((nI_le' ha (by omega)).mpr d)]
      exact out _ (by rw [Nat.max_eq_left d])
    · rw [if_neg (fun q => d ((nI_le' ha (by omega)).mp q))]
      exact out _ (by rw [Nat.max_eq_right (by omega)])
  · rw [b2_f c, if_pos rfl, if_pos rfl, bnd3_se (by decide)]
    unfold fX9_compact_19
    rw [e_h1 (by decide), bnd2_s, if_neg (show ¬ (1 : Int32) = 0 by decide)]
    exact lC_t rfl (by decide) h (by omega) rfl rfl
theorem e_believers9_l {m : qS} {a Z : Nat} (ha : a < 80) (hZ : Z ≤ 10) (h48 : m.1 0 0 48 = nI Z) : ∀ (d t n : Nat) (x : Int32), t + d = Z → d < n → (∀ i, i < 32 → tbI x i = decide (i < t ∧ m.1 147 0 (80 * i + a) = 1)) → ∃ r, fX9_believers_10 F n (nI a) x (nI t) m = some (r, m) ∧ ∀ i, i < 32 → tbI r i = decide (i < Z ∧ m.1 147 0 (80 * i + a) = 1) := by
  intro d
  induction d with
  | zero =>
    intro t n x ht hn hx
    obtain ⟨n, rfl⟩ : ∃ k, n = k + 1 := ⟨n - 1, by omega⟩
    obtain rfl : t = Z := by omega
    rw [fX9_believers_10, nm_x, h48, if_pos (Int32.le_refl _)]
    exact ⟨x, rfl, hx⟩
  | succ d ih =>
    intro t n x ht hn hx
    obtain ⟨n, rfl⟩ : ∃ k, n = k + 1 := ⟨n - 1, by omega⟩
    rw [fX9_believers_10, nm_x, h48, if_neg (fun q => by have := (nI_le' (by omega) (by omega)).mp q; omega), e_in, bnd2_s, b2_t ⟨nI_nn (by omega), fun q => by have := (nI_lt' (a := 79) (by decide) (by omega)).mp q; omega⟩, if_neg (show ¬ (1 : Int32) = 0 by decide)]
    repeat rw [nm_x]
    rw [nI_80, ldi_nI (by omega) (by decide)]
    unfold fX9_believers_52
    by_cases c : m.1 147 0 (80 * t + a) = 1
    · rw [if_pos c]
      repeat rw [nm_x]
      rw [nI_1]
      refine ih (t + 1) n _ (by omega) (by omega) (fun i hi => ?_)
      rw [tb_or, tb_sh t (by omega) i hi, hx i hi]
      by_cases e : i = t
      · subst e; simp [c]
      · have e2 : (i < t + 1) = (i < t) := propext ⟨fun _ => by omega, fun _ => by omega⟩
        simp [e, e2]
    · rw [if_neg c]
      repeat rw [nm_x]
      rw [nI_1]
      refine ih (t + 1) n _ (by omega) (by omega) (fun i hi => ?_)
      rw [tb_or, tb_0 i hi, hx i hi]
      by_cases e : i = t
      · subst e; simp [c]
      · have e2 : (i < t + 1) = (i < t) := propext ⟨fun _ => by omega, fun _ => by omega⟩
        simp [e2]
theorem c_believers (hF : 100000 ≤ F) : cI_believers F kI phi := by
  intro n σ m p hn h
  have h7 := kI_57 (v := 0) h (by omega)
  obtain ⟨h48, h10, hZ⟩ := kI_Z h7
  unfold fX8_believers fX9_believers fX8_believers_20
  rw [e_h0, bnd2_s, e_isWithin, bnd2_s]
  by_cases c : ¬ p < 0 ∧ ¬ 79 < p
  · have c8 : ¬ p < 0 ∧ ¬ 80 ≤ p := ⟨c.1, fun q => c.2 (Int32.lt_of_lt_of_le (by decide) q)⟩
    obtain ⟨a, ha, h31, rfl⟩ := in_ex (vp_in_80.mpr c8)
    rw [b2_t c, if_neg (show ¬ (1 : Int32) = 0 by decide), ldi_nI ha i80']
    obtain ⟨r, r1, r2⟩ := e_believers9_l (F := F) ha h10 h48 (σ.2 0 0) 0 F 0 (by omega) (by omega) (fun i hi => by rw [tb_0 i hi]; simp)
    have e : σ.1 15 0 a = r := by
      refine tb_ext (fun i hi => ?_)
      rw [r2 i hi]
      obtain ⟨C, π, M, S, L, Z, Y, T, cmp, hk, hR0, -⟩ := h7
      rw [hR0.1.1]
      exact hR0.2.2.2.2.1 a ha i hi
    rw [show (0 : Int32) = nI 0 from rfl] at r1
    rw [show (0 : Int32) = nI 0 from rfl, r1, e]
    exact ⟨_, _, _, rfl, rfl, kI_mono h7 (Nat.le_succ n), Nat.le_refl _⟩
  · rw [b2_f c, if_pos rfl]
    obtain ⟨k, rfl⟩ : ∃ k, F = k + 1 := ⟨F - 1, by omega⟩
    have e : fX9_believers_10 (k + 1) (k + 1) p 0 0 (qI m 0 0 57 0) = some (0, qI m 0 0 57 0) := by
      rw [fX9_believers_10, nm_x]
      unfold fX9_believers_60
      rw [e_in, bnd2_s, b2_f c, if_pos rfl, ite_self]
    rw [e]
    exact ⟨_, _, _, rfl, rfl, kI_mono h7 (Nat.le_succ n), Nat.le_refl _⟩
theorem c_answer (hF : 100000 ≤ F) : cI_answer F kI phi := by
  intro n σ m p q hn h
  obtain ⟨h48, h10, hZ⟩ := kI_Z h
  have h7 := kI_57 (v := 0) h (by omega)
  unfold fX8_answer fX9_answer fX9_answer_17 fX9_answer_18 fX8_answer_44 fX8_answer_46 fX9_answer_52
  have thr : lC F kI phi (fun e => if e = 0 then 0 else if e = 1 then 1 else 0) n σ (some (0, 1, σ)) (some (-1, qI m 0 0 57 1)) (fun _ => 0) := lC_t rfl (by decide) h (by omega) rfl rfl
  by_cases hp : ∃ z, z < σ.2 0 0 ∧ p = nI z
  · obtain ⟨z, hz, rfl⟩ := hp
    rw [e_known1 hz h10, bnd3_s0, e_ses1 h48 hz h10, bnd2_s, if_neg (show ¬ (1 : Int32) = 0 by decide)]
    by_cases c : q < 0
    · rw [if_neg (Int32.not_le.mpr c), if_pos c, e_h1 (by decide), bnd2_s, if_neg (show ¬ (1 : Int32) = 0 by decide)]
      exact thr
    · obtain ⟨b, hb, rfl⟩ := nI_of c
      obtain ⟨b1, ⟨a, a6, a1, a2, a3⟩, b3⟩ := hZ z hz
      have hz10 : z < 10 := by omega
      rw [if_pos (Int32.not_lt.mp c), if_neg c, gnl_pos hz, nm_x, e_h0, bnd2_s, if_pos rfl, ldi_nI hz10 (by decide), show (qI m 0 0 57 0).1 140 0 z = m.1 140 0 z from by rw [qI_ap, if_neg (by omega)], a1, a2]
      have fin : ∀ v, lC F kI phi (fun e => if e = 0 then 0 else if e = 1 then 1 else 0) n σ (some (v, 0, σ)) (some (v, qI m 0 0 57 0)) (fun _ => 0) := fun v => lC_o rfl (kI_mono h7 (Nat.le_succ n)) (by rw [qI_ap, if_pos ⟨rfl, rfl, rfl⟩]) (by omega)
      by_cases d : a ≤ b
      · rw [if_pos ((nI_le' (by omega) hb).mpr d), if_pos ((nI_le' (by omega) hb).mpr d)]
        exact fin _
      · rw [if_neg (fun w => d ((nI_le' (by omega) hb).mp w)), if_neg (fun w => d ((nI_le' (by omega) hb).mp w)), if_neg (show ¬ (6 : Int32) ≤ nI b from fun w => by have := (nI_le' (a := 6) (by decide) hb).mp w; omega), gnl_pos hz, gnl_pos hz, ldi_nI (show b < 6 by omega) (by decide), a3 b (by omega)]
        repeat rw [nm_x]
        rw [show (6 : Int32) * nI z + nI b = nI (6 * z + b) from by rw [show (6 : Int32) = nI 6 from rfl, nI_mul, nI_add], ldi_nI (by omega) (by decide), show (qI m 0 0 57 0).1 139 0 (6 * z + b) = m.1 139 0 (6 * z + b) from by rw [qI_ap, if_neg (by omega)]]
        exact fin _
  · rw [e_known0 h10 hp, bnd3_se (by decide), e_ses0 h48 h10 hp, bnd2_s, if_pos rfl, e_h1 (by decide), bnd2_s, if_neg (show ¬ (1 : Int32) = 0 by decide)]
    exact thr
end SI

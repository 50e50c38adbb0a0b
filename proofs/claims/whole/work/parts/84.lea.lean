/-! PURE: leases, sessions that are opened, gathering, quotas, in both -/
theorem kI_T {n : Nat} {σ m : qS} (h : kI n σ m) : ∃ T Y, σ.1 0 0 14 = nI T ∧ m.1 0 0 53 = nI T ∧ T ≤ 50 * n ∧ σ.2 1 0 = Y ∧ Y ≤ 10 ∧ m.1 0 0 52 = nI Y ∧ ∀ l, l < Y → kLz σ m T l := by
  obtain ⟨C, π, M, S, L, Z, Y, T, cmp, hk, hR0, hlo, h6, hK, hP, hcL, hT, hLn, -⟩ := h
  exact ⟨T, Y, hR0.1.2.2.2.2.2.1, hR0.1.2.2.2.2.2.2, hT, hR0.1.2.2.1, hR0.1.2.2.2.1, hR0.1.2.2.2.2.1, hR0.2.2.1⟩
/-- leases change, in both -/
theorem kI_ls {n : Nat} {σ m σ' m' : qS} (h : kI n σ m) (h5 : n ≤ 600) (hN : σ'.2 0 = σ.2 0 ∧ σ'.2 2 = σ.2 2 ∧ σ'.2 3 = σ.2 3) (o : ∀ f j k, f ≠ 18 → f ≠ 57 → σ'.1 f j k = σ.1 f j k) (p : ∀ f q, ¬ (149 ≤ f ∧ f ≤ 151) → ¬ (f = 0 ∧ q = 52) → m'.1 f 0 q = m.1 f 0 q) (hl : ∀ T Y, T ≤ 50 * n → σ.1 0 0 14 = nI T → σ.2 1 0 = Y → Y ≤ 10 → m.1 0 0 52 = nI Y → (∀ l, l < Y → kLz σ m T l) → (∀ l, Y ≤ l → l < 10 → m.1 151 0 l = 0) → ∃ Y', σ'.2 1 0 = Y' ∧ Y' ≤ 10 ∧ m'.1 0 0 52 = nI Y' ∧ (∀ l, l < Y' → kLz σ' m' T l) ∧ ∀ l, Y' ≤ l → l < 10 → m'.1 151 0 l = 0) : kI n σ' m' := by
  refine kI_re h hN (fun f j k w => o f j k (by omega) (by omega)) (fun f q w => p f q (by omega) (by omega)) (Nat.le_refl _) h5 (fun L Z Y T cmp hL _ hLn hcL hT hR hlo => ?_)
  obtain ⟨⟨a1, a2, a3, a4, a5, a6, a7⟩, b, c, d, e, ⟨f1, f2, f3, f4⟩, g⟩ := hR
  obtain ⟨Y', l1, l2, l3, l4, l5⟩ := hl T Y hT a6 a3 a4 a5 c d.2
  refine ⟨Y', T, cmp, ⟨⟨by rw [hN.1]; exact a1, a2, l1, l2, l3, by rw [o 0 0 14 (by omega) (by omega)]; exact a6, by rw [p 0 53 (by omega) (by omega)]; exact a7⟩, fun z hz => kZ_fr (b z hz) (fun f k w => o f z k (by omega) (by omega)) (fun a _ _ => by funext k; exact o 56 a k (by omega) (by omega)) (fun f w => p f z (by omega) (by omega)) (fun q _ _ => p 138 q (by omega) (by omega)) (fun q _ _ => p 139 q (by omega) (by omega)), l4, ⟨(kFr_fr (Y := 10) ⟨d.1, fun l h1 h2 => by omega⟩ (fun f z w1 w2 w3 => p f z (by omega) (by omega)) (fun q _ => p 147 q (by omega) (by omega)) (fun l h1 h2 => by omega)).1, l5⟩, kBl_fr e (fun k => o 15 0 k (by omega) (by omega)) (fun q => p 147 q (by omega) (by omega)), ⟨by rw [o 0 0 18 (by omega) (by omega), p 0 55 (by omega) (by omega)]; exact f1, by rw [o 0 0 19 (by omega) (by omega), p 0 56 (by omega) (by omega)]; exact f2, by rw [o 0 0 16 (by omega) (by omega)]; exact f3, by rw [p 0 28 (by omega) (by omega)]; exact f4⟩, by rw [hN.2.2]; exact g⟩, kLo_fr hlo (o 0 0 17 (by omega) (by omega)) (p 0 54 (by omega) (by omega)), hT, Nat.le_refl _, hcL, ?_⟩
  rw [pnd_congr (fun z _ => pnC_congr (p 136 z (by omega) (by omega)) (p 137 z (by omega) (by omega)))]
  exact Nat.le_refl _
theorem newL_2 {t u : Int32} {σ : qS} {k i : Nat} : (newL t u σ).2 k i = if k = 1 ∧ i = 0 then σ.2 1 0 + 1 else σ.2 k i := rfl
section LE
variable {F : Nat}
theorem c_lease (hF : 100000 ≤ F) : cI_lease F kI phi := by
  intro n σ m p hn h
  have h7 := kI_57 (v := 0) h (by omega)
  obtain ⟨T, Y, e1, e2, e3, e4, e5, e6, e7⟩ := kI_T h
  unfold fX8_lease fX9_lease
  rw [e_isWithin, bnd2_s, e_in, bnd2_s]
  by_cases c : ¬ p < 1 ∧ ¬ 50 < p
  · rw [b2_t c, if_neg (show ¬ (1 : Int32) = 0 by decide), if_neg (show ¬ (1 : Int32) = 0 by decide), gnl_pos (by omega), nm_x, e4, e6]
    unfold fX9_lease_30
    by_cases d : Y = 10
    · rw [if_neg (show ¬ nI Y < 10 from fun w => by have := (nI_lt' (b := 10) (by omega) (by decide)).mp w; omega), if_pos (show nI Y = 10 from by rw [d]; rfl), e_h1 (by decide), bnd2_s, if_neg (show ¬ (1 : Int32) = 0 by decide)]
      exact lC_t rfl (by decide) h (by omega) rfl rfl
    · obtain ⟨a, ha, rfl⟩ : ∃ a, a < 2 ^ 31 ∧ p = nI a := by
        obtain ⟨a, ha, e⟩ := nI_of (x := p) (fun w => c.1 (Int32.lt_of_lt_of_le w (by decide)))
        exact ⟨a, ha, e⟩
      have a1 : 1 ≤ a := by
        have : ¬ a < 1 := fun q => c.1 ((nI_lt' (b := 1) ha (by decide)).mpr q)
        omega
      have a50 : a ≤ 50 := by
        have : ¬ 50 < a := fun q => c.2 ((nI_lt' (a := 50) (by decide) ha).mpr q)
        omega
      have hY : Y < 10 := by omega
      rw [if_pos (show nI Y < 10 from (nI_lt' (b := 10) (by omega) (by decide)).mpr hY), if_neg (show ¬ nI Y = 10 from fun w => d (nI_inj (b := 10) (by omega) (by decide) w)), e_h0, bnd2_s, if_pos rfl]
      repeat rw [nm_x]
      have m52 : (qI m 0 0 57 0).1 0 0 52 = nI Y := by rw [qI_ap, if_neg (by omega)]; exact e6
      rw [m52, inx_nI hY (by decide), ix_nI (by omega)]
      repeat rw [nm_x]
      have m52' : (qI (qI m 0 0 57 0) 149 0 Y (nI a)).1 0 0 52 = nI Y := by rw [qI_ap, if_neg (by omega)]; exact m52
      have m53' : (qI (qI m 0 0 57 0) 149 0 Y (nI a)).1 0 0 53 = nI T := by rw [qI_ap, if_neg (by omega), qI_ap, if_neg (by omega)]; exact e2
      rw [m52', m53', inx_nI hY (by decide), ix_nI (by omega)]
      repeat rw [nm_x]
      have m52'' : (qI (qI (qI m 0 0 57 0) 149 0 Y (nI a)) 150 0 Y (nI T)).1 0 0 52 = nI Y := by rw [qI_ap, if_neg (by omega)]; exact m52'
      rw [m52'', nI_1]
      rw [show (qI (qI (qI (qI m 0 0 57 0) 149 0 Y (nI a)) 150 0 Y (nI T)) 0 0 52 (nI (Y + 1))).1 0 0 52 = nI (Y + 1) from by rw [qI_ap, if_pos ⟨rfl, rfl, rfl⟩]]
      have key : kI n (newL (nI a) (σ.1 0 0 14 + nI a) σ) (qI (qI (qI (qI m 0 0 57 0) 149 0 Y (nI a)) 150 0 Y (nI T)) 0 0 52 (nI (Y + 1))) := by
        have o : ∀ f j k, ¬ (f = 18 ∧ j = 0) → ¬ (f = 57 ∧ j = Y) → (newL (nI a) (σ.1 0 0 14 + nI a) σ).1 f j k = σ.1 f j k := fun f j k w1 w2 => by
          unfold newL
          show (if f = 57 ∧ j = σ.2 1 0 then _ else if f = 18 ∧ j = 0 then _ else σ.1 f j) k = _
          rw [if_neg (by rw [e4]; exact w2), if_neg w1]
        have p : ∀ f q, ¬ ((f = 149 ∨ f = 150) ∧ q = Y) → ¬ (f = 0 ∧ (q = 52 ∨ q = 57)) → (qI (qI (qI (qI m 0 0 57 0) 149 0 Y (nI a)) 150 0 Y (nI T)) 0 0 52 (nI (Y + 1))).1 f 0 q = m.1 f 0 q := fun f q w1 w2 => by
          rw [qI_ap, if_neg (by omega), qI_ap, if_neg (by omega), qI_ap, if_neg (by omega), qI_ap, if_neg (by omega)]
        have o57 : ∀ k, (newL (nI a) (σ.1 0 0 14 + nI a) σ).1 57 Y k = (if k = 0 then nI a else if k = 1 then σ.1 0 0 14 + nI a else 0) := fun k => by
          unfold newL
          show (if (57 : Nat) = 57 ∧ Y = σ.2 1 0 then (_ : Nat → Int32) else (_ : Nat → Int32)) k = _
          rw [if_pos ⟨rfl, e4.symm⟩]
        refine kI_ls h7 (by omega) ⟨?_, ?_, ?_⟩ (fun f j k w1 w2 => o f j k (by omega) (by omega)) (fun f q w1 w2 => by
          by_cases w3 : f = 0 ∧ q = 57
          · rw [w3.1, w3.2, qI_ap, if_neg (by omega), qI_ap, if_neg (by omega), qI_ap, if_neg (by omega)]
          · rw [p f q (by omega) (by omega), qI_ap, if_neg (by omega)]) (fun T' Y' w0 w1 w2 w3 w4 w5 w6 => ?_)
        · funext i
          rw [newL_2, if_neg (by omega)]
        · funext i
          rw [newL_2, if_neg (by omega)]
        · funext i
          rw [newL_2, if_neg (by omega)]
        · obtain rfl : Y' = Y := by omega
          have eT : nI T' = nI T := w1.symm.trans e1
          refine ⟨Y' + 1, ?_, by omega, by rw [qI_ap, if_pos ⟨rfl, rfl, rfl⟩], fun l hl => ?_, fun l h1 h2 => by rw [p 151 l (by omega) (by omega)]; have := w6 l (by omega) h2; rw [qI_ap, if_neg (by omega)] at this; exact this⟩
          · rw [newL_2, if_pos ⟨rfl, rfl⟩, e4]
          · by_cases el : l = Y'
            · subst el
              have z151 := w6 l (Nat.le_refl _) (by omega)
              rw [qI_ap, if_neg (by omega)] at z151
              refine ⟨a, T, a1, a50, ?_, by rw [o57, if_pos rfl], by rw [o57, if_neg (by omega), if_pos rfl, e1, nI_add], by rw [qI_ap, if_neg (by omega), qI_ap, if_neg (by omega), qI_ap, if_pos ⟨rfl, rfl, rfl⟩], by rw [qI_ap, if_neg (by omega), qI_ap, if_pos ⟨rfl, rfl, rfl⟩], by rw [o57, if_neg (by omega), if_neg (by omega), p 151 l (by omega) (by omega), z151], by rw [p 151 l (by omega) (by omega)]; exact Or.inl z151⟩
              have : T' = T := nI_inj (by omega) (by omega) eT
              omega
            · exact kLz_fr (w5 l (by omega)) (fun k _ => o 57 l k (by omega) (by omega)) (fun f w1 w2 => by rw [p f l (by omega) (by omega), qI_ap, if_neg (by omega)]) (Nat.le_refl _)
      have v1 : nI (Y + 1) - 1 = nI Y := by rw [show nI (Y + 1) - 1 = nI (Y + 1 - 1) from nI_sub (a := Y + 1) (b := 1) (by omega), Nat.add_sub_cancel]
      refine lC_o rfl (kI_mono key (Nat.le_succ n)) ?_ ?_
      · rw [qI_ap, if_neg (by omega), qI_ap, if_neg (by omega), qI_ap, if_neg (by omega), qI_ap, if_pos ⟨rfl, rfl, rfl⟩]
      · have : phi (newL (nI a) (σ.1 0 0 14 + nI a) σ) = phi σ := by
          unfold phi
          refine phs_congr (fun z _ => ?_)
          rw [newL_2, if_neg (by omega)]
        omega
  · rw [b2_f c, if_pos rfl, if_pos rfl]
    unfold fX9_lease_30
    rw [e_h1 (by decide), bnd2_s, if_neg (show ¬ (1 : Int32) = 0 by decide)]
    exact lC_t rfl (by decide) h (by omega) rfl rfl
theorem e_kLease1 {σ : qS} {l : Nat} (hl : l < σ.2 1 0) (h10 : σ.2 1 0 ≤ 10) : fX8_knownLease F (nI l) σ = some (l, 0, σ) := by
  unfold fX8_knownLease
  rw [if_neg (nI_nn (by omega)), nm_x, if_pos ((nI_lt' (by omega) (by omega)).mpr hl), gnl_pos (by omega), inx_nI hl (by omega), nm_x, ix_nI (by omega), gnl_pos hl]
theorem e_kLease0 {σ : qS} {p : Int32} (h10 : σ.2 1 0 ≤ 10) (h : ¬ ∃ l, l < σ.2 1 0 ∧ p = nI l) : fX8_knownLease F p σ = some (0, 1, σ) := by
  unfold fX8_knownLease fX8_knownLease_15
  by_cases c : p < 0
  · rw [if_pos c]
  · obtain ⟨a, ha, rfl⟩ := nI_of c
    rw [if_neg c, nm_x, if_neg (fun q => h ⟨a, (nI_lt' ha (by omega)).mp q, rfl⟩)]
theorem c_renew (hF : 100000 ≤ F) : cI_renew F kI phi := by
  intro n σ m p hn h
  have h7 := kI_57 (v := 0) h (by omega)
  obtain ⟨T, Y, e1, e2, e3, e4, e5, e6, e7⟩ := kI_T h
  unfold fX8_renew fX9_renew
  repeat rw [nm_x]
  rw [e6, e_in, bnd2_s]
  by_cases hp : ∃ l, l < Y ∧ p = nI l
  · rw [b2_t ((e_range e5).mp hp), if_neg (show ¬ (1 : Int32) = 0 by decide)]
    obtain ⟨l, hl, rfl⟩ := hp
    obtain ⟨t, r, t1, t2, t3, t4, t5, t6, t7, t8, t9⟩ := e7 l hl
    unfold fX9_renew_35
    have hl' : l < σ.2 1 0 := by rw [e4]; exact hl
    rw [e_kLease1 hl' (by omega), bnd3_s0, gnl_pos hl', nm_x, ldi_nI (show l < 10 by omega) (by decide), t8]
    rcases t9 with t9 | t9
    · rw [t9, if_pos rfl, if_neg (by decide), e_h0, bnd2_s, if_pos rfl]
      repeat rw [nm_x]
      rw [gnl_pos hl', e1, t4, gnl_pos hl', gnl_pos (show l < (qI σ 57 l 1 (nI T + nI t)).2 1 0 from hl'), inx_nI (show l < 10 by omega) (by decide), ix_nI (by omega), show (qI m 0 0 57 0).1 0 0 53 = nI T from by rw [qI_ap, if_neg (by omega)]; exact e2, ldi_nI (show l < 10 by omega) (by decide)]
      repeat rw [nm_x]
      rw [show (qI (qI m 0 0 57 0) 150 0 l (nI T)).1 0 0 53 = nI T from by rw [qI_ap, if_neg (by omega), qI_ap, if_neg (by omega)]; exact e2, show (qI (qI m 0 0 57 0) 150 0 l (nI T)).1 149 0 l = nI t from by rw [qI_ap, if_neg (by omega), qI_ap, if_neg (by omega)]; exact t6, show (qI σ 57 l 1 (nI T + nI t)).1 57 l 1 = nI T + nI t from by rw [qI_ap, if_pos ⟨rfl, rfl, rfl⟩]]
      refine lC_o rfl (kI_mono (kI_ls h7 (by omega) ⟨rfl, rfl, rfl⟩ (fun f j k w1 w2 => by rw [qI_ap, if_neg (by omega)]) (fun f q w1 w2 => by rw [qI_ap, if_neg (by omega)]) (fun T' Y' w0 w1 w2 w3 w4 w5 w6 => ?_)) (Nat.le_succ n)) (by rw [qI_ap, if_neg (by omega), qI_ap, if_pos ⟨rfl, rfl, rfl⟩]) (by rw [phi_N (show (qI σ 57 l 1 (nI T + nI t)).2 = σ.2 from rfl)]; omega)
      refine ⟨Y', w2, w3, by rw [qI_ap, if_neg (by omega)]; exact w4, fun i hi => ?_, fun i h1 h2 => by rw [qI_ap, if_neg (by omega)]; exact w6 i h1 h2⟩
      by_cases ei : i = l
      · subst ei
        have eT : T' = T := nI_inj (by omega) (by omega) (w1.symm.trans e1)
        exact ⟨t, T', t1, t2, Nat.le_refl _, by rw [qI_ap, if_neg (by omega)]; exact t4, by rw [qI_ap, if_pos ⟨rfl, rfl, rfl⟩, eT, nI_add], by rw [qI_ap, if_neg (by omega), qI_ap, if_neg (by omega)]; exact t6, by rw [qI_ap, if_pos ⟨rfl, rfl, rfl⟩, eT], by rw [qI_ap, if_neg (by omega), qI_ap, if_neg (by omega), qI_ap, if_neg (by omega)]; exact t8, by rw [qI_ap, if_neg (by omega), qI_ap, if_neg (by omega)]; exact Or.inl t9⟩
      · exact kLz_fr (w5 i hi) (fun k _ => by rw [qI_ap, if_neg (by omega)]) (fun f w1 w2 => by rw [qI_ap, if_neg (by omega)]) (Nat.le_refl _)
    · rw [t9, if_neg (by decide), if_pos rfl, e_h1 (by decide), bnd2_s, if_neg (show ¬ (1 : Int32) = 0 by decide)]
      exact lC_t rfl (by decide) h (by omega) rfl rfl
  · rw [b2_f (fun q => hp ((e_range e5).mpr q)), if_pos rfl, e_kLease0 (by omega) (by rw [e4]; exact hp), bnd3_se (by decide)]
    unfold fX9_renew_35
    rw [e_h1 (by decide), bnd2_s, if_neg (show ¬ (1 : Int32) = 0 by decide)]
    exact lC_t rfl (by decide) h (by omega) rfl rfl
end LE

/-! PURE: servers catch up, in both -/
section SY
variable {F : Nat}
theorem kI_catch {n s p : Nat} {σ m : qS} (h : kI n σ m) (h5 : n ≤ 512) (hs : s < 3) (hp : p < 2 ^ 31) (hF : 100000 ≤ F) : ∃ L cg σ' m', σ.1 0 0 15 = nI L ∧ m.1 0 0 26 = nI L ∧ m.1 130 0 s = nI cg ∧ cg ≤ L ∧ L < 2 ^ 30 ∧ fX8_catchUp F s (nI p) σ = some (nI (min p (L - cg)), σ') ∧ fX9_follows F (nI s) (nI (cg + min p (L - cg))) m = some m' ∧ kI n σ' m' ∧ σ'.2 = σ.2 ∧ (∀ q, m'.1 0 0 q = m.1 0 0 q) ∧ ∀ q, σ'.1 0 0 q = σ.1 0 0 q := by
  obtain ⟨C, π, M, S, L, Z, Y, T, cmp, hk, hR, hlo, h6, hK, hP, hcL, hT, hLn, hS, hp9⟩ := h
  have hM80 : M ≤ 80 := hk.1.2.1.2.2.2.2.1
  obtain ⟨v1, v2, v3, v4, v5, v6, -⟩ := hk.2.1 s hs
  obtain ⟨σ', m', a1, a2, a3, a4, a5⟩ := kD_catch (F := F) (s := s) (p := p) hk (by omega) (by omega) hR.1.2.1 hs (by omega) hp hF
  have o : ∀ f j k, f ≠ 38 → f ≠ 39 → f ≠ 8 → ¬ (31 ≤ f ∧ f ≤ 37 ∧ j ≤ 2) → σ'.1 f j k = σ.1 f j k := fun f j k w1 w2 w3 w4 => a4.2 f j k w1 w2 (by omega) (by omega)
  have p0 : ∀ q, m'.1 0 0 q = m.1 0 0 q := fun q => a5.2 0 0 q (by omega) (by omega) (fun z _ => by omega)
  refine ⟨L, cgN σ s, σ', m', hk.2.2.2.2.2.2.2.2.1, hk.2.2.2.2.2.2.2.2.2.1, v4, v6, by omega, a1, a2, kI_of (n := n) hR hK hP (kLog_mono hk.1.1 (Nat.zero_le _) (Nat.le_refl _)) hcL a3 ⟨a4.1, fun f j k w => o f j k (by omega) (by omega) (by omega) (by omega)⟩ (fun f q w => a5.2 f 0 q (by omega) (by omega) (fun z hz => by have := hz.1; omega)) (fun f k w1 w2 w3 => o f 0 k (by omega) (by omega) (by omega) (by omega)) (fun k k8 => by rw [o 6 0 k (by omega) (by omega) (by omega) (by omega)]; exact h6 k k8) (Nat.le_refl _) rfl tEq_rf (Nat.le_refl _) (kLo_fr hlo (o 0 0 17 (by omega) (by omega) (by omega) (by omega)) (p0 54)) (Nat.le_refl _) hT hLn hS hp9, a4.1, p0, fun q => o 0 0 q (by omega) (by omega) (by omega) (by omega)⟩
theorem c_follow (hF : 100000 ≤ F) : cI_follow F kI phi := by
  intro n σ m s q hn h
  have h7 := kI_57 (v := 0) h (by omega)
  unfold fX8_follow fX9_follow
  have thr : ∀ (u : Int32) (e : Nat) (c : Int32), (e = 1 ∧ c = 1) ∨ (e = 2 ∧ c = 2) → lC F kI phi (fun e => if e = 0 then 0 else if e = 1 then 1 else if e = 2 then 2 else 0) n σ (some (u, e, σ)) (fX9_follow_31 F s q c m) (fun _ => 0) := fun u e c hec => by
    unfold fX9_follow_31
    rcases hec with ⟨rfl, rfl⟩ | ⟨rfl, rfl⟩
    all_goals
      rw [e_h1 (by decide), bnd2_s, if_neg (show ¬ (1 : Int32) = 0 by decide)]
      exact lC_t rfl (by decide) h (by omega) rfl rfl
  by_cases c1 : ∃ i, i < 3 ∧ s = nI i
  · obtain ⟨i, hi, rfl⟩ := c1
    rw [e_kServer1 hi, bnd3_s0, e_in, bnd2_s, b2_t (show ¬ nI i < 0 ∧ ¬ 2 < nI i from (in_rng (a := 0) (b := 2) (by decide) (by decide)).mp ⟨i, by omega, by omega, rfl⟩), if_neg (show ¬ (1 : Int32) = 0 by decide), e_isWithin, bnd2_s, e_in, bnd2_s]
    by_cases c2 : ¬ q < 1 ∧ ¬ 20 < q
    · obtain ⟨p, p1, p2, rfl⟩ := (in_rng (a := 1) (b := 20) (by decide) (by decide)).mpr c2
      rw [b2_t c2, if_neg (show ¬ (1 : Int32) = 0 by decide), if_neg (show ¬ (1 : Int32) = 0 by decide)]
      obtain ⟨L, cg, σ', m', b1, b2, b3, b4, b5, b6, b7, b8, b9, b10, b11⟩ := kI_catch (F := F) (s := i) (p := p) h7 (by omega) hi (by omega) hF
      unfold fX9_follow_31 fX9_follow_66
      rw [b6, bnd2_s, e_h0, bnd2_s, if_pos rfl, ldi_nI hi (by decide), b3]
      repeat rw [nm_x]
      rw [b2, nI_add]
      have fin : ∀ u, u = cg + min p (L - cg) → lC F kI phi (fun e => if e = 0 then 0 else if e = 1 then 1 else if e = 2 then 2 else 0) n σ (some (nI (min p (L - cg)), 0, σ')) (bnd (fX9_follows F (nI i) (nI u) (qI m 0 0 57 0)) fun s15 => (nm (nI u - nI cg) fun v16 => (some (v16, s15)))) (fun _ => 0) := fun u hu => by
        subst hu
        rw [b7, bnd_s, nm_x, nI_sub (by omega), Nat.add_sub_cancel_left]
        exact lC_o rfl (kI_mono b8 (Nat.le_succ n)) (by rw [b10, qI_ap, if_pos ⟨rfl, rfl, rfl⟩]) (by rw [phi_N b9]; omega)
      by_cases c3 : cg + p ≤ L
      · rw [if_pos ((nI_le' (by omega) (by omega)).mpr c3)]
        exact fin _ (by omega)
      · rw [if_neg (fun w => c3 ((nI_le' (by omega) (by omega)).mp w))]
        exact fin _ (by omega)
    · rw [b2_f c2, if_pos rfl, if_pos rfl]
      exact thr _ 2 2 (Or.inr ⟨rfl, rfl⟩)
  · rw [e_kServer0 c1, bnd3_se (by decide), e_in, bnd2_s, b2_f (fun w => c1 (by
      obtain ⟨i, _, i2, i3⟩ := (in_rng (a := 0) (b := 2) (by decide) (by decide)).mpr w
      exact ⟨i, by omega, i3⟩)), if_pos rfl]
    exact thr _ 1 1 (Or.inl ⟨rfl, rfl⟩)
theorem c_sync (hF : 100000 ≤ F) : cI_sync F kI phi := by
  intro n σ m p hn h
  obtain ⟨h48, h10, hZ⟩ := kI_Z h
  unfold fX8_sync fX9_sync
  by_cases hp : ∃ z, z < σ.2 0 0 ∧ p = nI z
  · obtain ⟨z, hz, rfl⟩ := hp
    have hz10 : z < 10 := by omega
    rw [e_known1 hz h10, bnd3_s0, e_ses1 h48 hz h10, bnd2_s, if_neg (show ¬ (1 : Int32) = 0 by decide)]
    unfold fX9_sync_26
    rcases wk (F := F) h (by omega) hz (by omega) with ⟨s1, m1, w1, w2, w3, w4, w5⟩ | ⟨w1, w2, w3, w4, w5, w6, w7, w8⟩
    · rw [w2, bnd3_se (by decide), w3, bnd2_s, if_neg (show ¬ (1 : Int32) = 0 by decide), e_h1 (by decide), bnd2_s, if_neg (show ¬ (1 : Int32) = 0 by decide)]
      exact lC_t rfl (by decide) w4 (by omega) w5 rfl
    · obtain ⟨s3, s2, -⟩ := kI_srv w6 hz (by rw [lsM_o (by omega) (by omega)]; exact w4)
      obtain ⟨L0, cmp0, l1, l2, l3, -⟩ := kI_L w6
      obtain ⟨L, cg, σ', m', b1, b2, b3, b4, b5, b6, b7, b8, b9, b10, b11⟩ := kI_catch (F := F) (s := (lsC σ z).2 2 z) (p := L0) w6 (by omega) s3 (by omega) hF
      have eL : L0 = L := nI_inj (by omega) (by omega) (l1.symm.trans b1)
      subst eL
      have hK : min L0 (L0 - cg) = L0 - cg := by omega
      rw [hK] at b6 b7
      rw [show cg + (L0 - cg) = L0 by omega] at b7
      have hz' : z < (lsC σ z).2 0 0 := hz
      rw [w2, bnd3_s0, w3, bnd2_s, if_pos rfl, e_h0, bnd2_s, if_pos rfl, w5, bnd_s, gnl_pos hz', nm_x, nm_x, b1, b6, bnd2_s, ldi_nI hz10 (by decide), s2, ldi_nI s3 (by decide), b3, ldi_nI hz10 (by decide), s2]
      repeat rw [nm_x]
      rw [b2, b7, bnd_s]
      repeat rw [nm_x]
      rw [b10 26, b2, nI_sub b4]
      exact lC_o rfl (kI_mono b8 (Nat.le_succ n)) (by rw [b10]; exact ls57) (by rw [phi_N b9, phi_N (show (lsC σ z).2 = σ.2 from rfl)]; omega)
  · rw [e_known0 h10 hp, bnd3_se (by decide), e_ses0 h48 h10 hp, bnd2_s, if_pos rfl]
    unfold fX9_sync_26
    rw [e_h1 (by decide), bnd2_s, if_neg (show ¬ (1 : Int32) = 0 by decide)]
    exact lC_t rfl (by decide) h (by omega) rfl rfl
end SY

/-! PURE: MADE as an act, its questions -/
section ML
variable {F : Nat}
/-- what both answer, how both went on -/
def mkR (M0 L : Nat) (σ m : qS) (C : Nat → qS) (π : Nat → Nat) (M S : Nat) (X Y : Option (Int32 × qS)) : Prop := ∃ v σ' m' C' π' M' S', X = some (v, σ') ∧ Y = some (v, m') ∧ eX M0 L 1 2 σ m C π M S σ' m' C' π' M' S' ∧ kQ σ' m' M' ∧ (v < 0 → S' = S ∧ M' = M)
theorem kQ_sq {σ σ' m : qS} {M : Nat} (h : kQ σ m M) (e : sq σ σ') : kQ σ' m M := fun k hk => by
  rw [e.2 14 0 (by decide) (by decide)]
  exact h k hk
theorem mkR_no {M0 L M : Nat} {σ σ2 m : qS} {C : Nat → qS} {π : Nat → Nat} {S : Nat} {v : Int32} (h : kA σ m C π M S) (hQ : kQ σ m M) (hs : sq σ σ2) : mkR M0 L σ m C π M S (some (v, σ2)) (some (v, m)) := by
  obtain ⟨q1, q2, q3, q4, q5, q6, q7, q8, q9, q10⟩ := eX_sq (eX_rf (M0 := M0) (L := L) h) hs
  exact ⟨v, σ2, m, C, π, M, S, rfl, rfl, ⟨q1, q2, q3, q4, q5, q6, q7, q8, by omega, by omega⟩, kQ_sq hQ hs, fun _ => ⟨rfl, rfl⟩⟩
/-- behind the quota -/
theorem pr_mk2 {M0 L M : Nat} {σ0 σ m : qS} {C : Nat → qS} {π : Nat → Nat} {S z a u : Nat} {zi lease wk called t0 : Int32} {nb : Bool} (hF : 200 ≤ F) (h0 : kA σ0 m C π M S) (hQ0 : kQ σ0 m M) (hsq : sq σ0 σ) (ha : a < 1 + 6 * σ.2 0 0) (hL : σ.1 0 0 15 = nI L) (hL9 : L + 1 < 2 ^ 31) (h27 : m.1 0 0 27 = nI (L + 1)) (hS9 : S < 999) (hR9 : π S < 90000) (hM0 : M0 ≤ M) (hu : u < 80) (hhC : (C S).1 31 0 u ≠ 0) (hnh : ¬ isHd (C S) u) (hup : σ.1 56 a 1 = nI u) (hwk : σ.1 56 a 5 = wk) (ht0 : t0 = 0 ↔ nb = false) (hn0 : nb = false → σ.1 56 a 2 = called ∧ ∃ x, x < 100 ∧ called = nI x) (hfree : nb = false → ∀ k, 1 ≤ k → k < 80 → ¬ isNm (C S) 0 (nI u) called k) (hh1 : wk = 1 → σ.1 56 a 6 = zi) (hh2 : wk = 2 → σ.1 56 a 6 = lease) :
    mkR M0 L σ0 m C π M S (if nI M < 80 then (if t0 = 0 then gnl a (1 + 6 * σ.2 0 0) (fX8_tryMake_150 F z a (nI M) (σ.1 56 a 2) σ) else ldi 80 (σ.1 37 0) (nI u) fun v27 => nm (1000 + v27) fun v28 => fX8_tryMake_150 F z a (nI M) v28 σ) else some (-8, σ)) (if nI M = 80 then some (-8, m) else inx 80 (nI M) (if (if nb = true then (1 : Int32) else 0) = 1 then ldi 80 ((qI (qI m 0 0 7 (nI M + 1)) 100 0 (nI M).toNatClampNeg (nI u)).1 105 0) (nI u) fun v38 => nm (1000 + v38) fun v39 => fX9_makes_146 F zi (nI u) (if nb = true then 1 else 0) (σ.1 56 a 3) wk lease (nI M) (nI M) v39 (qI (qI m 0 0 7 (nI M + 1)) 100 0 (nI M).toNatClampNeg (nI u)) else fX9_makes_146 F zi (nI u) (if nb = true then 1 else 0) (σ.1 56 a 3) wk lease (nI M) (nI M) called (qI (qI m 0 0 7 (nI M + 1)) 100 0 (nI M).toNatClampNeg (nI u)))) := by
  have h := kA_sq h0 hsq
  have hQ := kQ_sq hQ0 hsq
  obtain ⟨g0, g1⟩ := kA_here h
  have hM1 := h.2.1.2.2.2.2.1
  by_cases d4 : M = 80
  · rw [if_neg (show ¬ nI M < 80 by rw [d4]; decide), if_pos (show nI M = 80 by rw [d4]; rfl)]
    exact mkR_no h0 hQ0 hsq
  · have hM8 : M < 80 := by omega
    rw [if_pos (show nI M < 80 from (nI_lt' (b := 80) (by omega) (by decide)).mpr hM8), if_neg (show ¬ nI M = 80 from fun q => d4 (nI_inj (b := 80) (by omega) (by decide) q)), nI_1, inx_nI hM8 i80', ix_nI (by omega)]
    obtain ⟨y, hy, ey⟩ := g0.2.2.2.2.2.2.2 u hu
    have e37 : σ.1 37 0 u = nI y := by rw [h.2.2.1 37 u (by decide) (by decide) hu]; exact ey
    have e105 : m.1 105 0 u = nI y := by rw [(h.2.2.2.2 u hu).1 hhC]; exact ey
    have fin : ∀ x, ((x < 100 ∧ nb = false ∧ ∀ k, 1 ≤ k → k < 80 → ¬ isNm (C S) 0 (nI u) (nI x) k) ∨ (nb = true ∧ x = 1000 + y)) → mkR M0 L σ0 m C π M S (fX8_tryMake_150 F z a (nI M) (nI x) σ) (fX9_makes_146 F zi (nI u) (if nb = true then 1 else 0) (σ.1 56 a 3) wk lease (nI M) (nI M) (nI x) (qI (qI m 0 0 7 (nI (M + 1))) 100 0 M (nI u))) := by
      intro x hx
      obtain ⟨σ', m', C', π', k1, k2, k3, k4⟩ := pr_mk1 (F := F) (M0 := M0) (L := L) (z := z) (called := called) hF h hQ ha hL hL9 h27 hS9 hR9 hM0 hM8 hu hhC hnh hup hwk ey hy hx hh1 hh2
      have e0 : eX M0 L 0 0 σ0 m C π M S σ m C π M S := eX_sq (eX_rf h0) hsq
      have e1 := eX_tr h0 e0 k3
      rw [Nat.zero_add, Nat.zero_add] at e1
      exact ⟨nI M, σ', m', C', π', M + 1, S + 1, k1, k2, e1, k4, fun hv => absurd hv (nI_pos (by omega))⟩
    cases nb with
    | true =>
      have ht : ¬ t0 = 0 := fun q => by have := ht0.mp q; cases this
      have e1 : (qI (qI m 0 0 7 (nI (M + 1))) 100 0 M (nI u)).1 105 0 u = nI y := by rw [qI_ap, if_neg (by omega), qI_ap, if_neg (by omega), e105]
      have ek : (1000 : Int32) + nI y = nI (1000 + y) := by rw [show (1000 : Int32) = nI 1000 from rfl, nI_add]
      rw [if_neg ht, ldi_nI hu i80', e37, if_pos (show (if true = true then (1 : Int32) else 0) = 1 by decide), ldi_nI hu i80', e1, nm_x, nm_x, ek]
      exact fin (1000 + y) (Or.inr ⟨rfl, rfl⟩)
    | false =>
      obtain ⟨q1, x, q2, q3⟩ := hn0 rfl
      rw [if_pos (ht0.mpr rfl), gnl_pos ha, q1, if_neg (show ¬ (if false = true then (1 : Int32) else 0) = 1 by decide), q3]
      exact fin x (Or.inl ⟨q2, rfl, by rw [← q3]; exact hfree rfl⟩)
/-- behind the name -/
theorem pr_mk3 {M0 L M : Nat} {σ m : qS} {C : Nat → qS} {π : Nat → Nat} {S z a u : Nat} {zi lease wk called t0 : Int32} {nb : Bool} (hF : 200 ≤ F) (h : kA σ m C π M S) (hQ : kQ σ m M) (ha : a < 1 + 6 * σ.2 0 0) (hL : σ.1 0 0 15 = nI L) (hL9 : L + 1 < 2 ^ 31) (h27 : m.1 0 0 27 = nI (L + 1)) (hS9 : S < 999) (hR9 : π S < 90000) (hM0 : M0 ≤ M) (hu : u < 80) (hhC : (C S).1 31 0 u ≠ 0) (hup : σ.1 56 a 1 = nI u) (hwk : σ.1 56 a 5 = wk) (ht0 : t0 = 0 ↔ nb = false) (hn0 : nb = false → σ.1 56 a 2 = called ∧ ∃ x, x < 100 ∧ called = nI x) (hfree : nb = false → ∀ k, 1 ≤ k → k < 80 → ¬ isNm (C S) 0 (nI u) called k) (hh1 : wk = 1 → σ.1 56 a 6 = zi) (hh2 : wk = 2 → σ.1 56 a 6 = lease) :
    mkR M0 L σ m C π M S (fX8_tryMake_76 F z a (nI u) t0 σ) (fX9_makes_50 F zi (nI u) called (if nb = true then 1 else 0) (σ.1 56 a 3) wk lease m) := by
  obtain ⟨g0, g1⟩ := kA_here h
  have huM := gdT_M g0 hu hhC
  have hh : σ.1 31 0 u ≠ 0 := by rw [(kA_31 h hu).1]; exact hhC
  unfold fX8_tryMake_76 fX9_makes_50 fX9_makes_70
  have ek : m.1 102 0 u = σ.1 4 0 u := (h.2.1.2.2.2.2.2 u hu huM).2.2.1
  rw [e_isHeld hu, bnd2_s, ldi_nI hu i80', ldi_nI hu i80', ek]
  by_cases d1 : σ.1 4 0 u = 1
  · rw [b2_t (Or.inl d1), if_neg (show ¬ (1 : Int32) = 0 by decide), if_pos d1]
    exact mkR_no h hQ sq_rf
  · rw [if_neg d1]
    by_cases d2 : σ.1 4 0 u = 2
    · rw [b2_t (Or.inr d2), if_neg (show ¬ (1 : Int32) = 0 by decide), if_pos d2]
      exact mkR_no h hQ sq_rf
    · rw [b2_f (fun q => q.elim d1 d2), if_pos rfl, if_neg d2]
      have hnh : ¬ isHd (C S) u := by
        unfold isHd
        rw [g1 4 u (by decide) (by decide) huM hu]
        exact fun q => q.elim d1 d2
      have hwσ : wfT σ 0 := wfT_cp g1 h.2.2.1 (gdT_wf g0) (fun k k1 k2 => gdT_M g0 k1 k2)
      have hwm : wfT (vw m) 0 := wfT_cp1 (kA_vw h).1 (kA_vw h).2 (gdT_wf g0)
      have hm0 : m.1 100 0 0 = -100 := by rw [(h.2.1.2.2.2.2.2 0 (by decide) (by omega)).1]; exact h.2.1.2.2.1.1
      obtain ⟨v1, σ2, t1, t2, t3⟩ := e_isQuotaUsed (F := F) hwσ h.2.1.2.2.1.1 (by omega) hu hh
      obtain ⟨v2, t4, t5⟩ := e_fills (F := F) (kA_rok h) hwm hm0 (by omega) hu (by rw [(kA_31 h hu).2]; exact hhC)
      have ev : v2 = v1 := by
        rw [kA_quo h hQ hu hhC] at t3
        rcases t3 with ⟨x1, x2⟩ | ⟨x1, x2⟩
        · rcases t5 with ⟨y1, y2⟩ | ⟨y1, y2⟩
          · rw [x1, y1]
          · exact absurd x2 y2
        · rcases t5 with ⟨y1, y2⟩ | ⟨y1, y2⟩
          · exact absurd y2 x2
          · rw [x1, y1]
      rw [t1, t4, bnd2_s, bnd2_s, ev]
      by_cases d3 : v1 = 0
      · rw [if_pos d3, if_pos d3]
        repeat rw [nm_x]
        have hs2 : ∀ f j, f ≠ 38 → f ≠ 39 → σ2.1 f j = σ.1 f j := t2.2
        rw [(kA_sq h t2).2.1.1, h.2.1.2.1]
        have e56 : ∀ q, σ2.1 56 a q = σ.1 56 a q := fun q => by rw [hs2 56 a (by decide) (by decide)]
        rw [← e56 3]
        exact pr_mk2 hF h hQ t2 (by rw [t2.1]; exact ha) (by rw [hs2 0 0 (by decide) (by decide)]; exact hL) hL9 h27 hS9 hR9 hM0 hu hhC hnh (by rw [e56]; exact hup) (by rw [e56]; exact hwk) ht0 (fun q => by rw [e56]; exact hn0 q) hfree (fun q => by rw [e56]; exact hh1 q) (fun q => by rw [e56]; exact hh2 q)
      · rw [if_neg d3, if_neg d3]
        exact mkR_no h hQ t2
theorem pr_make {M0 L M : Nat} {σ m : qS} {C : Nat → qS} {π : Nat → Nat} {S z a p : Nat} {called lease wk : Int32} {nb : Bool} (hF : 200 ≤ F) (h : kA σ m C π M S) (hQ : kQ σ m M) (hz : z < σ.2 0 0) (hz10 : z < 10) (ha : a < 1 + 6 * σ.2 0 0) (hp : σ.1 50 z 1 = nI p) (hp4 : p < 4) (hpm : m.1 131 0 z = nI p) (hL : σ.1 0 0 15 = nI L) (hL9 : L + 1 < 2 ^ 31) (h27 : m.1 0 0 27 = nI (L + 1)) (hS9 : S < 999) (hR9 : π S < 90000) (hM0 : M0 ≤ M)
    (hn1 : nb = true → σ.1 56 a 2 = 1000) (hn0 : nb = false → σ.1 56 a 2 = called ∧ ∃ x, x < 100 ∧ called = nI x) (hwk : σ.1 56 a 5 = wk) (hh1 : wk = 1 → σ.1 56 a 6 = nI z) (hh2 : wk = 2 → σ.1 56 a 6 = lease) :
    mkR M0 L σ m C π M S (fX8_tryMake F z a σ) (fX9_makes F (nI z) (σ.1 56 a 1) called (if nb = true then 1 else 0) (σ.1 56 a 3) wk lease m) := by
  unfold fX8_tryMake fX9_makes
  simp only [nm_x, gnl_pos ha]
  rw [e_holds (by decide), e_isThere0 (kA_rok h), bnd2_s, bnd2_s, b2_congr (kA_hl h)]
  by_cases c1 : hlds σ 0 (σ.1 56 a 1)
  · obtain ⟨u, hu, eu, hh⟩ := hl_ex c1
    have hhC : (C S).1 31 0 u ≠ 0 := by rw [← (kA_31 h hu).1]; exact hh
    rw [b2_t c1, if_neg (show ¬ (1 : Int32) = 0 by decide), if_neg (show ¬ (1 : Int32) = 0 by decide), eu, gnl_pos hz, hp, e_mayWrite (by decide) hu, bnd2_s, ldi_nI (by omega) i400, ldi_nI hz10 (by decide), hpm, e_may, bnd2_s, (kA_wr h hu hp4).1]
    by_cases c2 : bit1 (m.1 114 0 u) (nI p)
    · rw [b2_t c2, if_neg (show ¬ (1 : Int32) = 0 by decide), if_neg (show ¬ (1 : Int32) = 0 by decide)]
      simp only [gnl_pos ha]
      unfold fX8_tryMake_51
      have rest := fun (t0 : Int32) (ht0 : t0 = 0 ↔ nb = false) (hfree : nb = false → ∀ k, 1 ≤ k → k < 80 → ¬ isNm (C S) 0 (nI u) called k) => pr_mk3 (F := F) (M0 := M0) (z := z) (a := a) (zi := nI z) (lease := lease) hF h hQ ha hL hL9 h27 hS9 hR9 hM0 hu hhC eu hwk ht0 hn0 hfree hh1 hh2
      cases nb with
      | true =>
        rw [if_pos (hn1 rfl), if_neg (show ¬ (1 : Int32) = 0 by decide), if_neg (show ¬ (if true = true then (1 : Int32) else 0) = 0 by decide)]
        exact rest 1 ⟨fun q => absurd q (by decide), fun q => by cases q⟩ (fun q => by cases q)
      | false =>
        obtain ⟨q1, x, q2, q3⟩ := hn0 rfl
        rw [if_neg (show ¬ σ.1 56 a 2 = 1000 from fun q => by
          rw [q1, q3] at q
          have := nI_inj (b := 1000) (by omega) (by decide) q
          omega), if_pos rfl, gnl_pos ha, if_pos (show (if false = true then (1 : Int32) else 0) = 0 by decide), q1]
        obtain ⟨v1, t1, t2⟩ := e_hasChildNamed (F := F) (σ := σ) (i := 0) (p := nI u) (q := called) (by omega) (by decide)
        obtain ⟨v2, t3, t4⟩ := e_named (F := F) (m := m) (M := M) (p := nI u) (q := called) (kA_rok h) (by omega)
        rw [nm_x, t1, t3, bnd2_s, bnd2_s]
        rcases t2 with ⟨x1, k, k1, k2, k3⟩ | ⟨x1, x2⟩
        · rcases t4 with ⟨y1, y2⟩ | ⟨y1, y2⟩
          · exact absurd ((kA_nm h k2).2.mpr ((kA_nm h k2).1.mp k3)) (y2 k k1 k2)
          · rw [x1, if_neg (show ¬ (1 : Int32) = 0 by decide), if_neg y1]
            exact mkR_no h hQ sq_rf
        · rcases t4 with ⟨y1, y2⟩ | ⟨y1, k, k1, k2, k3⟩
          · rw [x1, if_pos rfl, if_pos y1]
            exact rest 0 ⟨fun _ => rfl, fun _ => rfl⟩ (fun _ k k1 k2 k3 => x2 k k1 k2 ((kA_nm h k2).1.mpr k3))
          · exact absurd ((kA_nm h k2).1.mpr ((kA_nm h k2).2.mp k3)) (x2 k k1 k2)
    · rw [b2_f c2, if_pos rfl, if_pos rfl]
      exact mkR_no h hQ sq_rf
  · rw [b2_f c1, if_pos rfl, if_pos rfl]
    exact mkR_no h hQ sq_rf
end ML

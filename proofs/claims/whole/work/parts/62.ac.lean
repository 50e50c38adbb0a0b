/-! PURE: SET, GONE and checks as acts, in both -/
set_option maxRecDepth 100000 in
theorem bit_rd : ∀ x, x < 16 → ∀ y, y < 16 → ∀ p, p < 4 → (bit1 (nI (x + 16 * y)) (nI p) ↔ bit1 (nI x) (nI p)) := by decide
set_option maxRecDepth 100000 in
theorem bit_wr : ∀ x, x < 16 → ∀ y, y < 16 → ∀ p, p < 4 → (bit1 (nI (x + 16 * y)) (4 + nI p) ↔ bit1 (nI y) (nI p)) := by decide
theorem b2_congr {P Q : Prop} [Decidable P] [Decidable Q] (h : P ↔ Q) : b2 P = b2 Q := by
  by_cases c : P
  · rw [b2_t c, b2_t (h.mp c)]
  · rw [b2_f c, b2_f (fun q => c (h.mpr q))]
section AC
variable {F : Nat}
theorem e_isThere0 {m : qS} {M : Nat} {p : Int32} (h : rok m 0 M) : fX9_isThere F 0 p m = some (b2 (hlds (vw m) 0 p), m) := e_isThere h (by decide)
theorem kA_hl {σ m : qS} {C : Nat → qS} {π : Nat → Nat} {M S : Nat} (h : kA σ m C π M S) {p : Int32} : hlds (vw m) 0 p ↔ hlds σ 0 p := by
  unfold hlds
  refine and_congr_right fun hp => ?_
  have h80 : p.toNatClampNeg < 80 := by
    obtain ⟨a, ha, _, rfl⟩ := in_ex (vp_in_80.mpr hp)
    rw [ix_nI (by omega)]
    exact ha
  obtain ⟨e1, e2⟩ := kA_31 h h80
  rw [e1, e2]
theorem hl_ex {σ : qS} {i : Nat} {p : Int32} (h : hlds σ i p) : ∃ n, n < 80 ∧ p = nI n ∧ σ.1 31 i n ≠ 0 := by
  obtain ⟨a, ha, _, rfl⟩ := in_ex (vp_in_80.mpr h.1)
  have h2 := h.2
  rw [ix_nI (by omega)] at h2
  exact ⟨a, ha, rfl, h2⟩
/-- rights on the truth, in both -/
theorem kA_wr {σ m : qS} {C : Nat → qS} {π : Nat → Nat} {M S : Nat} (h : kA σ m C π M S) {n p : Nat} (hn : n < 80) (hp : p < 4) : b2 (bit1 (σ.1 36 0 n) (4 + nI p)) = b2 (bit1 (m.1 114 0 n) (nI p)) ∧ b2 (bit1 (σ.1 36 0 n) (nI p)) = b2 (bit1 (m.1 113 0 n) (nI p)) := by
  obtain ⟨hl, hb, ht, hr, hc⟩ := h
  obtain ⟨-, -, -, -, -, x, y, hx, hy, r6, r7, r8⟩ := hr n hn
  rw [Nat.mul_zero, Nat.zero_add] at r6 r7
  have r8 : (C S).1 36 0 n = nI (x + 16 * y) := r8
  rw [ht 36 n (by decide) (by decide) hn, r6, r7, r8]
  exact ⟨b2_congr (bit_wr x hx y hy p hp), b2_congr (bit_rd x hx y hy p hp)⟩
theorem kA_vv {σ m : qS} {C : Nat → qS} {π : Nat → Nat} {M S : Nat} (h : kA σ m C π M S) {n : Nat} (hn : n < 80) : m.1 110 0 n = σ.1 33 0 n ∧ ∃ y, y ≤ π S ∧ σ.1 33 0 n = nI y := by
  obtain ⟨hl, hb, ht, hr, hc⟩ := h
  obtain ⟨y, y1, y2⟩ := (hc n hn).2
  have e := (hr n hn).2.2.1
  rw [Nat.mul_zero, Nat.zero_add] at e
  have e2 := ht 33 n (by decide) (by decide) hn
  exact ⟨e.trans e2.symm, y, y1, e2.trans y2⟩
theorem kA_sOK {σ m : qS} {C : Nat → qS} {π : Nat → Nat} {M S : Nat} (h : kA σ m C π M S) {kd n : Nat} (hn : n < 80) (hh : σ.1 31 0 n ≠ 0) (h1 : 1 ≤ kd) (h4 : kd ≤ 4) (h2 : kd = 2 → 1 ≤ n) : sOK (C S) kd n M := by
  obtain ⟨g0, g1⟩ := kA_here h
  rw [(kA_31 h hn).1] at hh
  exact ⟨hn, gdT_M g0 hn hh, h4, fun h => by omega, fun _ => hh, h2, fun _ => gdT_wf g0⟩
theorem pr_set {M0 L M : Nat} {σ m : qS} {C : Nat → qS} {π : Nat → Nat} {S z a p : Nat} (hF : 100 ≤ F) (h : kA σ m C π M S) (hz : z < σ.2 0 0) (ha : a < 1 + 6 * σ.2 0 0) (hp : σ.1 50 z 1 = nI p) (hp4 : p < 4) (hL : σ.1 0 0 15 = nI L) (hL9 : L + 1 < 2 ^ 31) (h27 : m.1 0 0 27 = nI (L + 1)) (hS9 : S < 999) (hR9 : π S < 90000) :
    ∃ v σ' m' C' π' S', fX8_trySet F z a σ = some (v, σ') ∧ fX9_sets F (nI p) (σ.1 56 a 1) (σ.1 56 a 3) (σ.1 56 a 4) m = some (v, m') ∧ eX M0 L 1 1 σ m C π M S σ' m' C' π' M S' ∧ (v < 0 → S' = S) := by
  unfold fX8_trySet fX9_sets
  simp only [nm_x, gnl_pos ha]
  rw [e_holds (by decide), e_isThere0 (kA_rok h), bnd2_s, bnd2_s, b2_congr (kA_hl h)]
  have triv : ∀ v : Int32, v < 0 → ∃ v' σ' m' C' π' S', (some (v, σ) : Option (Int32 × qS)) = some (v', σ') ∧ (some (v, m) : Option (Int32 × qS)) = some (v', m') ∧ eX M0 L 1 1 σ m C π M S σ' m' C' π' M S' ∧ (v' < 0 → S' = S) := fun v _ => by
    obtain ⟨q1, q2, q3, q4, q5, q6, q7, q8, q9, q10⟩ := eX_rf (M0 := M0) (L := L) h
    exact ⟨v, σ, m, C, π, S, rfl, rfl, ⟨q1, q2, q3, q4, q5, q6, q7, q8, by omega, by omega⟩, fun _ => rfl⟩
  by_cases c1 : hlds σ 0 (σ.1 56 a 1)
  · obtain ⟨n, hn, en, hh⟩ := hl_ex c1
    rw [b2_t c1, if_neg (show ¬ (1 : Int32) = 0 by decide), if_neg (show ¬ (1 : Int32) = 0 by decide), en, gnl_pos hz, hp, e_mayWrite (by decide) hn, bnd2_s, ldi_nI (by omega) i400, e_may, bnd2_s, (kA_wr h hn hp4).1]
    by_cases c2 : bit1 (m.1 114 0 n) (nI p)
    · rw [b2_t c2, if_neg (show ¬ (1 : Int32) = 0 by decide), if_neg (show ¬ (1 : Int32) = 0 by decide), e_hasVersion (by decide) hn, bnd2_s]
      simp only [gnl_pos ha]
      obtain ⟨ev, y, hy, ey⟩ := kA_vv h hn
      -- the step
      have go : ∃ v σ' m' C' π' S', (bnd (fX8_record F 1 (nI n) (σ.1 56 a 3) σ) fun s14 => ldi 80 (s14.1 33 0) (nI n) fun v15 => some (v15, s14)) = some (v, σ') ∧ fX9_sets_48 F (nI n) (σ.1 56 a 3) m = some (v, m') ∧ eX M0 L 1 1 σ m C π M S σ' m' C' π' M S' ∧ (v < 0 → S' = S) := by
        have hsk := kA_sOK (kd := 1) h hn hh (by decide) (by decide) (fun h => by omega)
        obtain ⟨σ1, m1, C1, π1, r1, r2, r3, r4, r5, r6, r7, r8, r9, r10⟩ := pr_rec (F := F) (kd := 1) (v := σ.1 56 a 3) (w := 0) h (Or.inl rfl) hsk (gd_keep (kA_here h).1 hsk (Or.inl rfl)) hL hL9 h27 hS9 hR9 hF
        unfold fX9_sets_48
        rw [show (1 : Int32) = nI 1 from rfl, r1, r2, bnd_s, bnd_s, ldi_nI hn i80', ldi_nI (by omega) i400]
        obtain ⟨ev1, y1, hy1, ey1⟩ := kA_vv r3 hn
        have hH1 : nH (C1 (S + 1)) = nH (C S) := by rw [r7]; exact nH_keep (Or.inl rfl)
        refine ⟨_, σ1, m1, C1, π1, S + 1, rfl, by rw [ev1], ⟨r3, frA_B r4, frM_D r5, by omega, Nat.le_refl _, fun i hi => ⟨by rw [(r8 i hi).1]; exact tEq_rf, (r8 i hi).2⟩, r9, fun i q1 q2 => by
          obtain rfl : i = S := by omega
          exact r10, by omega, by omega⟩, fun hv => ?_⟩
        rw [ey1] at hv
        exact absurd hv (nI_pos (by omega))
      by_cases c3 : σ.1 56 a 4 = -1
      · rw [b2_t (Or.inl c3), if_neg (show ¬ (1 : Int32) = 0 by decide), if_pos c3]
        exact go
      · rw [if_neg c3, ldi_nI (by omega) i400, ev]
        by_cases c4 : σ.1 56 a 4 = σ.1 33 0 n
        · rw [b2_t (Or.inr c4), if_neg (show ¬ (1 : Int32) = 0 by decide), if_pos c4]
          exact go
        · rw [b2_f (fun q => q.elim c3 c4), if_pos (rfl : (0 : Int32) = 0), if_neg c4]
          exact triv (-3) (by decide)
    · rw [b2_f c2, if_pos (rfl : (0 : Int32) = 0), if_pos (rfl : (0 : Int32) = 0)]
      exact triv (-2) (by decide)
  · rw [b2_f c1, if_pos (rfl : (0 : Int32) = 0), if_pos (rfl : (0 : Int32) = 0)]
    exact triv (-1) (by decide)
theorem pr_check {M0 L M : Nat} {σ m : qS} {C : Nat → qS} {π : Nat → Nat} {S z a p : Nat} (hF : 100 ≤ F) (h : kA σ m C π M S) (hz : z < σ.2 0 0) (ha : a < 1 + 6 * σ.2 0 0) (hp : σ.1 50 z 1 = nI p) (hp4 : p < 4) (hπ : π S < 2 ^ 31) :
    ∃ v, fX8_tryCheck F z a σ = some (v, σ) ∧ fX9_checks F (nI p) (σ.1 56 a 1) (σ.1 56 a 4) m = some (v, m) := by
  unfold fX8_tryCheck fX9_checks
  simp only [nm_x, gnl_pos ha, gnl_pos hz, hp]
  rw [e_readingRefused (by decide), e_isThere0 (kA_rok h), bnd2_s, bnd2_s, b2_congr (kA_hl h)]
  by_cases c1 : hlds σ 0 (σ.1 56 a 1)
  · obtain ⟨n, hn, en, hh⟩ := hl_ex c1
    rw [b2_t c1, if_pos c1, if_neg (show ¬ (1 : Int32) = 0 by decide), en, ix_nI (by omega), ldi_nI (by omega) i400, e_may, bnd2_s, ← (kA_wr h hn hp4).2]
    unfold fX9_checks_54 fX9_checks_48 fX9_checks_54
    by_cases c2 : bit1 (σ.1 36 0 n) (nI p)
    · rw [b2_t c2, if_pos c2, if_pos (show (0 : Int32) ≤ 0 by decide), if_neg (show ¬ (1 : Int32) = 0 by decide), e_hasVersion (by decide) hn, bnd2_s]
      simp only [gnl_pos ha, en]
      obtain ⟨ev, y, hy, ey⟩ := kA_vv h hn
      have tl : (bnd2 (fX7_told F 0 (nI n) 1 σ) fun v13 s12 => some (v13, s12)) = some (σ.1 33 0 n, σ) := by
        rw [e_told hF (by decide) hn, bnd2_s]
        unfold tolV
        rw [if_neg (by decide), if_pos rfl]
      by_cases c3 : σ.1 56 a 4 = -1
      · rw [b2_t (Or.inl c3), if_neg (show ¬ (1 : Int32) = 0 by decide), if_pos c3, ldi_nI (by omega) i400, ev]
        exact ⟨_, tl, rfl⟩
      · rw [if_neg c3, ldi_nI (by omega) i400, ev]
        by_cases c4 : σ.1 56 a 4 = σ.1 33 0 n
        · rw [b2_t (Or.inr c4), if_neg (show ¬ (1 : Int32) = 0 by decide), if_pos c4, ldi_nI (by omega) i400, ev]
          exact ⟨_, tl, rfl⟩
        · rw [b2_f (fun q => q.elim c3 c4), if_pos rfl, if_neg c4]
          exact ⟨_, rfl, rfl⟩
    · rw [b2_f c2, if_neg c2, if_neg (show ¬ (0 : Int32) ≤ -2 by decide), if_pos rfl]
      exact ⟨_, rfl, rfl⟩
  · rw [b2_f c1, if_neg c1, if_neg (show ¬ (0 : Int32) ≤ -1 by decide), if_pos rfl]
    exact ⟨_, rfl, rfl⟩
theorem pr_delete {M0 L M : Nat} {σ m : qS} {C : Nat → qS} {π : Nat → Nat} {S z a p : Nat} (hF : 200 ≤ F) (h : kA σ m C π M S) (hz : z < σ.2 0 0) (ha : a < 1 + 6 * σ.2 0 0) (hp : σ.1 50 z 1 = nI p) (hp4 : p < 4) (hL : σ.1 0 0 15 = nI L) (hL9 : L + 1 < 2 ^ 31) (h27 : m.1 0 0 27 = nI (L + 1)) (hS9 : S + nH (C S) ≤ 999) (hR9 : π S + nH (C S) ≤ 90000) :
    ∃ v σ' m' C' π' S', fX8_tryDelete F z a σ = some (v, σ') ∧ fX9_deletes F (nI p) (σ.1 56 a 1) (σ.1 56 a 4) m = some (v, m') ∧ eX M0 L 0 0 σ m C π M S σ' m' C' π' M S' ∧ (v < 0 → S' = S) := by
  unfold fX8_tryDelete fX9_deletes
  simp only [nm_x, gnl_pos ha]
  rw [e_holds (by decide), e_isThere0 (kA_rok h), bnd2_s, bnd2_s, b2_congr (kA_hl h)]
  have triv : ∀ v : Int32, v < 0 → ∃ v' σ' m' C' π' S', (some (v, σ) : Option (Int32 × qS)) = some (v', σ') ∧ (some (v, m) : Option (Int32 × qS)) = some (v', m') ∧ eX M0 L 0 0 σ m C π M S σ' m' C' π' M S' ∧ (v' < 0 → S' = S) := fun v _ => ⟨v, σ, m, C, π, S, rfl, rfl, eX_rf h, fun _ => rfl⟩
  by_cases c1 : hlds σ 0 (σ.1 56 a 1)
  · obtain ⟨n, hn, en, hh⟩ := hl_ex c1
    rw [b2_t c1, if_neg (show ¬ (1 : Int32) = 0 by decide), if_neg (show ¬ (1 : Int32) = 0 by decide), en]
    obtain ⟨g0, g1⟩ := kA_here h
    have hh' : (C S).1 31 0 n ≠ 0 := by rw [← (kA_31 h hn).1]; exact hh
    have hnM := gdT_M g0 hn hh'
    -- behind the rights
    have rest : ∃ v σ' m' C' π' S', fX8_tryDelete_48 F z a (nI n) σ = some (v, σ') ∧ fX9_deletes_37 F (nI n) (σ.1 56 a 4) m = some (v, m') ∧ eX M0 L 0 0 σ m C π M S σ' m' C' π' M S' ∧ (v < 0 → S' = S) := by
      unfold fX8_tryDelete_48 fX9_deletes_37
      simp only [nm_x, gnl_pos ha]
      rw [e_hasVersion (by decide) hn, bnd2_s]
      obtain ⟨ev, y, hy, ey⟩ := kA_vv h hn
      have go : ∃ v σ' m' C' π' S', (if nI n = 0 then fX8_tryDelete_81 F z a σ else bnd2 (fX7_childrenOf F 0 (nI n) σ) fun v12 s11 => if v12 ≤ 0 then bnd2 (fX8_letGo F (nI n) s11) fun v15 s14 => some (v15, s14) else fX8_tryDelete_81 F z a s11) = some (v, σ') ∧ fX9_deletes_55 F (nI n) m = some (v, m') ∧ eX M0 L 0 0 σ m C π M S σ' m' C' π' M S' ∧ (v < 0 → S' = S) := by
        unfold fX8_tryDelete_81 fX9_deletes_55 fX9_deletes_68 fX9_deletes_78
        by_cases c0 : n = 0
        · subst c0
          rw [if_pos (by decide), if_pos (by decide)]
          exact triv (-6) (by decide)
        · have n0 : ¬ nI n = 0 := fun h => c0 (nI_inj (b := 0) (by omega) (by omega) h)
          rw [if_neg n0, if_neg n0, e_childrenOf (by omega) (by decide), show (0 : Int32) = nI 0 from rfl, e_children (kA_rok h) (by omega) (by decide), bnd2_s, bnd2_s]
          have ec : nCh (vw m) 0 (nI n) = nCh σ 0 (nI n) := nCh_congr (fun k k1 k2 => (kA_isCh h k2).2.trans (kA_isCh h k2).1.symm)
          rw [ec]
          by_cases c3 : nCh σ 0 (nI n) ≤ nI 0
          · rw [if_pos c3, if_pos c3]
            have c4 := nCh_le0 c3
            unfold fX8_letGo fX9_goes
            obtain ⟨σ', m', C', π', S', g, q1, q2, q3, q4, q5⟩ := pr_goes (F := F) (M0 := M0) (L := L) hL9 (by omega) n σ m C π S 0 F F h (by omega) hn hh' (fun k k1 k2 k3 k4 => by
              refine nCh_0 c4 k k1 k2 ((kA_isCh h k2).1.mpr ⟨k3, ?_⟩)
              rw [(bwf_par g0.1.1 k1 k2 (gdT_M g0 k2 k3)).1, k4]) hL h27 hS9 hR9 (by omega) (by omega) (by omega)
            rw [show (0 : Int32) = nI 0 from rfl, q1, q2, bnd2_s, bnd2_s]
            exact ⟨_, _, _, C', π', S', rfl, rfl, q5, fun hv => absurd hv (nI_pos (by omega))⟩
          · rw [if_neg c3, if_neg c3]
            exact triv (-6) (by decide)
      by_cases c3 : σ.1 56 a 4 = -1
      · rw [b2_t (Or.inl c3), if_neg (show ¬ (1 : Int32) = 0 by decide), if_pos c3]
        exact go
      · rw [if_neg c3, ldi_nI (by omega) i400, ev]
        by_cases c4 : σ.1 56 a 4 = σ.1 33 0 n
        · rw [b2_t (Or.inr c4), if_neg (show ¬ (1 : Int32) = 0 by decide), if_pos c4]
          exact go
        · rw [b2_f (fun q => q.elim c3 c4), if_pos rfl, if_neg c4]
          exact triv (-3) (by decide)
    by_cases c0 : n = 0
    · have n0 : nI n ≤ 0 := by rw [c0]; decide
      rw [if_pos n0, if_pos n0]
      exact rest
    · have n0 : ¬ nI n ≤ 0 := nI_nle (by omega) (by omega)
      obtain ⟨hp1, hp2⟩ := bwf_par h.2.1.2.2.1 (show 1 ≤ n by omega) hn hnM
      have e100 : m.1 100 0 n = nI (parN σ n) := by rw [(h.2.1.2.2.2.2.2 n hn hnM).1]; exact hp1
      rw [if_neg n0, if_neg n0, ldi_nI hn i80', ldi_nI hn i80', hp1, e100, gnl_pos hz, hp, e_mayWrite (by decide) (by omega), bnd2_s, ldi_nI (by omega) i400, e_may, bnd2_s, (kA_wr h (by omega) hp4).1]
      by_cases c2 : bit1 (m.1 114 0 (parN σ n)) (nI p)
      · rw [b2_t c2, if_neg (show ¬ (1 : Int32) = 0 by decide), if_neg (show ¬ (1 : Int32) = 0 by decide)]
        exact rest
      · rw [b2_f c2, if_pos rfl, if_pos rfl]
        exact triv (-2) (by decide)
  · rw [b2_f c1, if_pos rfl, if_pos rfl]
    exact triv (-1) (by decide)
end AC

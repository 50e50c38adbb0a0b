/-! PURE: rights as an act, in both; rows to reckon in do not count -/
section RT
variable {F : Nat}
theorem kLog_fr {σ σ' m : qS} {C : Nat → qS} {π : Nat → Nat} {M S : Nat} (h : kLog σ m C π M S) (e : ∀ f, (1 ≤ f ∧ f ≤ 6 ∨ 9 ≤ f ∧ f ≤ 13) → σ'.1 f 0 = σ.1 f 0) : kLog σ' m C π M S := by
  obtain ⟨h1, h2, h3, h4⟩ := h
  refine ⟨by rw [e 9 (by decide)]; exact h1, h2, fun i hi => ?_, fun i hi => ⟨(h4 i hi).1, fun f k k1 k2 k3 k4 => by rw [e f (by omega)]; exact (h4 i hi).2 f k k1 k2 k3 k4⟩⟩
  have ek : kdN σ' i = kdN σ i := by unfold kdN; rw [e 11 (by decide)]
  have en : ndN σ' i = ndN σ i := by unfold ndN; rw [e 12 (by decide)]
  have ec : chN σ' i = chN σ i := by unfold chN; rw [e 10 (by decide)]
  have h9 := h3 i hi
  unfold lgC lgR at h9 ⊢
  rw [ek, en, ec, e 10 (by decide), e 11 (by decide), e 12 (by decide), e 13 (by decide)]
  exact h9
theorem kBr_fr {σ σ' m : qS} {M : Nat} (h : kBr σ m M) (e : ∀ f, (1 ≤ f ∧ f ≤ 6 ∨ 9 ≤ f ∧ f ≤ 13) → σ'.1 f 0 = σ.1 f 0) : kBr σ' m M := by
  obtain ⟨b1, b2, b3, b4, b5, b6⟩ := h
  refine ⟨by rw [e 1 (by decide)]; exact b1, b2, ⟨by rw [e 2 (by decide)]; exact b3.1, fun k k1 k2 k3 => by rw [e 2 (by decide)]; exact b3.2 k k1 k2 k3⟩, b4, b5, fun k k1 k2 => ?_⟩
  have e4 : isHd σ' k = isHd σ k := by unfold isHd; rw [e 4 (by decide)]
  rw [e4, e 2 (by decide), e 3 (by decide), e 4 (by decide), e 5 (by decide), e 6 (by decide)]
  exact b6 k k1 k2
theorem kA_sq {σ σ' m : qS} {C : Nat → qS} {π : Nat → Nat} {M S : Nat} (h : kA σ m C π M S) (e : sq σ σ') : kA σ' m C π M S := by
  obtain ⟨h1, h2, h3, h4, h5⟩ := h
  have e0 : ∀ f, (1 ≤ f ∧ f ≤ 6 ∨ 9 ≤ f ∧ f ≤ 13) → σ'.1 f 0 = σ.1 f 0 := fun f hf => e.2 f 0 (by omega) (by omega)
  exact ⟨kLog_fr h1 e0, kBr_fr h2 e0, fun f k k1 k2 k3 => by rw [e.2 f 0 (by omega) (by omega)]; exact h3 f k k1 k2 k3, h4, h5⟩
theorem eX_sq {M0 L a b : Nat} {σ m σ' m' σ2 : qS} {C C' : Nat → qS} {π π' : Nat → Nat} {M S M' S' : Nat} (h : eX M0 L a b σ m C π M S σ' m' C' π' M' S') (e : sq σ' σ2) : eX M0 L a b σ m C π M S σ2 m' C' π' M' S' := by
  obtain ⟨h1, h2, h3, h4, h5, h6, h7, h8, h9, h10⟩ := h
  have ec : ∀ i, chN σ2 i = chN σ' i := fun i => by unfold chN; rw [e.2 10 0 (by decide) (by decide)]
  exact ⟨kA_sq h1 e, ⟨e.1.trans h2.1, fun f j k w1 w2 w3 w4 w5 w6 w7 => by rw [e.2 f j w1 w2]; exact h2.2 f j k w1 w2 w3 w4 w5 w6 w7⟩, h3, h4, h5, h6, fun i hi => (ec i).trans (h7 i hi), fun i q1 q2 => (ec i).trans (h8 i q1 q2), h9, h10⟩
theorem nBl_cp {a b : qS} {i j M n : Nat} (hb : bEq M b a) (ht : tEq a i b j) (hw : wfT b j) (hM : ∀ k, k < 80 → b.1 31 j k ≠ 0 → k < M) (hn : n < 80) : nBl a i n = nBl b j n := by
  have hwa := wfT_cp hb ht hw hM
  rw [← isBl_nBl hwa hn, ← isBl_nBl hw hn]
  apply cntN_congr
  intro k k1 k2
  unfold isBl
  rw [ht 31 k (by decide) (by decide) (by omega)]
  refine and_congr_right fun _ => and_congr_right fun hh => ?_
  rw [isB_congr (wfT_hp hw) (fun q hq _ => (bEq_par hb hq.1 (hM q hq.1 hq.2)).symm) 80 k ⟨by omega, hh⟩]
theorem pr_rights {M0 L M : Nat} {σ m : qS} {C : Nat → qS} {π : Nat → Nat} {S z a p kd x y : Nat} (hF : 100 ≤ F) (h : kA σ m C π M S) (hz : z < σ.2 0 0) (ha : a < 1 + 6 * σ.2 0 0) (hp : σ.1 50 z 1 = nI p) (hp4 : p < 4) (hL : σ.1 0 0 15 = nI L) (hL9 : L + 1 < 2 ^ 31) (h27 : m.1 0 0 27 = nI (L + 1)) (hS9 : S < 999) (hR9 : π S + 80 ≤ 90000) (h34 : kd = 3 ∨ kd = 4) (hk : σ.1 56 a 0 = nI kd) (hx : x < 16) (hy : y < 16) (hv : σ.1 56 a 3 = nI (x + 16 * y)) :
    ∃ v σ' m' C' π' S', fX8_tryRights F z a σ = some (v, σ') ∧ fX9_gives F (nI p) (σ.1 56 a 1) (nI x) (nI y) (if kd = 4 then 1 else 0) m = some (v, m') ∧ eX M0 L 1 80 σ m C π M S σ' m' C' π' M S' ∧ (v < 0 → S' = S) := by
  unfold fX8_tryRights fX9_gives
  simp only [nm_x, gnl_pos ha]
  rw [e_holds (by decide), e_isThere0 (kA_rok h), bnd2_s, bnd2_s, b2_congr (kA_hl h)]
  have triv : ∀ v : Int32, v < 0 → ∃ v' σ' m' C' π' S', (some (v, σ) : Option (Int32 × qS)) = some (v', σ') ∧ (some (v, m) : Option (Int32 × qS)) = some (v', m') ∧ eX M0 L 1 80 σ m C π M S σ' m' C' π' M S' ∧ (v' < 0 → S' = S) := fun v _ => by
    obtain ⟨q1, q2, q3, q4, q5, q6, q7, q8, q9, q10⟩ := eX_rf (M0 := M0) (L := L) h
    exact ⟨v, σ, m, C, π, S, rfl, rfl, ⟨q1, q2, q3, q4, q5, q6, q7, q8, by omega, by omega⟩, fun _ => rfl⟩
  by_cases c1 : hlds σ 0 (σ.1 56 a 1)
  · obtain ⟨n, hn, en, hh⟩ := hl_ex c1
    rw [b2_t c1, if_neg (show ¬ (1 : Int32) = 0 by decide), if_neg (show ¬ (1 : Int32) = 0 by decide), en, gnl_pos hz, hp, e_mayWrite (by decide) hn, bnd2_s, ldi_nI (by omega) i400, e_may, bnd2_s, (kA_wr h hn hp4).1]
    by_cases c2 : bit1 (m.1 114 0 n) (nI p)
    · rw [b2_t c2, if_neg (show ¬ (1 : Int32) = 0 by decide), if_neg (show ¬ (1 : Int32) = 0 by decide)]
      simp only [gnl_pos ha, hk, hv]
      obtain ⟨g0, g1⟩ := kA_here h
      have hh' : (C S).1 31 0 n ≠ 0 := by rw [← (kA_31 h hn).1]; exact hh
      have hsk := kA_sOK (kd := kd) h hn hh (by omega) (by omega) (fun h => by omega)
      have hwf : wfT σ 0 := wfT_cp g1 h.2.2.1 (gdT_wf g0) (fun k k1 k2 => gdT_M g0 k1 k2)
      obtain ⟨σ1, r1, r2⟩ := e_record (F := F) (v := nI (x + 16 * y)) (n := n) (kd := kd) h.1.1 (by omega) hL hF hn (by omega) (fun q => by omega) (fun _ => ⟨hwf, hh⟩)
      obtain ⟨m1, s1, s2, s3, s4, s5⟩ := pr_gives (F := F) hF h h34 hn hh' hx hy h27 hR9
      have hgd := gd_keep (v := nI (x + 16 * y)) g0 hsk (by omega : kd = 1 ∨ kd = 3 ∨ kd = 4)
      have hx' := kLog_ext (m' := m1) h.1 r2 hsk hgd s3 (fun f q h1 h2 h3 => s2.2 f 0 q (by omega) (by omega) (by omega)) s4 hL9
      have eC1 : xC C S (stC (C S) kd n (nI (x + 16 * y))) (S + 1) = stC (C S) kd n (nI (x + 16 * y)) := if_neg (by omega)
      have eP1 : xP π S (π S + blkN (C S) kd n) (S + 1) = π S + blkN (C S) kd n := if_neg (by omega)
      have hble : blkN (C S) kd n ≤ 80 := cntN_le
      have hH : nH (stC (C S) kd n (nI (x + 16 * y))) = nH (C S) := nH_keep (by omega)
      have e3137 : ∀ f k, (f = 31 ∨ f = 33 ∨ f = 37) → (stC (C S) kd n (nI (x + 16 * y))).1 f 0 k = (C S).1 f 0 k := fun f k hf => by
        rw [stC_t (by omega) (by omega)]
        obtain rfl | rfl := h34
        · rw [apT_3, if_neg (by omega), if_neg (by omega)]
        · rw [apT_4, if_neg (by omega), if_neg (by omega)]
      have hbr : kBr σ1 m1 M := by
        obtain ⟨b1, b2, b3, b4, b5, b6⟩ := h.2.1
        refine ⟨by rw [rcS_o r2 (by omega)]; exact b1, by rw [s2.2 0 0 7 (by omega) (by omega) (by omega)]; exact b2, ⟨by rw [rcS_o r2 (by omega)]; exact b3.1, fun k k1 k2 k3 => by rw [rcS_o r2 (by omega)]; exact b3.2 k k1 k2 k3⟩, b4, b5, fun k k1 k2 => ?_⟩
        have e4 : isHd σ1 k = isHd σ k := by unfold isHd; rw [rcS_o r2 (by omega)]
        rw [e4, s2.2 100 0 k (by omega) (by omega) (by omega), s2.2 101 0 k (by omega) (by omega) (by omega), s2.2 102 0 k (by omega) (by omega) (by omega), s2.2 103 0 k (by omega) (by omega) (by omega), s2.2 104 0 k (by omega) (by omega) (by omega), rcS_o r2 (by omega), rcS_o r2 (by omega), rcS_o r2 (by omega), rcS_o r2 (by omega), rcS_o r2 (by omega)]
        exact b6 k k1 k2
      have hpar : parN (C S) n < 80 := by
        by_cases c : 1 ≤ n
        · have := (bwf_par g0.1.1 c hn hsk.2.1).2
          omega
        · obtain rfl : n = 0 := by omega
          unfold parN
          rw [g0.1.1.1]
          decide
      have htr : tEq σ1 0 (stC (C S) kd n (nI (x + 16 * y))) 0 := fun f k h1 h2 h3 => by
        rw [r2.2 f 0 k (by omega) (by omega), if_pos ⟨rfl, h1, h2⟩, stC_t h1 h2]
        exact apT_cp (by omega) hn hsk.2.1 hpar g1 h.2.2.1 (gdT_wf g0) (fun k k1 k2 => gdT_M g0 k1 k2) h1 h2 h3
      have hkA : kA σ1 m1 (xC C S (stC (C S) kd n (nI (x + 16 * y)))) (xP π S (π S + blkN (C S) kd n)) M (S + 1) := by
        refine ⟨hx', hbr, by rw [eC1]; exact htr, ?_, fun k k1 => ?_⟩
        · rw [eC1]
          exact rEq_congr s5 (fun f k h1 h2 h3 => stC_t h1 (by omega))
        · rw [eC1, eP1, e3137 31 k (by omega), e3137 37 k (by omega), e3137 33 k (by omega), s2.2 105 0 k (by omega) (by omega) (by omega)]
          obtain ⟨q1, y', q2, q3⟩ := h.2.2.2.2 k k1
          exact ⟨q1, y', by omega, q3⟩
      have hex : eX M0 L 1 80 σ m C π M S σ1 m1 (xC C S (stC (C S) kd n (nI (x + 16 * y)))) (xP π S (π S + blkN (C S) kd n)) M (S + 1) := by
        refine ⟨hkA, frA_B (rcS_frA r2), frM_D s2, by omega, Nat.le_refl _, fun i hi => ⟨?_, if_pos hi⟩, fun i hi => ?_, fun i q1 q2 => ?_, by rw [eC1, hH]; omega, by rw [eC1, eP1, hH]; omega⟩
        · have : xC C S (stC (C S) kd n (nI (x + 16 * y))) i = C i := if_pos hi
          rw [this]
          exact tEq_rf
        · unfold chN; rw [rcS_o r2 (by omega)]
        · obtain rfl : i = S := by omega
          unfold chN
          rw [r2.2 10 0 _ (by omega) (by omega), if_neg (by omega), if_pos ⟨rfl, rfl, rfl⟩, ix_nI (by omega)]
      have hz1 : σ1.2 = σ.2 := r2.1
      have e56 : σ1.1 56 a 0 = nI kd := by rw [rcS_o r2 (by omega)]; exact hk
      rw [r1, bnd_s, show (0 : Int32) = nI 0 from rfl, show (nI 0 : Int32) = 0 from rfl, s1, hz1, gnl_pos ha, e56]
      unfold fX8_tryRights_71
      obtain rfl | rfl := h34
      · rw [if_neg (by decide), blkN_3 hn]
        exact ⟨_, _, _, _, _, S + 1, rfl, rfl, hex, fun hv => absurd hv (by decide)⟩
      · rw [if_pos (by decide)]
        have hwf1 : wfT σ1 0 := wfT_cp (hx'.2.2.2 (S + 1) (Nat.le_refl _)).2 (by rw [eC1]; exact htr) (by rw [eC1]; exact gdT_wf hgd) (fun k k1 k2 => by rw [eC1] at k2; exact gdT_M hgd k1 k2)
        obtain ⟨σ2, t1, t2⟩ := e_belowOf (F := F) (a := n) hwf1 hF (by decide) hn
        have eb : nBl σ1 0 n = nBl (C S) 0 n := by
          have q1 : nBl σ1 0 n = nBl (stC (C S) 4 n (nI (x + 16 * y))) 0 n := nBl_cp (M := M) (fun f k k1 k2 k3 k4 => by
            rw [rcS_o r2 (by omega)]
            exact bEq_stC g1 f k k1 k2 k3 k4) htr (gdT_wf hgd) (fun k k1 k2 => gdT_M hgd k1 k2) hn
          rw [q1]
          unfold nBl
          rw [stC_par]
          apply cntN_congr
          intro k k1 k2
          rw [e3137 31 k (by omega)]
        rw [t1, bnd2_s, eb]
        rw [blkN_4 hn (gdT_wf g0), show (1 : Int32) = nI 1 from rfl, nI_add]
        exact ⟨_, _, _, _, _, S + 1, rfl, rfl, eX_sq hex t2, fun hv => absurd hv (nI_pos (by
          have : nBl (C S) 0 n ≤ 79 - n := cntN_le
          omega))⟩
    · rw [b2_f c2, if_pos rfl, if_pos rfl]
      exact triv (-2) (by decide)
  · rw [b2_f c1, if_pos rfl, if_pos rfl]
    exact triv (-1) (by decide)
end RT

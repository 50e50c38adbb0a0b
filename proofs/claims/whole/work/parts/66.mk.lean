/-! PURE: MADE as an act, in both -/
theorem wfT_cp1 {a b : qS} {i j : Nat} (h31 : ∀ k, k < 80 → a.1 31 i k = b.1 31 j k) (h2 : ∀ k, k < 80 → b.1 31 j k ≠ 0 → a.1 2 0 k = b.1 2 0 k) (hw : wfT b j) : wfT a i := by
  refine ⟨by rw [h31 0 (by decide)]; exact hw.1, fun k k1 k2 k3 => ?_⟩
  rw [h31 k k2] at k3
  obtain ⟨q, g1, g2, g3⟩ := hw.2 k k1 k2 k3
  exact ⟨q, g1, by rw [h2 k k2 k3]; exact g2, by rw [h31 q (by omega)]; exact g3⟩
theorem nBl_cp1 {a b : qS} {i j n : Nat} (h31 : ∀ k, k < 80 → a.1 31 i k = b.1 31 j k) (h2 : ∀ k, k < 80 → b.1 31 j k ≠ 0 → a.1 2 0 k = b.1 2 0 k) (hw : wfT b j) (hn : n < 80) : nBl a i n = nBl b j n := by
  have hwa := wfT_cp1 h31 h2 hw
  rw [← isBl_nBl hwa hn, ← isBl_nBl hw hn]
  apply cntN_congr
  intro k k1 k2
  unfold isBl
  rw [h31 k (by omega)]
  refine and_congr_right fun _ => and_congr_right fun hh => ?_
  rw [isB_congr (wfT_hp hw) (fun q hq _ => by unfold parN; rw [h2 q hq.1 hq.2]) 80 k ⟨by omega, hh⟩]
/-- quotas in both -/
def kQ (σ m : qS) (M : Nat) : Prop := ∀ k, k < 80 → (k < M → (σ.1 14 0 k = 80 ∧ m.1 106 0 k = -1) ∨ ∃ x, x ≤ 80 ∧ σ.1 14 0 k = nI x ∧ m.1 106 0 k = nI x) ∧ (M ≤ k → σ.1 14 0 k = 80)
theorem nBl_le {σ : qS} {i k : Nat} (hk : k < 80) : nBl σ i k ≤ 79 := Nat.le_trans cntN_le (by omega)
section MK
variable {F : Nat}
theorem kA_vw {σ m : qS} {C : Nat → qS} {π : Nat → Nat} {M S : Nat} (h : kA σ m C π M S) : (∀ k, k < 80 → (vw m).1 31 0 k = (C S).1 31 0 k) ∧ ∀ k, k < 80 → (C S).1 31 0 k ≠ 0 → (vw m).1 2 0 k = (C S).1 2 0 k := by
  obtain ⟨g0, g1⟩ := kA_here h
  refine ⟨fun k hk => (kA_31 h hk).2, fun k hk hh => ?_⟩
  have hM := gdT_M g0 hk hh
  show m.1 100 0 k = _
  rw [(h.2.1.2.2.2.2.2 k hk hM).1, g1 2 k (by decide) (by decide) hM hk]
theorem kA_quo {σ m : qS} {C : Nat → qS} {π : Nat → Nat} {M S u : Nat} (h : kA σ m C π M S) (hq : kQ σ m M) (hu : u < 80) (hh : (C S).1 31 0 u ≠ 0) : cq (parN σ) (badC σ) 80 u ↔ cq (parN (vw m)) (badM m) 80 u := by
  obtain ⟨g0, g1⟩ := kA_here h
  obtain ⟨v1, v2⟩ := kA_vw h
  have hw := gdT_wf g0
  have s2 : ∀ k, k < 80 → (C S).1 31 0 k ≠ 0 → σ.1 2 0 k = (C S).1 2 0 k := fun k k1 k2 => (g1 2 k (by decide) (by decide) (gdT_M g0 k1 k2) k1).symm
  have s1 : ∀ k, k < 80 → σ.1 31 0 k = (C S).1 31 0 k := fun k hk => (kA_31 h hk).1
  have e1 : cq (parN (C S)) (badC σ) 80 u ↔ cq (parN σ) (badC σ) 80 u := cq_congr (P := fun k => k < 80 ∧ (C S).1 31 0 k ≠ 0) (wfT_hp hw) (fun k hk _ => by unfold parN; rw [s2 k hk.1 hk.2]) (fun _ _ => Iff.rfl) 80 u ⟨hu, hh⟩
  have e2 : cq (parN (C S)) (badC σ) 80 u ↔ cq (parN (vw m)) (badM m) 80 u := cq_congr (P := fun k => k < 80 ∧ (C S).1 31 0 k ≠ 0) (wfT_hp hw) (fun k hk _ => by unfold parN; rw [v2 k hk.1 hk.2]) (fun k hk => by
    have b1 : nBl σ 0 k = nBl (C S) 0 k := nBl_cp1 s1 s2 hw hk.1
    have b2 : nBl (vw m) 0 k = nBl (C S) 0 k := nBl_cp1 v1 v2 hw hk.1
    unfold badC badM
    rw [b1, b2]
    have hle := nBl_le (σ := C S) (i := 0) hk.1
    rcases (hq k hk.1).1 (gdT_M g0 hk.1 hk.2) with ⟨q1, q2⟩ | ⟨x, q0, q1, q2⟩
    · rw [q1, q2]
      constructor
      · intro h9
        exact absurd ((nI_lt' (b := 80) (by omega) (by decide)).mpr (by omega)) h9
      · intro h9
        exact absurd (by decide) h9.1
    · rw [q1, q2, nI_1, nI_lt' (by omega) (by omega), nI_le' (by omega) (by omega)]
      constructor
      · intro h9; exact ⟨nI_pos (by omega), by omega⟩
      · intro h9; omega) 80 u ⟨hu, hh⟩
  exact e1.symm.trans e2
theorem kA_nm {σ m : qS} {C : Nat → qS} {π : Nat → Nat} {M S : Nat} (h : kA σ m C π M S) {k : Nat} {p q : Int32} (hk : k < 80) : (isNm σ 0 p q k ↔ isNm (C S) 0 p q k) ∧ (isNm (vw m) 0 p q k ↔ isNm (C S) 0 p q k) := by
  obtain ⟨i1, i2⟩ := kA_isCh h (p := p) hk
  obtain ⟨g0, g1⟩ := kA_here h
  unfold isNm
  rw [i1, i2]
  refine ⟨and_congr_right fun hh => ?_, and_congr_right fun hh => ?_⟩
  · rw [g1 3 k (by decide) (by decide) (gdT_M g0 hk hh.1) hk]
  · have hb := (h.2.1.2.2.2.2.2 k hk (gdT_M g0 hk hh.1)).2.1
    show m.1 101 0 k = q ↔ _
    rw [hb, g1 3 k (by decide) (by decide) (gdT_M g0 hk hh.1) hk]
/-- the reference's rows for a node that is made -/
def mkM (m m3 : qS) (M u : Nat) (up nm wk wh cn : Int32) : Prop := m3.2 = m.2 ∧ ∀ f j k, m3.1 f j k = if j = 0 ∧ f = 104 ∧ k = M then m.1 0 0 27 else if j = 0 ∧ f = 103 ∧ k = M then wh else if j = 0 ∧ f = 102 ∧ k = M then wk else if j = 0 ∧ f = 106 ∧ k = M then -1 else if j = 0 ∧ f = 105 ∧ k = M then 0 else if j = 0 ∧ f = 105 ∧ k = u then cn else if j = 0 ∧ f = 101 ∧ k = M then nm else if j = 0 ∧ f = 100 ∧ k = M then up else if j = 0 ∧ f = 0 ∧ k = 7 then nI (M + 1) else m.1 f j k
theorem e_mkM {m : qS} {M u : Nat} {z up nm nb val wk lease : Int32} (hu : u < M) (hM : M < 80) (hup : up = nI u) : ∃ m3, mkM m m3 M u up nm wk (if wk = 1 then z else if wk = 2 then lease else -1) (m.1 105 0 u + nb) ∧ fX9_makes_146 F z up nb val wk lease (nI M) (nI M) nm (qI (qI m 0 0 7 (nI (M + 1))) 100 0 M up) = bnd (fX9_step F 0 (nI M) val 0 m3) (fun s37 => some (nI M, s37)) := by
  subst hup
  have hu8 : u < 80 := by omega
  unfold fX9_makes_146 fX9_makes_211
  have e1 : (qI (qI (qI m 0 0 7 (nI (M + 1))) 100 0 M (nI u)) 101 0 M nm).1 105 0 u = m.1 105 0 u := by rw [qI_ap, if_neg (by omega), qI_ap, if_neg (by omega), qI_ap, if_neg (by omega)]
  simp only [nm_x, inx_nI hM i80', ix_nI (show M < 2 ^ 31 by omega), ldi_nI hu8 i80', e1, inx_nI hu8 i80', ix_nI (show u < 2 ^ 31 by omega)]
  have e27 : ∀ (s : qS) (w : Int32), s.1 0 0 27 = m.1 0 0 27 → (qI s 103 0 M w).1 0 0 27 = m.1 0 0 27 := fun s w h => by rw [qI_ap, if_neg (by omega), h]
  have e27' : (qI (qI (qI (qI (qI (qI (qI m 0 0 7 (nI (M + 1))) 100 0 M (nI u)) 101 0 M nm) 105 0 u (m.1 105 0 u + nb)) 105 0 M 0) 106 0 M (-1)) 102 0 M wk).1 0 0 27 = m.1 0 0 27 := by
    rw [qI_ap, if_neg (by omega), qI_ap, if_neg (by omega), qI_ap, if_neg (by omega), qI_ap, if_neg (by omega), qI_ap, if_neg (by omega), qI_ap, if_neg (by omega), qI_ap, if_neg (by omega)]
  simp only [e27 _ _ e27']
  refine ⟨qI (qI (qI (qI (qI (qI (qI (qI (qI m 0 0 7 (nI (M + 1))) 100 0 M (nI u)) 101 0 M nm) 105 0 u (m.1 105 0 u + nb)) 105 0 M 0) 106 0 M (-1)) 102 0 M wk) 103 0 M (if wk = 1 then z else if wk = 2 then lease else -1)) 104 0 M (m.1 0 0 27), ⟨rfl, fun f j k => ?_⟩, ?_⟩
  · simp only [qI_ap]
    by_cases c : j = 0
    · subst c
      simp only [true_and]
    · simp [c]
  · by_cases w1 : wk = 1
    · rw [if_pos w1, if_pos w1]
    · rw [if_neg w1, if_neg w1]
      by_cases w2 : wk = 2
      · rw [if_pos w2, if_pos w2]
      · rw [if_neg w2, if_neg w2]
theorem pr_mk1 {M0 L M : Nat} {σ m : qS} {C : Nat → qS} {π : Nat → Nat} {S z a u y x : Nat} {zi lease wk called : Int32} {nb : Bool} (hF : 200 ≤ F) (h : kA σ m C π M S) (hQ : kQ σ m M) (ha : a < 1 + 6 * σ.2 0 0) (hL : σ.1 0 0 15 = nI L) (hL9 : L + 1 < 2 ^ 31) (h27 : m.1 0 0 27 = nI (L + 1)) (hS9 : S < 999) (hR9 : π S < 90000) (hM0 : M0 ≤ M) (hM8 : M < 80) (hu : u < 80) (hhC : (C S).1 31 0 u ≠ 0) (hnh : ¬ isHd (C S) u) (hup : σ.1 56 a 1 = nI u) (hwk : σ.1 56 a 5 = wk) (ey : (C S).1 37 0 u = nI y) (hyM : y ≤ M)
    (hx : (x < 100 ∧ nb = false ∧ ∀ k, 1 ≤ k → k < 80 → ¬ isNm (C S) 0 (nI u) (nI x) k) ∨ (nb = true ∧ x = 1000 + y)) (hh1 : wk = 1 → σ.1 56 a 6 = zi) (hh2 : wk = 2 → σ.1 56 a 6 = lease) :
    ∃ σ' m' C' π', fX8_tryMake_150 F z a (nI M) (nI x) σ = some (nI M, σ') ∧ fX9_makes_146 F zi (nI u) (if nb = true then 1 else 0) (σ.1 56 a 3) wk lease (nI M) (nI M) (nI x) (qI (qI m 0 0 7 (nI (M + 1))) 100 0 M (nI u)) = some (nI M, m') ∧ eX M0 L 1 2 σ m C π M S σ' m' C' π' (M + 1) (S + 1) ∧ kQ σ' m' (M + 1) := by
  obtain ⟨g0, g1⟩ := kA_here h
  have huM := gdT_M g0 hu hhC
  obtain ⟨hl, ⟨b1, b2, b3, b4, b5, b6⟩, ht, hr, hc⟩ := h
  have hx31 : x < 2 ^ 31 := by rcases hx with q | q <;> omega
  -- the births
  obtain ⟨σ1, r1, r2⟩ := e_birth (F := F) (a := a) (nm := nI x) (ch := nI (L + 1)) b1 hM8 ha
  obtain ⟨m1, s1, s2⟩ := e_mkM (F := F) (m := m) (z := zi) (nb := if nb = true then 1 else 0) (val := σ.1 56 a 3) (wk := wk) (lease := lease) (nm := nI x) (up := nI u) huM hM8 rfl
  have o1 : ∀ f j k, ¬ (2 ≤ f ∧ f ≤ 6 ∧ j = 0 ∧ k = M) → ¬ (f = 1 ∧ j = 0 ∧ k = 5) → σ1.1 f j k = σ.1 f j k := fun f j k w1 w2 => by
    rw [r2.2, if_neg (by omega), if_neg (by omega), if_neg (by omega), if_neg (by omega), if_neg (by omega), if_neg (by omega)]
  have p1 : ∀ f j k, ¬ (j = 0 ∧ 100 ≤ f ∧ f ≤ 104 ∧ k = M) → ¬ (j = 0 ∧ f = 106 ∧ k = M) → ¬ (j = 0 ∧ f = 105 ∧ (k = M ∨ k = u)) → ¬ (j = 0 ∧ f = 0 ∧ k = 7) → m1.1 f j k = m.1 f j k := fun f j k w1 w2 w3 w4 => by
    rw [s1.2, if_neg (by omega), if_neg (by omega), if_neg (by omega), if_neg (by omega), if_neg (by omega), if_neg (by omega), if_neg (by omega), if_neg (by omega), if_neg (by omega)]
  have n2 : σ1.1 2 0 M = nI u := by rw [r2.2, if_pos ⟨rfl, rfl, rfl⟩, hup]
  have n3 : σ1.1 3 0 M = nI x := by rw [r2.2, if_neg (by omega), if_pos ⟨rfl, rfl, rfl⟩]
  have n4 : σ1.1 4 0 M = wk := by rw [r2.2, if_neg (by omega), if_neg (by omega), if_pos ⟨rfl, rfl, rfl⟩, hwk]
  have n5 : σ1.1 5 0 M = σ.1 56 a 6 := by rw [r2.2, if_neg (by omega), if_neg (by omega), if_neg (by omega), if_pos ⟨rfl, rfl, rfl⟩]
  have n6 : σ1.1 6 0 M = nI (L + 1) := by rw [r2.2, if_neg (by omega), if_neg (by omega), if_neg (by omega), if_neg (by omega), if_pos ⟨rfl, rfl, rfl⟩]
  have n1 : σ1.1 1 0 5 = nI (M + 1) := by rw [r2.2, if_neg (by omega), if_neg (by omega), if_neg (by omega), if_neg (by omega), if_neg (by omega), if_pos ⟨rfl, rfl, rfl⟩]
  have q104 : m1.1 104 0 M = nI (L + 1) := by rw [s1.2, if_pos ⟨rfl, rfl, rfl⟩, h27]
  have q103 : m1.1 103 0 M = (if wk = 1 then zi else if wk = 2 then lease else -1) := by rw [s1.2, if_neg (by omega), if_pos ⟨rfl, rfl, rfl⟩]
  have q102 : m1.1 102 0 M = wk := by rw [s1.2, if_neg (by omega), if_neg (by omega), if_pos ⟨rfl, rfl, rfl⟩]
  have q106 : m1.1 106 0 M = -1 := by rw [s1.2, if_neg (by omega), if_neg (by omega), if_neg (by omega), if_pos ⟨rfl, rfl, rfl⟩]
  have q105 : m1.1 105 0 M = 0 := by rw [s1.2, if_neg (by omega), if_neg (by omega), if_neg (by omega), if_neg (by omega), if_pos ⟨rfl, rfl, rfl⟩]
  have q105u : m1.1 105 0 u = m.1 105 0 u + (if nb = true then 1 else 0) := by rw [s1.2, if_neg (by omega), if_neg (by omega), if_neg (by omega), if_neg (by omega), if_neg (by omega), if_pos ⟨rfl, rfl, rfl⟩]
  have q101 : m1.1 101 0 M = nI x := by rw [s1.2, if_neg (by omega), if_neg (by omega), if_neg (by omega), if_neg (by omega), if_neg (by omega), if_neg (by omega), if_pos ⟨rfl, rfl, rfl⟩]
  have q100 : m1.1 100 0 M = nI u := by rw [s1.2, if_neg (by omega), if_neg (by omega), if_neg (by omega), if_neg (by omega), if_neg (by omega), if_neg (by omega), if_neg (by omega), if_pos ⟨rfl, rfl, rfl⟩]
  have q7 : m1.1 0 0 7 = nI (M + 1) := by rw [s1.2, if_neg (by omega), if_neg (by omega), if_neg (by omega), if_neg (by omega), if_neg (by omega), if_neg (by omega), if_neg (by omega), if_neg (by omega), if_pos ⟨rfl, rfl, rfl⟩]
  have hbw1 : bwf σ1 (M + 1) := ⟨by rw [o1 _ _ _ (by omega) (by omega)]; exact b3.1, fun k k1 k2 k3 => by
    by_cases e : k = M
    · subst e; exact ⟨u, huM, n2⟩
    · rw [o1 _ _ _ (by omega) (by omega)]; exact b3.2 k k1 k2 (by omega)⟩
  have hl1 := kLog_born (m1 := m1) hl r2 hbw1 hM8 (fun f q h1 h2 => p1 f 0 q (by omega) (by omega) (by omega) (by omega)) (p1 _ _ _ (by omega) (by omega) (by omega) (by omega))
  have cb : ∀ f k, 2 ≤ f → f ≤ 6 → (setB σ1 (C S)).1 f 0 k = σ1.1 f 0 k := fun f k h1 h2 => by rw [setB_b h1 h2]
  have ct : ∀ f k, 31 ≤ f → (setB σ1 (C S)).1 f 0 k = (C S).1 f 0 k := fun f k h1 => by rw [setB_t h1]
  obtain ⟨w0, w1⟩ := hl1.2.2.2 S (Nat.le_refl _)
  have eparM : parN (setB σ1 (C S)) M = u := by
    unfold parN
    rw [cb 2 M (by decide) (by decide), n2, ix_nI (by omega)]
  have hfr := g0.2.2.2.2.2.2.1 M (Nat.le_refl _) hM8
  have hM31 : (C S).1 31 0 M = 0 := by
    rcases g0.2.1 M hM8 with q | q
    · exact q
    · omega
  have hsk : sOK (setB σ1 (C S)) 0 M (M + 1) := ⟨hM8, by omega, by decide, fun _ => ⟨by omega, by rw [ct _ _ (by decide)]; exact hM31, by rw [ct _ _ (by decide)]; exact hfr.1, by rw [ct _ _ (by decide)]; exact hfr.2.1, by rw [ct _ _ (by decide)]; exact hfr.2.2.1⟩, fun h => absurd rfl h, fun h => by omega, fun h => by omega⟩
  have hgd : gdT (stC (setB σ1 (C S)) 0 M (σ.1 56 a 3)) (M + 1) := by
    refine gd_made w0 hsk ⟨by rw [eparM, ct _ _ (by decide)]; exact hhC, ?_⟩ ⟨x, by rw [cb 3 M (by decide) (by decide)]; exact n3, hx31, ?_⟩
    · rw [eparM]
      unfold isHd at hnh ⊢
      rw [cb 4 u (by decide) (by decide), o1 _ _ _ (by omega) (by omega), ← g1 4 u (by decide) (by decide) huM hu]
      exact hnh
    · rcases hx with ⟨x1, x2, x3⟩ | ⟨x1, x2⟩
      · refine Or.inl ⟨x1, fun k k1 k2 k3 k4 k5 => ?_⟩
        rw [ct _ _ (by decide)] at k3
        have hkM := gdT_M g0 k2 k3
        rw [eparM] at k4
        rw [cb 3 k (by decide) (by decide), cb 3 M (by decide) (by decide), n3, o1 _ _ _ (by omega) (by omega), ← g1 3 k (by decide) (by decide) hkM k2] at k5
        refine x3 k k1 k2 ⟨⟨k3, ?_⟩, k5⟩
        have e1 : parN (setB σ1 (C S)) k = parN (C S) k := by
          unfold parN
          rw [cb 2 k (by decide) (by decide), o1 _ _ _ (by omega) (by omega), ← g1 2 k (by decide) (by decide) hkM k2]
        rw [(bwf_par g0.1.1 k1 k2 hkM).1, ← e1, k4]
      · exact Or.inr ⟨y, by rw [eparM, ct _ _ (by decide)]; exact ey, x2, by omega⟩
  -- the step
  have hS1 : σ1.1 9 0 4 = nI S := hl1.1
  obtain ⟨σ2, t1, t2⟩ := e_record (F := F) (σ := σ1) (S := S) (L := L) (kd := 0) (n := M) (v := σ.1 56 a 3) hS1 (by omega) (by rw [o1 _ _ _ (by omega) (by omega)]; exact hL) (by omega) hM8 (by decide) (fun _ => ⟨u, huM, n2⟩) (fun q => by omega)
  obtain ⟨m2, v1, v2, v3, ⟨v4, v5, v6, v7, v8⟩, v9, v10⟩ := e_step9 (F := F) (m := m1) (R := π S) (kd := 0) (n := M) (q := u) (v := σ.1 56 a 3) (w := 0) hl1.2.1 hR9 (by decide) hM8 (fun _ => huM) (fun _ => ⟨q100, huM⟩)
  have hg1 : ∀ k, k < 80 → (gvN (setB σ1 (C S)) 0 M k ↔ k = M) := fun k _ => ⟨fun h => h.1 (by decide), fun h => ⟨fun _ => h, fun h3 => by omega⟩⟩
  obtain ⟨c1, c2⟩ := cntN_one hM8 hg1
  have ebl : blkN (setB σ1 (C S)) 0 M = 1 := c1
  have hblk : blk m2 (setB σ1 (C S)) 0 M (σ.1 56 a 3) (L + 1) (π S) := by
    intro k hk hgk
    obtain rfl := (hg1 k hk).mp hgk
    rw [c2, Nat.add_zero]
    exact ⟨by rw [v4, p1 _ _ _ (by omega) (by omega) (by omega) (by omega), h27], v5, v6, fun _ => v7, fun h => by omega⟩
  have hl2 := kLog_ext (m' := m2) hl1 t2 hsk hgd (by rw [ebl]; exact v3) (fun f q h1 h2 h3 => v10 f 0 q (by omega) (by omega) (by omega)) hblk hL9
  have eC1 : xC (fun i => setB σ1 (C i)) S (stC (setB σ1 (C S)) 0 M (σ.1 56 a 3)) (S + 1) = stC (setB σ1 (C S)) 0 M (σ.1 56 a 3) := if_neg (by omega)
  have eP1 : xP π S (π S + blkN (setB σ1 (C S)) 0 M) (S + 1) = π S + 1 := by rw [ebl]; exact if_neg (by omega)
  have x1000 : nI x < 1000 ↔ x < 1000 := nI_lt' (b := 1000) hx31 (by decide)
  have ht1 : tEq σ1 0 (setB σ1 (C S)) 0 := fun f k h1 h2 h3 => by rw [o1 _ _ _ (by omega) (by omega), ct f k h1]; exact ht f k h1 h2 h3
  have hH : nH (stC (setB σ1 (C S)) 0 M (σ.1 56 a 3)) = nH (C S) + 1 := by
    rw [nH_made hM8 (by rw [ct _ _ (by decide)]; exact hM31)]
    congr 1
  have hkBr : kBr σ2 m2 (M + 1) := by
    refine ⟨by rw [rcS_o t2 (by omega), n1], by rw [v10 _ _ _ (by omega) (by omega) (by omega), q7], ⟨by rw [rcS_o t2 (by omega)]; exact hbw1.1, fun k k1 k2 k3 => by rw [rcS_o t2 (by omega)]; exact hbw1.2 k k1 k2 k3⟩, by omega, by omega, fun k k1 k2 => ?_⟩
    have e4 : isHd σ2 k = isHd σ1 k := by unfold isHd; rw [rcS_o t2 (by omega)]
    rw [e4, v10 100 0 k (by omega) (by omega) (by omega), v10 101 0 k (by omega) (by omega) (by omega), v10 102 0 k (by omega) (by omega) (by omega), v10 103 0 k (by omega) (by omega) (by omega), v10 104 0 k (by omega) (by omega) (by omega), rcS_o t2 (by omega), rcS_o t2 (by omega), rcS_o t2 (by omega), rcS_o t2 (by omega), rcS_o t2 (by omega)]
    by_cases e : k = M
    · subst e
      refine ⟨by rw [q100, n2], by rw [q101, n3], by rw [q102, n4], by rw [q104, n6], fun hd => ?_⟩
      unfold isHd at hd
      rw [n4] at hd
      rw [q103, n5]
      rcases hd with q | q
      · rw [if_pos q, hh1 q]
      · rw [if_neg (by rw [q]; decide), if_pos q, hh2 q]
    · have e5 : isHd σ1 k = isHd σ k := by unfold isHd; rw [o1 _ _ _ (by omega) (by omega)]
      rw [e5, p1 100 0 k (by omega) (by omega) (by omega) (by omega), p1 101 0 k (by omega) (by omega) (by omega) (by omega), p1 102 0 k (by omega) (by omega) (by omega) (by omega), p1 103 0 k (by omega) (by omega) (by omega) (by omega), p1 104 0 k (by omega) (by omega) (by omega) (by omega), o1 2 0 k (by omega) (by omega), o1 3 0 k (by omega) (by omega), o1 4 0 k (by omega) (by omega), o1 5 0 k (by omega) (by omega), o1 6 0 k (by omega) (by omega)]
      exact b6 k k1 (by omega)
  have hkA : kA σ2 m2 (xC (fun i => setB σ1 (C i)) S (stC (setB σ1 (C S)) 0 M (σ.1 56 a 3))) (xP π S (π S + blkN (setB σ1 (C S)) 0 M)) (M + 1) (S + 1) := by
    refine ⟨hl2, hkBr, ?_, ?_, fun k k1 => ?_⟩
    · rw [eC1]
      intro f k h1 h2 h3
      rw [t2.2 f 0 k (by omega) (by omega), if_pos ⟨rfl, h1, h2⟩, stC_t h1 h2]
      exact apT_cp (by omega) hM8 (by omega) (by rw [eparM]; exact hu) w1 ht1 (gdT_wf w0) (fun k k1 k2 => gdT_M w0 k1 k2) h1 h2 h3
    · rw [eC1]
      have hr1 : rEq m1 0 (fun f k => (setB σ1 (C S)).1 f 0 k) := rEq_congr (rEq_m hr (fun f q h1 h2 _ _ => p1 f 0 q (by omega) (by omega) (by omega) (by omega))) (fun f k h1 h2 h3 => ct f k h1)
      refine rEq_congr (v9 _ (σ.1 56 a 3) hr1 (fun _ => rfl) (fun h => by omega)) (fun f k h1 h2 h3 => ?_)
      rw [stC_t h1 (by omega), apT_ap1 hsk (by decide) w0.1.1 h1 h2, eparM]
    · rw [eC1, eP1]
      refine ⟨fun k2 => ?_, ?_⟩
      · rw [v10 _ _ _ (by omega) (by omega) (by omega), stC_t (by decide) (by decide), apT_0, if_neg (by omega), if_neg (by omega), if_neg (by omega), if_neg (by omega), eparM, cb 3 M (by decide) (by decide), n3, ct _ _ (by decide)]
        by_cases e : k = M
        · subst e
          rw [if_neg (by omega), q105, hfr.2.2.2]
        · have k3 : (C S).1 31 0 k ≠ 0 := by
            rw [stC_t (by decide) (by decide), apT_0, if_neg (fun q => e q.1), if_neg (by omega), if_neg (by omega), if_neg (by omega), if_neg (by omega), ct _ _ (by decide)] at k2
            exact k2
          by_cases e2 : k = u
          · subst e2
            rw [q105u, (hc k k1).1 k3]
            rcases hx with ⟨x1, x2, -⟩ | ⟨x1, x2⟩
            · rw [x2, if_neg (by decide), Int32.add_zero]
              exact (if_neg (fun q => q.2.2 (x1000.mpr (by omega)))).symm
            · rw [x1, if_pos rfl]
              exact (if_pos ⟨rfl, rfl, fun q => by have := x1000.mp q; omega⟩).symm
          · rw [if_neg (fun q => e2 q.1), p1 _ _ _ (by omega) (by omega) (by omega) (by omega)]
            exact (hc k k1).1 k3
      · obtain ⟨y', y1, y2⟩ := (hc k k1).2
        rw [stC_t (by decide) (by decide), apT_0, if_neg (by omega), if_neg (by omega), if_neg (by omega), if_neg (by omega), if_neg (by omega), ct _ _ (by decide)]
        exact ⟨y', by omega, y2⟩
  refine ⟨σ2, m2, xC (fun i => setB σ1 (C i)) S (stC (setB σ1 (C S)) 0 M (σ.1 56 a 3)), xP π S (π S + blkN (setB σ1 (C S)) 0 M), ?_, ?_, ?_, ?_⟩
  · unfold fX8_tryMake_150
    simp only [nm_x]
    have e3 : σ1.1 56 a 3 = σ.1 56 a 3 := o1 _ _ _ (by omega) (by omega)
    rw [hL, nI_1, r1, bnd_s, r2.1, gnl_pos ha, e3, show (0 : Int32) = nI 0 from rfl, t1, bnd_s]
  · rw [s2, show (0 : Int32) = nI 0 from rfl, show fX9_step F (nI 0) (nI M) (σ.1 56 a 3) (nI 0) m1 = some m2 from v1, bnd_s]
  · have fA := rcS_frA t2
    refine ⟨hkA, ⟨fA.1.trans r2.1, fun f j k w1 w2 w3 w4 w5 w6 w7 => ?_⟩, ⟨v2.trans s1.1, fun f j k w1 w2 w3 w4 w5 => ?_⟩, by omega, by omega, fun i hi => ⟨?_, if_pos hi⟩, fun i hi => ?_, fun i h1 h2 => ?_, by rw [eC1, hH]; omega, by rw [eC1, eP1, hH]; omega⟩
    · rw [fA.2 f j k w1 w2 w3 w4 w5, o1 f j k (by omega) (by omega)]
    · rw [v10 f j k w1 (by omega) (by omega), p1 f j k (by omega) (by omega) (by omega) (by omega)]
    · have e : xC (fun i => setB σ1 (C i)) S (stC (setB σ1 (C S)) 0 M (σ.1 56 a 3)) i = setB σ1 (C i) := if_pos hi
      rw [e]
      exact fun f k k1 k2 k3 => by rw [setB_t k1]
    · unfold chN
      rw [rcS_o t2 (by omega), o1 _ _ _ (by omega) (by omega)]
    · obtain rfl : i = S := by omega
      unfold chN
      rw [t2.2 10 0 i (by omega) (by omega), if_neg (by omega), if_pos ⟨rfl, rfl, rfl⟩, ix_nI (by omega)]
  · intro k hk
    have e14 : σ2.1 14 0 k = σ.1 14 0 k := by rw [rcS_o t2 (by omega), o1 _ _ _ (by omega) (by omega)]
    rw [e14, v10 _ _ _ (by omega) (by omega) (by omega)]
    obtain ⟨k1, k2⟩ := hQ k hk
    refine ⟨fun hkM => ?_, fun hkM => k2 (by omega)⟩
    by_cases e : k = M
    · subst e; exact Or.inl ⟨k2 (Nat.le_refl _), q106⟩
    · rw [p1 _ _ _ (by omega) (by omega) (by omega) (by omega)]
      exact k1 (by omega)
end MK

/-! PURE: rights as acts, in both -/
theorem blkN_3 {c : qS} {n : Nat} (hn : n < 80) : blkN c 3 n = 1 := (cntN_one hn (fun k hk => ⟨fun h => by
  rcases (h.2 (by decide)).2.2 with e | e
  · exact e
  · exact absurd rfl e.1, fun h => ⟨fun h => by omega, fun _ => ⟨by omega, hk, Or.inl h⟩⟩⟩)).1
theorem cntN_mid {r : Nat → Prop} [DecidablePred r] {n : Nat} (hn : n < 80) : cntN r 0 80 = cntN r 0 n + ((if r n then 1 else 0) + cntN r (n + 1) (79 - n)) := by
  rw [show 80 = n + ((79 - n) + 1) by omega, cntN_split (p := r) (t := 0) (d := n) (e := (79 - n) + 1), Nat.zero_add, cntN_s]
theorem blkN_4 {c : qS} {n : Nat} (hn : n < 80) (hw : wfT c 0) : blkN c 4 n = 1 + nBl c 0 n := by
  have hp := wfT_hp hw
  have e : blkN c 4 n = cntN (gvN c 4 n) 0 n + ((if gvN c 4 n n then 1 else 0) + cntN (gvN c 4 n) (n + 1) (79 - n)) := cntN_mid hn
  rw [e, cntN_0 (t := 0) (fun k _ h2 h => by
    have := (h.2 (by decide)).1
    omega), if_pos ⟨fun h => by omega, fun _ => ⟨Nat.le_refl _, hn, Or.inl rfl⟩⟩, Nat.zero_add]
  congr 1
  unfold nBl
  apply cntN_congr
  intro k h1 h2
  constructor
  · intro h
    rcases (h.2 (by decide)).2.2 with e | ⟨-, e2, e3⟩
    · omega
    · exact ⟨e2, (isB_clm hp k (by omega) ⟨by omega, e2⟩ (by omega)).mp e3⟩
  · intro h
    exact ⟨fun h => by omega, fun _ => ⟨by omega, by omega, Or.inr ⟨by decide, h.1, (isB_clm hp k (by omega) ⟨by omega, h.1⟩ (by omega)).mpr h.2⟩⟩⟩
section RI
variable {F : Nat}
theorem pr_gives {σ m : qS} {C : Nat → qS} {π : Nat → Nat} {M S L kd n x y : Nat} (hF : 100 ≤ F) (h : kA σ m C π M S) (hkd : kd = 3 ∨ kd = 4) (hn : n < 80) (hh : (C S).1 31 0 n ≠ 0) (hx : x < 16) (hy : y < 16) (h27 : m.1 0 0 27 = nI (L + 1)) (hR9 : π S + 80 ≤ 90000) :
    ∃ m', fX9_gives_34 F F (nI n) (nI x) (nI y) (if kd = 4 then 1 else 0) 0 0 m = some (nI (blkN (C S) kd n), m') ∧ frM m m' (π S) ∧ m'.1 0 0 25 = nI (π S + blkN (C S) kd n) ∧ blk m' (C S) kd n (nI (x + 16 * y)) (L + 1) (π S) ∧ rEq m' 0 (fun f k => apT (C S) 0 kd n (nI (x + 16 * y)) f k) := by
  obtain ⟨hl, ⟨b1, b2, b3, b4, b5, b6⟩, ht, hr, hc⟩ := h
  obtain ⟨g0, g1⟩ := hl.2.2.2 S (Nat.le_refl _)
  have hw := gdT_wf g0
  have hnM := gdT_M g0 hn hh
  have c3 : 3 ≤ kd := by omega
  have eaT : ∀ f k, apT (C S) 0 kd n (nI (x + 16 * y)) f k = (if gvN (C S) kd n k ∧ f = 36 then nI (x + 16 * y) else if gvN (C S) kd n k ∧ f = 35 then (C S).1 35 0 k + 1 else (C S).1 f 0 k) := fun f k => by
    have eg : gvN (C S) kd n k ↔ giv (C S) 0 n (if kd = 4 then 1 else 0) k := ⟨fun h => h.2 c3, fun h => ⟨fun h => by omega, fun _ => h⟩⟩
    simp only [eg]
    obtain rfl | rfl := hkd
    · rfl
    · rfl
  have hgM : ∀ k, gvN (C S) kd n k → k < M := fun k hg => by
    rcases (hg.2 c3).2.2 with e | e
    · omega
    · exact gdT_M g0 (hg.2 c3).2.1 e.2.1
  have main : ∀ (d t N : Nat) (m1 : qS), t + d = M → d < N → frM m m1 (π S) → m1.1 0 0 25 = nI (π S + cntN (gvN (C S) kd n) 0 t) → (∀ k, k < t → gvN (C S) kd n k → m1.1 120 0 (π S + cntN (gvN (C S) kd n) 0 k) = nI (L + 1) ∧ m1.1 121 0 (π S + cntN (gvN (C S) kd n) 0 k) = nI (min kd 3) ∧ m1.1 122 0 (π S + cntN (gvN (C S) kd n) 0 k) = nI k ∧ (kd ≤ 2 → m1.1 123 0 (π S + cntN (gvN (C S) kd n) 0 k) = nI (x + 16 * y)) ∧ (3 ≤ kd → ∃ x' y', x' < 16 ∧ y' < 16 ∧ m1.1 123 0 (π S + cntN (gvN (C S) kd n) 0 k) = nI x' ∧ m1.1 124 0 (π S + cntN (gvN (C S) kd n) 0 k) = nI y' ∧ nI (x + 16 * y) = nI (x' + 16 * y'))) → rEq m1 0 (fun f k => if k < t then apT (C S) 0 kd n (nI (x + 16 * y)) f k else (C S).1 f 0 k) →
      ∃ m', fX9_gives_34 F N (nI n) (nI x) (nI y) (if kd = 4 then 1 else 0) (nI (cntN (gvN (C S) kd n) 0 t)) (nI t) m1 = some (nI (cntN (gvN (C S) kd n) 0 M), m') ∧ frM m m' (π S) ∧ m'.1 0 0 25 = nI (π S + cntN (gvN (C S) kd n) 0 M) ∧ (∀ k, k < M → gvN (C S) kd n k → m'.1 120 0 (π S + cntN (gvN (C S) kd n) 0 k) = nI (L + 1) ∧ m'.1 121 0 (π S + cntN (gvN (C S) kd n) 0 k) = nI (min kd 3) ∧ m'.1 122 0 (π S + cntN (gvN (C S) kd n) 0 k) = nI k ∧ (kd ≤ 2 → m'.1 123 0 (π S + cntN (gvN (C S) kd n) 0 k) = nI (x + 16 * y)) ∧ (3 ≤ kd → ∃ x' y', x' < 16 ∧ y' < 16 ∧ m'.1 123 0 (π S + cntN (gvN (C S) kd n) 0 k) = nI x' ∧ m'.1 124 0 (π S + cntN (gvN (C S) kd n) 0 k) = nI y' ∧ nI (x + 16 * y) = nI (x' + 16 * y'))) ∧ rEq m' 0 (fun f k => if k < M then apT (C S) 0 kd n (nI (x + 16 * y)) f k else (C S).1 f 0 k) := by
    intro d
    induction d with
    | zero =>
      intro t N m1 hd hN hf h25 hb hrq
      obtain ⟨N, rfl⟩ : ∃ k, N = k + 1 := ⟨N - 1, by omega⟩
      obtain rfl : t = M := by omega
      rw [fX9_gives_34]
      simp only [nm_x]
      rw [hf.2 0 0 7 (by omega) (by omega) (by omega), b2, if_pos (Int32.le_refl _)]
      exact ⟨m1, rfl, hf, h25, hb, hrq⟩
    | succ d ih =>
      intro t N m1 hd hN hf h25 hb hrq
      obtain ⟨N, rfl⟩ : ∃ k, N = k + 1 := ⟨N - 1, by omega⟩
      have ht8 : t < 80 := by omega
      have o : ∀ f q, f < 108 → ¬ (f = 0 ∧ q = 25) → m1.1 f 0 q = m.1 f 0 q := fun f q h1 h2 => hf.2 f 0 q (by omega) (by omega) (by omega)
      have hcle : cntN (gvN (C S) kd n) 0 t ≤ t := cntN_le
      have ecnt : cntN (gvN (C S) kd n) 0 (t + 1) = cntN (gvN (C S) kd n) 0 t + (if gvN (C S) kd n t then 1 else 0) := by rw [cntN_1, Nat.zero_add]
      have e108 : m1.1 108 0 t = (C S).1 31 0 t := by
        have := (hrq t ht8).1
        rw [Nat.mul_zero, Nat.zero_add] at this
        rw [this]
        exact if_neg (by omega)
      have e100 : m1.1 100 0 = m.1 100 0 := by funext q; exact o 100 q (by omega) (by omega)
      -- step
      have yes : gvN (C S) kd n t → ∃ m', fX9_gives_76 F (fX9_gives_34 F N) (nI n) (nI x) (nI y) (if kd = 4 then 1 else 0) (nI (cntN (gvN (C S) kd n) 0 t)) (nI t) m1 = some (nI (cntN (gvN (C S) kd n) 0 M), m') ∧ frM m m' (π S) ∧ m'.1 0 0 25 = nI (π S + cntN (gvN (C S) kd n) 0 M) ∧ (∀ k, k < M → gvN (C S) kd n k → m'.1 120 0 (π S + cntN (gvN (C S) kd n) 0 k) = nI (L + 1) ∧ m'.1 121 0 (π S + cntN (gvN (C S) kd n) 0 k) = nI (min kd 3) ∧ m'.1 122 0 (π S + cntN (gvN (C S) kd n) 0 k) = nI k ∧ (kd ≤ 2 → m'.1 123 0 (π S + cntN (gvN (C S) kd n) 0 k) = nI (x + 16 * y)) ∧ (3 ≤ kd → ∃ x' y', x' < 16 ∧ y' < 16 ∧ m'.1 123 0 (π S + cntN (gvN (C S) kd n) 0 k) = nI x' ∧ m'.1 124 0 (π S + cntN (gvN (C S) kd n) 0 k) = nI y' ∧ nI (x + 16 * y) = nI (x' + 16 * y'))) ∧ rEq m' 0 (fun f k => if k < M then apT (C S) 0 kd n (nI (x + 16 * y)) f k else (C S).1 f 0 k) := by
        intro cg
        rw [if_pos cg] at ecnt
        unfold fX9_gives_76 fX9_gives_89
        obtain ⟨m2, s1, s2, s3, ⟨s4, s5, s6, s7, s8⟩, s9, s10⟩ := e_step9 (F := F) (m := m1) (kd := 3) (n := t) (q := parN (C S) t) (v := nI x) (w := nI y) h25 (by omega) (by decide) ht8 (fun h => by omega) (fun h => by
          have htM := hgM t cg
          rw [e100, (b6 t ht8 htM).1, ← g1 2 t (by decide) (by decide) htM ht8]
          exact bwf_par g0.1.1 h ht8 htM)
        rw [show (3 : Int32) = nI 3 from rfl, s1, bnd_s]
        simp only [nm_x, nI_1]
        rw [← ecnt]
        refine ih (t + 1) N m2 (by omega) (by omega) (frM_tr hf ⟨s2, fun f j q w1 w2 w3 => s10 f j q w1 (by omega) w3⟩ (Nat.le_refl _)) (by rw [s3, ecnt]; rfl) (fun k hk hg => ?_) ?_
        · by_cases e : k = t
          · subst e
            refine ⟨by rw [s4, o 0 27 (by omega) (by omega), h27], by rw [s5, show min kd 3 = 3 by omega], s6, fun h => by omega, fun _ => ⟨x, y, hx, hy, s7, s8, rfl⟩⟩
          · have hlt : cntN (gvN (C S) kd n) 0 k < cntN (gvN (C S) kd n) 0 t := by
              have e1 : cntN (gvN (C S) kd n) 0 t = cntN (gvN (C S) kd n) 0 (k + 1) + cntN (gvN (C S) kd n) (0 + (k + 1)) (t - (k + 1)) := by
                rw [← cntN_split, show k + 1 + (t - (k + 1)) = t by omega]
              have e2 : cntN (gvN (C S) kd n) 0 (k + 1) = cntN (gvN (C S) kd n) 0 k + (if gvN (C S) kd n k then 1 else 0) := by rw [cntN_1, Nat.zero_add]
              rw [if_pos hg] at e2
              omega
            have oo : ∀ f, 120 ≤ f → f ≤ 124 → m2.1 f 0 (π S + cntN (gvN (C S) kd n) 0 k) = m1.1 f 0 (π S + cntN (gvN (C S) kd n) 0 k) := fun f h1 h2 => s10 f 0 _ (by omega) (by omega) (by omega)
            rw [oo 120 (by omega) (by omega), oo 121 (by omega) (by omega), oo 122 (by omega) (by omega), oo 123 (by omega) (by omega), oo 124 (by omega) (by omega)]
            exact hb k (by omega) hg
        · refine rEq_congr (s9 _ (nI (x + 16 * y)) hrq (fun h => by omega) (fun _ => ⟨x, y, hx, hy, rfl, rfl, rfl⟩)) (fun f k h1 h2 h3 => ?_)
          rw [ap1_3]
          by_cases e : k = t
          · subst e
            rw [if_pos (by omega), eaT f k]
            by_cases e6 : f = 36
            · simp only [e6, and_true, if_true]
              exact if_pos cg
            · by_cases e5 : f = 35
              · simp only [e5, and_true, and_false, if_true, if_false, (by decide : ¬ (35 = 36)), Nat.lt_irrefl]
                exact if_pos cg
              · simp only [e6, e5, and_false, if_false, Nat.lt_irrefl]
          · simp only [e, false_and, if_false]
            by_cases e2 : k < t
            · rw [if_pos (by omega), if_pos e2]
            · rw [if_neg (by omega), if_neg e2]
      have no : ¬ gvN (C S) kd n t → ∃ m', fX9_gives_89 F (fX9_gives_34 F N) (nI n) (nI x) (nI y) (if kd = 4 then 1 else 0) (nI (cntN (gvN (C S) kd n) 0 t)) (nI t) m1 = some (nI (cntN (gvN (C S) kd n) 0 M), m') ∧ frM m m' (π S) ∧ m'.1 0 0 25 = nI (π S + cntN (gvN (C S) kd n) 0 M) ∧ (∀ k, k < M → gvN (C S) kd n k → m'.1 120 0 (π S + cntN (gvN (C S) kd n) 0 k) = nI (L + 1) ∧ m'.1 121 0 (π S + cntN (gvN (C S) kd n) 0 k) = nI (min kd 3) ∧ m'.1 122 0 (π S + cntN (gvN (C S) kd n) 0 k) = nI k ∧ (kd ≤ 2 → m'.1 123 0 (π S + cntN (gvN (C S) kd n) 0 k) = nI (x + 16 * y)) ∧ (3 ≤ kd → ∃ x' y', x' < 16 ∧ y' < 16 ∧ m'.1 123 0 (π S + cntN (gvN (C S) kd n) 0 k) = nI x' ∧ m'.1 124 0 (π S + cntN (gvN (C S) kd n) 0 k) = nI y' ∧ nI (x + 16 * y) = nI (x' + 16 * y'))) ∧ rEq m' 0 (fun f k => if k < M then apT (C S) 0 kd n (nI (x + 16 * y)) f k else (C S).1 f 0 k) := by
        intro cg
        have ecnt : cntN (gvN (C S) kd n) 0 (t + 1) = cntN (gvN (C S) kd n) 0 t := by rw [ecnt, if_neg cg]; rfl
        unfold fX9_gives_89
        simp only [nm_x, nI_1]
        rw [← ecnt]
        refine ih (t + 1) N m1 (by omega) (by omega) hf (by rw [ecnt]; exact h25) (fun k hk hg => ?_) (rEq_congr hrq (fun f k h1 h2 h3 => ?_))
        · by_cases e : k = t
          · subst e; exact absurd hg cg
          · exact hb k (by omega) hg
        · by_cases e : k = t
          · subst e
            rw [if_pos (by omega), if_neg (by omega), eaT f k, if_neg (fun h => cg h.1), if_neg (fun h => cg h.1)]
          · by_cases e2 : k < t
            · rw [if_pos (by omega), if_pos e2]
            · rw [if_neg (by omega), if_neg e2]
      rw [fX9_gives_34]
      simp only [nm_x]
      rw [o 0 7 (by omega) (by omega), b2, if_neg (fun h => by have := (nI_le' (by omega) (by omega)).mp h; omega)]
      by_cases c1 : t = n
      · subst c1
        rw [if_pos rfl]
        exact yes ⟨fun h => by omega, fun _ => ⟨Nat.le_refl _, ht8, Or.inl rfl⟩⟩
      · rw [if_neg (fun h => c1 (nI_inj (by omega) (by omega) h))]
        obtain rfl | rfl := hkd
        · rw [if_neg (by decide)]
          exact no (fun h => by
            rcases (h.2 (by decide)).2.2 with e | e
            · exact c1 e
            · exact e.1 rfl)
        · rw [if_pos (by decide), ldi_nI (by omega) i400, e108]
          by_cases c2 : (C S).1 31 0 t = 1
          · have c2' : (C S).1 31 0 t ≠ 0 := by rw [c2]; decide
            have hwm : wfB (vw m1) (fun k => k < M) := ⟨by show m1.1 100 0 0 = _; rw [e100, (b6 0 (by omega) (by omega)).1]; exact b3.1, fun k g1 g2 g3 => by
              show ∃ q, q < k ∧ m1.1 100 0 k = nI q ∧ _
              rw [e100, (b6 k g2 g3).1]
              obtain ⟨q, k1, k2⟩ := b3.2 k g1 g2 g3
              exact ⟨q, k1, k2, by omega⟩⟩
            rw [if_pos c2, e_isBelow hwm hF hn ht8 (show t < M by omega), bnd2_s]
            have eB : isB (parN (vw m1)) n 80 t = isB (parN (C S)) n 80 t := isB_congr (wfT_hp hw) (fun q hq _ => by
              unfold parN
              rw [show (vw m1).1 2 0 q = (C S).1 2 0 q from by
                show m1.1 100 0 q = _
                rw [e100, (b6 q hq.1 (gdT_M g0 hq.1 hq.2)).1, g1 2 q (by decide) (by decide) (gdT_M g0 hq.1 hq.2) hq.1]]) 80 t ⟨ht8, c2'⟩
            rw [eB]
            by_cases c4 : isB (parN (C S)) n 80 t = true
            · rw [b2_t c4, if_neg (by decide)]
              have hnt : n ≤ t := Nat.le_of_not_lt (fun h9 => by
                rw [isB_lt (wfT_hp hw) t ht8 ⟨ht8, c2'⟩ h9] at c4
                exact absurd c4 (by decide))
              exact yes ⟨fun h => by omega, fun _ => ⟨hnt, ht8, Or.inr ⟨by decide, c2', c4⟩⟩⟩
            · rw [b2_f c4, if_pos rfl]
              exact no (fun h => by
                rcases (h.2 (by decide)).2.2 with e | e
                · exact c1 e
                · exact c4 e.2.2)
          · rw [if_neg c2]
            exact no (fun h => by
              rcases (h.2 (by decide)).2.2 with e | e
              · exact c1 e
              · rcases g0.2.1 t ht8 with q | q
                · exact e.2.1 q
                · exact c2 q.1)
  obtain ⟨m', q1, q2, q3, q4, q5⟩ := main M 0 F m (by omega) (by omega) frM_rf hl.2.1 (fun k hk => by omega) (rEq_congr hr (fun f k _ _ _ => if_neg (by omega)))
  have eall : cntN (gvN (C S) kd n) 0 M = blkN (C S) kd n := by
    show _ = cntN (gvN (C S) kd n) 0 80
    have e1 : cntN (gvN (C S) kd n) 0 80 = cntN (gvN (C S) kd n) 0 M + cntN (gvN (C S) kd n) (0 + M) (80 - M) := by
      rw [← cntN_split, show M + (80 - M) = 80 by omega]
    rw [e1, cntN_0 (t := 0 + M), Nat.add_zero]
    intro k k1 k2 k3
    have := hgM k k3
    omega
  rw [eall] at q1 q3
  refine ⟨m', q1, q2, q3, fun k hk hg => q4 k (hgM k hg) hg, rEq_congr q5 (fun f k h1 h2 h3 => ?_)⟩
  by_cases c : k < M
  · rw [if_pos c]
  · rw [if_neg c, eaT f k, if_neg (fun h => c (hgM k h.1)), if_neg (fun h => c (hgM k h.1))]
end RI

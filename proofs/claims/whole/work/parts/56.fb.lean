/-! PURE: a server of the reference goes on by one step of the class's log -/
/-- the nodes that a step of the class's log touches: one, or all that rights are given to -/
abbrev gvN (c : qS) (kd n k : Nat) : Prop := (kd ≤ 2 → k = n) ∧ (3 ≤ kd → giv c 0 n (if kd = 4 then 1 else 0) k)
abbrev blkN (c : qS) (kd n : Nat) : Nat := cntN (gvN c kd n) 0 80
/-- the reference has them as steps of its own, from p0 on -/
def blk (m c : qS) (kd n : Nat) (v : Int32) (ch p0 : Nat) : Prop := ∀ k, k < 80 → gvN c kd n k → m.1 120 0 (p0 + cntN (gvN c kd n) 0 k) = nI ch ∧ m.1 121 0 (p0 + cntN (gvN c kd n) 0 k) = nI (min kd 3) ∧ m.1 122 0 (p0 + cntN (gvN c kd n) 0 k) = nI k ∧ (kd ≤ 2 → m.1 123 0 (p0 + cntN (gvN c kd n) 0 k) = v) ∧ (3 ≤ kd → ∃ x y, x < 16 ∧ y < 16 ∧ m.1 123 0 (p0 + cntN (gvN c kd n) 0 k) = nI x ∧ m.1 124 0 (p0 + cntN (gvN c kd n) 0 k) = nI y ∧ v = nI (x + 16 * y))
/-- a step that can be done to tree c -/
def sOK (c : qS) (kd n M : Nat) : Prop := n < 80 ∧ n < M ∧ kd ≤ 4 ∧ (kd = 0 → 1 ≤ n ∧ c.1 31 0 n = 0 ∧ c.1 33 0 n = 0 ∧ c.1 34 0 n = 0 ∧ c.1 35 0 n = 0) ∧ (kd ≠ 0 → c.1 31 0 n ≠ 0) ∧ (kd = 2 → 1 ≤ n) ∧ (3 ≤ kd → wfT c 0)
/-- births of what was made -/
def bwf (c : qS) (M : Nat) : Prop := c.1 2 0 0 = -100 ∧ ∀ k, 1 ≤ k → k < 80 → k < M → ∃ q, q < k ∧ c.1 2 0 k = nI q
theorem bwf_wfB {c : qS} {M : Nat} (h : bwf c M) : wfB c (fun k => k < M) := ⟨h.1, fun k h1 h2 h3 => by
  obtain ⟨q, g1, g2⟩ := h.2 k h1 h2 h3
  exact ⟨q, g1, g2, by omega⟩⟩
theorem bwf_par {c : qS} {M k : Nat} (h : bwf c M) (h1 : 1 ≤ k) (h8 : k < 80) (hM : k < M) : c.1 2 0 k = nI (parN c k) ∧ parN c k < k := ⟨wfB_par (bwf_wfB h) h1 h8 hM, (wfB_hp (bwf_wfB h) k ⟨h8, hM⟩ h1).1⟩
theorem cntN_one {p : Nat → Prop} [DecidablePred p] {n : Nat} (hn : n < 80) (h : ∀ k, k < 80 → (p k ↔ k = n)) : cntN p 0 80 = 1 ∧ cntN p 0 n = 0 := by
  have h0 : cntN p 0 n = 0 := cntN_0 (fun k _ h2 h3 => by have := (h k (by omega)).mp h3; omega)
  refine ⟨?_, h0⟩
  rw [show 80 = n + ((79 - n) + 1) by omega, cntN_split, h0, Nat.zero_add, Nat.zero_add, cntN_s, if_pos ((h n hn).mpr rfl), cntN_0]
  intro k h1 h2 h3
  have := (h k (by omega)).mp h3
  omega
theorem cntN_1 {p : Nat → Prop} [DecidablePred p] {t d : Nat} : cntN p t (d + 1) = cntN p t d + (if p (t + d) then 1 else 0) := by
  rw [cntN_split (d := d) (e := 1)]
  rfl
theorem apT_ap1 {c : qS} {kd n : Nat} {v : Int32} {f k M : Nat} (hs : sOK c kd n M) (h2 : kd ≤ 2) (hb : bwf c M) (h31 : 31 ≤ f) (h36 : f ≤ 36) : apT c 0 kd n v f k = ap1 kd n (parN c n) v (fun f k => c.1 f 0 k) f k := by
  obtain ⟨a1, a2, a3, a4, a5, a6, a7⟩ := hs
  obtain rfl | rfl | rfl : kd = 0 ∨ kd = 1 ∨ kd = 2 := by omega
  · obtain ⟨b1, b2, b3, b4, b5⟩ := a4 rfl
    have hq := (bwf_par hb b1 a1 a2).2
    rw [apT_0, ap1_0]
    by_cases e : k = n
    · subst e
      have e2 : ¬ k = parN c k := by omega
      obtain rfl | rfl | rfl | rfl | rfl | rfl : f = 31 ∨ f = 32 ∨ f = 33 ∨ f = 34 ∨ f = 35 ∨ f = 36 := by omega
      · simp
      · simp
      · simp [e2, b3]
      · simp [e2, b4]
      · simp [e2, b5]
      · simp
    · have e7 : ¬ f = 37 := by omega
      simp [e, e7]
  · rw [apT_1, ap1_1]
  · rw [apT_2, ap1_2]
section FB
variable {F : Nat}
theorem e_folB {m c : qS} {s p0 R ch u kd n M Z : Nat} {v : Int32} {Bf : Nat → Nat} {pf : Nat → List (Int32 × Int32) × List Int32} (hs3 : s < 3) (hpos : m.1 129 0 s = nI p0) (hR : m.1 0 0 25 = nI R) (hR9 : R ≤ 90000) (hpR : p0 + blkN c kd n ≤ R) (hcu : ch ≤ u) (hu : u < 2 ^ 31) (hB : blk m c kd n v ch p0) (hok : sOK c kd n M) (hb : bwf c M) (hhM : ∀ k, k < 80 → c.1 31 0 k ≠ 0 → k < M) (hp : ∀ k, k < 80 → k < M → m.1 100 0 k = c.1 2 0 k) (hF : 100 ≤ F) (hZ : Z ≤ 10) (h48 : m.1 0 0 48 = nI Z) (hs : ∀ z, z < Z → lvS m s z → ssM m z (Bf z) (pf z) ∧ Bf z + 8 ≤ 8000) (hr : 1 ≤ s → rEq m s (fun f k => c.1 f 0 k)) (hM1 : 1 ≤ M) :
    ∃ m', (∀ j, fX9_follows_0 F (j + blkN c kd n) (nI s) (nI u) m = fX9_follows_0 F j (nI s) (nI u) m') ∧ m'.1 129 0 s = nI (p0 + blkN c kd n) ∧ frF m m' s Z ∧ (1 ≤ s → rEq m' s (fun f k => apT c 0 kd n v f k)) ∧ ∀ z, z < Z → lvS m s z → ssM m' z (Bf z + 8) (if kd ≤ 2 then upM m kd n (pf z) else pf z) := by
  have hwm : wfB (vw m) (fun k => k < M) := ⟨by
    show m.1 100 0 0 = _
    rw [hp 0 (by omega) (by omega)]
    exact hb.1, fun k g1 g2 g3 => by
    show ∃ q, q < k ∧ m.1 100 0 k = nI q ∧ _
    rw [hp k g2 g3]
    obtain ⟨q, k1, k2⟩ := hb.2 k g1 g2 g3
    exact ⟨q, k1, k2, by omega⟩⟩
  obtain ⟨a1, a2, a3, a4, a5, a6, a7⟩ := hok
  by_cases c2 : kd ≤ 2
  · have hg : ∀ k, k < 80 → (gvN c kd n k ↔ k = n) := fun k _ => ⟨fun h => h.1 c2, fun h => ⟨fun _ => h, fun h3 => by omega⟩⟩
    obtain ⟨o1, o2⟩ := cntN_one a1 hg
    obtain ⟨g1, g2, g3, g4, g5⟩ := hB n a1 ((hg n a1).mpr rfl)
    rw [o2, Nat.add_zero] at g1 g2 g3 g4
    rw [show min kd 3 = kd by omega] at g2
    have ebl : blkN c kd n = 1 := o1
    rw [ebl] at hpR ⊢
    have hq : kd = 0 ∨ kd = 2 → parN c n < n := fun h => (bwf_par hb (h.elim (fun h => (a4 h).1) a6) a1 a2).2
    obtain ⟨m', q1, q2, q3, q4, q5⟩ := e_fol1 (F := F) (q := parN c n) (v' := v) (T := fun f k => c.1 f 0 k) hs3 hpos hR (by omega) hR9 g1 hcu hu (by omega) a1 a2 g2 g3 (g4 c2) rfl hq (fun h => by
      have := bwf_par hb h a1 a2
      rw [hp n a1 a2]
      exact this) (fun _ => rfl) (fun h => by omega) hwm hF hZ h48 hs hr
    refine ⟨m', q1, q2, q3, fun h => rEq_congr (q4 h) (fun f k h1 h2 h3 => apT_ap1 ⟨a1, a2, a3, a4, a5, a6, a7⟩ c2 hb h1 h2), fun z hz hl => ?_⟩
    have := q5 z hz hl
    rw [if_neg (by omega)] at this
    rw [if_pos c2]
    exact this
  · have c3 : 3 ≤ kd := by omega
    -- node by node
    have main : ∀ t, t ≤ 80 → ∃ m', (∀ j, fX9_follows_0 F (j + cntN (gvN c kd n) 0 t) (nI s) (nI u) m = fX9_follows_0 F j (nI s) (nI u) m') ∧ m'.1 129 0 s = nI (p0 + cntN (gvN c kd n) 0 t) ∧ frF m m' s Z ∧ (1 ≤ s → rEq m' s (fun f k => if k < t then apT c 0 kd n v f k else c.1 f 0 k)) ∧ ∀ z, z < Z → lvS m s z → ssM m' z (Bf z) (pf z) := by
      intro t
      induction t with
      | zero =>
        intro _
        exact ⟨m, fun _ => rfl, hpos, frF_rf, fun h => rEq_congr (hr h) (fun f k _ _ _ => if_neg (by omega)), fun z hz hl => (hs z hz hl).1⟩
      | succ t ih =>
        intro ht
        obtain ⟨m1, q1, q2, q3, q4, q5⟩ := ih (by omega)
        have ecnt : cntN (gvN c kd n) 0 (t + 1) = cntN (gvN c kd n) 0 t + (if gvN c kd n t then 1 else 0) := by rw [cntN_1, Nat.zero_add]
        have eaT : ∀ f k, 31 ≤ f → f ≤ 36 → apT c 0 kd n v f k = (if gvN c kd n k ∧ f = 36 then v else if gvN c kd n k ∧ f = 35 then c.1 35 0 k + 1 else c.1 f 0 k) := fun f k _ _ => by
          have eg : gvN c kd n k ↔ giv c 0 n (if kd = 4 then 1 else 0) k := ⟨fun h => h.2 c3, fun h => ⟨fun h => by omega, fun _ => h⟩⟩
          simp only [eg]
          obtain rfl | rfl : kd = 3 ∨ kd = 4 := by omega
          · rfl
          · rfl
        by_cases cg : gvN c kd n t
        · rw [ecnt, if_pos cg]
          obtain ⟨g1, g2, g3, g4, g5⟩ := hB t (by omega) cg
          obtain ⟨x, y, hx, hy, g6, g7, g8⟩ := g5 c3
          rw [show min kd 3 = 3 by omega] at g2
          have o : ∀ f q, 120 ≤ f → f ≤ 124 → m1.1 f 0 q = m.1 f 0 q := fun f q h1 h2 => frF_o q3 (by omega)
          have e100 : m1.1 100 0 = m.1 100 0 := by funext q; exact frF_o q3 (by omega)
          have hw1 : wfB (vw m1) (fun k => k < M) := ⟨by show m1.1 100 0 0 = _; rw [e100]; exact hwm.1, fun k g1 g2 g3 => by
            show ∃ q, q < k ∧ m1.1 100 0 k = nI q ∧ _
            rw [e100]
            exact hwm.2 k g1 g2 g3⟩
          have ht8 : t < 80 := by omega
          have hgt := cg.2 c3
          have htM : t < M := by
            rcases hgt.2.2 with e | e
            · omega
            · exact hhM t ht8 e.2.1
          have hle : cntN (gvN c kd n) 0 t + 1 ≤ blkN c kd n := by
            have e : blkN c kd n = cntN (gvN c kd n) 0 (t + 1) + cntN (gvN c kd n) (0 + (t + 1)) (79 - t) := by
              rw [← cntN_split, show t + 1 + (79 - t) = 80 by omega]
            rw [e, ecnt, if_pos cg]
            omega
          obtain ⟨m2, r1, r2, r3, r4, r5⟩ := e_fol1 (F := F) (m := m1) (s := s) (kd := 3) (nn := t) (q := parN c t) (M := M) (v' := v) (T := fun f k => if k < t then apT c 0 kd n v f k else c.1 f 0 k) (Bf := Bf) (pf := pf) hs3 q2 (by rw [frF_o q3 (by omega)]; exact hR) (by omega) hR9 (by rw [o _ _ (by omega) (by omega)]; exact g1) hcu hu (by omega) ht8 htM (by rw [o _ _ (by omega) (by omega)]; exact g2) (by rw [o _ _ (by omega) (by omega)]; exact g3) rfl rfl (fun h => by omega) (fun h => by
            rw [e100, hp t ht8 htM]
            exact bwf_par hb h ht8 htM) (fun h => by omega) (fun _ => ⟨x, y, hx, hy, by rw [o _ _ (by omega) (by omega)]; exact g6, by rw [o _ _ (by omega) (by omega)]; exact g7, g8⟩) hw1 hF hZ (by rw [frF_o q3 (by omega)]; exact h48) (fun z hz hl => ⟨q5 z hz ((frF_lv q3).mp hl), (hs z hz ((frF_lv q3).mp hl)).2⟩) q4
          refine ⟨m2, fun j => ?_, by rw [r2, Nat.add_assoc], frF_tr q3 r3, fun h => rEq_congr (r4 h) (fun f k h1 h2 h3 => ?_), fun z hz hl => ?_⟩
          · rw [show j + (cntN (gvN c kd n) 0 t + 1) = (j + 1) + cntN (gvN c kd n) 0 t by omega, q1, r1]
          · rw [ap1_3]
            by_cases e : k = t
            · subst e
              rw [if_pos (by omega), eaT f k h1 h2]
              by_cases e6 : f = 36
              · simp only [e6, and_true, if_true]
                exact if_pos cg
              · by_cases e5 : f = 35
                · simp only [e5, and_true, and_false, if_true, if_false, (by decide : ¬ (35 = 36)), Nat.lt_irrefl]
                  exact if_pos cg
                · simp only [e6, e5, and_false, if_false, Nat.lt_irrefl]
            · simp only [e, false_and, if_false]
              by_cases e2 : k < t
              · rw [if_pos (by omega), if_pos e2]
              · rw [if_neg (by omega), if_neg e2]
          · have h5 := r5 z hz ((frF_lv q3).mpr hl)
            rw [if_pos rfl] at h5
            unfold upM at h5
            rw [hmW_3, hmT_3, List.append_nil] at h5
            exact h5
        · rw [ecnt, if_neg cg, Nat.add_zero]
          refine ⟨m1, q1, q2, q3, fun h => rEq_congr (q4 h) (fun f k h1 h2 h3 => ?_), q5⟩
          by_cases e : k = t
          · subst e
            rw [if_pos (by omega), if_neg (by omega), eaT f k h1 h2]
            simp only [cg, false_and, if_false]
          · by_cases e2 : k < t
            · rw [if_pos (by omega), if_pos e2]
            · rw [if_neg (by omega), if_neg e2]
    obtain ⟨m', q1, q2, q3, q4, q5⟩ := main 80 (Nat.le_refl _)
    refine ⟨m', q1, q2, q3, fun h => rEq_congr (q4 h) (fun f k h1 h2 h3 => (if_pos h3).symm), fun z hz hl => ?_⟩
    rw [if_neg c2]
    exact ssM_le (q5 z hz hl) (by omega)
end FB

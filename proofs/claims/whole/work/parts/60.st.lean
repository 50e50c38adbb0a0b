/-! PURE: a step in both, and what goes -/
/-- how many nodes are there -/
def nH (c : qS) : Nat := cntN (fun k => c.1 31 0 k ≠ 0) 0 80
theorem cntN_upd {p q : Nat → Prop} [DecidablePred p] [DecidablePred q] {n : Nat} (hn : n < 80) (h : ∀ k, k < 80 → k ≠ n → (p k ↔ q k)) (h1 : p n) (h2 : ¬ q n) : cntN p 0 80 = cntN q 0 80 + 1 := by
  have sp : ∀ (r : Nat → Prop) [DecidablePred r], cntN r 0 80 = cntN r 0 n + ((if r n then 1 else 0) + cntN r (n + 1) (79 - n)) := fun r _ => by
    rw [show 80 = n + ((79 - n) + 1) by omega, cntN_split (p := r) (t := 0) (d := n) (e := (79 - n) + 1), Nat.zero_add, cntN_s]
  rw [sp p, sp q, if_pos h1, if_neg h2, cntN_congr (p := p) (q := q) (t := 0) (fun k _ g => h k (by omega) (by omega)), cntN_congr (p := p) (q := q) (t := n + 1) (fun k g1 g2 => h k (by omega) (by omega))]
  omega
theorem nH_gone {c : qS} {n : Nat} {v : Int32} (hn : n < 80) (h : c.1 31 0 n ≠ 0) : nH c = nH (stC c 2 n v) + 1 := by
  refine cntN_upd hn (fun k _ hk => ?_) h ?_
  · rw [stC_t (by decide) (by decide), apT_2, if_neg (fun h => hk h.1), if_neg (by omega)]
  · rw [stC_t (by decide) (by decide), apT_2, if_pos ⟨rfl, rfl⟩]
    exact fun h => h rfl
theorem nH_made {c : qS} {n : Nat} {v : Int32} (hn : n < 80) (h : c.1 31 0 n = 0) : nH (stC c 0 n v) = nH c + 1 := by
  refine cntN_upd hn (fun k _ hk => ?_) ?_ (fun h9 => h9 h)
  · rw [stC_t (by decide) (by decide), apT_0, if_neg (fun h => hk h.1), if_neg (by omega), if_neg (by omega), if_neg (by omega), if_neg (by omega)]
  · rw [stC_t (by decide) (by decide), apT_0, if_pos ⟨rfl, rfl⟩]
    decide
theorem nH_keep {c : qS} {kd n : Nat} {v : Int32} (h2 : kd = 1 ∨ kd = 3 ∨ kd = 4) : nH (stC c kd n v) = nH c := by
  apply cntN_congr
  intro k _ _
  rw [stC_t (by decide) (by decide)]
  obtain rfl | rfl | rfl := h2
  · rw [apT_1, if_neg (by omega), if_neg (by omega)]
  · rw [apT_3, if_neg (by omega), if_neg (by omega)]
  · rw [apT_4, if_neg (by omega), if_neg (by omega)]
theorem nH_pos {c : qS} {n : Nat} (hn : n < 80) (h : c.1 31 0 n ≠ 0) : 1 ≤ nH c := by
  have h0 : cntN (fun _ => False) 0 80 = 0 := cntN_0 (fun k _ _ h => h)
  have h1 := cntN_lt (p := fun _ => False) (q := fun k => c.1 31 0 k ≠ 0) (t := 0) (d := 80) (fun k _ _ h => h.elim) (x := n) (by omega) (by omega) h (fun h => h)
  unfold nH
  omega
theorem nH_le {c : qS} : nH c ≤ 80 := cntN_le
section ST
variable {F : Nat}
theorem e_step9 {m : qS} {R kd n q : Nat} {v w : Int32} (hR : m.1 0 0 25 = nI R) (hR9 : R < 90000) (hkd : kd ≤ 3) (hn : n < 80) (hq : kd = 0 ∨ kd = 2 → q < n) (hq2 : 1 ≤ n → m.1 100 0 n = nI q ∧ q < n) : ∃ m', fX9_step F (nI kd) (nI n) v w m = some m' ∧ m'.2 = m.2 ∧ m'.1 0 0 25 = nI (R + 1) ∧ (m'.1 120 0 R = m.1 0 0 27 ∧ m'.1 121 0 R = nI kd ∧ m'.1 122 0 R = nI n ∧ m'.1 123 0 R = v ∧ m'.1 124 0 R = w) ∧ (∀ (T : Nat → Nat → Int32) (v' : Int32), rEq m 0 T → (kd ≤ 2 → v' = v) → (kd = 3 → ∃ x y, x < 16 ∧ y < 16 ∧ v = nI x ∧ w = nI y ∧ v' = nI (x + 16 * y)) → rEq m' 0 (ap1 kd n q v' T)) ∧ ∀ f j x, ¬ (j = 0 ∧ 108 ≤ f ∧ f ≤ 114 ∧ x < 80) → ¬ (j = 0 ∧ 120 ≤ f ∧ f ≤ 124 ∧ x = R) → ¬ (f = 0 ∧ j = 0 ∧ x = 25) → m'.1 f j x = m.1 f j x := by
  unfold fX9_step
  obtain ⟨m1, g1, g2⟩ := e_log (F := F) (kd := nI kd) (n := nI n) (v := v) (w := w) hR hR9
  rw [g1, bnd_s]
  simp only [nm_x]
  have o : ∀ f j x, ¬ (j = 0 ∧ 120 ≤ f ∧ f ≤ 124 ∧ x = R) → ¬ (f = 0 ∧ j = 0 ∧ x = 25) → m1.1 f j x = m.1 f j x := fun f j x h1 h2 => by
    rw [g2.2, if_neg (by omega), if_neg (by omega), if_neg (by omega), if_neg (by omega), if_neg (by omega), if_neg (by omega)]
  have e25 : m1.1 0 0 25 = nI (R + 1) := by rw [g2.2, if_neg (by omega), if_neg (by omega), if_neg (by omega), if_neg (by omega), if_neg (by omega), if_pos ⟨rfl, rfl, rfl⟩]
  have e120 : m1.1 120 0 R = m.1 0 0 27 := by rw [g2.2, if_pos ⟨rfl, rfl, rfl⟩]
  have e121 : m1.1 121 0 R = nI kd := by rw [g2.2, if_neg (by omega), if_pos ⟨rfl, rfl, rfl⟩]
  have e122 : m1.1 122 0 R = nI n := by rw [g2.2, if_neg (by omega), if_neg (by omega), if_pos ⟨rfl, rfl, rfl⟩]
  have e123 : m1.1 123 0 R = v := by rw [g2.2, if_neg (by omega), if_neg (by omega), if_neg (by omega), if_pos ⟨rfl, rfl, rfl⟩]
  have e124 : m1.1 124 0 R = w := by rw [g2.2, if_neg (by omega), if_neg (by omega), if_neg (by omega), if_neg (by omega), if_pos ⟨rfl, rfl, rfl⟩]
  have esub : nI (R + 1) - 1 = nI R := by rw [show (1 : Int32) = nI 1 from rfl, nI_sub (by omega)]; rfl
  obtain ⟨m2, k1, k2⟩ := e_apply9 (F := F) (m := m1) (s := 0) (p := R) (kd := kd) (n := n) (q := q) (v := v) (w := w) (by omega) hR9 hkd hn e121 e122 e123 e124 hq (fun h => by rw [o _ _ _ (by omega) (by omega)]; exact hq2 h)
  rw [e25, esub, show (0 : Int32) = nI 0 from rfl, k1, bnd_s]
  have off : ∀ f j x, ¬ (j = 0 ∧ 108 ≤ f ∧ f ≤ 114 ∧ x < 80) → m2.1 f j x = m1.1 f j x := fun f j x h => by
    by_cases cj : j = 0
    · exact amS_off k2 hkd hn hq (by omega)
    · rw [k2.2, if_neg cj]
  refine ⟨m2, rfl, k2.1.trans g2.1, by rw [off _ _ _ (by omega), e25], ⟨by rw [off _ _ _ (by omega), e120], by rw [off _ _ _ (by omega), e121], by rw [off _ _ _ (by omega), e122], by rw [off _ _ _ (by omega), e123], by rw [off _ _ _ (by omega), e124]⟩, fun T v' hT h1 h2 => ?_, fun f j x h1 h2 h3 => by rw [off f j x h1, o f j x h2 h3]⟩
  exact amS_rEq k2 (rEq_m hT (fun f q h1 h2 h3 h4 => o f 0 q (by omega) (by omega))) hkd hn hq h1 h2
/-- the truth in both, and what leads to it -/
def kA (σ m : qS) (C : Nat → qS) (π : Nat → Nat) (M S : Nat) : Prop := kLog σ m C π M S ∧ kBr σ m M ∧ tEq σ 0 (C S) 0 ∧ rEq m 0 (fun f k => (C S).1 f 0 k) ∧ ∀ k, k < 80 → ((C S).1 31 0 k ≠ 0 → m.1 105 0 k = (C S).1 37 0 k) ∧ ∃ y, y ≤ π S ∧ (C S).1 33 0 k = nI y
/-- the log and the truth differ alone, from S and R on -/
def frA (σ σ' : qS) (S : Nat) : Prop := σ'.2 = σ.2 ∧ ∀ f j k, f ≠ 38 → f ≠ 39 → ¬ (j = 0 ∧ 31 ≤ f ∧ f ≤ 37) → ¬ (j = 0 ∧ 10 ≤ f ∧ f ≤ 13 ∧ S ≤ k) → ¬ (f = 9 ∧ j = 0 ∧ k = 4) → σ'.1 f j k = σ.1 f j k
def frM (m m' : qS) (R : Nat) : Prop := m'.2 = m.2 ∧ ∀ f j x, ¬ (j = 0 ∧ 108 ≤ f ∧ f ≤ 114 ∧ x < 80) → ¬ (j = 0 ∧ 120 ≤ f ∧ f ≤ 124 ∧ R ≤ x) → ¬ (f = 0 ∧ j = 0 ∧ x = 25) → m'.1 f j x = m.1 f j x
theorem frA_rf {σ : qS} {S : Nat} : frA σ σ S := ⟨rfl, fun _ _ _ _ _ _ _ _ => rfl⟩
theorem frM_rf {m : qS} {R : Nat} : frM m m R := ⟨rfl, fun _ _ _ _ _ _ => rfl⟩
theorem frA_tr {a b c : qS} {S S' : Nat} (h : frA a b S) (g : frA b c S') (hS : S ≤ S') : frA a c S := ⟨g.1.trans h.1, fun f j k w1 w2 w3 w4 w5 => (g.2 f j k w1 w2 w3 (by omega) w5).trans (h.2 f j k w1 w2 w3 w4 w5)⟩
theorem frM_tr {a b c : qS} {S S' : Nat} (h : frM a b S) (g : frM b c S') (hS : S ≤ S') : frM a c S := ⟨g.1.trans h.1, fun f j k w1 w2 w3 => (g.2 f j k w1 (by omega) w3).trans (h.2 f j k w1 w2 w3)⟩
theorem rcS_frA {σ s : qS} {S L kd n : Nat} {v : Int32} (h : rcS σ s S L kd n v) : frA σ s S := ⟨h.1, fun f j k w1 w2 w3 w4 w5 => by
  rw [h.2 f j k w1 w2, if_neg (by omega), if_neg (by omega), if_neg (by omega), if_neg (by omega), if_neg (by omega), if_neg (by omega)]⟩
theorem kA_here {σ m : qS} {C : Nat → qS} {π : Nat → Nat} {M S : Nat} (h : kA σ m C π M S) : gdT (C S) M ∧ bEq M (C S) σ := h.1.2.2.2 S (Nat.le_refl _)
/-- SET or GONE in both -/
theorem pr_rec {σ m : qS} {C : Nat → qS} {π : Nat → Nat} {M S L kd n : Nat} {v w : Int32} (h : kA σ m C π M S) (h12 : kd = 1 ∨ kd = 2) (hs : sOK (C S) kd n M) (hg : gdT (stC (C S) kd n v) M) (hL : σ.1 0 0 15 = nI L) (hL9 : L + 1 < 2 ^ 31) (h27 : m.1 0 0 27 = nI (L + 1)) (hS9 : S < 999) (hR9 : π S < 90000) (hF : 100 ≤ F) : ∃ σ' m' C' π', fX8_record F (nI kd) (nI n) v σ = some σ' ∧ fX9_step F (nI kd) (nI n) v w m = some m' ∧ kA σ' m' C' π' M (S + 1) ∧ frA σ σ' S ∧ frM m m' (π S) ∧ π' (S + 1) = π S + 1 ∧ C' (S + 1) = stC (C S) kd n v ∧ (∀ i, i ≤ S → C' i = C i ∧ π' i = π i) ∧ (∀ i, i < S → chN σ' i = chN σ i) ∧ chN σ' S = L + 1 := by
  obtain ⟨hl, ⟨b1, b2, b3, b4, b5, b6⟩, ht, hr, hc⟩ := h
  obtain ⟨g0, g1⟩ := hl.2.2.2 S (Nat.le_refl _)
  have hn1 : kd = 2 → 1 ≤ n := hs.2.2.2.2.2.1
  have hpar : 1 ≤ n → σ.1 2 0 n = nI (parN σ n) ∧ parN σ n < n := fun h => bwf_par b3 h hs.1 hs.2.1
  have epar : parN (C S) n = parN σ n := bEq_par g1 hs.1 hs.2.1
  have k2 : kd ≤ 2 := by omega
  obtain ⟨σ', r1, r2⟩ := e_record (F := F) (v := v) (n := n) (kd := kd) hl.1 (by omega) hL hF hs.1 (by omega) (fun q => ⟨_, (hpar (hn1 (by omega))).2, (hpar (hn1 (by omega))).1⟩) (fun q => by omega)
  obtain ⟨m', s1, s2, s3, ⟨s4, s5, s6, s7, s8⟩, s9, s10⟩ := e_step9 (F := F) (kd := kd) (n := n) (q := parN (C S) n) (v := v) (w := w) hl.2.1 hR9 (by omega) hs.1 (fun q => by rw [epar]; exact (hpar (hn1 (by omega))).2) (fun q => by
    rw [epar, (b6 n hs.1 hs.2.1).1]
    exact hpar q)
  have hg1 : ∀ k, k < 80 → (gvN (C S) kd n k ↔ k = n) := fun k _ => ⟨fun h => h.1 k2, fun h => ⟨fun _ => h, fun h3 => by omega⟩⟩
  obtain ⟨o1, o2⟩ := cntN_one hs.1 hg1
  have ebl : blkN (C S) kd n = 1 := o1
  have hblk : blk m' (C S) kd n v (L + 1) (π S) := by
    intro k hk hgk
    obtain rfl := (hg1 k hk).mp hgk
    rw [o2, Nat.add_zero]
    refine ⟨by rw [s4, h27], ?_, s6, fun _ => s7, fun h => by omega⟩
    rw [s5, show min kd 3 = kd by omega]
  have hx := kLog_ext (m' := m') hl r2 hs hg (by rw [ebl]; exact s3) (fun f q h1 h2 h3 => s10 f 0 q (by omega) (by omega) (by omega)) hblk hL9
  have eC1 : xC C S (stC (C S) kd n v) (S + 1) = stC (C S) kd n v := if_neg (by omega)
  have eP1 : xP π S (π S + blkN (C S) kd n) (S + 1) = π S + 1 := by rw [ebl]; exact if_neg (by omega)
  refine ⟨σ', m', _, _, r1, s1, ⟨hx, ⟨?_, ?_, ?_, b4, b5, fun k k1 k2 => ?_⟩, ?_, ?_, ?_⟩, rcS_frA r2, ⟨s2, fun f j x w1 w2 w3 => s10 f j x w1 (by omega) w3⟩, eP1, eC1, fun i hi => ⟨if_pos hi, if_pos hi⟩, fun i hi => ?_, ?_⟩
  · rw [rcS_o r2 (by omega), b1]
  · rw [s10 _ _ _ (by omega) (by omega) (by omega), b2]
  · exact ⟨by rw [rcS_o r2 (by omega)]; exact b3.1, fun k k1 k2 k3 => by rw [rcS_o r2 (by omega)]; exact b3.2 k k1 k2 k3⟩
  · have e4 : isHd σ' k = isHd σ k := by unfold isHd; rw [rcS_o r2 (by omega)]
    rw [e4, s10 _ _ _ (by omega) (by omega) (by omega), s10 _ _ _ (by omega) (by omega) (by omega), s10 _ _ _ (by omega) (by omega) (by omega), s10 _ _ _ (by omega) (by omega) (by omega), s10 _ _ _ (by omega) (by omega) (by omega), rcS_o r2 (by omega), rcS_o r2 (by omega), rcS_o r2 (by omega), rcS_o r2 (by omega), rcS_o r2 (by omega)]
    exact b6 k k1 k2
  · intro f k h1 h2 h3
    rw [eC1, r2.2 f 0 k (by omega) (by omega), if_pos ⟨rfl, h1, h2⟩, stC_t h1 h2]
    exact apT_cp (by omega) hs.1 hs.2.1 (by
      by_cases c : 1 ≤ n
      · have := (hpar c).2
        have := hs.1
        omega
      · obtain rfl : n = 0 := by omega
        unfold parN
        rw [g0.1.1.1]
        decide) g1 ht (gdT_wf g0) (fun k k1 k2 => gdT_M g0 k1 k2) h1 h2 h3
  · rw [eC1]
    exact rEq_congr (s9 _ v hr (fun _ => rfl) (fun h => by omega)) (fun f k h1 h2 h3 => by rw [stC_t h1 (by omega)]; exact apT_ap1 hs k2 g0.1.1 h1 h2)
  · intro k k1
    rw [eC1, eP1]
    refine ⟨fun k2 => ?_, ?_⟩
    · rw [s10 _ _ _ (by omega) (by omega) (by omega), stC_t (by decide) (by decide)]
      rw [stC_t (by decide) (by decide)] at k2
      rcases h12 with rfl | rfl
      · rw [apT_1, if_neg (by omega), if_neg (by omega)] at k2 ⊢
        exact (hc k k1).1 k2
      · rw [apT_2, if_neg (by omega), if_neg (by omega)]
        rw [apT_2] at k2
        by_cases e : k = n
        · rw [if_pos ⟨e, rfl⟩] at k2
          exact absurd rfl k2
        · rw [if_neg (fun h => e h.1), if_neg (by omega)] at k2
          exact (hc k k1).1 k2
    · obtain ⟨y, y1, y2⟩ := (hc k k1).2
      rw [stC_t (by decide) (by decide)]
      rcases h12 with rfl | rfl
      · rw [apT_1, if_neg (by omega)]
        by_cases e : k = n
        · rw [if_pos ⟨e, rfl⟩, y2, nI_1]
          exact ⟨y + 1, by omega, rfl⟩
        · rw [if_neg (fun h => e h.1)]
          exact ⟨y, by omega, y2⟩
      · rw [apT_2, if_neg (by omega), if_neg (by omega)]
        exact ⟨y, by omega, y2⟩
  · unfold chN
    rw [rcS_o r2 (by omega)]
  · unfold chN
    rw [r2.2 10 0 S (by omega) (by omega), if_neg (by omega), if_pos ⟨rfl, rfl, rfl⟩, ix_nI (by omega)]
end ST

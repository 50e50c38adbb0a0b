/-! PURE: what both hold between calls -/
def tbI (x : Int32) (i : Nat) : Bool := x.toBitVec.getLsbD i
/-- session z, in both -/
def kZa (σ m : qS) (z : Nat) : Prop := σ.1 50 z 0 = nI z ∧ (∃ p, p < 4 ∧ σ.1 50 z 1 = nI p ∧ m.1 131 0 z = nI p) ∧ σ.1 50 z 2 = m.1 133 0 z ∧ σ.1 50 z 9 = m.1 134 0 z ∧ σ.1 50 z 15 = m.1 135 0 z ∧ (m.1 135 0 z = 0 ∨ m.1 135 0 z = 1 ∧ m.1 136 0 z = 0)
/-- what it answers for -/
def kZb (σ m : qS) (z : Nat) : Prop := ∃ a, a ≤ 6 ∧ σ.1 50 z 13 = nI a ∧ m.1 140 0 z = nI a ∧ ∀ i, i < a → σ.1 52 z i = m.1 139 0 (6 * z + i)
/-- an act that waits, in both -/
def kZe (σ m : qS) (z i : Nat) : Prop := actR σ z (1 + 6 * z + i) (m.1 138 0 (42 * z + 7 * i)) (m.1 138 0 (42 * z + 7 * i + 1)) (m.1 138 0 (42 * z + 7 * i + 2)) (m.1 138 0 (42 * z + 7 * i + 3)) (m.1 138 0 (42 * z + 7 * i + 4)) (m.1 138 0 (42 * z + 7 * i + 5)) (m.1 138 0 (42 * z + 7 * i + 6))
/-- what it has gathered -/
def kZc (σ m : qS) (z : Nat) : Prop := (m.1 135 0 z = 0 → σ.1 50 z 14 = m.1 136 0 z) ∧ (m.1 136 0 z = 0 ∨ m.1 136 0 z = 1 ∧ ∃ g, g ≤ 6 ∧ σ.1 50 z 12 = nI g ∧ m.1 137 0 z = nI g ∧ ∀ i, i < g → kZe σ m z i)
/-- a lease, in both, at time T -/
def kLz (σ m : qS) (T l : Nat) : Prop := ∃ t r, 1 ≤ t ∧ t ≤ 50 ∧ r ≤ T ∧ σ.1 57 l 0 = nI t ∧ σ.1 57 l 1 = nI (r + t) ∧ m.1 149 0 l = nI t ∧ m.1 150 0 l = nI r ∧ σ.1 57 l 2 = m.1 151 0 l ∧ (m.1 151 0 l = 0 ∨ m.1 151 0 l = 1)
/-- beliefs -/
def kBl (σ m : qS) (Z : Nat) : Prop := ∀ k, k < 80 → ∀ i, i < 32 → tbI (σ.1 15 0 k) i = decide (i < Z ∧ m.1 147 0 (80 * i + k) = 1)
def kLo (σ m : qS) : Prop := (σ.1 0 0 17 = 0 ∧ m.1 0 0 54 = 0) ∨ (σ.1 0 0 17 = 1 ∧ m.1 0 0 54 = 2) ∨ (σ.1 0 0 17 = 2 ∧ m.1 0 0 54 = 1)
/-- what the reference has for sessions and leases to come -/
def kFr (m : qS) (Z Y : Nat) : Prop := (∀ z, Z ≤ z → z < 10 → m.1 135 0 z = 0 ∧ m.1 136 0 z = 0 ∧ m.1 140 0 z = 0 ∧ m.1 143 0 z = 0 ∧ m.1 145 0 z = 0 ∧ m.1 146 0 z = 0 ∧ ∀ k, k < 80 → m.1 147 0 (80 * z + k) = 0) ∧ ∀ l, Y ≤ l → l < 10 → m.1 151 0 l = 0
/-- all that does not move by acts -/
def kR (σ m : qS) (Z Y T cmp : Nat) : Prop := (σ.2 0 0 = Z ∧ Z ≤ 10 ∧ σ.2 1 0 = Y ∧ Y ≤ 10 ∧ m.1 0 0 52 = nI Y ∧ σ.1 0 0 14 = nI T ∧ m.1 0 0 53 = nI T) ∧ (∀ z, z < Z → kZa σ m z ∧ kZb σ m z ∧ kZc σ m z) ∧ (∀ l, l < Y → kLz σ m T l) ∧ kFr m Z Y ∧ kBl σ m Z ∧ (σ.1 0 0 18 = m.1 0 0 55 ∧ σ.1 0 0 19 = m.1 0 0 56 ∧ σ.1 0 0 16 = nI cmp ∧ m.1 0 0 28 = nI cmp) ∧ ∀ z, σ.2 3 z ≤ 8192 ∧ (Z ≤ z → σ.2 3 z = 0)
/-- changes by which nodes were made -/
def nn6 (σ : qS) : Prop := ∀ k, k < 80 → ∃ x, x < 2 ^ 31 ∧ σ.1 6 0 k = nI x
/-- the snapshot -/
def kK (σ m : qS) (M R : Nat) : Prop := (1 ≤ M ∧ ¬ isHd σ 0) ∧ ((σ.1 0 0 12 = 0 ∧ m.1 0 0 17 = 0) ∨ (σ.1 0 0 12 = 1 ∧ m.1 0 0 17 = 1 ∧ ∃ ck, gdT ck M ∧ bEq M ck σ ∧ tEq σ 5 ck 0 ∧ rEq m 3 (fun f k => ck.1 f 0 k) ∧ (∀ k, k < 80 → ck.1 31 0 k ≠ 0 → m.1 115 0 k = ck.1 37 0 k) ∧ ∀ k, k < 80 → ∃ y, y ≤ R ∧ ck.1 33 0 k = nI y))
/-- a node's value as the reference finds it in its first steps -/
def rvl (m : qS) (v : Int32) : Nat → Int32
  | 0 => if v = 0 then 0 else -100
  | k + 1 => if m.1 121 0 k = 4 then -100 else if m.1 122 0 k = v then (if m.1 121 0 k = 3 then rvl m v k else if m.1 121 0 k = 2 then -100 else m.1 123 0 k) else rvl m v k
def cvl (c : qS) (v : Int32) : Int32 := if hlds c 0 v then c.1 32 0 v.toNatClampNeg else -100
/-- what can be asked starts with tree c, which the reference's first p0 steps lead to -/
def kP (σ m c : qS) (p0 cmp : Nat) : Prop := tEq σ 4 c 0 ∧ (∀ k, k < p0 → ∃ x, x ≤ cmp ∧ m.1 120 0 k = nI x) ∧ ∀ v, rvl m v p0 = cvl c v
/-- acts that wait -/
def pnC (m : qS) (z : Nat) : Nat := if m.1 136 0 z = 1 then (m.1 137 0 z).toNatClampNeg else 0
def pnd (m : qS) : Nat → Nat
  | 0 => 0
  | z + 1 => pnd m z + pnC m z
/-- both, behind n calls -/
def kI (n : Nat) (σ m : qS) : Prop := ∃ C π M S L Z Y T cmp, kD σ m C π M M S S L Z ∧ kR σ m Z Y T cmp ∧ kLo σ m ∧ nn6 σ ∧ kK σ m M (π S) ∧ kP σ m (C 0) (π 0) cmp ∧ cmp ≤ L ∧ T ≤ 50 * n ∧ L ≤ 2000 * n ∧ S + nH (C S) + pnd m Z ≤ n + M ∧ π S + nH (C S) + 80 * pnd m Z ≤ 1 + 161 * n
/-! frames -/
def frU (σ σ' : qS) : Prop := σ'.2 = σ.2 ∧ ∀ f j k, ((f = 0 ∧ j = 0 ∧ k ≠ 13 ∧ k ≠ 15 ∧ k ≠ 17) ∨ f = 15 ∨ 50 ≤ f ∨ (31 ≤ f ∧ f ≤ 37 ∧ 4 ≤ j)) → σ'.1 f j k = σ.1 f j k
def frV (m m' : qS) (R Z : Nat) : Prop := ∀ f q, ((f = 0 ∧ (q = 17 ∨ q = 28 ∨ 48 ≤ q ∧ q ≠ 54)) ∨ (108 ≤ f ∧ f ≤ 114 ∧ 240 ≤ q ∧ q < 320) ∨ f = 115 ∨ (120 ≤ f ∧ f ≤ 124 ∧ q < R) ∨ (131 ≤ f ∧ f ≤ 140) ∨ f = 145 ∨ ((f = 143 ∨ f = 146) ∧ Z ≤ q) ∨ 147 ≤ f) → m'.1 f 0 q = m.1 f 0 q
def frB6 (σ σ' : qS) (M : Nat) : Prop := ∀ f k, 2 ≤ f → f ≤ 6 → k < M → σ'.1 f 0 k = σ.1 f 0 k
theorem frU_rf {σ : qS} : frU σ σ := ⟨rfl, fun _ _ _ _ => rfl⟩
theorem frV_rf {m : qS} {R Z : Nat} : frV m m R Z := fun _ _ _ => rfl
theorem frU_tr {a b c : qS} (h : frU a b) (g : frU b c) : frU a c := ⟨g.1.trans h.1, fun f j k w => (g.2 f j k w).trans (h.2 f j k w)⟩
theorem frV_tr {a b c : qS} {R R' Z : Nat} (h : frV a b R Z) (g : frV b c R' Z) (hR : R ≤ R') : frV a c R Z := fun f q w => (g f q (by omega)).trans (h f q w)
theorem frB6_tr {a b c : qS} {M M' : Nat} (h : frB6 a b M) (g : frB6 b c M') (hM : M ≤ M') : frB6 a c M := fun f k w1 w2 w3 => (g f k w1 w2 (by omega)).trans (h f k w1 w2 w3)
theorem nH_tEq {a b : qS} (h : tEq a 0 b 0) : nH a = nH b := cntN_congr (fun k _ k2 => by rw [h 31 k (by decide) (by decide) (by omega)])
theorem pnC_congr {m m' : qS} {z : Nat} (h6 : m'.1 136 0 z = m.1 136 0 z) (h7 : m'.1 137 0 z = m.1 137 0 z) : pnC m' z = pnC m z := by unfold pnC; rw [h6, h7]
theorem pnd_congr {m m' : qS} : ∀ {Z : Nat}, (∀ z, z < Z → pnC m' z = pnC m z) → pnd m' Z = pnd m Z
  | 0, _ => rfl
  | Z + 1, h => by rw [pnd, pnd, pnd_congr (fun z hz => h z (by omega)), h Z (by omega)]
theorem pnd_upd {m m' : qS} {z : Nat} : ∀ {Z : Nat}, z < Z → (∀ y, y < Z → y ≠ z → pnC m' y = pnC m y) → pnd m' Z + pnC m z = pnd m Z + pnC m' z
  | 0, h, _ => by omega
  | Z + 1, h, e => by
    by_cases c : z = Z
    · subst c
      rw [pnd, pnd, pnd_congr (fun y hy => e y (by omega) (by omega))]
      omega
    · have := pnd_upd (Z := Z) (z := z) (by omega) (fun y hy hn => e y (by omega) hn)
      rw [pnd, pnd, e Z (by omega) (by omega)]
      omega
theorem rvl_fr {m m' : qS} {v : Int32} : ∀ {p : Nat}, (∀ f q, 120 ≤ f → f ≤ 124 → q < p → m'.1 f 0 q = m.1 f 0 q) → rvl m' v p = rvl m v p
  | 0, _ => rfl
  | p + 1, h => by
    have := rvl_fr (v := v) (fun f q h1 h2 h3 => h f q h1 h2 (Nat.lt_succ_of_lt h3))
    unfold rvl
    rw [h 121 p (by decide) (by decide) (Nat.lt_succ_self p), h 122 p (by decide) (by decide) (Nat.lt_succ_self p), h 123 p (by decide) (by decide) (Nat.lt_succ_self p), this]
theorem in80 {v : Int32} (h : ¬ v < 0 ∧ ¬ 80 ≤ v) : v.toNatClampNeg < 80 ∧ v = nI v.toNatClampNeg := by
  obtain ⟨a, ha, h31, rfl⟩ := in_ex (vp_in_80.mpr h)
  rw [ix_nI h31]
  exact ⟨ha, rfl⟩
theorem cvl_cp {c c' : qS} (h : tEq c' 0 c 0) (v : Int32) : cvl c' v = cvl c v := by
  unfold cvl
  by_cases h8 : ¬ v < 0 ∧ ¬ 80 ≤ v
  · have h9 := (in80 h8).1
    have e : hlds c' 0 v ↔ hlds c 0 v := by
      unfold hlds
      rw [h 31 _ (by decide) (by decide) h9]
    rw [h 32 _ (by decide) (by decide) h9]
    by_cases k : hlds c 0 v
    · rw [if_pos k, if_pos (e.mpr k)]
    · rw [if_neg k, if_neg (fun q => k (e.mp q))]
  · rw [if_neg (fun q => h8 q.1), if_neg (fun q => h8 q.1)]
theorem kP_fr {σ m σ' m' c c' : qS} {p0 cmp cmp' : Nat} (h : kP σ m c p0 cmp) (h4 : ∀ f k, 31 ≤ f → f ≤ 37 → σ'.1 f 4 k = σ.1 f 4 k) (ht : tEq c' 0 c 0) (hm : ∀ f q, 120 ≤ f → f ≤ 124 → q < p0 → m'.1 f 0 q = m.1 f 0 q) (hc : cmp ≤ cmp') : kP σ' m' c' p0 cmp' := by
  obtain ⟨h1, h2, h3⟩ := h
  refine ⟨fun f k k1 k2 k3 => by rw [h4 f k k1 k2, h1 f k k1 k2 k3, ht f k k1 k2 k3], fun k hk => ?_, fun v => by rw [rvl_fr hm, h3 v, cvl_cp ht]⟩
  obtain ⟨x, x1, x2⟩ := h2 k hk
  exact ⟨x, by omega, by rw [hm 120 k (by decide) (by decide) hk]; exact x2⟩
theorem kK_fr {σ m σ' m' : qS} {M R M' R' : Nat} (h : kK σ m M R) (h12 : σ'.1 0 0 12 = σ.1 0 0 12) (h5 : ∀ f k, 31 ≤ f → f ≤ 37 → σ'.1 f 5 k = σ.1 f 5 k) (h17 : m'.1 0 0 17 = m.1 0 0 17) (hm : ∀ f q, (108 ≤ f ∧ f ≤ 114 ∧ 240 ≤ q ∧ q < 320) ∨ f = 115 → m'.1 f 0 q = m.1 f 0 q) (hb : frB6 σ σ' M) (hw : bwf σ' M') (hM : M ≤ M') (hM8 : M' ≤ 80) (hR : R ≤ R') : kK σ' m' M' R' := by
  obtain ⟨⟨h1, h0⟩, h⟩ := h
  refine ⟨⟨by omega, fun w => h0 (by unfold isHd at w ⊢; rw [← hb 4 0 (by decide) (by decide) h1]; exact w)⟩, ?_⟩
  rcases h with ⟨a1, a2⟩ | ⟨a1, a2, ck, a3, a4, a5, a6, a7, a8⟩
  · exact Or.inl ⟨by rw [h12]; exact a1, by rw [h17]; exact a2⟩
  · have g1 := a3.1.2.1
    have hb1 : bEq M ck (setB σ' ck) := fun f k k1 k2 k3 k4 => by rw [setB_b k1 k2, hb f k k1 k2 k3]; exact a4 f k k1 k2 k3 k4
    have ht1 : tEq (setB σ' ck) 0 ck 0 := fun f k k1 k2 k3 => by rw [setB_t k1]
    have hw1 : bwf (setB σ' ck) M' := ⟨by rw [setB_b (by decide) (by decide)]; exact hw.1, fun k k1 k2 k3 => by rw [setB_b (by decide) (by decide)]; exact hw.2 k k1 k2 k3⟩
    refine Or.inr ⟨by rw [h12]; exact a1, by rw [h17]; exact a2, setB σ' ck, gdT_cp a3 ht1 hb1 hw1 hM hM8, fun f k k1 k2 k3 k4 => by rw [setB_b k1 k2], fun f k k1 k2 k3 => by rw [h5 f k k1 k2, ht1 f k k1 k2 k3]; exact a5 f k k1 k2 k3, ?_, fun k k1 k2 => ?_, fun k k1 => ?_⟩
    · exact rEq_congr (rEq_m a6 (fun f q q1 q2 q3 q4 => hm f q (by omega))) (fun f k k1 k2 k3 => ht1 f k k1 (by omega) k3)
    · rw [hm 115 k (by omega), ht1 37 k (by decide) (by decide) k1]
      exact a7 k k1 (by rw [← ht1 31 k (by decide) (by decide) k1]; exact k2)
    · obtain ⟨y, y1, y2⟩ := a8 k k1
      exact ⟨y, by omega, by rw [ht1 33 k (by decide) (by decide) k1]; exact y2⟩
theorem kR_fr {σ m σ' m' : qS} {Z Y T cmp R : Nat} (h : kR σ m Z Y T cmp) (hU : frU σ σ') (hV : frV m m' R Z) : kR σ' m' Z Y T cmp := by
  obtain ⟨⟨a1, a2, a3, a4, a5, a6, a7⟩, b, c, d, e, ⟨f1, f2, f3, f4⟩, g⟩ := h
  have o : ∀ f j k, 50 ≤ f → σ'.1 f j k = σ.1 f j k := fun f j k w => hU.2 f j k (by omega)
  have p : ∀ f q, (131 ≤ f ∧ f ≤ 140) ∨ f = 145 ∨ 147 ≤ f → m'.1 f 0 q = m.1 f 0 q := fun f q w => hV f q (by omega)
  refine ⟨⟨by rw [hU.1]; exact a1, a2, by rw [hU.1]; exact a3, a4, by rw [hV 0 52 (by omega)]; exact a5, by rw [hU.2 0 0 14 (by omega)]; exact a6, by rw [hV 0 53 (by omega)]; exact a7⟩, fun z hz => ?_, fun l hl => ?_, ⟨fun z h1 h2 => ?_, fun l h1 h2 => by rw [p 151 l (by omega)]; exact d.2 l h1 h2⟩, fun k hk i hi => ?_, ⟨by rw [hU.2 0 0 18 (by omega), hV 0 55 (by omega)]; exact f1, by rw [hU.2 0 0 19 (by omega), hV 0 56 (by omega)]; exact f2, by rw [hU.2 0 0 16 (by omega)]; exact f3, by rw [hV 0 28 (by omega)]; exact f4⟩, by rw [hU.1]; exact g⟩
  · obtain ⟨b1, b2, b3⟩ := b z hz
    refine ⟨?_, ?_, ?_⟩
    · unfold kZa at b1 ⊢
      rw [o 50 z 0 (by decide), o 50 z 1 (by decide), o 50 z 2 (by decide), o 50 z 9 (by decide), o 50 z 15 (by decide), p 131 z (by omega), p 133 z (by omega), p 134 z (by omega), p 135 z (by omega), p 136 z (by omega)]
      exact b1
    · obtain ⟨x, x1, x2, x3, x4⟩ := b2
      exact ⟨x, x1, by rw [o 50 z 13 (by decide)]; exact x2, by rw [p 140 z (by omega)]; exact x3, fun i hi => by rw [o 52 z i (by decide), p 139 _ (by omega)]; exact x4 i hi⟩
    · obtain ⟨c1, c2⟩ := b3
      refine ⟨by rw [o 50 z 14 (by decide), p 135 z (by omega), p 136 z (by omega)]; exact c1, ?_⟩
      rw [p 136 z (by omega)]
      rcases c2 with c2 | ⟨c2, x, x1, x2, x3, x4⟩
      · exact Or.inl c2
      · refine Or.inr ⟨c2, x, x1, by rw [o 50 z 12 (by decide)]; exact x2, by rw [p 137 z (by omega)]; exact x3, fun i hi => ?_⟩
        have := x4 i hi
        unfold kZe at this ⊢
        rw [p 138 _ (by omega), p 138 _ (by omega), p 138 _ (by omega), p 138 _ (by omega), p 138 _ (by omega), p 138 _ (by omega), p 138 _ (by omega)]
        exact actR_fr this (by funext q; exact o 56 _ q (by decide))
  · have := c l hl
    unfold kLz at this ⊢
    rw [o 57 l 0 (by decide), o 57 l 1 (by decide), o 57 l 2 (by decide), p 149 l (by omega), p 150 l (by omega), p 151 l (by omega)]
    exact this
  · obtain ⟨d1, d2, d3, d4, d5, d6, d7⟩ := d.1 z h1 h2
    exact ⟨by rw [p 135 z (by omega)]; exact d1, by rw [p 136 z (by omega)]; exact d2, by rw [p 140 z (by omega)]; exact d3, by rw [hV 143 z (by omega)]; exact d4, by rw [p 145 z (by omega)]; exact d5, by rw [hV 146 z (by omega)]; exact d6, fun k hk => by rw [p 147 _ (by omega)]; exact d7 k hk⟩
  · rw [hU.2 15 0 k (by omega), p 147 _ (by omega)]
    exact e k hk i hi
/-- what acts leave both at -/
theorem kI_of {n n' : Nat} {σ m σ' m' : qS} {C C' : Nat → qS} {π π' : Nat → Nat} {M S L Z Y T cmp M' S' L' : Nat} (hR : kR σ m Z Y T cmp) (hK : kK σ m M (π S)) (hP : kP σ m (C 0) (π 0) cmp) (h0S : π 0 ≤ π S) (hcL : cmp ≤ L) (hk : kD σ' m' C' π' M' M' S' S' L' Z) (hU : frU σ σ') (hV : frV m m' (π S) Z) (hb : frB6 σ σ' M) (h6 : nn6 σ') (hM : M ≤ M') (h0 : π' 0 = π 0) (ht : tEq (C' 0) 0 (C 0) 0) (hRR : π S ≤ π' S') (hlo : kLo σ' m') (hL : L ≤ L') (hT : T ≤ 50 * n') (hL9 : L' ≤ 2000 * n') (hS : S' + nH (C' S') + pnd m Z ≤ n' + M') (hp : π' S' + nH (C' S') + 80 * pnd m Z ≤ 1 + 161 * n') : kI n' σ' m' := by
  have hpn : pnd m' Z = pnd m Z := pnd_congr (fun z _ => pnC_congr (hV 136 z (by omega)) (hV 137 z (by omega)))
  refine ⟨C', π', M', S', L', Z, Y, T, cmp, hk, kR_fr hR hU hV, hlo, h6, kK_fr hK (hU.2 0 0 12 (by omega)) (fun f k k1 k2 => hU.2 f 5 k (by omega)) (hV 0 17 (by omega)) (fun f q w => hV f q (by omega)) hb hk.1.2.1.2.2.1 hM hk.1.2.1.2.2.2.2.1 hRR, ?_, by omega, hT, hL9, by rw [hpn]; exact hS, by rw [hpn]; exact hp⟩
  rw [h0]
  exact kP_fr hP (fun f k k1 k2 => hU.2 f 4 k (by omega)) ht (fun f q k1 k2 k3 => hV f q (by omega)) (Nat.le_refl _)

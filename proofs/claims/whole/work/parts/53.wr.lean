/-! PURE: the reference's watches at a step -/
def frW (m s : qS) (z : Nat) : Prop := s.2 = m.2 ∧ ∀ f j q, ¬ (j = 0 ∧ (((f = 141 ∨ f = 142) ∧ 8 * z ≤ q ∧ q < 8 * z + 8) ∨ ((f = 143 ∨ f = 146) ∧ q = z) ∨ (f = 144 ∧ 8000 * z ≤ q ∧ q < 8000 * z + 8000))) → s.1 f j q = m.1 f j q
theorem frW_rf {m : qS} {z : Nat} : frW m m z := ⟨rfl, fun _ _ _ _ => rfl⟩
theorem frW_tr {a b c : qS} {z : Nat} (h : frW a b z) (g : frW b c z) : frW a c z := ⟨g.1.trans h.1, fun f j q w => (g.2 f j q w).trans (h.2 f j q w)⟩
/-- session z's watches in the reference -/
abbrev wM (m : qS) (z a d : Nat) : List (Int32 × Int32) := wl (fun j => m.1 141 0 (8 * z + j)) (fun j => m.1 142 0 (8 * z + j)) a d
/-- what it was told and has not heard, B in all at most -/
def tM (m : qS) (z B : Nat) (T : List Int32) : Prop := ∃ a b, m.1 145 0 z = nI a ∧ m.1 146 0 z = nI b ∧ a ≤ b ∧ b ≤ B ∧ T = sl (fun j => m.1 144 0 (8000 * z + j)) a (b - a)
section WR
variable {F : Nat}
theorem nI_8 (a b : Nat) : 8 * nI a + nI b = nI (8 * a + b) := by
  rw [show (8 : Int32) = nI 8 from rfl, nI_mul, nI_add]
theorem nI_8000 (a b : Nat) : 8000 * nI a + nI b = nI (8000 * a + b) := by
  rw [show (8000 : Int32) = nI 8000 from rfl, nI_mul, nI_add]
theorem e_tell {m : qS} {z B : Nat} {T : List Int32} {x : Int32} (hz : z < 10) (hT : tM m z B T) (hB : B < 8000) : ∃ s', fX9_tell F (nI z) x m = some s' ∧ tM s' z (B + 1) (T ++ [x]) ∧ s'.2 = m.2 ∧ ∀ f j q, ¬ (j = 0 ∧ ((f = 146 ∧ q = z) ∨ (f = 144 ∧ 8000 * z ≤ q ∧ q < 8000 * z + 8000))) → s'.1 f j q = m.1 f j q := by
  obtain ⟨a, b, h1, h2, h3, h4, rfl⟩ := hT
  unfold fX9_tell
  have i10 : 10 ≤ 2 ^ 31 := by decide
  have e : (qI m 144 0 (8000 * z + b) x).1 146 0 z = nI b := by rw [qI_ap, if_neg (by omega), h2]
  simp only [nm_x, ldi_nI hz i10, h2, nI_8000, inx_nI (show 8000 * z + b < 80000 by omega) (show 80000 ≤ 2 ^ 31 by decide), ix_nI (show 8000 * z + b < 2 ^ 31 by omega), e, nI_1, inx_nI hz i10, ix_nI (show z < 2 ^ 31 by omega)]
  refine ⟨_, rfl, ⟨a, b + 1, ?_, ?_, by omega, by omega, ?_⟩, rfl, fun f j q h => ?_⟩
  · rw [qI_ap, if_neg (by omega), qI_ap, if_neg (by omega), h1]
  · rw [qI_ap, if_pos ⟨rfl, rfl, rfl⟩]
  · rw [show b + 1 - a = (b - a) + 1 by omega, sl_snoc]
    congr 1
    · apply sl_congr
      intro j hj
      show m.1 144 0 _ = _
      rw [qI_ap, if_neg (by omega), qI_ap, if_neg (by omega)]
    · show [x] = [_]
      rw [qI_ap, if_neg (by omega), qI_ap, if_pos ⟨rfl, rfl, by omega⟩]
  · rw [qI_ap, if_neg (fun g => h ⟨g.2.1, Or.inl ⟨g.1, g.2.2⟩⟩), qI_ap, if_neg (fun g => h ⟨g.2.1, Or.inr ⟨g.1, by omega, by omega⟩⟩)]
/-- whether the reference tells -/
def fiM (m : qS) (kd n : Nat) (w : Int32 × Int32) : Bool := decide (kd ≤ 2) && fir (vw m) kd n w
theorem w29 {m : qS} {K : Nat} {z j c kd n M a kept : Nat} (hz : z < 10) (hj : j < c) (hc : c ≤ 8) (hkd : kd ≤ 3) (hn : n < 80) (hnM : n < M) (hw : wfB (vw m) (fun k => k < M)) (hF : 100 ≤ F) (ha : m.1 141 0 (8 * z + j) = nI a) (ha8 : a < 80) :
    fX9_watched_29 F (K + 1) (nI z) (nI n) (nI kd) (nI kept) (nI c) (nI j) m = fX9_watched_171 F (fX9_watched_29 F K) (nI z) (nI n) (nI kd) (nI kept) (nI c) (nI j) (nI (8 * z + j)) (if fiM m kd n (m.1 141 0 (8 * z + j), m.1 142 0 (8 * z + j)) = true then 1 else 0) m := by
  have k0 : nI kd ≤ 0 ↔ kd = 0 := ⟨fun h => by have := (nI_le' (b := 0) (by omega) (by omega)).mp h; omega, fun h => by rw [h]; decide⟩
  have k1 : nI kd = 1 ↔ kd = 1 := ⟨fun h => nI_inj (b := 1) (by omega) (by omega) h, fun h => by rw [h]; rfl⟩
  have k2 : nI kd = 2 ↔ kd = 2 := ⟨fun h => nI_inj (b := 2) (by omega) (by omega) h, fun h => by rw [h]; rfl⟩
  have k3 : (3 : Int32) ≤ nI kd ↔ 3 ≤ kd := nI_le' (a := 3) (by omega) (by omega)
  have kn : nI n ≤ 0 ↔ n = 0 := ⟨fun h => by have := (nI_le' (b := 0) (by omega) (by omega)).mp h; omega, fun h => by rw [h]; decide⟩
  have hx : 8 * z + j < 80 := by omega
  rw [fX9_watched_29, if_neg (by rw [nI_le' (by omega) (by omega)]; omega)]
  unfold fX9_watched_75 fX9_watched_107 fX9_watched_133 fX9_watched_137 fX9_watched_153 fX9_watched_170
  simp only [nm_x, nI_8, ldi_nI hx i80', k0, k1, k2, k3, kn, ldi_nI hn i80']
  have nz : (1 : Int32) ≠ 0 := by decide
  unfold fiM fir
  by_cases hk : 3 ≤ kd
  · have hk2 : ¬ kd ≤ 2 := by omega
    simp only [hk, hk2, if_true, decide_false, Bool.false_and, Bool.false_eq_true, if_false, ite_self]
    by_cases c0 : m.1 142 0 (8 * z + j) = 0
    · rw [if_pos c0]
    · rw [if_neg c0]
      by_cases c1 : m.1 142 0 (8 * z + j) = 1
      · rw [if_pos c1]
      · rw [if_neg c1, ha, e_isBelow hw hF ha8 hn hnM, bnd2_s]
  · have hk2 : kd ≤ 2 := by omega
    simp only [hk, hk2, if_false, decide_true, Bool.true_and, nz]
    by_cases c0 : m.1 142 0 (8 * z + j) = 0
    · simp only [c0, if_true]
      by_cases d : m.1 141 0 (8 * z + j) = nI n
      · by_cases e : kd = 0
        · simp [e, d]
        · simp [e, d]
      · have d' : ¬ nI n = m.1 141 0 (8 * z + j) := fun h => d h.symm
        simp [d, d']
    · simp only [c0, if_false]
      by_cases c1 : m.1 142 0 (8 * z + j) = 1
      · simp only [c1, if_true]
        have e2 : (vw m).1 2 0 n = m.1 100 0 n := rfl
        have pn : n = 0 → ¬ m.1 100 0 n = m.1 141 0 (8 * z + j) := fun h h9 => by
          have h8 : m.1 100 0 0 = -100 := hw.1
          rw [h, h8, ha] at h9
          exact nI_pos (n := a) (by omega) (by rw [← h9]; decide)
        rw [e2]
        by_cases d : m.1 141 0 (8 * z + j) = nI n
        · have d' : nI n = m.1 141 0 (8 * z + j) := d.symm
          by_cases f2 : kd = 2
          · rw [if_pos f2, if_pos d, if_pos (decide_eq_true (Or.inr ⟨f2, d'⟩))]
          · rw [if_neg f2]
            by_cases f1 : kd = 1
            · rw [if_pos f1, if_neg (fun h => (of_decide_eq_true h).elim (fun h => h.1 f1) (fun h => f2 h.1))]
            · rw [if_neg f1]
              by_cases f0 : n = 0
              · rw [if_pos f0, if_neg (fun h => (of_decide_eq_true h).elim (fun h => pn f0 h.2) (fun h => f2 h.1))]
              · rw [if_neg f0]
                by_cases g : m.1 141 0 (8 * z + j) = m.1 100 0 n
                · rw [if_pos g, if_pos (decide_eq_true (Or.inl ⟨f1, g.symm⟩))]
                · rw [if_neg g, if_neg (fun h => (of_decide_eq_true h).elim (fun h => g h.2.symm) (fun h => f2 h.1))]
        · have d' : ¬ nI n = m.1 141 0 (8 * z + j) := fun h => d h.symm
          rw [if_neg d, ite_self]
          by_cases f1 : kd = 1
          · rw [if_pos f1, if_neg (fun h => (of_decide_eq_true h).elim (fun h => h.1 f1) (fun h => d' h.2))]
          · rw [if_neg f1]
            by_cases f0 : n = 0
            · rw [if_pos f0, if_neg (fun h => (of_decide_eq_true h).elim (fun h => pn f0 h.2) (fun h => d' h.2))]
            · rw [if_neg f0]
              by_cases g : m.1 141 0 (8 * z + j) = m.1 100 0 n
              · rw [if_pos g, if_pos (decide_eq_true (Or.inl ⟨f1, g.symm⟩))]
              · rw [if_neg g, if_neg (fun h => (of_decide_eq_true h).elim (fun h => g h.2.symm) (fun h => d' h.2))]
      · simp only [c1, if_false]
        rw [ha, e_isBelow hw hF ha8 hn hnM, bnd2_s, ix_nI (by omega)]
        unfold b2
        by_cases d : isB (parN (vw m)) a 80 n = true
        · rw [if_pos d, if_neg nz]
        · rw [if_neg d]
          exact if_pos rfl
def hmW (m : qS) (kd n : Nat) (W : List (Int32 × Int32)) : List (Int32 × Int32) := W.filter (fun w => !fiM m kd n w || w.2 == 2)
def hmT (m : qS) (kd n : Nat) (W : List (Int32 × Int32)) : List Int32 := (W.filter (fiM m kd n)).map (fun _ => nI (10 * n + kd))
theorem fiM_congr {s m : qS} {kd n : Nat} (h : s.1 100 0 = m.1 100 0) : fiM s kd n = fiM m kd n := by
  funext w
  unfold fiM
  rw [fir_congr (s := vw s) (σ := vw m) (by funext j; exact h)]
theorem e_watched_l {m : qS} {z kd nn M : Nat} (hz : z < 10) (hkd : kd ≤ 3) (hn8 : nn < 80) (hnM : nn < M) (hw : wfB (vw m) (fun k => k < M)) (hF : 100 ≤ F) {c : Nat} (hc : c ≤ 8) : ∀ (d i n x B : Nat) (s : qS) (T : List Int32), i + d = c → x ≤ i → d < n → s.1 100 0 = m.1 100 0 → wOk (wM s z i d) → tM s z B T → B + d ≤ 8000 →
    ∃ s', fX9_watched_29 F n (nI z) (nI nn) (nI kd) (nI x) (nI c) (nI i) s = some s' ∧ frW s s' z ∧ tM s' z (B + d) (T ++ hmT m kd nn (wM s z i d)) ∧ ∃ c', c' ≤ c ∧ s'.1 143 0 z = nI c' ∧ wM s' z 0 c' = wM s z 0 x ++ hmW m kd nn (wM s z i d) := by
  intro d
  induction d with
  | zero =>
    intro i n x B s T hi hx hn h2 hW hT hl
    obtain ⟨n, rfl⟩ : ∃ m, n = m + 1 := ⟨n - 1, by omega⟩
    rw [fX9_watched_29, if_pos ((nI_le' (by omega) (by omega)).mpr (by omega)), inx_nI hz (by decide), ix_nI (by omega)]
    simp only [nm_x]
    refine ⟨_, rfl, ⟨rfl, fun f j q h => ?_⟩, ?_, x, by omega, ?_, ?_⟩
    · rw [qI_ap, if_neg (fun g => h ⟨g.2.1, Or.inr (Or.inl ⟨Or.inl g.1, g.2.2⟩)⟩)]
    · show tM _ z (B + 0) (T ++ [])
      rw [List.append_nil, Nat.add_zero]
      obtain ⟨a, b, g1, g2, g3, g4, g5⟩ := hT
      exact ⟨a, b, by rw [qI_ap, if_neg (by omega), g1], by rw [qI_ap, if_neg (by omega), g2], g3, g4, by rw [qI_k (by decide)]; exact g5⟩
    · rw [qI_ap, if_pos ⟨rfl, rfl, rfl⟩]
    · show wM _ z 0 x = wM s z 0 x ++ []
      rw [List.append_nil]
      show wl _ _ 0 x = wl _ _ 0 x
      rw [qI_k (by decide), qI_k (by decide)]
  | succ d ih =>
    intro i n x B s T hi hx hn h2 hW hT hl
    obtain ⟨n, rfl⟩ : ∃ m, n = m + 1 := ⟨n - 1, by omega⟩
    have hi8 : i < 8 := by omega
    have hx8 : 8 * z + x < 80 := by omega
    have hy8 : 8 * z + i < 80 := by omega
    obtain ⟨a, ha, hae⟩ := hW (s.1 141 0 (8 * z + i), s.1 142 0 (8 * z + i)) (List.mem_cons_self ..)
    have hws : wfB (vw s) (fun k => k < M) := ⟨by show s.1 100 0 0 = _; rw [h2]; exact hw.1, fun k g1 g2 g3 => by
      show ∃ q, q < k ∧ s.1 100 0 k = nI q ∧ _
      rw [h2]
      exact hw.2 k g1 g2 g3⟩
    rw [w29 hz (by omega) hc hkd hn8 hnM hws hF hae ha, fiM_congr h2]
    have keep : ∀ (s1 : qS) (T1 : List Int32) (B1 : Nat), frW s s1 z → (∀ q, s1.1 141 0 q = s.1 141 0 q) → (∀ q, s1.1 142 0 q = s.1 142 0 q) → tM s1 z B1 T1 → B1 + d ≤ 8000 → B1 + d ≤ B + (d + 1) → ∃ s', fX9_watched_206 F (fX9_watched_29 F n) (nI z) (nI nn) (nI kd) (nI x) (nI c) (nI i) (nI (8 * z + i)) s1 = some s' ∧ frW s s' z ∧ tM s' z (B + (d + 1)) (T1 ++ hmT m kd nn (wM s z (i + 1) d)) ∧ ∃ c', c' ≤ c ∧ s'.1 143 0 z = nI c' ∧ wM s' z 0 c' = (wM s z 0 x ++ [(s.1 141 0 (8 * z + i), s.1 142 0 (8 * z + i))]) ++ hmW m kd nn (wM s z (i + 1) d) := by
      intro s1 T1 B1 hf q1 q2 hT1 hl1 hl2
      unfold fX9_watched_206 fX9_watched_247
      have e54 : (qI s1 141 0 (8 * z + x) (s.1 141 0 (8 * z + i))).1 142 0 (8 * z + i) = s.1 142 0 (8 * z + i) := by rw [qI_ap, if_neg (by omega), q2]
      simp only [nm_x, nI_8, ldi_nI hy8 i80', inx_nI hx8 i80', ix_nI (show 8 * z + x < 2 ^ 31 by omega), nI_1, q1, e54]
      have g1 : ∀ q, (qI (qI s1 141 0 (8 * z + x) (s.1 141 0 (8 * z + i))) 142 0 (8 * z + x) (s.1 142 0 (8 * z + i))).1 141 0 q = if q = 8 * z + x then s.1 141 0 (8 * z + i) else s.1 141 0 q := fun q => by
        rw [qI_ap, if_neg (by omega), qI_ap]
        by_cases e : q = 8 * z + x
        · rw [if_pos ⟨rfl, rfl, e⟩, if_pos e]
        · rw [if_neg (fun h => e h.2.2), if_neg e, q1]
      have g2 : ∀ q, (qI (qI s1 141 0 (8 * z + x) (s.1 141 0 (8 * z + i))) 142 0 (8 * z + x) (s.1 142 0 (8 * z + i))).1 142 0 q = if q = 8 * z + x then s.1 142 0 (8 * z + i) else s.1 142 0 q := fun q => by
        rw [qI_ap]
        by_cases e : q = 8 * z + x
        · rw [if_pos ⟨rfl, rfl, e⟩, if_pos e]
        · rw [if_neg (fun h => e h.2.2), if_neg e, qI_ap, if_neg (by omega), q2]
      have w1 : wM (qI (qI s1 141 0 (8 * z + x) (s.1 141 0 (8 * z + i))) 142 0 (8 * z + x) (s.1 142 0 (8 * z + i))) z (i + 1) d = wM s z (i + 1) d := wl_congr (fun j hj => by
        rw [g1, g2, if_neg (by omega), if_neg (by omega)]
        exact ⟨rfl, rfl⟩)
      have w0 : wM (qI (qI s1 141 0 (8 * z + x) (s.1 141 0 (8 * z + i))) 142 0 (8 * z + x) (s.1 142 0 (8 * z + i))) z 0 (x + 1) = wM s z 0 x ++ [(s.1 141 0 (8 * z + i), s.1 142 0 (8 * z + i))] := by
        show wl _ _ 0 (x + 1) = _
        rw [wl_snoc, Nat.zero_add, g1, g2, if_pos rfl, if_pos rfl]
        congr 1
        exact wl_congr (fun j hj => by rw [g1, g2, if_neg (by omega), if_neg (by omega)]; exact ⟨rfl, rfl⟩)
      have hf2 : frW s (qI (qI s1 141 0 (8 * z + x) (s.1 141 0 (8 * z + i))) 142 0 (8 * z + x) (s.1 142 0 (8 * z + i))) z := by
        refine frW_tr hf ⟨rfl, fun f j q h => ?_⟩
        rw [qI_ap, if_neg (fun g => h ⟨g.2.1, Or.inl ⟨Or.inr g.1, by omega, by omega⟩⟩), qI_ap, if_neg (fun g => h ⟨g.2.1, Or.inl ⟨Or.inl g.1, by omega, by omega⟩⟩)]
      obtain ⟨s', k1, k2, k4, c', k5, k6, k7⟩ := ih (i + 1) n (x + 1) B1 (qI (qI s1 141 0 (8 * z + x) (s.1 141 0 (8 * z + i))) 142 0 (8 * z + x) (s.1 142 0 (8 * z + i))) T1 (by omega) (by omega) (by omega) (by funext q; rw [hf2.2 100 0 q (by omega), h2]) (by rw [w1]; exact fun w hw9 => hW w (List.mem_cons_of_mem _ hw9)) (by
        obtain ⟨a, b, g1, g2, g3, g4, g5⟩ := hT1
        exact ⟨a, b, by rw [qI_ap, if_neg (by omega), qI_ap, if_neg (by omega), g1], by rw [qI_ap, if_neg (by omega), qI_ap, if_neg (by omega), g2], g3, g4, by rw [qI_k (by decide), qI_k (by decide)]; exact g5⟩) hl1
      rw [w1] at k4 k7
      rw [w0] at k7
      obtain ⟨a, b, g1, g2, g3, g4, g5⟩ := k4
      exact ⟨s', k1, frW_tr hf2 k2, ⟨a, b, g1, g2, g3, by omega, g5⟩, c', k5, k6, k7⟩
    have drop : ∀ (s1 : qS) (T1 : List Int32) (B1 : Nat), frW s s1 z → (∀ q, s1.1 141 0 q = s.1 141 0 q) → (∀ q, s1.1 142 0 q = s.1 142 0 q) → tM s1 z B1 T1 → B1 + d ≤ 8000 → B1 + d ≤ B + (d + 1) → ∃ s', fX9_watched_247 F (fX9_watched_29 F n) (nI z) (nI nn) (nI kd) (nI x) (nI c) (nI i) s1 = some s' ∧ frW s s' z ∧ tM s' z (B + (d + 1)) (T1 ++ hmT m kd nn (wM s z (i + 1) d)) ∧ ∃ c', c' ≤ c ∧ s'.1 143 0 z = nI c' ∧ wM s' z 0 c' = wM s z 0 x ++ hmW m kd nn (wM s z (i + 1) d) := by
      intro s1 T1 B1 hf q1 q2 hT1 hl1 hl2
      unfold fX9_watched_247
      simp only [nm_x, nI_1]
      have w1 : ∀ a d, wM s1 z a d = wM s z a d := fun a d => wl_congr (fun j _ => by rw [q1, q2]; exact ⟨rfl, rfl⟩)
      obtain ⟨s', k1, k2, k4, c', k5, k6, k7⟩ := ih (i + 1) n x B1 s1 T1 (by omega) (by omega) (by omega) (by funext q; rw [hf.2 100 0 q (by omega), h2]) (by rw [w1]; exact fun w hw9 => hW w (List.mem_cons_of_mem _ hw9)) hT1 hl1
      rw [w1] at k4 k7
      rw [w1] at k7
      obtain ⟨a, b, g1, g2, g3, g4, g5⟩ := k4
      exact ⟨s', k1, frW_tr hf k2, ⟨a, b, g1, g2, g3, by omega, g5⟩, c', k5, k6, k7⟩
    have hT0 : hmT m kd nn (wM s z i (d + 1)) = (if fiM m kd nn (s.1 141 0 (8 * z + i), s.1 142 0 (8 * z + i)) = true then [nI (10 * nn + kd)] else []) ++ hmT m kd nn (wM s z (i + 1) d) := by
      unfold hmT
      show List.map _ (List.filter _ (_ :: _)) = _
      rw [List.filter_cons]
      by_cases c9 : fiM m kd nn (s.1 141 0 (8 * z + i), s.1 142 0 (8 * z + i)) = true
      · rw [if_pos c9, if_pos c9]; rfl
      · rw [if_neg c9, if_neg c9]; rfl
    have hW0 : hmW m kd nn (wM s z i (d + 1)) = (if (!fiM m kd nn (s.1 141 0 (8 * z + i), s.1 142 0 (8 * z + i)) || s.1 142 0 (8 * z + i) == 2) = true then [(s.1 141 0 (8 * z + i), s.1 142 0 (8 * z + i))] else []) ++ hmW m kd nn (wM s z (i + 1) d) := by
      unfold hmW
      show List.filter _ (_ :: _) = _
      rw [List.filter_cons]
      by_cases c9 : (!fiM m kd nn (s.1 141 0 (8 * z + i), s.1 142 0 (8 * z + i)) || s.1 142 0 (8 * z + i) == 2) = true
      · rw [if_pos c9, if_pos c9]; rfl
      · rw [if_neg c9, if_neg c9]; rfl
    rw [hT0, hW0]
    unfold fX9_watched_171
    by_cases c9 : fiM m kd nn (s.1 141 0 (8 * z + i), s.1 142 0 (8 * z + i)) = true
    · rw [if_pos c9, if_pos c9, if_neg (by decide)]
      have ev : 10 * nI nn + nI kd = nI (10 * nn + kd) := by rw [show (10 : Int32) = nI 10 from rfl, nI_mul, nI_add]
      simp only [nm_x]
      obtain ⟨s1, k1, k2, k3, k4⟩ := e_tell (F := F) (x := nI (10 * nn + kd)) hz hT (by omega)
      rw [ev, k1, bnd_s]
      unfold fX9_watched_190
      have hfr : frW s s1 z := ⟨k3, fun f j q h => k4 f j q (fun g => h ⟨g.1, by omega⟩)⟩
      have q1 : ∀ q, s1.1 141 0 q = s.1 141 0 q := fun q => k4 141 0 q (by omega)
      have q2 : ∀ q, s1.1 142 0 q = s.1 142 0 q := fun q => k4 142 0 q (by omega)
      rw [if_neg (by decide), ldi_nI hy8 i80', q2]
      by_cases c8 : s.1 142 0 (8 * z + i) = 2
      · rw [if_pos c8, if_pos (by rw [c8]; exact Bool.or_true _), ← List.append_assoc, ← List.append_assoc]
        exact keep s1 _ (B + 1) hfr q1 q2 k2 (by omega) (by omega)
      · rw [if_neg c8, if_neg (by rw [c9]; simp [c8]), ← List.append_assoc]
        exact drop s1 _ (B + 1) hfr q1 q2 k2 (by omega) (by omega)
    · rw [if_neg c9, if_neg c9, if_pos rfl]
      unfold fX9_watched_190
      rw [if_pos rfl, if_pos (by rw [Bool.eq_false_iff.mpr c9]; rfl), ← List.append_assoc, ← List.append_assoc, List.append_nil]
      exact keep s T B frW_rf (fun _ => rfl) (fun _ => rfl) hT (by omega) (by omega)
/-- session z in the reference: its watches, what it has not heard -/
def ssM (m : qS) (z B : Nat) (p : List (Int32 × Int32) × List Int32) : Prop := ∃ c, c ≤ 8 ∧ m.1 143 0 z = nI c ∧ wM m z 0 c = p.1 ∧ wOk p.1 ∧ tM m z B p.2
theorem e_watched {m : qS} {z kd nn M B pl : Nat} {p : List (Int32 × Int32) × List Int32} (hz : z < 10) (hkd : kd ≤ 3) (hn8 : nn < 80) (hnM : nn < M) (hw : wfB (vw m) (fun k => k < M)) (hF : 100 ≤ F) (hpl : pl < 90000) (h1 : m.1 122 0 pl = nI nn) (h2 : m.1 121 0 pl = nI kd) (hs : ssM m z B p) (hB : B + 8 ≤ 8000) : ∃ s', fX9_watched F (nI z) (nI pl) m = some s' ∧ frW m s' z ∧ ssM s' z (B + 8) (hmW m kd nn p.1, p.2 ++ hmT m kd nn p.1) := by
  obtain ⟨c, g1, g2, g3, g4, g5⟩ := hs
  unfold fX9_watched
  rw [ldi_nI hpl i90k, ldi_nI hpl i90k, ldi_nI hz (by decide), h1, h2, g2]
  obtain ⟨s', k1, k2, k3, c', k4, k5, k6⟩ := e_watched_l (F := F) hz hkd hn8 hnM hw hF g1 c 0 F 0 B m p.2 (by omega) (Nat.le_refl _) (by omega) rfl (by rw [g3]; exact g4) g5 (by omega)
  rw [g3] at k3 k6
  refine ⟨s', k1, k2, c', by omega, k5, k6, fun w hw9 => g4 w (List.mem_filter.mp hw9).1, ?_⟩
  obtain ⟨a, b, g1, g2, g3, g4, g5⟩ := k3
  exact ⟨a, b, g1, g2, g3, by omega, g5⟩
theorem fiM_3 {m : qS} {nn : Nat} {w : Int32 × Int32} : fiM m 3 nn w = false := rfl
theorem hmW_3 {m : qS} {nn : Nat} {W : List (Int32 × Int32)} : hmW m 3 nn W = W := List.filter_eq_self.mpr (fun _ _ => rfl)
theorem hmT_3 {m : qS} {nn : Nat} {W : List (Int32 × Int32)} : hmT m 3 nn W = [] := by
  unfold hmT
  rw [List.filter_eq_nil_iff.mpr (fun a _ => by rw [fiM_3]; decide)]
  rfl
/-- a step of rights is not told -/
theorem e_watched3 {m : qS} {z nn M B pl : Nat} {p : List (Int32 × Int32) × List Int32} (hz : z < 10) (hn8 : nn < 80) (hnM : nn < M) (hw : wfB (vw m) (fun k => k < M)) (hF : 100 ≤ F) (hpl : pl < 90000) (h1 : m.1 122 0 pl = nI nn) (h2 : m.1 121 0 pl = nI 3) (hs : ssM m z B p) (hB : B + 8 ≤ 8000) : ∃ s', fX9_watched F (nI z) (nI pl) m = some s' ∧ frW m s' z ∧ ssM s' z B p := by
  obtain ⟨s', k1, k2, c, k3, k4, k5, k6, k7⟩ := e_watched (F := F) hz (kd := 3) (by decide) hn8 hnM hw hF hpl h1 h2 hs hB
  rw [hmW_3] at k5 k6
  rw [hmT_3, List.append_nil] at k7
  obtain ⟨c0, g1, g2, g3, g4, g5⟩ := hs
  refine ⟨s', k1, k2, c, k3, k4, k5, k6, ?_⟩
  obtain ⟨a, b, l1, l2, l3, l4, l5⟩ := g5
  obtain ⟨a', b', l1', l2', l3', l4', l5'⟩ := k7
  have ea : nI a' = nI a := by rw [← l1', ← l1]; exact k2.2 145 0 z (by omega)
  have ea : a' = a := nI_inj (by omega) (by omega) ea
  have el := congrArg List.length (l5'.symm.trans l5)
  rw [sl_len, sl_len] at el
  exact ⟨a', b', l1', l2', l3', by omega, l5'⟩
end WR

/-! PURE: rows of the reference against trees; sessions hear -/
/-- row s of the reference shows T -/
def rEq (m : qS) (s : Nat) (T : Nat → Nat → Int32) : Prop := ∀ k, k < 80 → m.1 108 0 (80 * s + k) = T 31 k ∧ m.1 109 0 (80 * s + k) = T 32 k ∧ m.1 110 0 (80 * s + k) = T 33 k ∧ m.1 111 0 (80 * s + k) = T 34 k ∧ m.1 112 0 (80 * s + k) = T 35 k ∧ ∃ x y, x < 16 ∧ y < 16 ∧ m.1 113 0 (80 * s + k) = nI x ∧ m.1 114 0 (80 * s + k) = nI y ∧ T 36 k = nI (x + 16 * y)
theorem rEq_congr {m : qS} {s : Nat} {T T' : Nat → Nat → Int32} (h : rEq m s T) (e : ∀ f k, 31 ≤ f → f ≤ 36 → k < 80 → T' f k = T f k) : rEq m s T' := by
  intro k hk
  rw [e 31 k (by decide) (by decide) hk, e 32 k (by decide) (by decide) hk, e 33 k (by decide) (by decide) hk, e 34 k (by decide) (by decide) hk, e 35 k (by decide) (by decide) hk, e 36 k (by decide) (by decide) hk]
  exact h k hk
theorem rEq_m {m m' : qS} {s : Nat} {T : Nat → Nat → Int32} (h : rEq m s T) (e : ∀ f q, 108 ≤ f → f ≤ 114 → 80 * s ≤ q → q < 80 * s + 80 → m'.1 f 0 q = m.1 f 0 q) : rEq m' s T := by
  intro k hk
  rw [e 108 _ (by decide) (by decide) (by omega) (by omega), e 109 _ (by decide) (by decide) (by omega) (by omega), e 110 _ (by decide) (by decide) (by omega) (by omega), e 111 _ (by decide) (by decide) (by omega) (by omega), e 112 _ (by decide) (by decide) (by omega) (by omega), e 113 _ (by decide) (by decide) (by omega) (by omega), e 114 _ (by decide) (by decide) (by omega) (by omega)]
  exact h k hk
/-- one step of one node, on rows -/
def ap1 (kd n q : Nat) (v : Int32) (T : Nat → Nat → Int32) (f k : Nat) : Int32 :=
  if kd = 0 then (if k = n ∧ f = 31 then 1 else if k = n ∧ f = 32 then v else if k = n ∧ 33 ≤ f ∧ f ≤ 35 then 0 else if k = n ∧ f = 36 then T 36 q else if k = q ∧ f = 34 then T 34 k + 1 else T f k)
  else if kd = 1 then (if k = n ∧ f = 32 then v else if k = n ∧ f = 33 then T 33 k + 1 else T f k)
  else if kd = 2 then (if k = n ∧ f = 31 then 0 else if k = q ∧ f = 34 then T 34 k + 1 else T f k)
  else (if k = n ∧ f = 36 then v else if k = n ∧ f = 35 then T 35 k + 1 else T f k)
theorem ap1_0 {n q : Nat} {v : Int32} {T : Nat → Nat → Int32} {f k : Nat} : ap1 0 n q v T f k = (if k = n ∧ f = 31 then 1 else if k = n ∧ f = 32 then v else if k = n ∧ 33 ≤ f ∧ f ≤ 35 then 0 else if k = n ∧ f = 36 then T 36 q else if k = q ∧ f = 34 then T 34 k + 1 else T f k) := rfl
theorem ap1_1 {n q : Nat} {v : Int32} {T : Nat → Nat → Int32} {f k : Nat} : ap1 1 n q v T f k = (if k = n ∧ f = 32 then v else if k = n ∧ f = 33 then T 33 k + 1 else T f k) := rfl
theorem ap1_2 {n q : Nat} {v : Int32} {T : Nat → Nat → Int32} {f k : Nat} : ap1 2 n q v T f k = (if k = n ∧ f = 31 then 0 else if k = q ∧ f = 34 then T 34 k + 1 else T f k) := rfl
theorem ap1_3 {n q : Nat} {v : Int32} {T : Nat → Nat → Int32} {f k : Nat} : ap1 3 n q v T f k = (if k = n ∧ f = 36 then v else if k = n ∧ f = 35 then T 35 k + 1 else T f k) := rfl
theorem amS_rEq {m m' : qS} {s kd n q : Nat} {v w v' : Int32} {T : Nat → Nat → Int32} (h : amS m m' s kd n q v w) (hr : rEq m s T) (hkd : kd ≤ 3) (hn : n < 80) (hq : kd = 0 ∨ kd = 2 → q < n) (h2 : kd ≤ 2 → v' = v) (h3 : kd = 3 → ∃ x y, x < 16 ∧ y < 16 ∧ v = nI x ∧ w = nI y ∧ v' = nI (x + 16 * y)) : rEq m' s (ap1 kd n q v' T) := by
  have hm : ∀ f x, m'.1 f 0 x = apM m s kd n q v w f x := fun f x => by rw [h.2, if_pos rfl]
  intro k hk
  have e : (80 * s + k = 80 * s + n) ↔ k = n := by omega
  have e' : (80 * s + k = 80 * s + q) ↔ k = q := by omega
  obtain ⟨r1, r2, r3, r4, r5, x, y, hx, hy, r6, r7, r8⟩ := hr k hk
  rw [hm, hm, hm, hm, hm, hm, hm]
  obtain rfl | rfl | rfl | rfl : kd = 0 ∨ kd = 1 ∨ kd = 2 ∨ kd = 3 := by omega
  · have hqn := hq (Or.inl rfl)
    have hv := h2 (by decide)
    subst hv
    simp only [apM_0, ap1_0, e, e']
    by_cases c : k = n
    · subst c
      have c2 : k ≠ q := by omega
      obtain ⟨-, -, -, -, -, x, y, hx, hy, r6, r7, r8⟩ := hr q (by omega)
      simp [c2]
      exact ⟨x, hx, y, hy, r6, r7, r8⟩
    · by_cases c2 : k = q
      · subst c2
        simp [c, r1, r2, r3, r4, r5]
        exact ⟨x, hx, y, hy, r6, r7, r8⟩
      · simp [c, c2, r1, r2, r3, r4, r5]
        exact ⟨x, hx, y, hy, r6, r7, r8⟩
  · have hv := h2 (by decide)
    subst hv
    simp only [apM_1, ap1_1, e, e']
    by_cases c : k = n
    · subst c
      simp [r1, r2, r3, r4, r5]
      exact ⟨x, hx, y, hy, r6, r7, r8⟩
    · simp [c, r1, r2, r3, r4, r5]
      exact ⟨x, hx, y, hy, r6, r7, r8⟩
  · have hqn := hq (Or.inr rfl)
    simp only [apM_2, ap1_2, e, e']
    by_cases c : k = n
    · subst c
      have c2 : k ≠ q := by omega
      simp [c2, r1, r2, r3, r4, r5]
      exact ⟨x, hx, y, hy, r6, r7, r8⟩
    · by_cases c2 : k = q
      · subst c2
        simp [c, r1, r2, r3, r4, r5]
        exact ⟨x, hx, y, hy, r6, r7, r8⟩
      · simp [c, c2, r1, r2, r3, r4, r5]
        exact ⟨x, hx, y, hy, r6, r7, r8⟩
  · obtain ⟨x', y', hx', hy', rfl, rfl, rfl⟩ := h3 rfl
    simp only [apM_3, ap1_3, e, e']
    by_cases c : k = n
    · subst c
      simp [r1, r2, r3, r4, r5]
      exact ⟨x', hx', y', hy', rfl, rfl, rfl⟩
    · simp [c, r1, r2, r3, r4, r5]
      exact ⟨x, hx, y, hy, r6, r7, r8⟩
theorem apM_off {m : qS} {s kd n q : Nat} {v w : Int32} {f x : Nat} (hkd : kd ≤ 3) (hn : n < 80) (hq : kd = 0 ∨ kd = 2 → q < n) (h : f < 108 ∨ 114 < f ∨ x < 80 * s ∨ 80 * s + 80 ≤ x) : apM m s kd n q v w f x = m.1 f 0 x := by
  obtain rfl | rfl | rfl | rfl : kd = 0 ∨ kd = 1 ∨ kd = 2 ∨ kd = 3 := by omega
  · have := hq (Or.inl rfl)
    rw [apM_0, if_neg (by omega), if_neg (by omega), if_neg (by omega), if_neg (by omega), if_neg (by omega), if_neg (by omega)]
  · rw [apM_1, if_neg (by omega), if_neg (by omega)]
  · have := hq (Or.inr rfl)
    rw [apM_2, if_neg (by omega), if_neg (by omega)]
  · rw [apM_3, if_neg (by omega), if_neg (by omega), if_neg (by omega)]
theorem amS_off {m m' : qS} {s kd n q : Nat} {v w : Int32} (h : amS m m' s kd n q v w) (hkd : kd ≤ 3) (hn : n < 80) (hq : kd = 0 ∨ kd = 2 → q < n) {f j x : Nat} (ho : f < 108 ∨ 114 < f ∨ x < 80 * s ∨ 80 * s + 80 ≤ x) : m'.1 f j x = m.1 f j x := by
  rw [h.2]
  by_cases c : j = 0
  · subst c
    rw [if_pos rfl, apM_off hkd hn hq ho]
  · rw [if_neg c]
section NO
variable {F : Nat}
/-- a live session at server s -/
abbrev lvS (m : qS) (s z : Nat) : Prop := m.1 135 0 z = 0 ∧ m.1 132 0 z = nI s
/-- the same but for what sessions in X are told -/
def frN (m m' : qS) (X : Nat → Prop) : Prop := m'.2 = m.2 ∧ ∀ f j q, (∀ z, X z → ¬ (j = 0 ∧ (((f = 141 ∨ f = 142) ∧ 8 * z ≤ q ∧ q < 8 * z + 8) ∨ ((f = 143 ∨ f = 146) ∧ q = z) ∨ (f = 144 ∧ 8000 * z ≤ q ∧ q < 8000 * z + 8000)))) → m'.1 f j q = m.1 f j q
theorem frN_o {m m' : qS} {X : Nat → Prop} (h : frN m m' X) {f j q : Nat} (hf : f < 141 ∨ f = 145 ∨ 146 < f) : m'.1 f j q = m.1 f j q := h.2 f j q (fun z _ => by omega)
theorem frN_tr {a b c : qS} {X : Nat → Prop} (h : frN a b X) (g : frN b c X) : frN a c X := ⟨g.1.trans h.1, fun f j q w => (g.2 f j q w).trans (h.2 f j q w)⟩
theorem ssM_fr {m m' : qS} {z B : Nat} {p : List (Int32 × Int32) × List Int32} (h : ssM m z B p) (e : ∀ f q, (((f = 141 ∨ f = 142) ∧ 8 * z ≤ q ∧ q < 8 * z + 8) ∨ ((f = 143 ∨ f = 145 ∨ f = 146) ∧ q = z) ∨ (f = 144 ∧ 8000 * z ≤ q ∧ q < 8000 * z + 8000)) → m'.1 f 0 q = m.1 f 0 q) (hB : B ≤ 8000) : ssM m' z B p := by
  obtain ⟨c, g1, g2, g3, g4, a, b, k1, k2, k3, k4, k5⟩ := h
  refine ⟨c, g1, by rw [e 143 z (by omega)]; exact g2, ?_, g4, a, b, by rw [e 145 z (by omega)]; exact k1, by rw [e 146 z (by omega)]; exact k2, k3, k4, ?_⟩
  · rw [← g3]
    exact wl_congr (fun j hj => ⟨e 141 _ (by omega), e 142 _ (by omega)⟩)
  · rw [k5]
    exact sl_congr (fun j hj => (e 144 _ (by omega)).symm)
theorem ssM_le {m : qS} {z B B' : Nat} {p : List (Int32 × Int32) × List Int32} (h : ssM m z B p) (hB : B ≤ B') : ssM m z B' p := by
  obtain ⟨c, g1, g2, g3, g4, a, b, k1, k2, k3, k4, k5⟩ := h
  exact ⟨c, g1, g2, g3, g4, a, b, k1, k2, k3, by omega, k5⟩
/-- what a session is after a step of kind kd -/
def upM (m : qS) (kd n : Nat) (p : List (Int32 × Int32) × List Int32) : List (Int32 × Int32) × List Int32 := (hmW m kd n p.1, p.2 ++ hmT m kd n p.1)
theorem e_notice_l {m : qS} {s kd nn M Z pl : Nat} {Bf : Nat → Nat} {pf : Nat → List (Int32 × Int32) × List Int32} (hs5 : s < 5) (hZ : Z ≤ 10) (h48 : m.1 0 0 48 = nI Z) (hkd : kd ≤ 3) (hn8 : nn < 80) (hnM : nn < M) (hw : wfB (vw m) (fun k => k < M)) (hF : 100 ≤ F) (hpl : pl < 90000) (h1 : m.1 122 0 pl = nI nn) (h2 : m.1 121 0 pl = nI kd) (hs : ∀ z, z < Z → lvS m s z → ssM m z (Bf z) (pf z) ∧ Bf z + 8 ≤ 8000) :
    ∀ (d t n : Nat) (x : qS), t + d = Z → d < n → frN m x (fun z => z < t ∧ lvS m s z) → (∀ z, z < t → lvS m s z → ssM x z (if kd = 3 then Bf z else Bf z + 8) (upM m kd nn (pf z))) → ∃ m', fX9_notice_2 F n (nI s) (nI pl) (nI t) x = some m' ∧ frN m m' (fun z => z < Z ∧ lvS m s z) ∧ ∀ z, z < Z → lvS m s z → ssM m' z (if kd = 3 then Bf z else Bf z + 8) (upM m kd nn (pf z)) := by
  intro d
  induction d with
  | zero =>
    intro t n x ht hn hf hp
    obtain ⟨n, rfl⟩ : ∃ m, n = m + 1 := ⟨n - 1, by omega⟩
    obtain rfl : t = Z := by omega
    rw [fX9_notice_2]
    simp only [nm_x]
    rw [frN_o hf (by omega), h48, if_pos (Int32.le_refl _)]
    exact ⟨x, rfl, hf, hp⟩
  | succ d ih =>
    intro t n x ht hn hf hp
    obtain ⟨n, rfl⟩ : ∃ m, n = m + 1 := ⟨n - 1, by omega⟩
    have i10 : 10 ≤ 2 ^ 31 := by decide
    have ht10 : t < 10 := by omega
    rw [fX9_notice_2]
    unfold fX9_notice_35
    simp only [nm_x, nI_1]
    rw [frN_o hf (by omega), h48, if_neg (fun h => by have := (nI_le' (by omega) (by omega)).mp h; omega), ldi_nI ht10 i10, ldi_nI ht10 i10, frN_o hf (by omega), frN_o hf (by omega)]
    have skip : ¬ lvS m s t → ∃ m', fX9_notice_2 F n (nI s) (nI pl) (nI (t + 1)) x = some m' ∧ frN m m' (fun z => z < Z ∧ lvS m s z) ∧ ∀ z, z < Z → lvS m s z → ssM m' z (if kd = 3 then Bf z else Bf z + 8) (upM m kd nn (pf z)) := fun c => by
      refine ih (t + 1) n x (by omega) (by omega) ⟨hf.1, fun f j q h => hf.2 f j q (fun z hz => h z ⟨by omega, hz.2⟩)⟩ (fun z hz hl => ?_)
      by_cases e : z = t
      · subst e; exact absurd hl c
      · exact hp z (by omega) hl
    by_cases c1 : m.1 135 0 t = 0
    · rw [if_pos c1]
      by_cases c2 : m.1 132 0 t = nI s
      · rw [if_pos c2]
        have hl : lvS m s t := ⟨c1, c2⟩
        obtain ⟨hs1, hs2⟩ := hs t (by omega) hl
        have hx : ssM x t (Bf t) (pf t) := ssM_fr hs1 (fun f q hq => hf.2 f 0 q (fun z hz => by
          have := hz.1
          omega)) (by omega)
        have e100 : x.1 100 0 = m.1 100 0 := by funext q; exact frN_o hf (by omega)
        have hwx : wfB (vw x) (fun k => k < M) := ⟨by show x.1 100 0 0 = _; rw [e100]; exact hw.1, fun k g1 g2 g3 => by
          show ∃ q, q < k ∧ x.1 100 0 k = nI q ∧ _
          rw [e100]
          exact hw.2 k g1 g2 g3⟩
        have eW : ∀ p, (hmW x kd nn p = hmW m kd nn p ∧ hmT x kd nn p = hmT m kd nn p) := fun p => by
          unfold hmW hmT
          rw [fiM_congr e100]
          exact ⟨rfl, rfl⟩
        have main : ∃ x', fX9_watched F (nI t) (nI pl) x = some x' ∧ frW x x' t ∧ ssM x' t (if kd = 3 then Bf t else Bf t + 8) (upM m kd nn (pf t)) := by
          by_cases c3 : kd = 3
          · subst c3
            obtain ⟨x', q1, q2, q3⟩ := e_watched3 (F := F) ht10 hn8 hnM hwx hF hpl (by rw [frN_o hf (by omega)]; exact h1) (by rw [frN_o hf (by omega)]; exact h2) hx hs2
            refine ⟨x', q1, q2, ?_⟩
            rw [if_pos rfl]
            unfold upM
            rw [hmW_3, hmT_3, List.append_nil]
            exact q3
          · obtain ⟨x', q1, q2, q3⟩ := e_watched (F := F) ht10 hkd hn8 hnM hwx hF hpl (by rw [frN_o hf (by omega)]; exact h1) (by rw [frN_o hf (by omega)]; exact h2) hx hs2
            refine ⟨x', q1, q2, ?_⟩
            rw [if_neg c3]
            unfold upM
            rw [← (eW (pf t).1).1, ← (eW (pf t).1).2]
            exact q3
        obtain ⟨x', q1, q2, q3⟩ := main
        rw [q1, bnd_s]
        refine ih (t + 1) n x' (by omega) (by omega) ⟨q2.1.trans hf.1, fun f j q h => ?_⟩ (fun z hz hl2 => ?_)
        · rw [q2.2 f j q (h t ⟨by omega, hl⟩), hf.2 f j q (fun z hz => h z ⟨by omega, hz.2⟩)]
        · by_cases e : z = t
          · subst e; exact q3
          · refine ssM_fr (hp z (by omega) hl2) (fun f q hq => q2.2 f 0 q (by omega)) ?_
            have := (hs z (by omega) hl2).2
            split <;> omega
      · rw [if_neg c2]
        exact skip (fun h => c2 h.2)
    · rw [if_neg c1]
      exact skip (fun h => c1 h.1)
theorem e_notice {m : qS} {s kd nn M Z pl : Nat} {Bf : Nat → Nat} {pf : Nat → List (Int32 × Int32) × List Int32} (hs5 : s < 5) (hZ : Z ≤ 10) (h48 : m.1 0 0 48 = nI Z) (hkd : kd ≤ 3) (hn8 : nn < 80) (hnM : nn < M) (hw : wfB (vw m) (fun k => k < M)) (hF : 100 ≤ F) (hpl : pl < 90000) (h1 : m.1 122 0 pl = nI nn) (h2 : m.1 121 0 pl = nI kd) (hs : ∀ z, z < Z → lvS m s z → ssM m z (Bf z) (pf z) ∧ Bf z + 8 ≤ 8000) :
    ∃ m', fX9_notice F (nI s) (nI pl) m = some m' ∧ frN m m' (fun z => z < Z ∧ lvS m s z) ∧ ∀ z, z < Z → lvS m s z → ssM m' z (if kd = 3 then Bf z else Bf z + 8) (upM m kd nn (pf z)) := by
  unfold fX9_notice
  exact e_notice_l hs5 hZ h48 hkd hn8 hnM hw hF hpl h1 h2 hs Z 0 F m (by omega) (by omega) ⟨rfl, fun _ _ _ _ => rfl⟩ (fun z hz => by omega)
end NO

/-! PURE: a server of the reference goes on by a step -/
/-- the same but for server s: its place, its row (not the first's), what its live sessions are told -/
def frF (m m' : qS) (s Z : Nat) : Prop := m'.2 = m.2 ∧ ∀ f j q, ¬ (j = 0 ∧ 108 ≤ f ∧ f ≤ 114 ∧ 1 ≤ s ∧ 80 * s ≤ q ∧ q < 80 * s + 80) → ¬ (f = 129 ∧ j = 0 ∧ q = s) → (∀ z, z < Z ∧ lvS m s z → ¬ (j = 0 ∧ (((f = 141 ∨ f = 142) ∧ 8 * z ≤ q ∧ q < 8 * z + 8) ∨ ((f = 143 ∨ f = 146) ∧ q = z) ∨ (f = 144 ∧ 8000 * z ≤ q ∧ q < 8000 * z + 8000)))) → m'.1 f j q = m.1 f j q
theorem frF_o {m m' : qS} {s Z : Nat} (h : frF m m' s Z) {f j q : Nat} (hf : f < 108 ∨ (114 < f ∧ f < 129) ∨ (129 < f ∧ f < 141) ∨ f = 145 ∨ 146 < f) : m'.1 f j q = m.1 f j q := h.2 f j q (by omega) (by omega) (fun z _ => by omega)
theorem frF_lv {m m' : qS} {s Z : Nat} (h : frF m m' s Z) {s' z : Nat} : lvS m' s' z ↔ lvS m s' z := by
  show m'.1 135 0 z = 0 ∧ m'.1 132 0 z = nI s' ↔ _
  rw [frF_o h (by omega), frF_o h (by omega)]
theorem frF_rf {m : qS} {s Z : Nat} : frF m m s Z := ⟨rfl, fun _ _ _ _ _ _ => rfl⟩
theorem frF_tr {a b c : qS} {s Z : Nat} (h : frF a b s Z) (g : frF b c s Z) : frF a c s Z := ⟨g.1.trans h.1, fun f j q w1 w2 w3 => (g.2 f j q w1 w2 (fun z hz => w3 z ⟨hz.1, (frF_lv h).mp hz.2⟩)).trans (h.2 f j q w1 w2 w3)⟩
section FO
variable {F : Nat}
theorem e_fol1 {m : qS} {s p R ch u kd nn q M Z : Nat} {v w v' : Int32} {T : Nat → Nat → Int32} {Bf : Nat → Nat} {pf : Nat → List (Int32 × Int32) × List Int32} (hs3 : s < 3) (hpos : m.1 129 0 s = nI p) (hR : m.1 0 0 25 = nI R) (hp : p < R) (hR9 : R ≤ 90000) (hch : m.1 120 0 p = nI ch) (hcu : ch ≤ u) (hu : u < 2 ^ 31) (hkd : kd ≤ 3) (hn8 : nn < 80) (hnM : nn < M) (e1 : m.1 121 0 p = nI kd) (e2 : m.1 122 0 p = nI nn) (e3 : m.1 123 0 p = v) (e4 : m.1 124 0 p = w) (hq : kd = 0 ∨ kd = 2 → q < nn) (hq2 : 1 ≤ nn → m.1 100 0 nn = nI q ∧ q < nn) (h2v : kd ≤ 2 → v' = v) (h3v : kd = 3 → ∃ x y, x < 16 ∧ y < 16 ∧ v = nI x ∧ w = nI y ∧ v' = nI (x + 16 * y)) (hw : wfB (vw m) (fun k => k < M)) (hF : 100 ≤ F) (hZ : Z ≤ 10) (h48 : m.1 0 0 48 = nI Z) (hs : ∀ z, z < Z → lvS m s z → ssM m z (Bf z) (pf z) ∧ Bf z + 8 ≤ 8000) (hr : 1 ≤ s → rEq m s T) :
    ∃ m', (∀ n, fX9_follows_0 F (n + 1) (nI s) (nI u) m = fX9_follows_0 F n (nI s) (nI u) m') ∧ m'.1 129 0 s = nI (p + 1) ∧ frF m m' s Z ∧ (1 ≤ s → rEq m' s (ap1 kd nn q v' T)) ∧ ∀ z, z < Z → lvS m s z → ssM m' z (if kd = 3 then Bf z else Bf z + 8) (upM m kd nn (pf z)) := by
  have i3 : 3 ≤ 2 ^ 31 := by decide
  -- apply, where it is
  have ap : ∃ x, (∀ n, fX9_follows_0 F (n + 1) (nI s) (nI u) m = fX9_follows_43 F (fX9_follows_0 F n) (nI s) (nI u) x) ∧ x.2 = m.2 ∧ (∀ f j q, ¬ (j = 0 ∧ 108 ≤ f ∧ f ≤ 114 ∧ 1 ≤ s ∧ 80 * s ≤ q ∧ q < 80 * s + 80) → x.1 f j q = m.1 f j q) ∧ (1 ≤ s → rEq x s (ap1 kd nn q v' T)) := by
    by_cases c : s = 0
    · subst c
      refine ⟨m, fun n => ?_, rfl, fun _ _ _ _ => rfl, fun h => by omega⟩
      rw [fX9_follows_0, ldi_nI hs3 i3, hpos]
      simp only [nm_x]
      rw [hR, if_neg (fun h => by have := (nI_le' (by omega) (by omega)).mp h; omega), ldi_nI hs3 i3, hpos, ldi_nI (by omega) i90k, hch, if_neg (fun h => by have := (nI_lt' (by omega) (by omega)).mp h; omega), if_pos (by decide)]
    · obtain ⟨x, q1, q2⟩ := e_apply9 (F := F) (s := s) (p := p) (kd := kd) (n := nn) (q := q) (by omega) (by omega) hkd hn8 e1 e2 e3 e4 hq hq2
      have off : ∀ f j q, ¬ (j = 0 ∧ 108 ≤ f ∧ f ≤ 114 ∧ 1 ≤ s ∧ 80 * s ≤ q ∧ q < 80 * s + 80) → x.1 f j q = m.1 f j q := fun f j q h => by
        by_cases cj : j = 0
        · exact amS_off q2 hkd hn8 hq (by omega)
        · rw [q2.2, if_neg cj]
      refine ⟨x, fun n => ?_, q2.1, off, fun h => amS_rEq q2 (hr h) hkd hn8 hq h2v h3v⟩
      rw [fX9_follows_0, ldi_nI hs3 i3, hpos]
      simp only [nm_x]
      rw [hR, if_neg (fun h => by have := (nI_le' (by omega) (by omega)).mp h; omega), ldi_nI hs3 i3, hpos, ldi_nI (by omega) i90k, hch, if_neg (fun h => by have := (nI_lt' (by omega) (by omega)).mp h; omega), if_neg (nI_nle (by omega) (by omega)), ldi_nI hs3 i3, hpos, q1, bnd_s]
  obtain ⟨x, a1, a2, a3, a4⟩ := ap
  have o : ∀ f j q, f < 108 ∨ 114 < f → x.1 f j q = m.1 f j q := fun f j q h => a3 f j q (by omega)
  have e100 : x.1 100 0 = m.1 100 0 := by funext q; exact o 100 0 q (by omega)
  have hwx : wfB (vw x) (fun k => k < M) := ⟨by show x.1 100 0 0 = _; rw [e100]; exact hw.1, fun k g1 g2 g3 => by
    show ∃ q, q < k ∧ x.1 100 0 k = nI q ∧ _
    rw [e100]
    exact hw.2 k g1 g2 g3⟩
  have lvx : ∀ z, lvS x s z ↔ lvS m s z := fun z => by
    show x.1 135 0 z = 0 ∧ x.1 132 0 z = nI s ↔ _
    rw [o _ _ _ (by omega), o _ _ _ (by omega)]
  obtain ⟨y, b1, b2, b3⟩ := e_notice (F := F) (m := x) (s := s) (kd := kd) (nn := nn) (M := M) (Z := Z) (pl := p) (Bf := Bf) (pf := pf) (by omega) hZ (by rw [o _ _ _ (by omega)]; exact h48) hkd hn8 hnM hwx hF (by omega) (by rw [o _ _ _ (by omega)]; exact e2) (by rw [o _ _ _ (by omega)]; exact e1) (fun z hz hl => ⟨ssM_fr (hs z hz ((lvx z).mp hl)).1 (fun f q hq => o f 0 q (by omega)) (by have := (hs z hz ((lvx z).mp hl)).2; omega), (hs z hz ((lvx z).mp hl)).2⟩)
  have y129 : y.1 129 0 s = nI p := by rw [frN_o b2 (by omega), o _ _ _ (by omega), hpos]
  have hfy : frF m (qI y 129 0 s (nI (p + 1))) s Z := by
    refine ⟨b2.1.trans a2, fun f j q w1 w2 w3 => ?_⟩
    rw [qI_ap, if_neg w2, b2.2 f j q (fun z hz => w3 z ⟨hz.1, (lvx z).mp hz.2⟩), a3 f j q w1]
  refine ⟨qI y 129 0 s (nI (p + 1)), fun n => ?_, by rw [qI_ap, if_pos ⟨rfl, rfl, rfl⟩], hfy, fun h => ?_, fun z hz hl => ?_⟩
  · rw [a1]
    unfold fX9_follows_43
    rw [ldi_nI hs3 i3, o 129 0 s (by omega), hpos, b1, bnd_s, ldi_nI hs3 i3, y129]
    simp only [nm_x, nI_1, inx_nI hs3 i3, ix_nI (show s < 2 ^ 31 by omega)]
  · refine rEq_m (a4 h) (fun f q h1 h2 h3 h4 => ?_)
    rw [qI_ap, if_neg (by omega), frN_o b2 (by omega)]
  · have eU : upM x kd nn (pf z) = upM m kd nn (pf z) := by
      unfold upM hmW hmT
      rw [fiM_congr e100]
    rw [← eU]
    refine ssM_fr (b3 z hz ((lvx z).mpr hl)) (fun f q hq => ?_) ?_
    · rw [qI_ap, if_neg (by omega)]
    · have := (hs z hz hl).2
      split <;> omega
theorem e_folEnd {m : qS} {s p R u : Nat} (hs3 : s < 3) (hpos : m.1 129 0 s = nI p) (hR : m.1 0 0 25 = nI R) (hpR : p ≤ R) (hR9 : R ≤ 90000) (hend : p = R ∨ ∃ ch, m.1 120 0 p = nI ch ∧ u < ch ∧ ch < 2 ^ 31) {n g : Nat} (hg : m.1 130 0 s = nI g) (hu : u < 2 ^ 31) (hg2 : g < 2 ^ 31) : fX9_follows_0 F (n + 1) (nI s) (nI u) m = some (qI m 130 0 s (nI (max g u))) := by
  have i3 : 3 ≤ 2 ^ 31 := by decide
  have fin : fX9_follows_67 F (nI s) (nI u) m = some (qI m 130 0 s (nI (max g u))) := by
    unfold fX9_follows_67 fX9_follows_92
    simp only [ldi_nI hs3 i3, hg, inx_nI hs3 i3, ix_nI (show s < 2 ^ 31 by omega), nm_x]
    by_cases c : g ≤ u
    · rw [if_pos ((nI_le' hg2 hu).mpr c), Nat.max_eq_right c]
    · rw [if_neg (fun h => c ((nI_le' hg2 hu).mp h)), Nat.max_eq_left (by omega)]
  rw [fX9_follows_0, ldi_nI hs3 i3, hpos]
  simp only [nm_x]
  by_cases c : p = R
  · subst c
    rw [hR, if_pos (Int32.le_refl _), fin]
  · obtain ⟨ch, h1, h2, h3⟩ := hend.resolve_left c
    rw [hR, if_neg (fun h => by have := (nI_le' (by omega) (by omega)).mp h; omega), ldi_nI hs3 i3, hpos, ldi_nI (by omega) i90k, h1, if_pos ((nI_lt' hu h3).mpr h2), fin]
end FO

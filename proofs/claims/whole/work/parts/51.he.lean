/-! PURE: rows that grow, and what watches make of a step -/
def sl (f : Nat → Int32) : Nat → Nat → List Int32
  | _, 0 => []
  | a, d + 1 => f a :: sl f (a + 1) d
def wl (f g : Nat → Int32) : Nat → Nat → List (Int32 × Int32)
  | _, 0 => []
  | a, d + 1 => (f a, g a) :: wl f g (a + 1) d
theorem sl_snoc {f : Nat → Int32} {a d : Nat} : sl f a (d + 1) = sl f a d ++ [f (a + d)] := by
  induction d generalizing a with
  | zero => rfl
  | succ d ih =>
    show f a :: sl f (a + 1) (d + 1) = (f a :: sl f (a + 1) d) ++ [f (a + (d + 1))]
    rw [ih, show a + 1 + d = a + (d + 1) by omega]
    rfl
theorem sl_congr {f g : Nat → Int32} {a b d : Nat} (h : ∀ j, j < d → f (a + j) = g (b + j)) : sl f a d = sl g b d := by
  induction d generalizing a b with
  | zero => rfl
  | succ d ih =>
    show f a :: sl f (a + 1) d = g b :: sl g (b + 1) d
    rw [show f a = g b from h 0 (by omega), ih (fun j hj => by have := h (j + 1) (by omega); rwa [show a + (j + 1) = a + 1 + j by omega, show b + (j + 1) = b + 1 + j by omega] at this)]
theorem sl_len {f : Nat → Int32} {a d : Nat} : (sl f a d).length = d := by
  induction d generalizing a with
  | zero => rfl
  | succ d ih => show (sl f (a + 1) d).length + 1 = d + 1; rw [ih]
theorem wl_snoc {f g : Nat → Int32} {a d : Nat} : wl f g a (d + 1) = wl f g a d ++ [(f (a + d), g (a + d))] := by
  induction d generalizing a with
  | zero => rfl
  | succ d ih =>
    show (f a, g a) :: wl f g (a + 1) (d + 1) = ((f a, g a) :: wl f g (a + 1) d) ++ [(f (a + (d + 1)), g (a + (d + 1)))]
    rw [ih, show a + 1 + d = a + (d + 1) by omega]
    rfl
theorem wl_congr {f g f' g' : Nat → Int32} {a b d : Nat} (h : ∀ j, j < d → f (a + j) = f' (b + j) ∧ g (a + j) = g' (b + j)) : wl f g a d = wl f' g' b d := by
  induction d generalizing a b with
  | zero => rfl
  | succ d ih =>
    show (f a, g a) :: wl f g (a + 1) d = (f' b, g' b) :: wl f' g' (b + 1) d
    have h0 := h 0 (by omega)
    rw [show f a = f' b from h0.1, show g a = g' b from h0.2, ih (fun j hj => by have := h (j + 1) (by omega); rwa [show a + (j + 1) = a + 1 + j by omega, show b + (j + 1) = b + 1 + j by omega] at this)]
theorem wl_len {f g : Nat → Int32} {a d : Nat} : (wl f g a d).length = d := by
  induction d generalizing a with
  | zero => rfl
  | succ d ih => show (wl f g (a + 1) d).length + 1 = d + 1; rw [ih]
/-- session z's row holds T -/
def rowL (σ : qS) (z : Nat) (T : List Int32) : Prop := ∃ a b k, σ.1 55 z 1 = nI a ∧ σ.1 55 z 2 = nI b ∧ a ≤ b ∧ b ≤ σ.2 3 z ∧ σ.2 3 z = 16 * 2 ^ k ∧ k ≤ 9 ∧ T = sl (σ.1 58 z) a (b - a)
/-- the same but for session z's row -/
def frR (σ s : qS) (z : Nat) : Prop := (∀ k j, ¬ (k = 3 ∧ j = z) → s.2 k j = σ.2 k j) ∧ σ.2 3 z ≤ s.2 3 z ∧ ∀ f j, ¬ ((f = 55 ∨ f = 58) ∧ j = z) → s.1 f j = σ.1 f j
theorem pw9 {k : Nat} (h : k ≤ 9) : 16 ≤ 16 * 2 ^ k ∧ 16 * 2 ^ k ≤ 8192 ∧ (k < 9 → 16 * 2 ^ k < 8192) := by
  obtain rfl | rfl | rfl | rfl | rfl | rfl | rfl | rfl | rfl | rfl : k = 0 ∨ k = 1 ∨ k = 2 ∨ k = 3 ∨ k = 4 ∨ k = 5 ∨ k = 6 ∨ k = 7 ∨ k = 8 ∨ k = 9 := by omega
  all_goals decide
section HE
variable {F : Nat}
theorem e_rowPut {σ : qS} {z a b k : Nat} {x : Int32} (hz : z < σ.2 0 0) (h1 : σ.1 55 z 1 = nI a) (h2 : σ.1 55 z 2 = nI b) (h3 : a ≤ b) (h4 : b < σ.2 3 z) (h5 : σ.2 3 z = 16 * 2 ^ k) (h6 : k ≤ 9) : ∃ s', fX4_add_16 F z x σ = some s' ∧ rowL s' z (sl (σ.1 58 z) a (b - a) ++ [x]) ∧ frR σ s' z := by
  have hp := pw9 h6
  unfold fX4_add_16 fX4_add_48
  simp only [nm_x]
  have e1 : (qI σ 58 z b x).1 55 z 2 = nI b := by rw [qI_ap, if_neg (by omega), h2]
  have eN : (qI σ 58 z b x).2 = σ.2 := rfl
  simp only [gnl_pos hz, h2, eN, inx_nI h4 (show σ.2 3 z ≤ 2 ^ 31 by omega), ix_nI (show b < 2 ^ 31 by omega), e1, nI_1]
  rw [if_neg (by rw [nI_le' (by omega) (by omega)]; omega)]
  refine ⟨_, rfl, ⟨a, b + 1, k, ?_, ?_, by omega, h4, h5, h6, ?_⟩, fun _ _ _ => rfl, Nat.le_refl _, fun f j h => ?_⟩
  · rw [qI_ap, if_neg (by omega), qI_ap, if_neg (by omega), h1]
  · rw [qI_ap, if_pos ⟨rfl, rfl, rfl⟩]
  · rw [show b + 1 - a = (b - a) + 1 by omega, sl_snoc]
    congr 1
    · apply sl_congr
      intro j hj
      rw [qI_ap, if_neg (by omega), qI_ap, if_neg (by omega)]
    · rw [show a + (b - a) = b by omega, qI_ap, if_neg (by omega), qI_ap, if_pos ⟨rfl, rfl, rfl⟩]
  · funext q
    rw [qI_ap, if_neg (by omega), qI_ap, if_neg (by omega)]
theorem e_rowAdd {σ : qS} {z : Nat} {T : List Int32} {x : Int32} (hz : z < σ.2 0 0) (hT : rowL σ z T) (hl : T.length < 8192) : ∃ s', fX4_add F z x σ = some s' ∧ rowL s' z (T ++ [x]) ∧ frR σ s' z := by
  obtain ⟨a, b, k, h1, h2, h3, h4, h5, h6, rfl⟩ := hT
  rw [sl_len] at hl
  have hp := pw9 h6
  unfold fX4_add
  simp only [nm_x]
  rw [gnl_pos hz, gnl_pos hz, gnl_pos hz, gnl_pos hz, h2]
  by_cases c : b < σ.2 3 z
  · rw [if_pos ((nI_lt' (by omega) (by omega)).mpr c)]
    exact e_rowPut hz h1 h2 h3 c h5 h6
  · rw [if_neg (fun h => c ((nI_lt' (by omega) (by omega)).mp h))]
    have hb : b = σ.2 3 z := by omega
    unfold fX4_makeRoom
    rw [gnl_pos hz, gnl_pos (by omega), gnl_pos (by omega), h1, h2]
    by_cases c2 : a = 0
    · subst c2
      have hk : k < 9 := by
        rcases Nat.lt_or_ge k 9 with h | h
        · exact h
        · obtain rfl : k = 9 := by omega
          have : (16 * 2 ^ 9 : Nat) = 8192 := by decide
          omega
      have hp2 := hp.2.2 hk
      rw [if_pos (by decide), if_neg (by rw [nI_le' (by omega) (by omega)]; omega), bnd_s]
      have g58 : (growR σ z).1 58 z = fun q => if q < σ.2 3 z then σ.1 58 z q else 0 := if_pos ⟨rfl, rfl⟩
      have g55 : (growR σ z).1 55 z = σ.1 55 z := rfl
      have gN : (growR σ z).2 3 z = 2 * σ.2 3 z := if_pos ⟨rfl, rfl⟩
      have gN0 : (growR σ z).2 0 0 = σ.2 0 0 := rfl
      obtain ⟨s', q1, q2, q3⟩ := e_rowPut (F := F) (σ := growR σ z) (z := z) (a := 0) (b := b) (k := k + 1) (x := x) (by rw [gN0]; exact hz) (by rw [g55, h1]) (by rw [g55, h2]) (by omega) (by rw [gN]; omega) (by rw [gN, h5, Nat.pow_succ]; omega) (by omega)
      refine ⟨s', q1, ?_, fun k j h => ?_, ?_, fun f j h => ?_⟩
      · rw [show sl (σ.1 58 z) 0 (b - 0) = sl ((growR σ z).1 58 z) 0 (b - 0) from sl_congr (fun j hj => by rw [g58]; exact (if_pos (by omega)).symm)]
        exact q2
      · rw [q3.1 k j h]
        exact if_neg h
      · have := q3.2.1
        rw [gN] at this
        omega
      · rw [q3.2.2 f j h]
        exact if_neg (fun h9 => h ⟨Or.inr h9.1, h9.2⟩)
    · have e1 : nI b - nI a = nI (b - a) := nI_sub h3
      rw [if_neg (nI_nle (by omega) (by omega)), e1, ix_nI (by omega), ix_nI (by omega), if_pos (by omega), if_neg (nI_pos (by omega))]
      simp only [nm_x]
      have g58 : (qF σ 58 z (va_cpy (σ.1 58 z) (σ.1 58 z) a 0 (b - a))).1 58 z = va_cpy (σ.1 58 z) (σ.1 58 z) a 0 (b - a) := if_pos ⟨rfl, rfl⟩
      have g55 : (qF σ 58 z (va_cpy (σ.1 58 z) (σ.1 58 z) a 0 (b - a))).1 55 z = σ.1 55 z := rfl
      rw [g55, h1, h2, e1, bnd_s]
      obtain ⟨s', q1, q2, q3⟩ := e_rowPut (F := F) (σ := qI (qI (qF σ 58 z (va_cpy (σ.1 58 z) (σ.1 58 z) a 0 (b - a))) 55 z 2 (nI (b - a))) 55 z 1 0) (z := z) (a := 0) (b := b - a) (k := k) (x := x) hz (by rw [qI_ap, if_pos ⟨rfl, rfl, rfl⟩]; rfl) (by rw [qI_ap, if_neg (by omega), qI_ap, if_pos ⟨rfl, rfl, rfl⟩]) (by omega) (show b - a < σ.2 3 z by omega) h5 h6
      refine ⟨s', q1, ?_, fun k j h => q3.1 k j h, q3.2.1, fun f j h => ?_⟩
      · rw [show sl (σ.1 58 z) a (b - a) = sl ((qI (qI (qF σ 58 z (va_cpy (σ.1 58 z) (σ.1 58 z) a 0 (b - a))) 55 z 2 (nI (b - a))) 55 z 1 0).1 58 z) 0 (b - a - 0) from sl_congr (fun j hj => by
          rw [qI_ap, if_neg (by omega), qI_ap, if_neg (by omega), g58]
          unfold va_cpy
          rw [if_pos (by omega), show a + (0 + j - 0) = a + j by omega])]
        exact q2
      · rw [q3.2.2 f j h]
        funext q
        rw [qI_ap, if_neg (by omega), qI_ap, if_neg (by omega)]
        show (if f = 58 ∧ j = z then _ else σ.1 f j) q = _
        rw [if_neg (fun h9 => h ⟨Or.inr h9.1, h9.2⟩)]
/-- whether a watch is told of a step -/
def fir (σ : qS) (kd n : Nat) (w : Int32 × Int32) : Bool := if w.2 = 0 then decide (nI n = w.1 ∧ kd ≠ 0) else if w.2 = 1 then decide ((kd ≠ 1 ∧ σ.1 2 0 n = w.1) ∨ (kd = 2 ∧ nI n = w.1)) else isB (parN σ) w.1.toNatClampNeg 80 n
def hrW (σ : qS) (kd n : Nat) (W : List (Int32 × Int32)) : List (Int32 × Int32) := W.filter (fun w => !fir σ kd n w || w.2 == 2)
def hrT (σ : qS) (kd n : Nat) (W : List (Int32 × Int32)) : List Int32 := (W.filter (fir σ kd n)).map (fun _ => nI (10 * n + kd))
theorem e_watchesFor {σ : qS} {z j kd n M a : Nat} (hz : z < σ.2 0 0) (hj : j < 8) (hkd : kd ≤ 2) (hn : n < 80) (hnM : n < M) (hw : wfB σ (fun k => k < M)) (hF : 100 ≤ F) (ha : σ.1 53 z j = nI a) (ha8 : a < 80) : fX6_watchesFor F z (nI j) (nI kd) (nI n) σ = some (if fir σ kd n (σ.1 53 z j, σ.1 54 z j) = true then 1 else 0, σ) := by
  have g0 : fX6_watchesFor_89 F z 0 σ = some (0, σ) := by unfold fX6_watchesFor_89; exact gbl_0
  have g1 : fX6_watchesFor_89 F z 1 σ = some (1, σ) := by unfold fX6_watchesFor_89; exact gbl_1
  have g2 : fX6_watchesFor_55 F z 0 σ = some (0, σ) := by unfold fX6_watchesFor_55; exact gbl_0
  have g3 : fX6_watchesFor_55 F z 1 σ = some (1, σ) := by unfold fX6_watchesFor_55; exact gbl_1
  have i8 : 8 ≤ 2 ^ 31 := by decide
  have k0 : nI kd = 0 ↔ kd = 0 := ⟨fun h => nI_inj (b := 0) (by omega) (by omega) h, fun h => by rw [h]; rfl⟩
  have k1 : nI kd = 1 ↔ kd = 1 := ⟨fun h => nI_inj (b := 1) (by omega) (by omega) h, fun h => by rw [h]; rfl⟩
  have k2 : nI kd = 2 ↔ kd = 2 := ⟨fun h => nI_inj (b := 2) (by omega) (by omega) h, fun h => by rw [h]; rfl⟩
  unfold fX6_watchesFor fX6_watchesFor_84 fX6_watchesFor_73 fX6_watchesFor_88 fX6_watchesFor_54
  simp only [gnl_pos hz, ldi_nI hj i8, g0, g1, g2, g3, k0, k1, k2]
  unfold fir
  by_cases c0 : σ.1 54 z j = 0
  · rw [if_pos c0]
    simp only [c0, if_true]
    by_cases d : nI n = σ.1 53 z j
    · rw [if_pos d]
      by_cases e : kd = 0
      · simp [e]
      · simp [e, d]
    · simp [d]
  · rw [if_neg c0]
    simp only [c0, if_false]
    by_cases c1 : σ.1 54 z j = 1
    · rw [if_pos c1]
      simp only [c1, if_true]
      by_cases e1 : kd = 1
      · subst e1
        simp
      · rw [if_neg e1, ldi_nI hn i80']
        by_cases d : σ.1 2 0 n = σ.1 53 z j
        · simp [d, e1]
        · simp only [d, e1, if_false]
          by_cases e2 : kd = 2
          · by_cases d2 : nI n = σ.1 53 z j
            · rw [if_pos e2, if_pos d2, if_pos (decide_eq_true (Or.inr ⟨e2, d2⟩))]
              unfold fX6_watchesFor_84
              exact g1
            · rw [if_pos e2, if_neg d2, if_neg (fun h => (of_decide_eq_true h).elim (fun h => h.2) (fun h => d2 h.2))]
          · rw [if_neg e2, if_neg (fun h => (of_decide_eq_true h).elim (fun h => h.2) (fun h => e2 h.1))]
    · rw [if_neg c1]
      simp only [c1, if_false]
      rw [ha, e_isWithinBranch hw hF ha8 hn hnM, bnd2_s, ix_nI (by omega)]
      unfold b2
      by_cases d : isB (parN σ) a 80 n = true
      · rw [if_pos d, gbl_1]
      · rw [if_neg d, gbl_0]
end HE

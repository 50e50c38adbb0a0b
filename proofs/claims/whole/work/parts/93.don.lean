/-! PURE: what was gathered is done, in both -/
/-- one place of both is written that nothing of these reads -/
theorem kD_ans {σ m : qS} {C : Nat → qS} {π : Nat → Nat} {M M0 S S0 L Z z i x : Nat} {v w : Int32} (h : kD σ m C π M M0 S S0 L Z) (hS9 : S0 ≤ 999) : kD (qI σ 52 z i v) (qI m 139 0 x w) C π M M0 S S0 L Z := by
  have o : ∀ f j k, f ≠ 52 → (qI σ 52 z i v).1 f j k = σ.1 f j k := fun f j k w => by rw [qI_ap, if_neg (by omega)]
  have p : ∀ f q, f ≠ 139 → (qI m 139 0 x w).1 f 0 q = m.1 f 0 q := fun f q w => by rw [qI_ap, if_neg (by omega)]
  exact kD_fr h (kHs_fr h.2.2.2.1 (fun y hy h0 => ⟨by rw [← p 135 y (by omega)]; exact h0, rfl, rfl, p 132 y (by omega), ⟨o 50 y 10 (by omega), o 50 y 11 (by omega)⟩, fun f hf => by funext k; exact o f y k (by omega), fun f q w => p f q (by omega)⟩) (fun s => o 8 s 2 (by omega)) (by funext k; exact o 2 0 k (by omega)) (fun f i w => o f 0 i (by omega)) (fun s hs => by have := (h.2.1 s hs).2.2.2.2.1; omega)) (fun f j k w => o f j k (by omega)) (fun f q w => p f q (by omega))
theorem kBf_ans {σ m c : qS} {M0 R0 z i x : Nat} {v w : Int32} (h : kBf σ m c M0 R0) : kBf (qI σ 52 z i v) (qI m 139 0 x w) c M0 R0 := by
  obtain ⟨f1, f2, f3, f4, f5, f6⟩ := h
  exact ⟨fun f k k1 k2 k3 => by rw [qI_ap, if_neg (by omega)]; exact f1 f k k1 k2 k3, by rw [qI_ap, if_neg (by omega)]; exact f2, rEq_m f3 (fun f q k1 k2 k3 k4 => by rw [qI_ap, if_neg (by omega)]), by rw [qI_ap, if_neg (by omega)]; exact f4, by rw [qI_ap, if_neg (by omega)]; exact f5, fun k k1 k2 => by rw [qI_ap, if_neg (by omega)]; exact f6 k k1 k2⟩
/-- frames of acts and their answers -/
def frG (σ σ' : qS) (z S M0 : Nat) : Prop := σ'.2 = σ.2 ∧ ∀ f j k, f ≠ 38 → f ≠ 39 → ¬ (j = 0 ∧ 31 ≤ f ∧ f ≤ 37) → ¬ (j = 0 ∧ 10 ≤ f ∧ f ≤ 13 ∧ S ≤ k) → ¬ (f = 9 ∧ j = 0 ∧ k = 4) → ¬ (j = 0 ∧ 2 ≤ f ∧ f ≤ 6 ∧ M0 ≤ k) → ¬ (f = 1 ∧ j = 0 ∧ k = 5) → ¬ (f = 52 ∧ j = z) → σ'.1 f j k = σ.1 f j k
def frH9 (m m' : qS) (z R M0 : Nat) : Prop := ∀ f x, ¬ (108 ≤ f ∧ f ≤ 114 ∧ x < 80) → ¬ (120 ≤ f ∧ f ≤ 124 ∧ R ≤ x) → ¬ (f = 0 ∧ (x = 25 ∨ x = 7)) → ¬ (((100 ≤ f ∧ f ≤ 104) ∨ f = 106) ∧ M0 ≤ x) → f ≠ 105 → ¬ (f = 139 ∧ 6 * z ≤ x ∧ x < 6 * z + 6) → m'.1 f 0 x = m.1 f 0 x
section DO
variable {F : Nat}
theorem e_done9 {m : qS} {z i g n : Nat} {x2 : Int32} (hz : z < 10) (hg : m.1 137 0 z = nI g) (hi : i < g) (hg6 : g ≤ 6) : fX9_done_75 F (n + 1) (nI z) x2 (nI i) m = if x2 < 0 then (bnd2 (fX9_acts F (nI z) (m.1 138 0 (42 * z + 7 * i)) (m.1 138 0 (42 * z + 7 * i + 1)) (m.1 138 0 (42 * z + 7 * i + 2)) (m.1 138 0 (42 * z + 7 * i + 3)) (m.1 138 0 (42 * z + 7 * i + 4)) (m.1 138 0 (42 * z + 7 * i + 5)) (m.1 138 0 (42 * z + 7 * i + 6)) m) fun v48 s47 => (fX9_done_172 F (fX9_done_75 F n) (nI z) x2 (nI i) v48 s47)) else fX9_done_172 F (fX9_done_75 F n) (nI z) x2 (nI i) (-10) m := by
  rw [fX9_done_75, ldi_nI hz (by decide), hg, if_neg (fun w => by have := (nI_le' (by omega) (by omega)).mp w; omega)]
  repeat rw [nm_x]
  generalize hx : 42 * z + 7 * i = x
  rw [show (42 : Int32) * nI z + 7 * nI i = nI x from by rw [show (42 : Int32) = nI 42 from rfl, show (7 : Int32) = nI 7 from rfl, nI_mul, nI_mul, nI_add, hx]]
  by_cases c : x2 < 0
  · rw [if_pos c, if_pos c]
    have e2 : nI x + 2 = nI (x + 2) := by rw [show (2 : Int32) = nI 2 from rfl, nI_add]
    have e3 : nI x + 3 = nI (x + 3) := by rw [show (3 : Int32) = nI 3 from rfl, nI_add]
    have e4 : nI x + 4 = nI (x + 4) := by rw [show (4 : Int32) = nI 4 from rfl, nI_add]
    have e5 : nI x + 5 = nI (x + 5) := by rw [show (5 : Int32) = nI 5 from rfl, nI_add]
    have e6 : nI x + 6 = nI (x + 6) := by rw [show (6 : Int32) = nI 6 from rfl, nI_add]
    rw [ldi_nI (show x < 420 by omega) (by decide), nm_x, nI_1, ldi_nI (show x + 1 < 420 by omega) (by decide), nm_x, e2, ldi_nI (show x + 2 < 420 by omega) (by decide), nm_x, e3, ldi_nI (show x + 3 < 420 by omega) (by decide), nm_x, e4, ldi_nI (show x + 4 < 420 by omega) (by decide), nm_x, e5, ldi_nI (show x + 5 < 420 by omega) (by decide), nm_x, e6, ldi_nI (show x + 6 < 420 by omega) (by decide)]
  · rw [if_neg c, if_neg c]
theorem pr_all_l {M0 S0 L Z z g p : Nat} (hZ : Z ≤ 10) (hz : z < Z) (hg6 : g ≤ 6) (hp4 : p < 4) (hL9 : L + 1 < 2 ^ 31) (hF : 100000 ≤ F) : ∀ (d i k k' : Nat) (σ m : qS) (C : Nat → qS) (π : Nat → Nat) (M S : Nat) (bad : Int32), i + d = g → d < k → d < k' → σ.2 0 0 = Z → σ.1 50 z 1 = nI p → m.1 131 0 z = nI p → σ.1 50 z 12 = nI g → m.1 137 0 z = nI g → (∀ j, i ≤ j → j < g → kZe σ m z j) → kD σ m C π M M0 S S0 L Z → S0 ≤ 990 → kBf σ m (C S0) M0 (π S0) → nn6 σ → m.1 0 0 27 = nI (L + 1) → S + nH (C S) + d + 80 ≤ 990 + M → π S + nH (C S) + 80 * d ≤ 89800 → (bad = -1 ∨ ∃ b, b < g ∧ bad = nI b) →
    ∃ r σ' m' C' π' M' S' k2, fX8_performAll_16 F z k bad (nI i) σ = some (r, σ') ∧ fX9_done_75 F k' (nI z) bad (nI i) m = fX9_done_75 F (k2 + 1) (nI z) r (nI g) m' ∧ (r = -1 ∨ ∃ b, b < g ∧ r = nI b) ∧ frG σ σ' z S M0 ∧ frH9 m m' z (π S) M0 ∧ (∀ j, i ≤ j → j < g → σ'.1 52 z j = m'.1 139 0 (6 * z + j)) ∧ (∀ j, j < i → σ'.1 52 z j = σ.1 52 z j ∧ m'.1 139 0 (6 * z + j) = m.1 139 0 (6 * z + j)) ∧ kD σ' m' C' π' M' M0 S' S0 L Z ∧ kBf σ' m' (C' S0) M0 (π' S0) ∧ nn6 σ' ∧ S ≤ S' ∧ M ≤ M' ∧ (∀ x, x ≤ S → tEq (C' x) 0 (C x) 0 ∧ π' x = π x) ∧ S' + nH (C' S') + M ≤ S + nH (C S) + M' + d ∧ π' S' + nH (C' S') ≤ π S + nH (C S) + 80 * d := by
  intro d
  induction d with
  | zero =>
    intro i k k' σ m C π M S bad hi hk hk' hN e1 e131 e12 e137 hE hD hS0 hB h6 h27 hS hR hb
    obtain ⟨k, rfl⟩ : ∃ x, k = x + 1 := ⟨k - 1, by omega⟩
    obtain ⟨k', rfl⟩ : ∃ x, k' = x + 1 := ⟨k' - 1, by omega⟩
    obtain rfl : i = g := by omega
    refine ⟨bad, σ, m, C, π, M, S, k', ?_, rfl, hb, ⟨rfl, fun _ _ _ _ _ _ _ _ _ _ _ => rfl⟩, fun _ _ _ _ _ _ _ _ => rfl, fun j h1 h2 => by omega, fun j _ => ⟨rfl, rfl⟩, hD, hB, h6, Nat.le_refl _, Nat.le_refl _, fun x _ => ⟨tEq_rf, rfl⟩, by omega, by omega⟩
    unfold fX8_performAll_16 fX8_performAll_77
    rw [gnl_pos (by omega), nm_x, e12, if_pos (Int32.le_refl _)]
  | succ d ih =>
    intro i k k' σ m C π M S bad hi hk hk' hN e1 e131 e12 e137 hE hD hS0 hB h6 h27 hS hR hb
    obtain ⟨k, rfl⟩ : ∃ x, k = x + 1 := ⟨k - 1, by omega⟩
    obtain ⟨k', rfl⟩ : ∃ x, k' = x + 1 := ⟨k' - 1, by omega⟩
    have hig : i < g := by omega
    have hz10 : z < 10 := by omega
    have hzN : z < σ.2 0 0 := by omega
    have hM80 : M ≤ 80 := hD.1.2.1.2.2.2.2.1
    -- what follows once the act's answer is there
    have tail : ∀ (v : Int32) (σ1 m1 : qS) (C1 : Nat → qS) (π1 : Nat → Nat) (M1 S1 : Nat), frB σ σ1 S M0 → frD m m1 (π S) M0 → kD σ1 m1 C1 π1 M1 M0 S1 S0 L Z → kBf σ1 m1 (C1 S0) M0 (π1 S0) → nn6 σ1 → S ≤ S1 → M ≤ M1 → (∀ x, x ≤ S → tEq (C1 x) 0 (C x) 0 ∧ π1 x = π x) → S1 + nH (C1 S1) + M ≤ S + nH (C S) + M1 + 1 → π1 S1 + nH (C1 S1) ≤ π S + nH (C S) + 80 →
      ∃ r σ' m' C' π' M' S' k2, fX8_performAll_55 F z (fX8_performAll_16 F z k) bad (nI i) (nI i) v σ1 = some (r, σ') ∧ fX9_done_172 F (fX9_done_75 F k') (nI z) bad (nI i) v m1 = fX9_done_75 F (k2 + 1) (nI z) r (nI g) m' ∧ (r = -1 ∨ ∃ b, b < g ∧ r = nI b) ∧ frG σ σ' z S M0 ∧ frH9 m m' z (π S) M0 ∧ (∀ j, i ≤ j → j < g → σ'.1 52 z j = m'.1 139 0 (6 * z + j)) ∧ (∀ j, j < i → σ'.1 52 z j = σ.1 52 z j ∧ m'.1 139 0 (6 * z + j) = m.1 139 0 (6 * z + j)) ∧ kD σ' m' C' π' M' M0 S' S0 L Z ∧ kBf σ' m' (C' S0) M0 (π' S0) ∧ nn6 σ' ∧ S ≤ S' ∧ M ≤ M' ∧ (∀ x, x ≤ S → tEq (C' x) 0 (C x) 0 ∧ π' x = π x) ∧ S' + nH (C' S') + M ≤ S + nH (C S) + M' + (d + 1) ∧ π' S' + nH (C' S') ≤ π S + nH (C S) + 80 * (d + 1) := by
      intro v σ1 m1 C1 π1 M1 S1 gB gD gK gF g6 gS gM gC gS2 gR2
      have o : ∀ f j k, f ≠ 38 → f ≠ 39 → (40 ≤ f) → ¬ (f = 52 ∧ j = z ∧ k = i) → (qI σ1 52 z i v).1 f j k = σ.1 f j k := fun f j k w1 w2 w3 w4 => by rw [qI_ap, if_neg w4, gB.2 f j k (by omega) (by omega) (by omega) (by omega) (by omega) (by omega) (by omega)]
      have q : ∀ f x, (f = 0 ∧ x ≠ 25 ∧ x ≠ 7) ∨ 125 ≤ f → ¬ (f = 139 ∧ x = 6 * z + i) → (qI m1 139 0 (6 * z + i) v).1 f 0 x = m.1 f 0 x := fun f x w1 w2 => by rw [qI_ap, if_neg (by omega), gD.2 f 0 x (by omega) (by omega) (by omega) (by omega) (by omega)]
      have next : ∀ bad', (bad' = -1 ∨ ∃ b, b < g ∧ bad' = nI b) → ∃ r σ' m' C' π' M' S' k2, fX8_performAll_16 F z k bad' (nI (i + 1)) (qI σ1 52 z i v) = some (r, σ') ∧ fX9_done_75 F k' (nI z) bad' (nI (i + 1)) (qI m1 139 0 (6 * z + i) v) = fX9_done_75 F (k2 + 1) (nI z) r (nI g) m' ∧ (r = -1 ∨ ∃ b, b < g ∧ r = nI b) ∧ frG σ σ' z S M0 ∧ frH9 m m' z (π S) M0 ∧ (∀ j, i ≤ j → j < g → σ'.1 52 z j = m'.1 139 0 (6 * z + j)) ∧ (∀ j, j < i → σ'.1 52 z j = σ.1 52 z j ∧ m'.1 139 0 (6 * z + j) = m.1 139 0 (6 * z + j)) ∧ kD σ' m' C' π' M' M0 S' S0 L Z ∧ kBf σ' m' (C' S0) M0 (π' S0) ∧ nn6 σ' ∧ S ≤ S' ∧ M ≤ M' ∧ (∀ x, x ≤ S → tEq (C' x) 0 (C x) 0 ∧ π' x = π x) ∧ S' + nH (C' S') + M ≤ S + nH (C S) + M' + (d + 1) ∧ π' S' + nH (C' S') ≤ π S + nH (C S) + 80 * (d + 1) := fun bad' hb' => by
        obtain ⟨r, σ', m', C', π', M', S', k2, a1, a2, a3, a4, a5, a6, a7, a8, a9, a10, a11, a12, a13, a14, a15⟩ := ih (i + 1) k k' (qI σ1 52 z i v) (qI m1 139 0 (6 * z + i) v) C1 π1 M1 S1 bad' (by omega) (by omega) (by omega) (by rw [← hN]; exact congrFun (congrFun gB.1 0) 0) (by rw [o 50 z 1 (by omega) (by omega) (by omega) (by omega)]; exact e1) (by rw [q 131 z (by omega) (by omega)]; exact e131) (by rw [o 50 z 12 (by omega) (by omega) (by omega) (by omega)]; exact e12) (by rw [q 137 z (by omega) (by omega)]; exact e137) (fun j h1 h2 => by
          have := hE j (by omega) h2
          unfold kZe at this ⊢
          rw [q 138 (42 * z + 7 * j) (by omega) (by omega), q 138 (42 * z + 7 * j + 1) (by omega) (by omega), q 138 (42 * z + 7 * j + 2) (by omega) (by omega), q 138 (42 * z + 7 * j + 3) (by omega) (by omega), q 138 (42 * z + 7 * j + 4) (by omega) (by omega), q 138 (42 * z + 7 * j + 5) (by omega) (by omega), q 138 (42 * z + 7 * j + 6) (by omega) (by omega)]
          exact actR_fr this (by funext y; exact o 56 _ y (by omega) (by omega) (by omega) (by omega))) (kD_ans gK (by omega)) hS0 (kBf_ans gF) (fun k k8 => by rw [qI_ap, if_neg (by omega)]; exact g6 k k8) (by rw [q 0 27 (by omega) (by omega)]; exact h27) (by omega) (by omega) hb'
        refine ⟨r, σ', m', C', π', M', S', k2, a1, a2, a3, ⟨a4.1.trans gB.1, fun f j k w1 w2 w3 w4 w5 w6 w7 w8 => ?_⟩, fun f x w1 w2 w3 w4 w5 w6 => ?_, fun j h1 h2 => ?_, fun j h1 => ?_, a8, a9, a10, by omega, by omega, fun x hx => ⟨tEq_tr (a13 x (by omega)).1 (gC x hx).1, (a13 x (by omega)).2.trans (gC x hx).2⟩, by omega, by omega⟩
        · rw [a4.2 f j k w1 w2 w3 (by omega) w5 w6 w7 w8, qI_ap, if_neg (by omega), gB.2 f j k w1 w2 w3 w4 w5 w6 w7]
        · have := (gC S (Nat.le_refl _)).2
          have hmo : π1 S ≤ π1 S1 := kLog_mono gK.1.1 gS (Nat.le_refl _)
          rw [a5 f x w1 (by omega) w3 w4 w5 w6, qI_ap, if_neg (by omega), gD.2 f 0 x (by omega) (by omega) (by omega) (by omega) (by omega)]
        · by_cases ej : j = i
          · subst ej
            obtain ⟨b1, b2⟩ := a7 j (by omega)
            rw [b1, b2, qI_ap, if_pos ⟨rfl, rfl, rfl⟩, qI_ap, if_pos ⟨rfl, rfl, rfl⟩]
          · exact a6 j (by omega) h2
        · obtain ⟨b1, b2⟩ := a7 j (by omega)
          exact ⟨by rw [b1, o 52 z j (by omega) (by omega) (by omega) (by omega)], by rw [b2, q 139 _ (by omega) (by omega)]⟩
      unfold fX8_performAll_55 fX8_performAll_71 fX9_done_172 fX9_done_200 fX9_done_201
      have hN1 : z < σ1.2 0 0 := by rw [gB.1]; exact hzN
      rw [gnl_pos hN1, inx_nI (show i < 6 by omega) (by decide), ix_nI (by omega)]
      repeat rw [nm_x]
      rw [show (6 : Int32) * nI z + nI i = nI (6 * z + i) from by rw [show (6 : Int32) = nI 6 from rfl, nI_mul, nI_add], inx_nI (show 6 * z + i < 60 by omega) (by decide), ix_nI (show 6 * z + i < 2 ^ 31 by omega), nI_1]
      repeat rw [nm_x]
      by_cases cb : 0 ≤ bad
      · rw [if_pos cb, if_pos cb]
        exact next bad hb
      · rw [if_neg cb, if_neg cb, gnl_pos (show z < (qI σ1 52 z i v).2 0 0 from hN1), gnl_pos (show z < (qI σ1 52 z i v).2 0 0 from hN1), ldi_nI (show i < 6 by omega) (by decide), show (qI σ1 52 z i v).1 52 z i = v from by rw [qI_ap, if_pos ⟨rfl, rfl, rfl⟩]]
        by_cases cv : 0 ≤ v
        · rw [if_pos cv, if_pos cv]
          exact next bad hb
        · rw [if_neg cv, if_neg cv]
          exact next (nI i) (Or.inr ⟨i, hig, rfl⟩)
    have hfin : ∀ X : Option (Int32 × qS), fX8_performAll_16 F z (k + 1) bad (nI i) σ = (if bad < 0 then (bnd2 (fX8_perform F z (1 + 6 * z + i) σ) fun v10 s9 => (fX8_performAll_55 F z (fX8_performAll_16 F z k) bad (nI i) (nI i) v10 s9)) else (fX8_performAll_55 F z (fX8_performAll_16 F z k) bad (nI i) (nI i) (-10) σ)) := fun _ => by
      rw [fX8_performAll_16, gnl_pos hzN, nm_x, e12, if_neg (fun w => by have := (nI_le' (by omega) (by omega)).mp w; omega), if_neg (show ¬ (6 : Int32) ≤ nI i from fun w => by have := (nI_le' (a := 6) (by decide) (by omega)).mp w; omega), gnl_pos hzN]
      by_cases cb : bad < 0
      · rw [if_pos cb, if_pos cb, gnl_pos hzN, gnl_pos hzN, inx_nI (show i < 6 by omega) (by decide), nm_x, ix_nI (by omega)]
      · rw [if_neg cb, if_neg cb]
    rw [hfin none, e_done9 hz10 e137 hig hg6]
    by_cases cb : bad < 0
    · rw [if_pos cb, if_pos cb]
      have hH80 := nH_le (c := C S)
      obtain ⟨v, σ1, m1, C1, π1, M1, S1, b1, b2, b3, b4, b5⟩ := pr_act (F := F) (M0 := M0) (L := L) (z := z) (a := 1 + 6 * z + i) (p := p) (by omega) hD.1 hD.2.2.2.2.2.2.2.1 hzN hz10 (by omega) e1 hp4 e131 hD.2.2.2.2.2.2.2.2.1 hL9 h27 (by omega) (by omega) (by omega) hD.2.2.2.2.2.1 (hE i (Nat.le_refl _) hig)
      have g6 : nn6 σ1 := nn6_act (F := F) (L := L) (m := m) (p := p) (by omega) hD.1 hzN (by omega) e1 hp4 hD.2.2.2.2.2.2.2.2.1 hL9 h27 (by omega) (by omega) (by omega) (hE i (Nat.le_refl _) hig) h6 b1
      have gK := kD_eX hD (by omega) b3 b4
      obtain ⟨y1, y2, y3, y4, y5, y6, y7, y8, y9, y10⟩ := b3
      have hS0S := hD.2.2.2.2.1
      have gF : kBf σ1 m1 (C1 S0) M0 (π1 S0) := by
        rw [(y6 S0 hS0S).2]
        exact kBf_fr hB y2 y3 (y6 S0 hS0S).1
      rw [b1, b2, bnd2_s, bnd2_s]
      exact tail v σ1 m1 C1 π1 M1 S1 y2 y3 gK gF g6 y4 y5 y6 (by omega) (by omega)
    · rw [if_neg cb, if_neg cb]
      exact tail (-10) σ m C π M S frB_rf frD_rf hD hB h6 (Nat.le_refl _) (Nat.le_refl _) (fun x _ => ⟨tEq_rf, rfl⟩) (by omega) (by omega)
end DO

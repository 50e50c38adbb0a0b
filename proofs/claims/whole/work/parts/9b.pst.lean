/-! PURE: the past, in both -/
section PT
variable {F : Nat}
theorem first_blk {σ m : qS} {C : Nat → qS} {π : Nat → Nat} {M S i : Nat} (hk : kLog σ m C π M S) (hi : i < S) : m.1 120 0 (π i) = nI (chN σ i) ∧ chN σ i < 2 ^ 31 := by
  obtain ⟨⟨⟨l1, l2, l3, l4⟩, l5, l6⟩, l7, l8⟩ := hk.2.2.1 i hi
  have hg : gvN (C i) (kdN σ i) (ndN σ i) (ndN σ i) := ⟨fun _ => rfl, fun _ => ⟨Nat.le_refl _, l5.1, Or.inl rfl⟩⟩
  have h0 : cntN (gvN (C i) (kdN σ i) (ndN σ i)) 0 (ndN σ i) = 0 := cntN_0 (fun k _ k2 k3 => by
    by_cases c9 : kdN σ i ≤ 2
    · have := k3.1 c9
      omega
    · have := (k3.2 (by omega)).1
      omega)
  have hb := (l7 (ndN σ i) l5.1 hg).1
  rw [h0, Nat.add_zero] at hb
  exact ⟨hb, l4⟩
def vM1 (m : qS) (v : Int32) (k : Nat) (x : Int32) : Int32 := if m.1 121 0 k = 4 then -100 else if m.1 122 0 k = v then (if m.1 121 0 k = 3 then x else if m.1 121 0 k = 2 then -100 else m.1 123 0 k) else x
theorem rvl_s {m : qS} {v : Int32} {k : Nat} : rvl m v (k + 1) = vM1 m v k (rvl m v k) := rfl
theorem val_1 {m : qS} {R k n : Nat} {v y x : Int32} (hR : m.1 0 0 25 = nI R) (hR9 : R ≤ 90000) (hk : k < R) (hc : ¬ y < m.1 120 0 k) : fX9_valueAt_53 F (n + 1) v y x (nI k) m = fX9_valueAt_53 F n v y (vM1 m v k x) (nI (k + 1)) m := by
  rw [fX9_valueAt_53, nm_x, hR, if_neg (fun w => by have := (nI_le' (by omega) (by omega)).mp w; omega), ldi_nI (by omega) i90k, if_neg hc, ldi_nI (by omega) i90k]
  unfold fX9_valueAt_135 fX9_valueAt_136 vM1
  repeat rw [nm_x]
  rw [nI_1]
  by_cases c4 : m.1 121 0 k = 4
  · rw [if_pos c4, if_pos c4]
  · rw [if_neg c4, if_neg c4, ldi_nI (by omega) i90k]
    by_cases c2 : m.1 122 0 k = v
    · rw [if_pos c2, if_pos c2, ldi_nI (by omega) i90k]
      by_cases c3 : m.1 121 0 k = 3
      · rw [if_pos c3, if_pos c3]
      · rw [if_neg c3, if_neg c3, ldi_nI (by omega) i90k]
        by_cases c5 : m.1 121 0 k = 2
        · rw [if_pos c5, if_pos c5]
        · rw [if_neg c5, if_neg c5, ldi_nI (by omega) i90k, nm_x]
    · rw [if_neg c2, if_neg c2]
theorem val_pre {m : qS} {R p0 y : Nat} {v : Int32} (hR : m.1 0 0 25 = nI R) (hR9 : R ≤ 90000) (hp : p0 ≤ R) (hy : y < 2 ^ 31) (hc : ∀ k, k < p0 → ∃ x, x ≤ y ∧ m.1 120 0 k = nI x) : ∀ k, k ≤ p0 → ∀ n, fX9_valueAt_53 F (n + k) v (nI y) (rvl m v 0) (nI 0) m = fX9_valueAt_53 F n v (nI y) (rvl m v k) (nI k) m := by
  intro k
  induction k with
  | zero => intro _ n; rfl
  | succ k ih =>
    intro hk n
    rw [show n + (k + 1) = (n + 1) + k by omega, ih (by omega) (n + 1)]
    obtain ⟨x, x1, x2⟩ := hc k (by omega)
    rw [val_1 hR hR9 (by omega) (by rw [x2]; exact fun w => by have := (nI_lt' (by omega) (by omega)).mp w; omega), rvl_s]
theorem val_blk {m c : qS} {R p0 ch kd nd M y : Nat} {w v : Int32} (hR : m.1 0 0 25 = nI R) (hR9 : R ≤ 90000) (hp : p0 + blkN c kd nd ≤ R) (hB : blk m c kd nd w ch p0) (hok : sOK c kd nd M) (hch : ch ≤ y) (hy : y < 2 ^ 31) (x : Int32) : ∀ j, fX9_valueAt_53 F (j + blkN c kd nd) v (nI y) x (nI p0) m = fX9_valueAt_53 F j v (nI y) (if kd ≤ 2 ∧ nI nd = v then (if kd = 2 then -100 else w) else x) (nI (p0 + blkN c kd nd)) m := by
  obtain ⟨a1, a2, a3, a4, a5, a6, a7⟩ := hok
  have hcy : ∀ k, k < 80 → gvN c kd nd k → ¬ nI y < m.1 120 0 (p0 + cntN (gvN c kd nd) 0 k) := fun k k1 k2 => by
    rw [(hB k k1 k2).1]
    exact fun w => by have := (nI_lt' hy (by omega)).mp w; omega
  by_cases c2 : kd ≤ 2
  · have hg : ∀ k, k < 80 → (gvN c kd nd k ↔ k = nd) := fun k _ => ⟨fun h => h.1 c2, fun h => ⟨fun _ => h, fun h => by omega⟩⟩
    obtain ⟨o1, o2⟩ := cntN_one a1 hg
    obtain ⟨g1, g2, g3, g4, g5⟩ := hB nd a1 ((hg nd a1).mpr rfl)
    have hc := hcy nd a1 ((hg nd a1).mpr rfl)
    rw [o2, Nat.add_zero] at g1 g2 g3 g4 hc
    rw [show min kd 3 = kd by omega] at g2
    have ebl : blkN c kd nd = 1 := o1
    rw [ebl] at hp ⊢
    intro j
    rw [val_1 hR hR9 (by omega) hc]
    unfold vM1
    rw [g2, g3, g4 c2, if_neg (show ¬ nI kd = 4 from fun w => by have := nI_inj (b := 4) (by omega) (by decide) w; omega)]
    by_cases c3 : nI nd = v
    · rw [if_pos c3, if_neg (show ¬ nI kd = 3 from fun w => by have := nI_inj (b := 3) (by omega) (by decide) w; omega), if_pos (show kd ≤ 2 ∧ nI nd = v from ⟨c2, c3⟩)]
      by_cases c5 : kd = 2
      · rw [if_pos (show nI kd = 2 from by rw [c5]; rfl), if_pos c5]
      · rw [if_neg (show ¬ nI kd = 2 from fun w => c5 (nI_inj (b := 2) (by omega) (by decide) w)), if_neg c5]
    · rw [if_neg c3, if_neg (fun w => c3 w.2)]
  · have main : ∀ t, t ≤ 80 → ∀ j, fX9_valueAt_53 F (j + cntN (gvN c kd nd) 0 t) v (nI y) x (nI p0) m = fX9_valueAt_53 F j v (nI y) x (nI (p0 + cntN (gvN c kd nd) 0 t)) m := by
      intro t
      induction t with
      | zero => intro _ j; rfl
      | succ t ih =>
        intro ht j
        have ecnt : cntN (gvN c kd nd) 0 (t + 1) = cntN (gvN c kd nd) 0 t + (if gvN c kd nd t then 1 else 0) := by rw [cntN_1, Nat.zero_add]
        by_cases cg : gvN c kd nd t
        · have hle : cntN (gvN c kd nd) 0 t + 1 ≤ blkN c kd nd := by
            have e : blkN c kd nd = cntN (gvN c kd nd) 0 (t + 1) + cntN (gvN c kd nd) (0 + (t + 1)) (79 - t) := by
              rw [← cntN_split, show t + 1 + (79 - t) = 80 by omega]
            rw [e, ecnt, if_pos cg]
            omega
          obtain ⟨g1, g2, g3, -, -⟩ := hB t (by omega) cg
          rw [show min kd 3 = 3 by omega] at g2
          rw [ecnt, if_pos cg, show j + (cntN (gvN c kd nd) 0 t + 1) = (j + 1) + cntN (gvN c kd nd) 0 t by omega, ih (by omega), val_1 hR hR9 (by omega) (hcy t (by omega) cg)]
          have e : vM1 m v (p0 + cntN (gvN c kd nd) 0 t) x = x := by
            unfold vM1
            rw [g2, if_neg (by decide), if_pos (show nI 3 = 3 from rfl), ite_self]
          rw [e, Nat.add_assoc]
        · rw [ecnt, if_neg cg, Nat.add_zero]
          exact ih (by omega) j
    intro j
    rw [if_neg (fun w => c2 w.1)]
    exact main 80 (Nat.le_refl _) j
theorem val_j {σ m : qS} {C : Nat → qS} {π : Nat → Nat} {M S y : Nat} {v : Int32} (hk : kLog σ m C π M S) (hS : S ≤ 990) (hR : π S ≤ 90000) (hy : y < 2 ^ 31) : ∀ (d i k k' : Nat) (x : Int32), i + d = S → d < k → π S - π i < k' → ∃ u, fX8_valueAt_53 F k v (nI y) x (nI i) σ = some (u, 0, σ) ∧ fX9_valueAt_53 F k' v (nI y) x (nI (π i)) m = some (u, m) := by
  intro d
  induction d with
  | zero =>
    intro i k k' x hi h1 h2
    obtain ⟨k, rfl⟩ : ∃ z, k = z + 1 := ⟨k - 1, by omega⟩
    obtain ⟨k', rfl⟩ : ∃ z, k' = z + 1 := ⟨k' - 1, by omega⟩
    obtain rfl : i = S := by omega
    refine ⟨x, ?_, ?_⟩
    · rw [fX8_valueAt_53, nm_x, hk.1, if_pos (Int32.le_refl _)]
      rfl
    · rw [fX9_valueAt_53, nm_x, hk.2.1, if_pos (Int32.le_refl _)]
      rfl
  | succ d ih =>
    intro i k k' x hi h1 h2
    obtain ⟨k, rfl⟩ : ∃ z, k = z + 1 := ⟨k - 1, by omega⟩
    have hiS : i < S := by omega
    obtain ⟨⟨⟨l1, l2, l3, l4⟩, l5, l6⟩, l7, l8⟩ := hk.2.2.1 i hiS
    have hpi : π (i + 1) ≤ π S := kLog_mono hk (by omega) (Nat.le_refl _)
    rw [fX8_valueAt_53, nm_x, hk.1, if_neg (fun w => by have := (nI_le' (by omega) (by omega)).mp w; omega), ldi_nI (show i < 1024 by omega) (by decide), l3]
    by_cases c : y < chN σ i
    · obtain ⟨f1, f2⟩ := first_blk hk hiS
      have hpos := blk_pos hk hiS
      obtain ⟨k', rfl⟩ : ∃ z, k' = z + 1 := ⟨k' - 1, by omega⟩
      rw [if_pos ((nI_lt' hy l4).mpr c), fX9_valueAt_53, nm_x, hk.2.1, if_neg (fun w => by have := (nI_le' (by omega) (by omega)).mp w; omega), ldi_nI (by omega) i90k, f1, if_pos ((nI_lt' hy l4).mpr c)]
      exact ⟨x, rfl, rfl⟩
    · rw [if_neg (fun w => c ((nI_lt' hy l4).mp w))]
      obtain ⟨j, hj⟩ : ∃ j, k' = j + blkN (C i) (kdN σ i) (ndN σ i) := ⟨k' - blkN (C i) (kdN σ i) (ndN σ i), by omega⟩
      have hb := val_blk (F := F) (m := m) (c := C i) (R := π S) (p0 := π i) (M := M) (y := y) (v := v) hk.2.1 hR (by omega) l7 l5 (by omega) hy x j
      rw [← hj, ← l8] at hb
      rw [hb, ldi_nI (show i < 1024 by omega) (by decide), l2]
      unfold fX8_valueAt_134 fX8_valueAt_135
      repeat rw [nm_x]
      rw [nI_1]
      by_cases c3 : nI (ndN σ i) = v
      · rw [if_pos c3, e_tells (show i < 1024 by omega), bnd2_s]
        by_cases c4 : kdN σ i ≤ 2
        · have ht : tlls σ i := by
            unfold tlls
            rw [l1]
            have : kdN σ i = 0 ∨ kdN σ i = 1 ∨ kdN σ i = 2 := by omega
            rcases this with q | q | q
            · rw [q]; exact Or.inl rfl
            · rw [q]; exact Or.inr (Or.inl rfl)
            · rw [q]; exact Or.inr (Or.inr rfl)
          rw [b2_t ht, if_neg (show ¬ (1 : Int32) = 0 by decide), ldi_nI (show i < 1024 by omega) (by decide), l1, if_pos (show kdN σ i ≤ 2 ∧ nI (ndN σ i) = v from ⟨c4, c3⟩)]
          by_cases c5 : kdN σ i = 2
          · rw [if_pos (show nI (kdN σ i) = 2 from by rw [c5]; rfl), if_pos c5]
            exact ih (i + 1) k j _ (by omega) (by omega) (by omega)
          · rw [if_neg (show ¬ nI (kdN σ i) = 2 from fun w => c5 (nI_inj (b := 2) (by omega) (by decide) w)), if_neg c5, ldi_nI (show i < 1024 by omega) (by decide)]
            exact ih (i + 1) k j _ (by omega) (by omega) (by omega)
        · have ht : ¬ tlls σ i := by
            unfold tlls
            rw [l1]
            have h4 := l5.2.2.1
            rintro (q | q | q)
            · have := nI_inj (b := 0) (by omega) (by decide) q; omega
            · have := nI_inj (b := 1) (by omega) (by decide) q; omega
            · have := nI_inj (b := 2) (by omega) (by decide) q; omega
          rw [b2_f ht, if_pos rfl, if_neg (show ¬ (kdN σ i ≤ 2 ∧ nI (ndN σ i) = v) from fun w => c4 w.1)]
          exact ih (i + 1) k j _ (by omega) (by omega) (by omega)
      · rw [if_neg c3, if_neg (show ¬ (kdN σ i ≤ 2 ∧ nI (ndN σ i) = v) from fun w => c3 w.2)]
        exact ih (i + 1) k j _ (by omega) (by omega) (by omega)
theorem c_valueAt (hF : 100000 ≤ F) : cI_valueAt F kI phi := by
  intro n σ m v q hn h
  have h7 := kI_57 (v := 0) h (by omega)
  unfold fX8_valueAt fX9_valueAt fX8_mustBeChange fX8_mustBeKept
  have thr : ∀ (u : Int32) (e : Nat) (c : Int32), (e = 2 ∧ c = 1) ∨ (e = 3 ∧ c = 2) → lC F kI phi (fun e => if e = 0 then 0 else if e = 2 then 1 else if e = 3 then 2 else 0) n σ (some (u, e, σ)) (fX9_valueAt_31 F v q c m) (fun _ => 0) := fun u e c hec => by
    unfold fX9_valueAt_31
    rcases hec with ⟨rfl, rfl⟩ | ⟨rfl, rfl⟩
    all_goals
      rw [e_h1 (by decide), bnd2_s, if_neg (show ¬ (1 : Int32) = 0 by decide)]
      exact lC_t rfl (by decide) h (by omega) rfl rfl
  obtain ⟨L0, cmp0, e1, e2, hLn0, hcL0, e3, e4⟩ := kI_L h
  repeat rw [nm_x]
  rw [e_isWithin, bnd2_s, e_in, bnd2_s, e1, e2]
  by_cases c1 : ¬ q < 0 ∧ ¬ nI L0 < q
  · obtain ⟨y, -, hy, rfl⟩ := (in_rng (a := 0) (b := L0) (by decide) (by omega)).mpr c1
    rw [b2_t c1, if_neg (show ¬ (1 : Int32) = 0 by decide), if_neg (show ¬ (1 : Int32) = 0 by decide), bnd3_s0, nm_x, nm_x, e3, e4]
    by_cases c2 : cmp0 ≤ y
    · rw [if_pos ((nI_le' (by omega) (by omega)).mpr c2), if_pos ((nI_le' (by omega) (by omega)).mpr c2), bnd3_s0]
      have hI := h7
      obtain ⟨C, π, M, S, L, Z, Y, T, cmp, hk, hR, hlo, h6, hK, hP, hcL, hT, hLn, hS, hp9⟩ := hI
      have hM80 : M ≤ 80 := hk.1.2.1.2.2.2.2.1
      have ec : cmp = cmp0 := nI_inj (by omega) (by omega) (hR.2.2.2.2.2.1.2.2.1.symm.trans e3)
      subst ec
      obtain ⟨p1, p2, p3⟩ := hP
      have hp0 : π 0 ≤ π S := kLog_mono hk.1.1 (Nat.zero_le _) (Nat.le_refl _)
      have hpre := val_pre (F := F) (m := qI m 0 0 57 0) (R := π S) (p0 := π 0) (y := y) (v := v) hk.1.1.2.1 (by omega) hp0 (by omega) (fun k hk9 => by
        obtain ⟨x, x1, x2⟩ := p2 k hk9
        exact ⟨x, by omega, x2⟩) (π 0) (Nat.le_refl _)
      obtain ⟨u, u1, u2⟩ := val_j (F := F) (v := v) (y := y) hk.1.1 (by omega) (by omega) (by omega) S 0 F (F - π 0) (cvl (C 0) v) (by omega) (by omega) (by omega)
      have ref : fX9_valueAt_31 F v (nI y) 0 m = some (u, qI m 0 0 57 0) := by
        unfold fX9_valueAt_31 fX9_valueAt_49
        have hst : fX9_valueAt_53 F F v (nI y) (rvl (qI m 0 0 57 0) v 0) 0 (qI m 0 0 57 0) = some (u, qI m 0 0 57 0) := by
          have := hpre (F - π 0)
          rw [show F - π 0 + π 0 = F by omega, p3 v] at this
          exact this.trans u2
        rw [e_h0, bnd2_s, if_pos rfl]
        unfold rvl at hst
        by_cases c0 : v = 0
        · rw [if_pos c0] at hst ⊢
          exact hst
        · rw [if_neg c0] at hst ⊢
          exact hst
      rw [ref, e_isWithin, bnd2_s]
      have fin : lC F kI phi (fun e => if e = 0 then 0 else if e = 2 then 1 else if e = 3 then 2 else 0) n σ (some (u, 0, σ)) (some (u, qI m 0 0 57 0)) (fun _ => 0) := lC_o rfl (kI_mono h7 (Nat.le_succ n)) (by rw [qI_ap, if_pos ⟨rfl, rfl, rfl⟩]) (by omega)
      by_cases c3 : ¬ v < 0 ∧ ¬ 79 < v
      · have c8 : ¬ v < 0 ∧ ¬ 80 ≤ v := ⟨c3.1, fun q => c3.2 (Int32.lt_of_lt_of_le (by decide) q)⟩
        obtain ⟨a, ha, h31, rfl⟩ := in_ex (vp_in_80.mpr c8)
        rw [b2_t c3, if_neg (show ¬ (1 : Int32) = 0 by decide), ldi_nI ha i80', p1 31 a (by decide) (by decide) ha]
        unfold fX8_valueAt_49
        have u1' : ∀ x, x = cvl (C 0) (nI a) → fX8_valueAt_53 F F (nI a) (nI y) x 0 σ = some (u, 0, σ) := fun x hx => by rw [hx]; exact u1
        by_cases c4 : (C 0).1 31 0 a = 0
        · rw [if_pos c4, u1' (-100) (by
            unfold cvl
            rw [if_neg (fun w => by have := w.2; rw [ix_nI h31] at this; exact this c4)])]
          exact fin
        · rw [if_neg c4, ldi_nI ha i80', u1' _ (by
            unfold cvl
            rw [if_pos ⟨c8, by rw [ix_nI h31]; exact c4⟩, ix_nI h31, p1 32 a (by decide) (by decide) ha])]
          exact fin
      · rw [b2_f c3, if_pos rfl]
        have : u = -100 := by
          -- no step of the log has that node
          have hno : ∀ (d i k : Nat), i + d = S → d < k → fX8_valueAt_53 F k v (nI y) (-100) (nI i) σ = some (-100, 0, σ) := by
            intro d
            induction d with
            | zero =>
              intro i k hi h1
              obtain ⟨k, rfl⟩ : ∃ z, k = z + 1 := ⟨k - 1, by omega⟩
              rw [fX8_valueAt_53, nm_x, hk.1.1.1, if_pos (show nI S ≤ nI i from (nI_le' (by omega) (by omega)).mpr (by omega))]
              rfl
            | succ d ih =>
              intro i k hi h1
              obtain ⟨k, rfl⟩ : ∃ z, k = z + 1 := ⟨k - 1, by omega⟩
              obtain ⟨⟨⟨l1, l2, l3, l4⟩, l5, l6⟩, -⟩ := hk.1.1.2.2.1 i (by omega)
              rw [fX8_valueAt_53, nm_x, hk.1.1.1, if_neg (fun w => by have := (nI_le' (by omega) (by omega)).mp w; omega), ldi_nI (show i < 1024 by omega) (by decide)]
              by_cases c5 : nI y < σ.1 10 0 i
              · rw [if_pos c5]; rfl
              · rw [if_neg c5, ldi_nI (show i < 1024 by omega) (by decide), l2, if_neg (fun w => c3 (by
                  have h9 := l5.1
                  rw [← w]
                  exact ⟨nI_nn (by omega), fun w => by have := (nI_lt' (a := 79) (by decide) (by omega)).mp w; omega⟩))]
                unfold fX8_valueAt_135
                rw [nm_x, nI_1]
                exact ih (i + 1) k (by omega) (by omega)
          have e0 : cvl (C 0) v = -100 := by
            unfold cvl
            rw [if_neg (fun w => c3 ⟨w.1.1, fun q => w.1.2 (by
              have h79 : (79 : Int32) < v := q
              obtain ⟨b, hb, rfl⟩ := nI_of w.1.1
              have := (nI_lt' (a := 79) (by decide) hb).mp h79
              exact (nI_le' (a := 80) (by decide) hb).mpr (by omega))⟩)]
          rw [e0, hno S 0 F (by omega) (by omega)] at u1
          cases u1
          rfl
        rw [this] at fin ⊢
        exact fin
    · rw [if_neg (fun w => c2 ((nI_le' (by omega) (by omega)).mp w)), if_neg (fun w => c2 ((nI_le' (by omega) (by omega)).mp w)), bnd3_se (by decide)]
      exact thr _ 3 2 (Or.inr ⟨rfl, rfl⟩)
  · rw [b2_f c1, if_pos rfl, if_pos rfl, bnd3_se (by decide)]
    exact thr _ 2 1 (Or.inl ⟨rfl, rfl⟩)
end PT

/-! PURE: changedAt, in both -/
section CH9
variable {F : Nat}
theorem chg_skip {m : qS} {R k n : Nat} {v l y : Int32} (hR : m.1 0 0 25 = nI R) (hR9 : R ≤ 90000) (hk : k < R) (hs : ¬ (m.1 122 0 k = v ∧ ¬ (3 : Int32) ≤ m.1 121 0 k ∧ ¬ m.1 120 0 k ≤ y)) : fX9_changedAt_56 F (n + 1) v l y (nI k) m = fX9_changedAt_56 F n v l y (nI (k + 1)) m := by
  rw [fX9_changedAt_56, nm_x, hR, if_neg (fun w => by have := (nI_le' (by omega) (by omega)).mp w; omega), ldi_nI (by omega) i90k]
  unfold fX9_changedAt_119
  rw [nm_x, nI_1]
  by_cases c1 : m.1 122 0 k = v
  · rw [if_pos c1, ldi_nI (by omega) i90k]
    by_cases c2 : (3 : Int32) ≤ m.1 121 0 k
    · rw [if_pos c2]
    · rw [if_neg c2, ldi_nI (by omega) i90k]
      by_cases c3 : m.1 120 0 k ≤ y
      · rw [if_pos c3]
      · exact absurd ⟨c1, c2, c3⟩ hs
  · rw [if_neg c1]
theorem chg_pre {m : qS} {R p0 y : Nat} {v l : Int32} (hR : m.1 0 0 25 = nI R) (hR9 : R ≤ 90000) (hp : p0 ≤ R) (hy : y < 2 ^ 31) (hc : ∀ k, k < p0 → ∃ x, x ≤ y ∧ m.1 120 0 k = nI x) : ∀ k, k ≤ p0 → ∀ n, fX9_changedAt_56 F (n + k) v l (nI y) (nI 0) m = fX9_changedAt_56 F n v l (nI y) (nI k) m := by
  intro k
  induction k with
  | zero => intro _ n; rfl
  | succ k ih =>
    intro hk n
    rw [show n + (k + 1) = (n + 1) + k by omega, ih (by omega) (n + 1)]
    obtain ⟨x, x1, x2⟩ := hc k (by omega)
    exact chg_skip hR hR9 (by omega) (fun w => w.2.2 (by rw [x2]; exact (nI_le' (by omega) (by omega)).mpr x1))
/-- a block of steps that are not told, or of another node -/
theorem chg_blk {m c : qS} {R p0 ch kd nd M : Nat} {w v l y : Int32} (hR : m.1 0 0 25 = nI R) (hR9 : R ≤ 90000) (hp : p0 + blkN c kd nd ≤ R) (hB : blk m c kd nd w ch p0) (hok : sOK c kd nd M) (hs : ¬ (nI nd = v ∧ kd ≤ 2 ∧ ¬ nI ch ≤ y)) : ∀ j, fX9_changedAt_56 F (j + blkN c kd nd) v l y (nI p0) m = fX9_changedAt_56 F j v l y (nI (p0 + blkN c kd nd)) m := by
  obtain ⟨a1, a2, a3, a4, a5, a6, a7⟩ := hok
  have main : ∀ t, t ≤ 80 → ∀ j, fX9_changedAt_56 F (j + cntN (gvN c kd nd) 0 t) v l y (nI p0) m = fX9_changedAt_56 F j v l y (nI (p0 + cntN (gvN c kd nd) 0 t)) m := by
    intro t
    induction t with
    | zero => intro _ j; rfl
    | succ t ih =>
      intro ht j
      have ecnt : cntN (gvN c kd nd) 0 (t + 1) = cntN (gvN c kd nd) 0 t + (if gvN c kd nd t then 1 else 0) := by rw [cntN_1, Nat.zero_add]
      by_cases cg : gvN c kd nd t
      · have hle : cntN (gvN c kd nd) 0 t + 1 ≤ blkN c kd nd := by
          have e : blkN c kd nd = cntN (gvN c kd nd) 0 (t + 1) + cntN (gvN c kd nd) (0 + (t + 1)) (79 - t) := by
            rw [← cntN_split, show t + 1 + (79 - t) = 80 by omega]
          rw [e, ecnt, if_pos cg]
          omega
        obtain ⟨g1, g2, g3, -, -⟩ := hB t (by omega) cg
        rw [ecnt, if_pos cg, show j + (cntN (gvN c kd nd) 0 t + 1) = (j + 1) + cntN (gvN c kd nd) 0 t by omega, ih (by omega), chg_skip hR hR9 (by omega) (fun q => ?_), Nat.add_assoc]
        rw [g1, g2, g3] at q
        by_cases c2 : kd ≤ 2
        · have et : t = nd := cg.1 c2
          subst et
          exact hs ⟨q.1, c2, q.2.2⟩
        · rw [show min kd 3 = 3 by omega] at q
          exact q.2.1 (Int32.le_refl _)
      · rw [ecnt, if_neg cg, Nat.add_zero]
        exact ih (by omega) j
  exact main 80 (Nat.le_refl _)
theorem chg_j {σ m : qS} {C : Nat → qS} {π : Nat → Nat} {M S P : Nat} {v : Int32} (hk : kLog σ m C π M S) (hS : S ≤ 990) (hR : π S ≤ 90000) (hP : P < 2 ^ 31) : ∀ (d i k k' c : Nat) (y : Int32), i + d = S → d < k → π S - π i < k' → c ≤ P → ∃ u, fX8_changedAt_34 F k v (nI P) (nI c - 1) y (nI i) σ = some (u, 0, σ) ∧ fX9_changedAt_56 F k' v (nI (P - c)) y (nI (π i)) m = some (u, m) := by
  intro d
  induction d with
  | zero =>
    intro i k k' c y hi h1 h2 hc
    obtain ⟨k, rfl⟩ : ∃ z, k = z + 1 := ⟨k - 1, by omega⟩
    obtain ⟨k', rfl⟩ : ∃ z, k' = z + 1 := ⟨k' - 1, by omega⟩
    obtain rfl : i = S := by omega
    refine ⟨-100, ?_, ?_⟩
    · rw [fX8_changedAt_34, nm_x, hk.1, if_pos (Int32.le_refl _)]
    · rw [fX9_changedAt_56, nm_x, hk.2.1, if_pos (Int32.le_refl _)]
  | succ d ih =>
    intro i k k' c y hi h1 h2 hc
    obtain ⟨k, rfl⟩ : ∃ z, k = z + 1 := ⟨k - 1, by omega⟩
    have hiS : i < S := by omega
    obtain ⟨⟨⟨l1, l2, l3, l4⟩, l5, l6⟩, l7, l8⟩ := hk.2.2.1 i hiS
    have hpi : π (i + 1) ≤ π S := kLog_mono hk (by omega) (Nat.le_refl _)
    have hpos := blk_pos hk hiS
    obtain ⟨j, hj⟩ : ∃ j, k' = j + blkN (C i) (kdN σ i) (ndN σ i) := ⟨k' - blkN (C i) (kdN σ i) (ndN σ i), by omega⟩
    -- both pass over this step
    have over : ¬ (nI (ndN σ i) = v ∧ kdN σ i ≤ 2 ∧ ¬ nI (chN σ i) ≤ y) → ∃ u, fX8_changedAt_34 F k v (nI P) (nI c - 1) y (nI (i + 1)) σ = some (u, 0, σ) ∧ fX9_changedAt_56 F k' v (nI (P - c)) y (nI (π i)) m = some (u, m) := fun hs => by
      obtain ⟨u, u1, u2⟩ := ih (i + 1) k j c y (by omega) (by omega) (by omega) hc
      refine ⟨u, u1, ?_⟩
      rw [hj, chg_blk (F := F) (m := m) (c := C i) (R := π S) (M := M) hk.2.1 hR (by omega) l7 l5 hs j, ← l8]
      exact u2
    rw [fX8_changedAt_34, nm_x, hk.1, if_neg (fun w => by have := (nI_le' (by omega) (by omega)).mp w; omega), ldi_nI (show i < 1024 by omega) (by decide), l2]
    unfold fX8_changedAt_111
    repeat rw [nm_x]
    rw [nI_1]
    by_cases c3 : nI (ndN σ i) = v
    · rw [if_pos c3, e_tells (show i < 1024 by omega), bnd2_s]
      by_cases c4 : kdN σ i ≤ 2
      · have ht : tlls σ i := by
          unfold tlls
          rw [l1]
          have : kdN σ i = 0 ∨ kdN σ i = 1 ∨ kdN σ i = 2 := by omega
          rcases this with q | q | q
          · rw [q]; exact Or.inl rfl
          · rw [q]; exact Or.inr (Or.inl rfl)
          · rw [q]; exact Or.inr (Or.inr rfl)
        rw [b2_t ht, if_neg (show ¬ (1 : Int32) = 0 by decide), ldi_nI (show i < 1024 by omega) (by decide), l3]
        by_cases c5 : nI (chN σ i) ≤ y
        · rw [if_pos c5]
          exact over (fun w => w.2.2 c5)
        · rw [if_neg c5, ldi_nI (show i < 1024 by omega) (by decide), l3, nm_x, show nI c - 1 + 1 = nI c from Int32.sub_add_cancel _ _]
          have hg : ∀ x, x < 80 → (gvN (C i) (kdN σ i) (ndN σ i) x ↔ x = ndN σ i) := fun x _ => ⟨fun h => h.1 c4, fun h => ⟨fun _ => h, fun h => by omega⟩⟩
          obtain ⟨o1, o2⟩ := cntN_one l5.1 hg
          obtain ⟨g1, g2, g3, g4, g5⟩ := l7 (ndN σ i) l5.1 ((hg _ l5.1).mpr rfl)
          rw [o2, Nat.add_zero] at g1 g2 g3
          rw [show min (kdN σ i) 3 = kdN σ i by omega] at g2
          have ebl : blkN (C i) (kdN σ i) (ndN σ i) = 1 := o1
          rw [ebl] at l8 hj
          have hnl : ¬ nI (π S) ≤ nI (π i) := fun w => by have := (nI_le' (by omega) (by omega)).mp w; omega
          have hn3 : ¬ (3 : Int32) ≤ nI (kdN σ i) := fun w => by have := (nI_le' (a := 3) (by decide) (by omega)).mp w; omega
          have e9 : fX9_changedAt_56 F k' v (nI (P - c)) y (nI (π i)) m = (if nI (P - c) = 0 then some (nI (chN σ i), m) else nm (nI (P - c) + -1) fun v22 => fX9_changedAt_119 F (fX9_changedAt_56 F j) v v22 (nI (chN σ i)) (nI (π i)) m) := by
            rw [hj, fX9_changedAt_56, nm_x, hk.2.1, if_neg hnl, ldi_nI (by omega) i90k, g3, if_pos c3, ldi_nI (by omega) i90k, g2, if_neg hn3, ldi_nI (by omega) i90k, g1, if_neg c5, ldi_nI (by omega) i90k, g1]
          rw [e9]
          by_cases c6 : c = P
          · have e0 : P - c = 0 := by omega
            rw [if_pos (show nI c = nI P from congrArg nI c6), if_pos (show nI (P - c) = 0 from by rw [e0]; rfl)]
            exact ⟨_, rfl, rfl⟩
          · rw [if_neg (show ¬ nI c = nI P from fun w => c6 (nI_inj (by omega) (by omega) w)), if_neg (show ¬ nI (P - c) = 0 from fun w => by have := nI_inj (b := 0) (by omega) (by decide) w; omega)]
            unfold fX9_changedAt_119
            repeat rw [nm_x]
            obtain ⟨u, u1, u2⟩ := ih (i + 1) k j (c + 1) (nI (chN σ i)) (by omega) (by omega) (by omega) (by omega)
            refine ⟨u, ?_, ?_⟩
            · rw [show nI (c + 1) - 1 = nI c from by rw [← nI_1]; exact Int32.add_sub_cancel _ _] at u1
              exact u1
            · rw [show nI (P - c) + (-1) = nI (P - (c + 1)) from by
                rw [show nI (P - c) + (-1) = nI (P - c) - 1 from (Int32.sub_eq_add_neg _ _).symm, show nI (P - c) - 1 = nI (P - c - 1) from nI_sub (a := P - c) (b := 1) (by omega), show P - c - 1 = P - (c + 1) by omega], nI_1, ← l8]
              exact u2
      · have ht : ¬ tlls σ i := by
          unfold tlls
          rw [l1]
          have h4 := l5.2.2.1
          rintro (q | q | q)
          · have := nI_inj (b := 0) (by omega) (by decide) q; omega
          · have := nI_inj (b := 1) (by omega) (by decide) q; omega
          · have := nI_inj (b := 2) (by omega) (by decide) q; omega
        rw [b2_f ht, if_pos rfl]
        exact over (fun w => c4 w.2.1)
    · rw [if_neg c3]
      exact over (fun w => c3 w.1)
theorem c_changedAt (hF : 100000 ≤ F) : cI_changedAt F kI phi := by
  intro n σ m v q pl hn h
  have h7 := kI_57 (v := 0) h (by omega)
  unfold fX8_changedAt fX9_changedAt fX8_mustBeChange fX8_mustBeKept
  have thr : ∀ (u : Int32) (e : Nat) (c : Int32), (e = 1 ∧ c = 1) ∨ (e = 2 ∧ c = 2) ∨ (e = 3 ∧ c = 3) → lC F kI phi (fun e => if e = 0 then 0 else if e = 1 then 1 else if e = 2 then 2 else if e = 3 then 3 else 0) n σ (some (u, e, σ)) (fX9_changedAt_39 F v q pl c m) (fun _ => 0) := fun u e c hec => by
    unfold fX9_changedAt_39
    rcases hec with ⟨rfl, rfl⟩ | ⟨rfl, rfl⟩ | ⟨rfl, rfl⟩
    all_goals
      rw [e_h1 (by decide), bnd2_s, if_neg (show ¬ (1 : Int32) = 0 by decide)]
      exact lC_t rfl (by decide) h (by omega) rfl rfl
  obtain ⟨L0, cmp0, e1, e2, hLn0, hcL0, e3, e4⟩ := kI_L h
  by_cases c0 : 0 ≤ pl
  · obtain ⟨P, hP, rfl⟩ := nI_of (x := pl) (Int32.not_lt.mpr c0)
    rw [if_pos c0, if_pos c0]
    repeat rw [nm_x]
    rw [e_isWithin, bnd2_s, e_in, bnd2_s, e1, e2]
    by_cases c1 : ¬ q < 0 ∧ ¬ nI L0 < q
    · obtain ⟨y, -, hy, rfl⟩ := (in_rng (a := 0) (b := L0) (by decide) (by omega)).mpr c1
      rw [b2_t c1, if_neg (show ¬ (1 : Int32) = 0 by decide), if_neg (show ¬ (1 : Int32) = 0 by decide), bnd3_s0, nm_x, nm_x, e3, e4]
      by_cases c2 : cmp0 ≤ y
      · rw [if_pos ((nI_le' (by omega) (by omega)).mpr c2), if_pos ((nI_le' (by omega) (by omega)).mpr c2), bnd3_s0]
        have hI := h7
        obtain ⟨C, π, M, S, L, Z, Y, T, cmp, hk, hR, hlo, h6, hK, hPp, hcL, hT, hLn, hS, hp9⟩ := hI
        have hM80 : M ≤ 80 := hk.1.2.1.2.2.2.2.1
        have ec : cmp = cmp0 := nI_inj (by omega) (by omega) (hR.2.2.2.2.2.1.2.2.1.symm.trans e3)
        subst ec
        obtain ⟨p1, p2, p3⟩ := hPp
        have hp0 : π 0 ≤ π S := kLog_mono hk.1.1 (Nat.zero_le _) (Nat.le_refl _)
        have hpre := chg_pre (F := F) (m := qI m 0 0 57 0) (R := π S) (p0 := π 0) (y := y) (v := v) (l := nI P) hk.1.1.2.1 (by omega) hp0 (by omega) (fun k hk9 => by
          obtain ⟨x, x1, x2⟩ := p2 k hk9
          exact ⟨x, by omega, x2⟩) (π 0) (Nat.le_refl _)
        obtain ⟨u, u1, u2⟩ := chg_j (F := F) (v := v) (P := P) hk.1.1 (by omega) (by omega) hP S 0 F (F - π 0) 0 (nI y) (by omega) (by omega) (by omega) (Nat.zero_le _)
        have hst : fX9_changedAt_56 F F v (nI P) (nI y) 0 (qI m 0 0 57 0) = some (u, qI m 0 0 57 0) := by
          have := hpre (F - π 0)
          rw [show F - π 0 + π 0 = F by omega] at this
          exact this.trans u2
        unfold fX9_changedAt_39
        rw [show fX8_changedAt_34 F F v (nI P) (-1) (nI y) 0 σ = some (u, 0, σ) from u1, e_h0, bnd2_s, if_pos rfl, hst]
        exact lC_o rfl (kI_mono h7 (Nat.le_succ n)) (by rw [qI_ap, if_pos ⟨rfl, rfl, rfl⟩]) (by omega)
      · rw [if_neg (fun w => c2 ((nI_le' (by omega) (by omega)).mp w)), if_neg (fun w => c2 ((nI_le' (by omega) (by omega)).mp w)), bnd3_se (by decide)]
        exact thr _ 3 3 (Or.inr (Or.inr ⟨rfl, rfl⟩))
    · rw [b2_f c1, if_pos rfl, if_pos rfl, bnd3_se (by decide)]
      exact thr _ 2 2 (Or.inr (Or.inl ⟨rfl, rfl⟩))
  · rw [if_neg c0, if_neg c0]
    exact thr _ 1 1 (Or.inl ⟨rfl, rfl⟩)
end CH9

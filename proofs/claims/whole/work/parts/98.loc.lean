/-! PURE: locks, in both: has, giveUp -/
section LO
variable {F s M : Nat} {σ m c : qS}
theorem tA_dst (h : tA σ m s c M) : dstN σ s := by
  intro k k' h1 h2 h3 h4 h5 h6 h7 h8
  rw [(tA_31 h h2).1] at h5
  rw [(tA_31 h h4).1] at h6
  have b := tA_b h h2 h5
  have b' := tA_b h h4 h6
  have hd : dstN c 0 := h.1.2.2.2.2.2.1
  refine hd k k' h1 h2 h3 h4 h5 h6 ?_ ?_
  · rw [← b.2.1 2 (by decide) (by decide), ← b'.2.1 2 (by decide) (by decide)]; exact h7
  · rw [← b.2.1 3 (by decide) (by decide), ← b'.2.1 3 (by decide) (by decide)]; exact h8
theorem tA_name (h : tA σ m s c M) {k : Nat} (h1 : 1 ≤ k) (h2 : k < 80) (h3 : σ.1 31 s k ≠ 0) : ∃ x, σ.1 3 0 k = nI x ∧ x < 2 ^ 31 := by
  rw [(tA_31 h h2).1] at h3
  obtain ⟨x, x1, x2⟩ := h.1.2.2.2.2.1 k h1 h2 h3
  refine ⟨x, by rw [(tA_b h h2 h3).2.1 3 (by decide) (by decide)]; exact x1, ?_⟩
  have hM := h.1.1.2.2
  rcases x2 with q | ⟨q, y, y1, y2, y3⟩
  · omega
  · omega
theorem neg1_lt {x : Nat} (hx : x < 2 ^ 31) : ¬ nI x ≤ -1 := fun q => absurd (Int32.le_trans (nI_pos' hx) q) (by decide)
theorem tA_pos (h : tA σ m s c M) : posN σ s ∧ posN (vw m) s := by
  refine ⟨fun k h1 h2 h3 => ?_, fun k h1 h2 h3 => ?_⟩
  · obtain ⟨x, x1, x2⟩ := tA_name h h1 h2 h3
    rw [x1]
    exact neg1_lt x2
  · rw [(tA_31 h h2).2] at h3
    have h3' : σ.1 31 s k ≠ 0 := by rw [(tA_31 h h2).1]; exact h3
    obtain ⟨x, x1, x2⟩ := tA_name h h1 h2 h3'
    rw [vw3, (tA_b h h2 h3).2.2.2.1, x1]
    exact neg1_lt x2
theorem tA_isOf (h : tA σ m s c M) {k : Nat} {z : Int32} (hk : k < 80) (hh : c.1 31 0 k ≠ 0) : isOf (vw m) z k ↔ isOf σ z k := by
  obtain ⟨b1, b2, b3, b4, b5, b6, b7⟩ := tA_b h hk hh
  unfold isOf
  rw [vw4, vw5, b5]
  refine ⟨fun q => ⟨q.1, ?_⟩, fun q => ⟨q.1, ?_⟩⟩
  · rw [← b7 (Or.inl q.1)]; exact q.2
  · rw [b7 (Or.inl q.1)]; exact q.2
theorem frC_cp (h : tA σ m s c M) {p v : Int32} {T T' : Nat → Prop} (hT : ∀ k, 1 ≤ k → k < 80 → c.1 31 0 k ≠ 0 → (T k ↔ T' k)) (hv : frC (vw m) s p T v) : frC σ s p T' v := by
  have hc : ∀ k, k < 80 → isCh σ s k p → c.1 31 0 k ≠ 0 := fun k hk q => by rw [← (tA_31 h hk).1]; exact q.1
  rcases hv with ⟨q1, q2⟩ | ⟨q, q1, q2, q3, q4, q5, q6⟩
  · exact Or.inl ⟨q1, fun k k1 k2 k3 k4 => q2 k k1 k2 ((tA_ch h k k1 k2).1.mpr k3) ((hT k k1 k2 (hc k k2 k3)).mpr k4)⟩
  · have q4' := (tA_ch h q q1 q2).1.mp q4
    refine Or.inr ⟨q, q1, q2, q3, q4', (hT q q1 q2 (hc q q2 q4')).mp q5, fun k k1 k2 k3 k4 => ?_⟩
    have := q6 k k1 k2 ((tA_ch h k k1 k2).1.mpr k3) ((hT k k1 k2 (hc k k2 k3)).mpr k4)
    rw [(tA_ch h q q1 q2).2 q4', (tA_ch h k k1 k2).2 k3] at this
    exact this
/-- below what isn't there nothing is -/
theorem tA_none (h : tA σ m s c M) {p : Int32} (hd : ¬ hlds σ s p) : ∀ k, 1 ≤ k → k < 80 → ¬ isCh σ s k p := by
  intro k k1 k2 q
  have q2 := (tA_isCh h k2).1.mp q
  obtain ⟨g1, g2⟩ := h.1.2.2.2.1 k k1 k2 q2.1
  have hkM := gdT_M h.1 k2 q2.1
  obtain ⟨e1, e2⟩ := bwf_par h.1.1.1 k1 k2 hkM
  rw [q2.2] at e1
  subst e1
  refine hd ⟨⟨nI_nn (by omega), fun w => ?_⟩, ?_⟩
  · have := (nI_le' (a := 80) (by decide) (by omega)).mp w
    omega
  · rw [ix_nI (by omega), (tA_31 h (by omega)).1]
    exact g1
/-- the first child of a session, in the reference -/
theorem tA_own (h : tA σ m s c M) (hs : s < 3) (hF : 100 ≤ F) {p : Int32} {z : Nat} (hz : z < 10) : ∃ w, (if hlds σ s p then fX9_childAt F (nI s) p 0 (nI z) m else some (-100, m)) = some (w, m) ∧ frC σ s p (isOf σ (nI z)) w := by
  by_cases d : hlds σ s p
  · rw [if_pos d]
    obtain ⟨w, w1, w2⟩ := e_ownAt (F := F) (p := p) (z := nI z) (tA_rok h) (by omega) (nI_nn (by omega)) hF (tA_pos h).2
    exact ⟨w, w1, frC_cp h (fun k k1 k2 k3 => tA_isOf h k2 k3) w2⟩
  · rw [if_neg d]
    exact ⟨-100, rfl, Or.inl ⟨rfl, fun k k1 k2 k3 => absurd k3 (tA_none h d k k1 k2)⟩⟩
/-- who stands in the way, in the reference -/
theorem e_has_l {p : Int32} {z o : Nat} (h : tA σ m s c M) (hs : s < 3) (ho : o < 80) : ∀ (d t n : Nat), t + d = M → 1 ≤ t → d < n → ∃ x, fX9_has_85 F n (nI z) p (nI s) (nI o) 1 (nI t) m = fX9_has_199 F (nI z) p (nI o) x m ∧ ((x = 1 ∧ ∀ k, t ≤ k → k < M → ¬ bdF (vw m) s p o k) ∨ (x = 0 ∧ ∃ k, t ≤ k ∧ k < M ∧ bdF (vw m) s p o k)) := by
  have hM80 : M ≤ 80 := h.1.1.2.2
  have hr := tA_rok h
  intro d
  induction d with
  | zero =>
    intro t n ht h1 hn
    obtain ⟨n, rfl⟩ : ∃ k, n = k + 1 := ⟨n - 1, by omega⟩
    obtain rfl : t = M := by omega
    refine ⟨1, ?_, Or.inl ⟨rfl, fun k k1 k2 => by omega⟩⟩
    rw [fX9_has_85, nm_x, hr.1, if_pos (Int32.le_refl _)]
  | succ d ih =>
    intro t n ht h1 hn
    obtain ⟨n, rfl⟩ : ∃ k, n = k + 1 := ⟨n - 1, by omega⟩
    have ht8 : t < 80 := by omega
    have skip : ¬ bdF (vw m) s p o t → ∃ x, fX9_has_85 F n (nI z) p (nI s) (nI o) 1 (nI (t + 1)) m = fX9_has_199 F (nI z) p (nI o) x m ∧ ((x = 1 ∧ ∀ k, t ≤ k → k < M → ¬ bdF (vw m) s p o k) ∨ (x = 0 ∧ ∃ k, t ≤ k ∧ k < M ∧ bdF (vw m) s p o k)) := fun hb => by
      obtain ⟨x, x1, x2⟩ := ih (t + 1) n (by omega) (by omega) (by omega)
      refine ⟨x, x1, ?_⟩
      rcases x2 with ⟨y1, y2⟩ | ⟨y1, k, y2, y3, y4⟩
      · refine Or.inl ⟨y1, fun k k1 k2 => ?_⟩
        by_cases e : k = t
        · rw [e]; exact hb
        · exact y2 k (by omega) k2
      · exact Or.inr ⟨y1, k, by omega, y3, y4⟩
    rw [fX9_has_85, nm_x, hr.1, if_neg (fun w => by have := (nI_le' (by omega) (by omega)).mp w; omega), if_neg (show ¬ (1 : Int32) = 0 by decide)]
    repeat rw [nm_x]
    rw [nI_80, ldi_nI (by omega) i400]
    unfold fX9_has_147 fX9_has_148 fX9_has_186 fX9_has_190 fX9_has_191
    rw [if_pos rfl, nm_x, nI_1]
    by_cases c1 : m.1 108 0 (80 * s + t) = 1
    · rw [if_pos c1, ldi_nI ht8 i80']
      by_cases c2 : m.1 100 0 t = p
      · rw [if_pos c2, ldi_nI ht8 i80', ldi_nI ho i80']
        have hch : isCh (vw m) s t p := ⟨by rw [vw31, c1]; decide, by rw [vw2]; exact c2⟩
        by_cases c3 : m.1 101 0 o ≤ m.1 101 0 t
        · rw [if_pos c3]
          exact skip (fun q => q.2.1 (by rw [vw3]; exact c3))
        · rw [if_neg c3, if_neg (show ¬ (1 : Int32) = 0 by decide)]
          repeat rw [nm_x]
          rw [nI_80, nI_80, ldi_nI (by omega) i400]
          have hblk : ¬ (m.1 109 0 (80 * s + o) = 1 ∧ m.1 109 0 (80 * s + t) ≠ 0) → bdF (vw m) s p o t := fun q => ⟨hch, by rw [vw3]; exact c3, by rw [vw32, vw32]; exact q⟩
          have stop : bdF (vw m) s p o t → ∃ x, fX9_has_85 F n (nI z) p (nI s) (nI o) 0 (nI (t + 1)) m = fX9_has_199 F (nI z) p (nI o) x m ∧ ((x = 1 ∧ ∀ k, t ≤ k → k < M → ¬ bdF (vw m) s p o k) ∨ (x = 0 ∧ ∃ k, t ≤ k ∧ k < M ∧ bdF (vw m) s p o k)) := fun hb => by
            refine ⟨0, ?_, Or.inr ⟨rfl, t, Nat.le_refl _, by omega, hb⟩⟩
            obtain ⟨n, rfl⟩ : ∃ k, n = k + 1 := ⟨n - 1, by omega⟩
            rw [fX9_has_85, nm_x, if_pos rfl, ite_self]
          by_cases c4 : m.1 109 0 (80 * s + o) = 1
          · rw [if_pos c4, ldi_nI (by omega) i400]
            by_cases c5 : m.1 109 0 (80 * s + t) = 0
            · rw [if_pos c5]
              exact stop (hblk (fun q => q.2 c5))
            · rw [if_neg c5]
              exact skip (fun q => q.2.2 ⟨by rw [vw32]; exact c4, by rw [vw32]; exact c5⟩)
          · rw [if_neg c4]
            exact stop (hblk (fun q => c4 q.1))
      · rw [if_neg c2]
        exact skip (fun q => c2 (by have := q.1.2; rw [vw2] at this; exact this))
    · rw [if_neg c1]
      exact skip (fun q => c1 (by
        have := (rok_1 hr ht8).mpr q.1.1
        rw [vw31] at this
        exact this))
theorem e_has199 {p x5 : Int32} {z : Nat} {w : Int32} (hz : z < 10) (hx : x5 = 0 ∨ x5 = 1) : ∃ m', fX9_has_199 F (nI z) p w x5 m = fX9_has_231 F w x5 m' ∧ bmS m m' z (fun k => p = nI k) x5 := by
  unfold fX9_has_199 fX9_has_230
  rw [e_in, bnd2_s]
  by_cases cc : ¬ p < 0 ∧ ¬ 79 < p
  · have c8 : ¬ p < 0 ∧ ¬ 80 ≤ p := ⟨cc.1, fun q => cc.2 (Int32.lt_of_lt_of_le (by decide) q)⟩
    obtain ⟨a, ha, h31, rfl⟩ := in_ex (vp_in_80.mpr c8)
    rw [b2_t cc, if_neg (show ¬ (1 : Int32) = 0 by decide)]
    repeat rw [nm_x]
    rw [nI_80, inx_nI (by omega) (by decide), ix_nI (by omega)]
    have fin : ∀ v, v = x5 → ∃ m', (nm (qI m 147 0 (80 * z + a) v) fun s26 => fX9_has_231 F w x5 s26) = fX9_has_231 F w x5 m' ∧ bmS m m' z (fun k => nI a = nI k) x5 := fun v hv => by
      subst hv
      refine ⟨_, rfl, rfl, fun f j q w => by rw [qI_ap, if_neg (by omega)], fun q w => by rw [qI_ap, if_neg (by omega)], fun k hk => ?_⟩
      by_cases e : k = a
      · subst e
        rw [qI_ap, if_pos ⟨rfl, rfl, rfl⟩, if_pos rfl]
      · rw [qI_ap, if_neg (by omega), if_neg (fun q => e (nI_inj (by omega) h31 q.symm))]
    rcases hx with rfl | rfl
    · rw [if_pos rfl]
      exact fin 0 rfl
    · rw [if_neg (show ¬ (1 : Int32) = 0 by decide)]
      first
        | exact fin 1 rfl
        | rw [inx_nI (by omega) (by decide)]; exact fin 1 rfl
  · rw [b2_f cc, if_pos rfl]
    refine ⟨m, rfl, rfl, fun _ _ _ _ => rfl, fun _ _ => rfl, fun k hk => ?_⟩
    rw [if_neg (fun q => ?_)]
    rw [q] at cc
    refine cc ⟨nI_nn (by omega), fun w => ?_⟩
    have := (nI_lt' (a := 79) (by decide) (by omega)).mp w
    omega
end LO
section HA
variable {F : Nat}
theorem c_has (hF : 100000 ≤ F) : cI_has F kI phi := by
  intro n σ m p x hn h
  obtain ⟨h48, h10, hZ⟩ := kI_Z h
  unfold fX8_has fX9_has
  by_cases hp : ∃ z, z < σ.2 0 0 ∧ p = nI z
  · obtain ⟨z, hz, rfl⟩ := hp
    have hz10 : z < 10 := by omega
    rw [e_known1 hz h10, bnd3_s0, e_ses1 h48 hz h10, bnd2_s, if_neg (show ¬ (1 : Int32) = 0 by decide)]
    unfold fX9_has_26
    rcases wk (F := F) h (by omega) hz (by omega) with ⟨s1, m1, w1, w2, w3, w4, w5⟩ | ⟨w1, w2, w3, w4, w5, w6, w7, w8⟩
    · rw [w2, bnd3_se (by decide), w3, bnd2_s, if_neg (show ¬ (1 : Int32) = 0 by decide), e_h1 (by decide), bnd2_s, if_neg (show ¬ (1 : Int32) = 0 by decide)]
      exact lC_t rfl (by decide) w4 (by omega) w5 rfl
    · have l135 : (lsM m z).1 135 0 z = 0 := by rw [lsM_o (by omega) (by omega)]; exact w4
      obtain ⟨s3, s2, -⟩ := kI_srv w6 hz l135
      have hz' : z < (lsC σ z).2 0 0 := hz
      obtain ⟨c, M, ht⟩ := kI_tree w6 s3
      obtain ⟨-, -, hZ'⟩ := kI_Z w6
      have r0 := (hZ' z hz').1.1
      have h6 : nn6 (lsC σ z) := by
        obtain ⟨C, π, M, S, L, Z, Y, T, cmp, hk, hR, hlo, h6, -⟩ := w6
        exact h6
      have hM80 : M ≤ 80 := ht.1.1.2.2
      have hM1 : 1 ≤ M := ht.1.1.2.1
      obtain ⟨v, w, f1, f2, f3⟩ := e_fenceOf (F := F) (p := x) (z := nI z) (tA_dst ht) (tA_pos ht).1 (by omega) (by omega)
      obtain ⟨w', g1, g2⟩ := tA_own (F := F) (p := x) ht s3 (by omega) hz10
      have ew : w' = w := frC_one (tA_dst ht) g2 f2
      subst ew
      -- what the reference finds
      have ref : ∃ x5, (x5 = 0 ∨ x5 = 1) ∧ fX9_has_68 F (nI z) x (nI ((lsC σ z).2 2 z)) w' (lsM m z) = fX9_has_199 F (nI z) x w' x5 (lsM m z) ∧ ((x5 = 0 ∧ v = -100) ∨ (x5 = 1 ∧ v ≠ -100 ∧ ∃ o, o < 80 ∧ w' = nI o ∧ v = (lsM m z).1 104 0 o)) := by
        unfold fX9_has_68 fX9_has_80
        rcases f3 with ⟨e1, e2⟩ | ⟨o, o1, o2, e1, e2⟩
        · rw [e1, if_pos (by decide)]
          refine ⟨0, Or.inl rfl, ?_, Or.inl ⟨rfl, e2⟩⟩
          obtain ⟨k, rfl⟩ : ∃ k, F = k + 1 := ⟨F - 1, by omega⟩
          rw [fX9_has_85, nm_x, if_pos rfl, ite_self]
        · rw [e1, if_neg (nI_nn (by omega))]
          obtain ⟨x5, y1, y2⟩ := e_has_l (F := F) (p := x) (z := z) (o := o) ht s3 o2 (M - 1) 1 F (by omega) (by omega) (by omega)
          have hoC : c.1 31 0 o ≠ 0 := by
            rcases f2 with ⟨q, -⟩ | ⟨q, q1, q2, q3, q4, -⟩
            · rw [q] at e1
              exact absurd (show (-100 : Int32) < 0 by decide) (by rw [e1]; exact nI_nn (by omega))
            · have : q = o := nI_inj (by omega) (by omega) (q3.symm.trans e1)
              subst this
              rw [← (tA_31 ht q2).1]
              exact q4.1
          obtain ⟨b1, b2, b3, b4, b5, b6, b7⟩ := tA_b ht o2 hoC
          have hbd : ∀ k, 1 ≤ k → k < 80 → (bdF (vw (lsM m z)) ((lsC σ z).2 2 z) x o k ↔ bdF (lsC σ z) ((lsC σ z).2 2 z) x o k) := fun k k1 k2 => by
            unfold bdF
            by_cases q : isCh (lsC σ z) ((lsC σ z).2 2 z) k x
            · have hk : c.1 31 0 k ≠ 0 := by rw [← (tA_31 ht k2).1]; exact q.1
              have q' := (tA_ch ht k k1 k2).1.mpr q
              rw [vw3, b4, (tA_b ht k2 hk).2.2.2.1, vw32, vw32, (ht.2.2.2.1 o o2).2.1, (ht.2.2.2.1 k k2).2.1, ht.2.2.1 32 o (by decide) (by decide) o2, ht.2.2.1 32 k (by decide) (by decide) k2]
              exact ⟨fun w => ⟨q, w.2⟩, fun w => ⟨q', w.2⟩⟩
            · exact ⟨fun w => absurd ((tA_ch ht k k1 k2).1.mp w.1) q, fun w => absurd w.1 q⟩
          have hv6 : (lsC σ z).1 6 0 o ≠ -100 := fun w => by
            obtain ⟨y, y1, y2⟩ := h6 o o2
            rw [y2] at w
            exact absurd (show (-100 : Int32) < 0 by decide) (by rw [← w]; exact nI_nn y1)
          refine ⟨x5, ?_, y1, ?_⟩
          · rcases y2 with q | q
            · exact Or.inr q.1
            · exact Or.inl q.1
          · rcases y2 with ⟨q1, q2⟩ | ⟨q1, k, q2, q3, q4⟩
            · rcases e2 with ⟨e3, k, k1, k2, k3⟩ | ⟨e3, e4⟩
              · have hkM : k < M := gdT_M ht.1 k2 (by rw [← (tA_31 ht k2).1]; exact k3.1.1)
                exact absurd ((hbd k k1 k2).mpr k3) (q2 k k1 hkM)
              · exact Or.inr ⟨q1, by rw [e3]; exact hv6, o, o2, rfl, by rw [e3, b6]⟩
            · rcases e2 with ⟨e3, -⟩ | ⟨e3, e4⟩
              · exact Or.inl ⟨q1, e3⟩
              · exact absurd ((hbd k q2 (by omega)).mp q4) (e4 k q2 (by omega))
      obtain ⟨x5, x50, r1, r2⟩ := ref
      obtain ⟨m', r3, r4⟩ := e_has199 (F := F) (m := lsM m z) (p := x) (x5 := x5) (w := w') hz10 x50
      have href : (bnd2 (fX9_isThere F (nI ((lsC σ z).2 2 z)) x (lsM m z)) fun v13 s12 => (if v13 = 0 then (fX9_has_68 F (nI z) x (nI ((lsC σ z).2 2 z)) ((-100)) s12) else (bnd2 (fX9_childAt F (nI ((lsC σ z).2 2 z)) x 0 (nI z) s12) fun v48 s47 => (fX9_has_68 F (nI z) x (nI ((lsC σ z).2 2 z)) v48 s47)))) = fX9_has_231 F w' x5 m' := by
        rw [e_isThere (tA_rok ht) (by omega), bnd2_s, ← r3, ← r1]
        by_cases d : hlds (lsC σ z) ((lsC σ z).2 2 z) x
        · rw [if_pos d] at g1
          rw [b2_t ((tA_hl ht).mpr d), if_neg (show ¬ (1 : Int32) = 0 by decide), g1, bnd2_s]
        · rw [if_neg d] at g1
          cases g1
          rw [b2_f (fun q => d ((tA_hl ht).mp q)), if_pos rfl]
      rw [w2, bnd3_s0, w3, bnd2_s, if_pos rfl, e_h0, bnd2_s, if_pos rfl, w5, bnd_s, gnl_pos hz', nm_x, gnl_pos s3, gnl_pos (by omega), f1, bnd2_s, ldi_nI hz10 (by decide), s2, href]
      unfold fX8_has_40 fX9_has_231 fX9_has_248
      have bel : ∀ u : Int32, ((u = 0 ∧ x5 = 0) ∨ (u = 1 ∧ x5 = 1)) → ∃ s', fX8_believe F z x u (lsC σ z) = some s' ∧ kI n s' m' ∧ s'.2 = σ.2 := fun u hu => by
        obtain ⟨s', b1, b2⟩ := e_believe (F := F) (p := x) (v := u) hz' hz10 r0
        refine ⟨s', b1, kI_bel w6 (by omega) hz' b2 r4 ?_, b2.1.trans rfl⟩
        rcases hu with ⟨rfl, e⟩ | ⟨rfl, e⟩
        · rw [e]; rfl
        · rw [e]; rfl
      have e57 : m'.1 0 0 57 = 0 := by rw [r4.2.1 0 0 57 (by omega)]; exact ls57
      rcases r2 with ⟨e1, e2⟩ | ⟨e1, e2, o, o1, o2, o3⟩
      · obtain ⟨s', b1, b2, b3⟩ := bel 0 (Or.inl ⟨rfl, e1⟩)
        rw [if_pos e2, b1, bnd_s, if_pos e1, e2]
        exact lC_o rfl (kI_mono b2 (Nat.le_succ n)) e57 (by rw [phi_N b3]; omega)
      · obtain ⟨s', b1, b2, b3⟩ := bel 1 (Or.inr ⟨rfl, e1⟩)
        rw [if_neg e2, b1, bnd_s, if_neg (show ¬ x5 = 0 by rw [e1]; decide), o2, ldi_nI o1 i80', r4.2.1 104 0 o (by omega), ← o3]
        exact lC_o rfl (kI_mono b2 (Nat.le_succ n)) e57 (by rw [phi_N b3]; omega)
  · rw [e_known0 h10 hp, bnd3_se (by decide), e_ses0 h48 h10 hp, bnd2_s, if_pos rfl]
    unfold fX9_has_26
    rw [e_h1 (by decide), bnd2_s, if_neg (show ¬ (1 : Int32) = 0 by decide)]
    exact lC_t rfl (by decide) h (by omega) rfl rfl
end HA

/-! PURE: what is read, in both; quotas -/
/-- a server's tree, in both -/
def tA (σ m : qS) (s : Nat) (c : qS) (M : Nat) : Prop := gdT c M ∧ bEq M c σ ∧ tEq σ s c 0 ∧ rEq m s (fun f k => c.1 f 0 k) ∧ kBr σ m M
theorem kI_tree {n s : Nat} {σ m : qS} (h : kI n σ m) (hs : s < 3) : ∃ c M, tA σ m s c M := by
  obtain ⟨C, π, M, S, L, Z, Y, T, cmp, hk, -⟩ := h
  by_cases c : s = 0
  · subst c
    obtain ⟨g0, g1⟩ := kA_here hk.1
    exact ⟨C S, M, g0, g1, hk.1.2.2.1, hk.1.2.2.2.1, hk.1.2.1⟩
  · obtain ⟨v1, v2, v3, v4, v5, v6, v7, v8, v9⟩ := hk.2.1 s hs
    obtain ⟨g0, g1⟩ := hk.1.1.2.2.2 (stN σ s) v5
    exact ⟨C (stN σ s), M, g0, g1, (v8 (by omega)).1, (v8 (by omega)).2, hk.1.2.1⟩
section TA
variable {F s M : Nat} {σ m c : qS}
theorem tA_31 (h : tA σ m s c M) {k : Nat} (hk : k < 80) : σ.1 31 s k = c.1 31 0 k ∧ (vw m).1 31 s k = c.1 31 0 k :=
  ⟨h.2.2.1 31 k (by decide) (by decide) hk, by rw [vw31]; exact (h.2.2.2.1 k hk).1⟩
theorem tA_rok (h : tA σ m s c M) : rok m s M :=
  ⟨h.2.2.2.2.2.1, h.2.2.2.2.2.2.2.1, h.2.2.2.2.2.2.2.2.1, fun k hk => by rw [(tA_31 h hk).2]; exact h.1.2.1 k hk⟩
theorem tA_b (h : tA σ m s c M) {k : Nat} (hk : k < 80) (hh : c.1 31 0 k ≠ 0) : k < M ∧ (∀ f, 2 ≤ f → f ≤ 6 → σ.1 f 0 k = c.1 f 0 k) ∧ m.1 100 0 k = σ.1 2 0 k ∧ m.1 101 0 k = σ.1 3 0 k ∧ m.1 102 0 k = σ.1 4 0 k ∧ m.1 104 0 k = σ.1 6 0 k ∧ (isHd σ k → m.1 103 0 k = σ.1 5 0 k) := by
  have hM := gdT_M h.1 hk hh
  exact ⟨hM, fun f w1 w2 => (h.2.1 f k w1 w2 hM hk).symm, h.2.2.2.2.2.2.2.2.2 k hk hM⟩
theorem tA_isCh (h : tA σ m s c M) {k : Nat} {p : Int32} (hk : k < 80) : (isCh σ s k p ↔ isCh c 0 k p) ∧ (isCh (vw m) s k p ↔ isCh c 0 k p) := by
  obtain ⟨e1, e2⟩ := tA_31 h hk
  unfold isCh
  rw [e1, e2, vw2]
  refine ⟨⟨fun q => ⟨q.1, ?_⟩, fun q => ⟨q.1, ?_⟩⟩, ⟨fun q => ⟨q.1, ?_⟩, fun q => ⟨q.1, ?_⟩⟩⟩
  · rw [← (tA_b h hk q.1).2.1 2 (by decide) (by decide)]; exact q.2
  · rw [(tA_b h hk q.1).2.1 2 (by decide) (by decide)]; exact q.2
  · rw [← (tA_b h hk q.1).2.1 2 (by decide) (by decide), ← (tA_b h hk q.1).2.2.1]; exact q.2
  · rw [(tA_b h hk q.1).2.2.1, (tA_b h hk q.1).2.1 2 (by decide) (by decide)]; exact q.2
theorem tA_hl (h : tA σ m s c M) {p : Int32} : hlds (vw m) s p ↔ hlds σ s p := by
  unfold hlds
  by_cases c8 : ¬ p < 0 ∧ ¬ 80 ≤ p
  · rw [(tA_31 h (in80 c8).1).1, (tA_31 h (in80 c8).1).2]
  · exact ⟨fun q => absurd q.1 c8, fun q => absurd q.1 c8⟩
theorem tA_rd (h : tA σ m s c M) {k p : Nat} (hk : k < 80) (hp : p < 4) : bit1 (σ.1 36 s k) (nI p) ↔ bit1 (m.1 113 0 (80 * s + k)) (nI p) := by
  obtain ⟨-, -, -, -, -, x, y, x1, y1, e1, e2, e3⟩ := h.2.2.2.1 k hk
  replace e3 : c.1 36 0 k = nI (x + 16 * y) := e3
  rw [h.2.2.1 36 k (by decide) (by decide) hk, e3, e1]
  exact bit_rd x x1 y y1 p hp
theorem tA_nCh (h : tA σ m s c M) {p : Int32} : nCh (vw m) s p = nCh σ s p := nCh_congr (fun k k1 k2 => (tA_isCh h k2).2.trans (tA_isCh h k2).1.symm)
theorem tA_sees (h : tA σ m s c M) (hs : s < 3) {z p : Nat} {x : Int32} (hz : z < 10) (e132 : m.1 132 0 z = nI s) (e131 : m.1 131 0 z = nI p) (hp : p < 4) : ∃ v, fX7_readingRefused F s x (nI p) σ = some (v, σ) ∧ fX9_sees F (nI z) x m = some (v, m) ∧ (0 ≤ v → ∃ a, a < 80 ∧ x = nI a ∧ c.1 31 0 a ≠ 0) := by
  rw [e_readingRefused (by omega)]
  unfold fX9_sees fX9_sees_50
  rw [ldi_nI hz (by decide), e132, e_isThere (tA_rok h) (by omega), bnd2_s]
  by_cases d : hlds σ s x
  · obtain ⟨a, ha, rfl, hh⟩ := hl_ex d
    rw [if_pos d, b2_t ((tA_hl h).mpr d), if_neg (show ¬ (1 : Int32) = 0 by decide)]
    repeat rw [nm_x]
    rw [nI_80, ldi_nI (by omega) i400, ldi_nI hz (by decide), e131, e_may, bnd2_s, ix_nI (by omega)]
    have hc : c.1 31 0 a ≠ 0 := by rw [← (tA_31 h ha).1]; exact hh
    by_cases e : bit1 (σ.1 36 s a) (nI p)
    · rw [if_pos e, b2_t ((tA_rd h ha hp).mp e), if_neg (show ¬ (1 : Int32) = 0 by decide)]
      exact ⟨0, rfl, rfl, fun _ => ⟨a, ha, rfl, hc⟩⟩
    · rw [if_neg e, b2_f (fun q => e ((tA_rd h ha hp).mpr q)), if_pos rfl]
      exact ⟨-2, rfl, rfl, fun q => absurd q (by decide)⟩
  · rw [if_neg d, b2_f (fun q => d ((tA_hl h).mp q)), if_pos rfl]
    exact ⟨-1, rfl, rfl, fun q => absurd q (by decide)⟩
/-! children by names are the same -/
theorem nxF_congr {a b : qS} {i j : Nat} {p low : Int32} {t : Nat} {x : Int32} (k1 : isCh b j t p ↔ isCh a i t p) (k2 : isCh a i t p → b.1 3 0 t = a.1 3 0 t) (hx : x < 0 ∨ b.1 3 0 x.toNatClampNeg = a.1 3 0 x.toNatClampNeg) : nxF b j p low t x = nxF a i p low t x := by
  unfold nxF
  by_cases c : isCh a i t p
  · have c' := k1.mpr c
    rw [k2 c]
    have ex : (x < 0 ∨ ¬ b.1 3 0 x.toNatClampNeg ≤ a.1 3 0 t) ↔ (x < 0 ∨ ¬ a.1 3 0 x.toNatClampNeg ≤ a.1 3 0 t) := by
      rcases hx with q | q
      · exact ⟨fun _ => Or.inl q, fun _ => Or.inl q⟩
      · rw [q]
    by_cases c2 : ¬ a.1 3 0 t ≤ low ∧ (x < 0 ∨ ¬ a.1 3 0 x.toNatClampNeg ≤ a.1 3 0 t)
    · rw [if_pos ⟨c', c2.1, ex.mpr c2.2⟩, if_pos ⟨c, c2⟩]
    · rw [if_neg (fun q => c2 ⟨q.2.1, ex.mp q.2.2⟩), if_neg (fun q => c2 q.2)]
  · rw [if_neg (fun q => c (k1.mp q.1)), if_neg (fun q => c q.1)]
theorem nxF_in {a : qS} {i : Nat} {p low : Int32} {t : Nat} {x : Int32} {P : Int32 → Prop} (hx : P x) (ht : isCh a i t p → P (nI t)) : P (nxF a i p low t x) := by
  unfold nxF
  by_cases c : isCh a i t p ∧ ¬ a.1 3 0 t ≤ low ∧ (x < 0 ∨ ¬ a.1 3 0 x.toNatClampNeg ≤ a.1 3 0 t)
  · rw [if_pos c]; exact ht c.1
  · rw [if_neg c]; exact hx
theorem nxR_congr {a b : qS} {i j : Nat} {p low : Int32} (h : ∀ k, 1 ≤ k → k < 80 → (isCh b j k p ↔ isCh a i k p) ∧ (isCh a i k p → b.1 3 0 k = a.1 3 0 k)) : ∀ d t (x : Int32), 1 ≤ t → t + d ≤ 80 → (x < 0 ∨ b.1 3 0 x.toNatClampNeg = a.1 3 0 x.toNatClampNeg) → rng (nxF b j p low) t d x = rng (nxF a i p low) t d x := by
  intro d
  induction d with
  | zero => intro t x _ _ _; exact (Eq.refl x : x = x)
  | succ d ih =>
    intro t x h1 h2 hx
    have k := h t h1 (by omega)
    have e := nxF_congr (low := low) k.1 k.2 hx
    show rng (nxF b j p low) (t + 1) d (nxF b j p low t x) = rng (nxF a i p low) (t + 1) d (nxF a i p low t x)
    rw [e]
    have h8 : t < 2 ^ 31 := by omega
    have g : isCh a i t p → (nI t < 0 ∨ b.1 3 0 (nI t).toNatClampNeg = a.1 3 0 (nI t).toNatClampNeg) := fun c => Or.inr (by rw [ix_nI h8]; exact k.2 c)
    have y := nxF_in (low := low) (P := fun x => x < 0 ∨ b.1 3 0 x.toNatClampNeg = a.1 3 0 x.toNatClampNeg) hx g
    exact ih (t + 1) _ (by omega) (by omega) y
theorem nxC_congr {a b : qS} {i j : Nat} {p low : Int32} (h : ∀ k, 1 ≤ k → k < 80 → (isCh b j k p ↔ isCh a i k p) ∧ (isCh a i k p → b.1 3 0 k = a.1 3 0 k)) : nxC b j p low = nxC a i p low :=
  nxR_congr h 79 1 (-100) (Nat.le_refl _) (Nat.le_refl _) (Or.inl (by decide))
theorem sqC_congr {a b : qS} {i j : Nat} {p : Int32} (h : ∀ k, 1 ≤ k → k < 80 → (isCh b j k p ↔ isCh a i k p) ∧ (isCh a i k p → b.1 3 0 k = a.1 3 0 k)) : ∀ x, sqC b j p x = sqC a i p x
  | 0 => nxC_congr h
  | x + 1 => by
    have e := sqC_congr h x
    rw [sqC, sqC, e]
    by_cases c : sqC a i p x ≤ 0
    · rw [if_pos c, if_pos c]
    · rw [if_neg c, if_neg c]
      rcases sqC_cases (σ := a) (i := i) (p := p) x with q | ⟨q, q1, q2, q3, q4, q5⟩
      · exact absurd (by rw [q]; decide) c
      · rw [q3, ix_nI (by omega), (h q q1 q2).2 q4]
        exact nxC_congr h
theorem tA_ch (h : tA σ m s c M) {p : Int32} : ∀ k, 1 ≤ k → k < 80 → (isCh (vw m) s k p ↔ isCh σ s k p) ∧ (isCh σ s k p → (vw m).1 3 0 k = σ.1 3 0 k) := fun k k1 k2 =>
  ⟨(tA_isCh h k2).2.trans (tA_isCh h k2).1.symm, fun q => by
    have hc : c.1 31 0 k ≠ 0 := by rw [← (tA_31 h k2).1]; exact q.1
    rw [vw3]
    exact (tA_b h k2 hc).2.2.2.1⟩
end TA
section RE
variable {F : Nat}
theorem c_read (hF : 100000 ≤ F) : cI_read F kI phi := by
  intro n σ m p x w hn h
  obtain ⟨h48, h10, hZ⟩ := kI_Z h
  unfold fX8_read fX9_read fX8_read_74
  have thr : ∀ (σ' m' : qS) (v : Int32) (e : Nat) (c : Int32), (e = 1 ∧ c = 1) ∨ (e = 2 ∧ c = 2) ∨ (e = 3 ∧ c = 3) → kI n σ' m' → σ'.2 = σ.2 → lC F kI phi (fun e => if e = 0 then 0 else if e = 1 then 1 else if e = 2 then 2 else if e = 3 then 3 else 0) n σ (some (v, e, σ')) (fX9_read_41 F p x w c m') (fun _ => 0) := fun σ' m' v e c hec hk hN => by
    unfold fX9_read_41
    rcases hec with ⟨rfl, rfl⟩ | ⟨rfl, rfl⟩ | ⟨rfl, rfl⟩
    all_goals
      rw [e_h1 (by decide), bnd2_s, if_neg (show ¬ (1 : Int32) = 0 by decide)]
      exact lC_t rfl (by decide) hk (by omega) hN rfl
  by_cases hp : ∃ z, z < σ.2 0 0 ∧ p = nI z
  · obtain ⟨z, hz, rfl⟩ := hp
    have hz10 : z < 10 := by omega
    rw [e_known1 hz h10, bnd3_s0, e_ses1 h48 hz h10, bnd2_s, if_neg (show ¬ (1 : Int32) = 0 by decide), e_isWithin, bnd2_s, e_in, bnd2_s]
    by_cases c1 : ¬ w < 0 ∧ ¬ 9 < w
    · rw [b2_t c1, if_neg (show ¬ (1 : Int32) = 0 by decide), if_neg (show ¬ (1 : Int32) = 0 by decide)]
      rcases wk (F := F) h (by omega) hz (by omega) with ⟨s1, m1, w1, w2, w3, w4, w5⟩ | ⟨w1, w2, w3, w4, w5, w6, w7, w8⟩
      · rw [w2, bnd3_se (by decide), w3, bnd2_s, if_neg (show ¬ (1 : Int32) = 0 by decide)]
        exact thr _ _ _ 3 3 (Or.inr (Or.inr ⟨rfl, rfl⟩)) w4 w5
      · obtain ⟨s3, s2, -⟩ := kI_srv w6 hz (by rw [lsM_o (by omega) (by omega)]; exact w4)
        obtain ⟨-, -, hZ'⟩ := kI_Z w6
        obtain ⟨⟨q1, ⟨pp, p4, p1, p2⟩, -⟩, -⟩ := hZ' z hz
        obtain ⟨c, M, ht⟩ := kI_tree w6 s3
        rw [w2, bnd3_s0, w3, bnd2_s, if_pos rfl]
        unfold fX9_read_41
        have hz' : z < (lsC σ z).2 0 0 := hz
        rw [e_h0, bnd2_s, if_pos rfl, w5, bnd_s, gnl_pos hz', nm_x, gnl_pos s3, gnl_pos hz', nm_x, gnl_pos (by omega), p1]
        obtain ⟨v, a1, a2, a3⟩ := tA_sees (F := F) (x := x) ht s3 hz10 s2 p2 p4
        rw [a1, a2, bnd2_s, bnd2_s]
        have fin : ∀ v, lC F kI phi (fun e => if e = 0 then 0 else if e = 1 then 1 else if e = 2 then 2 else if e = 3 then 3 else 0) n σ (some (v, 0, lsC σ z)) (some (v, lsM m z)) (fun _ => 0) := fun v => lC_o rfl (kI_mono w6 (Nat.le_succ n)) ls57 (by rw [phi_N (show (lsC σ z).2 = σ.2 from rfl)]; omega)
        by_cases c2 : 0 ≤ v
        · obtain ⟨a, ha, rfl, hc⟩ := a3 c2
          obtain ⟨b1, b2, b3, b4, b5, b6, b7⟩ := tA_b ht ha hc
          obtain ⟨r1, r2, r3, r4, r5, rx, ry, x1, y1, r6, r7, r8⟩ := ht.2.2.2.1 a ha
          have tt : ∀ f, 31 ≤ f → f ≤ 37 → (lsC σ z).1 f ((lsC σ z).2 2 z) a = c.1 f 0 a := fun f k1 k2 => ht.2.2.1 f a k1 k2 ha
          rw [if_pos c2, if_pos c2, gnl_pos (by omega), e_told (by omega) (by omega) ha, bnd2_s, ldi_nI hz10 (by decide), s2]
          repeat rw [nm_x]
          rw [nI_80]
          unfold tolV
          by_cases d0 : w = 0
          · rw [if_pos d0, if_pos d0, ldi_nI (by omega) i400, r2, tt 32 (by decide) (by decide)]; exact fin _
          rw [if_neg d0, if_neg d0]
          by_cases d1 : w = 1
          · rw [if_pos d1, if_pos d1, ldi_nI (by omega) i400, r3, tt 33 (by decide) (by decide)]; exact fin _
          rw [if_neg d1, if_neg d1]
          by_cases d2 : w = 2
          · rw [if_pos d2, if_pos d2, ldi_nI (by omega) i400, r4, tt 34 (by decide) (by decide)]; exact fin _
          rw [if_neg d2, if_neg d2]
          by_cases d3 : w = 3
          · rw [if_pos d3, if_pos d3, ldi_nI (by omega) i400, r5, tt 35 (by decide) (by decide)]; exact fin _
          rw [if_neg d3, if_neg d3]
          by_cases d4 : w = 4
          · rw [if_pos d4, if_pos d4, ldi_nI ha i80', b3]; exact fin _
          rw [if_neg d4, if_neg d4]
          by_cases d5 : w = 5
          · rw [if_pos d5, if_pos d5, ldi_nI ha i80', b4]; exact fin _
          rw [if_neg d5, if_neg d5]
          by_cases d6 : w = 6
          · rw [if_pos d6, if_pos d6, ldi_nI hz10 (by decide), s2, e_children (tA_rok ht) (by omega) (by omega), bnd2_s, tA_nCh ht]; exact fin _
          rw [if_neg d6, if_neg d6]
          by_cases d7 : w = 7
          · rw [if_pos d7, if_pos d7, ldi_nI ha i80', b5]; exact fin _
          rw [if_neg d7, if_neg d7]
          by_cases d8 : w = 8
          · rw [if_pos d8, if_pos d8, ldi_nI ha i80', b6]; exact fin _
          replace r8 : c.1 36 0 a = nI (rx + 16 * ry) := r8
          rw [if_neg d8, if_neg d8, ldi_nI (by omega) i400, ldi_nI (by omega) i400]
          repeat rw [nm_x]
          rw [r6, r7, show nI rx + 16 * nI ry = nI (rx + 16 * ry) from by rw [show (16 : Int32) = nI 16 from rfl, nI_mul, nI_add], tt 36 (by decide) (by decide), r8]
          exact fin _
        · rw [if_neg c2, if_neg c2]
          exact fin _
    · rw [b2_f c1, if_pos rfl, if_pos rfl]
      exact thr _ _ _ 2 2 (Or.inr (Or.inl ⟨rfl, rfl⟩)) h rfl
  · rw [e_known0 h10 hp, bnd3_se (by decide), e_ses0 h48 h10 hp, bnd2_s, if_pos rfl]
    exact thr _ _ _ 1 1 (Or.inl ⟨rfl, rfl⟩) h rfl
theorem c_child (hF : 100000 ≤ F) : cI_child F kI phi := by
  intro n σ m p x w hn h
  obtain ⟨h48, h10, hZ⟩ := kI_Z h
  unfold fX8_child fX9_child fX8_child_68 fX9_child_13
  have thr : ∀ (σ' m' : qS) (v : Int32) (e : Nat) (c : Int32), (e = 1 ∧ c = 1) ∨ (e = 3 ∧ c = 2) → kI n σ' m' → σ'.2 = σ.2 → lC F kI phi (fun e => if e = 0 then 0 else if e = 1 then 1 else if e = 3 then 2 else 0) n σ (some (v, e, σ')) (fX9_child_30 F p x w c m') (fun _ => 0) := fun σ' m' v e c hec hk hN => by
    unfold fX9_child_30
    rcases hec with ⟨rfl, rfl⟩ | ⟨rfl, rfl⟩
    all_goals
      rw [e_h1 (by decide), bnd2_s, if_neg (show ¬ (1 : Int32) = 0 by decide)]
      exact lC_t rfl (by decide) hk (by omega) hN rfl
  by_cases hp : ∃ z, z < σ.2 0 0 ∧ p = nI z
  · obtain ⟨z, hz, rfl⟩ := hp
    have hz10 : z < 10 := by omega
    rw [e_known1 hz h10, bnd3_s0, e_ses1 h48 hz h10, bnd2_s, if_neg (show ¬ (1 : Int32) = 0 by decide)]
    by_cases c1 : 0 ≤ w
    · rw [if_pos c1, if_pos c1]
      rcases wk (F := F) h (by omega) hz (by omega) with ⟨s1, m1, w1, w2, w3, w4, w5⟩ | ⟨w1, w2, w3, w4, w5, w6, w7, w8⟩
      · rw [w2, bnd3_se (by decide), w3, bnd2_s, if_neg (show ¬ (1 : Int32) = 0 by decide)]
        exact thr _ _ _ 3 2 (Or.inr ⟨rfl, rfl⟩) w4 w5
      · obtain ⟨s3, s2, -⟩ := kI_srv w6 hz (by rw [lsM_o (by omega) (by omega)]; exact w4)
        obtain ⟨-, -, hZ'⟩ := kI_Z w6
        obtain ⟨⟨q1, ⟨pp, p4, p1, p2⟩, -⟩, -⟩ := hZ' z hz
        obtain ⟨c, M, ht⟩ := kI_tree w6 s3
        rw [w2, bnd3_s0, w3, bnd2_s, if_pos rfl]
        unfold fX9_child_30 fX9_child_74
        have hz' : z < (lsC σ z).2 0 0 := hz
        rw [e_h0, bnd2_s, if_pos rfl, w5, bnd_s, gnl_pos hz', nm_x, gnl_pos s3, gnl_pos hz', nm_x, gnl_pos (by omega), p1]
        obtain ⟨v, a1, a2, a3⟩ := tA_sees (F := F) (x := x) ht s3 hz10 s2 p2 p4
        rw [a1, a2, bnd2_s, bnd2_s]
        have fin : ∀ v, lC F kI phi (fun e => if e = 0 then 0 else if e = 1 then 1 else if e = 3 then 2 else 0) n σ (some (v, 0, lsC σ z)) (some (v, lsM m z)) (fun _ => 0) := fun v => lC_o rfl (kI_mono w6 (Nat.le_succ n)) ls57 (by rw [phi_N (show (lsC σ z).2 = σ.2 from rfl)]; omega)
        by_cases c2 : 0 ≤ v
        · rw [if_pos c2, if_pos c2, gnl_pos (by omega), e_childAt (by omega) (by omega) (Int32.not_lt.mpr c1), bnd2_s, ldi_nI hz10 (by decide), s2, e_childAt9 (tA_rok ht) (by omega) (by decide) (by omega) (Int32.not_lt.mpr c1), bnd2_s, sqC_congr (tA_ch ht)]
          exact fin _
        · rw [if_neg c2, if_neg c2]
          exact fin _
    · rw [if_neg c1, if_neg c1]
      exact thr _ _ _ 1 1 (Or.inl ⟨rfl, rfl⟩) h rfl
  · rw [e_known0 h10 hp, bnd3_se (by decide), e_ses0 h48 h10 hp, bnd2_s, if_pos rfl]
    exact thr _ _ _ 1 1 (Or.inl ⟨rfl, rfl⟩) h rfl
theorem c_isOpen (hF : 100000 ≤ F) : cI_isOpen F kI phi := by
  intro n σ m p x w hn h
  obtain ⟨h48, h10, hZ⟩ := kI_Z h
  unfold fX8_isOpen fX9_isOpen fX8_isOpen_55
  have thr : ∀ (σ' m' : qS) (v : Int32) (e : Nat) (c : Int32), (e = 1 ∧ c = 1) ∨ (e = 2 ∧ c = 2) ∨ (e = 3 ∧ c = 3) → kI n σ' m' → σ'.2 = σ.2 → lC F kI phi (fun e => if e = 0 then 0 else if e = 1 then 1 else if e = 2 then 2 else if e = 3 then 3 else 0) n σ (some (v, e, σ')) (fX9_isOpen_41 F p x w c m') (fun _ => 0) := fun σ' m' v e c hec hk hN => by
    unfold fX9_isOpen_41
    rcases hec with ⟨rfl, rfl⟩ | ⟨rfl, rfl⟩ | ⟨rfl, rfl⟩
    all_goals
      rw [e_h1 (by decide), bnd2_s, if_neg (show ¬ (1 : Int32) = 0 by decide), gbl_0]
      exact lC_t rfl (by decide) hk (by omega) hN rfl
  by_cases hp : ∃ z, z < σ.2 0 0 ∧ p = nI z
  · obtain ⟨z, hz, rfl⟩ := hp
    have hz10 : z < 10 := by omega
    rw [e_known1 hz h10, bnd3_s0, e_ses1 h48 hz h10, bnd2_s, if_neg (show ¬ (1 : Int32) = 0 by decide), e_isWithin, bnd2_s, e_in, bnd2_s]
    by_cases c1 : ¬ w < 1 ∧ ¬ 80 < w
    · rw [b2_t c1, if_neg (show ¬ (1 : Int32) = 0 by decide), if_neg (show ¬ (1 : Int32) = 0 by decide)]
      rcases wk (F := F) h (by omega) hz (by omega) with ⟨s1, m1, w1, w2, w3, w4, w5⟩ | ⟨w1, w2, w3, w4, w5, w6, w7, w8⟩
      · rw [w2, bnd3_se (by decide), w3, bnd2_s, if_neg (show ¬ (1 : Int32) = 0 by decide)]
        exact thr _ _ _ 3 3 (Or.inr (Or.inr ⟨rfl, rfl⟩)) w4 w5
      · obtain ⟨s3, s2, -⟩ := kI_srv w6 hz (by rw [lsM_o (by omega) (by omega)]; exact w4)
        obtain ⟨c, M, ht⟩ := kI_tree w6 s3
        rw [w2, bnd3_s0, w3, bnd2_s, if_pos rfl]
        unfold fX9_isOpen_41 fX9_isOpen_87 fX9_isOpen_88
        have hz' : z < (lsC σ z).2 0 0 := hz
        rw [e_h0, bnd2_s, if_pos rfl, w5, bnd_s, gnl_pos hz', nm_x, gnl_pos s3, gnl_pos (by omega), e_childrenOf (by omega) (by omega), bnd2_s, ldi_nI hz10 (by decide), s2, e_isThere (tA_rok ht) (by omega), bnd2_s]
        have fin : ∀ v, lC F kI phi (fun e => if e = 0 then 0 else if e = 1 then 1 else if e = 2 then 2 else if e = 3 then 3 else 0) n σ (some (v, 0, lsC σ z)) (some (v, lsM m z)) (fun _ => 0) := fun v => lC_o rfl (kI_mono w6 (Nat.le_succ n)) ls57 (by rw [phi_N (show (lsC σ z).2 = σ.2 from rfl)]; omega)
        by_cases d : hlds (vw (lsM m z)) ((lsC σ z).2 2 z) x
        · rw [b2_t d, if_neg (show ¬ (1 : Int32) = 0 by decide), ldi_nI hz10 (by decide), s2, e_children (tA_rok ht) (by omega) (by omega), bnd2_s, tA_nCh ht]
          by_cases e : nCh (lsC σ z) ((lsC σ z).2 2 z) x < w
          · rw [if_pos e, if_pos e, gbl_0, gbl_0]; exact fin _
          · rw [if_neg e, if_neg e, gbl_1, gbl_1]; exact fin _
        · rw [b2_f d, if_pos rfl]
          have e : nCh (lsC σ z) ((lsC σ z).2 2 z) x < w := by
            have h0 : nCh (lsC σ z) ((lsC σ z).2 2 z) x = 0 := by
              rw [nCh_val, cntN_0 (fun k k1 k2 q => ?_)]
              · rfl
              · have q2 := (tA_isCh ht (by omega)).1.mp q
                obtain ⟨g1, g2⟩ := ht.1.2.2.2.1 k k1 (by omega) q2.1
                have hkM := gdT_M ht.1 (by omega) q2.1
                obtain ⟨e1, e2⟩ := bwf_par ht.1.1.1 k1 (by omega) hkM
                rw [q2.2] at e1
                subst e1
                refine d ((tA_hl ht).mpr ⟨⟨nI_nn (by omega), fun w => ?_⟩, ?_⟩)
                · have := (nI_le' (a := 80) (by decide) (by omega)).mp w
                  omega
                · rw [ix_nI (by omega), (tA_31 ht (by omega)).1]
                  exact g1
            rw [h0]
            exact Int32.lt_of_lt_of_le (show (0 : Int32) < 1 by decide) (Int32.not_lt.mp c1.1)
          rw [if_pos e, gbl_0, gbl_0]
          exact fin _
    · rw [b2_f c1, if_pos rfl, if_pos rfl]
      exact thr _ _ _ 2 2 (Or.inr (Or.inl ⟨rfl, rfl⟩)) h rfl
  · rw [e_known0 h10 hp, bnd3_se (by decide), e_ses0 h48 h10 hp, bnd2_s, if_pos rfl]
    exact thr _ _ _ 1 1 (Or.inl ⟨rfl, rfl⟩) h rfl
/-- a quota is set, in both -/
theorem kI_quo {n a x : Nat} {σ m : qS} (h : kI n σ m) (h5 : n ≤ 600) (ha : a < 80) (hh : σ.1 31 0 a ≠ 0) (hx : x ≤ 80) : kI n (qI σ 14 0 a (nI x)) (qI m 106 0 a (nI x)) := by
  obtain ⟨C, π, M, S, L, Z, Y, T, cmp, hk, hR, hlo, h6, hK, hP, hcL, hT, hLn, hS, hp9⟩ := h
  have hM80 : M ≤ 80 := hk.1.2.1.2.2.2.2.1
  have o : ∀ f j k, f ≠ 14 → (qI σ 14 0 a (nI x)).1 f j k = σ.1 f j k := fun f j k w => by rw [qI_ap, if_neg (by omega)]
  have p : ∀ f q, f ≠ 106 → (qI m 106 0 a (nI x)).1 f 0 q = m.1 f 0 q := fun f q w => by rw [qI_ap, if_neg (by omega)]
  obtain ⟨g0, g1⟩ := kA_here hk.1
  have haM : a < M := gdT_M g0 ha (by rw [← (kA_31 hk.1 ha).1]; exact hh)
  have hH : kHs (qI σ 14 0 a (nI x)) (qI m 106 0 a (nI x)) Z := kHs_fr hk.2.2.2.1 (fun z hz h0 => ⟨by rw [← p 135 z (by omega)]; exact h0, rfl, rfl, p 132 z (by omega), ⟨o 50 z 10 (by omega), o 50 z 11 (by omega)⟩, fun f hf => by funext k; exact o f z k (by omega), fun f q w => p f q (by omega)⟩) (fun s => o 8 s 2 (by omega)) (by funext k; exact o 2 0 k (by omega)) (fun f i w => o f 0 i (by omega)) (fun s hs => by have := (hk.2.1 s hs).2.2.2.2.1; omega)
  have hQ : kQ (qI σ 14 0 a (nI x)) (qI m 106 0 a (nI x)) M := fun k k8 => by
    by_cases e : k = a
    · subst e
      rw [qI_ap, if_pos ⟨rfl, rfl, rfl⟩, qI_ap, if_pos ⟨rfl, rfl, rfl⟩]
      exact ⟨fun _ => Or.inr ⟨x, hx, rfl, rfl⟩, fun w => by omega⟩
    · rw [qI_ap, if_neg (by omega), qI_ap, if_neg (by omega)]
      exact hk.2.2.2.2.2.2.2.1 k k8
  refine ⟨C, π, M, S, L, Z, Y, T, cmp, kD_frZ hk hH hQ (by rw [p 0 48 (by omega)]; exact hk.2.2.2.2.2.2.2.2.2.2) (fun f j k w => o f j k (by omega)) (fun f q w => p f q (by omega)), kR_fr (R := π S) hR ⟨rfl, fun f j k w => o f j k (by omega)⟩ (fun f q w => p f q (by omega)), kLo_fr hlo (o 0 0 17 (by omega)) (p 0 54 (by omega)), fun k k8 => by rw [o 6 0 k (by omega)]; exact h6 k k8, kK_fr hK (o 0 0 12 (by omega)) (fun f k w1 w2 => o f 5 k (by omega)) (p 0 17 (by omega)) (fun f q w => p f q (by omega)) (fun f k w1 w2 w3 => o f 0 k (by omega)) ⟨by rw [o 2 0 0 (by omega)]; exact hk.1.2.1.2.2.1.1, fun k k1 k2 k3 => by rw [o 2 0 k (by omega)]; exact hk.1.2.1.2.2.1.2 k k1 k2 k3⟩ (Nat.le_refl _) hM80 (Nat.le_refl _), kP_fr hP (fun f k w1 w2 => o f 4 k (by omega)) (fun f k w1 w2 w3 => rfl) (fun f q w1 w2 w3 => p f q (by omega)) (Nat.le_refl _), hcL, hT, hLn, ?_, ?_⟩
  · rw [pnd_congr (fun z _ => pnC_congr (p 136 z (by omega)) (p 137 z (by omega)))]; exact hS
  · rw [pnd_congr (fun z _ => pnC_congr (p 136 z (by omega)) (p 137 z (by omega)))]; exact hp9
theorem c_quota (hF : 100000 ≤ F) : cI_quota F kI phi := by
  intro n σ m x q hn h
  have h7 := kI_57 (v := 0) h (by omega)
  unfold fX8_quota fX9_quota
  rw [e_isWithin, bnd2_s, e_in, bnd2_s]
  by_cases c1 : ¬ q < 0 ∧ ¬ 80 < q
  · obtain ⟨b, -, hb, rfl⟩ := (in_rng (a := 0) (b := 80) (by decide) (by decide)).mpr c1
    rw [b2_t c1, if_neg (show ¬ (1 : Int32) = 0 by decide), if_neg (show ¬ (1 : Int32) = 0 by decide)]
    unfold fX9_quota_17
    obtain ⟨c, M, ht⟩ := kI_tree (s := 0) h7 (by omega)
    rw [e_h0, bnd2_s, if_pos rfl, e_holds (by decide), bnd2_s, e_isThere0 (tA_rok ht), bnd2_s]
    have fin : ∀ v σ' m', kI n σ' m' → m'.1 0 0 57 = 0 → σ'.2 = σ.2 → lC F kI phi (fun e => if e = 0 then 0 else if e = 2 then 1 else 0) n σ (some (v, 0, σ')) (some (v, m')) (fun _ => 0) := fun v σ' m' k1 k2 k3 => lC_o rfl (kI_mono k1 (Nat.le_succ n)) k2 (by rw [phi_N k3]; omega)
    by_cases d : hlds σ 0 x
    · obtain ⟨a, ha, rfl, hh⟩ := hl_ex d
      rw [b2_t d, b2_t ((tA_hl ht).mpr d), if_neg (show ¬ (1 : Int32) = 0 by decide), if_neg (show ¬ (1 : Int32) = 0 by decide), inx_nI ha i80', inx_nI ha i80', ix_nI (by omega)]
      repeat rw [nm_x]
      have h8 := kI_quo (x := b) h7 (by omega) ha hh hb
      obtain ⟨c', M', ht'⟩ := kI_tree (s := 0) h8 (by omega)
      have wσ : wfT (qI σ 14 0 a (nI b)) 0 := wfT_cp ht'.2.1 ht'.2.2.1 (gdT_wf ht'.1) (fun k k1 k2 => gdT_M ht'.1 k1 k2)
      have wm : wfT (vw (qI (qI m 0 0 57 0) 106 0 a (nI b))) 0 := wfT_cp1 (fun k k1 => (tA_31 ht' k1).2) (fun k k1 k2 => by
        rw [vw2, (tA_b ht' k1 k2).2.2.1]
        exact (tA_b ht' k1 k2).2.1 2 (by decide) (by decide)) (gdT_wf ht'.1)
      obtain ⟨σ2, u1, u2⟩ := e_belowOf (F := F) (i := 0) (a := a) wσ (by omega) (by decide) ha
      have hM1 := ht'.2.2.2.2.2.2.2.1
      rw [u1, bnd2_s, e_below (tA_rok ht') wm (by rw [(ht'.2.2.2.2.2.2.2.2.2 0 (by decide) (by omega)).1]; exact ht'.2.2.2.2.2.2.1.1) (by omega) ha, bnd2_s]
      have eB : nBl (vw (qI (qI m 0 0 57 0) 106 0 a (nI b))) 0 a = nBl (qI σ 14 0 a (nI b)) 0 a := nBl_cp1 (fun k k1 => by rw [(tA_31 ht' k1).1, (tA_31 ht' k1).2]) (fun k k1 k2 => by
        rw [(tA_31 ht' k1).1] at k2
        rw [vw2, (tA_b ht' k1 k2).2.2.1]) wσ ha
      rw [eB]
      exact fin _ _ _ (kI_sq h8 (by omega) u2) (by rw [qI_ap, if_neg (by omega), qI_ap, if_pos ⟨rfl, rfl, rfl⟩]) (u2.1.trans rfl)
    · rw [b2_f d, b2_f (fun w => d ((tA_hl ht).mp w)), if_pos rfl, if_pos rfl]
      exact fin _ _ _ h7 (by rw [qI_ap, if_pos ⟨rfl, rfl, rfl⟩]) rfl
  · rw [b2_f c1, if_pos rfl, if_pos rfl]
    unfold fX9_quota_17
    rw [e_h1 (by decide), bnd2_s, if_neg (show ¬ (1 : Int32) = 0 by decide)]
    exact lC_t rfl (by decide) h (by omega) rfl rfl
end RE

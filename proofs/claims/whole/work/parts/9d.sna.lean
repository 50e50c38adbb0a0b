/-! PURE: snapshot, in both -/
section SN9
variable {F : Nat}
/-- what sessions and leases are hangs on their own rows -/
theorem kR_g {σ m σ' m' : qS} {Z Y T cmp : Nat} (h : kR σ m Z Y T cmp) (hN : σ'.2 = σ.2) (o : ∀ f j k, ((f = 0 ∧ j = 0 ∧ (k = 14 ∨ k = 16 ∨ k = 18 ∨ k = 19)) ∨ f = 15 ∨ 50 ≤ f) → σ'.1 f j k = σ.1 f j k) (p : ∀ f q, ((f = 0 ∧ (q = 28 ∨ (52 ≤ q ∧ q ≤ 56))) ∨ 131 ≤ f) → m'.1 f 0 q = m.1 f 0 q) : kR σ' m' Z Y T cmp := by
  obtain ⟨⟨a1, a2, a3, a4, a5, a6, a7⟩, b, c, d, e, ⟨f1, f2, f3, f4⟩, g⟩ := h
  exact ⟨⟨by rw [hN]; exact a1, a2, by rw [hN]; exact a3, a4, by rw [p 0 52 (by omega)]; exact a5, by rw [o 0 0 14 (by omega)]; exact a6, by rw [p 0 53 (by omega)]; exact a7⟩, fun z hz => kZ_fr (b z hz) (fun f k w => o f z k (by omega)) (fun a _ _ => by funext k; exact o 56 a k (by omega)) (fun f w => p f z (by omega)) (fun q _ _ => p 138 q (by omega)) (fun q _ _ => p 139 q (by omega)), fun l hl => kLz_fr (c l hl) (fun k _ => o 57 l k (by omega)) (fun f w1 w2 => p f l (by omega)) (Nat.le_refl _), kFr_fr d (fun f z w1 w2 w3 => p f z (by omega)) (fun q _ => p 147 q (by omega)) (fun l _ _ => p 151 l (by omega)), kBl_fr e (fun k => o 15 0 k (by omega)) (fun q => p 147 q (by omega)), ⟨by rw [o 0 0 18 (by omega), p 0 55 (by omega)]; exact f1, by rw [o 0 0 19 (by omega), p 0 56 (by omega)]; exact f2, by rw [o 0 0 16 (by omega)]; exact f3, by rw [p 0 28 (by omega)]; exact f4⟩, by rw [hN]; exact g⟩
theorem nBl_nH {σ c : qS} (hw : wfT σ 0) (ht : tEq σ 0 c 0) : nBl σ 0 0 + 1 = nH c := by
  have e : nH c = nH σ := nH_tEq (fun f k k1 k2 k3 => (ht f k k1 k2 k3).symm)
  rw [e]
  have e1 : nH σ = cntN (fun k => σ.1 31 0 k ≠ 0) 1 79 + 1 := by
    show cntN (fun k => σ.1 31 0 k ≠ 0) 0 (79 + 1) = _
    rw [cntN_s, if_pos hw.1, Nat.add_comm 1]
  rw [e1]
  unfold nBl
  refine congrArg (· + 1) (cntN_congr (fun k k1 k2 => ⟨fun h => h.1, fun h => ⟨h, ?_⟩⟩))
  have := (clm_P (P := fun k => k < 80 ∧ σ.1 31 0 k ≠ 0) (low := 0 + 1) (by omega) (wfT_hp hw) k (by omega) ⟨by omega, h⟩).2
  omega
/-- what the reference's walk has done, up to t -/
def snS (m s : qS) (t : Nat) : Prop := s.2 = m.2 ∧ ∀ f j q, s.1 f j q = if j = 0 ∧ f = 115 ∧ q < t then m.1 105 0 q else m.1 f j q
theorem e_snap_l {m : qS} (hb : ∀ k, k < 80 → m.1 108 0 k = 0 ∨ m.1 108 0 k = 1) : ∀ (d t n : Nat) (s : qS), t + d = 80 → d < n → snS m s t → ∃ s', fX9_snapshot_16 F n (nI (cntN (fun k => m.1 108 0 k ≠ 0) 0 t)) (nI t) s = some (nI (cntN (fun k => m.1 108 0 k ≠ 0) 0 80), qI s' 0 0 17 1) ∧ snS m s' 80 := by
  intro d
  induction d with
  | zero =>
    intro t n s h hn hs
    obtain ⟨n, rfl⟩ : ∃ z, n = z + 1 := ⟨n - 1, by omega⟩
    obtain rfl : t = 80 := by omega
    rw [fX9_snapshot_16, if_pos (le80 (by omega) (by omega)), gbl_1, nm_x]
    exact ⟨s, rfl, hs⟩
  | succ d ih =>
    intro t n s h hn hs
    obtain ⟨n, rfl⟩ : ∃ z, n = z + 1 := ⟨n - 1, by omega⟩
    have e5 : s.1 105 0 t = m.1 105 0 t := by rw [hs.2, if_neg (by omega)]
    have e8 : (qI s 115 0 t (m.1 105 0 t)).1 108 0 t = m.1 108 0 t := by rw [qI_ap, if_neg (by omega), hs.2, if_neg (by omega)]
    rw [fX9_snapshot_16, if_neg (nle80 (by omega)), ldi_nI (show t < 80 by omega) (by decide), inx_nI (show t < 80 by omega) (by decide), ix_nI (show t < 2 ^ 31 by omega), nm_x, e5, ldi_nI (show t < 400 by omega) (by decide), nm_x, nm_x, e8, nI_1]
    have ev : nI (cntN (fun k => m.1 108 0 k ≠ 0) 0 t) + m.1 108 0 t = nI (cntN (fun k => m.1 108 0 k ≠ 0) 0 (t + 1)) := by
      rw [cntN_1, Nat.zero_add]
      rcases hb t (by omega) with q | q
      · rw [if_neg (show ¬ m.1 108 0 t ≠ 0 from fun w => w q), q]
        exact Int32.add_zero _
      · rw [if_pos (show m.1 108 0 t ≠ 0 from by rw [q]; decide), q, nI_1]
    rw [ev]
    refine ih (t + 1) n _ (by omega) (by omega) ⟨hs.1, fun f j q => ?_⟩
    rw [qI_ap, hs.2]
    by_cases c1 : f = 115 ∧ j = 0 ∧ q = t
    · obtain ⟨rfl, rfl, rfl⟩ := c1
      rw [if_pos ⟨rfl, rfl, rfl⟩, if_pos ⟨rfl, rfl, Nat.lt_succ_self _⟩]
    · rw [if_neg c1]
      by_cases c2 : j = 0 ∧ f = 115 ∧ q < t
      · rw [if_pos c2, if_pos ⟨c2.1, c2.2.1, by omega⟩]
      · rw [if_neg c2, if_neg (fun w => c2 ⟨w.1, w.2.1, by
          have : q ≠ t := fun e => c1 ⟨w.2.1, w.1, e⟩
          omega⟩)]
theorem c_snapshot (hF : 100000 ≤ F) : cI_snapshot F kI phi := by
  intro n σ m0 hn h0
  have h := kI_57 (v := 0) h0 (by omega)
  unfold fX8_snapshot fX9_snapshot
  rw [e_h0, bnd2_s]
  generalize qI m0 0 0 57 0 = m at h ⊢
  obtain ⟨C, π, M, S, L, Z, Y, T, cmp, hk, hR, hlo, h6, hK, hP, hcL, hT, hLn, hS, hp⟩ := h
  have hA := hk.1
  obtain ⟨g0, g1⟩ := kA_here hA
  obtain ⟨hl, hB, ht, hr, hc⟩ := hA
  have hM80 : M ≤ 80 := g0.1.2.2
  have tb : ∀ q, q < 80 → σ.1 31 0 q = 0 ∨ σ.1 31 0 q = 1 := fun q hq => by
    rw [ht 31 q (by decide) (by decide) hq]
    rcases g0.2.1 q hq with w | w
    · exact Or.inl w
    · exact Or.inr w.1
  have mb : ∀ q, q < 80 → m.1 108 0 q = (C S).1 31 0 q := fun q hq => by
    have := (hr q hq).1
    rw [show 80 * 0 + q = q by omega] at this
    exact this
  obtain ⟨s1, c1, c2⟩ := e_copyFrom (F := F) (i := 5) (j := 0) (by omega) (by decide) (by decide) (by decide) tb
  rw [c1, bnd_s, gbl_1, nm_x]
  have o2 : ∀ f j k, ¬ (f = 0 ∧ j = 0 ∧ k = 12) → ¬ (j = 5 ∧ 31 ≤ f ∧ f ≤ 37 ∧ k < 80) → (qI s1 0 0 12 1).1 f j k = σ.1 f j k := fun f j k w1 w2 => by
    rw [qI_ap, if_neg w1, c2.2, if_neg w2]
  have o5 : ∀ f k, 31 ≤ f → f ≤ 37 → k < 80 → (qI s1 0 0 12 1).1 f 5 k = σ.1 f 0 k := fun f k w1 w2 w3 => by
    rw [qI_ap, if_neg (by omega), c2.2, if_pos ⟨rfl, w1, w2, w3⟩]
  have o12 : (qI s1 0 0 12 1).1 0 0 12 = 1 := by rw [qI_ap, if_pos ⟨rfl, rfl, rfl⟩]
  have oN : (qI s1 0 0 12 1).2 = σ.2 := c2.1
  generalize qI s1 0 0 12 1 = s2 at o2 o5 o12 oN ⊢
  have ht2 : tEq s2 0 (C S) 0 := fun f k k1 k2 k3 => by rw [o2 f 0 k (by omega) (by omega)]; exact ht f k k1 k2 k3
  have hb2 : bEq M (C S) s2 := fun f k k1 k2 k3 k4 => by rw [o2 f 0 k (by omega) (by omega)]; exact g1 f k k1 k2 k3 k4
  have hw2 : wfT s2 0 := wfT_cp hb2 ht2 (gdT_wf g0) (fun k k8 k9 => gdT_M g0 k8 k9)
  obtain ⟨s3, d1, d2⟩ := e_belowOf (F := F) (i := 0) (a := 0) hw2 (by omega) (by decide) (by decide)
  rw [show (0 : Int32) = nI 0 from rfl, d1, bnd2_s, nm_x]
  obtain ⟨m1, k1, k2⟩ := e_copy (F := F) (m := m) (a := 0) (b := 3) (by omega) (by decide) (by decide) (by decide)
  rw [show (3 : Int32) = nI 3 from rfl, k1, bnd_s]
  have p1 : ∀ f j q, ¬ (j = 0 ∧ 108 ≤ f ∧ f ≤ 114 ∧ 240 ≤ q ∧ q < 320) → m1.1 f j q = m.1 f j q := fun f j q w => by
    rw [k2.2, if_neg (by omega)]
  obtain ⟨m2, l1, l2⟩ := e_snap_l (F := F) (m := m1) (fun k k8 => by
    rw [p1 108 0 k (by omega), mb k k8]
    rcases g0.2.1 k k8 with w | w
    · exact Or.inl w
    · exact Or.inr w.1) 80 0 F m1 rfl (by omega) ⟨rfl, fun f j q => by rw [if_neg (by omega)]⟩
  rw [show fX9_snapshot_16 F F (nI 0) (nI 0) m1 = _ from l1]
  have ev : (1 : Int32) + nI (nBl s2 0 0) = nI (cntN (fun k => m1.1 108 0 k ≠ 0) 0 80) := by
    rw [show (1 : Int32) = nI 1 from rfl, nI_add, Nat.add_comm, nBl_nH hw2 ht2]
    refine congrArg nI (cntN_congr (fun k _ k8 => ?_))
    rw [p1 108 0 k (by omega), mb k (by omega)]
  rw [ev]
  have p2 : ∀ f q, ¬ (f = 0 ∧ q = 17) → ¬ (108 ≤ f ∧ f ≤ 114 ∧ 240 ≤ q ∧ q < 320) → f ≠ 115 → (qI m2 0 0 17 1).1 f 0 q = m.1 f 0 q := fun f q w1 w2 w3 => by
    rw [qI_ap, if_neg (by omega), l2.2, if_neg (by omega), p1 f 0 q (by omega)]
  have p17 : (qI m2 0 0 17 1).1 0 0 17 = 1 := by rw [qI_ap, if_pos ⟨rfl, rfl, rfl⟩]
  have p115 : ∀ k, k < 80 → (qI m2 0 0 17 1).1 115 0 k = m.1 105 0 k := fun k k8 => by
    rw [qI_ap, if_neg (by omega), l2.2, if_pos ⟨rfl, rfl, k8⟩, p1 105 0 k (by omega)]
  have p3 : ∀ f k, 108 ≤ f → f ≤ 114 → k < 80 → (qI m2 0 0 17 1).1 f 0 (80 * 3 + k) = m.1 f 0 (80 * 0 + k) := fun f k w1 w2 w3 => by
    rw [qI_ap, if_neg (by omega), l2.2, if_neg (by omega), k2.2, if_pos ⟨rfl, w1, w2, by omega, by omega⟩, show 80 * 3 + k - 80 * 3 = k by omega]
  generalize qI m2 0 0 17 1 = m3 at p2 p17 p115 p3 ⊢
  have h2 : kI n s2 m3 := by
    refine ⟨C, π, M, S, L, Z, Y, T, cmp, kD_fr hk (kHs_fr hk.2.2.2.1 (fun z hz q0 => ⟨by rw [← p2 135 z (by omega) (by omega) (by omega)]; exact q0, by rw [oN], by rw [oN], p2 132 z (by omega) (by omega) (by omega), ⟨o2 50 z 10 (by omega) (by omega), o2 50 z 11 (by omega) (by omega)⟩, fun f hf => by funext q; exact o2 f z q (by omega) (by omega), fun f q w => p2 f q (by omega) (by omega) (by omega)⟩) (fun s => o2 8 s 2 (by omega) (by omega)) (by funext q; exact o2 2 0 q (by omega) (by omega)) (fun f i w => o2 f 0 i (by omega) (by omega)) (fun s hs => by have := (hk.2.1 s hs).2.2.2.2.1; omega)) (fun f j k w => o2 f j k (by omega) (by omega)) (fun f q w => p2 f q (by omega) (by omega) (by omega)), kR_g hR oN (fun f j k w => o2 f j k (by omega) (by omega)) (fun f q w => p2 f q (by omega) (by omega) (by omega)), kLo_fr hlo (o2 0 0 17 (by omega) (by omega)) (p2 0 54 (by omega) (by omega) (by omega)), fun k k8 => by rw [o2 6 0 k (by omega) (by omega)]; exact h6 k k8, ⟨⟨hK.1.1, fun w => hK.1.2 (by unfold isHd at w ⊢; rw [← o2 4 0 0 (by omega) (by omega)]; exact w)⟩, Or.inr ⟨o12, p17, C S, g0, hb2, fun f k w1 w2 w3 => by rw [o5 f k w1 w2 w3]; exact ht f k w1 w2 w3, fun k k8 => ?_, fun k k8 q => by rw [p115 k k8]; exact (hc k k8).1 q, fun k k8 => (hc k k8).2⟩⟩, kP_fr hP (fun f k w1 w2 => o2 f 4 k (by omega) (by omega)) (fun _ _ _ _ _ => rfl) (fun f q w1 w2 w3 => p2 f q (by omega) (by omega) (by omega)) (Nat.le_refl _), hcL, hT, hLn, ?_, ?_⟩
    · have := hr k k8
      rw [p3 108 k (by decide) (by decide) k8, p3 109 k (by decide) (by decide) k8, p3 110 k (by decide) (by decide) k8, p3 111 k (by decide) (by decide) k8, p3 112 k (by decide) (by decide) k8, p3 113 k (by decide) (by decide) k8, p3 114 k (by decide) (by decide) k8]
      exact this
    · rw [pnd_congr (fun z _ => pnC_congr (p2 136 z (by omega) (by omega) (by omega)) (p2 137 z (by omega) (by omega) (by omega)))]
      exact hS
    · rw [pnd_congr (fun z _ => pnC_congr (p2 136 z (by omega) (by omega) (by omega)) (p2 137 z (by omega) (by omega) (by omega)))]
      exact hp
  refine ⟨_, _, _, rfl, rfl, kI_mono (kI_sq h2 (by omega) d2) (Nat.le_succ n), ?_⟩
  rw [phi_N (show s3.2 = σ.2 from d2.1.trans oN)]
  exact Nat.le_refl _
end SN9

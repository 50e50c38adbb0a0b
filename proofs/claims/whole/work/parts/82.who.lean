/-! PURE: who calls, in both; how a call ends -/
theorem bnd3_se {α γ β : Type} {a : α} {e : Nat} {c : γ} {k : α → γ → Option β} {kx : Nat → γ → Option β} (h : e ≠ 0) : bnd3 (some (a, e, c)) k kx = kx e c := if_neg h
theorem nI_nn {a : Nat} (h : a < 2 ^ 31) : ¬ nI a < 0 := fun q => by
  have := (nI_lt' (b := 0) h (by decide)).mp q
  omega
/-- how long all rows are -/
def phs (f : Nat → Nat) : Nat → Nat
  | 0 => 0
  | k + 1 => phs f k + f k
def phi (σ : qS) : Nat := phs (σ.2 3) 10
theorem phs_le {f : Nat → Nat} {b : Nat} (h : ∀ z, f z ≤ b) : ∀ n, phs f n ≤ b * n
  | 0 => Nat.zero_le _
  | n + 1 => by
    have := phs_le h n
    have := h n
    rw [phs, Nat.mul_succ]
    omega
theorem phs_congr {f g : Nat → Nat} : ∀ {n : Nat}, (∀ z, z < n → f z = g z) → phs f n = phs g n
  | 0, _ => rfl
  | n + 1, h => by rw [phs, phs, phs_congr (fun z hz => h z (by omega)), h n (by omega)]
theorem phs_upd {f g : Nat → Nat} {z : Nat} : ∀ {n : Nat}, z < n → (∀ y, y < n → y ≠ z → g y = f y) → phs g n + f z = phs f n + g z
  | 0, h, _ => by omega
  | n + 1, h, e => by
    by_cases c : z = n
    · subst c
      rw [phs, phs, phs_congr (fun y hy => e y (by omega) (by omega))]
      omega
    · have := phs_upd (n := n) (z := z) (by omega) (fun y hy hn => e y (by omega) hn)
      rw [phs, phs, e n (by omega) (by omega)]
      omega
theorem kI_phi {n : Nat} {σ m : qS} (h : kI n σ m) : phi σ ≤ 90000 := by
  obtain ⟨C, π, M, S, L, Z, Y, T, cmp, hk, hR0, -⟩ := h
  have := phs_le (fun z => (hR0.2.2.2.2.2.2 z).1) 10
  unfold phi
  omega
theorem phi_N {σ σ' : qS} (h : σ'.2 = σ.2) : phi σ' = phi σ := by unfold phi; rw [h]
/-- what every call may use -/
theorem kI_Z {n : Nat} {σ m : qS} (h : kI n σ m) : m.1 0 0 48 = nI (σ.2 0 0) ∧ σ.2 0 0 ≤ 10 ∧ ∀ z, z < σ.2 0 0 → kZa σ m z ∧ kZb σ m z ∧ kZc σ m z := by
  obtain ⟨C, π, M, S, L, Z, Y, T, cmp, hk, hR0, -⟩ := h
  rw [hR0.1.1]
  exact ⟨hk.2.2.2.2.2.2.2.2.2.2, hR0.1.2.1, hR0.2.1⟩
theorem kI_57 {n : Nat} {σ m : qS} {v : Int32} (h : kI n σ m) (h5 : n ≤ 600) : kI n σ (qI m 0 0 57 v) := by
  have p : ∀ f q, ¬ (f = 0 ∧ q = 57) → (qI m 0 0 57 v).1 f 0 q = m.1 f 0 q := fun f q w => by rw [qI_ap, if_neg (by omega)]
  refine kI_re h ⟨rfl, rfl, rfl⟩ (fun _ _ _ _ => rfl) (fun f q w => p f q (by omega)) (Nat.le_refl _) h5 (fun L Z Y T cmp _ _ _ hcL hT hR hlo => ⟨Y, T, cmp, ?_, kLo_fr hlo rfl (p 0 54 (by omega)), hT, Nat.le_refl _, hcL, ?_⟩)
  · obtain ⟨⟨a1, a2, a3, a4, a5, a6, a7⟩, b, c, d, e, ⟨f1, f2, f3, f4⟩, g⟩ := hR
    exact ⟨⟨a1, a2, a3, a4, by rw [p 0 52 (by omega)]; exact a5, a6, by rw [p 0 53 (by omega)]; exact a7⟩, fun z hz => kZ_fr (b z hz) (fun _ _ _ => rfl) (fun _ _ _ => rfl) (fun f w => p f z (by omega)) (fun q _ _ => p 138 q (by omega)) (fun q _ _ => p 139 q (by omega)), fun l hl => kLz_fr (c l hl) (fun _ _ => rfl) (fun f w1 w2 => p f l (by omega)) (Nat.le_refl _), kFr_fr d (fun f z w1 w2 w3 => p f z (by omega)) (fun q _ => p 147 q (by omega)) (fun l _ _ => p 151 l (by omega)), kBl_fr e (fun _ => rfl) (fun q => p 147 q (by omega)), ⟨by rw [p 0 55 (by omega)]; exact f1, by rw [p 0 56 (by omega)]; exact f2, f3, by rw [p 0 28 (by omega)]; exact f4⟩, g⟩
  · rw [pnd_congr (fun z _ => pnC_congr (p 136 z (by omega)) (p 137 z (by omega)))]
    exact Nat.le_refl _
def lsC (σ : qS) (z : Nat) : qS := qI σ 50 z 9 (σ.1 0 0 14)
def lsM (m : qS) (z : Nat) : qS := qI (qI m 0 0 57 0) 134 0 z (m.1 0 0 53)
theorem kI_last {n z : Nat} {σ m : qS} {v : Int32} (h : kI n σ m) (h5 : n ≤ 600) (hz : z < σ.2 0 0) : kI n (qI σ 50 z 9 v) (qI m 134 0 z v) := by
  have o : ∀ f j k, ¬ (f = 50 ∧ j = z ∧ k = 9) → (qI σ 50 z 9 v).1 f j k = σ.1 f j k := fun f j k w => by rw [qI_ap, if_neg w]
  have p : ∀ f q, ¬ (f = 134 ∧ q = z) → (qI m 134 0 z v).1 f 0 q = m.1 f 0 q := fun f q w => by rw [qI_ap, if_neg (by omega)]
  refine kI_re h ⟨rfl, rfl, rfl⟩ (fun f j k w => o f j k (by omega)) (fun f q w => p f q (by omega)) (Nat.le_refl _) h5 (fun L Z Y T cmp _ _ _ hcL hT hR hlo => ⟨Y, T, cmp, ?_, kLo_fr hlo (o 0 0 17 (by omega)) (p 0 54 (by omega)), hT, Nat.le_refl _, hcL, ?_⟩)
  · have hzZ : z < Z := by rw [← hR.1.1]; exact hz
    obtain ⟨b1, b2, b3⟩ := hR.2.1 z hzZ
    refine kR_z hR hzZ rfl (fun f j k w1 w2 w3 => o f j k (by omega)) (fun f q w1 w2 w3 w4 => p f q (by omega)) ⟨?_, ?_, ?_⟩
    · obtain ⟨q1, q2, q3, q4, q5, q6⟩ := b1
      refine ⟨by rw [o 50 z 0 (by omega)]; exact q1, ?_, by rw [o 50 z 2 (by omega), p 133 z (by omega)]; exact q3, by rw [qI_ap, if_pos ⟨rfl, rfl, rfl⟩, qI_ap, if_pos ⟨rfl, rfl, rfl⟩], by rw [o 50 z 15 (by omega), p 135 z (by omega)]; exact q5, by rw [p 135 z (by omega), p 136 z (by omega)]; exact q6⟩
      rw [o 50 z 1 (by omega), p 131 z (by omega)]
      exact q2
    · unfold kZb at b2 ⊢
      rw [o 50 z 13 (by omega), p 140 z (by omega)]
      obtain ⟨x, x1, x2, x3, x4⟩ := b2
      exact ⟨x, x1, x2, x3, fun i hi => by rw [o 52 z i (by omega), p 139 _ (by omega)]; exact x4 i hi⟩
    · obtain ⟨c1, c2⟩ := b3
      refine ⟨by rw [o 50 z 14 (by omega), p 135 z (by omega), p 136 z (by omega)]; exact c1, ?_⟩
      rw [p 136 z (by omega)]
      rcases c2 with c2 | ⟨c2, x, x1, x2, x3, x4⟩
      · exact Or.inl c2
      · refine Or.inr ⟨c2, x, x1, by rw [o 50 z 12 (by omega)]; exact x2, by rw [p 137 z (by omega)]; exact x3, fun i hi => ?_⟩
        have := x4 i hi
        unfold kZe at this ⊢
        rw [p 138 _ (by omega), p 138 _ (by omega), p 138 _ (by omega), p 138 _ (by omega), p 138 _ (by omega), p 138 _ (by omega), p 138 _ (by omega)]
        exact actR_fr this (by funext q; exact o 56 _ q (by omega))
  · rw [pnd_congr (fun y _ => pnC_congr (p 136 y (by omega)) (p 137 y (by omega)))]
    exact Nat.le_refl _
theorem kI_bel {n z : Nat} {σ m σ' m' : qS} {X : Nat → Prop} [DecidablePred X] {b : Bool} {v : Int32} (h : kI n σ m) (h5 : n ≤ 600) (hz : z < σ.2 0 0) (hs : blS σ σ' z X b) (hm : bmS m m' z X v) (hv : b = decide (v = 1)) : kI n σ' m' := by
  have o : ∀ f j k, f ≠ 15 → σ'.1 f j k = σ.1 f j k := fun f j k w => hs.2.1 f j k (by omega)
  have p : ∀ f q, f ≠ 147 → m'.1 f 0 q = m.1 f 0 q := fun f q w => hm.2.1 f 0 q (by omega)
  refine kI_re h ⟨by rw [hs.1], by rw [hs.1], by rw [hs.1]⟩ (fun f j k w => o f j k (by omega)) (fun f q w => p f q (by omega)) (Nat.le_refl _) h5 (fun L Z Y T cmp _ _ _ hcL hT hR hlo => ⟨Y, T, cmp, ?_, kLo_fr hlo (o 0 0 17 (by omega)) (p 0 54 (by omega)), hT, Nat.le_refl _, hcL, ?_⟩)
  · obtain ⟨⟨a1, a2, a3, a4, a5, a6, a7⟩, b9, c, d, e, ⟨f1, f2, f3, f4⟩, g⟩ := hR
    have hzZ : z < Z := by rw [← a1]; exact hz
    exact ⟨⟨by rw [hs.1]; exact a1, a2, by rw [hs.1]; exact a3, a4, by rw [p 0 52 (by omega)]; exact a5, by rw [o 0 0 14 (by omega)]; exact a6, by rw [p 0 53 (by omega)]; exact a7⟩, fun z hz => kZ_fr (b9 z hz) (fun f k w => o f z k (by omega)) (fun a _ _ => by funext k; exact o 56 a k (by omega)) (fun f w => p f z (by omega)) (fun q _ _ => p 138 q (by omega)) (fun q _ _ => p 139 q (by omega)), fun l hl => kLz_fr (c l hl) (fun k _ => o 57 l k (by omega)) (fun f w1 w2 => p f l (by omega)) (Nat.le_refl _), kFr_fr d (fun f z w1 w2 w3 => p f z (by omega)) (fun q w => hm.2.2.1 q (by omega)) (fun l _ _ => p 151 l (by omega)), kBl_of e hzZ hs hm hv, ⟨by rw [o 0 0 18 (by omega), p 0 55 (by omega)]; exact f1, by rw [o 0 0 19 (by omega), p 0 56 (by omega)]; exact f2, by rw [o 0 0 16 (by omega)]; exact f3, by rw [p 0 28 (by omega)]; exact f4⟩, by rw [hs.1]; exact g⟩
  · rw [pnd_congr (fun y _ => pnC_congr (p 136 y (by omega)) (p 137 y (by omega)))]
    exact Nat.le_refl _
section WH
variable {F : Nat}
theorem e_known1 {σ : qS} {z : Nat} (hz : z < σ.2 0 0) (h10 : σ.2 0 0 ≤ 10) : fX8_known F (nI z) σ = some (z, 0, σ) := by
  unfold fX8_known
  rw [if_neg (nI_nn (by omega)), nm_x, if_pos ((nI_lt' (by omega) (by omega)).mpr hz), gnl_pos (by omega), inx_nI hz (by omega), nm_x, ix_nI (by omega), gnl_pos hz]
theorem e_known0 {σ : qS} {p : Int32} (h10 : σ.2 0 0 ≤ 10) (h : ¬ ∃ z, z < σ.2 0 0 ∧ p = nI z) : fX8_known F p σ = some (0, 1, σ) := by
  unfold fX8_known fX8_known_15
  by_cases c : p < 0
  · rw [if_pos c]
  · obtain ⟨a, ha, rfl⟩ := nI_of c
    rw [if_neg c, nm_x, if_neg (fun q => h ⟨a, (nI_lt' ha (by omega)).mp q, rfl⟩)]
theorem e_range {p : Int32} {Z : Nat} (hZ : Z ≤ 10) : (∃ z, z < Z ∧ p = nI z) ↔ (¬ p < 0 ∧ ¬ nI Z - 1 < p) := by
  constructor
  · rintro ⟨z, hz, rfl⟩
    refine ⟨nI_nn (by omega), fun q => ?_⟩
    rw [show nI Z - 1 = nI (Z - 1) from nI_sub (a := Z) (b := 1) (by omega)] at q
    have := (nI_lt' (by omega) (by omega)).mp q
    omega
  · rintro ⟨h1, h2⟩
    obtain ⟨a, ha, rfl⟩ := nI_of h1
    by_cases c : Z = 0
    · subst c
      exact absurd (show (nI 0 - 1 : Int32) < nI a from Int32.lt_of_lt_of_le (by decide) (Int32.not_lt.mp h1)) h2
    · rw [show nI Z - 1 = nI (Z - 1) from nI_sub (a := Z) (b := 1) (by omega)] at h2
      refine ⟨a, ?_, rfl⟩
      have : ¬ Z - 1 < a := fun q => h2 ((nI_lt' (by omega) ha).mpr q)
      omega
theorem e_ses1 {m : qS} {z Z : Nat} (h48 : m.1 0 0 48 = nI Z) (hz : z < Z) (h10 : Z ≤ 10) : fX9_isSession F (nI z) m = some (1, m) := by
  unfold fX9_isSession
  rw [nm_x, nm_x, h48, e_in, bnd2_s, b2_t ((e_range h10).mp ⟨z, hz, rfl⟩), gbl_1]
theorem e_ses0 {m : qS} {p : Int32} {Z : Nat} (h48 : m.1 0 0 48 = nI Z) (h10 : Z ≤ 10) (h : ¬ ∃ z, z < Z ∧ p = nI z) : fX9_isSession F p m = some (0, m) := by
  unfold fX9_isSession
  rw [nm_x, nm_x, h48, e_in, bnd2_s, b2_f (fun q => h ((e_range h10).mpr q)), gbl_0]
theorem e_h0 {m : qS} : fX9_holds F 0 m = some (0, qI m 0 0 57 0) := by
  unfold fX9_holds fX9_holds_14
  rw [nm_x, if_pos (by decide), gbl_0]
theorem e_h1 {m : qS} {v : Int32} (h : ¬ v ≤ 0) : fX9_holds F v m = some (1, qI m 0 0 57 v) := by
  unfold fX9_holds fX9_holds_14
  rw [nm_x, if_neg h, gbl_1]
theorem e_does {m : qS} {z : Nat} (hz : z < 10) : fX9_does F (nI z) m = some (qI m 134 0 z (m.1 0 0 53)) := by
  unfold fX9_does
  rw [nm_x, inx_nI hz (by decide), nm_x, ix_nI (by omega)]
/-- a session that is told that it has ended, or lives -/
theorem wk {n z : Nat} {σ m : qS} (h : kI n σ m) (h5 : n ≤ 600) (hz : z < σ.2 0 0) (hF : 100 ≤ F) :
    (∃ σ' m', fX8_mustLive F z σ = some (0, 3, σ') ∧ fX8_wake F z σ = some (0, 3, σ') ∧ fX9_ended F (nI z) m = some (1, m') ∧ kI n σ' m' ∧ σ'.2 = σ.2) ∨
    (fX8_mustLive F z σ = some (0, 0, σ) ∧ fX8_wake F z σ = some (0, 0, lsC σ z) ∧ fX9_ended F (nI z) m = some (0, m) ∧ m.1 135 0 z = 0 ∧ fX9_does F (nI z) (qI m 0 0 57 0) = some (lsM m z) ∧ kI n (lsC σ z) (lsM m z) ∧ kI n σ (qI m 0 0 57 0) ∧ σ.1 0 0 14 = m.1 0 0 53) := by
  obtain ⟨h48, h10, hZ⟩ := kI_Z h
  obtain ⟨⟨q1, q2, q3, q4, q5, q6⟩, b2, b3⟩ := hZ z hz
  rcases q6 with c | ⟨c, c2⟩
  · refine Or.inr ?_
    have e15 : σ.1 50 z 15 = 0 := by rw [q5, c]
    have e53 : σ.1 0 0 14 = m.1 0 0 53 := by
      obtain ⟨C, π, M, S, L, Z, Y, T, cmp, hk, hR0, -⟩ := h
      rw [hR0.1.2.2.2.2.2.1, hR0.1.2.2.2.2.2.2]
    have hl : fX8_mustLive F z σ = some (0, 0, σ) := by
      unfold fX8_mustLive
      rw [gnl_pos hz, nm_x, e15, if_pos rfl]
    have h7 := kI_57 (v := 0) h h5
    refine ⟨hl, ?_, e_ended0 hF (by omega) c, c, ?_, ?_, h7, e53⟩
    · unfold fX8_wake
      rw [hl, bnd3_s0, nm_x, gnl_pos hz, nm_x]
      rfl
    · rw [e_does (by omega), qI_ap, if_neg (by omega)]
      rfl
    · have := kI_last (v := σ.1 0 0 14) h7 h5 hz
      unfold lsC lsM
      rw [← e53]
      exact this
  · refine Or.inl ?_
    have e15 : σ.1 50 z 15 = 1 := by rw [q5, c]
    obtain ⟨s1, a1, a2⟩ := e_forget (F := F) hF hz (by omega) q1
    obtain ⟨m1, d1, d2⟩ := e_ended1 (F := F) hF (show z < 10 by omega) c
    have hl : fX8_mustLive F z σ = some (0, 3, s1) := by
      unfold fX8_mustLive
      rw [gnl_pos hz, nm_x, e15, if_neg (by decide), a1, bnd_s]
    refine ⟨s1, m1, hl, ?_, d1, kI_bel h h5 hz a2 d2 rfl, a2.1⟩
    unfold fX8_wake
    rw [hl, bnd3_se (by decide)]
theorem lC_t {cod : Nat → Int32} {n e : Nat} {σ0 σ m : qS} {v w c : Int32} {gr : qS → Nat} (hc : cod e = c) (h0 : c ≠ 0) (h : kI n σ m) (h5 : n ≤ 600) (hN : σ.2 = σ0.2) (hg : gr σ = 0) : lC F kI phi cod n σ0 (some (v, e, σ)) (some (w, qI m 0 0 57 c)) gr := by
  refine ⟨v, e, σ, w, _, rfl, rfl, ?_, fun q => absurd (hc.symm.trans q) h0, kI_mono (kI_57 h h5) (Nat.le_succ n), by rw [hg, phi_N hN]; omega⟩
  unfold fX9_thrown
  rw [nm_x, qI_ap, if_pos ⟨rfl, rfl, rfl⟩, hc]
theorem lC_o {cod : Nat → Int32} {n : Nat} {σ0 σ m : qS} {v : Int32} {gr : qS → Nat} (hc : cod 0 = 0) (h : kI (n + 1) σ m) (h57 : m.1 0 0 57 = 0) (hg : gr σ + phi σ0 ≤ phi σ) : lC F kI phi cod n σ0 (some (v, 0, σ)) (some (v, m)) gr := by
  refine ⟨v, 0, σ, v, m, rfl, rfl, ?_, fun _ => ⟨rfl, rfl⟩, h, hg⟩
  unfold fX9_thrown
  rw [nm_x, h57, hc]
theorem ls57 {m : qS} {z : Nat} : (lsM m z).1 0 0 57 = 0 := by
  unfold lsM
  rw [qI_ap, if_neg (by omega), qI_ap, if_pos ⟨rfl, rfl, rfl⟩]
end WH

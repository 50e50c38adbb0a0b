/-! PURE: a session is told late, hears, watches; in both -/
theorem rowL_TN {σ : qS} {z : Nat} {T : List Int32} (h : rowL σ z T) : TN σ z = T ∧ σ.2 3 z ≤ 8192 := by
  obtain ⟨a, b, k, h1, h2, h3, h4, h5, h6, h7⟩ := h
  have := pw9 h6
  unfold TN
  rw [h1, h2, ix_nI (by omega), ix_nI (by omega)]
  exact ⟨h7.symm, by omega⟩
/-- a session's watches and what it was told, as the class has them -/
def hsP (s : qS) (z : Nat) (p : List (Int32 × Int32) × List Int32) : Prop := ∃ c, c ≤ 8 ∧ s.1 50 z 11 = nI c ∧ wl (s.1 53 z) (s.1 54 z) 0 c = p.1 ∧ wOk p.1 ∧ rowL s z p.2
theorem hsP_len {s : qS} {z : Nat} {p : List (Int32 × Int32) × List Int32} (h : hsP s z p) : p.1.length ≤ 8 := by
  obtain ⟨c, c1, c2, c3, c4, c5⟩ := h
  rw [← c3, wl_len]
  exact c1
theorem wOk_hrW {σ : qS} {kd n : Nat} {W : List (Int32 × Int32)} (h : wOk W) : wOk (hrW σ kd n W) := fun w hw => h w (List.mem_filter.mp hw).1
theorem hrT_len {σ : qS} {kd n : Nat} {W : List (Int32 × Int32)} : (hrT σ kd n W).length ≤ W.length := by
  unfold hrT
  rw [List.length_map]
  exact List.length_filter_le _ _
section TE
variable {F : Nat}
theorem e_hear1 {σ s : qS} {z i M : Nat} {p : List (Int32 × Int32) × List Int32} (hF : 100 ≤ F) (hz : z < s.2 0 0) (hkd : kdN σ i ≤ 2) (hn8 : ndN σ i < 80) (hnM : ndN σ i < M) (hw : wfB σ (fun k => k < M)) (h2 : s.1 2 = σ.1 2) (hp : hsP s z p) (hl : p.2.length + 8 ≤ 8192) : ∃ s', fX6_hearOf F z (nI (kdN σ i)) (nI (ndN σ i)) s = some s' ∧ frH s s' z ∧ s'.1 50 z 10 = s.1 50 z 10 ∧ hsP s' z (hst σ i p) := by
  obtain ⟨c, c1, c2, c3, c4, c5⟩ := hp
  have hlen : p.1.length = c := by rw [← c3, wl_len]
  obtain ⟨s', a1, a2, a3, a4, c', b1, b2, b3⟩ := e_hearOf_l (F := F) hkd hn8 hnM hw hF c1 c 0 F 0 s p.2 (by omega) (by omega) (by omega) hz h2 c2 (by rw [c3]; exact c4) c5 (by omega)
  refine ⟨s', a1, a2, a3, ?_⟩
  unfold hst
  rw [if_pos hkd]
  rw [c3] at a4 b3
  exact ⟨c', by omega, b2, b3, wOk_hrW c4, a4⟩
theorem e_tell_l {σ : qS} {z t M S : Nat} (hF : 100 ≤ F) (hz : z < σ.2 0 0) (hS : S ≤ 999) (htS : t ≤ S) (h9 : σ.1 9 0 4 = nI S) (h3 : σ.2 2 z < 3) (h8 : σ.1 8 (σ.2 2 z) 2 = nI t) (hw : wfB σ (fun k => k < M)) (hlog : ∀ i, i < S → σ.1 11 0 i = nI (kdN σ i) ∧ σ.1 12 0 i = nI (ndN σ i) ∧ kdN σ i ≤ 4 ∧ ndN σ i < 80 ∧ ndN σ i < M) : ∀ (d i k : Nat) (s : qS) (p : List (Int32 × Int32) × List Int32), i + d = t → d < k → frH σ s z → hsP s z p → p.2.length ≤ 8 * i → ∃ s', fX8_tellWatches_5 F z k (nI i) s = some (qI s' 50 z 10 (nI t)) ∧ frH σ s' z ∧ hsP s' z (rng (fun x q => hst σ x q) i d p) ∧ (rng (fun x q => hst σ x q) i d p).2.length ≤ 8 * t := by
  intro d
  induction d with
  | zero =>
    intro i k s p hi hk hs hp hl
    obtain ⟨k, rfl⟩ : ∃ x, k = x + 1 := ⟨k - 1, by omega⟩
    obtain rfl : i = t := by omega
    have e9 : s.1 9 0 4 = nI S := by rw [hs.2.2.1 9 0 (by omega)]; exact h9
    have e2 : s.2 2 z = σ.2 2 z := hs.1 2 z (by omega)
    have e0 : s.2 0 0 = σ.2 0 0 := hs.1 0 0 (by omega)
    have e8 : s.1 8 (σ.2 2 z) 2 = nI i := by rw [hs.2.2.1 8 _ (by omega)]; exact h8
    refine ⟨s, ?_, hs, hp, hl⟩
    rw [fX8_tellWatches_5, nm_x, e9]
    unfold fX8_tellWatches_70
    have hend : (gnl z (s.2 0 0) (nm (s.2 2 z) fun i4 => (gnl i4 3 (nm (s.1 8 i4 2) fun v5 => (gnl z (s.2 0 0) (nm (qI s 50 z 10 v5) fun s6 => (some s6))))))) = some (qI s 50 z 10 (nI i)) := by
      rw [e0, gnl_pos hz, nm_x, e2, gnl_pos h3, nm_x, e8, gnl_pos hz, nm_x]
    by_cases c : S ≤ i
    · rw [if_pos ((nI_le' (by omega) (by omega)).mpr c)]
      exact hend
    · rw [if_neg (fun w => c ((nI_le' (by omega) (by omega)).mp w)), hend, e0, gnl_pos hz, nm_x, e2, gnl_pos h3, nm_x, e8, if_pos (Int32.le_refl _)]
  | succ d ih =>
    intro i k s p hi hk hs hp hl
    obtain ⟨k, rfl⟩ : ∃ x, k = x + 1 := ⟨k - 1, by omega⟩
    have e9 : s.1 9 0 4 = nI S := by rw [hs.2.2.1 9 0 (by omega)]; exact h9
    have e2 : s.2 2 z = σ.2 2 z := hs.1 2 z (by omega)
    have e0 : s.2 0 0 = σ.2 0 0 := hs.1 0 0 (by omega)
    have e8 : s.1 8 (σ.2 2 z) 2 = nI t := by rw [hs.2.2.1 8 _ (by omega)]; exact h8
    obtain ⟨l1, l2, l3, l4, l5⟩ := hlog i (by omega)
    have e11 : s.1 11 0 i = nI (kdN σ i) := by rw [hs.2.2.1 11 0 (by omega)]; exact l1
    have e12 : s.1 12 0 i = nI (ndN σ i) := by rw [hs.2.2.1 12 0 (by omega)]; exact l2
    rw [fX8_tellWatches_5, nm_x, e9, if_neg (fun w => by have := (nI_le' (by omega) (by omega)).mp w; omega), e0, gnl_pos hz, nm_x, e2, gnl_pos h3, nm_x, e8, if_neg (fun w => by have := (nI_le' (by omega) (by omega)).mp w; omega), e_tells (show i < 1024 by omega), bnd2_s]
    unfold fX8_tellWatches_64
    rw [rng]
    by_cases c : kdN σ i ≤ 2
    · have ht : tlls s i := by
        unfold tlls
        rw [e11]
        have : kdN σ i = 0 ∨ kdN σ i = 1 ∨ kdN σ i = 2 := by omega
        rcases this with q | q | q
        · rw [q]; exact Or.inl rfl
        · rw [q]; exact Or.inr (Or.inl rfl)
        · rw [q]; exact Or.inr (Or.inr rfl)
      rw [b2_t ht, if_neg (show ¬ (1 : Int32) = 0 by decide), ldi_nI (show i < 1024 by omega) (by decide), ldi_nI (show i < 1024 by omega) (by decide), e11, e12, e0, gnl_pos hz]
      obtain ⟨s1, a1, a2, a3, a4⟩ := e_hear1 (F := F) (σ := σ) (i := i) hF (by rw [e0]; exact hz) c l4 l5 hw (by funext j; exact hs.2.2.1 2 j (by omega)) hp (by omega)
      rw [a1, bnd_s, nm_x, nI_1]
      refine ih (i + 1) k s1 _ (by omega) (by omega) (frH_tr hs a2) a4 ?_
      unfold hst
      rw [if_pos c, List.length_append]
      have := hrT_len (σ := σ) (kd := kdN σ i) (n := ndN σ i) (W := p.1)
      have := hsP_len hp
      omega
    · have ht : ¬ tlls s i := by
        unfold tlls
        rw [e11]
        rintro (q | q | q)
        · have := nI_inj (b := 0) (by omega) (by decide) q; omega
        · have := nI_inj (b := 1) (by omega) (by decide) q; omega
        · have := nI_inj (b := 2) (by omega) (by decide) q; omega
      rw [b2_f ht, if_pos rfl, nm_x, nI_1]
      have eh : hst σ i p = p := by unfold hst; rw [if_neg c]
      rw [eh]
      exact ih (i + 1) k s p (by omega) (by omega) hs hp (by omega)
/-- the class's session z is up to date with its server -/
def upD (σ m : qS) (z : Nat) : Prop := ∃ t, t ≤ 990 ∧ σ.1 50 z 10 = nI t ∧ σ.1 8 (σ.2 2 z) 2 = nI t ∧ ∃ p, hsP σ z p ∧ p.2.length ≤ 8 * t ∧ ssM m z (8 * t) p
theorem kHz_upD {σ m : qS} {z t : Nat} (h10 : σ.1 50 z 10 = nI t) (ht : t ≤ 990) {p : List (Int32 × Int32) × List Int32} (hp : hsP σ z p) (hl : p.2.length ≤ 8 * t) (hm : ssM m z (8 * t) p) : kHz σ m z t := by
  obtain ⟨c, c1, c2, c3, c4, c5⟩ := hp
  have ea : aN σ z = t := by unfold aN; rw [h10, ix_nI (by omega)]
  have ec : cN σ z = c := by unfold cN; rw [c2, ix_nI (by omega)]
  have eW : WN σ z = p.1 := by unfold WN; rw [ec, c3]
  have eT : TN σ z = p.2 := (rowL_TN c5).1
  refine ⟨⟨by rw [ea]; exact h10, by rw [ec]; exact c2, by rw [ec]; exact c1, by rw [eW]; exact c4, by rw [eT]; exact c5, by rw [eT, ea]; exact hl⟩, by rw [ea]; exact Nat.le_refl _, ?_⟩
  have eP : pN σ z t = p := by
    unfold pN
    rw [ea, Nat.sub_self, eW, eT]
    rfl
  rw [eP]
  exact hm
/-- session z's own watches and row change, in both -/
theorem kI_own {n z : Nat} {σ m σ' m' : qS} (h : kI n σ m) (h5 : n ≤ 512) (hz : z < σ.2 0 0) (hl : m.1 135 0 z = 0) (hN : ∀ k j, ¬ (k = 3 ∧ j = z) → σ'.2 k j = σ.2 k j) (o : ∀ f j k, ¬ ((f = 53 ∨ f = 54 ∨ f = 55 ∨ f = 58) ∧ j = z) → ¬ (f = 50 ∧ j = z ∧ (k = 10 ∨ k = 11)) → σ'.1 f j k = σ.1 f j k) (p : ∀ f q, ¬ ((f = 141 ∨ f = 142) ∧ 8 * z ≤ q ∧ q < 8 * z + 8) → ¬ ((f = 143 ∨ f = 145 ∨ f = 146) ∧ q = z) → ¬ (f = 144 ∧ 8000 * z ≤ q ∧ q < 8000 * z + 8000) → m'.1 f 0 q = m.1 f 0 q) (hu : upD σ' m' z) : kI n σ' m' := by
  obtain ⟨C, π, M, S, L, Z, Y, T, cmp, hk, hR, hlo, h6, hK, hP, hcL, hT, hLn, hS, hp9⟩ := h
  have hM80 : M ≤ 80 := hk.1.2.1.2.2.2.2.1
  have hzZ : z < Z := by rw [← hR.1.1]; exact hz
  obtain ⟨t, t1, t2, t3, w, u1, u2, u3⟩ := hu
  have n8 : ∀ z', σ'.2 2 z' = σ.2 2 z' := fun z' => hN 2 z' (by omega)
  have est : ∀ s, stN σ' s = stN σ s := fun s => by unfold stN; rw [o 8 s 2 (by omega) (by omega)]
  have hH : kHs σ' m' Z := fun y hy h0 => by
    by_cases e : y = z
    · subst e
      obtain ⟨q1, q2, q3⟩ := hk.2.2.2.1 y hy hl
      rw [n8, p 132 y (by omega) (by omega) (by omega)]
      refine ⟨q1, q2, ?_⟩
      have et : stN σ' (σ.2 2 y) = t := by
        unfold stN
        rw [← n8 y, t3, ix_nI (by omega)]
      rw [et]
      exact kHz_upD t2 t1 u1 u2 u3
    · have hl' : m.1 135 0 y = 0 := by rw [← p 135 y (by omega) (by omega) (by omega)]; exact h0
      obtain ⟨q1, q2, q3⟩ := hk.2.2.2.1 y hy hl'
      rw [n8, p 132 y (by omega) (by omega) (by omega), est]
      refine ⟨q1, q2, ?_⟩
      obtain ⟨r1, r2, r3⟩ := q3
      have hB := (hk.2.1 _ q1).2.2.2.2.1
      exact kHz_fr ⟨r1, r2, ssM_fr r3 (fun f q hq => p f q (by omega) (by omega) (by omega)) (by omega)⟩ (by funext q; exact o 2 0 q (by omega) (by omega)) (fun i _ => ⟨o 11 0 i (by omega) (by omega), o 12 0 i (by omega) (by omega)⟩) ⟨o 50 y 10 (by omega) (by omega), o 50 y 11 (by omega) (by omega)⟩ (by funext q; exact o 53 y q (by omega) (by omega)) (by funext q; exact o 54 y q (by omega) (by omega)) (by funext q; exact o 55 y q (by omega) (by omega)) (by funext q; exact o 58 y q (by omega) (by omega)) (hN 3 y (by omega))
  have hpn : pnd m' Z = pnd m Z := pnd_congr (fun y _ => pnC_congr (p 136 y (by omega) (by omega) (by omega)) (p 137 y (by omega) (by omega) (by omega)))
  refine ⟨C, π, M, S, L, Z, Y, T, cmp, kD_fr hk hH (fun f j k w => o f j k (by omega) (by omega)) (fun f q w => p f q (by omega) (by omega) (by omega)), ?_, kLo_fr hlo (o 0 0 17 (by omega) (by omega)) (p 0 54 (by omega) (by omega) (by omega)), fun k k8 => by rw [o 6 0 k (by omega) (by omega)]; exact h6 k k8, kK_fr hK (o 0 0 12 (by omega) (by omega)) (fun f k w1 w2 => o f 5 k (by omega) (by omega)) (p 0 17 (by omega) (by omega) (by omega)) (fun f q w => p f q (by omega) (by omega) (by omega)) (fun f k w1 w2 w3 => o f 0 k (by omega) (by omega)) ⟨by rw [o 2 0 0 (by omega) (by omega)]; exact hk.1.2.1.2.2.1.1, fun k k1 k2 k3 => by rw [o 2 0 k (by omega) (by omega)]; exact hk.1.2.1.2.2.1.2 k k1 k2 k3⟩ (Nat.le_refl _) hM80 (Nat.le_refl _), kP_fr hP (fun f k w1 w2 => o f 4 k (by omega) (by omega)) (fun f k w1 w2 w3 => rfl) (fun f q w1 w2 w3 => p f q (by omega) (by omega) (by omega)) (Nat.le_refl _), hcL, hT, hLn, by rw [hpn]; exact hS, by rw [hpn]; exact hp9⟩
  obtain ⟨⟨a1, a2, a3, a4, a5, a6, a7⟩, b, c, d, e, ⟨f1, f2, f3, f4⟩, g⟩ := hR
  refine ⟨⟨by rw [hN 0 0 (by omega)]; exact a1, a2, by rw [hN 1 0 (by omega)]; exact a3, a4, by rw [p 0 52 (by omega) (by omega) (by omega)]; exact a5, by rw [o 0 0 14 (by omega) (by omega)]; exact a6, by rw [p 0 53 (by omega) (by omega) (by omega)]; exact a7⟩, fun y hy => kZ_fr (b y hy) (fun f k w => o f y k (by omega) (by omega)) (fun a _ _ => by funext k; exact o 56 a k (by omega) (by omega)) (fun f w => p f y (by omega) (by omega) (by omega)) (fun q _ _ => p 138 q (by omega) (by omega) (by omega)) (fun q _ _ => p 139 q (by omega) (by omega) (by omega)), fun i hi => kLz_fr (c i hi) (fun k _ => o 57 i k (by omega) (by omega)) (fun f w1 w2 => p f i (by omega) (by omega) (by omega)) (Nat.le_refl _), kFr_fr d (fun f y w1 w2 w3 => p f y (by omega) (by omega) (by omega)) (fun q _ => p 147 q (by omega) (by omega) (by omega)) (fun i _ _ => p 151 i (by omega) (by omega) (by omega)), kBl_fr e (fun k => o 15 0 k (by omega) (by omega)) (fun q => p 147 q (by omega) (by omega) (by omega)), ⟨by rw [o 0 0 18 (by omega) (by omega), p 0 55 (by omega) (by omega) (by omega)]; exact f1, by rw [o 0 0 19 (by omega) (by omega), p 0 56 (by omega) (by omega) (by omega)]; exact f2, by rw [o 0 0 16 (by omega) (by omega)]; exact f3, by rw [p 0 28 (by omega) (by omega) (by omega)]; exact f4⟩, fun y => ?_⟩
  by_cases e : y = z
  · subst e
    obtain ⟨c', -, -, -, -, c5⟩ := u1
    exact ⟨(rowL_TN c5).2, fun w => by omega⟩
  · rw [hN 3 y (by omega)]
    exact g y
/-- all that its server has got is told -/
theorem kI_tell {n z : Nat} {σ m : qS} (h : kI n σ m) (h5 : n ≤ 512) (hz : z < σ.2 0 0) (hl : m.1 135 0 z = 0) (hF : 100000 ≤ F) : ∃ σ', fX8_tellWatches F z σ = some σ' ∧ kI n σ' m ∧ upD σ' m z ∧ (∀ k j, ¬ (k = 3 ∧ j = z) → σ'.2 k j = σ.2 k j) ∧ (∀ f j k, ¬ ((f = 53 ∨ f = 54 ∨ f = 55 ∨ f = 58) ∧ j = z) → ¬ (f = 50 ∧ j = z ∧ (k = 10 ∨ k = 11)) → σ'.1 f j k = σ.1 f j k) ∧ σ'.2 3 z - σ.2 3 z + phi σ ≤ phi σ' := by
  have hI := h
  obtain ⟨C, π, M, S, L, Z, Y, T, cmp, hk, hR, hlo, h6, hK, hP, hcL, hT, hLn, hS, hp9⟩ := hI
  have hM80 : M ≤ 80 := hk.1.2.1.2.2.2.2.1
  have hzZ : z < Z := by rw [← hR.1.1]; exact hz
  obtain ⟨q1, q2, ⟨⟨v1, v2, v3, v4, v5, v6⟩, q4, q5⟩⟩ := hk.2.2.2.1 z hzZ hl
  obtain ⟨y1, y2, y3, y4, y5, -⟩ := hk.2.1 _ q1
  have hp : hsP σ z (WN σ z, TN σ z) := ⟨cN σ z, v3, v2, rfl, v4, v5⟩
  obtain ⟨s', a1, a2, a3, a4⟩ := e_tell_l (F := F) (σ := σ) (z := z) (t := stN σ (σ.2 2 z)) (M := M) (S := S) (by omega) hz (by omega) y5 hk.1.1.1 q1 y1 (bwf_wfB hk.1.2.1.2.2.1) (fun i hi => by
    obtain ⟨⟨⟨l1, l2, l3, l4⟩, l5, l6⟩, -⟩ := hk.1.1.2.2.1 i hi
    exact ⟨l1, l2, l5.2.2.1, l5.1, l5.2.1⟩) (stN σ (σ.2 2 z) - aN σ z) (aN σ z) F σ (WN σ z, TN σ z) (by omega) (by omega) frH_rf hp v6
  have ef : fX8_tellWatches F z σ = some (qI s' 50 z 10 (nI (stN σ (σ.2 2 z)))) := by
    unfold fX8_tellWatches
    rw [gnl_pos hz, nm_x, v1]
    exact a1
  have oo : ∀ f j k, ¬ ((f = 53 ∨ f = 54 ∨ f = 55 ∨ f = 58) ∧ j = z) → ¬ (f = 50 ∧ j = z ∧ (k = 10 ∨ k = 11)) → (qI s' 50 z 10 (nI (stN σ (σ.2 2 z)))).1 f j k = σ.1 f j k := fun f j k w1 w2 => by
    rw [qI_ap, if_neg (by omega)]
    by_cases e : f = 50 ∧ j = z
    · rw [e.1, e.2]
      exact a2.2.2.2 k (by omega) (by omega)
    · rw [a2.2.2.1 f j (by omega)]
  have hu : upD (qI s' 50 z 10 (nI (stN σ (σ.2 2 z)))) m z := by
    refine ⟨stN σ (σ.2 2 z), by omega, by rw [qI_ap, if_pos ⟨rfl, rfl, rfl⟩], ?_, pN σ z (stN σ (σ.2 2 z)), ?_, a4, q5⟩
    · show (qI s' 50 z 10 (nI (stN σ (σ.2 2 z)))).1 8 (s'.2 2 z) 2 = _
      rw [a2.1 2 z (by omega), oo 8 _ 2 (by omega) (by omega)]
      exact y1
    · obtain ⟨c, c1, c2, c3, c4, x1, x2, x3, x4, x5, x6, x7, x8, x9, x10⟩ := a3
      refine ⟨c, c1, by rw [qI_ap, if_neg (by omega)]; exact c2, ?_, c4, x1, x2, x3, by rw [qI_ap, if_neg (by omega)]; exact x4, by rw [qI_ap, if_neg (by omega)]; exact x5, x6, x7, x8, x9, ?_⟩
      · rw [qI_k (by omega), qI_k (by omega)]
        exact c3
      · rw [qI_k (by omega)]
        exact x10
  refine ⟨_, ef, kI_own h h5 hz hl (fun k j w => a2.1 k j w) oo (fun _ _ _ _ _ => rfl) hu, hu, fun k j w => a2.1 k j w, oo, ?_⟩
  have hz10 : z < 10 := by have := hR.1.2.1; omega
  have p1 := phs_upd (f := σ.2 3) (g := s'.2 3) hz10 (fun y _ hy => a2.1 3 y (by omega))
  have p2 := a2.2.1
  show s'.2 3 z - σ.2 3 z + phs (σ.2 3) 10 ≤ phs (s'.2 3) 10
  omega
end TE

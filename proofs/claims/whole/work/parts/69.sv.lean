/-! PURE: servers and sessions, in both -/
def stN (σ : qS) (s : Nat) : Nat := (σ.1 8 s 2).toNatClampNeg
def cgN (σ : qS) (s : Nat) : Nat := (σ.1 8 s 1).toNatClampNeg
def aN (σ : qS) (z : Nat) : Nat := (σ.1 50 z 10).toNatClampNeg
def cN (σ : qS) (z : Nat) : Nat := (σ.1 50 z 11).toNatClampNeg
/-- a session's watches and what it was told and has not heard, in the class -/
def WN (σ : qS) (z : Nat) : List (Int32 × Int32) := wl (σ.1 53 z) (σ.1 54 z) 0 (cN σ z)
def TN (σ : qS) (z : Nat) : List Int32 := sl (σ.1 58 z) (σ.1 55 z 1).toNatClampNeg ((σ.1 55 z 2).toNatClampNeg - (σ.1 55 z 1).toNatClampNeg)
def hsV (σ : qS) (z : Nat) : Prop := σ.1 50 z 10 = nI (aN σ z) ∧ σ.1 50 z 11 = nI (cN σ z) ∧ cN σ z ≤ 8 ∧ wOk (WN σ z) ∧ rowL σ z (TN σ z) ∧ (TN σ z).length ≤ 8 * aN σ z
/-- what they are once it heard of all steps before x -/
def pN (σ : qS) (z x : Nat) : List (Int32 × Int32) × List Int32 := rng (fun i p => hst σ i p) (aN σ z) (x - aN σ z) (WN σ z, TN σ z)
theorem pN_s {σ : qS} {z x : Nat} (h : aN σ z ≤ x) : pN σ z (x + 1) = hst σ x (pN σ z x) := by
  unfold pN
  rw [show x + 1 - aN σ z = (x - aN σ z) + 1 by omega, rng_split (d := x - aN σ z) (e := 1)]
  show hst σ (aN σ z + (x - aN σ z)) _ = _
  rw [show aN σ z + (x - aN σ z) = x by omega]
/-- session z in both, its server at step t -/
def kHz (σ m : qS) (z t : Nat) : Prop := hsV σ z ∧ aN σ z ≤ t ∧ ssM m z (8 * t) (pN σ z t)
theorem hst_congr {σ σ' : qS} {i : Nat} (h2 : σ'.1 2 0 = σ.1 2 0) (h11 : σ'.1 11 0 i = σ.1 11 0 i) (h12 : σ'.1 12 0 i = σ.1 12 0 i) (p : List (Int32 × Int32) × List Int32) : hst σ' i p = hst σ i p := by
  have ek : kdN σ' i = kdN σ i := by unfold kdN; rw [h11]
  have en : ndN σ' i = ndN σ i := by unfold ndN; rw [h12]
  have ep : parN σ' = parN σ := by
    funext q
    unfold parN
    rw [h2]
  have ef : fir σ' (kdN σ i) (ndN σ i) = fir σ (kdN σ i) (ndN σ i) := by
    funext w
    unfold fir
    rw [ep, h2]
  unfold hst hrW hrT
  rw [ek, en, ef]
/-- a session's state in the class hangs on its rows and the log -/
theorem kHz_fr {σ σ' m : qS} {z t : Nat} (h : kHz σ m z t) (h2 : σ'.1 2 0 = σ.1 2 0) (hl : ∀ i, i < t → σ'.1 11 0 i = σ.1 11 0 i ∧ σ'.1 12 0 i = σ.1 12 0 i) (h50 : σ'.1 50 z 10 = σ.1 50 z 10 ∧ σ'.1 50 z 11 = σ.1 50 z 11) (h53 : σ'.1 53 z = σ.1 53 z) (h54 : σ'.1 54 z = σ.1 54 z) (h55 : σ'.1 55 z = σ.1 55 z) (h58 : σ'.1 58 z = σ.1 58 z) (hN : σ'.2 3 z = σ.2 3 z) : kHz σ' m z t := by
  have ea : aN σ' z = aN σ z := by unfold aN; rw [h50.1]
  have ec : cN σ' z = cN σ z := by unfold cN; rw [h50.2]
  have eW : WN σ' z = WN σ z := by unfold WN; rw [ec, h53, h54]
  have eT : TN σ' z = TN σ z := by unfold TN; rw [h55, h58]
  obtain ⟨⟨q1, q2, q3, q4, q5, q6⟩, q7, q8⟩ := h
  have eR : rowL σ' z (TN σ z) := by
    obtain ⟨a, b, k, k1, k2, k3, k4, k5, k6, k7⟩ := q5
    exact ⟨a, b, k, by rw [h55]; exact k1, by rw [h55]; exact k2, k3, by rw [hN]; exact k4, by rw [hN]; exact k5, k6, by rw [h58]; exact k7⟩
  have eP : pN σ' z t = pN σ z t := by
    unfold pN
    rw [ea, eW, eT]
    exact rng_congr (fun k b k1 k2 => hst_congr h2 (hl k (by omega)).1 (hl k (by omega)).2 b)
  unfold kHz hsV
  rw [ea, ec, eW, eT, eP, h50.1, h50.2]
  exact ⟨⟨q1, q2, q3, q4, eR, q6⟩, q7, q8⟩
/-- servers, in both: S0 steps and L changes are all that the first has -/
def kSv (σ m : qS) (C : Nat → qS) (π : Nat → Nat) (S S0 L : Nat) : Prop := ∀ s, s < 3 → σ.1 8 s 2 = nI (stN σ s) ∧ σ.1 8 s 1 = nI (cgN σ s) ∧ m.1 129 0 s = nI (π (stN σ s)) ∧ m.1 130 0 s = nI (cgN σ s) ∧ stN σ s ≤ S0 ∧ cgN σ s ≤ L ∧ (∀ i, i < S → (i < stN σ s ↔ chN σ i ≤ cgN σ s)) ∧ (1 ≤ s → tEq σ s (C (stN σ s)) 0 ∧ rEq m s (fun f k => (C (stN σ s)).1 f 0 k)) ∧ (s = 0 → stN σ s = S0 ∧ cgN σ s = L)
/-- sessions that live -/
def kHs (σ m : qS) (Z : Nat) : Prop := ∀ z, z < Z → m.1 135 0 z = 0 → σ.2 2 z < 3 ∧ m.1 132 0 z = nI (σ.2 2 z) ∧ kHz σ m z (stN σ (σ.2 2 z))
theorem first_ch {σ : qS} {S u : Nat} : ∀ d t, t + d = S → ∃ j, t ≤ j ∧ j ≤ S ∧ (∀ x, t ≤ x → x < j → chN σ x ≤ u) ∧ (j = S ∨ u < chN σ j) := by
  intro d
  induction d with
  | zero => intro t h; exact ⟨t, Nat.le_refl _, by omega, fun x h1 h2 => by omega, Or.inl (by omega)⟩
  | succ d ih =>
    intro t h
    by_cases c : u < chN σ t
    · exact ⟨t, Nat.le_refl _, by omega, fun x h1 h2 => by omega, Or.inr c⟩
    · obtain ⟨j, h1, h2, h3, h4⟩ := ih (t + 1) (by omega)
      refine ⟨j, by omega, h2, fun x g1 g2 => ?_, h4⟩
      by_cases e : x = t
      · subst e; omega
      · exact h3 x (by omega) g2
section SV
variable {F : Nat}
/-- a server gets changes up to u, in both -/
theorem pr_follow {σ m : qS} {C : Nat → qS} {π : Nat → Nat} {M S L Z s u : Nat} (x3 : Int32) (hk : kLog σ m C π M S) (hBr : kBr σ m M) (hS : S ≤ 999) (hR : π S ≤ 90000) (hsv : kSv σ m C π S S L) (ht0 : tEq σ 0 (C S) 0) (hmono : ∀ i j, i ≤ j → j < S → chN σ i ≤ chN σ j) (hZ : Z ≤ 10) (h48 : m.1 0 0 48 = nI Z) (hH : kHs σ m Z) (hs : s < 3) (h1 : cgN σ s ≤ u) (h2 : u ≤ L) (hL : L < 2 ^ 31) (hF : 100000 ≤ F) :
    ∃ σ' m' j, fX8_catchUp_30 F s F x3 (nI (stN σ s)) (qI σ 8 s 1 (nI u)) = some (x3, σ') ∧ fX9_follows F (nI s) (nI u) m = some m' ∧ frS (qI σ 8 s 1 (nI u)) σ' s ∧ σ'.1 8 s 2 = nI j ∧ tEq σ' s (C j) 0 ∧ stN σ s ≤ j ∧ j ≤ S ∧ (∀ i, i < S → (i < j ↔ chN σ i ≤ u)) ∧ m'.1 129 0 s = nI (π j) ∧ m'.1 130 0 s = nI u ∧ (1 ≤ s → rEq m' s (fun f k => (C j).1 f 0 k)) ∧ (∀ z, z < Z → lvS m s z → ssM m' z (8 * j) (pN σ z j)) ∧ (∃ m1, frF m m1 s Z ∧ m' = qI m1 130 0 s (nI u)) := by
  obtain ⟨v1, v2, v3, v4, v5, v6, v7, v8, v9⟩ := hsv s hs
  obtain ⟨j, j1, j2, j3, j4⟩ := first_ch (σ := σ) (S := S) (u := u) (S - stN σ s) (stN σ s) (by omega)
  have htS : tEq σ s (C (stN σ s)) 0 := by
    by_cases c : 1 ≤ s
    · exact (v8 c).1
    · obtain rfl : s = 0 := by omega
      rw [(v9 rfl).1]
      exact ht0
  have o : ∀ f i k, ¬ (f = 8 ∧ i = s ∧ k = 1) → (qI σ 8 s 1 (nI u)).1 f i k = σ.1 f i k := fun f i k h => by rw [qI_ap, if_neg h]
  have hk1 : kLog (qI σ 8 s 1 (nI u)) m C π M S := kLog_fr hk (fun f hf => by funext k; exact o f 0 k (by omega))
  have hch1 : ∀ i, chN (qI σ 8 s 1 (nI u)) i = chN σ i := fun i => by unfold chN; rw [o 10 0 i (by omega)]
  obtain ⟨σ', c1, c2, c3, c4⟩ := e_catS (F := F) (s := s) (i := stN σ s) (j := j) (u := u) hs hk1 ⟨by rw [o _ _ _ (by omega)]; exact hBr.2.2.1.1, fun k a b c => by rw [o _ _ _ (by omega)]; exact hBr.2.2.1.2 k a b c⟩ (by rw [o _ _ _ (by omega)]; exact v1) (by rw [qI_ap, if_pos ⟨rfl, rfl, rfl⟩]) (fun f k a b c => by rw [o _ _ _ (by omega)]; exact htS f k a b c) j1 j2 hS (fun x a b => by rw [hch1]; exact j3 x a b) (by omega) (by rw [hch1]; exact j4) (by omega) x3
  have hpre : ∀ z, z < Z → lvS m s z → kHz σ m z (stN σ s) := fun z hz hl => by
    obtain ⟨q1, q2, q3⟩ := hH z hz hl.1
    have e : σ.2 2 z = s := nI_inj (by omega) (by omega) (q2.symm.trans hl.2)
    rw [e] at q3
    exact q3
  obtain ⟨m1, d1, d2, d3, d4, d5⟩ := e_folS (F := F) (σ := σ) (s := s) (i := stN σ s) (j := j) (u := u) (Z := Z) (P := fun x z => rng (fun i p => hst σ i p) (stN σ s) (x - stN σ s) (pN σ z (stN σ s))) hs hk hBr v3 hR j1 j2 hS j3 (by omega) (by omega) hZ h48 (fun x z a b => by
    show rng _ _ (x + 1 - stN σ s) _ = _
    rw [show x + 1 - stN σ s = (x - stN σ s) + 1 by omega, rng_split (d := x - stN σ s) (e := 1)]
    show hst σ (stN σ s + (x - stN σ s)) _ = _
    rw [show stN σ s + (x - stN σ s) = x by omega]) (fun z hz hl => by
    show ssM m z _ (rng _ _ (stN σ s - stN σ s) _)
    rw [Nat.sub_self]
    exact (hpre z hz hl).2.2) (fun h => (v8 h).2)
  have hend : π j = π S ∨ ∃ ch, m1.1 120 0 (π j) = nI ch ∧ u < ch ∧ ch < 2 ^ 31 := by
    rcases j4 with e | e
    · exact Or.inl (by rw [e])
    · by_cases c : j = S
      · exact Or.inl (by rw [c])
      · obtain ⟨⟨⟨l1, l2, l3, l4⟩, l5, l6⟩, l7, l8⟩ := hk.2.2.1 j (by omega)
        have hg : gvN (C j) (kdN σ j) (ndN σ j) (ndN σ j) := ⟨fun _ => rfl, fun _ => ⟨Nat.le_refl _, l5.1, Or.inl rfl⟩⟩
        have h0 : cntN (gvN (C j) (kdN σ j) (ndN σ j)) 0 (ndN σ j) = 0 := cntN_0 (fun k _ k2 k3 => by
          by_cases c9 : kdN σ j ≤ 2
          · have := k3.1 c9
            omega
          · have := (k3.2 (by omega)).1
            omega)
        have hb := (l7 (ndN σ j) l5.1 hg).1
        rw [h0, Nat.add_zero] at hb
        exact Or.inr ⟨chN σ j, by rw [frF_o d3 (by omega)]; exact hb, e, l4⟩
  have hmj : π (stN σ s) ≤ π j := kLog_mono hk j1 j2
  have hmS : π j ≤ π S := kLog_mono hk j2 (Nat.le_refl _)
  obtain ⟨n, hn⟩ : ∃ n, F = (n + 1) + (π j - π (stN σ s)) := ⟨F - 1 - (π j - π (stN σ s)), by omega⟩
  have hfin := e_folEnd (F := F) (m := m1) (s := s) (p := π j) (R := π S) (u := u) (n := n) (g := cgN σ s) hs d2 (by rw [frF_o d3 (by omega)]; exact hk.2.1) hmS hR hend (by rw [d3.2 130 0 s (by omega) (by omega) (fun z _ => by omega)]; exact v4) (by omega) (by omega)
  rw [Nat.max_eq_right h1] at hfin
  have hfol : fX9_follows F (nI s) (nI u) m = some (qI m1 130 0 s (nI u)) := by
    unfold fX9_follows
    have e : fX9_follows_0 F F (nI s) (nI u) m = fX9_follows_0 F ((n + 1) + (π j - π (stN σ s))) (nI s) (nI u) m := by rw [← hn]
    rw [e, d1, hfin]
  refine ⟨σ', qI m1 130 0 s (nI u), j, c1, hfol, c4, c3, c2, j1, j2, fun i hi => ?_, by rw [qI_ap, if_neg (by omega)]; exact d2, by rw [qI_ap, if_pos ⟨rfl, rfl, rfl⟩], fun h => rEq_m (d4 h) (fun f q a b _ _ => by rw [qI_ap, if_neg (by omega)]), fun z hz hl => ?_, m1, d3, rfl⟩
  · constructor
    · intro hij
      by_cases c : i < stN σ s
      · have := (v7 i hi).mp c
        omega
      · exact j3 i (by omega) hij
    · intro hc
      rcases j4 with e | e
      · omega
      · by_cases c : i < j
        · exact c
        · by_cases cj : j < S
          · have := hmono j i (by omega) hi
            omega
          · omega
  · have h5 := d5 z hz hl
    have ha := (hpre z hz hl).2.1
    have eP : rng (fun i p => hst σ i p) (stN σ s) (j - stN σ s) (pN σ z (stN σ s)) = pN σ z j := by
      unfold pN
      rw [show j - aN σ z = (stN σ s - aN σ z) + (j - stN σ s) by omega, rng_split, show aN σ z + (stN σ s - aN σ z) = stN σ s by omega]
    rw [eP] at h5
    exact ssM_fr h5 (fun f q hq => by rw [qI_ap, if_neg (by omega)]) (by omega)
end SV

/-! LEASE: one cell more -/
theorem cCe_lease {Y : Nat → ClassId} (f : Nat → Int32) {N N' : Nat → Nat → Nat} {ad ad' : qAd} (hA : ∀ k i, k ≠ 57 → k ≠ 19 → ad' k i = ad k i) (hN : ∀ k i, k ≠ 1 → N' k i = N k i) {k i : Nat} (h18 : k ≠ 18) (h19 : k ≠ 19) : cCe Y f N' ad' k i = cCe Y f N ad k i := by
  have a1 := fun i => hA 1 i (by decide) (by decide)
  have a2 := fun i => hA 2 i (by decide) (by decide)
  have a3 := fun i => hA 3 i (by decide) (by decide)
  have a4 := fun i => hA 4 i (by decide) (by decide)
  have a5 := fun i => hA 5 i (by decide) (by decide)
  have a6 := fun i => hA 6 i (by decide) (by decide)
  have a7 := fun i => hA 7 i (by decide) (by decide)
  have a8 := fun i => hA 8 i (by decide) (by decide)
  have a9 := fun i => hA 9 i (by decide) (by decide)
  have a10 := fun i => hA 10 i (by decide) (by decide)
  have a11 := fun i => hA 11 i (by decide) (by decide)
  have a12 := fun i => hA 12 i (by decide) (by decide)
  have a13 := fun i => hA 13 i (by decide) (by decide)
  have a14 := fun i => hA 14 i (by decide) (by decide)
  have a15 := fun i => hA 15 i (by decide) (by decide)
  have a16 := fun i => hA 16 i (by decide) (by decide)
  have a17 := fun i => hA 17 i (by decide) (by decide)
  have a18 := fun i => hA 18 i (by decide) (by decide)
  have a30 := fun i => hA 30 i (by decide) (by decide)
  have a31 := fun i => hA 31 i (by decide) (by decide)
  have a32 := fun i => hA 32 i (by decide) (by decide)
  have a33 := fun i => hA 33 i (by decide) (by decide)
  have a34 := fun i => hA 34 i (by decide) (by decide)
  have a35 := fun i => hA 35 i (by decide) (by decide)
  have a36 := fun i => hA 36 i (by decide) (by decide)
  have a37 := fun i => hA 37 i (by decide) (by decide)
  have a38 := fun i => hA 38 i (by decide) (by decide)
  have a39 := fun i => hA 39 i (by decide) (by decide)
  have a50 := fun i => hA 50 i (by decide) (by decide)
  have a51 := fun i => hA 51 i (by decide) (by decide)
  have a52 := fun i => hA 52 i (by decide) (by decide)
  have a53 := fun i => hA 53 i (by decide) (by decide)
  have a54 := fun i => hA 54 i (by decide) (by decide)
  have a55 := fun i => hA 55 i (by decide) (by decide)
  have a56 := fun i => hA 56 i (by decide) (by decide)
  have a58 := fun i => hA 58 i (by decide) (by decide)
  have n0 := fun i => hN 0 i (by decide)
  have n2 := fun i => hN 2 i (by decide)
  have n3 := fun i => hN 3 i (by decide)
  unfold cCe
  simp only [h18, h19, if_false, a1, a2, a3, a4, a5, a6, a7, a8, a9, a10, a11, a12, a13, a14, a15, a16, a17, a18, a30, a31, a32, a33, a34, a35, a36, a37, a38, a39, a50, a51, a52, a53, a54, a55, a56, a58, n0, n2, n3]
theorem cNum_lease {N N' : Nat → Nat → Nat} (hN : N' 0 0 = N 0 0) {k : Nat} (h57 : k ≠ 57) (h19 : k ≠ 19) : cNum N' k = cNum N k := by
  unfold cNum
  simp only [h57, h19, if_false, hN]
/-- the state with one lease more -/
def newL (t u : Int32) (σ : qS) : qS := (fun k i => if k = 57 ∧ i = σ.2 1 0 then (fun j => if j = 0 then t else if j = 1 then u else 0) else if k = 18 ∧ i = 0 then upd (σ.1 18 0) 0 (σ.1 18 0 0 + 1) else σ.1 k i, fun k i => if k = 1 ∧ i = 0 then σ.2 1 0 + 1 else σ.2 k i)
def newLa (ad : qAd) (N q b : Nat) : qAd := fun k i => if k = 57 ∧ i = N then q else if k = 19 ∧ i = 0 then b else ad k i
def fX8_lease (F : Nat) (p1 : Int32) (σ : qS) : Option (Int32 × Nat × qS) :=
  bnd2 (fX8_isWithin F p1 1 50 σ) fun v1 s1 => if v1 = 0 then some (0, 2, s1) else gnl (s1.2 1 0) 11 (if nI (s1.2 1 0) < 10 then some (nI (s1.2 1 0 + 1) - 1, 0, newL p1 (s1.1 0 0 14 + p1) s1) else some (0, 3, s1))
theorem newL_out {s : State} {H : Heap} {locs : List Loc} {D : va_G} {Y : Nat → ClassId} {A : Nat → Prop} {B0 e0 : Nat} {ad : qAd} {σ : qS} {K : List (Nat × Nat)} {q b : Nat} {t u z : Int32} {f : Nat → Option Nat}
    (hm : qM B0 e0 D Y A s ad σ K (wsL (ad 18 0) q 3 [.int t, .int u, .int 0] (σ.1 18 0 0 + 1) z Y b f) H locs) (hK : ∀ x ∈ K, x = (18, 0) ∨ x = (19, 0)) (hz : z = nI (σ.2 1 0 + 1)) (hf : ∀ j, f j = if j < σ.2 1 0 + 1 then some (newLa ad (σ.2 1 0) q b 57 j) else none) :
    qW D (cL Y) (qT Y) A s.heap s (newLa ad (σ.2 1 0) q b) (newL t u σ) H locs := by
  subst hz
  obtain rfl : f = _ := funext hf
  have hN1 : (newL t u σ).2 1 0 = σ.2 1 0 + 1 := by
    show (if (1 : Nat) = 1 ∧ (0 : Nat) = 0 then σ.2 1 0 + 1 else σ.2 1 0) = _
    exact if_pos ⟨rfl, rfl⟩
  refine m_out hm (fun k i => if k = 18 ∧ i = 0 then some 0 else if k = 57 ∧ i = σ.2 1 0 then some 1 else if k = 19 ∧ i = 0 then some 2 else none) (fun k i j hd h => ?_) (fun k i hd h => ?_) (fun k i k' i' j h h' => ?_)
  · by_cases c1 : k = 18 ∧ i = 0
    · obtain ⟨rfl, rfl⟩ := c1
      rw [if_pos ⟨rfl, rfl⟩] at h
      cases h
      refine ⟨_, rfl, fun h9 => ?_⟩
      have e9 : qc (cL Y) (newLa ad (σ.2 1 0) q b) (newL t u σ) 18 0 = .inr (0, [.int (σ.1 18 0 0 + 1), .ref b, .int (nI (σ.2 1 0 + 1))]) := by
        show (.inr (0, [Value.int ((newL t u σ).1 18 0 0), .ref (newLa ad (σ.2 1 0) q b 19 0), .int (nI ((newL t u σ).2 1 0))]) : va_E) = _
        rw [hN1]
        rfl
      rw [e9]
      exact h9
    · rw [if_neg c1] at h
      by_cases c2 : k = 57 ∧ i = σ.2 1 0
      · rw [if_pos c2] at h
        cases h
        obtain ⟨rfl, rfl⟩ := c2
        refine ⟨_, ?_, fun h9 => h9⟩
        have e1 : newLa ad (σ.2 1 0) q b 57 (σ.2 1 0) = q := by unfold newLa; exact if_pos ⟨rfl, rfl⟩
        have e2 : qc (cL Y) (newLa ad (σ.2 1 0) q b) (newL t u σ) 57 (σ.2 1 0) = .inr (3, [.int t, .int u, .int 0]) := by
          show (.inr (3, [Value.int ((newL t u σ).1 57 (σ.2 1 0) 0), .int ((newL t u σ).1 57 (σ.2 1 0) 1), .int ((newL t u σ).1 57 (σ.2 1 0) 2)]) : va_E) = _
          have e3 : (newL t u σ).1 57 (σ.2 1 0) = (fun j => if j = 0 then t else if j = 1 then u else 0) := by unfold newL; exact if_pos ⟨rfl, rfl⟩
          rw [e3]
          rfl
        rw [e1, e2]
        rfl
      · rw [if_neg c2] at h
        by_cases c3 : k = 19 ∧ i = 0
        · rw [if_pos c3] at h
          cases h
          obtain ⟨rfl, rfl⟩ := c3
          refine ⟨_, rfl, fun h9 => ?_⟩
          have e9 : qc (cL Y) (newLa ad (σ.2 1 0) q b) (newL t u σ) 19 0 = .inl (Y 4, 10, .inr (.inr (.inr (.inr (fun j => if j < σ.2 1 0 + 1 then some (newLa ad (σ.2 1 0) q b 57 j) else none))))) := by
            show (.inl (Y 4, 10, .inr (.inr (.inr (.inr (fun j => if j < (newL t u σ).2 1 0 then some (newLa ad (σ.2 1 0) q b 57 j) else none))))) : va_E) = _
            rw [hN1]
          rw [e9]
          exact h9
        · rw [if_neg c3] at h
          cases h
  · have c1 : ¬ (k = 18 ∧ i = 0) := fun c => by rw [if_pos c] at h; cases h
    rw [if_neg c1] at h
    have c2 : ¬ (k = 57 ∧ i = σ.2 1 0) := fun c => by rw [if_pos c] at h; cases h
    rw [if_neg c2] at h
    have c3 : ¬ (k = 19 ∧ i = 0) := fun c => by rw [if_pos c] at h; cases h
    have d18 : k ≠ 18 := fun c => by
      subst c
      have h9 : i < 1 := hd
      exact c1 ⟨rfl, by omega⟩
    have d19 : k ≠ 19 := fun c => by
      subst c
      have h9 : i < (if (newL t u σ).2 1 0 = 0 then 0 else 1) := hd
      rw [hN1, if_neg (Nat.succ_ne_zero _)] at h9
      exact c3 ⟨rfl, by omega⟩
    have hd0 : qd (cL Y) σ k i := by
      by_cases c : k = 57
      · subst c
        have h9 : i < (newL t u σ).2 1 0 := hd
        rw [hN1] at h9
        show i < σ.2 1 0
        exact Nat.lt_of_le_of_ne (Nat.le_of_lt_succ h9) (fun e => c2 ⟨rfl, e⟩)
      · have h9 : i < cNum (newL t u σ).2 k := hd
        rw [cNum_lease (N := σ.2) (by rfl) c d19] at h9
        exact h9
    have ha : newLa ad (σ.2 1 0) q b k i = ad k i := by
      unfold newLa
      rw [if_neg c2, if_neg c3]
    refine ⟨hd0, fun hk => ?_, ha, fun h9 => ?_⟩
    · rcases hK _ hk with h8 | h8
      · exact d18 (congrArg Prod.fst h8)
      · exact d19 (congrArg Prod.fst h8)
    · have e9 : qc (cL Y) (newLa ad (σ.2 1 0) q b) (newL t u σ) k i = qc (cL Y) ad σ k i := by
        have e8 : (newL t u σ).1 k i = σ.1 k i := by
          show (if k = 57 ∧ i = σ.2 1 0 then _ else if k = 18 ∧ i = 0 then _ else σ.1 k i) = _
          rw [if_neg c2, if_neg c1]
        show cCe Y ((newL t u σ).1 k i) (newL t u σ).2 (newLa ad (σ.2 1 0) q b) k i = cCe Y (σ.1 k i) σ.2 ad k i
        rw [e8]
        exact cCe_lease _ (fun k i h1 h2 => by unfold newLa; rw [if_neg (fun c => h1 c.1), if_neg (fun c => h2 c.1)]) (fun k i h1 => if_neg (fun c => h1 c.1)) d18 d19
      rw [e9]
      exact h9
  · split at h
    · split at h'
      · omega
      · split at h'
        · cases h; cases h'
        · split at h'
          · cases h; cases h'
          · cases h'
    · split at h
      · split at h'
        · cases h; cases h'
        · split at h'
          · omega
          · split at h'
            · cases h; cases h'
            · cases h'
      · split at h
        · split at h'
          · cases h; cases h'
          · split at h'
            · cases h; cases h'
            · split at h'
              · omega
              · cases h'
        · cases h
theorem isW_same {F : Nat} {a b c v : Int32} {σ s1 : qS} (h : fX8_isWithin F a b c σ = some (v, s1)) : s1 = σ := by
  unfold fX8_isWithin fX8_isWithin_14 fX8_isWithin_15 at h
  split at h
  · have h2 := (gbl_some h).2; cases h2; rfl
  · split at h
    · have h2 := (gbl_some h).2; cases h2; rfl
    · have h2 := (gbl_some h).2; cases h2; rfl
theorem qyX8_lease : qY yX8_lease RX8 cX8_lease 2 (some .int) 1 := ⟨⟨kw_734, kw_735, kw_1, kw_736⟩, rfl, by decide, by decide, by decide +kernel⟩
set_option maxRecDepth 100000 in
set_option maxHeartbeats 4000000 in
theorem wX8_lease (l : Launch) (hst : l.stackTraces = false) (D : va_G) (Y : Nat → ClassId) (ad : qAd) (B0 e0 F : Nat) (p1 : Int32) (σ : qS) : qYi l yX8_lease cX8_lease 2 (some .int) 7 130 2 13 B0 e0 (fun k => 16 ≤ k) D Y ad [.ref (ad 0 0), .int p1] σ (fX8_lease F p1 σ) := by
  refine q_oyi hst (by decide) (Nat.le_of_ble_eq_true rfl) ⟨by decide, by decide⟩ "Leasehall" rfl (fun p e s m below meth c A Q r0 S0 hf hw hG hAB hE hok hret hHx hthr ls hl => ?_)
  replace hl : lv_has ls 2 [(0, .ref (ad 0 0)), (1, .int p1)] := hl
  unfold fX8_lease at hf
  obtain ⟨v1, s1, e1, hf9⟩ := bnd2_some hf
  obtain rfl := isW_same e1
  clear hf
  replace hf := hf9
  refine lv_iload_n S0.1 S0.2.1 dX8_lease_0 rfl (lv_at hl 1 rfl) ?_
  refine lv_iconst (v := 1) S0.1 S0.2.1 dX8_lease_1 (by decide) ?_
  refine lv_bipush (v := 50) S0.1 S0.2.1 dX8_lease_2 (by decide) ?_
  refine q_scalli S0 hw (As := [.int p1, .int 1, .int 50]) (rest := []) (β := Int32 × qS) (kf := fun v s => some (v, s)) (r0 := (v1, s1)) (wX8_isWithin l D Y ad F p1 1 50 s1) qsX8_isWithin kw_296 ⟨Nat.le_of_ble_eq_true rfl, Nat.le_of_ble_eq_true rfl⟩ rfl hl.1 (Nat.le_of_ble_eq_true rfl) dX8_lease_4 ⟨Nat.le_of_ble_eq_true rfl, Nat.le_of_ble_eq_true rfl⟩ rfl (by rw [e1]; rfl) (fun v s3 H locs hw hv => ?_)
  cases hv
  refine lv_if_ne (tgt := 20) S0.1 S0.2.1 dX8_lease_7 (by decide) (fun c5 => ?_) (fun c5 => ?_)
  · replace hf := q_neg c5 hf
    obtain ⟨hg, hf⟩ := gnl_some hf
    refine lv_aload_n S0.1 S0.2.1 dX8_lease_20 rfl (lv_at hl 0 rfl) ?_
    refine gX8_leases S0 hw kw_235 dX8_lease_21 ?_
    refine q_lsize S0 hw (k := 18) dC_18 rfl kw_423 ⟨Nat.le_of_ble_eq_true rfl, Nat.le_of_ble_eq_true rfl⟩ hl.1 (Nat.le_of_ble_eq_true rfl) dX8_lease_24 ⟨Nat.le_of_ble_eq_true rfl, Nat.le_of_ble_eq_true rfl⟩ (β := Int32) (kf := fun v => some v) (r0 := nI (s1.2 1 0)) rfl (fun v2 H locs hw hv => ?_)
    cases hv
    refine lv_bipush (v := 10) S0.1 S0.2.1 dX8_lease_27 (by decide) ?_
    refine lv_icmp_lt (tgt := 42) S0.1 S0.2.1 dX8_lease_29 (by decide) (fun c6 => ?_) (fun c6 => ?_)
    · replace hf := q_pos c6 hf
      have hN : s1.2 1 0 < 10 := (nI_ltI (by omega) (by decide)).mp (show nI (s1.2 1 0) < nI 10 from c6)
      refine lv_aload_n S0.1 S0.2.1 dX8_lease_42 rfl (lv_at hl 0 rfl) ?_
      refine gX8_leases S0 hw kw_235 dX8_lease_43 ?_
      have hm := m_of hw hAB hE
      have last : ∀ (H : Heap) (locs : List Loc) (q b : Nat) (r : Int32), qW D (cL Y) (qT Y) A s.heap s (newLa ad (s1.2 1 0) q b) (newL p1 (s1.1 0 0 14 + p1) s1) H locs → W p l e (qRx 7 130 2 13) s m ([.ref (ad 0 0), .int p1] : List Value).toArray below meth c H locs 2 13 Q (F0 m 63 ls [.int r]) := by
        intro H locs q b r hw
        have h00 : ad 0 0 = newLa ad (s1.2 1 0) q b 0 0 := rfl
        refine lv_pop S0.1 S0.2.1 dX8_lease_63 rfl ?_
        refine lv_aload_n S0.1 S0.2.1 dX8_lease_64 rfl (lv_at hl 0 rfl) ?_
        rw [h00]
        refine gX8_leases S0 hw kw_235 dX8_lease_65 ?_
        refine q_lsize S0 hw (k := 18) dC_18 rfl kw_423 ⟨Nat.le_of_ble_eq_true rfl, Nat.le_of_ble_eq_true rfl⟩ hl.1 (Nat.le_of_ble_eq_true rfl) dX8_lease_68 ⟨Nat.le_of_ble_eq_true rfl, Nat.le_of_ble_eq_true rfl⟩ (β := Int32) (kf := fun v => some v) (r0 := nI (s1.2 1 0 + 1)) rfl (fun v2 H locs hw hv => ?_)
        cases hv
        refine lv_iconst (v := 1) S0.1 S0.2.1 dX8_lease_71 (by decide) ?_
        refine lv_isub S0.1 S0.2.1 dX8_lease_72 ?_
        exact hret dX8_lease_73 hw hf ⟨fun h9 => hok.1 h9, fun h9 => absurd h9 (Nat.succ_ne_zero (s1.2 1 0))⟩ (fun k i hk => by
          have hk' : ¬ 16 ≤ k := hk
          unfold newLa
          rw [if_neg (by omega), if_neg (by omega)])
      rcases Nat.eq_zero_or_pos (s1.2 1 0) with h0 | h0
      · replace hm := m_cut hm (k := 18) (i := 0) dC_18 (by simp)
        have e18 : qc (cL Y) ad s1 18 0 = .inr (0, [.int (s1.1 18 0 0), .ref e0, .int 0]) := by
          show (.inr (0, [Value.int (s1.1 18 0 0), .ref (ad 19 0), .int (nI (s1.2 1 0))]) : va_E) = _
          rw [hok.2 h0, h0]
          rfl
        rw [e18] at hm
        refine m_new S0 hm (C := RX2) (T := TX2) (N := 3) (ci := 3) inX2 tyX2 tyX2_ok kw_729 kw_738 kw_25 rfl (fs := [.int 0, .int 0, .int 0]) (by decide) ⟨Nat.le_of_ble_eq_true rfl, Nat.le_of_ble_eq_true rfl⟩ dX8_lease_46 (fun q H hm => ?_)
        replace hm : qM B0 e0 D Y A s ad s1 [(18, 0)] [(ad 18 0, .inr (0, [.int (s1.1 18 0 0), .ref e0, .int 0])), (q, .inr (3, [.int 0, .int 0, .int 0]))] _ _ := hm
        refine lv_dup S0.1 S0.2.1 dX8_lease_49 rfl ?_
        refine lv_iload_n S0.1 S0.2.1 dX8_lease_50 rfl (lv_at hl 1 rfl) ?_
        refine lv_aload_n S0.1 S0.2.1 dX8_lease_51 rfl (lv_at hl 0 rfl) ?_
        refine m_get S0 hm (k := 0) dC_0 (by simp) rfl rfl inX8 14 (by decide) kw_241 rfl dX8_lease_52 ?_
        refine lv_iload_n S0.1 S0.2.1 dX8_lease_55 rfl (lv_at hl 1 rfl) ?_
        refine lv_iadd S0.1 S0.2.1 dX8_lease_56 ?_
        refine m_call S0 hm (As := [.int p1, .int (s1.1 0 0 14 + p1)]) (rest := [.ref q, .ref (ad 18 0)]) (wr := [(ad 18 0, .inr (0, [.int (s1.1 18 0 0), .ref e0, .int 0]))]) [1] [0] (kX2_init l D Y B0 e0 q p1 (s1.1 0 0 14 + p1)) lyX2 kw_739 ⟨Nat.le_of_ble_eq_true rfl, Nat.le_of_ble_eq_true rfl⟩ rfl rfl rfl rfl rfl (by decide) hl.1 (Nat.le_of_ble_eq_true rfl) dX8_lease_57 ⟨Nat.le_of_ble_eq_true rfl, Nat.le_of_ble_eq_true rfl⟩ rfl (fun a1 H locs hm => ?_)
        replace hm : qM B0 e0 D Y A s ad s1 [(18, 0)] [(ad 18 0, .inr (0, [.int (s1.1 18 0 0), .ref e0, .int 0])), (q, .inr (3, [.int p1, .int (s1.1 0 0 14 + p1), .int 0]))] _ _ := hm
        refine m_callVi S0 hm (As := [.ref q]) (rest := []) (wr := []) [0, 1] [] (kJx_addA l D Y B0 e0 (ad 18 0) (s1.1 18 0 0) q 3 [.int p1, .int (s1.1 0 0 14 + p1), .int 0] rfl (by decide)) qyJx_add kw_531 ⟨Nat.le_of_ble_eq_true rfl, Nat.le_of_ble_eq_true rfl⟩ 0 rfl rfl rfl rfl rfl rfl rfl rfl (by decide) hl.1 (Nat.le_of_ble_eq_true rfl) dX8_lease_60 ⟨Nat.le_of_ble_eq_true rfl, Nat.le_of_ble_eq_true rfl⟩ rfl (fun a2 r H locs hm => ?_)
        refine W.widen (k := 2) (n := 13) (by decide) (by decide) ?_
        exact last H locs q (a2 0) r (newL_out hm (by simp) (by rw [h0]; rfl) (fun j => by
          rw [h0]
          unfold va_up newLa
          by_cases h9 : j = 0
          · subst h9
            rw [if_pos rfl, if_pos (by omega), if_pos ⟨rfl, rfl⟩]
          · rw [if_neg h9, if_neg (by omega)]))
      · replace hm := m_cut hm (k := 18) (i := 0) dC_18 (by simp)
        replace hm := m_cut hm (k := 19) (i := 0) (by show 0 < (if s1.2 1 0 = 0 then 0 else 1); rw [if_neg (by omega)]; decide) (by simp)
        replace hm : qM B0 e0 D Y A s ad s1 [(19, 0), (18, 0)] [(ad 19 0, .inl (Y 4, 10, .inr (.inr (.inr (.inr (fun j => if j < s1.2 1 0 then some (ad 57 j) else none)))))), (ad 18 0, .inr (0, [.int (s1.1 18 0 0), .ref (ad 19 0), .int (nI (s1.2 1 0))]))] _ _ := hm
        refine m_new S0 hm (C := RX2) (T := TX2) (N := 3) (ci := 3) inX2 tyX2 tyX2_ok kw_729 kw_738 kw_25 rfl (fs := [.int 0, .int 0, .int 0]) (by decide) ⟨Nat.le_of_ble_eq_true rfl, Nat.le_of_ble_eq_true rfl⟩ dX8_lease_46 (fun q H hm => ?_)
        replace hm : qM B0 e0 D Y A s ad s1 [(19, 0), (18, 0)] [(ad 19 0, .inl (Y 4, 10, .inr (.inr (.inr (.inr (fun j => if j < s1.2 1 0 then some (ad 57 j) else none)))))), (ad 18 0, .inr (0, [.int (s1.1 18 0 0), .ref (ad 19 0), .int (nI (s1.2 1 0))])), (q, .inr (3, [.int 0, .int 0, .int 0]))] _ _ := hm
        refine lv_dup S0.1 S0.2.1 dX8_lease_49 rfl ?_
        refine lv_iload_n S0.1 S0.2.1 dX8_lease_50 rfl (lv_at hl 1 rfl) ?_
        refine lv_aload_n S0.1 S0.2.1 dX8_lease_51 rfl (lv_at hl 0 rfl) ?_
        refine m_get S0 hm (k := 0) dC_0 (by simp) rfl rfl inX8 14 (by decide) kw_241 rfl dX8_lease_52 ?_
        refine lv_iload_n S0.1 S0.2.1 dX8_lease_55 rfl (lv_at hl 1 rfl) ?_
        refine lv_iadd S0.1 S0.2.1 dX8_lease_56 ?_
        refine m_call S0 hm (As := [.int p1, .int (s1.1 0 0 14 + p1)]) (rest := [.ref q, .ref (ad 18 0)]) (wr := [(ad 18 0, .inr (0, [.int (s1.1 18 0 0), .ref (ad 19 0), .int (nI (s1.2 1 0))])), (ad 19 0, .inl (Y 4, 10, .inr (.inr (.inr (.inr (fun j => if j < s1.2 1 0 then some (ad 57 j) else none))))))]) [2] [1, 0] (kX2_init l D Y B0 e0 q p1 (s1.1 0 0 14 + p1)) lyX2 kw_739 ⟨Nat.le_of_ble_eq_true rfl, Nat.le_of_ble_eq_true rfl⟩ rfl rfl rfl rfl rfl (by decide) hl.1 (Nat.le_of_ble_eq_true rfl) dX8_lease_57 ⟨Nat.le_of_ble_eq_true rfl, Nat.le_of_ble_eq_true rfl⟩ rfl (fun a1 H locs hm => ?_)
        refine m_callVi S0 hm (As := [.ref q]) (rest := []) (wr := []) [0, 2, 1] [] (kJx_addB l D Y B0 e0 (ad 18 0) (s1.1 18 0 0) (nI (s1.2 1 0)) (vp_in_nI hN (by decide)) q 3 (ad 19 0) (fun j => if j < s1.2 1 0 then some (ad 57 j) else none) [.int p1, .int (s1.1 0 0 14 + p1), .int 0] rfl (by decide)) qyJx_add kw_531 ⟨Nat.le_of_ble_eq_true rfl, Nat.le_of_ble_eq_true rfl⟩ 0 rfl rfl rfl rfl rfl rfl rfl rfl (by decide) hl.1 (Nat.le_of_ble_eq_true rfl) dX8_lease_60 ⟨Nat.le_of_ble_eq_true rfl, Nat.le_of_ble_eq_true rfl⟩ rfl (fun a2 r H locs hm => ?_)
        refine W.widen (k := 2) (n := 13) (by decide) (by decide) ?_
        exact last H locs q (ad 19 0) r (newL_out hm (by simp) (nI_1 _) (fun j => by
          rw [nI_clamp (by omega)]
          unfold va_up newLa
          by_cases h9 : j = s1.2 1 0
          · rw [if_pos h9, if_pos (by omega), if_pos ⟨rfl, h9⟩]
          · rw [if_neg h9, if_neg (c := 57 = 57 ∧ j = s1.2 1 0) (fun h => h9 h.2), if_neg (c := 57 = 19 ∧ j = 0) (by omega)]
            show (if j < s1.2 1 0 then some (ad 57 j) else none) = _
            by_cases h8 : j < s1.2 1 0
            · rw [if_pos h8, if_pos (by omega)]
            · rw [if_neg h8, if_neg (by omega)]))
    · replace hf := q_neg c6 hf
      exact hthr qt3_183 (by decide) hw hf ⟨dX8_lease_32, dX8_lease_35, Or.inl ⟨dX8_lease_36, dX8_lease_38, dX8_lease_41⟩⟩ hl.1 (Nat.le_of_ble_eq_true rfl) ⟨Nat.le_of_ble_eq_true rfl, Nat.le_of_ble_eq_true rfl⟩
  · replace hf := q_pos (Decidable.not_not.mp (fun h => h c5)) hf
    exact hthr qt2_175 (by decide) hw hf ⟨dX8_lease_10, dX8_lease_13, Or.inl ⟨dX8_lease_14, dX8_lease_16, dX8_lease_19⟩⟩ hl.1 (Nat.le_of_ble_eq_true rfl) ⟨Nat.le_of_ble_eq_true rfl, Nat.le_of_ble_eq_true rfl⟩

/-! WHAT GROWS A ROW: Row.add, Session.hearOf, Leasehall.tellWatches -/
theorem qyX4_add : qY yX4_add RX4 cX4_add 2 none 1 := ⟨⟨kw_1000, kw_1001, kw_19, kw_1002⟩, rfl, by decide, by decide, by decide +kernel⟩
def fX4_add_48 (F : Nat) (i0 : Nat) (σ : qS) : Option qS :=
  some σ
def fX4_add_16 (F : Nat) (i0 : Nat) (x1 : Int32) (σ : qS) : Option qS :=
  gnl i0 (σ.2 0 0) (nm (σ.1 55 i0 2) fun v4 => (gnl i0 (σ.2 0 0) (gnl i0 (σ.2 0 0) (nm (nI ((σ.2 3 i0))) fun v5 => (if v5 ≤ v4 then (fX4_add_48 F i0 σ) else (gnl i0 (σ.2 0 0) (gnl i0 (σ.2 0 0) (nm (σ.1 55 i0 2) fun v7 => (gnl i0 (σ.2 0 0) (inx ((σ.2 3 i0)) v7 (nm (qI σ 58 i0 v7.toNatClampNeg x1) fun s8 => (gnl i0 (s8.2 0 0) (nm (s8.1 55 i0 2) fun v9 => (nm (v9 + 1) fun v10 => (gnl i0 (s8.2 0 0) (nm (qI s8 55 i0 2 v10) fun s11 => (fX4_add_48 F i0 s11)))))))))))))))))
def fX4_add (F : Nat) (i0 : Nat) (p1 : Int32) (σ : qS) : Option qS :=
  gnl i0 (σ.2 0 0) (nm (σ.1 55 i0 2) fun v1 => (gnl i0 (σ.2 0 0) (gnl i0 (σ.2 0 0) (nm (nI ((σ.2 3 i0))) fun v2 => (if v1 < v2 then (fX4_add_16 F i0 p1 σ) else (gnl i0 (σ.2 0 0) (bnd (fX4_makeRoom F i0 σ) fun s12 => (fX4_add_16 F i0 p1 s12))))))))
theorem qyX6_hearOf : qY yX6_hearOf RX6 cX6_hearOf 7 none 3 := ⟨⟨kw_988, kw_989, kw_18, kw_990⟩, rfl, by decide, by decide, by decide +kernel⟩
def fX6_hearOf_104 (F : Nat) (i0 : Nat) (x4 : Int32) (σ : qS) : Option qS :=
  gnl i0 (σ.2 0 0) (nm (qI σ 50 i0 11 x4) fun s3 => (some s3))
def fX6_hearOf_98 (F : Nat) (i0 : Nat) (k6 : Int32 → Int32 → Int32 → Int32 → qS → Option qS) (x1 : Int32) (x2 : Int32) (x4 : Int32) (x5 : Int32) (σ : qS) : Option qS :=
  nm (x5 + 1) fun v14 => (k6 x1 x2 x4 v14 σ)
def fX6_hearOf_67 (F : Nat) (i0 : Nat) (k6 : Int32 → Int32 → Int32 → Int32 → qS → Option qS) (x1 : Int32) (x2 : Int32) (x4 : Int32) (x5 : Int32) (σ : qS) : Option qS :=
  gnl i0 (σ.2 0 0) (gnl i0 (σ.2 0 0) (gnl i0 (σ.2 0 0) (ldi 8 (σ.1 53 i0) x5 fun v9 => (gnl i0 (σ.2 0 0) (inx 8 x4 (nm (qI σ 53 i0 x4.toNatClampNeg v9) fun s10 => (gnl i0 (s10.2 0 0) (gnl i0 (s10.2 0 0) (gnl i0 (s10.2 0 0) (ldi 8 (s10.1 54 i0) x5 fun v11 => (gnl i0 (s10.2 0 0) (inx 8 x4 (nm (qI s10 54 i0 x4.toNatClampNeg v11) fun s12 => (nm (x4 + 1) fun v13 => (fX6_hearOf_98 F i0 k6 x1 x2 v13 x5 s12)))))))))))))))
def fX6_hearOf_51 (F : Nat) (i0 : Nat) (k6 : Int32 → Int32 → Int32 → Int32 → qS → Option qS) (x1 : Int32) (x2 : Int32) (x4 : Int32) (x5 : Int32) (x6 : Int32) (σ : qS) : Option qS :=
  if x6 = 0 then (fX6_hearOf_67 F i0 k6 x1 x2 x4 x5 σ) else (gnl i0 (σ.2 0 0) (gnl i0 (σ.2 0 0) (ldi 8 (σ.1 54 i0) x5 fun v15 => (if v15 = 2 then (fX6_hearOf_67 F i0 k6 x1 x2 x4 x5 σ) else (fX6_hearOf_98 F i0 k6 x1 x2 x4 x5 σ)))))
def fX6_hearOf_6 (F : Nat) (i0 : Nat) : Nat → Int32 → Int32 → Int32 → Int32 → qS → Option qS
  | 0, _, _, _, _, _ => none
  | n + 1, x1, x2, x4, x5, σ =>
  gnl i0 (σ.2 0 0) (nm (σ.1 50 i0 11) fun v1 => (if v1 ≤ x5 then (fX6_hearOf_104 F i0 x4 σ) else (if 8 ≤ x5 then (fX6_hearOf_104 F i0 x4 σ) else (gnl i0 (σ.2 0 0) (bnd2 (fX6_watchesFor F i0 x5 x1 x2 σ) fun v6 s5 => (if v6 = 0 then (fX6_hearOf_51 F i0 (fX6_hearOf_6 F i0 n) x1 x2 x4 x5 v6 s5) else (gnl i0 (s5.2 0 0) (nm (10 * x2) fun v17 => (nm (v17 + x1) fun v18 => (gnl i0 (s5.2 0 0) (bnd (fX4_add F i0 v18 s5) fun s19 => (fX6_hearOf_51 F i0 (fX6_hearOf_6 F i0 n) x1 x2 x4 x5 v6 s19))))))))))))
def fX6_hearOf (F : Nat) (i0 : Nat) (p1 : Int32) (p2 : Int32) (σ : qS) : Option qS :=
  fX6_hearOf_6 F i0 F p1 p2 0 0 σ
theorem qyX8_tellWatches : qY yX8_tellWatches RX8 cX8_tellWatches 3 none 1 := ⟨⟨kw_981, kp_34, kw_1, kw_982⟩, rfl, by decide, by decide, by decide +kernel⟩
def fX8_tellWatches_70 (F : Nat) (i1 : Nat) (σ : qS) : Option qS :=
  gnl i1 (σ.2 0 0) (nm (σ.2 2 i1) fun i4 => (gnl i4 3 (nm (σ.1 8 i4 2) fun v5 => (gnl i1 (σ.2 0 0) (nm (qI σ 50 i1 10 v5) fun s6 => (some s6))))))
def fX8_tellWatches_64 (F : Nat) (i1 : Nat) (k5 : Int32 → qS → Option qS) (x2 : Int32) (σ : qS) : Option qS :=
  nm (x2 + 1) fun v13 => (k5 v13 σ)
def fX8_tellWatches_5 (F : Nat) (i1 : Nat) : Nat → Int32 → qS → Option qS
  | 0, _, _ => none
  | n + 1, x2, σ =>
  nm (σ.1 9 0 4) fun v2 => (if v2 ≤ x2 then (fX8_tellWatches_70 F i1 σ) else (gnl i1 (σ.2 0 0) (nm (σ.2 2 i1) fun i7 => (gnl i7 3 (nm (σ.1 8 i7 2) fun v8 => (if v8 ≤ x2 then (fX8_tellWatches_70 F i1 σ) else (bnd2 (fX3_tells F x2 σ) fun v11 s10 => (if v11 = 0 then (fX8_tellWatches_64 F i1 (fX8_tellWatches_5 F i1 n) x2 s10) else (ldi 1024 (s10.1 11 0) x2 fun v14 => (ldi 1024 (s10.1 12 0) x2 fun v15 => (gnl i1 (s10.2 0 0) (bnd (fX6_hearOf F i1 v14 v15 s10) fun s16 => (fX8_tellWatches_64 F i1 (fX8_tellWatches_5 F i1 n) x2 s16)))))))))))))
def fX8_tellWatches (F : Nat) (i1 : Nat) (σ : qS) : Option qS :=
  gnl i1 (σ.2 0 0) (nm (σ.1 50 i1 10) fun v1 => (fX8_tellWatches_5 F i1 F v1 σ))
theorem gk_fX1_isWithinBranch_40 {F : Nat} {t0 : Int32} {σ : qS} {r : Int32 × qS} (h : fX1_isWithinBranch_40 F t0 σ = some r) : r.2 = σ := by
  unfold fX1_isWithinBranch_40 at h
  obtain ⟨-, h⟩ := gbl_some h
  cases h
  rfl
theorem gk_fX1_isWithinBranch_30 {F : Nat} {x2 : Int32} {x3 : Int32} {σ : qS} {r : Int32 × qS} (h : fX1_isWithinBranch_30 F x2 x3 σ = some r) : r.2 = σ := by
  unfold fX1_isWithinBranch_30 at h
  rcases ite_some h with ⟨-, h⟩ | ⟨-, h⟩
  · exact gk_fX1_isWithinBranch_40 h
  · exact gk_fX1_isWithinBranch_40 h
theorem gk_fX1_isWithinBranch_5 {F : Nat} : ∀ (n : Nat) (x2 : Int32) (x3 : Int32) (x4 : Int32) (σ : qS) (r : Int32 × qS), fX1_isWithinBranch_5 F n x2 x3 x4 σ = some r → r.2 = σ := by
  intro n
  induction n with
  | zero => intro x2 x3 x4 σ r h; exact absurd h (by rw [fX1_isWithinBranch_5]; exact nofun)
  | succ n ih =>
    intro x2 x3 x4 σ r h
    rw [fX1_isWithinBranch_5] at h
    rcases ite_some h with ⟨-, h⟩ | ⟨-, h⟩
    · exact gk_fX1_isWithinBranch_30 h
    · rcases ite_some h with ⟨-, h⟩ | ⟨-, h⟩
      · exact gk_fX1_isWithinBranch_30 h
      · obtain ⟨-, h⟩ := ldi_some h
        obtain ⟨v5, ev5, h⟩ := nm_some h
        clear ev5
        exact ih _ _ _ _ _ h
theorem gk_fX1_isWithinBranch {F : Nat} {p1 : Int32} {p2 : Int32} {σ : qS} {r : Int32 × qS} (h : fX1_isWithinBranch F p1 p2 σ = some r) : r.2 = σ := by
  unfold fX1_isWithinBranch at h
  exact gk_fX1_isWithinBranch_5 _ _ _ _ _ _ h
theorem gk_fX6_watchesFor_55 {F : Nat} {i0 : Nat} {t0 : Int32} {σ : qS} {r : Int32 × qS} (h : fX6_watchesFor_55 F i0 t0 σ = some r) : r.2 = σ := by
  unfold fX6_watchesFor_55 at h
  obtain ⟨-, h⟩ := gbl_some h
  cases h
  rfl
theorem gk_fX6_watchesFor_54 {F : Nat} {i0 : Nat} {σ : qS} {r : Int32 × qS} (h : fX6_watchesFor_54 F i0 σ = some r) : r.2 = σ := by
  unfold fX6_watchesFor_54 at h
  exact gk_fX6_watchesFor_55 h
theorem gk_fX6_watchesFor_89 {F : Nat} {i0 : Nat} {t0 : Int32} {σ : qS} {r : Int32 × qS} (h : fX6_watchesFor_89 F i0 t0 σ = some r) : r.2 = σ := by
  unfold fX6_watchesFor_89 at h
  obtain ⟨-, h⟩ := gbl_some h
  cases h
  rfl
theorem gk_fX6_watchesFor_88 {F : Nat} {i0 : Nat} {σ : qS} {r : Int32 × qS} (h : fX6_watchesFor_88 F i0 σ = some r) : r.2 = σ := by
  unfold fX6_watchesFor_88 at h
  exact gk_fX6_watchesFor_89 h
theorem gk_fX6_watchesFor_84 {F : Nat} {i0 : Nat} {σ : qS} {r : Int32 × qS} (h : fX6_watchesFor_84 F i0 σ = some r) : r.2 = σ := by
  unfold fX6_watchesFor_84 at h
  exact gk_fX6_watchesFor_89 h
theorem gk_fX6_watchesFor_73 {F : Nat} {i0 : Nat} {x2 : Int32} {x3 : Int32} {x5 : Int32} {σ : qS} {r : Int32 × qS} (h : fX6_watchesFor_73 F i0 x2 x3 x5 σ = some r) : r.2 = σ := by
  unfold fX6_watchesFor_73 at h
  rcases ite_some h with ⟨-, h⟩ | ⟨-, h⟩
  · rcases ite_some h with ⟨-, h⟩ | ⟨-, h⟩
    · exact gk_fX6_watchesFor_84 h
    · exact gk_fX6_watchesFor_88 h
  · exact gk_fX6_watchesFor_88 h
theorem gk_fX6_watchesFor {F : Nat} {i0 : Nat} {p1 : Int32} {p2 : Int32} {p3 : Int32} {σ : qS} {r : Int32 × qS} (h : fX6_watchesFor F i0 p1 p2 p3 σ = some r) : r.2 = σ := by
  unfold fX6_watchesFor at h
  obtain ⟨-, h⟩ := gnl_some h
  obtain ⟨-, h⟩ := gnl_some h
  obtain ⟨-, h⟩ := ldi_some h
  obtain ⟨-, h⟩ := gnl_some h
  obtain ⟨-, h⟩ := gnl_some h
  obtain ⟨-, h⟩ := ldi_some h
  rcases ite_some h with ⟨-, h⟩ | ⟨-, h⟩
  · rcases ite_some h with ⟨-, h⟩ | ⟨-, h⟩
    · rcases ite_some h with ⟨-, h⟩ | ⟨-, h⟩
      · exact gk_fX6_watchesFor_54 h
      · exact gk_fX6_watchesFor_55 h
    · exact gk_fX6_watchesFor_54 h
  · rcases ite_some h with ⟨-, h⟩ | ⟨-, h⟩
    · rcases ite_some h with ⟨-, h⟩ | ⟨-, h⟩
      · exact gk_fX6_watchesFor_73 h
      · obtain ⟨-, h⟩ := ldi_some h
        rcases ite_some h with ⟨-, h⟩ | ⟨-, h⟩
        · exact gk_fX6_watchesFor_84 h
        · exact gk_fX6_watchesFor_73 h
    · obtain ⟨v13, s12, gs12, h⟩ := bnd2_some h
      have fs12 : s12 = σ := gk_fX1_isWithinBranch gs12
      clear gs12
      obtain ⟨-, h⟩ := gbl_some h
      cases h
      exact fs12
theorem gk_fX3_tells_34 {F : Nat} {t0 : Int32} {σ : qS} {r : Int32 × qS} (h : fX3_tells_34 F t0 σ = some r) : r.2 = σ := by
  unfold fX3_tells_34 at h
  obtain ⟨-, h⟩ := gbl_some h
  cases h
  rfl
theorem gk_fX3_tells_29 {F : Nat} {σ : qS} {r : Int32 × qS} (h : fX3_tells_29 F σ = some r) : r.2 = σ := by
  unfold fX3_tells_29 at h
  exact gk_fX3_tells_34 h
theorem gk_fX3_tells {F : Nat} {p1 : Int32} {σ : qS} {r : Int32 × qS} (h : fX3_tells F p1 σ = some r) : r.2 = σ := by
  unfold fX3_tells at h
  obtain ⟨-, h⟩ := ldi_some h
  rcases ite_some h with ⟨-, h⟩ | ⟨-, h⟩
  · exact gk_fX3_tells_29 h
  · obtain ⟨-, h⟩ := ldi_some h
    rcases ite_some h with ⟨-, h⟩ | ⟨-, h⟩
    · exact gk_fX3_tells_29 h
    · obtain ⟨-, h⟩ := ldi_some h
      rcases ite_some h with ⟨-, h⟩ | ⟨-, h⟩
      · exact gk_fX3_tells_29 h
      · exact gk_fX3_tells_34 h
theorem gk_fX4_add_48 {F : Nat} {i0 : Nat} {σ : qS} {r : qS} (h : fX4_add_48 F i0 σ = some r) : σ.2 3 i0 ≤ r.2 3 i0 := by
  unfold fX4_add_48 at h
  cases h
  exact Nat.le_refl _
theorem gk_fX4_add_16 {F : Nat} {i0 : Nat} {x1 : Int32} {σ : qS} {r : qS} (h : fX4_add_16 F i0 x1 σ = some r) : σ.2 3 i0 ≤ r.2 3 i0 := by
  unfold fX4_add_16 at h
  obtain ⟨-, h⟩ := gnl_some h
  obtain ⟨v4, ev4, h⟩ := nm_some h
  clear ev4
  obtain ⟨-, h⟩ := gnl_some h
  obtain ⟨-, h⟩ := gnl_some h
  obtain ⟨v5, ev5, h⟩ := nm_some h
  clear ev5
  rcases ite_some h with ⟨-, h⟩ | ⟨-, h⟩
  · exact gk_fX4_add_48 h
  · obtain ⟨-, h⟩ := gnl_some h
    obtain ⟨-, h⟩ := gnl_some h
    obtain ⟨v7, ev7, h⟩ := nm_some h
    clear ev7
    obtain ⟨-, h⟩ := gnl_some h
    obtain ⟨-, h⟩ := inx_some h
    obtain ⟨s8, es8, h⟩ := nm_some h
    have fs8 : σ.2 3 i0 ≤ s8.2 3 i0 := (show σ.2 3 i0 ≤ s8.2 3 i0 from by rw [es8]; exact Nat.le_refl _)
    clear es8
    obtain ⟨-, h⟩ := gnl_some h
    obtain ⟨v9, ev9, h⟩ := nm_some h
    clear ev9
    obtain ⟨v10, ev10, h⟩ := nm_some h
    clear ev10
    obtain ⟨-, h⟩ := gnl_some h
    obtain ⟨s11, es11, h⟩ := nm_some h
    have fs11 : σ.2 3 i0 ≤ s11.2 3 i0 := Nat.le_trans fs8 ((show s8.2 3 i0 ≤ s11.2 3 i0 from by rw [es11]; exact Nat.le_refl _))
    clear es11
    exact Nat.le_trans fs11 (gk_fX4_add_48 h)
theorem gk_fX4_add {F : Nat} {i0 : Nat} {p1 : Int32} {σ : qS} {r : qS} (h : fX4_add F i0 p1 σ = some r) : σ.2 3 i0 ≤ r.2 3 i0 := by
  unfold fX4_add at h
  obtain ⟨-, h⟩ := gnl_some h
  obtain ⟨v1, ev1, h⟩ := nm_some h
  clear ev1
  obtain ⟨-, h⟩ := gnl_some h
  obtain ⟨-, h⟩ := gnl_some h
  obtain ⟨v2, ev2, h⟩ := nm_some h
  clear ev2
  rcases ite_some h with ⟨-, h⟩ | ⟨-, h⟩
  · exact gk_fX4_add_16 h
  · obtain ⟨-, h⟩ := gnl_some h
    obtain ⟨s12, gs12, h⟩ := bnd_some h
    have fs12 : σ.2 3 i0 ≤ s12.2 3 i0 := gk_fX4_makeRoom gs12
    clear gs12
    exact Nat.le_trans fs12 (gk_fX4_add_16 h)
theorem gk_fX6_hearOf_104 {F : Nat} {i0 : Nat} {x4 : Int32} {σ : qS} {r : qS} (h : fX6_hearOf_104 F i0 x4 σ = some r) : σ.2 3 i0 ≤ r.2 3 i0 := by
  unfold fX6_hearOf_104 at h
  obtain ⟨-, h⟩ := gnl_some h
  obtain ⟨s3, es3, h⟩ := nm_some h
  have fs3 : σ.2 3 i0 ≤ s3.2 3 i0 := (show σ.2 3 i0 ≤ s3.2 3 i0 from by rw [es3]; exact Nat.le_refl _)
  clear es3
  cases h
  exact fs3
theorem gk_fX6_hearOf_98 {F : Nat} {i0 : Nat} {k6 : Int32 → Int32 → Int32 → Int32 → qS → Option qS} {x1 : Int32} {x2 : Int32} {x4 : Int32} {x5 : Int32} {σ : qS} {r : qS} (hk6 : ∀ a0 a1 a2 a3 σ r, k6 a0 a1 a2 a3 σ = some r → σ.2 3 i0 ≤ r.2 3 i0) (h : fX6_hearOf_98 F i0 k6 x1 x2 x4 x5 σ = some r) : σ.2 3 i0 ≤ r.2 3 i0 := by
  unfold fX6_hearOf_98 at h
  obtain ⟨v14, ev14, h⟩ := nm_some h
  clear ev14
  exact hk6 x1 x2 x4 v14 σ _ h
theorem gk_fX6_hearOf_67 {F : Nat} {i0 : Nat} {k6 : Int32 → Int32 → Int32 → Int32 → qS → Option qS} {x1 : Int32} {x2 : Int32} {x4 : Int32} {x5 : Int32} {σ : qS} {r : qS} (hk6 : ∀ a0 a1 a2 a3 σ r, k6 a0 a1 a2 a3 σ = some r → σ.2 3 i0 ≤ r.2 3 i0) (h : fX6_hearOf_67 F i0 k6 x1 x2 x4 x5 σ = some r) : σ.2 3 i0 ≤ r.2 3 i0 := by
  unfold fX6_hearOf_67 at h
  obtain ⟨-, h⟩ := gnl_some h
  obtain ⟨-, h⟩ := gnl_some h
  obtain ⟨-, h⟩ := gnl_some h
  obtain ⟨-, h⟩ := ldi_some h
  obtain ⟨-, h⟩ := gnl_some h
  obtain ⟨-, h⟩ := inx_some h
  obtain ⟨s10, es10, h⟩ := nm_some h
  have fs10 : σ.2 3 i0 ≤ s10.2 3 i0 := (show σ.2 3 i0 ≤ s10.2 3 i0 from by rw [es10]; exact Nat.le_refl _)
  clear es10
  obtain ⟨-, h⟩ := gnl_some h
  obtain ⟨-, h⟩ := gnl_some h
  obtain ⟨-, h⟩ := gnl_some h
  obtain ⟨-, h⟩ := ldi_some h
  obtain ⟨-, h⟩ := gnl_some h
  obtain ⟨-, h⟩ := inx_some h
  obtain ⟨s12, es12, h⟩ := nm_some h
  have fs12 : σ.2 3 i0 ≤ s12.2 3 i0 := Nat.le_trans fs10 ((show s10.2 3 i0 ≤ s12.2 3 i0 from by rw [es12]; exact Nat.le_refl _))
  clear es12
  obtain ⟨v13, ev13, h⟩ := nm_some h
  clear ev13
  exact Nat.le_trans fs12 (gk_fX6_hearOf_98 hk6 h)
theorem gk_fX6_hearOf_51 {F : Nat} {i0 : Nat} {k6 : Int32 → Int32 → Int32 → Int32 → qS → Option qS} {x1 : Int32} {x2 : Int32} {x4 : Int32} {x5 : Int32} {x6 : Int32} {σ : qS} {r : qS} (hk6 : ∀ a0 a1 a2 a3 σ r, k6 a0 a1 a2 a3 σ = some r → σ.2 3 i0 ≤ r.2 3 i0) (h : fX6_hearOf_51 F i0 k6 x1 x2 x4 x5 x6 σ = some r) : σ.2 3 i0 ≤ r.2 3 i0 := by
  unfold fX6_hearOf_51 at h
  rcases ite_some h with ⟨-, h⟩ | ⟨-, h⟩
  · exact gk_fX6_hearOf_67 hk6 h
  · obtain ⟨-, h⟩ := gnl_some h
    obtain ⟨-, h⟩ := gnl_some h
    obtain ⟨-, h⟩ := ldi_some h
    rcases ite_some h with ⟨-, h⟩ | ⟨-, h⟩
    · exact gk_fX6_hearOf_67 hk6 h
    · exact gk_fX6_hearOf_98 hk6 h
theorem gk_fX6_hearOf_6 {F : Nat} {i0 : Nat} : ∀ (n : Nat) (x1 : Int32) (x2 : Int32) (x4 : Int32) (x5 : Int32) (σ : qS) (r : qS), fX6_hearOf_6 F i0 n x1 x2 x4 x5 σ = some r → σ.2 3 i0 ≤ r.2 3 i0 := by
  intro n
  induction n with
  | zero => intro x1 x2 x4 x5 σ r h; exact absurd h (by rw [fX6_hearOf_6]; exact nofun)
  | succ n ih =>
    intro x1 x2 x4 x5 σ r h
    rw [fX6_hearOf_6] at h
    obtain ⟨-, h⟩ := gnl_some h
    obtain ⟨v1, ev1, h⟩ := nm_some h
    clear ev1
    rcases ite_some h with ⟨-, h⟩ | ⟨-, h⟩
    · exact gk_fX6_hearOf_104 h
    · rcases ite_some h with ⟨-, h⟩ | ⟨-, h⟩
      · exact gk_fX6_hearOf_104 h
      · obtain ⟨-, h⟩ := gnl_some h
        obtain ⟨v6, s5, gs5, h⟩ := bnd2_some h
        have fs5 : σ.2 3 i0 ≤ s5.2 3 i0 := Nat.le_of_eq (congrArg (fun x : qS => x.2 3 i0) (gk_fX6_watchesFor gs5)).symm
        clear gs5
        rcases ite_some h with ⟨-, h⟩ | ⟨-, h⟩
        · exact Nat.le_trans fs5 (gk_fX6_hearOf_51 (fun a0 a1 a2 a3 σ r h => ih a0 a1 a2 a3 σ r h) h)
        · obtain ⟨-, h⟩ := gnl_some h
          obtain ⟨v17, ev17, h⟩ := nm_some h
          clear ev17
          obtain ⟨v18, ev18, h⟩ := nm_some h
          clear ev18
          obtain ⟨-, h⟩ := gnl_some h
          obtain ⟨s19, gs19, h⟩ := bnd_some h
          have fs19 : σ.2 3 i0 ≤ s19.2 3 i0 := Nat.le_trans fs5 (gk_fX4_add gs19)
          clear gs19
          exact Nat.le_trans fs19 (gk_fX6_hearOf_51 (fun a0 a1 a2 a3 σ r h => ih a0 a1 a2 a3 σ r h) h)
theorem gk_fX6_hearOf {F : Nat} {i0 : Nat} {p1 : Int32} {p2 : Int32} {σ : qS} {r : qS} (h : fX6_hearOf F i0 p1 p2 σ = some r) : σ.2 3 i0 ≤ r.2 3 i0 := by
  unfold fX6_hearOf at h
  exact gk_fX6_hearOf_6 _ _ _ _ _ _ _ h
theorem gk_fX8_tellWatches_70 {F : Nat} {i1 : Nat} {σ : qS} {r : qS} (h : fX8_tellWatches_70 F i1 σ = some r) : σ.2 3 i1 ≤ r.2 3 i1 := by
  unfold fX8_tellWatches_70 at h
  obtain ⟨-, h⟩ := gnl_some h
  obtain ⟨i4, ei4, h⟩ := nm_some h
  clear ei4
  obtain ⟨-, h⟩ := gnl_some h
  obtain ⟨v5, ev5, h⟩ := nm_some h
  clear ev5
  obtain ⟨-, h⟩ := gnl_some h
  obtain ⟨s6, es6, h⟩ := nm_some h
  have fs6 : σ.2 3 i1 ≤ s6.2 3 i1 := (show σ.2 3 i1 ≤ s6.2 3 i1 from by rw [es6]; exact Nat.le_refl _)
  clear es6
  cases h
  exact fs6
theorem gk_fX8_tellWatches_64 {F : Nat} {i1 : Nat} {k5 : Int32 → qS → Option qS} {x2 : Int32} {σ : qS} {r : qS} (hk5 : ∀ a0 σ r, k5 a0 σ = some r → σ.2 3 i1 ≤ r.2 3 i1) (h : fX8_tellWatches_64 F i1 k5 x2 σ = some r) : σ.2 3 i1 ≤ r.2 3 i1 := by
  unfold fX8_tellWatches_64 at h
  obtain ⟨v13, ev13, h⟩ := nm_some h
  clear ev13
  exact hk5 v13 σ _ h
theorem gk_fX8_tellWatches_5 {F : Nat} {i1 : Nat} : ∀ (n : Nat) (x2 : Int32) (σ : qS) (r : qS), fX8_tellWatches_5 F i1 n x2 σ = some r → σ.2 3 i1 ≤ r.2 3 i1 := by
  intro n
  induction n with
  | zero => intro x2 σ r h; exact absurd h (by rw [fX8_tellWatches_5]; exact nofun)
  | succ n ih =>
    intro x2 σ r h
    rw [fX8_tellWatches_5] at h
    obtain ⟨v2, ev2, h⟩ := nm_some h
    clear ev2
    rcases ite_some h with ⟨-, h⟩ | ⟨-, h⟩
    · exact gk_fX8_tellWatches_70 h
    · obtain ⟨-, h⟩ := gnl_some h
      obtain ⟨i7, ei7, h⟩ := nm_some h
      clear ei7
      obtain ⟨-, h⟩ := gnl_some h
      obtain ⟨v8, ev8, h⟩ := nm_some h
      clear ev8
      rcases ite_some h with ⟨-, h⟩ | ⟨-, h⟩
      · exact gk_fX8_tellWatches_70 h
      · obtain ⟨v11, s10, gs10, h⟩ := bnd2_some h
        have fs10 : σ.2 3 i1 ≤ s10.2 3 i1 := Nat.le_of_eq (congrArg (fun x : qS => x.2 3 i1) (gk_fX3_tells gs10)).symm
        clear gs10
        rcases ite_some h with ⟨-, h⟩ | ⟨-, h⟩
        · exact Nat.le_trans fs10 (gk_fX8_tellWatches_64 (fun a0 σ r h => ih a0 σ r h) h)
        · obtain ⟨-, h⟩ := ldi_some h
          obtain ⟨-, h⟩ := ldi_some h
          obtain ⟨-, h⟩ := gnl_some h
          obtain ⟨s16, gs16, h⟩ := bnd_some h
          have fs16 : σ.2 3 i1 ≤ s16.2 3 i1 := Nat.le_trans fs10 (gk_fX6_hearOf gs16)
          clear gs16
          exact Nat.le_trans fs16 (gk_fX8_tellWatches_64 (fun a0 σ r h => ih a0 σ r h) h)
theorem gk_fX8_tellWatches {F : Nat} {i1 : Nat} {σ : qS} {r : qS} (h : fX8_tellWatches F i1 σ = some r) : σ.2 3 i1 ≤ r.2 3 i1 := by
  unfold fX8_tellWatches at h
  obtain ⟨-, h⟩ := gnl_some h
  obtain ⟨v1, ev1, h⟩ := nm_some h
  clear ev1
  exact gk_fX8_tellWatches_5 _ _ _ _ h
set_option maxRecDepth 100000 in
set_option maxHeartbeats 4000000 in
theorem wX4_add (l : Launch) (D : va_G) (Y : Nat → ClassId) (ad : qAd) (z : Nat → Nat) (B0 e0 F : Nat) (i0 : Nat) (p1 : Int32) (σ : qS) : qGv l yX4_add cX4_add 2 3 110 i0 B0 e0 D Y ad z [.ref (aw ad z 55 i0), .int p1] σ (fX4_add F i0 p1 σ) := by
  refine q_ogv (by decide) (Nat.le_of_ble_eq_true rfl) "Leasehall$Row" rfl (fun r0 h => gk_fX4_add h) (fun p e s m below meth c A Q r0 nr C S S0 hf hnr hw hG hAB hE hN hC hS hret ls hl => ?_)
  replace hl : lv_has ls 2 [(0, .ref (aw ad z 55 i0)), (1, .int p1)] := hl
  unfold fX4_add at hf
  have b48 : ∀ (σ : qS), fX4_add_48 F i0 σ = some r0 → gAt p l e 3 110 C S s m ([.ref (aw ad z 55 i0), .int p1] : List Value).toArray below meth c Q D Y A ad 2 i0 nr 48 (fun z => []) σ := by
    clear hf hw hl ls hN hC hS
    intro σ hf z cells slots hN hC hS H locs ls hw hl
    replace hl : lv_has ls 2 [] := hl
    unfold fX4_add_48 at hf
    exact hret hC hS dX4_add_48 hw hf
  have b16 : ∀ (x1 : Int32) (σ : qS), fX4_add_16 F i0 x1 σ = some r0 → gAt p l e 3 110 C S s m ([.ref (aw ad z 55 i0), .int p1] : List Value).toArray below meth c Q D Y A ad 2 i0 nr 16 (fun z => [(0, .ref (aw ad z 55 i0)), (1, .int x1)]) σ := by
    clear hf hw hl ls hN hC hS
    intro x1 σ hf z cells slots hN hC hS H locs ls hw hl
    replace hl : lv_has ls 2 [(0, .ref (aw ad z 55 i0)), (1, .int x1)] := hl
    unfold fX4_add_16 at hf
    refine lv_aload_n S0.1 S0.2.1 dX4_add_16 rfl (lv_at hl 0 rfl) ?_
    obtain ⟨hd, hf⟩ := gnl_some hf
    refine gX4_end S0 hw hd kw_459 dX4_add_17 hf (fun v4 hf => ?_)
    refine lv_aload_n S0.1 S0.2.1 dX4_add_20 rfl (lv_at hl 0 rfl) ?_
    obtain ⟨hd, hf⟩ := gnl_some hf
    refine gX4_told S0 hw hd kw_457 dX4_add_21 ?_
    obtain ⟨hd, hf⟩ := gnl_some hf
    refine q_alen (k := 58) (i := i0) S0 hw hd (t0 := 0) rfl rfl dX4_add_24 (q_top hf (fun v5 hf => ?_))
    refine lv_icmp_ge (tgt := 48) S0.1 S0.2.1 dX4_add_25 (by decide) (fun c6 => ?_) (fun c6 => ?_)
    · replace hf := q_pos c6 hf
      exact b48 σ hf _ _ _ hN hC hS _ _ _ hw (lv_sub hl [] rfl)
    · replace hf := q_neg c6 hf
      refine lv_aload_n S0.1 S0.2.1 dX4_add_28 rfl (lv_at hl 0 rfl) ?_
      obtain ⟨hd, hf⟩ := gnl_some hf
      refine gX4_told S0 hw hd kw_457 dX4_add_29 ?_
      refine lv_aload_n S0.1 S0.2.1 dX4_add_32 rfl (lv_at hl 0 rfl) ?_
      obtain ⟨hd, hf⟩ := gnl_some hf
      refine gX4_end S0 hw hd kw_459 dX4_add_33 hf (fun v7 hf => ?_)
      refine lv_iload_n S0.1 S0.2.1 dX4_add_36 rfl (lv_at hl 1 rfl) ?_
      obtain ⟨hd, hf⟩ := gnl_some hf
      refine q_iast (k := 58) (i := i0) S0 hw hd (t0 := 0) (fun _ => rfl) rfl dX4_add_37 (inx_keep hf) (fun s8 H locs hw hf => ?_)
      obtain ⟨e9, hf⟩ := keep_some hf
      replace hN := gr_n e9 hN
      replace hC := gr_c e9 hC
      replace hS := gr_s e9 hS
      clear e9
      refine lv_aload_n S0.1 S0.2.1 dX4_add_38 rfl (lv_at hl 0 rfl) ?_
      refine lv_dup S0.1 S0.2.1 dX4_add_39 rfl ?_
      obtain ⟨hd, hf⟩ := gnl_some hf
      refine gX4_end S0 hw hd kw_459 dX4_add_40 hf (fun v9 hf => ?_)
      refine lv_iconst (v := 1) S0.1 S0.2.1 dX4_add_43 (by decide) ?_
      refine lv_iadd S0.1 S0.2.1 dX4_add_44 (q_top hf (fun v10 hf => ?_))
      obtain ⟨hd, hf⟩ := gnl_some hf
      refine pX4_end S0 hw hd kw_459 dX4_add_45 (nm_keep hf) (fun s11 H locs hw hf => ?_)
      obtain ⟨e9, hf⟩ := keep_some hf
      replace hN := gr_n e9 hN
      replace hC := gr_c e9 hC
      replace hS := gr_s e9 hS
      clear e9
      exact b48 s11 hf _ _ _ hN hC hS _ _ _ hw (lv_sub hl [] rfl)
  refine lv_aload_n S0.1 S0.2.1 dX4_add_0 rfl (lv_at hl 0 rfl) ?_
  obtain ⟨hd, hf⟩ := gnl_some hf
  refine gX4_end S0 hw hd kw_459 dX4_add_1 hf (fun v1 hf => ?_)
  refine lv_aload_n S0.1 S0.2.1 dX4_add_4 rfl (lv_at hl 0 rfl) ?_
  obtain ⟨hd, hf⟩ := gnl_some hf
  refine gX4_told S0 hw hd kw_457 dX4_add_5 ?_
  obtain ⟨hd, hf⟩ := gnl_some hf
  refine q_alen (k := 58) (i := i0) S0 hw hd (t0 := 0) rfl rfl dX4_add_8 (q_top hf (fun v2 hf => ?_))
  refine lv_icmp_lt (tgt := 16) S0.1 S0.2.1 dX4_add_9 (by decide) (fun c3 => ?_) (fun c3 => ?_)
  · replace hf := q_pos c3 hf
    exact b16 p1 σ hf _ _ _ hN hC hS _ _ _ hw (lv_sub hl [0, 1] rfl)
  · replace hf := q_neg c3 hf
    refine lv_aload_n S0.1 S0.2.1 dX4_add_12 rfl (lv_at hl 0 rfl) ?_
    obtain ⟨hd, hf⟩ := gnl_some hf
    refine q_gcallv (k := 55) (i := i0) (gi := i0) (nr := nr) (Cb := C) (Sb := S) S0 hG hE hAB hw (As := []) (rest := []) (wX4_makeRoom l D Y ad z B0 e0 F i0 σ) qyX4_makeRoom kw_1003 ⟨Nat.le_of_ble_eq_true rfl, Nat.le_of_ble_eq_true rfl⟩ hd rfl rfl rfl rfl hl.1 (Nat.le_of_ble_eq_true rfl) dX4_add_13 rfl hf (fun s1 h => gk_fX4_makeRoom h) (fun s1 h => Nat.le_trans (gk_fX4_add_16 h) (Nat.le_of_eq hnr)) (Nat.le_refl _) (Nat.le_refl _) hC hS (fun z s12 H locs cells slots hw hr hf hN hC hS => ?_)
    exact b16 p1 s12 hf _ _ _ hN hC hS _ _ _ hw (lv_sub hl [0, 1] rfl)

set_option maxRecDepth 100000 in
set_option maxHeartbeats 4000000 in
theorem wX6_hearOf (l : Launch) (D : va_G) (Y : Nat → ClassId) (ad : qAd) (z : Nat → Nat) (B0 e0 F : Nat) (i0 : Nat) (p1 : Int32) (p2 : Int32) (σ : qS) : qGv l yX6_hearOf cX6_hearOf 7 4 131 i0 B0 e0 D Y ad z [.ref (aw ad z 50 i0), .int p1, .int p2, .ref (aw ad z 1 0)] σ (fX6_hearOf F i0 p1 p2 σ) := by
  refine q_ogv (by decide) (Nat.le_of_ble_eq_true rfl) "Leasehall$Session" rfl (fun r0 h => gk_fX6_hearOf h) (fun p e s m below meth c A Q r0 nr C S S0 hf hnr hw hG hAB hE hN hC hS hret ls hl => ?_)
  replace hl : lv_has ls 7 [(0, .ref (aw ad z 50 i0)), (1, .int p1), (2, .int p2), (3, .ref (aw ad z 1 0))] := hl
  unfold fX6_hearOf at hf
  have b104 : ∀ (x4 : Int32) (σ : qS), fX6_hearOf_104 F i0 x4 σ = some r0 → gAt p l e 4 131 C S s m ([.ref (aw ad z 50 i0), .int p1, .int p2, .ref (aw ad z 1 0)] : List Value).toArray below meth c Q D Y A ad 7 i0 nr 104 (fun z => [(0, .ref (aw ad z 50 i0)), (4, .int x4)]) σ := by
    clear hf hw hl ls hN hC hS
    intro x4 σ hf z cells slots hN hC hS H locs ls hw hl
    replace hl : lv_has ls 7 [(0, .ref (aw ad z 50 i0)), (4, .int x4)] := hl
    unfold fX6_hearOf_104 at hf
    refine lv_aload_n S0.1 S0.2.1 dX6_hearOf_104 rfl (lv_at hl 0 rfl) ?_
    refine lv_iload S0.1 S0.2.1 dX6_hearOf_105 (lv_at hl 1 rfl) ?_
    obtain ⟨hd, hf⟩ := gnl_some hf
    refine pX6_watches S0 hw hd kw_488 dX6_hearOf_107 (nm_keep hf) (fun s3 H locs hw hf => ?_)
    obtain ⟨e9, hf⟩ := keep_some hf
    replace hN := gr_n e9 hN
    replace hC := gr_c e9 hC
    replace hS := gr_s e9 hS
    clear e9
    exact hret hC hS dX6_hearOf_110 hw hf
  have b98 : ∀ (k6 : Int32 → Int32 → Int32 → Int32 → qS → Option qS) (hk6 : ∀ (x1 : Int32) (x2 : Int32) (x4 : Int32) (x5 : Int32) (σ : qS), k6 x1 x2 x4 x5 σ = some r0 → gAt p l e 4 131 C S s m ([.ref (aw ad z 50 i0), .int p1, .int p2, .ref (aw ad z 1 0)] : List Value).toArray below meth c Q D Y A ad 7 i0 nr 6 (fun z => [(0, .ref (aw ad z 50 i0)), (1, .int x1), (2, .int x2), (3, .ref (aw ad z 1 0)), (4, .int x4), (5, .int x5)]) σ) (x1 : Int32) (x2 : Int32) (x4 : Int32) (x5 : Int32) (σ : qS), fX6_hearOf_98 F i0 k6 x1 x2 x4 x5 σ = some r0 → gAt p l e 4 131 C S s m ([.ref (aw ad z 50 i0), .int p1, .int p2, .ref (aw ad z 1 0)] : List Value).toArray below meth c Q D Y A ad 7 i0 nr 98 (fun z => [(0, .ref (aw ad z 50 i0)), (1, .int x1), (2, .int x2), (3, .ref (aw ad z 1 0)), (4, .int x4), (5, .int x5)]) σ := by
    clear hf hw hl ls hN hC hS
    intro k6 hk6
    intro x1 x2 x4 x5 σ hf z cells slots hN hC hS H locs ls hw hl
    replace hl : lv_has ls 7 [(0, .ref (aw ad z 50 i0)), (1, .int x1), (2, .int x2), (3, .ref (aw ad z 1 0)), (4, .int x4), (5, .int x5)] := hl
    unfold fX6_hearOf_98 at hf
    refine q_iinc S0 (v0 := 1) dX6_hearOf_98 hl (k := 5) rfl (by decide) (by decide) rfl hf (fun v14 ls hl hf => ?_)
    refine lv_goto (tgt := 6) S0.1 S0.2.1 dX6_hearOf_101 (by decide) ?_
    exact hk6 x1 x2 x4 v14 σ hf _ _ _ hN hC hS _ _ _ hw (lv_sub hl [1, 2, 3, 4, 5, 0] rfl)
  have b67 : ∀ (k6 : Int32 → Int32 → Int32 → Int32 → qS → Option qS) (hk6 : ∀ (x1 : Int32) (x2 : Int32) (x4 : Int32) (x5 : Int32) (σ : qS), k6 x1 x2 x4 x5 σ = some r0 → gAt p l e 4 131 C S s m ([.ref (aw ad z 50 i0), .int p1, .int p2, .ref (aw ad z 1 0)] : List Value).toArray below meth c Q D Y A ad 7 i0 nr 6 (fun z => [(0, .ref (aw ad z 50 i0)), (1, .int x1), (2, .int x2), (3, .ref (aw ad z 1 0)), (4, .int x4), (5, .int x5)]) σ) (x1 : Int32) (x2 : Int32) (x4 : Int32) (x5 : Int32) (σ : qS), fX6_hearOf_67 F i0 k6 x1 x2 x4 x5 σ = some r0 → gAt p l e 4 131 C S s m ([.ref (aw ad z 50 i0), .int p1, .int p2, .ref (aw ad z 1 0)] : List Value).toArray below meth c Q D Y A ad 7 i0 nr 67 (fun z => [(0, .ref (aw ad z 50 i0)), (1, .int x1), (2, .int x2), (3, .ref (aw ad z 1 0)), (4, .int x4), (5, .int x5)]) σ := by
    clear hf hw hl ls hN hC hS
    intro k6 hk6
    intro x1 x2 x4 x5 σ hf z cells slots hN hC hS H locs ls hw hl
    replace hl : lv_has ls 7 [(0, .ref (aw ad z 50 i0)), (1, .int x1), (2, .int x2), (3, .ref (aw ad z 1 0)), (4, .int x4), (5, .int x5)] := hl
    unfold fX6_hearOf_67 at hf
    refine lv_aload_n S0.1 S0.2.1 dX6_hearOf_67 rfl (lv_at hl 0 rfl) ?_
    obtain ⟨hd, hf⟩ := gnl_some hf
    refine gX6_watchNode S0 hw hd kw_478 dX6_hearOf_68 ?_
    refine lv_iload S0.1 S0.2.1 dX6_hearOf_71 (lv_at hl 4 rfl) ?_
    refine lv_aload_n S0.1 S0.2.1 dX6_hearOf_73 rfl (lv_at hl 0 rfl) ?_
    obtain ⟨hd, hf⟩ := gnl_some hf
    refine gX6_watchNode S0 hw hd kw_478 dX6_hearOf_74 ?_
    refine lv_iload S0.1 S0.2.1 dX6_hearOf_77 (lv_at hl 5 rfl) ?_
    obtain ⟨hd, hf⟩ := gnl_some hf
    refine q_iald (k := 53) (i := i0) S0 hw hd (t0 := 0) rfl rfl dX6_hearOf_79 hf (fun v9 hf => ?_)
    obtain ⟨hd, hf⟩ := gnl_some hf
    refine q_iast (k := 53) (i := i0) S0 hw hd (t0 := 0) (fun _ => rfl) rfl dX6_hearOf_80 (inx_keep hf) (fun s10 H locs hw hf => ?_)
    obtain ⟨e9, hf⟩ := keep_some hf
    replace hN := gr_n e9 hN
    replace hC := gr_c e9 hC
    replace hS := gr_s e9 hS
    clear e9
    refine lv_aload_n S0.1 S0.2.1 dX6_hearOf_81 rfl (lv_at hl 0 rfl) ?_
    obtain ⟨hd, hf⟩ := gnl_some hf
    refine gX6_watchKind S0 hw hd kw_479 dX6_hearOf_82 ?_
    refine lv_iload S0.1 S0.2.1 dX6_hearOf_85 (lv_at hl 4 rfl) ?_
    refine lv_aload_n S0.1 S0.2.1 dX6_hearOf_87 rfl (lv_at hl 0 rfl) ?_
    obtain ⟨hd, hf⟩ := gnl_some hf
    refine gX6_watchKind S0 hw hd kw_479 dX6_hearOf_88 ?_
    refine lv_iload S0.1 S0.2.1 dX6_hearOf_91 (lv_at hl 5 rfl) ?_
    obtain ⟨hd, hf⟩ := gnl_some hf
    refine q_iald (k := 54) (i := i0) S0 hw hd (t0 := 0) rfl rfl dX6_hearOf_93 hf (fun v11 hf => ?_)
    obtain ⟨hd, hf⟩ := gnl_some hf
    refine q_iast (k := 54) (i := i0) S0 hw hd (t0 := 0) (fun _ => rfl) rfl dX6_hearOf_94 (inx_keep hf) (fun s12 H locs hw hf => ?_)
    obtain ⟨e9, hf⟩ := keep_some hf
    replace hN := gr_n e9 hN
    replace hC := gr_c e9 hC
    replace hS := gr_s e9 hS
    clear e9
    refine q_iinc S0 (v0 := 1) dX6_hearOf_95 hl (k := 4) rfl (by decide) (by decide) rfl hf (fun v13 ls hl hf => ?_)
    exact b98 k6 hk6 x1 x2 v13 x5 s12 hf _ _ _ hN hC hS _ _ _ hw (lv_sub hl [1, 2, 3, 4, 0, 5] rfl)
  have b51 : ∀ (k6 : Int32 → Int32 → Int32 → Int32 → qS → Option qS) (hk6 : ∀ (x1 : Int32) (x2 : Int32) (x4 : Int32) (x5 : Int32) (σ : qS), k6 x1 x2 x4 x5 σ = some r0 → gAt p l e 4 131 C S s m ([.ref (aw ad z 50 i0), .int p1, .int p2, .ref (aw ad z 1 0)] : List Value).toArray below meth c Q D Y A ad 7 i0 nr 6 (fun z => [(0, .ref (aw ad z 50 i0)), (1, .int x1), (2, .int x2), (3, .ref (aw ad z 1 0)), (4, .int x4), (5, .int x5)]) σ) (x1 : Int32) (x2 : Int32) (x4 : Int32) (x5 : Int32) (x6 : Int32) (σ : qS), fX6_hearOf_51 F i0 k6 x1 x2 x4 x5 x6 σ = some r0 → gAt p l e 4 131 C S s m ([.ref (aw ad z 50 i0), .int p1, .int p2, .ref (aw ad z 1 0)] : List Value).toArray below meth c Q D Y A ad 7 i0 nr 51 (fun z => [(0, .ref (aw ad z 50 i0)), (1, .int x1), (2, .int x2), (3, .ref (aw ad z 1 0)), (4, .int x4), (5, .int x5), (6, .int x6)]) σ := by
    clear hf hw hl ls hN hC hS
    intro k6 hk6
    intro x1 x2 x4 x5 x6 σ hf z cells slots hN hC hS H locs ls hw hl
    replace hl : lv_has ls 7 [(0, .ref (aw ad z 50 i0)), (1, .int x1), (2, .int x2), (3, .ref (aw ad z 1 0)), (4, .int x4), (5, .int x5), (6, .int x6)] := hl
    unfold fX6_hearOf_51 at hf
    refine lv_iload S0.1 S0.2.1 dX6_hearOf_51 (lv_at hl 6 rfl) ?_
    refine lv_if_eq (tgt := 67) S0.1 S0.2.1 dX6_hearOf_53 (by decide) (fun c8 => ?_) (fun c8 => ?_)
    · replace hf := q_pos c8 hf
      exact b67 k6 hk6 x1 x2 x4 x5 σ hf _ _ _ hN hC hS _ _ _ hw (lv_sub hl [0, 1, 2, 3, 4, 5] rfl)
    · replace hf := q_neg c8 hf
      refine lv_aload_n S0.1 S0.2.1 dX6_hearOf_56 rfl (lv_at hl 0 rfl) ?_
      obtain ⟨hd, hf⟩ := gnl_some hf
      refine gX6_watchKind S0 hw hd kw_479 dX6_hearOf_57 ?_
      refine lv_iload S0.1 S0.2.1 dX6_hearOf_60 (lv_at hl 5 rfl) ?_
      obtain ⟨hd, hf⟩ := gnl_some hf
      refine q_iald (k := 54) (i := i0) S0 hw hd (t0 := 0) rfl rfl dX6_hearOf_62 hf (fun v15 hf => ?_)
      refine lv_iconst (v := 2) S0.1 S0.2.1 dX6_hearOf_63 (by decide) ?_
      refine lv_icmp_ne (tgt := 98) S0.1 S0.2.1 dX6_hearOf_64 (by decide) (fun c16 => ?_) (fun c16 => ?_)
      · replace hf := q_neg c16 hf
        exact b98 k6 hk6 x1 x2 x4 x5 σ hf _ _ _ hN hC hS _ _ _ hw (lv_sub hl [0, 1, 2, 3, 4, 5] rfl)
      · replace hf := q_pos c16 hf
        exact b67 k6 hk6 x1 x2 x4 x5 σ hf _ _ _ hN hC hS _ _ _ hw (lv_sub hl [0, 1, 2, 3, 4, 5] rfl)
  have b6 : ∀ (n : Nat) (x1 : Int32) (x2 : Int32) (x4 : Int32) (x5 : Int32) (σ : qS), fX6_hearOf_6 F i0 n x1 x2 x4 x5 σ = some r0 → gAt p l e 4 131 C S s m ([.ref (aw ad z 50 i0), .int p1, .int p2, .ref (aw ad z 1 0)] : List Value).toArray below meth c Q D Y A ad 7 i0 nr 6 (fun z => [(0, .ref (aw ad z 50 i0)), (1, .int x1), (2, .int x2), (3, .ref (aw ad z 1 0)), (4, .int x4), (5, .int x5)]) σ := by
    clear hf hw hl ls hN hC hS
    intro n
    induction n with
    | zero => intro x1 x2 x4 x5 σ hf; exact absurd hf (by rw [fX6_hearOf_6]; exact nofun)
    | succ n hk6 =>
      intro x1 x2 x4 x5 σ hf z cells slots hN hC hS H locs ls hw hl
      replace hl : lv_has ls 7 [(0, .ref (aw ad z 50 i0)), (1, .int x1), (2, .int x2), (3, .ref (aw ad z 1 0)), (4, .int x4), (5, .int x5)] := hl
      rw [fX6_hearOf_6] at hf
      refine lv_iload S0.1 S0.2.1 dX6_hearOf_6 (lv_at hl 5 rfl) ?_
      refine lv_aload_n S0.1 S0.2.1 dX6_hearOf_8 rfl (lv_at hl 0 rfl) ?_
      obtain ⟨hd, hf⟩ := gnl_some hf
      refine gX6_watches S0 hw hd kw_488 dX6_hearOf_9 hf (fun v1 hf => ?_)
      refine lv_icmp_ge (tgt := 104) S0.1 S0.2.1 dX6_hearOf_12 (by decide) (fun c2 => ?_) (fun c2 => ?_)
      · replace hf := q_pos c2 hf
        exact b104 x4 σ hf _ _ _ hN hC hS _ _ _ hw (lv_sub hl [0, 4] rfl)
      · replace hf := q_neg c2 hf
        refine lv_iload S0.1 S0.2.1 dX6_hearOf_15 (lv_at hl 5 rfl) ?_
        refine lv_bipush (v := 8) S0.1 S0.2.1 dX6_hearOf_17 (by decide) ?_
        refine lv_icmp_ge (tgt := 104) S0.1 S0.2.1 dX6_hearOf_19 (by decide) (fun c4 => ?_) (fun c4 => ?_)
        · replace hf := q_pos c4 hf
          exact b104 x4 σ hf _ _ _ hN hC hS _ _ _ hw (lv_sub hl [0, 4] rfl)
        · replace hf := q_neg c4 hf
          refine lv_aload_n S0.1 S0.2.1 dX6_hearOf_22 rfl (lv_at hl 0 rfl) ?_
          refine lv_iload S0.1 S0.2.1 dX6_hearOf_23 (lv_at hl 5 rfl) ?_
          refine lv_iload_n S0.1 S0.2.1 dX6_hearOf_25 rfl (lv_at hl 1 rfl) ?_
          refine lv_iload_n S0.1 S0.2.1 dX6_hearOf_26 rfl (lv_at hl 2 rfl) ?_
          refine lv_aload_n S0.1 S0.2.1 dX6_hearOf_27 rfl (lv_at hl 3 rfl) ?_
          obtain ⟨hd, hf⟩ := gnl_some hf
          refine q_calli (k := 50) (i := i0) S0 hw (As := [.int x5, .int x1, .int x2, .ref (aw ad z 1 0)]) (rest := []) (wX6_watchesFor l D Y (aw ad z) F i0 x5 x1 x2 σ) qyX6_watchesFor kw_991 ⟨Nat.le_of_ble_eq_true rfl, Nat.le_of_ble_eq_true rfl⟩ hd rfl rfl rfl rfl hl.1 (Nat.le_of_ble_eq_true rfl) dX6_hearOf_28 ⟨gr_C hN hC, gr_S hN hS⟩ rfl (bnd2_keep (fun v s h => congrArg Prod.snd (gk_fX6_watchesFor h)) hf) (fun v6 s5 H locs hw hf => ?_)
          obtain ⟨e9, hf⟩ := keep_some hf
          replace hN := gr_n e9 hN
          replace hC := gr_c e9 hC
          replace hS := gr_s e9 hS
          clear e9
          refine lv_istore (lv' := [(6, .int v6), (0, .ref (aw ad z 50 i0)), (1, .int x1), (2, .int x2), (3, .ref (aw ad z 1 0)), (4, .int x4), (5, .int x5)]) S0.1 S0.2.1 dX6_hearOf_31 hl (by decide) rfl (fun ls hl => ?_)
          refine lv_iload S0.1 S0.2.1 dX6_hearOf_33 (lv_at hl 0 rfl) ?_
          refine lv_if_eq (tgt := 51) S0.1 S0.2.1 dX6_hearOf_35 (by decide) (fun c7 => ?_) (fun c7 => ?_)
          · replace hf := q_pos c7 hf
            exact b51 (fX6_hearOf_6 F i0 n) hk6 x1 x2 x4 x5 v6 s5 hf _ _ _ hN hC hS _ _ _ hw (lv_sub hl [1, 2, 3, 4, 5, 6, 0] rfl)
          · replace hf := q_neg c7 hf
            refine lv_aload_n S0.1 S0.2.1 dX6_hearOf_38 rfl (lv_at hl 1 rfl) ?_
            obtain ⟨hd, hf⟩ := gnl_some hf
            refine gX6_row S0 hw hd kw_480 dX6_hearOf_39 ?_
            refine lv_bipush (v := 10) S0.1 S0.2.1 dX6_hearOf_42 (by decide) ?_
            refine lv_iload_n S0.1 S0.2.1 dX6_hearOf_44 rfl (lv_at hl 3 rfl) ?_
            refine lv_imul S0.1 S0.2.1 dX6_hearOf_45 (q_top hf (fun v17 hf => ?_))
            refine lv_iload_n S0.1 S0.2.1 dX6_hearOf_46 rfl (lv_at hl 2 rfl) ?_
            refine lv_iadd S0.1 S0.2.1 dX6_hearOf_47 (q_top hf (fun v18 hf => ?_))
            obtain ⟨hd, hf⟩ := gnl_some hf
            refine q_gcallv (k := 55) (i := i0) (gi := i0) (nr := nr) (Cb := C) (Sb := S) S0 hG hE hAB hw (As := [.int v18]) (rest := []) (wX4_add l D Y ad z B0 e0 F i0 v18 s5) qyX4_add kw_999 ⟨Nat.le_of_ble_eq_true rfl, Nat.le_of_ble_eq_true rfl⟩ hd rfl rfl rfl rfl hl.1 (Nat.le_of_ble_eq_true rfl) dX6_hearOf_48 rfl hf (fun s1 h => gk_fX4_add h) (fun s1 h => Nat.le_trans (gk_fX6_hearOf_51 (fun a0 a1 a2 a3 σ r h => gk_fX6_hearOf_6 n _ _ _ _ σ r h) h) (Nat.le_of_eq hnr)) (Nat.le_refl _) (Nat.le_refl _) hC hS (fun z s19 H locs cells slots hw hr hf hN hC hS => ?_)
            exact b51 (fX6_hearOf_6 F i0 n) hk6 x1 x2 x4 x5 v6 s19 hf _ _ _ hN hC hS _ _ _ hw (lv_sub hl [1, 2, 3, 4, 5, 6, 0] rfl)
  refine lv_iconst (v := 0) S0.1 S0.2.1 dX6_hearOf_0 (by decide) ?_
  refine lv_istore (lv' := [(4, .int 0), (0, .ref (aw ad z 50 i0)), (1, .int p1), (2, .int p2), (3, .ref (aw ad z 1 0))]) S0.1 S0.2.1 dX6_hearOf_1 hl (by decide) rfl (fun ls hl => ?_)
  refine lv_iconst (v := 0) S0.1 S0.2.1 dX6_hearOf_3 (by decide) ?_
  refine lv_istore (lv' := [(5, .int 0), (4, .int 0), (0, .ref (aw ad z 50 i0)), (1, .int p1), (2, .int p2), (3, .ref (aw ad z 1 0))]) S0.1 S0.2.1 dX6_hearOf_4 hl (by decide) rfl (fun ls hl => ?_)
  exact b6 F p1 p2 0 0 σ hf _ _ _ hN hC hS _ _ _ hw (lv_sub hl [2, 3, 4, 5, 1, 0] rfl)

set_option maxRecDepth 100000 in
set_option maxHeartbeats 4000000 in
theorem wX8_tellWatches (l : Launch) (D : va_G) (Y : Nat → ClassId) (ad : qAd) (z : Nat → Nat) (B0 e0 F : Nat) (i1 : Nat) (σ : qS) : qGv l yX8_tellWatches cX8_tellWatches 3 5 157 i1 B0 e0 D Y ad z [.ref (aw ad z 0 0), .ref (aw ad z 50 i1)] σ (fX8_tellWatches F i1 σ) := by
  refine q_ogv (by decide) (Nat.le_of_ble_eq_true rfl) "Leasehall" rfl (fun r0 h => gk_fX8_tellWatches h) (fun p e s m below meth c A Q r0 nr C S S0 hf hnr hw hG hAB hE hN hC hS hret ls hl => ?_)
  replace hl : lv_has ls 3 [(0, .ref (aw ad z 0 0)), (1, .ref (aw ad z 50 i1))] := hl
  unfold fX8_tellWatches at hf
  have b70 : ∀ (σ : qS), fX8_tellWatches_70 F i1 σ = some r0 → gAt p l e 5 157 C S s m ([.ref (aw ad z 0 0), .ref (aw ad z 50 i1)] : List Value).toArray below meth c Q D Y A ad 3 i1 nr 70 (fun z => [(1, .ref (aw ad z 50 i1))]) σ := by
    clear hf hw hl ls hN hC hS
    intro σ hf z cells slots hN hC hS H locs ls hw hl
    replace hl : lv_has ls 3 [(1, .ref (aw ad z 50 i1))] := hl
    unfold fX8_tellWatches_70 at hf
    refine lv_aload_n S0.1 S0.2.1 dX8_tellWatches_70 rfl (lv_at hl 0 rfl) ?_
    refine lv_aload_n S0.1 S0.2.1 dX8_tellWatches_71 rfl (lv_at hl 0 rfl) ?_
    obtain ⟨hd, hf⟩ := gnl_some hf
    refine gX6_server S0 hw hd kw_483 dX8_tellWatches_72 hf (fun i4 hf => ?_)
    obtain ⟨hd, hf⟩ := gnl_some hf
    refine gX5_steps S0 hw hd kw_216 dX8_tellWatches_75 hf (fun v5 hf => ?_)
    obtain ⟨hd, hf⟩ := gnl_some hf
    refine pX6_steps S0 hw hd kw_487 dX8_tellWatches_78 (nm_keep hf) (fun s6 H locs hw hf => ?_)
    obtain ⟨e9, hf⟩ := keep_some hf
    replace hN := gr_n e9 hN
    replace hC := gr_c e9 hC
    replace hS := gr_s e9 hS
    clear e9
    exact hret hC hS dX8_tellWatches_81 hw hf
  have b64 : ∀ (k5 : Int32 → qS → Option qS) (hk5 : ∀ (x2 : Int32) (σ : qS), k5 x2 σ = some r0 → gAt p l e 5 157 C S s m ([.ref (aw ad z 0 0), .ref (aw ad z 50 i1)] : List Value).toArray below meth c Q D Y A ad 3 i1 nr 5 (fun z => [(0, .ref (aw ad z 0 0)), (1, .ref (aw ad z 50 i1)), (2, .int x2)]) σ) (x2 : Int32) (σ : qS), fX8_tellWatches_64 F i1 k5 x2 σ = some r0 → gAt p l e 5 157 C S s m ([.ref (aw ad z 0 0), .ref (aw ad z 50 i1)] : List Value).toArray below meth c Q D Y A ad 3 i1 nr 64 (fun z => [(0, .ref (aw ad z 0 0)), (1, .ref (aw ad z 50 i1)), (2, .int x2)]) σ := by
    clear hf hw hl ls hN hC hS
    intro k5 hk5
    intro x2 σ hf z cells slots hN hC hS H locs ls hw hl
    replace hl : lv_has ls 3 [(0, .ref (aw ad z 0 0)), (1, .ref (aw ad z 50 i1)), (2, .int x2)] := hl
    unfold fX8_tellWatches_64 at hf
    refine q_iinc S0 (v0 := 1) dX8_tellWatches_64 hl (k := 2) rfl (by decide) (by decide) rfl hf (fun v13 ls hl hf => ?_)
    refine lv_goto (tgt := 5) S0.1 S0.2.1 dX8_tellWatches_67 (by decide) ?_
    exact hk5 v13 σ hf _ _ _ hN hC hS _ _ _ hw (lv_sub hl [1, 2, 0] rfl)
  have b5 : ∀ (n : Nat) (x2 : Int32) (σ : qS), fX8_tellWatches_5 F i1 n x2 σ = some r0 → gAt p l e 5 157 C S s m ([.ref (aw ad z 0 0), .ref (aw ad z 50 i1)] : List Value).toArray below meth c Q D Y A ad 3 i1 nr 5 (fun z => [(0, .ref (aw ad z 0 0)), (1, .ref (aw ad z 50 i1)), (2, .int x2)]) σ := by
    clear hf hw hl ls hN hC hS
    intro n
    induction n with
    | zero => intro x2 σ hf; exact absurd hf (by rw [fX8_tellWatches_5]; exact nofun)
    | succ n hk5 =>
      intro x2 σ hf z cells slots hN hC hS H locs ls hw hl
      replace hl : lv_has ls 3 [(0, .ref (aw ad z 0 0)), (1, .ref (aw ad z 50 i1)), (2, .int x2)] := hl
      rw [fX8_tellWatches_5] at hf
      refine lv_iload_n S0.1 S0.2.1 dX8_tellWatches_5 rfl (lv_at hl 2 rfl) ?_
      refine lv_aload_n S0.1 S0.2.1 dX8_tellWatches_6 rfl (lv_at hl 0 rfl) ?_
      refine gX8_log S0 hw kw_232 dX8_tellWatches_7 ?_
      refine gX3_size S0 hw kw_130 dX8_tellWatches_10 hf (fun v2 hf => ?_)
      refine lv_icmp_ge (tgt := 70) S0.1 S0.2.1 dX8_tellWatches_13 (by decide) (fun c3 => ?_) (fun c3 => ?_)
      · replace hf := q_pos c3 hf
        exact b70 σ hf _ _ _ hN hC hS _ _ _ hw (lv_sub hl [1] rfl)
      · replace hf := q_neg c3 hf
        refine lv_iload_n S0.1 S0.2.1 dX8_tellWatches_16 rfl (lv_at hl 2 rfl) ?_
        refine lv_aload_n S0.1 S0.2.1 dX8_tellWatches_17 rfl (lv_at hl 1 rfl) ?_
        obtain ⟨hd, hf⟩ := gnl_some hf
        refine gX6_server S0 hw hd kw_483 dX8_tellWatches_18 hf (fun i7 hf => ?_)
        obtain ⟨hd, hf⟩ := gnl_some hf
        refine gX5_steps S0 hw hd kw_216 dX8_tellWatches_21 hf (fun v8 hf => ?_)
        refine lv_icmp_ge (tgt := 70) S0.1 S0.2.1 dX8_tellWatches_24 (by decide) (fun c9 => ?_) (fun c9 => ?_)
        · replace hf := q_pos c9 hf
          exact b70 σ hf _ _ _ hN hC hS _ _ _ hw (lv_sub hl [1] rfl)
        · replace hf := q_neg c9 hf
          refine lv_aload_n S0.1 S0.2.1 dX8_tellWatches_27 rfl (lv_at hl 0 rfl) ?_
          refine gX8_log S0 hw kw_232 dX8_tellWatches_28 ?_
          refine lv_iload_n S0.1 S0.2.1 dX8_tellWatches_31 rfl (lv_at hl 2 rfl) ?_
          refine q_calli S0 hw (As := [.int x2]) (rest := []) (wX3_tells l D Y (aw ad z) F x2 σ) qyX3_tells kw_983 ⟨Nat.le_of_ble_eq_true rfl, Nat.le_of_ble_eq_true rfl⟩ dC_9 rfl rfl rfl rfl hl.1 (Nat.le_of_ble_eq_true rfl) dX8_tellWatches_32 ⟨gr_C hN hC, gr_S hN hS⟩ rfl (bnd2_keep (fun v s h => congrArg Prod.snd (gk_fX3_tells h)) hf) (fun v11 s10 H locs hw hf => ?_)
          obtain ⟨e9, hf⟩ := keep_some hf
          replace hN := gr_n e9 hN
          replace hC := gr_c e9 hC
          replace hS := gr_s e9 hS
          clear e9
          refine lv_if_eq (tgt := 64) S0.1 S0.2.1 dX8_tellWatches_35 (by decide) (fun c12 => ?_) (fun c12 => ?_)
          · replace hf := q_pos c12 hf
            exact b64 (fX8_tellWatches_5 F i1 n) hk5 x2 s10 hf _ _ _ hN hC hS _ _ _ hw (lv_sub hl [0, 1, 2] rfl)
          · replace hf := q_neg c12 hf
            refine lv_aload_n S0.1 S0.2.1 dX8_tellWatches_38 rfl (lv_at hl 1 rfl) ?_
            refine lv_aload_n S0.1 S0.2.1 dX8_tellWatches_39 rfl (lv_at hl 0 rfl) ?_
            refine gX8_log S0 hw kw_232 dX8_tellWatches_40 ?_
            refine gX3_kind S0 hw kw_124 dX8_tellWatches_43 ?_
            refine lv_iload_n S0.1 S0.2.1 dX8_tellWatches_46 rfl (lv_at hl 2 rfl) ?_
            refine q_iald S0 hw dC_11 (t0 := 0) rfl rfl dX8_tellWatches_47 hf (fun v14 hf => ?_)
            refine lv_aload_n S0.1 S0.2.1 dX8_tellWatches_48 rfl (lv_at hl 0 rfl) ?_
            refine gX8_log S0 hw kw_232 dX8_tellWatches_49 ?_
            refine gX3_node S0 hw kw_126 dX8_tellWatches_52 ?_
            refine lv_iload_n S0.1 S0.2.1 dX8_tellWatches_55 rfl (lv_at hl 2 rfl) ?_
            refine q_iald S0 hw dC_12 (t0 := 0) rfl rfl dX8_tellWatches_56 hf (fun v15 hf => ?_)
            refine lv_aload_n S0.1 S0.2.1 dX8_tellWatches_57 rfl (lv_at hl 0 rfl) ?_
            refine gX8_births S0 hw kw_227 dX8_tellWatches_58 ?_
            obtain ⟨hd, hf⟩ := gnl_some hf
            refine q_gcallv (k := 50) (i := i1) (gi := i1) (nr := nr) (Cb := C) (Sb := S) S0 hG hE hAB hw (As := [.int v14, .int v15, .ref (aw ad z 1 0)]) (rest := []) (wX6_hearOf l D Y ad z B0 e0 F i1 v14 v15 s10) qyX6_hearOf kw_987 ⟨Nat.le_of_ble_eq_true rfl, Nat.le_of_ble_eq_true rfl⟩ hd rfl rfl rfl rfl hl.1 (Nat.le_of_ble_eq_true rfl) dX8_tellWatches_61 rfl hf (fun s1 h => gk_fX6_hearOf h) (fun s1 h => Nat.le_trans (gk_fX8_tellWatches_64 (fun a0 σ r h => gk_fX8_tellWatches_5 n _ σ r h) h) (Nat.le_of_eq hnr)) (Nat.le_refl _) (Nat.le_refl _) hC hS (fun z s16 H locs cells slots hw hr hf hN hC hS => ?_)
            exact b64 (fX8_tellWatches_5 F i1 n) hk5 x2 s16 hf _ _ _ hN hC hS _ _ _ hw (lv_sub hl [0, 1, 2] rfl)
  refine lv_aload_n S0.1 S0.2.1 dX8_tellWatches_0 rfl (lv_at hl 1 rfl) ?_
  obtain ⟨hd, hf⟩ := gnl_some hf
  refine gX6_steps S0 hw hd kw_487 dX8_tellWatches_1 hf (fun v1 hf => ?_)
  refine lv_istore_n (lv' := [(2, .int v1), (0, .ref (aw ad z 0 0)), (1, .ref (aw ad z 50 i1))]) S0.1 S0.2.1 dX8_tellWatches_4 rfl hl (by decide) rfl (fun ls hl => ?_)
  exact b5 F v1 σ hf _ _ _ hN hC hS _ _ _ hw (lv_sub hl [1, 2, 0] rfl)

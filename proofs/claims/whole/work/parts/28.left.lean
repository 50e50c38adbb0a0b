/-! WHAT METHODS LEAVE: how many sessions and leases were opened -/
theorem n01_tr {a b c : qS} (h : b.2 0 0 = a.2 0 0 ∧ b.2 1 0 = a.2 1 0) (h2 : c.2 0 0 = b.2 0 0 ∧ c.2 1 0 = b.2 1 0) : c.2 0 0 = a.2 0 0 ∧ c.2 1 0 = a.2 1 0 := ⟨h2.1.trans h.1, h2.2.trans h.2⟩
theorem gn_fX4_makeRoom {F i0 : Nat} {σ r : qS} (h : fX4_makeRoom F i0 σ = some r) : (r.2 0 0 = σ.2 0 0 ∧ r.2 1 0 = σ.2 1 0) := by
  unfold fX4_makeRoom at h
  obtain ⟨-, h⟩ := gnl_some h
  obtain ⟨-, h⟩ := gnl_some h
  obtain ⟨-, h⟩ := gnl_some h
  rcases ite_some h with ⟨-, h⟩ | ⟨-, h⟩
  · rcases ite_some h with ⟨-, h⟩ | ⟨-, h⟩
    · cases h; exact ⟨rfl, rfl⟩
    · cases h; exact ⟨rfl, rfl⟩
  · rcases ite_some h with ⟨-, h⟩ | ⟨-, h⟩
    · rcases ite_some h with ⟨-, h⟩ | ⟨-, h⟩
      · cases h
      · cases h; exact ⟨rfl, rfl⟩
    · cases h
theorem gn_fX0_toDo {F : Nat} {i0 : Nat} {p1 : Int32} {p2 : Int32} {p3 : Int32} {p4 : Int32} {σ : qS} {r : qS} (h : fX0_toDo F i0 p1 p2 p3 p4 σ = some r) : (r.2 0 0 = σ.2 0 0 ∧ r.2 1 0 = σ.2 1 0) := by
  unfold fX0_toDo at h
  obtain ⟨-, h⟩ := gnl_some h
  obtain ⟨s1, es1, h⟩ := nm_some h
  have fs1 : (s1.2 0 0 = σ.2 0 0 ∧ s1.2 1 0 = σ.2 1 0) := show (s1.2 0 0 = σ.2 0 0 ∧ s1.2 1 0 = σ.2 1 0) from by rw [es1]; exact ⟨rfl, rfl⟩
  clear es1
  obtain ⟨-, h⟩ := gnl_some h
  obtain ⟨s2, es2, h⟩ := nm_some h
  have fs2 : (s2.2 0 0 = σ.2 0 0 ∧ s2.2 1 0 = σ.2 1 0) := n01_tr fs1 (show (s2.2 0 0 = s1.2 0 0 ∧ s2.2 1 0 = s1.2 1 0) from by rw [es2]; exact ⟨rfl, rfl⟩)
  clear es2
  obtain ⟨-, h⟩ := gnl_some h
  obtain ⟨s3, es3, h⟩ := nm_some h
  have fs3 : (s3.2 0 0 = σ.2 0 0 ∧ s3.2 1 0 = σ.2 1 0) := n01_tr fs2 (show (s3.2 0 0 = s2.2 0 0 ∧ s3.2 1 0 = s2.2 1 0) from by rw [es3]; exact ⟨rfl, rfl⟩)
  clear es3
  obtain ⟨-, h⟩ := gnl_some h
  obtain ⟨s4, es4, h⟩ := nm_some h
  have fs4 : (s4.2 0 0 = σ.2 0 0 ∧ s4.2 1 0 = σ.2 1 0) := n01_tr fs3 (show (s4.2 0 0 = s3.2 0 0 ∧ s4.2 1 0 = s3.2 1 0) from by rw [es4]; exact ⟨rfl, rfl⟩)
  clear es4
  cases h
  exact fs4
theorem gn_fX0_toMake {F : Nat} {i0 : Nat} {p1 : Int32} {p2 : Int32} {p3 : Int32} {p4 : Int32} {σ : qS} {r : qS} (h : fX0_toMake F i0 p1 p2 p3 p4 σ = some r) : (r.2 0 0 = σ.2 0 0 ∧ r.2 1 0 = σ.2 1 0) := by
  unfold fX0_toMake at h
  obtain ⟨-, h⟩ := gnl_some h
  obtain ⟨s1, gs1, h⟩ := bnd_some h
  have fs1 : (s1.2 0 0 = σ.2 0 0 ∧ s1.2 1 0 = σ.2 1 0) := gn_fX0_toDo gs1
  clear gs1
  obtain ⟨-, h⟩ := gnl_some h
  obtain ⟨s2, es2, h⟩ := nm_some h
  have fs2 : (s2.2 0 0 = σ.2 0 0 ∧ s2.2 1 0 = σ.2 1 0) := n01_tr fs1 (show (s2.2 0 0 = s1.2 0 0 ∧ s2.2 1 0 = s1.2 1 0) from by rw [es2]; exact ⟨rfl, rfl⟩)
  clear es2
  obtain ⟨-, h⟩ := gnl_some h
  obtain ⟨s3, es3, h⟩ := nm_some h
  have fs3 : (s3.2 0 0 = σ.2 0 0 ∧ s3.2 1 0 = σ.2 1 0) := n01_tr fs2 (show (s3.2 0 0 = s2.2 0 0 ∧ s3.2 1 0 = s2.2 1 0) from by rw [es3]; exact ⟨rfl, rfl⟩)
  clear es3
  cases h
  exact fs3
theorem gn_fX1_add_78 {F : Nat} {i1 : Nat} {σ : qS} {r : qS} (h : fX1_add_78 F i1 σ = some r) : (r.2 0 0 = σ.2 0 0 ∧ r.2 1 0 = σ.2 1 0) := by
  unfold fX1_add_78 at h
  cases h
  exact ⟨rfl, rfl⟩
theorem gn_fX1_add {F : Nat} {i1 : Nat} {p2 : Int32} {p3 : Int32} {σ : qS} {r : qS} (h : fX1_add F i1 p2 p3 σ = some r) : (r.2 0 0 = σ.2 0 0 ∧ r.2 1 0 = σ.2 1 0) := by
  unfold fX1_add at h
  obtain ⟨v1, ev1, h⟩ := nm_some h
  clear ev1
  rcases ite_some h with ⟨-, h⟩ | ⟨-, h⟩
  · exact gn_fX1_add_78 h
  · obtain ⟨v3, ev3, h⟩ := nm_some h
    clear ev3
    obtain ⟨-, h⟩ := gnl_some h
    obtain ⟨v4, ev4, h⟩ := nm_some h
    clear ev4
    obtain ⟨-, h⟩ := inx_some h
    obtain ⟨s5, es5, h⟩ := nm_some h
    have fs5 : (s5.2 0 0 = σ.2 0 0 ∧ s5.2 1 0 = σ.2 1 0) := show (s5.2 0 0 = σ.2 0 0 ∧ s5.2 1 0 = σ.2 1 0) from by rw [es5]; exact ⟨rfl, rfl⟩
    clear es5
    obtain ⟨v6, ev6, h⟩ := nm_some h
    clear ev6
    obtain ⟨-, h⟩ := inx_some h
    obtain ⟨s7, es7, h⟩ := nm_some h
    have fs7 : (s7.2 0 0 = σ.2 0 0 ∧ s7.2 1 0 = σ.2 1 0) := n01_tr fs5 (show (s7.2 0 0 = s5.2 0 0 ∧ s7.2 1 0 = s5.2 1 0) from by rw [es7]; exact ⟨rfl, rfl⟩)
    clear es7
    obtain ⟨v8, ev8, h⟩ := nm_some h
    clear ev8
    obtain ⟨-, h⟩ := gnl_some h
    obtain ⟨v9, ev9, h⟩ := nm_some h
    clear ev9
    obtain ⟨-, h⟩ := inx_some h
    obtain ⟨s10, es10, h⟩ := nm_some h
    have fs10 : (s10.2 0 0 = σ.2 0 0 ∧ s10.2 1 0 = σ.2 1 0) := n01_tr fs7 (show (s10.2 0 0 = s7.2 0 0 ∧ s10.2 1 0 = s7.2 1 0) from by rw [es10]; exact ⟨rfl, rfl⟩)
    clear es10
    obtain ⟨v11, ev11, h⟩ := nm_some h
    clear ev11
    obtain ⟨-, h⟩ := gnl_some h
    obtain ⟨v12, ev12, h⟩ := nm_some h
    clear ev12
    obtain ⟨-, h⟩ := inx_some h
    obtain ⟨s13, es13, h⟩ := nm_some h
    have fs13 : (s13.2 0 0 = σ.2 0 0 ∧ s13.2 1 0 = σ.2 1 0) := n01_tr fs10 (show (s13.2 0 0 = s10.2 0 0 ∧ s13.2 1 0 = s10.2 1 0) from by rw [es13]; exact ⟨rfl, rfl⟩)
    clear es13
    obtain ⟨v14, ev14, h⟩ := nm_some h
    clear ev14
    obtain ⟨-, h⟩ := inx_some h
    obtain ⟨s15, es15, h⟩ := nm_some h
    have fs15 : (s15.2 0 0 = σ.2 0 0 ∧ s15.2 1 0 = σ.2 1 0) := n01_tr fs13 (show (s15.2 0 0 = s13.2 0 0 ∧ s15.2 1 0 = s13.2 1 0) from by rw [es15]; exact ⟨rfl, rfl⟩)
    clear es15
    obtain ⟨v16, ev16, h⟩ := nm_some h
    clear ev16
    obtain ⟨v17, ev17, h⟩ := nm_some h
    clear ev17
    obtain ⟨s18, es18, h⟩ := nm_some h
    have fs18 : (s18.2 0 0 = σ.2 0 0 ∧ s18.2 1 0 = σ.2 1 0) := n01_tr fs15 (show (s18.2 0 0 = s15.2 0 0 ∧ s18.2 1 0 = s15.2 1 0) from by rw [es18]; exact ⟨rfl, rfl⟩)
    clear es18
    exact n01_tr fs18 (gn_fX1_add_78 h)
theorem gn_fX1_isHeld_25 {F : Nat} {t0 : Int32} {σ : qS} {r : Int32 × qS} (h : fX1_isHeld_25 F t0 σ = some r) : (r.2.2 0 0 = σ.2 0 0 ∧ r.2.2 1 0 = σ.2 1 0) := by
  unfold fX1_isHeld_25 at h
  obtain ⟨-, h⟩ := gbl_some h
  cases h
  exact ⟨rfl, rfl⟩
theorem gn_fX1_isHeld_20 {F : Nat} {σ : qS} {r : Int32 × qS} (h : fX1_isHeld_20 F σ = some r) : (r.2.2 0 0 = σ.2 0 0 ∧ r.2.2 1 0 = σ.2 1 0) := by
  unfold fX1_isHeld_20 at h
  exact gn_fX1_isHeld_25 h
theorem gn_fX1_isHeld {F : Nat} {p1 : Int32} {σ : qS} {r : Int32 × qS} (h : fX1_isHeld F p1 σ = some r) : (r.2.2 0 0 = σ.2 0 0 ∧ r.2.2 1 0 = σ.2 1 0) := by
  unfold fX1_isHeld at h
  obtain ⟨-, h⟩ := ldi_some h
  rcases ite_some h with ⟨-, h⟩ | ⟨-, h⟩
  · exact gn_fX1_isHeld_20 h
  · obtain ⟨-, h⟩ := ldi_some h
    rcases ite_some h with ⟨-, h⟩ | ⟨-, h⟩
    · exact gn_fX1_isHeld_20 h
    · exact gn_fX1_isHeld_25 h
theorem gn_fX1_isWithinBranch_40 {F : Nat} {t0 : Int32} {σ : qS} {r : Int32 × qS} (h : fX1_isWithinBranch_40 F t0 σ = some r) : (r.2.2 0 0 = σ.2 0 0 ∧ r.2.2 1 0 = σ.2 1 0) := by
  unfold fX1_isWithinBranch_40 at h
  obtain ⟨-, h⟩ := gbl_some h
  cases h
  exact ⟨rfl, rfl⟩
theorem gn_fX1_isWithinBranch_30 {F : Nat} {x2 : Int32} {x3 : Int32} {σ : qS} {r : Int32 × qS} (h : fX1_isWithinBranch_30 F x2 x3 σ = some r) : (r.2.2 0 0 = σ.2 0 0 ∧ r.2.2 1 0 = σ.2 1 0) := by
  unfold fX1_isWithinBranch_30 at h
  rcases ite_some h with ⟨-, h⟩ | ⟨-, h⟩
  · exact gn_fX1_isWithinBranch_40 h
  · exact gn_fX1_isWithinBranch_40 h
theorem gn_fX1_isWithinBranch_5 {F : Nat} : ∀ (n : Nat) (x2 : Int32) (x3 : Int32) (x4 : Int32) (σ : qS) (r : Int32 × qS), fX1_isWithinBranch_5 F n x2 x3 x4 σ = some r → (r.2.2 0 0 = σ.2 0 0 ∧ r.2.2 1 0 = σ.2 1 0) := by
  intro n
  induction n with
  | zero => intro x2 x3 x4 σ r h; exact absurd h (by rw [fX1_isWithinBranch_5]; exact nofun)
  | succ n ih =>
    intro x2 x3 x4 σ r h
    rw [fX1_isWithinBranch_5] at h
    rcases ite_some h with ⟨-, h⟩ | ⟨-, h⟩
    · exact gn_fX1_isWithinBranch_30 h
    · rcases ite_some h with ⟨-, h⟩ | ⟨-, h⟩
      · exact gn_fX1_isWithinBranch_30 h
      · obtain ⟨-, h⟩ := ldi_some h
        obtain ⟨v5, ev5, h⟩ := nm_some h
        clear ev5
        exact ih _ _ _ _ _ h
theorem gn_fX1_isWithinBranch {F : Nat} {p1 : Int32} {p2 : Int32} {σ : qS} {r : Int32 × qS} (h : fX1_isWithinBranch F p1 p2 σ = some r) : (r.2.2 0 0 = σ.2 0 0 ∧ r.2.2 1 0 = σ.2 1 0) := by
  unfold fX1_isWithinBranch at h
  exact gn_fX1_isWithinBranch_5 _ _ _ _ _ _ h
theorem gn_fX3_add {F : Nat} {p1 : Int32} {p2 : Int32} {p3 : Int32} {p4 : Int32} {σ : qS} {r : Int32 × qS} (h : fX3_add F p1 p2 p3 p4 σ = some r) : (r.2.2 0 0 = σ.2 0 0 ∧ r.2.2 1 0 = σ.2 1 0) := by
  unfold fX3_add at h
  obtain ⟨v1, ev1, h⟩ := nm_some h
  clear ev1
  rcases ite_some h with ⟨-, h⟩ | ⟨-, h⟩
  · obtain ⟨v3, ev3, h⟩ := nm_some h
    clear ev3
    obtain ⟨-, h⟩ := inx_some h
    obtain ⟨s4, es4, h⟩ := nm_some h
    have fs4 : (s4.2 0 0 = σ.2 0 0 ∧ s4.2 1 0 = σ.2 1 0) := show (s4.2 0 0 = σ.2 0 0 ∧ s4.2 1 0 = σ.2 1 0) from by rw [es4]; exact ⟨rfl, rfl⟩
    clear es4
    obtain ⟨v5, ev5, h⟩ := nm_some h
    clear ev5
    obtain ⟨-, h⟩ := inx_some h
    obtain ⟨s6, es6, h⟩ := nm_some h
    have fs6 : (s6.2 0 0 = σ.2 0 0 ∧ s6.2 1 0 = σ.2 1 0) := n01_tr fs4 (show (s6.2 0 0 = s4.2 0 0 ∧ s6.2 1 0 = s4.2 1 0) from by rw [es6]; exact ⟨rfl, rfl⟩)
    clear es6
    obtain ⟨v7, ev7, h⟩ := nm_some h
    clear ev7
    obtain ⟨-, h⟩ := inx_some h
    obtain ⟨s8, es8, h⟩ := nm_some h
    have fs8 : (s8.2 0 0 = σ.2 0 0 ∧ s8.2 1 0 = σ.2 1 0) := n01_tr fs6 (show (s8.2 0 0 = s6.2 0 0 ∧ s8.2 1 0 = s6.2 1 0) from by rw [es8]; exact ⟨rfl, rfl⟩)
    clear es8
    obtain ⟨v9, ev9, h⟩ := nm_some h
    clear ev9
    obtain ⟨-, h⟩ := inx_some h
    obtain ⟨s10, es10, h⟩ := nm_some h
    have fs10 : (s10.2 0 0 = σ.2 0 0 ∧ s10.2 1 0 = σ.2 1 0) := n01_tr fs8 (show (s10.2 0 0 = s8.2 0 0 ∧ s10.2 1 0 = s8.2 1 0) from by rw [es10]; exact ⟨rfl, rfl⟩)
    clear es10
    obtain ⟨v11, ev11, h⟩ := nm_some h
    clear ev11
    obtain ⟨v12, ev12, h⟩ := nm_some h
    clear ev12
    obtain ⟨s13, es13, h⟩ := nm_some h
    have fs13 : (s13.2 0 0 = σ.2 0 0 ∧ s13.2 1 0 = σ.2 1 0) := n01_tr fs10 (show (s13.2 0 0 = s10.2 0 0 ∧ s13.2 1 0 = s10.2 1 0) from by rw [es13]; exact ⟨rfl, rfl⟩)
    clear es13
    obtain ⟨-, h⟩ := gbl_some h
    cases h
    exact fs13
  · obtain ⟨-, h⟩ := gbl_some h
    cases h
    exact ⟨rfl, rfl⟩
theorem gn_fX3_tells_34 {F : Nat} {t0 : Int32} {σ : qS} {r : Int32 × qS} (h : fX3_tells_34 F t0 σ = some r) : (r.2.2 0 0 = σ.2 0 0 ∧ r.2.2 1 0 = σ.2 1 0) := by
  unfold fX3_tells_34 at h
  obtain ⟨-, h⟩ := gbl_some h
  cases h
  exact ⟨rfl, rfl⟩
theorem gn_fX3_tells_29 {F : Nat} {σ : qS} {r : Int32 × qS} (h : fX3_tells_29 F σ = some r) : (r.2.2 0 0 = σ.2 0 0 ∧ r.2.2 1 0 = σ.2 1 0) := by
  unfold fX3_tells_29 at h
  exact gn_fX3_tells_34 h
theorem gn_fX3_tells {F : Nat} {p1 : Int32} {σ : qS} {r : Int32 × qS} (h : fX3_tells F p1 σ = some r) : (r.2.2 0 0 = σ.2 0 0 ∧ r.2.2 1 0 = σ.2 1 0) := by
  unfold fX3_tells at h
  obtain ⟨-, h⟩ := ldi_some h
  rcases ite_some h with ⟨-, h⟩ | ⟨-, h⟩
  · exact gn_fX3_tells_29 h
  · obtain ⟨-, h⟩ := ldi_some h
    rcases ite_some h with ⟨-, h⟩ | ⟨-, h⟩
    · exact gn_fX3_tells_29 h
    · obtain ⟨-, h⟩ := ldi_some h
      rcases ite_some h with ⟨-, h⟩ | ⟨-, h⟩
      · exact gn_fX3_tells_29 h
      · exact gn_fX3_tells_34 h
theorem gn_fX4_takeOldest {F : Nat} {i0 : Nat} {σ : qS} {r : Int32 × qS} (h : fX4_takeOldest F i0 σ = some r) : (r.2.2 0 0 = σ.2 0 0 ∧ r.2.2 1 0 = σ.2 1 0) := by
  unfold fX4_takeOldest at h
  obtain ⟨-, h⟩ := gnl_some h
  obtain ⟨v1, ev1, h⟩ := nm_some h
  clear ev1
  obtain ⟨-, h⟩ := gnl_some h
  obtain ⟨v2, ev2, h⟩ := nm_some h
  clear ev2
  rcases ite_some h with ⟨-, h⟩ | ⟨-, h⟩
  · obtain ⟨-, h⟩ := gnl_some h
    obtain ⟨-, h⟩ := gnl_some h
    obtain ⟨v4, ev4, h⟩ := nm_some h
    clear ev4
    obtain ⟨-, h⟩ := gnl_some h
    obtain ⟨-, h⟩ := ldi_some h
    obtain ⟨-, h⟩ := gnl_some h
    obtain ⟨v6, ev6, h⟩ := nm_some h
    clear ev6
    obtain ⟨v7, ev7, h⟩ := nm_some h
    clear ev7
    obtain ⟨-, h⟩ := gnl_some h
    obtain ⟨s8, es8, h⟩ := nm_some h
    have fs8 : (s8.2 0 0 = σ.2 0 0 ∧ s8.2 1 0 = σ.2 1 0) := show (s8.2 0 0 = σ.2 0 0 ∧ s8.2 1 0 = σ.2 1 0) from by rw [es8]; exact ⟨rfl, rfl⟩
    clear es8
    cases h
    exact fs8
  · cases h
    exact ⟨rfl, rfl⟩
theorem gn_fX7_copyFrom_2 {F : Nat} {i0 : Nat} {i1 : Nat} : ∀ (n : Nat) (x2 : Int32) (σ : qS) (r : qS), fX7_copyFrom_2 F i0 i1 n x2 σ = some r → (r.2 0 0 = σ.2 0 0 ∧ r.2 1 0 = σ.2 1 0) := by
  intro n
  induction n with
  | zero => intro x2 σ r h; exact absurd h (by rw [fX7_copyFrom_2]; exact nofun)
  | succ n ih =>
    intro x2 σ r h
    rw [fX7_copyFrom_2] at h
    rcases ite_some h with ⟨-, h⟩ | ⟨-, h⟩
    · cases h
      exact ⟨rfl, rfl⟩
    · obtain ⟨-, h⟩ := ldi_some h
      obtain ⟨-, h⟩ := inx_some h
      obtain ⟨-, h⟩ := gbl_some h
      obtain ⟨s3, es3, h⟩ := nm_some h
      have fs3 : (s3.2 0 0 = σ.2 0 0 ∧ s3.2 1 0 = σ.2 1 0) := show (s3.2 0 0 = σ.2 0 0 ∧ s3.2 1 0 = σ.2 1 0) from by rw [es3]; exact ⟨rfl, rfl⟩
      clear es3
      obtain ⟨-, h⟩ := ldi_some h
      obtain ⟨-, h⟩ := inx_some h
      obtain ⟨s5, es5, h⟩ := nm_some h
      have fs5 : (s5.2 0 0 = σ.2 0 0 ∧ s5.2 1 0 = σ.2 1 0) := n01_tr fs3 (show (s5.2 0 0 = s3.2 0 0 ∧ s5.2 1 0 = s3.2 1 0) from by rw [es5]; exact ⟨rfl, rfl⟩)
      clear es5
      obtain ⟨-, h⟩ := ldi_some h
      obtain ⟨-, h⟩ := inx_some h
      obtain ⟨s7, es7, h⟩ := nm_some h
      have fs7 : (s7.2 0 0 = σ.2 0 0 ∧ s7.2 1 0 = σ.2 1 0) := n01_tr fs5 (show (s7.2 0 0 = s5.2 0 0 ∧ s7.2 1 0 = s5.2 1 0) from by rw [es7]; exact ⟨rfl, rfl⟩)
      clear es7
      obtain ⟨-, h⟩ := ldi_some h
      obtain ⟨-, h⟩ := inx_some h
      obtain ⟨s9, es9, h⟩ := nm_some h
      have fs9 : (s9.2 0 0 = σ.2 0 0 ∧ s9.2 1 0 = σ.2 1 0) := n01_tr fs7 (show (s9.2 0 0 = s7.2 0 0 ∧ s9.2 1 0 = s7.2 1 0) from by rw [es9]; exact ⟨rfl, rfl⟩)
      clear es9
      obtain ⟨-, h⟩ := ldi_some h
      obtain ⟨-, h⟩ := inx_some h
      obtain ⟨s11, es11, h⟩ := nm_some h
      have fs11 : (s11.2 0 0 = σ.2 0 0 ∧ s11.2 1 0 = σ.2 1 0) := n01_tr fs9 (show (s11.2 0 0 = s9.2 0 0 ∧ s11.2 1 0 = s9.2 1 0) from by rw [es11]; exact ⟨rfl, rfl⟩)
      clear es11
      obtain ⟨-, h⟩ := ldi_some h
      obtain ⟨-, h⟩ := inx_some h
      obtain ⟨s13, es13, h⟩ := nm_some h
      have fs13 : (s13.2 0 0 = σ.2 0 0 ∧ s13.2 1 0 = σ.2 1 0) := n01_tr fs11 (show (s13.2 0 0 = s11.2 0 0 ∧ s13.2 1 0 = s11.2 1 0) from by rw [es13]; exact ⟨rfl, rfl⟩)
      clear es13
      obtain ⟨-, h⟩ := ldi_some h
      obtain ⟨-, h⟩ := inx_some h
      obtain ⟨s15, es15, h⟩ := nm_some h
      have fs15 : (s15.2 0 0 = σ.2 0 0 ∧ s15.2 1 0 = σ.2 1 0) := n01_tr fs13 (show (s15.2 0 0 = s13.2 0 0 ∧ s15.2 1 0 = s13.2 1 0) from by rw [es15]; exact ⟨rfl, rfl⟩)
      clear es15
      obtain ⟨v16, ev16, h⟩ := nm_some h
      clear ev16
      exact n01_tr fs15 (ih _ _ _ h)
theorem gn_fX7_copyFrom {F : Nat} {i0 : Nat} {i1 : Nat} {σ : qS} {r : qS} (h : fX7_copyFrom F i0 i1 σ = some r) : (r.2 0 0 = σ.2 0 0 ∧ r.2 1 0 = σ.2 1 0) := by
  unfold fX7_copyFrom at h
  obtain ⟨-, h⟩ := gnl_some h
  obtain ⟨-, h⟩ := gnl_some h
  exact gn_fX7_copyFrom_2 _ _ _ _ h
theorem gn_fX7_dropHeld_26 {F : Nat} {i0 : Nat} {k2 : Int32 → qS → Option qS} {x1 : Int32} {σ : qS} {r : qS} (hk2 : ∀ a0 σ r, k2 a0 σ = some r → (r.2 0 0 = σ.2 0 0 ∧ r.2 1 0 = σ.2 1 0)) (h : fX7_dropHeld_26 F i0 k2 x1 σ = some r) : (r.2 0 0 = σ.2 0 0 ∧ r.2 1 0 = σ.2 1 0) := by
  unfold fX7_dropHeld_26 at h
  obtain ⟨v5, ev5, h⟩ := nm_some h
  clear ev5
  exact hk2 v5 σ _ h
theorem gn_fX7_dropHeld_2 {F : Nat} {i0 : Nat} : ∀ (n : Nat) (x1 : Int32) (σ : qS) (r : qS), fX7_dropHeld_2 F i0 n x1 σ = some r → (r.2 0 0 = σ.2 0 0 ∧ r.2 1 0 = σ.2 1 0) := by
  intro n
  induction n with
  | zero => intro x1 σ r h; exact absurd h (by rw [fX7_dropHeld_2]; exact nofun)
  | succ n ih =>
    intro x1 σ r h
    rw [fX7_dropHeld_2] at h
    rcases ite_some h with ⟨-, h⟩ | ⟨-, h⟩
    · cases h
      exact ⟨rfl, rfl⟩
    · obtain ⟨v3, s2, gs2, h⟩ := bnd2_some h
      have fs2 : (s2.2 0 0 = σ.2 0 0 ∧ s2.2 1 0 = σ.2 1 0) := gn_fX1_isHeld gs2
      clear gs2
      rcases ite_some h with ⟨-, h⟩ | ⟨-, h⟩
      · exact n01_tr fs2 (gn_fX7_dropHeld_26 (fun a0 σ r h => ih a0 σ r h) h)
      · obtain ⟨-, h⟩ := inx_some h
        obtain ⟨-, h⟩ := gbl_some h
        obtain ⟨s6, es6, h⟩ := nm_some h
        have fs6 : (s6.2 0 0 = σ.2 0 0 ∧ s6.2 1 0 = σ.2 1 0) := n01_tr fs2 (show (s6.2 0 0 = s2.2 0 0 ∧ s6.2 1 0 = s2.2 1 0) from by rw [es6]; exact ⟨rfl, rfl⟩)
        clear es6
        exact n01_tr fs6 (gn_fX7_dropHeld_26 (fun a0 σ r h => ih a0 σ r h) h)
theorem gn_fX7_dropHeld {F : Nat} {i0 : Nat} {σ : qS} {r : qS} (h : fX7_dropHeld F i0 σ = some r) : (r.2 0 0 = σ.2 0 0 ∧ r.2 1 0 = σ.2 1 0) := by
  unfold fX7_dropHeld at h
  obtain ⟨-, h⟩ := gnl_some h
  exact gn_fX7_dropHeld_2 _ _ _ _ h
theorem gn_fX7_appear_61 {F : Nat} {i0 : Nat} {σ : qS} {r : qS} (h : fX7_appear_61 F i0 σ = some r) : (r.2 0 0 = σ.2 0 0 ∧ r.2 1 0 = σ.2 1 0) := by
  unfold fX7_appear_61 at h
  cases h
  exact ⟨rfl, rfl⟩
theorem gn_fX7_appear {F : Nat} {i0 : Nat} {p1 : Int32} {p2 : Int32} {p3 : Int32} {σ : qS} {r : qS} (h : fX7_appear F i0 p1 p2 p3 σ = some r) : (r.2 0 0 = σ.2 0 0 ∧ r.2 1 0 = σ.2 1 0) := by
  unfold fX7_appear at h
  obtain ⟨-, h⟩ := gnl_some h
  obtain ⟨-, h⟩ := inx_some h
  obtain ⟨-, h⟩ := gbl_some h
  obtain ⟨s1, es1, h⟩ := nm_some h
  have fs1 : (s1.2 0 0 = σ.2 0 0 ∧ s1.2 1 0 = σ.2 1 0) := show (s1.2 0 0 = σ.2 0 0 ∧ s1.2 1 0 = σ.2 1 0) from by rw [es1]; exact ⟨rfl, rfl⟩
  clear es1
  obtain ⟨-, h⟩ := inx_some h
  obtain ⟨s2, es2, h⟩ := nm_some h
  have fs2 : (s2.2 0 0 = σ.2 0 0 ∧ s2.2 1 0 = σ.2 1 0) := n01_tr fs1 (show (s2.2 0 0 = s1.2 0 0 ∧ s2.2 1 0 = s1.2 1 0) from by rw [es2]; exact ⟨rfl, rfl⟩)
  clear es2
  obtain ⟨-, h⟩ := ldi_some h
  obtain ⟨-, h⟩ := inx_some h
  obtain ⟨s4, es4, h⟩ := nm_some h
  have fs4 : (s4.2 0 0 = σ.2 0 0 ∧ s4.2 1 0 = σ.2 1 0) := n01_tr fs2 (show (s4.2 0 0 = s2.2 0 0 ∧ s4.2 1 0 = s2.2 1 0) from by rw [es4]; exact ⟨rfl, rfl⟩)
  clear es4
  obtain ⟨-, h⟩ := ldi_some h
  obtain ⟨v6, ev6, h⟩ := nm_some h
  clear ev6
  obtain ⟨-, h⟩ := inx_some h
  obtain ⟨s7, es7, h⟩ := nm_some h
  have fs7 : (s7.2 0 0 = σ.2 0 0 ∧ s7.2 1 0 = σ.2 1 0) := n01_tr fs4 (show (s7.2 0 0 = s4.2 0 0 ∧ s7.2 1 0 = s4.2 1 0) from by rw [es7]; exact ⟨rfl, rfl⟩)
  clear es7
  obtain ⟨-, h⟩ := ldi_some h
  rcases ite_some h with ⟨-, h⟩ | ⟨-, h⟩
  · exact n01_tr fs7 (gn_fX7_appear_61 h)
  · obtain ⟨-, h⟩ := ldi_some h
    obtain ⟨v11, ev11, h⟩ := nm_some h
    clear ev11
    obtain ⟨-, h⟩ := inx_some h
    obtain ⟨s12, es12, h⟩ := nm_some h
    have fs12 : (s12.2 0 0 = σ.2 0 0 ∧ s12.2 1 0 = σ.2 1 0) := n01_tr fs7 (show (s12.2 0 0 = s7.2 0 0 ∧ s12.2 1 0 = s7.2 1 0) from by rw [es12]; exact ⟨rfl, rfl⟩)
    clear es12
    exact n01_tr fs12 (gn_fX7_appear_61 h)
theorem gn_fX7_giveRights_99 {F : Nat} {i0 : Nat} {k3 : Int32 → Int32 → Int32 → Int32 → qS → Option qS} {x1 : Int32} {x2 : Int32} {x3 : Int32} {x4 : Int32} {σ : qS} {r : qS} (hk3 : ∀ a0 a1 a2 a3 σ r, k3 a0 a1 a2 a3 σ = some r → (r.2 0 0 = σ.2 0 0 ∧ r.2 1 0 = σ.2 1 0)) (h : fX7_giveRights_99 F i0 k3 x1 x2 x3 x4 σ = some r) : (r.2 0 0 = σ.2 0 0 ∧ r.2 1 0 = σ.2 1 0) := by
  unfold fX7_giveRights_99 at h
  obtain ⟨v7, ev7, h⟩ := nm_some h
  clear ev7
  exact hk3 x1 x2 x3 v7 σ _ h
theorem gn_fX7_giveRights_69 {F : Nat} {i0 : Nat} {k3 : Int32 → Int32 → Int32 → Int32 → qS → Option qS} {x1 : Int32} {x2 : Int32} {x3 : Int32} {x4 : Int32} {t1 : Int32} {t2 : Int32} {σ : qS} {r : qS} (hk3 : ∀ a0 a1 a2 a3 σ r, k3 a0 a1 a2 a3 σ = some r → (r.2 0 0 = σ.2 0 0 ∧ r.2 1 0 = σ.2 1 0)) (h : fX7_giveRights_69 F i0 k3 x1 x2 x3 x4 t1 t2 σ = some r) : (r.2 0 0 = σ.2 0 0 ∧ r.2 1 0 = σ.2 1 0) := by
  unfold fX7_giveRights_69 at h
  obtain ⟨-, h⟩ := inx_some h
  obtain ⟨-, h⟩ := gbl_some h
  obtain ⟨s4, es4, h⟩ := nm_some h
  have fs4 : (s4.2 0 0 = σ.2 0 0 ∧ s4.2 1 0 = σ.2 1 0) := show (s4.2 0 0 = σ.2 0 0 ∧ s4.2 1 0 = σ.2 1 0) from by rw [es4]; exact ⟨rfl, rfl⟩
  clear es4
  obtain ⟨-, h⟩ := ldi_some h
  rcases ite_some h with ⟨-, h⟩ | ⟨-, h⟩
  · exact n01_tr fs4 (gn_fX7_giveRights_99 hk3 h)
  · obtain ⟨-, h⟩ := inx_some h
    obtain ⟨s8, es8, h⟩ := nm_some h
    have fs8 : (s8.2 0 0 = σ.2 0 0 ∧ s8.2 1 0 = σ.2 1 0) := n01_tr fs4 (show (s8.2 0 0 = s4.2 0 0 ∧ s8.2 1 0 = s4.2 1 0) from by rw [es8]; exact ⟨rfl, rfl⟩)
    clear es8
    obtain ⟨-, h⟩ := ldi_some h
    obtain ⟨v10, ev10, h⟩ := nm_some h
    clear ev10
    obtain ⟨-, h⟩ := inx_some h
    obtain ⟨s11, es11, h⟩ := nm_some h
    have fs11 : (s11.2 0 0 = σ.2 0 0 ∧ s11.2 1 0 = σ.2 1 0) := n01_tr fs8 (show (s11.2 0 0 = s8.2 0 0 ∧ s11.2 1 0 = s8.2 1 0) from by rw [es11]; exact ⟨rfl, rfl⟩)
    clear es11
    exact n01_tr fs11 (gn_fX7_giveRights_99 hk3 h)
theorem gn_fX7_giveRights_64 {F : Nat} {i0 : Nat} {k3 : Int32 → Int32 → Int32 → Int32 → qS → Option qS} {x1 : Int32} {x2 : Int32} {x3 : Int32} {x4 : Int32} {t1 : Int32} {σ : qS} {r : qS} (hk3 : ∀ a0 a1 a2 a3 σ r, k3 a0 a1 a2 a3 σ = some r → (r.2 0 0 = σ.2 0 0 ∧ r.2 1 0 = σ.2 1 0)) (h : fX7_giveRights_64 F i0 k3 x1 x2 x3 x4 t1 σ = some r) : (r.2 0 0 = σ.2 0 0 ∧ r.2 1 0 = σ.2 1 0) := by
  unfold fX7_giveRights_64 at h
  exact gn_fX7_giveRights_69 hk3 h
theorem gn_fX7_giveRights_68 {F : Nat} {i0 : Nat} {k3 : Int32 → Int32 → Int32 → Int32 → qS → Option qS} {x1 : Int32} {x2 : Int32} {x3 : Int32} {x4 : Int32} {t1 : Int32} {σ : qS} {r : qS} (hk3 : ∀ a0 a1 a2 a3 σ r, k3 a0 a1 a2 a3 σ = some r → (r.2 0 0 = σ.2 0 0 ∧ r.2 1 0 = σ.2 1 0)) (h : fX7_giveRights_68 F i0 k3 x1 x2 x3 x4 t1 σ = some r) : (r.2 0 0 = σ.2 0 0 ∧ r.2 1 0 = σ.2 1 0) := by
  unfold fX7_giveRights_68 at h
  exact gn_fX7_giveRights_69 hk3 h
theorem gn_fX7_giveRights_3 {F : Nat} {i0 : Nat} : ∀ (n : Nat) (x1 : Int32) (x2 : Int32) (x3 : Int32) (x4 : Int32) (σ : qS) (r : qS), fX7_giveRights_3 F i0 n x1 x2 x3 x4 σ = some r → (r.2 0 0 = σ.2 0 0 ∧ r.2 1 0 = σ.2 1 0) := by
  intro n
  induction n with
  | zero => intro x1 x2 x3 x4 σ r h; exact absurd h (by rw [fX7_giveRights_3]; exact nofun)
  | succ n ih =>
    intro x1 x2 x3 x4 σ r h
    rw [fX7_giveRights_3] at h
    rcases ite_some h with ⟨-, h⟩ | ⟨-, h⟩
    · cases h
      exact ⟨rfl, rfl⟩
    · obtain ⟨-, h⟩ := ldi_some h
      rcases ite_some h with ⟨-, h⟩ | ⟨-, h⟩
      · exact gn_fX7_giveRights_64 (fun a0 a1 a2 a3 σ r h => ih a0 a1 a2 a3 σ r h) h
      · rcases ite_some h with ⟨-, h⟩ | ⟨-, h⟩
        · exact gn_fX7_giveRights_68 (fun a0 a1 a2 a3 σ r h => ih a0 a1 a2 a3 σ r h) h
        · obtain ⟨-, h⟩ := ldi_some h
          rcases ite_some h with ⟨-, h⟩ | ⟨-, h⟩
          · exact gn_fX7_giveRights_68 (fun a0 a1 a2 a3 σ r h => ih a0 a1 a2 a3 σ r h) h
          · rcases ite_some h with ⟨-, h⟩ | ⟨-, h⟩
            · exact gn_fX7_giveRights_68 (fun a0 a1 a2 a3 σ r h => ih a0 a1 a2 a3 σ r h) h
            · obtain ⟨-, h⟩ := ldi_some h
              rcases ite_some h with ⟨-, h⟩ | ⟨-, h⟩
              · exact gn_fX7_giveRights_68 (fun a0 a1 a2 a3 σ r h => ih a0 a1 a2 a3 σ r h) h
              · exact gn_fX7_giveRights_64 (fun a0 a1 a2 a3 σ r h => ih a0 a1 a2 a3 σ r h) h
theorem gn_fX7_giveRights {F : Nat} {i0 : Nat} {p1 : Int32} {p2 : Int32} {p3 : Int32} {σ : qS} {r : qS} (h : fX7_giveRights F i0 p1 p2 p3 σ = some r) : (r.2 0 0 = σ.2 0 0 ∧ r.2 1 0 = σ.2 1 0) := by
  unfold fX7_giveRights at h
  obtain ⟨-, h⟩ := gnl_some h
  exact gn_fX7_giveRights_3 _ _ _ _ _ _ _ h
theorem gn_fX7_apply_110 {F : Nat} {i0 : Nat} {σ : qS} {r : qS} (h : fX7_apply_110 F i0 σ = some r) : (r.2 0 0 = σ.2 0 0 ∧ r.2 1 0 = σ.2 1 0) := by
  unfold fX7_apply_110 at h
  cases h
  exact ⟨rfl, rfl⟩
theorem gn_fX7_apply_107 {F : Nat} {i0 : Nat} {t1 : Int32} {t2 : Int32} {t3 : Int32} {σ : qS} {r : qS} (h : fX7_apply_107 F i0 t1 t2 t3 σ = some r) : (r.2 0 0 = σ.2 0 0 ∧ r.2 1 0 = σ.2 1 0) := by
  unfold fX7_apply_107 at h
  obtain ⟨s16, gs16, h⟩ := bnd_some h
  have fs16 : (s16.2 0 0 = σ.2 0 0 ∧ s16.2 1 0 = σ.2 1 0) := gn_fX7_giveRights gs16
  clear gs16
  exact n01_tr fs16 (gn_fX7_apply_110 h)
theorem gn_fX7_apply {F : Nat} {i0 : Nat} {p1 : Int32} {p2 : Int32} {p3 : Int32} {σ : qS} {r : qS} (h : fX7_apply F i0 p1 p2 p3 σ = some r) : (r.2 0 0 = σ.2 0 0 ∧ r.2 1 0 = σ.2 1 0) := by
  unfold fX7_apply at h
  obtain ⟨-, h⟩ := gnl_some h
  rcases ite_some h with ⟨-, h⟩ | ⟨-, h⟩
  · obtain ⟨-, h⟩ := ldi_some h
    obtain ⟨s3, gs3, h⟩ := bnd_some h
    have fs3 : (s3.2 0 0 = σ.2 0 0 ∧ s3.2 1 0 = σ.2 1 0) := gn_fX7_appear gs3
    clear gs3
    exact n01_tr fs3 (gn_fX7_apply_110 h)
  · rcases ite_some h with ⟨-, h⟩ | ⟨-, h⟩
    · obtain ⟨-, h⟩ := inx_some h
      obtain ⟨s5, es5, h⟩ := nm_some h
      have fs5 : (s5.2 0 0 = σ.2 0 0 ∧ s5.2 1 0 = σ.2 1 0) := show (s5.2 0 0 = σ.2 0 0 ∧ s5.2 1 0 = σ.2 1 0) from by rw [es5]; exact ⟨rfl, rfl⟩
      clear es5
      obtain ⟨-, h⟩ := ldi_some h
      obtain ⟨v7, ev7, h⟩ := nm_some h
      clear ev7
      obtain ⟨-, h⟩ := inx_some h
      obtain ⟨s8, es8, h⟩ := nm_some h
      have fs8 : (s8.2 0 0 = σ.2 0 0 ∧ s8.2 1 0 = σ.2 1 0) := n01_tr fs5 (show (s8.2 0 0 = s5.2 0 0 ∧ s8.2 1 0 = s5.2 1 0) from by rw [es8]; exact ⟨rfl, rfl⟩)
      clear es8
      exact n01_tr fs8 (gn_fX7_apply_110 h)
    · rcases ite_some h with ⟨-, h⟩ | ⟨-, h⟩
      · obtain ⟨-, h⟩ := inx_some h
        obtain ⟨-, h⟩ := gbl_some h
        obtain ⟨s10, es10, h⟩ := nm_some h
        have fs10 : (s10.2 0 0 = σ.2 0 0 ∧ s10.2 1 0 = σ.2 1 0) := show (s10.2 0 0 = σ.2 0 0 ∧ s10.2 1 0 = σ.2 1 0) from by rw [es10]; exact ⟨rfl, rfl⟩
        clear es10
        obtain ⟨-, h⟩ := ldi_some h
        obtain ⟨-, h⟩ := ldi_some h
        obtain ⟨v13, ev13, h⟩ := nm_some h
        clear ev13
        obtain ⟨-, h⟩ := inx_some h
        obtain ⟨s14, es14, h⟩ := nm_some h
        have fs14 : (s14.2 0 0 = σ.2 0 0 ∧ s14.2 1 0 = σ.2 1 0) := n01_tr fs10 (show (s14.2 0 0 = s10.2 0 0 ∧ s14.2 1 0 = s10.2 1 0) from by rw [es14]; exact ⟨rfl, rfl⟩)
        clear es14
        exact n01_tr fs14 (gn_fX7_apply_110 h)
      · rcases ite_some h with ⟨-, h⟩ | ⟨-, h⟩
        · exact gn_fX7_apply_107 h
        · exact gn_fX7_apply_107 h
theorem gn_fX7_holds_24 {F : Nat} {i0 : Nat} {t0 : Int32} {σ : qS} {r : Int32 × qS} (h : fX7_holds_24 F i0 t0 σ = some r) : (r.2.2 0 0 = σ.2 0 0 ∧ r.2.2 1 0 = σ.2 1 0) := by
  unfold fX7_holds_24 at h
  obtain ⟨-, h⟩ := gbl_some h
  cases h
  exact ⟨rfl, rfl⟩
theorem gn_fX7_holds_23 {F : Nat} {i0 : Nat} {σ : qS} {r : Int32 × qS} (h : fX7_holds_23 F i0 σ = some r) : (r.2.2 0 0 = σ.2 0 0 ∧ r.2.2 1 0 = σ.2 1 0) := by
  unfold fX7_holds_23 at h
  exact gn_fX7_holds_24 h
theorem gn_fX7_holds {F : Nat} {i0 : Nat} {p1 : Int32} {σ : qS} {r : Int32 × qS} (h : fX7_holds F i0 p1 σ = some r) : (r.2.2 0 0 = σ.2 0 0 ∧ r.2.2 1 0 = σ.2 1 0) := by
  unfold fX7_holds at h
  obtain ⟨-, h⟩ := gnl_some h
  rcases ite_some h with ⟨-, h⟩ | ⟨-, h⟩
  · exact gn_fX7_holds_23 h
  · rcases ite_some h with ⟨-, h⟩ | ⟨-, h⟩
    · exact gn_fX7_holds_23 h
    · obtain ⟨-, h⟩ := ldi_some h
      rcases ite_some h with ⟨-, h⟩ | ⟨-, h⟩
      · exact gn_fX7_holds_23 h
      · exact gn_fX7_holds_24 h
theorem gn_fX7_mayWrite_21 {F : Nat} {i0 : Nat} {t0 : Int32} {σ : qS} {r : Int32 × qS} (h : fX7_mayWrite_21 F i0 t0 σ = some r) : (r.2.2 0 0 = σ.2 0 0 ∧ r.2.2 1 0 = σ.2 1 0) := by
  unfold fX7_mayWrite_21 at h
  obtain ⟨-, h⟩ := gbl_some h
  cases h
  exact ⟨rfl, rfl⟩
theorem gn_fX7_mayWrite {F : Nat} {i0 : Nat} {p1 : Int32} {p2 : Int32} {σ : qS} {r : Int32 × qS} (h : fX7_mayWrite F i0 p1 p2 σ = some r) : (r.2.2 0 0 = σ.2 0 0 ∧ r.2.2 1 0 = σ.2 1 0) := by
  unfold fX7_mayWrite at h
  obtain ⟨-, h⟩ := gnl_some h
  obtain ⟨-, h⟩ := ldi_some h
  obtain ⟨v2, ev2, h⟩ := nm_some h
  clear ev2
  obtain ⟨v3, ev3, h⟩ := nm_some h
  clear ev3
  obtain ⟨v4, ev4, h⟩ := nm_some h
  clear ev4
  rcases ite_some h with ⟨-, h⟩ | ⟨-, h⟩
  · exact gn_fX7_mayWrite_21 h
  · exact gn_fX7_mayWrite_21 h
theorem gn_fX7_hasVersion_20 {F : Nat} {i0 : Nat} {t0 : Int32} {σ : qS} {r : Int32 × qS} (h : fX7_hasVersion_20 F i0 t0 σ = some r) : (r.2.2 0 0 = σ.2 0 0 ∧ r.2.2 1 0 = σ.2 1 0) := by
  unfold fX7_hasVersion_20 at h
  obtain ⟨-, h⟩ := gbl_some h
  cases h
  exact ⟨rfl, rfl⟩
theorem gn_fX7_hasVersion_15 {F : Nat} {i0 : Nat} {σ : qS} {r : Int32 × qS} (h : fX7_hasVersion_15 F i0 σ = some r) : (r.2.2 0 0 = σ.2 0 0 ∧ r.2.2 1 0 = σ.2 1 0) := by
  unfold fX7_hasVersion_15 at h
  exact gn_fX7_hasVersion_20 h
theorem gn_fX7_hasVersion {F : Nat} {i0 : Nat} {p1 : Int32} {p2 : Int32} {σ : qS} {r : Int32 × qS} (h : fX7_hasVersion F i0 p1 p2 σ = some r) : (r.2.2 0 0 = σ.2 0 0 ∧ r.2.2 1 0 = σ.2 1 0) := by
  unfold fX7_hasVersion at h
  obtain ⟨-, h⟩ := gnl_some h
  rcases ite_some h with ⟨-, h⟩ | ⟨-, h⟩
  · exact gn_fX7_hasVersion_15 h
  · obtain ⟨-, h⟩ := ldi_some h
    rcases ite_some h with ⟨-, h⟩ | ⟨-, h⟩
    · exact gn_fX7_hasVersion_15 h
    · exact gn_fX7_hasVersion_20 h
theorem gn_fX7_readingRefused_30 {F : Nat} {i0 : Nat} {t0 : Int32} {σ : qS} {r : Int32 × qS} (h : fX7_readingRefused_30 F i0 t0 σ = some r) : (r.2.2 0 0 = σ.2 0 0 ∧ r.2.2 1 0 = σ.2 1 0) := by
  unfold fX7_readingRefused_30 at h
  cases h
  exact ⟨rfl, rfl⟩
theorem gn_fX7_readingRefused {F : Nat} {i0 : Nat} {p1 : Int32} {p2 : Int32} {σ : qS} {r : Int32 × qS} (h : fX7_readingRefused F i0 p1 p2 σ = some r) : (r.2.2 0 0 = σ.2 0 0 ∧ r.2.2 1 0 = σ.2 1 0) := by
  unfold fX7_readingRefused at h
  obtain ⟨-, h⟩ := gnl_some h
  obtain ⟨v2, s1, gs1, h⟩ := bnd2_some h
  have fs1 : (s1.2 0 0 = σ.2 0 0 ∧ s1.2 1 0 = σ.2 1 0) := gn_fX7_holds gs1
  clear gs1
  rcases ite_some h with ⟨-, h⟩ | ⟨-, h⟩
  · cases h
    exact fs1
  · obtain ⟨-, h⟩ := ldi_some h
    obtain ⟨v5, ev5, h⟩ := nm_some h
    clear ev5
    obtain ⟨v6, ev6, h⟩ := nm_some h
    clear ev6
    rcases ite_some h with ⟨-, h⟩ | ⟨-, h⟩
    · exact n01_tr fs1 (gn_fX7_readingRefused_30 h)
    · exact n01_tr fs1 (gn_fX7_readingRefused_30 h)
theorem gn_fX7_isChild_27 {F : Nat} {i0 : Nat} {t0 : Int32} {σ : qS} {r : Int32 × qS} (h : fX7_isChild_27 F i0 t0 σ = some r) : (r.2.2 0 0 = σ.2 0 0 ∧ r.2.2 1 0 = σ.2 1 0) := by
  unfold fX7_isChild_27 at h
  obtain ⟨-, h⟩ := gbl_some h
  cases h
  exact ⟨rfl, rfl⟩
theorem gn_fX7_isChild_26 {F : Nat} {i0 : Nat} {σ : qS} {r : Int32 × qS} (h : fX7_isChild_26 F i0 σ = some r) : (r.2.2 0 0 = σ.2 0 0 ∧ r.2.2 1 0 = σ.2 1 0) := by
  unfold fX7_isChild_26 at h
  exact gn_fX7_isChild_27 h
theorem gn_fX7_isChild {F : Nat} {i0 : Nat} {p1 : Int32} {p2 : Int32} {σ : qS} {r : Int32 × qS} (h : fX7_isChild F i0 p1 p2 σ = some r) : (r.2.2 0 0 = σ.2 0 0 ∧ r.2.2 1 0 = σ.2 1 0) := by
  unfold fX7_isChild at h
  obtain ⟨-, h⟩ := gnl_some h
  obtain ⟨-, h⟩ := ldi_some h
  rcases ite_some h with ⟨-, h⟩ | ⟨-, h⟩
  · exact gn_fX7_isChild_26 h
  · obtain ⟨-, h⟩ := ldi_some h
    rcases ite_some h with ⟨-, h⟩ | ⟨-, h⟩
    · exact gn_fX7_isChild_27 h
    · exact gn_fX7_isChild_26 h
theorem gn_fX7_childrenOf_22 {F : Nat} {i0 : Nat} {k4 : Int32 → Int32 → Int32 → qS → Option (Int32 × qS)} {x1 : Int32} {x2 : Int32} {x3 : Int32} {σ : qS} {r : Int32 × qS} (hk4 : ∀ a0 a1 a2 σ r, k4 a0 a1 a2 σ = some r → (r.2.2 0 0 = σ.2 0 0 ∧ r.2.2 1 0 = σ.2 1 0)) (h : fX7_childrenOf_22 F i0 k4 x1 x2 x3 σ = some r) : (r.2.2 0 0 = σ.2 0 0 ∧ r.2.2 1 0 = σ.2 1 0) := by
  unfold fX7_childrenOf_22 at h
  obtain ⟨v5, ev5, h⟩ := nm_some h
  clear ev5
  exact hk4 x1 x2 v5 σ _ h
theorem gn_fX7_childrenOf_4 {F : Nat} {i0 : Nat} : ∀ (n : Nat) (x1 : Int32) (x2 : Int32) (x3 : Int32) (σ : qS) (r : Int32 × qS), fX7_childrenOf_4 F i0 n x1 x2 x3 σ = some r → (r.2.2 0 0 = σ.2 0 0 ∧ r.2.2 1 0 = σ.2 1 0) := by
  intro n
  induction n with
  | zero => intro x1 x2 x3 σ r h; exact absurd h (by rw [fX7_childrenOf_4]; exact nofun)
  | succ n ih =>
    intro x1 x2 x3 σ r h
    rw [fX7_childrenOf_4] at h
    rcases ite_some h with ⟨-, h⟩ | ⟨-, h⟩
    · cases h
      exact ⟨rfl, rfl⟩
    · obtain ⟨v3, s2, gs2, h⟩ := bnd2_some h
      have fs2 : (s2.2 0 0 = σ.2 0 0 ∧ s2.2 1 0 = σ.2 1 0) := gn_fX7_isChild gs2
      clear gs2
      rcases ite_some h with ⟨-, h⟩ | ⟨-, h⟩
      · exact n01_tr fs2 (gn_fX7_childrenOf_22 (fun a0 a1 a2 σ r h => ih a0 a1 a2 σ r h) h)
      · obtain ⟨v6, ev6, h⟩ := nm_some h
        clear ev6
        exact n01_tr fs2 (gn_fX7_childrenOf_22 (fun a0 a1 a2 σ r h => ih a0 a1 a2 σ r h) h)
theorem gn_fX7_childrenOf {F : Nat} {i0 : Nat} {p1 : Int32} {σ : qS} {r : Int32 × qS} (h : fX7_childrenOf F i0 p1 σ = some r) : (r.2.2 0 0 = σ.2 0 0 ∧ r.2.2 1 0 = σ.2 1 0) := by
  unfold fX7_childrenOf at h
  obtain ⟨-, h⟩ := gnl_some h
  exact gn_fX7_childrenOf_4 _ _ _ _ _ _ h
theorem gn_fX7_told {F : Nat} {i0 : Nat} {p1 : Int32} {p2 : Int32} {σ : qS} {r : Int32 × qS} (h : fX7_told F i0 p1 p2 σ = some r) : (r.2.2 0 0 = σ.2 0 0 ∧ r.2.2 1 0 = σ.2 1 0) := by
  unfold fX7_told at h
  obtain ⟨-, h⟩ := gnl_some h
  rcases ite_some h with ⟨-, h⟩ | ⟨-, h⟩
  · obtain ⟨-, h⟩ := ldi_some h
    cases h
    exact ⟨rfl, rfl⟩
  · rcases ite_some h with ⟨-, h⟩ | ⟨-, h⟩
    · obtain ⟨-, h⟩ := ldi_some h
      cases h
      exact ⟨rfl, rfl⟩
    · rcases ite_some h with ⟨-, h⟩ | ⟨-, h⟩
      · obtain ⟨-, h⟩ := ldi_some h
        cases h
        exact ⟨rfl, rfl⟩
      · rcases ite_some h with ⟨-, h⟩ | ⟨-, h⟩
        · obtain ⟨-, h⟩ := ldi_some h
          cases h
          exact ⟨rfl, rfl⟩
        · rcases ite_some h with ⟨-, h⟩ | ⟨-, h⟩
          · obtain ⟨-, h⟩ := ldi_some h
            cases h
            exact ⟨rfl, rfl⟩
          · rcases ite_some h with ⟨-, h⟩ | ⟨-, h⟩
            · obtain ⟨-, h⟩ := ldi_some h
              cases h
              exact ⟨rfl, rfl⟩
            · rcases ite_some h with ⟨-, h⟩ | ⟨-, h⟩
              · obtain ⟨v15, s14, gs14, h⟩ := bnd2_some h
                have fs14 : (s14.2 0 0 = σ.2 0 0 ∧ s14.2 1 0 = σ.2 1 0) := gn_fX7_childrenOf gs14
                clear gs14
                cases h
                exact fs14
              · rcases ite_some h with ⟨-, h⟩ | ⟨-, h⟩
                · obtain ⟨-, h⟩ := ldi_some h
                  cases h
                  exact ⟨rfl, rfl⟩
                · rcases ite_some h with ⟨-, h⟩ | ⟨-, h⟩
                  · obtain ⟨-, h⟩ := ldi_some h
                    cases h
                    exact ⟨rfl, rfl⟩
                  · obtain ⟨-, h⟩ := ldi_some h
                    cases h
                    exact ⟨rfl, rfl⟩
theorem gn_fX7_hasChildNamed_32 {F : Nat} {i0 : Nat} {k2 : Int32 → Int32 → Int32 → qS → Option (Int32 × qS)} {x1 : Int32} {x2 : Int32} {x3 : Int32} {σ : qS} {r : Int32 × qS} (hk2 : ∀ a0 a1 a2 σ r, k2 a0 a1 a2 σ = some r → (r.2.2 0 0 = σ.2 0 0 ∧ r.2.2 1 0 = σ.2 1 0)) (h : fX7_hasChildNamed_32 F i0 k2 x1 x2 x3 σ = some r) : (r.2.2 0 0 = σ.2 0 0 ∧ r.2.2 1 0 = σ.2 1 0) := by
  unfold fX7_hasChildNamed_32 at h
  obtain ⟨v5, ev5, h⟩ := nm_some h
  clear ev5
  exact hk2 x1 x2 v5 σ _ h
theorem gn_fX7_hasChildNamed_2 {F : Nat} {i0 : Nat} : ∀ (n : Nat) (x1 : Int32) (x2 : Int32) (x3 : Int32) (σ : qS) (r : Int32 × qS), fX7_hasChildNamed_2 F i0 n x1 x2 x3 σ = some r → (r.2.2 0 0 = σ.2 0 0 ∧ r.2.2 1 0 = σ.2 1 0) := by
  intro n
  induction n with
  | zero => intro x1 x2 x3 σ r h; exact absurd h (by rw [fX7_hasChildNamed_2]; exact nofun)
  | succ n ih =>
    intro x1 x2 x3 σ r h
    rw [fX7_hasChildNamed_2] at h
    rcases ite_some h with ⟨-, h⟩ | ⟨-, h⟩
    · obtain ⟨-, h⟩ := gbl_some h
      cases h
      exact ⟨rfl, rfl⟩
    · obtain ⟨v3, s2, gs2, h⟩ := bnd2_some h
      have fs2 : (s2.2 0 0 = σ.2 0 0 ∧ s2.2 1 0 = σ.2 1 0) := gn_fX7_isChild gs2
      clear gs2
      rcases ite_some h with ⟨-, h⟩ | ⟨-, h⟩
      · exact n01_tr fs2 (gn_fX7_hasChildNamed_32 (fun a0 a1 a2 σ r h => ih a0 a1 a2 σ r h) h)
      · obtain ⟨-, h⟩ := ldi_some h
        rcases ite_some h with ⟨-, h⟩ | ⟨-, h⟩
        · obtain ⟨-, h⟩ := gbl_some h
          cases h
          exact fs2
        · exact n01_tr fs2 (gn_fX7_hasChildNamed_32 (fun a0 a1 a2 σ r h => ih a0 a1 a2 σ r h) h)
theorem gn_fX7_hasChildNamed {F : Nat} {i0 : Nat} {p1 : Int32} {p2 : Int32} {σ : qS} {r : Int32 × qS} (h : fX7_hasChildNamed F i0 p1 p2 σ = some r) : (r.2.2 0 0 = σ.2 0 0 ∧ r.2.2 1 0 = σ.2 1 0) := by
  unfold fX7_hasChildNamed at h
  obtain ⟨-, h⟩ := gnl_some h
  exact gn_fX7_hasChildNamed_2 _ _ _ _ _ _ h
theorem gn_fX7_nextChild_66 {F : Nat} {i0 : Nat} {k6 : Int32 → Int32 → Int32 → Int32 → qS → Option (Int32 × qS)} {x1 : Int32} {x2 : Int32} {x3 : Int32} {x4 : Int32} {σ : qS} {r : Int32 × qS} (hk6 : ∀ a0 a1 a2 a3 σ r, k6 a0 a1 a2 a3 σ = some r → (r.2.2 0 0 = σ.2 0 0 ∧ r.2.2 1 0 = σ.2 1 0)) (h : fX7_nextChild_66 F i0 k6 x1 x2 x3 x4 σ = some r) : (r.2.2 0 0 = σ.2 0 0 ∧ r.2.2 1 0 = σ.2 1 0) := by
  unfold fX7_nextChild_66 at h
  obtain ⟨v5, ev5, h⟩ := nm_some h
  clear ev5
  exact hk6 x1 x2 x3 v5 σ _ h
theorem gn_fX7_nextChild_63 {F : Nat} {i0 : Nat} {k6 : Int32 → Int32 → Int32 → Int32 → qS → Option (Int32 × qS)} {x1 : Int32} {x2 : Int32} {x4 : Int32} {σ : qS} {r : Int32 × qS} (hk6 : ∀ a0 a1 a2 a3 σ r, k6 a0 a1 a2 a3 σ = some r → (r.2.2 0 0 = σ.2 0 0 ∧ r.2.2 1 0 = σ.2 1 0)) (h : fX7_nextChild_63 F i0 k6 x1 x2 x4 σ = some r) : (r.2.2 0 0 = σ.2 0 0 ∧ r.2.2 1 0 = σ.2 1 0) := by
  unfold fX7_nextChild_63 at h
  exact gn_fX7_nextChild_66 hk6 h
theorem gn_fX7_nextChild_6 {F : Nat} {i0 : Nat} : ∀ (n : Nat) (x1 : Int32) (x2 : Int32) (x3 : Int32) (x4 : Int32) (σ : qS) (r : Int32 × qS), fX7_nextChild_6 F i0 n x1 x2 x3 x4 σ = some r → (r.2.2 0 0 = σ.2 0 0 ∧ r.2.2 1 0 = σ.2 1 0) := by
  intro n
  induction n with
  | zero => intro x1 x2 x3 x4 σ r h; exact absurd h (by rw [fX7_nextChild_6]; exact nofun)
  | succ n ih =>
    intro x1 x2 x3 x4 σ r h
    rw [fX7_nextChild_6] at h
    rcases ite_some h with ⟨-, h⟩ | ⟨-, h⟩
    · cases h
      exact ⟨rfl, rfl⟩
    · obtain ⟨v3, s2, gs2, h⟩ := bnd2_some h
      have fs2 : (s2.2 0 0 = σ.2 0 0 ∧ s2.2 1 0 = σ.2 1 0) := gn_fX7_isChild gs2
      clear gs2
      rcases ite_some h with ⟨-, h⟩ | ⟨-, h⟩
      · exact n01_tr fs2 (gn_fX7_nextChild_66 (fun a0 a1 a2 a3 σ r h => ih a0 a1 a2 a3 σ r h) h)
      · obtain ⟨-, h⟩ := ldi_some h
        rcases ite_some h with ⟨-, h⟩ | ⟨-, h⟩
        · exact n01_tr fs2 (gn_fX7_nextChild_66 (fun a0 a1 a2 a3 σ r h => ih a0 a1 a2 a3 σ r h) h)
        · rcases ite_some h with ⟨-, h⟩ | ⟨-, h⟩
          · exact n01_tr fs2 (gn_fX7_nextChild_63 (fun a0 a1 a2 a3 σ r h => ih a0 a1 a2 a3 σ r h) h)
          · obtain ⟨-, h⟩ := ldi_some h
            obtain ⟨-, h⟩ := ldi_some h
            rcases ite_some h with ⟨-, h⟩ | ⟨-, h⟩
            · exact n01_tr fs2 (gn_fX7_nextChild_66 (fun a0 a1 a2 a3 σ r h => ih a0 a1 a2 a3 σ r h) h)
            · exact n01_tr fs2 (gn_fX7_nextChild_63 (fun a0 a1 a2 a3 σ r h => ih a0 a1 a2 a3 σ r h) h)
theorem gn_fX7_nextChild {F : Nat} {i0 : Nat} {p1 : Int32} {p2 : Int32} {σ : qS} {r : Int32 × qS} (h : fX7_nextChild F i0 p1 p2 σ = some r) : (r.2.2 0 0 = σ.2 0 0 ∧ r.2.2 1 0 = σ.2 1 0) := by
  unfold fX7_nextChild at h
  obtain ⟨-, h⟩ := gnl_some h
  exact gn_fX7_nextChild_6 _ _ _ _ _ _ _ h
theorem gn_fX7_firstChild {F : Nat} {i0 : Nat} {p1 : Int32} {σ : qS} {r : Int32 × qS} (h : fX7_firstChild F i0 p1 σ = some r) : (r.2.2 0 0 = σ.2 0 0 ∧ r.2.2 1 0 = σ.2 1 0) := by
  unfold fX7_firstChild at h
  obtain ⟨-, h⟩ := gnl_some h
  obtain ⟨v2, s1, gs1, h⟩ := bnd2_some h
  have fs1 : (s1.2 0 0 = σ.2 0 0 ∧ s1.2 1 0 = σ.2 1 0) := gn_fX7_nextChild gs1
  clear gs1
  cases h
  exact fs1
theorem gn_fX7_childAt_47 {F : Nat} {i0 : Nat} {x3 : Int32} {σ : qS} {r : Int32 × qS} (h : fX7_childAt_47 F i0 x3 σ = some r) : (r.2.2 0 0 = σ.2 0 0 ∧ r.2.2 1 0 = σ.2 1 0) := by
  unfold fX7_childAt_47 at h
  cases h
  exact ⟨rfl, rfl⟩
theorem gn_fX7_childAt_9 {F : Nat} {i0 : Nat} : ∀ (n : Nat) (x1 : Int32) (x2 : Int32) (x3 : Int32) (x4 : Int32) (σ : qS) (r : Int32 × qS), fX7_childAt_9 F i0 n x1 x2 x3 x4 σ = some r → (r.2.2 0 0 = σ.2 0 0 ∧ r.2.2 1 0 = σ.2 1 0) := by
  intro n
  induction n with
  | zero => intro x1 x2 x3 x4 σ r h; exact absurd h (by rw [fX7_childAt_9]; exact nofun)
  | succ n ih =>
    intro x1 x2 x3 x4 σ r h
    rw [fX7_childAt_9] at h
    rcases ite_some h with ⟨-, h⟩ | ⟨-, h⟩
    · exact gn_fX7_childAt_47 h
    · rcases ite_some h with ⟨-, h⟩ | ⟨-, h⟩
      · exact gn_fX7_childAt_47 h
      · rcases ite_some h with ⟨-, h⟩ | ⟨-, h⟩
        · exact gn_fX7_childAt_47 h
        · obtain ⟨-, h⟩ := ldi_some h
          obtain ⟨v8, s7, gs7, h⟩ := bnd2_some h
          have fs7 : (s7.2 0 0 = σ.2 0 0 ∧ s7.2 1 0 = σ.2 1 0) := gn_fX7_nextChild gs7
          clear gs7
          obtain ⟨v9, ev9, h⟩ := nm_some h
          clear ev9
          exact n01_tr fs7 (ih _ _ _ _ _ _ h)
theorem gn_fX7_childAt {F : Nat} {i0 : Nat} {p1 : Int32} {p2 : Int32} {σ : qS} {r : Int32 × qS} (h : fX7_childAt F i0 p1 p2 σ = some r) : (r.2.2 0 0 = σ.2 0 0 ∧ r.2.2 1 0 = σ.2 1 0) := by
  unfold fX7_childAt at h
  obtain ⟨-, h⟩ := gnl_some h
  obtain ⟨v2, s1, gs1, h⟩ := bnd2_some h
  have fs1 : (s1.2 0 0 = σ.2 0 0 ∧ s1.2 1 0 = σ.2 1 0) := gn_fX7_firstChild gs1
  clear gs1
  exact n01_tr fs1 (gn_fX7_childAt_9 _ _ _ _ _ _ _ h)
theorem gn_fX7_firstWithoutChildren_47 {F : Nat} {i0 : Nat} {x2 : Int32} {σ : qS} {r : Int32 × qS} (h : fX7_firstWithoutChildren_47 F i0 x2 σ = some r) : (r.2.2 0 0 = σ.2 0 0 ∧ r.2.2 1 0 = σ.2 1 0) := by
  unfold fX7_firstWithoutChildren_47 at h
  cases h
  exact ⟨rfl, rfl⟩
theorem gn_fX7_firstWithoutChildren_8 {F : Nat} {i0 : Nat} : ∀ (n : Nat) (x1 : Int32) (x2 : Int32) (x3 : Int32) (σ : qS) (r : Int32 × qS), fX7_firstWithoutChildren_8 F i0 n x1 x2 x3 σ = some r → (r.2.2 0 0 = σ.2 0 0 ∧ r.2.2 1 0 = σ.2 1 0) := by
  intro n
  induction n with
  | zero => intro x1 x2 x3 σ r h; exact absurd h (by rw [fX7_firstWithoutChildren_8]; exact nofun)
  | succ n ih =>
    intro x1 x2 x3 σ r h
    rw [fX7_firstWithoutChildren_8] at h
    rcases ite_some h with ⟨-, h⟩ | ⟨-, h⟩
    · exact gn_fX7_firstWithoutChildren_47 h
    · rcases ite_some h with ⟨-, h⟩ | ⟨-, h⟩
      · exact gn_fX7_firstWithoutChildren_47 h
      · obtain ⟨v6, s5, gs5, h⟩ := bnd2_some h
        have fs5 : (s5.2 0 0 = σ.2 0 0 ∧ s5.2 1 0 = σ.2 1 0) := gn_fX7_childrenOf gs5
        clear gs5
        rcases ite_some h with ⟨-, h⟩ | ⟨-, h⟩
        · exact n01_tr fs5 (gn_fX7_firstWithoutChildren_47 h)
        · obtain ⟨-, h⟩ := ldi_some h
          obtain ⟨v10, s9, gs9, h⟩ := bnd2_some h
          have fs9 : (s9.2 0 0 = σ.2 0 0 ∧ s9.2 1 0 = σ.2 1 0) := n01_tr fs5 (gn_fX7_nextChild gs9)
          clear gs9
          obtain ⟨v11, ev11, h⟩ := nm_some h
          clear ev11
          exact n01_tr fs9 (ih _ _ _ _ _ h)
theorem gn_fX7_firstWithoutChildren {F : Nat} {i0 : Nat} {p1 : Int32} {σ : qS} {r : Int32 × qS} (h : fX7_firstWithoutChildren F i0 p1 σ = some r) : (r.2.2 0 0 = σ.2 0 0 ∧ r.2.2 1 0 = σ.2 1 0) := by
  unfold fX7_firstWithoutChildren at h
  obtain ⟨-, h⟩ := gnl_some h
  obtain ⟨v2, s1, gs1, h⟩ := bnd2_some h
  have fs1 : (s1.2 0 0 = σ.2 0 0 ∧ s1.2 1 0 = σ.2 1 0) := gn_fX7_firstChild gs1
  clear gs1
  exact n01_tr fs1 (gn_fX7_firstWithoutChildren_8 _ _ _ _ _ _ h)
theorem gn_fX7_isOfSession_31 {F : Nat} {i0 : Nat} {t0 : Int32} {σ : qS} {r : Int32 × qS} (h : fX7_isOfSession_31 F i0 t0 σ = some r) : (r.2.2 0 0 = σ.2 0 0 ∧ r.2.2 1 0 = σ.2 1 0) := by
  unfold fX7_isOfSession_31 at h
  obtain ⟨-, h⟩ := gbl_some h
  cases h
  exact ⟨rfl, rfl⟩
theorem gn_fX7_isOfSession_30 {F : Nat} {i0 : Nat} {σ : qS} {r : Int32 × qS} (h : fX7_isOfSession_30 F i0 σ = some r) : (r.2.2 0 0 = σ.2 0 0 ∧ r.2.2 1 0 = σ.2 1 0) := by
  unfold fX7_isOfSession_30 at h
  exact gn_fX7_isOfSession_31 h
theorem gn_fX7_isOfSession {F : Nat} {i0 : Nat} {p1 : Int32} {p2 : Int32} {σ : qS} {r : Int32 × qS} (h : fX7_isOfSession F i0 p1 p2 σ = some r) : (r.2.2 0 0 = σ.2 0 0 ∧ r.2.2 1 0 = σ.2 1 0) := by
  unfold fX7_isOfSession at h
  obtain ⟨-, h⟩ := gnl_some h
  obtain ⟨-, h⟩ := ldi_some h
  rcases ite_some h with ⟨-, h⟩ | ⟨-, h⟩
  · obtain ⟨-, h⟩ := ldi_some h
    rcases ite_some h with ⟨-, h⟩ | ⟨-, h⟩
    · exact gn_fX7_isOfSession_31 h
    · exact gn_fX7_isOfSession_30 h
  · exact gn_fX7_isOfSession_30 h
theorem gn_fX7_firstOf_50 {F : Nat} {i0 : Nat} {x3 : Int32} {σ : qS} {r : Int32 × qS} (h : fX7_firstOf_50 F i0 x3 σ = some r) : (r.2.2 0 0 = σ.2 0 0 ∧ r.2.2 1 0 = σ.2 1 0) := by
  unfold fX7_firstOf_50 at h
  cases h
  exact ⟨rfl, rfl⟩
theorem gn_fX7_firstOf_9 {F : Nat} {i0 : Nat} : ∀ (n : Nat) (x1 : Int32) (x2 : Int32) (x3 : Int32) (x4 : Int32) (σ : qS) (r : Int32 × qS), fX7_firstOf_9 F i0 n x1 x2 x3 x4 σ = some r → (r.2.2 0 0 = σ.2 0 0 ∧ r.2.2 1 0 = σ.2 1 0) := by
  intro n
  induction n with
  | zero => intro x1 x2 x3 x4 σ r h; exact absurd h (by rw [fX7_firstOf_9]; exact nofun)
  | succ n ih =>
    intro x1 x2 x3 x4 σ r h
    rw [fX7_firstOf_9] at h
    rcases ite_some h with ⟨-, h⟩ | ⟨-, h⟩
    · exact gn_fX7_firstOf_50 h
    · rcases ite_some h with ⟨-, h⟩ | ⟨-, h⟩
      · exact gn_fX7_firstOf_50 h
      · obtain ⟨v6, s5, gs5, h⟩ := bnd2_some h
        have fs5 : (s5.2 0 0 = σ.2 0 0 ∧ s5.2 1 0 = σ.2 1 0) := gn_fX7_isOfSession gs5
        clear gs5
        rcases ite_some h with ⟨-, h⟩ | ⟨-, h⟩
        · obtain ⟨-, h⟩ := ldi_some h
          obtain ⟨v10, s9, gs9, h⟩ := bnd2_some h
          have fs9 : (s9.2 0 0 = σ.2 0 0 ∧ s9.2 1 0 = σ.2 1 0) := n01_tr fs5 (gn_fX7_nextChild gs9)
          clear gs9
          obtain ⟨v11, ev11, h⟩ := nm_some h
          clear ev11
          exact n01_tr fs9 (ih _ _ _ _ _ _ h)
        · exact n01_tr fs5 (gn_fX7_firstOf_50 h)
theorem gn_fX7_firstOf {F : Nat} {i0 : Nat} {p1 : Int32} {p2 : Int32} {σ : qS} {r : Int32 × qS} (h : fX7_firstOf F i0 p1 p2 σ = some r) : (r.2.2 0 0 = σ.2 0 0 ∧ r.2.2 1 0 = σ.2 1 0) := by
  unfold fX7_firstOf at h
  obtain ⟨-, h⟩ := gnl_some h
  obtain ⟨v2, s1, gs1, h⟩ := bnd2_some h
  have fs1 : (s1.2 0 0 = σ.2 0 0 ∧ s1.2 1 0 = σ.2 1 0) := gn_fX7_firstChild gs1
  clear gs1
  exact n01_tr fs1 (gn_fX7_firstOf_9 _ _ _ _ _ _ _ h)
theorem gn_fX7_fenceOf_107 {F : Nat} {i0 : Nat} {k38 : Int32 → Int32 → Int32 → Int32 → qS → Option (Int32 × qS)} {x2 : Int32} {x3 : Int32} {x4 : Int32} {x5 : Int32} {σ : qS} {r : Int32 × qS} (hk38 : ∀ a0 a1 a2 a3 σ r, k38 a0 a1 a2 a3 σ = some r → (r.2.2 0 0 = σ.2 0 0 ∧ r.2.2 1 0 = σ.2 1 0)) (h : fX7_fenceOf_107 F i0 k38 x2 x3 x4 x5 σ = some r) : (r.2.2 0 0 = σ.2 0 0 ∧ r.2.2 1 0 = σ.2 1 0) := by
  unfold fX7_fenceOf_107 at h
  obtain ⟨v14, ev14, h⟩ := nm_some h
  clear ev14
  exact hk38 x2 x3 x4 v14 σ _ h
theorem gn_fX7_fenceOf_104 {F : Nat} {i0 : Nat} {σ : qS} {r : Int32 × qS} (h : fX7_fenceOf_104 F i0 σ = some r) : (r.2.2 0 0 = σ.2 0 0 ∧ r.2.2 1 0 = σ.2 1 0) := by
  unfold fX7_fenceOf_104 at h
  cases h
  exact ⟨rfl, rfl⟩
theorem gn_fX7_fenceOf_82 {F : Nat} {i0 : Nat} {k38 : Int32 → Int32 → Int32 → Int32 → qS → Option (Int32 × qS)} {x2 : Int32} {x3 : Int32} {x4 : Int32} {x5 : Int32} {t0 : Int32} {σ : qS} {r : Int32 × qS} (hk38 : ∀ a0 a1 a2 a3 σ r, k38 a0 a1 a2 a3 σ = some r → (r.2.2 0 0 = σ.2 0 0 ∧ r.2.2 1 0 = σ.2 1 0)) (h : fX7_fenceOf_82 F i0 k38 x2 x3 x4 x5 t0 σ = some r) : (r.2.2 0 0 = σ.2 0 0 ∧ r.2.2 1 0 = σ.2 1 0) := by
  unfold fX7_fenceOf_82 at h
  rcases ite_some h with ⟨-, h⟩ | ⟨-, h⟩
  · exact gn_fX7_fenceOf_107 hk38 h
  · rcases ite_some h with ⟨-, h⟩ | ⟨-, h⟩
    · exact gn_fX7_fenceOf_104 h
    · obtain ⟨-, h⟩ := ldi_some h
      rcases ite_some h with ⟨-, h⟩ | ⟨-, h⟩
      · exact gn_fX7_fenceOf_104 h
      · exact gn_fX7_fenceOf_107 hk38 h
theorem gn_fX7_fenceOf_81 {F : Nat} {i0 : Nat} {k38 : Int32 → Int32 → Int32 → Int32 → qS → Option (Int32 × qS)} {x2 : Int32} {x3 : Int32} {x4 : Int32} {x5 : Int32} {σ : qS} {r : Int32 × qS} (hk38 : ∀ a0 a1 a2 a3 σ r, k38 a0 a1 a2 a3 σ = some r → (r.2.2 0 0 = σ.2 0 0 ∧ r.2.2 1 0 = σ.2 1 0)) (h : fX7_fenceOf_81 F i0 k38 x2 x3 x4 x5 σ = some r) : (r.2.2 0 0 = σ.2 0 0 ∧ r.2.2 1 0 = σ.2 1 0) := by
  unfold fX7_fenceOf_81 at h
  exact gn_fX7_fenceOf_82 hk38 h
theorem gn_fX7_fenceOf_38 {F : Nat} {i0 : Nat} : ∀ (n : Nat) (x2 : Int32) (x3 : Int32) (x4 : Int32) (x5 : Int32) (σ : qS) (r : Int32 × qS), fX7_fenceOf_38 F i0 n x2 x3 x4 x5 σ = some r → (r.2.2 0 0 = σ.2 0 0 ∧ r.2.2 1 0 = σ.2 1 0) := by
  intro n
  induction n with
  | zero => intro x2 x3 x4 x5 σ r h; exact absurd h (by rw [fX7_fenceOf_38]; exact nofun)
  | succ n ih =>
    intro x2 x3 x4 x5 σ r h
    rw [fX7_fenceOf_38] at h
    rcases ite_some h with ⟨-, h⟩ | ⟨-, h⟩
    · obtain ⟨-, h⟩ := ldi_some h
      cases h
      exact ⟨rfl, rfl⟩
    · obtain ⟨v11, s10, gs10, h⟩ := bnd2_some h
      have fs10 : (s10.2 0 0 = σ.2 0 0 ∧ s10.2 1 0 = σ.2 1 0) := gn_fX7_isChild gs10
      clear gs10
      rcases ite_some h with ⟨-, h⟩ | ⟨-, h⟩
      · exact n01_tr fs10 (gn_fX7_fenceOf_81 (fun a0 a1 a2 a3 σ r h => ih a0 a1 a2 a3 σ r h) h)
      · obtain ⟨-, h⟩ := ldi_some h
        obtain ⟨-, h⟩ := ldi_some h
        rcases ite_some h with ⟨-, h⟩ | ⟨-, h⟩
        · exact n01_tr fs10 (gn_fX7_fenceOf_81 (fun a0 a1 a2 a3 σ r h => ih a0 a1 a2 a3 σ r h) h)
        · exact n01_tr fs10 (gn_fX7_fenceOf_82 (fun a0 a1 a2 a3 σ r h => ih a0 a1 a2 a3 σ r h) h)
theorem gn_fX7_fenceOf_33 {F : Nat} {i0 : Nat} {x2 : Int32} {x3 : Int32} {t0 : Int32} {σ : qS} {r : Int32 × qS} (h : fX7_fenceOf_33 F i0 x2 x3 t0 σ = some r) : (r.2.2 0 0 = σ.2 0 0 ∧ r.2.2 1 0 = σ.2 1 0) := by
  unfold fX7_fenceOf_33 at h
  exact gn_fX7_fenceOf_38 _ _ _ _ _ _ _ h
theorem gn_fX7_fenceOf {F : Nat} {i0 : Nat} {p1 : Int32} {p2 : Int32} {σ : qS} {r : Int32 × qS} (h : fX7_fenceOf F i0 p1 p2 σ = some r) : (r.2.2 0 0 = σ.2 0 0 ∧ r.2.2 1 0 = σ.2 1 0) := by
  unfold fX7_fenceOf at h
  obtain ⟨-, h⟩ := gnl_some h
  obtain ⟨v2, s1, gs1, h⟩ := bnd2_some h
  have fs1 : (s1.2 0 0 = σ.2 0 0 ∧ s1.2 1 0 = σ.2 1 0) := gn_fX7_firstOf gs1
  clear gs1
  obtain ⟨v4, s3, gs3, h⟩ := bnd2_some h
  have fs3 : (s3.2 0 0 = σ.2 0 0 ∧ s3.2 1 0 = σ.2 1 0) := n01_tr fs1 (gn_fX7_holds gs3)
  clear gs3
  rcases ite_some h with ⟨-, h⟩ | ⟨-, h⟩
  · cases h
    exact fs3
  · obtain ⟨-, h⟩ := ldi_some h
    rcases ite_some h with ⟨-, h⟩ | ⟨-, h⟩
    · exact n01_tr fs3 (gn_fX7_fenceOf_33 h)
    · exact n01_tr fs3 (gn_fX7_fenceOf_33 h)
theorem gn_fX7_countBelow_49 {F : Nat} {i0 : Nat} {k11 : Int32 → qS → Option qS} {x1 : Int32} {σ : qS} {r : qS} (hk11 : ∀ a0 σ r, k11 a0 σ = some r → (r.2 0 0 = σ.2 0 0 ∧ r.2 1 0 = σ.2 1 0)) (h : fX7_countBelow_49 F i0 k11 x1 σ = some r) : (r.2 0 0 = σ.2 0 0 ∧ r.2 1 0 = σ.2 1 0) := by
  unfold fX7_countBelow_49 at h
  obtain ⟨v5, ev5, h⟩ := nm_some h
  clear ev5
  exact hk11 v5 σ _ h
theorem gn_fX7_countBelow_11 {F : Nat} {i0 : Nat} : ∀ (n : Nat) (x1 : Int32) (σ : qS) (r : qS), fX7_countBelow_11 F i0 n x1 σ = some r → (r.2 0 0 = σ.2 0 0 ∧ r.2 1 0 = σ.2 1 0) := by
  intro n
  induction n with
  | zero => intro x1 σ r h; exact absurd h (by rw [fX7_countBelow_11]; exact nofun)
  | succ n ih =>
    intro x1 σ r h
    rw [fX7_countBelow_11] at h
    rcases ite_some h with ⟨-, h⟩ | ⟨-, h⟩
    · cases h
      exact ⟨rfl, rfl⟩
    · obtain ⟨-, h⟩ := ldi_some h
      rcases ite_some h with ⟨-, h⟩ | ⟨-, h⟩
      · exact gn_fX7_countBelow_49 (fun a0 σ r h => ih a0 σ r h) h
      · obtain ⟨-, h⟩ := ldi_some h
        obtain ⟨-, h⟩ := ldi_some h
        obtain ⟨-, h⟩ := ldi_some h
        obtain ⟨v9, ev9, h⟩ := nm_some h
        clear ev9
        obtain ⟨v10, ev10, h⟩ := nm_some h
        clear ev10
        obtain ⟨-, h⟩ := inx_some h
        obtain ⟨s11, es11, h⟩ := nm_some h
        have fs11 : (s11.2 0 0 = σ.2 0 0 ∧ s11.2 1 0 = σ.2 1 0) := show (s11.2 0 0 = σ.2 0 0 ∧ s11.2 1 0 = σ.2 1 0) from by rw [es11]; exact ⟨rfl, rfl⟩
        clear es11
        exact n01_tr fs11 (gn_fX7_countBelow_49 (fun a0 σ r h => ih a0 σ r h) h)
theorem gn_fX7_countBelow {F : Nat} {i0 : Nat} {σ : qS} {r : qS} (h : fX7_countBelow F i0 σ = some r) : (r.2 0 0 = σ.2 0 0 ∧ r.2 1 0 = σ.2 1 0) := by
  unfold fX7_countBelow at h
  obtain ⟨-, h⟩ := gnl_some h
  obtain ⟨s1, es1, h⟩ := nm_some h
  have fs1 : (s1.2 0 0 = σ.2 0 0 ∧ s1.2 1 0 = σ.2 1 0) := show (s1.2 0 0 = σ.2 0 0 ∧ s1.2 1 0 = σ.2 1 0) from by rw [es1]; exact ⟨rfl, rfl⟩
  clear es1
  exact n01_tr fs1 (gn_fX7_countBelow_11 _ _ _ _ h)
theorem gn_fX7_belowOf {F : Nat} {i0 : Nat} {p1 : Int32} {σ : qS} {r : Int32 × qS} (h : fX7_belowOf F i0 p1 σ = some r) : (r.2.2 0 0 = σ.2 0 0 ∧ r.2.2 1 0 = σ.2 1 0) := by
  unfold fX7_belowOf at h
  obtain ⟨-, h⟩ := gnl_some h
  obtain ⟨s1, gs1, h⟩ := bnd_some h
  have fs1 : (s1.2 0 0 = σ.2 0 0 ∧ s1.2 1 0 = σ.2 1 0) := gn_fX7_countBelow gs1
  clear gs1
  obtain ⟨-, h⟩ := ldi_some h
  cases h
  exact fs1
theorem gn_fX6_addWatch_39 {F : Nat} {i0 : Nat} {σ : qS} {r : Int32 × qS} (h : fX6_addWatch_39 F i0 σ = some r) : (r.2.2 0 0 = σ.2 0 0 ∧ r.2.2 1 0 = σ.2 1 0) := by
  unfold fX6_addWatch_39 at h
  obtain ⟨-, h⟩ := gnl_some h
  obtain ⟨v3, ev3, h⟩ := nm_some h
  clear ev3
  cases h
  exact ⟨rfl, rfl⟩
theorem gn_fX6_addWatch {F : Nat} {i0 : Nat} {p1 : Int32} {p2 : Int32} {σ : qS} {r : Int32 × qS} (h : fX6_addWatch F i0 p1 p2 σ = some r) : (r.2.2 0 0 = σ.2 0 0 ∧ r.2.2 1 0 = σ.2 1 0) := by
  unfold fX6_addWatch at h
  obtain ⟨-, h⟩ := gnl_some h
  obtain ⟨v1, ev1, h⟩ := nm_some h
  clear ev1
  rcases ite_some h with ⟨-, h⟩ | ⟨-, h⟩
  · exact gn_fX6_addWatch_39 h
  · obtain ⟨-, h⟩ := gnl_some h
    obtain ⟨-, h⟩ := gnl_some h
    obtain ⟨v4, ev4, h⟩ := nm_some h
    clear ev4
    obtain ⟨-, h⟩ := gnl_some h
    obtain ⟨-, h⟩ := inx_some h
    obtain ⟨s5, es5, h⟩ := nm_some h
    have fs5 : (s5.2 0 0 = σ.2 0 0 ∧ s5.2 1 0 = σ.2 1 0) := show (s5.2 0 0 = σ.2 0 0 ∧ s5.2 1 0 = σ.2 1 0) from by rw [es5]; exact ⟨rfl, rfl⟩
    clear es5
    obtain ⟨-, h⟩ := gnl_some h
    obtain ⟨-, h⟩ := gnl_some h
    obtain ⟨v6, ev6, h⟩ := nm_some h
    clear ev6
    obtain ⟨-, h⟩ := gnl_some h
    obtain ⟨-, h⟩ := inx_some h
    obtain ⟨s7, es7, h⟩ := nm_some h
    have fs7 : (s7.2 0 0 = σ.2 0 0 ∧ s7.2 1 0 = σ.2 1 0) := n01_tr fs5 (show (s7.2 0 0 = s5.2 0 0 ∧ s7.2 1 0 = s5.2 1 0) from by rw [es7]; exact ⟨rfl, rfl⟩)
    clear es7
    obtain ⟨-, h⟩ := gnl_some h
    obtain ⟨v8, ev8, h⟩ := nm_some h
    clear ev8
    obtain ⟨v9, ev9, h⟩ := nm_some h
    clear ev9
    obtain ⟨-, h⟩ := gnl_some h
    obtain ⟨s10, es10, h⟩ := nm_some h
    have fs10 : (s10.2 0 0 = σ.2 0 0 ∧ s10.2 1 0 = σ.2 1 0) := n01_tr fs7 (show (s10.2 0 0 = s7.2 0 0 ∧ s10.2 1 0 = s7.2 1 0) from by rw [es10]; exact ⟨rfl, rfl⟩)
    clear es10
    exact n01_tr fs10 (gn_fX6_addWatch_39 h)
theorem gn_fX6_watchesFor_55 {F : Nat} {i0 : Nat} {t0 : Int32} {σ : qS} {r : Int32 × qS} (h : fX6_watchesFor_55 F i0 t0 σ = some r) : (r.2.2 0 0 = σ.2 0 0 ∧ r.2.2 1 0 = σ.2 1 0) := by
  unfold fX6_watchesFor_55 at h
  obtain ⟨-, h⟩ := gbl_some h
  cases h
  exact ⟨rfl, rfl⟩
theorem gn_fX6_watchesFor_54 {F : Nat} {i0 : Nat} {σ : qS} {r : Int32 × qS} (h : fX6_watchesFor_54 F i0 σ = some r) : (r.2.2 0 0 = σ.2 0 0 ∧ r.2.2 1 0 = σ.2 1 0) := by
  unfold fX6_watchesFor_54 at h
  exact gn_fX6_watchesFor_55 h
theorem gn_fX6_watchesFor_89 {F : Nat} {i0 : Nat} {t0 : Int32} {σ : qS} {r : Int32 × qS} (h : fX6_watchesFor_89 F i0 t0 σ = some r) : (r.2.2 0 0 = σ.2 0 0 ∧ r.2.2 1 0 = σ.2 1 0) := by
  unfold fX6_watchesFor_89 at h
  obtain ⟨-, h⟩ := gbl_some h
  cases h
  exact ⟨rfl, rfl⟩
theorem gn_fX6_watchesFor_88 {F : Nat} {i0 : Nat} {σ : qS} {r : Int32 × qS} (h : fX6_watchesFor_88 F i0 σ = some r) : (r.2.2 0 0 = σ.2 0 0 ∧ r.2.2 1 0 = σ.2 1 0) := by
  unfold fX6_watchesFor_88 at h
  exact gn_fX6_watchesFor_89 h
theorem gn_fX6_watchesFor_84 {F : Nat} {i0 : Nat} {σ : qS} {r : Int32 × qS} (h : fX6_watchesFor_84 F i0 σ = some r) : (r.2.2 0 0 = σ.2 0 0 ∧ r.2.2 1 0 = σ.2 1 0) := by
  unfold fX6_watchesFor_84 at h
  exact gn_fX6_watchesFor_89 h
theorem gn_fX6_watchesFor_73 {F : Nat} {i0 : Nat} {x2 : Int32} {x3 : Int32} {x5 : Int32} {σ : qS} {r : Int32 × qS} (h : fX6_watchesFor_73 F i0 x2 x3 x5 σ = some r) : (r.2.2 0 0 = σ.2 0 0 ∧ r.2.2 1 0 = σ.2 1 0) := by
  unfold fX6_watchesFor_73 at h
  rcases ite_some h with ⟨-, h⟩ | ⟨-, h⟩
  · rcases ite_some h with ⟨-, h⟩ | ⟨-, h⟩
    · exact gn_fX6_watchesFor_84 h
    · exact gn_fX6_watchesFor_88 h
  · exact gn_fX6_watchesFor_88 h
theorem gn_fX6_watchesFor {F : Nat} {i0 : Nat} {p1 : Int32} {p2 : Int32} {p3 : Int32} {σ : qS} {r : Int32 × qS} (h : fX6_watchesFor F i0 p1 p2 p3 σ = some r) : (r.2.2 0 0 = σ.2 0 0 ∧ r.2.2 1 0 = σ.2 1 0) := by
  unfold fX6_watchesFor at h
  obtain ⟨-, h⟩ := gnl_some h
  obtain ⟨-, h⟩ := gnl_some h
  obtain ⟨-, h⟩ := ldi_some h
  obtain ⟨-, h⟩ := gnl_some h
  obtain ⟨-, h⟩ := gnl_some h
  obtain ⟨-, h⟩ := ldi_some h
  rcases ite_some h with ⟨-, h⟩ | ⟨-, h⟩
  · rcases ite_some h with ⟨-, h⟩ | ⟨-, h⟩
    · rcases ite_some h with ⟨-, h⟩ | ⟨-, h⟩
      · exact gn_fX6_watchesFor_54 h
      · exact gn_fX6_watchesFor_55 h
    · exact gn_fX6_watchesFor_54 h
  · rcases ite_some h with ⟨-, h⟩ | ⟨-, h⟩
    · rcases ite_some h with ⟨-, h⟩ | ⟨-, h⟩
      · exact gn_fX6_watchesFor_73 h
      · obtain ⟨-, h⟩ := ldi_some h
        rcases ite_some h with ⟨-, h⟩ | ⟨-, h⟩
        · exact gn_fX6_watchesFor_84 h
        · exact gn_fX6_watchesFor_73 h
    · obtain ⟨v13, s12, gs12, h⟩ := bnd2_some h
      have fs12 : (s12.2 0 0 = σ.2 0 0 ∧ s12.2 1 0 = σ.2 1 0) := gn_fX1_isWithinBranch gs12
      clear gs12
      obtain ⟨-, h⟩ := gbl_some h
      cases h
      exact fs12
theorem gn_fX8_isWithin_15 {F : Nat} {t0 : Int32} {σ : qS} {r : Int32 × qS} (h : fX8_isWithin_15 F t0 σ = some r) : (r.2.2 0 0 = σ.2 0 0 ∧ r.2.2 1 0 = σ.2 1 0) := by
  unfold fX8_isWithin_15 at h
  obtain ⟨-, h⟩ := gbl_some h
  cases h
  exact ⟨rfl, rfl⟩
theorem gn_fX8_isWithin_14 {F : Nat} {σ : qS} {r : Int32 × qS} (h : fX8_isWithin_14 F σ = some r) : (r.2.2 0 0 = σ.2 0 0 ∧ r.2.2 1 0 = σ.2 1 0) := by
  unfold fX8_isWithin_14 at h
  exact gn_fX8_isWithin_15 h
theorem gn_fX8_isWithin {F : Nat} {p1 : Int32} {p2 : Int32} {p3 : Int32} {σ : qS} {r : Int32 × qS} (h : fX8_isWithin F p1 p2 p3 σ = some r) : (r.2.2 0 0 = σ.2 0 0 ∧ r.2.2 1 0 = σ.2 1 0) := by
  unfold fX8_isWithin at h
  rcases ite_some h with ⟨-, h⟩ | ⟨-, h⟩
  · exact gn_fX8_isWithin_14 h
  · rcases ite_some h with ⟨-, h⟩ | ⟨-, h⟩
    · exact gn_fX8_isWithin_14 h
    · exact gn_fX8_isWithin_15 h
theorem gn_fX8_commit_50 {F : Nat} {σ : qS} {r : qS} (h : fX8_commit_50 F σ = some r) : (r.2 0 0 = σ.2 0 0 ∧ r.2 1 0 = σ.2 1 0) := by
  unfold fX8_commit_50 at h
  cases h
  exact ⟨rfl, rfl⟩
theorem gn_fX8_commit {F : Nat} {σ : qS} {r : qS} (h : fX8_commit F σ = some r) : (r.2 0 0 = σ.2 0 0 ∧ r.2 1 0 = σ.2 1 0) := by
  unfold fX8_commit at h
  obtain ⟨-, h⟩ := inx_some h
  obtain ⟨i1, ei1, h⟩ := nm_some h
  clear ei1
  obtain ⟨v2, ev2, h⟩ := nm_some h
  clear ev2
  obtain ⟨-, h⟩ := gnl_some h
  obtain ⟨v3, ev3, h⟩ := nm_some h
  clear ev3
  rcases ite_some h with ⟨-, h⟩ | ⟨-, h⟩
  · exact gn_fX8_commit_50 h
  · obtain ⟨v5, ev5, h⟩ := nm_some h
    clear ev5
    obtain ⟨v6, ev6, h⟩ := nm_some h
    clear ev6
    obtain ⟨s7, es7, h⟩ := nm_some h
    have fs7 : (s7.2 0 0 = σ.2 0 0 ∧ s7.2 1 0 = σ.2 1 0) := show (s7.2 0 0 = σ.2 0 0 ∧ s7.2 1 0 = σ.2 1 0) from by rw [es7]; exact ⟨rfl, rfl⟩
    clear es7
    obtain ⟨v8, ev8, h⟩ := nm_some h
    clear ev8
    obtain ⟨-, h⟩ := gnl_some h
    obtain ⟨s9, es9, h⟩ := nm_some h
    have fs9 : (s9.2 0 0 = σ.2 0 0 ∧ s9.2 1 0 = σ.2 1 0) := n01_tr fs7 (show (s9.2 0 0 = s7.2 0 0 ∧ s9.2 1 0 = s7.2 1 0) from by rw [es9]; exact ⟨rfl, rfl⟩)
    clear es9
    obtain ⟨v10, ev10, h⟩ := nm_some h
    clear ev10
    obtain ⟨-, h⟩ := gnl_some h
    obtain ⟨s11, es11, h⟩ := nm_some h
    have fs11 : (s11.2 0 0 = σ.2 0 0 ∧ s11.2 1 0 = σ.2 1 0) := n01_tr fs9 (show (s11.2 0 0 = s9.2 0 0 ∧ s11.2 1 0 = s9.2 1 0) from by rw [es11]; exact ⟨rfl, rfl⟩)
    clear es11
    exact n01_tr fs11 (gn_fX8_commit_50 h)
theorem gn_fX8_record_29 {F : Nat} {σ : qS} {r : qS} (h : fX8_record_29 F σ = some r) : (r.2 0 0 = σ.2 0 0 ∧ r.2 1 0 = σ.2 1 0) := by
  unfold fX8_record_29 at h
  cases h
  exact ⟨rfl, rfl⟩
theorem gn_fX8_record {F : Nat} {p1 : Int32} {p2 : Int32} {p3 : Int32} {σ : qS} {r : qS} (h : fX8_record F p1 p2 p3 σ = some r) : (r.2 0 0 = σ.2 0 0 ∧ r.2 1 0 = σ.2 1 0) := by
  unfold fX8_record at h
  obtain ⟨v1, ev1, h⟩ := nm_some h
  clear ev1
  obtain ⟨v2, ev2, h⟩ := nm_some h
  clear ev2
  obtain ⟨v4, s3, gs3, h⟩ := bnd2_some h
  have fs3 : (s3.2 0 0 = σ.2 0 0 ∧ s3.2 1 0 = σ.2 1 0) := gn_fX3_add gs3
  clear gs3
  rcases ite_some h with ⟨-, h⟩ | ⟨-, h⟩
  · exact n01_tr fs3 (gn_fX8_record_29 h)
  · obtain ⟨s6, gs6, h⟩ := bnd_some h
    have fs6 : (s6.2 0 0 = σ.2 0 0 ∧ s6.2 1 0 = σ.2 1 0) := n01_tr fs3 (gn_fX7_apply gs6)
    clear gs6
    exact n01_tr fs6 (gn_fX8_record_29 h)
theorem gn_fX8_letGo_58 {F : Nat} {x3 : Int32} {σ : qS} {r : Int32 × qS} (h : fX8_letGo_58 F x3 σ = some r) : (r.2.2 0 0 = σ.2 0 0 ∧ r.2.2 1 0 = σ.2 1 0) := by
  unfold fX8_letGo_58 at h
  cases h
  exact ⟨rfl, rfl⟩
theorem gn_fX8_letGo_4 {F : Nat} : ∀ (n : Nat) (x2 : Int32) (x3 : Int32) (σ : qS) (r : Int32 × qS), fX8_letGo_4 F n x2 x3 σ = some r → (r.2.2 0 0 = σ.2 0 0 ∧ r.2.2 1 0 = σ.2 1 0) := by
  intro n
  induction n with
  | zero => intro x2 x3 σ r h; exact absurd h (by rw [fX8_letGo_4]; exact nofun)
  | succ n ih =>
    intro x2 x3 σ r h
    rw [fX8_letGo_4] at h
    obtain ⟨s1, gs1, h⟩ := bnd_some h
    have fs1 : (s1.2 0 0 = σ.2 0 0 ∧ s1.2 1 0 = σ.2 1 0) := gn_fX8_record gs1
    clear gs1
    obtain ⟨v2, ev2, h⟩ := nm_some h
    clear ev2
    obtain ⟨-, h⟩ := ldi_some h
    rcases ite_some h with ⟨-, h⟩ | ⟨-, h⟩
    · exact n01_tr fs1 (gn_fX8_letGo_58 h)
    · rcases ite_some h with ⟨-, h⟩ | ⟨-, h⟩
      · exact n01_tr fs1 (gn_fX8_letGo_58 h)
      · obtain ⟨-, h⟩ := ldi_some h
        rcases ite_some h with ⟨-, h⟩ | ⟨-, h⟩
        · obtain ⟨v9, s8, gs8, h⟩ := bnd2_some h
          have fs8 : (s8.2 0 0 = σ.2 0 0 ∧ s8.2 1 0 = σ.2 1 0) := n01_tr fs1 (gn_fX7_childrenOf gs8)
          clear gs8
          rcases ite_some h with ⟨-, h⟩ | ⟨-, h⟩
          · exact n01_tr fs8 (ih _ _ _ _ h)
          · exact n01_tr fs8 (gn_fX8_letGo_58 h)
        · exact n01_tr fs1 (gn_fX8_letGo_58 h)
theorem gn_fX8_letGo {F : Nat} {p1 : Int32} {σ : qS} {r : Int32 × qS} (h : fX8_letGo F p1 σ = some r) : (r.2.2 0 0 = σ.2 0 0 ∧ r.2.2 1 0 = σ.2 1 0) := by
  unfold fX8_letGo at h
  exact gn_fX8_letGo_4 _ _ _ _ _ h
theorem gn_fX8_letHeldGo_62 {F : Nat} {k5 : Int32 → Int32 → Int32 → Int32 → qS → Option (Int32 × qS)} {x1 : Int32} {x2 : Int32} {x3 : Int32} {x4 : Int32} {σ : qS} {r : Int32 × qS} (hk5 : ∀ a0 a1 a2 a3 σ r, k5 a0 a1 a2 a3 σ = some r → (r.2.2 0 0 = σ.2 0 0 ∧ r.2.2 1 0 = σ.2 1 0)) (h : fX8_letHeldGo_62 F k5 x1 x2 x3 x4 σ = some r) : (r.2.2 0 0 = σ.2 0 0 ∧ r.2.2 1 0 = σ.2 1 0) := by
  unfold fX8_letHeldGo_62 at h
  obtain ⟨v5, ev5, h⟩ := nm_some h
  clear ev5
  exact hk5 x1 x2 x3 v5 σ _ h
theorem gn_fX8_letHeldGo_5 {F : Nat} : ∀ (n : Nat) (x1 : Int32) (x2 : Int32) (x3 : Int32) (x4 : Int32) (σ : qS) (r : Int32 × qS), fX8_letHeldGo_5 F n x1 x2 x3 x4 σ = some r → (r.2.2 0 0 = σ.2 0 0 ∧ r.2.2 1 0 = σ.2 1 0) := by
  intro n
  induction n with
  | zero => intro x1 x2 x3 x4 σ r h; exact absurd h (by rw [fX8_letHeldGo_5]; exact nofun)
  | succ n ih =>
    intro x1 x2 x3 x4 σ r h
    rw [fX8_letHeldGo_5] at h
    rcases ite_some h with ⟨-, h⟩ | ⟨-, h⟩
    · obtain ⟨s2, gs2, h⟩ := bnd_some h
      have fs2 : (s2.2 0 0 = σ.2 0 0 ∧ s2.2 1 0 = σ.2 1 0) := gn_fX8_commit gs2
      clear gs2
      cases h
      exact fs2
    · obtain ⟨-, h⟩ := ldi_some h
      rcases ite_some h with ⟨-, h⟩ | ⟨-, h⟩
      · exact gn_fX8_letHeldGo_62 (fun a0 a1 a2 a3 σ r h => ih a0 a1 a2 a3 σ r h) h
      · obtain ⟨-, h⟩ := ldi_some h
        rcases ite_some h with ⟨-, h⟩ | ⟨-, h⟩
        · obtain ⟨-, h⟩ := ldi_some h
          rcases ite_some h with ⟨-, h⟩ | ⟨-, h⟩
          · obtain ⟨v11, s10, gs10, h⟩ := bnd2_some h
            have fs10 : (s10.2 0 0 = σ.2 0 0 ∧ s10.2 1 0 = σ.2 1 0) := gn_fX8_letGo gs10
            clear gs10
            obtain ⟨v12, ev12, h⟩ := nm_some h
            clear ev12
            exact n01_tr fs10 (gn_fX8_letHeldGo_62 (fun a0 a1 a2 a3 σ r h => ih a0 a1 a2 a3 σ r h) h)
          · exact gn_fX8_letHeldGo_62 (fun a0 a1 a2 a3 σ r h => ih a0 a1 a2 a3 σ r h) h
        · exact gn_fX8_letHeldGo_62 (fun a0 a1 a2 a3 σ r h => ih a0 a1 a2 a3 σ r h) h
theorem gn_fX8_letHeldGo {F : Nat} {p1 : Int32} {p2 : Int32} {σ : qS} {r : Int32 × qS} (h : fX8_letHeldGo F p1 p2 σ = some r) : (r.2.2 0 0 = σ.2 0 0 ∧ r.2.2 1 0 = σ.2 1 0) := by
  unfold fX8_letHeldGo at h
  exact gn_fX8_letHeldGo_5 _ _ _ _ _ _ _ h
theorem gn_fX8_endSession {F : Nat} {i1 : Nat} {σ : qS} {r : Int32 × qS} (h : fX8_endSession F i1 σ = some r) : (r.2.2 0 0 = σ.2 0 0 ∧ r.2.2 1 0 = σ.2 1 0) := by
  unfold fX8_endSession at h
  obtain ⟨-, h⟩ := gnl_some h
  obtain ⟨-, h⟩ := gbl_some h
  obtain ⟨s1, es1, h⟩ := nm_some h
  have fs1 : (s1.2 0 0 = σ.2 0 0 ∧ s1.2 1 0 = σ.2 1 0) := show (s1.2 0 0 = σ.2 0 0 ∧ s1.2 1 0 = σ.2 1 0) from by rw [es1]; exact ⟨rfl, rfl⟩
  clear es1
  obtain ⟨-, h⟩ := gnl_some h
  obtain ⟨v2, ev2, h⟩ := nm_some h
  clear ev2
  obtain ⟨v4, s3, gs3, h⟩ := bnd2_some h
  have fs3 : (s3.2 0 0 = σ.2 0 0 ∧ s3.2 1 0 = σ.2 1 0) := n01_tr fs1 (gn_fX8_letHeldGo gs3)
  clear gs3
  cases h
  exact fs3
theorem gn_fX8_believe_51 {F : Nat} {i1 : Nat} {σ : qS} {r : qS} (h : fX8_believe_51 F i1 σ = some r) : (r.2 0 0 = σ.2 0 0 ∧ r.2 1 0 = σ.2 1 0) := by
  unfold fX8_believe_51 at h
  cases h
  exact ⟨rfl, rfl⟩
theorem gn_fX8_believe_50 {F : Nat} {i1 : Nat} {t1 : Int32} {t2 : Int32} {σ : qS} {r : qS} (h : fX8_believe_50 F i1 t1 t2 σ = some r) : (r.2 0 0 = σ.2 0 0 ∧ r.2 1 0 = σ.2 1 0) := by
  unfold fX8_believe_50 at h
  obtain ⟨-, h⟩ := inx_some h
  obtain ⟨s10, es10, h⟩ := nm_some h
  have fs10 : (s10.2 0 0 = σ.2 0 0 ∧ s10.2 1 0 = σ.2 1 0) := show (s10.2 0 0 = σ.2 0 0 ∧ s10.2 1 0 = σ.2 1 0) from by rw [es10]; exact ⟨rfl, rfl⟩
  clear es10
  exact n01_tr fs10 (gn_fX8_believe_51 h)
theorem gn_fX8_believe {F : Nat} {i1 : Nat} {p2 : Int32} {p3 : Int32} {σ : qS} {r : qS} (h : fX8_believe F i1 p2 p3 σ = some r) : (r.2 0 0 = σ.2 0 0 ∧ r.2 1 0 = σ.2 1 0) := by
  unfold fX8_believe at h
  obtain ⟨v2, s1, gs1, h⟩ := bnd2_some h
  have fs1 : (s1.2 0 0 = σ.2 0 0 ∧ s1.2 1 0 = σ.2 1 0) := gn_fX8_isWithin gs1
  clear gs1
  rcases ite_some h with ⟨-, h⟩ | ⟨-, h⟩
  · exact n01_tr fs1 (gn_fX8_believe_51 h)
  · obtain ⟨-, h⟩ := gnl_some h
    obtain ⟨v4, ev4, h⟩ := nm_some h
    clear ev4
    obtain ⟨v5, ev5, h⟩ := nm_some h
    clear ev5
    rcases ite_some h with ⟨-, h⟩ | ⟨-, h⟩
    · obtain ⟨-, h⟩ := ldi_some h
      obtain ⟨v8, ev8, h⟩ := nm_some h
      clear ev8
      obtain ⟨v9, ev9, h⟩ := nm_some h
      clear ev9
      exact n01_tr fs1 (gn_fX8_believe_50 h)
    · obtain ⟨-, h⟩ := ldi_some h
      obtain ⟨v12, ev12, h⟩ := nm_some h
      clear ev12
      exact n01_tr fs1 (gn_fX8_believe_50 h)
theorem gn_fX8_forgetLocks_2 {F : Nat} {i1 : Nat} : ∀ (n : Nat) (x2 : Int32) (σ : qS) (r : qS), fX8_forgetLocks_2 F i1 n x2 σ = some r → (r.2 0 0 = σ.2 0 0 ∧ r.2 1 0 = σ.2 1 0) := by
  intro n
  induction n with
  | zero => intro x2 σ r h; exact absurd h (by rw [fX8_forgetLocks_2]; exact nofun)
  | succ n ih =>
    intro x2 σ r h
    rw [fX8_forgetLocks_2] at h
    rcases ite_some h with ⟨-, h⟩ | ⟨-, h⟩
    · cases h
      exact ⟨rfl, rfl⟩
    · obtain ⟨s2, gs2, h⟩ := bnd_some h
      have fs2 : (s2.2 0 0 = σ.2 0 0 ∧ s2.2 1 0 = σ.2 1 0) := gn_fX8_believe gs2
      clear gs2
      obtain ⟨v3, ev3, h⟩ := nm_some h
      clear ev3
      exact n01_tr fs2 (ih _ _ _ h)
theorem gn_fX8_forgetLocks {F : Nat} {i1 : Nat} {σ : qS} {r : qS} (h : fX8_forgetLocks F i1 σ = some r) : (r.2 0 0 = σ.2 0 0 ∧ r.2 1 0 = σ.2 1 0) := by
  unfold fX8_forgetLocks at h
  exact gn_fX8_forgetLocks_2 _ _ _ _ h
theorem gn_fX8_catchUp_112 {F : Nat} {i1 : Nat} {x3 : Int32} {σ : qS} {r : Int32 × qS} (h : fX8_catchUp_112 F i1 x3 σ = some r) : (r.2.2 0 0 = σ.2 0 0 ∧ r.2.2 1 0 = σ.2 1 0) := by
  unfold fX8_catchUp_112 at h
  cases h
  exact ⟨rfl, rfl⟩
theorem gn_fX8_catchUp_30 {F : Nat} {i1 : Nat} : ∀ (n : Nat) (x3 : Int32) (x4 : Int32) (σ : qS) (r : Int32 × qS), fX8_catchUp_30 F i1 n x3 x4 σ = some r → (r.2.2 0 0 = σ.2 0 0 ∧ r.2.2 1 0 = σ.2 1 0) := by
  intro n
  induction n with
  | zero => intro x3 x4 σ r h; exact absurd h (by rw [fX8_catchUp_30]; exact nofun)
  | succ n ih =>
    intro x3 x4 σ r h
    rw [fX8_catchUp_30] at h
    obtain ⟨v9, ev9, h⟩ := nm_some h
    clear ev9
    rcases ite_some h with ⟨-, h⟩ | ⟨-, h⟩
    · exact gn_fX8_catchUp_112 h
    · obtain ⟨-, h⟩ := ldi_some h
      obtain ⟨v12, ev12, h⟩ := nm_some h
      clear ev12
      rcases ite_some h with ⟨-, h⟩ | ⟨-, h⟩
      · exact gn_fX8_catchUp_112 h
      · obtain ⟨-, h⟩ := ldi_some h
        obtain ⟨-, h⟩ := ldi_some h
        obtain ⟨-, h⟩ := ldi_some h
        obtain ⟨s17, gs17, h⟩ := bnd_some h
        have fs17 : (s17.2 0 0 = σ.2 0 0 ∧ s17.2 1 0 = σ.2 1 0) := gn_fX7_apply gs17
        clear gs17
        obtain ⟨v18, ev18, h⟩ := nm_some h
        clear ev18
        obtain ⟨v19, ev19, h⟩ := nm_some h
        clear ev19
        obtain ⟨s20, es20, h⟩ := nm_some h
        have fs20 : (s20.2 0 0 = σ.2 0 0 ∧ s20.2 1 0 = σ.2 1 0) := n01_tr fs17 (show (s20.2 0 0 = s17.2 0 0 ∧ s20.2 1 0 = s17.2 1 0) from by rw [es20]; exact ⟨rfl, rfl⟩)
        clear es20
        obtain ⟨v21, ev21, h⟩ := nm_some h
        clear ev21
        exact n01_tr fs20 (ih _ _ _ _ h)
theorem gn_fX8_catchUp {F : Nat} {i1 : Nat} {p2 : Int32} {σ : qS} {r : Int32 × qS} (h : fX8_catchUp F i1 p2 σ = some r) : (r.2.2 0 0 = σ.2 0 0 ∧ r.2.2 1 0 = σ.2 1 0) := by
  unfold fX8_catchUp at h
  obtain ⟨-, h⟩ := gnl_some h
  obtain ⟨v1, ev1, h⟩ := nm_some h
  clear ev1
  obtain ⟨v2, ev2, h⟩ := nm_some h
  clear ev2
  obtain ⟨v3, ev3, h⟩ := nm_some h
  clear ev3
  obtain ⟨v4, ev4, h⟩ := nm_some h
  clear ev4
  obtain ⟨v5, ev5, h⟩ := nm_some h
  clear ev5
  obtain ⟨v6, ev6, h⟩ := nm_some h
  clear ev6
  obtain ⟨s7, es7, h⟩ := nm_some h
  have fs7 : (s7.2 0 0 = σ.2 0 0 ∧ s7.2 1 0 = σ.2 1 0) := show (s7.2 0 0 = σ.2 0 0 ∧ s7.2 1 0 = σ.2 1 0) from by rw [es7]; exact ⟨rfl, rfl⟩
  clear es7
  obtain ⟨v8, ev8, h⟩ := nm_some h
  clear ev8
  exact n01_tr fs7 (gn_fX8_catchUp_30 _ _ _ _ _ h)
theorem gn_fX8_lapseLeases_55 {F : Nat} {k2 : Int32 → qS → Option qS} {x1 : Int32} {σ : qS} {r : qS} (hk2 : ∀ a0 σ r, k2 a0 σ = some r → (r.2 0 0 = σ.2 0 0 ∧ r.2 1 0 = σ.2 1 0)) (h : fX8_lapseLeases_55 F k2 x1 σ = some r) : (r.2 0 0 = σ.2 0 0 ∧ r.2 1 0 = σ.2 1 0) := by
  unfold fX8_lapseLeases_55 at h
  obtain ⟨v6, ev6, h⟩ := nm_some h
  clear ev6
  exact hk2 v6 σ _ h
theorem gn_fX8_lapseLeases_2 {F : Nat} : ∀ (n : Nat) (x1 : Int32) (σ : qS) (r : qS), fX8_lapseLeases_2 F n x1 σ = some r → (r.2 0 0 = σ.2 0 0 ∧ r.2 1 0 = σ.2 1 0) := by
  intro n
  induction n with
  | zero => intro x1 σ r h; exact absurd h (by rw [fX8_lapseLeases_2]; exact nofun)
  | succ n ih =>
    intro x1 σ r h
    rw [fX8_lapseLeases_2] at h
    obtain ⟨v1, ev1, h⟩ := nm_some h
    clear ev1
    rcases ite_some h with ⟨-, h⟩ | ⟨-, h⟩
    · cases h
      exact ⟨rfl, rfl⟩
    · obtain ⟨-, h⟩ := gnl_some h
      obtain ⟨-, h⟩ := inx_some h
      obtain ⟨i3, ei3, h⟩ := nm_some h
      clear ei3
      obtain ⟨-, h⟩ := gnl_some h
      obtain ⟨-, h⟩ := gnl_some h
      obtain ⟨v4, ev4, h⟩ := nm_some h
      clear ev4
      rcases ite_some h with ⟨-, h⟩ | ⟨-, h⟩
      · obtain ⟨v7, ev7, h⟩ := nm_some h
        clear ev7
        obtain ⟨-, h⟩ := gnl_some h
        obtain ⟨v8, ev8, h⟩ := nm_some h
        clear ev8
        rcases ite_some h with ⟨-, h⟩ | ⟨-, h⟩
        · exact gn_fX8_lapseLeases_55 (fun a0 σ r h => ih a0 σ r h) h
        · obtain ⟨-, h⟩ := gnl_some h
          obtain ⟨-, h⟩ := gbl_some h
          obtain ⟨s10, es10, h⟩ := nm_some h
          have fs10 : (s10.2 0 0 = σ.2 0 0 ∧ s10.2 1 0 = σ.2 1 0) := show (s10.2 0 0 = σ.2 0 0 ∧ s10.2 1 0 = σ.2 1 0) from by rw [es10]; exact ⟨rfl, rfl⟩
          clear es10
          obtain ⟨v12, s11, gs11, h⟩ := bnd2_some h
          have fs11 : (s11.2 0 0 = σ.2 0 0 ∧ s11.2 1 0 = σ.2 1 0) := n01_tr fs10 (gn_fX8_letHeldGo gs11)
          clear gs11
          exact n01_tr fs11 (gn_fX8_lapseLeases_55 (fun a0 σ r h => ih a0 σ r h) h)
      · exact gn_fX8_lapseLeases_55 (fun a0 σ r h => ih a0 σ r h) h
theorem gn_fX8_lapseLeases {F : Nat} {σ : qS} {r : qS} (h : fX8_lapseLeases F σ = some r) : (r.2 0 0 = σ.2 0 0 ∧ r.2 1 0 = σ.2 1 0) := by
  unfold fX8_lapseLeases at h
  exact gn_fX8_lapseLeases_2 _ _ _ _ h
theorem gn_fX8_lapseSessions_54 {F : Nat} {k2 : Int32 → qS → Option qS} {x1 : Int32} {σ : qS} {r : qS} (hk2 : ∀ a0 σ r, k2 a0 σ = some r → (r.2 0 0 = σ.2 0 0 ∧ r.2 1 0 = σ.2 1 0)) (h : fX8_lapseSessions_54 F k2 x1 σ = some r) : (r.2 0 0 = σ.2 0 0 ∧ r.2 1 0 = σ.2 1 0) := by
  unfold fX8_lapseSessions_54 at h
  obtain ⟨v6, ev6, h⟩ := nm_some h
  clear ev6
  exact hk2 v6 σ _ h
theorem gn_fX8_lapseSessions_2 {F : Nat} : ∀ (n : Nat) (x1 : Int32) (σ : qS) (r : qS), fX8_lapseSessions_2 F n x1 σ = some r → (r.2 0 0 = σ.2 0 0 ∧ r.2 1 0 = σ.2 1 0) := by
  intro n
  induction n with
  | zero => intro x1 σ r h; exact absurd h (by rw [fX8_lapseSessions_2]; exact nofun)
  | succ n ih =>
    intro x1 σ r h
    rw [fX8_lapseSessions_2] at h
    obtain ⟨v1, ev1, h⟩ := nm_some h
    clear ev1
    rcases ite_some h with ⟨-, h⟩ | ⟨-, h⟩
    · cases h
      exact ⟨rfl, rfl⟩
    · obtain ⟨-, h⟩ := gnl_some h
      obtain ⟨-, h⟩ := inx_some h
      obtain ⟨i3, ei3, h⟩ := nm_some h
      clear ei3
      obtain ⟨-, h⟩ := gnl_some h
      obtain ⟨-, h⟩ := gnl_some h
      obtain ⟨v4, ev4, h⟩ := nm_some h
      clear ev4
      rcases ite_some h with ⟨-, h⟩ | ⟨-, h⟩
      · obtain ⟨v7, ev7, h⟩ := nm_some h
        clear ev7
        obtain ⟨-, h⟩ := gnl_some h
        obtain ⟨v8, ev8, h⟩ := nm_some h
        clear ev8
        obtain ⟨v9, ev9, h⟩ := nm_some h
        clear ev9
        obtain ⟨-, h⟩ := gnl_some h
        obtain ⟨v10, ev10, h⟩ := nm_some h
        clear ev10
        rcases ite_some h with ⟨-, h⟩ | ⟨-, h⟩
        · exact gn_fX8_lapseSessions_54 (fun a0 σ r h => ih a0 σ r h) h
        · obtain ⟨v13, s12, gs12, h⟩ := bnd2_some h
          have fs12 : (s12.2 0 0 = σ.2 0 0 ∧ s12.2 1 0 = σ.2 1 0) := gn_fX8_endSession gs12
          clear gs12
          exact n01_tr fs12 (gn_fX8_lapseSessions_54 (fun a0 σ r h => ih a0 σ r h) h)
      · exact gn_fX8_lapseSessions_54 (fun a0 σ r h => ih a0 σ r h) h
theorem gn_fX8_lapseSessions {F : Nat} {σ : qS} {r : qS} (h : fX8_lapseSessions F σ = some r) : (r.2 0 0 = σ.2 0 0 ∧ r.2 1 0 = σ.2 1 0) := by
  unfold fX8_lapseSessions at h
  exact gn_fX8_lapseSessions_2 _ _ _ _ h
theorem gn_fX8_begin {F : Nat} {σ : qS} {r : qS} (h : fX8_begin F σ = some r) : (r.2 0 0 = σ.2 0 0 ∧ r.2 1 0 = σ.2 1 0) := by
  unfold fX8_begin at h
  obtain ⟨s1, gs1, h⟩ := bnd_some h
  have fs1 : (s1.2 0 0 = σ.2 0 0 ∧ s1.2 1 0 = σ.2 1 0) := gn_fX7_copyFrom gs1
  clear gs1
  obtain ⟨v2, ev2, h⟩ := nm_some h
  clear ev2
  obtain ⟨s3, es3, h⟩ := nm_some h
  have fs3 : (s3.2 0 0 = σ.2 0 0 ∧ s3.2 1 0 = σ.2 1 0) := n01_tr fs1 (show (s3.2 0 0 = s1.2 0 0 ∧ s3.2 1 0 = s1.2 1 0) from by rw [es3]; exact ⟨rfl, rfl⟩)
  clear es3
  cases h
  exact fs3
theorem gn_fX8_tryCheck {F : Nat} {i1 : Nat} {i2 : Nat} {σ : qS} {r : Int32 × qS} (h : fX8_tryCheck F i1 i2 σ = some r) : (r.2.2 0 0 = σ.2 0 0 ∧ r.2.2 1 0 = σ.2 1 0) := by
  unfold fX8_tryCheck at h
  obtain ⟨-, h⟩ := gnl_some h
  obtain ⟨v1, ev1, h⟩ := nm_some h
  clear ev1
  obtain ⟨-, h⟩ := gnl_some h
  obtain ⟨v2, ev2, h⟩ := nm_some h
  clear ev2
  obtain ⟨v4, s3, gs3, h⟩ := bnd2_some h
  have fs3 : (s3.2 0 0 = σ.2 0 0 ∧ s3.2 1 0 = σ.2 1 0) := gn_fX7_readingRefused gs3
  clear gs3
  rcases ite_some h with ⟨-, h⟩ | ⟨-, h⟩
  · obtain ⟨-, h⟩ := gnl_some h
    obtain ⟨v6, ev6, h⟩ := nm_some h
    clear ev6
    obtain ⟨-, h⟩ := gnl_some h
    obtain ⟨v7, ev7, h⟩ := nm_some h
    clear ev7
    obtain ⟨v9, s8, gs8, h⟩ := bnd2_some h
    have fs8 : (s8.2 0 0 = σ.2 0 0 ∧ s8.2 1 0 = σ.2 1 0) := n01_tr fs3 (gn_fX7_hasVersion gs8)
    clear gs8
    rcases ite_some h with ⟨-, h⟩ | ⟨-, h⟩
    · cases h
      exact fs8
    · obtain ⟨-, h⟩ := gnl_some h
      obtain ⟨v11, ev11, h⟩ := nm_some h
      clear ev11
      obtain ⟨v13, s12, gs12, h⟩ := bnd2_some h
      have fs12 : (s12.2 0 0 = σ.2 0 0 ∧ s12.2 1 0 = σ.2 1 0) := n01_tr fs8 (gn_fX7_told gs12)
      clear gs12
      cases h
      exact fs12
  · cases h
    exact fs3
theorem gn_fX8_tryDelete_81 {F : Nat} {i1 : Nat} {i2 : Nat} {σ : qS} {r : Int32 × qS} (h : fX8_tryDelete_81 F i1 i2 σ = some r) : (r.2.2 0 0 = σ.2 0 0 ∧ r.2.2 1 0 = σ.2 1 0) := by
  unfold fX8_tryDelete_81 at h
  cases h
  exact ⟨rfl, rfl⟩
theorem gn_fX8_tryDelete_48 {F : Nat} {i1 : Nat} {i2 : Nat} {x3 : Int32} {σ : qS} {r : Int32 × qS} (h : fX8_tryDelete_48 F i1 i2 x3 σ = some r) : (r.2.2 0 0 = σ.2 0 0 ∧ r.2.2 1 0 = σ.2 1 0) := by
  unfold fX8_tryDelete_48 at h
  obtain ⟨-, h⟩ := gnl_some h
  obtain ⟨v6, ev6, h⟩ := nm_some h
  clear ev6
  obtain ⟨v8, s7, gs7, h⟩ := bnd2_some h
  have fs7 : (s7.2 0 0 = σ.2 0 0 ∧ s7.2 1 0 = σ.2 1 0) := gn_fX7_hasVersion gs7
  clear gs7
  rcases ite_some h with ⟨-, h⟩ | ⟨-, h⟩
  · cases h
    exact fs7
  · rcases ite_some h with ⟨-, h⟩ | ⟨-, h⟩
    · exact n01_tr fs7 (gn_fX8_tryDelete_81 h)
    · obtain ⟨v12, s11, gs11, h⟩ := bnd2_some h
      have fs11 : (s11.2 0 0 = σ.2 0 0 ∧ s11.2 1 0 = σ.2 1 0) := n01_tr fs7 (gn_fX7_childrenOf gs11)
      clear gs11
      rcases ite_some h with ⟨-, h⟩ | ⟨-, h⟩
      · obtain ⟨v15, s14, gs14, h⟩ := bnd2_some h
        have fs14 : (s14.2 0 0 = σ.2 0 0 ∧ s14.2 1 0 = σ.2 1 0) := n01_tr fs11 (gn_fX8_letGo gs14)
        clear gs14
        cases h
        exact fs14
      · exact n01_tr fs11 (gn_fX8_tryDelete_81 h)
theorem gn_fX8_tryDelete {F : Nat} {i1 : Nat} {i2 : Nat} {σ : qS} {r : Int32 × qS} (h : fX8_tryDelete F i1 i2 σ = some r) : (r.2.2 0 0 = σ.2 0 0 ∧ r.2.2 1 0 = σ.2 1 0) := by
  unfold fX8_tryDelete at h
  obtain ⟨-, h⟩ := gnl_some h
  obtain ⟨v1, ev1, h⟩ := nm_some h
  clear ev1
  obtain ⟨v3, s2, gs2, h⟩ := bnd2_some h
  have fs2 : (s2.2 0 0 = σ.2 0 0 ∧ s2.2 1 0 = σ.2 1 0) := gn_fX7_holds gs2
  clear gs2
  rcases ite_some h with ⟨-, h⟩ | ⟨-, h⟩
  · cases h
    exact fs2
  · rcases ite_some h with ⟨-, h⟩ | ⟨-, h⟩
    · exact n01_tr fs2 (gn_fX8_tryDelete_48 h)
    · obtain ⟨-, h⟩ := ldi_some h
      obtain ⟨-, h⟩ := gnl_some h
      obtain ⟨v17, ev17, h⟩ := nm_some h
      clear ev17
      obtain ⟨v19, s18, gs18, h⟩ := bnd2_some h
      have fs18 : (s18.2 0 0 = σ.2 0 0 ∧ s18.2 1 0 = σ.2 1 0) := n01_tr fs2 (gn_fX7_mayWrite gs18)
      clear gs18
      rcases ite_some h with ⟨-, h⟩ | ⟨-, h⟩
      · cases h
        exact fs18
      · exact n01_tr fs18 (gn_fX8_tryDelete_48 h)
theorem gn_fX8_isQuotaUsed_57 {F : Nat} {σ : qS} {r : Int32 × qS} (h : fX8_isQuotaUsed_57 F σ = some r) : (r.2.2 0 0 = σ.2 0 0 ∧ r.2.2 1 0 = σ.2 1 0) := by
  unfold fX8_isQuotaUsed_57 at h
  obtain ⟨-, h⟩ := gbl_some h
  cases h
  exact ⟨rfl, rfl⟩
theorem gn_fX8_isQuotaUsed_11 {F : Nat} : ∀ (n : Nat) (x2 : Int32) (x3 : Int32) (σ : qS) (r : Int32 × qS), fX8_isQuotaUsed_11 F n x2 x3 σ = some r → (r.2.2 0 0 = σ.2 0 0 ∧ r.2.2 1 0 = σ.2 1 0) := by
  intro n
  induction n with
  | zero => intro x2 x3 σ r h; exact absurd h (by rw [fX8_isQuotaUsed_11]; exact nofun)
  | succ n ih =>
    intro x2 x3 σ r h
    rw [fX8_isQuotaUsed_11] at h
    rcases ite_some h with ⟨-, h⟩ | ⟨-, h⟩
    · exact gn_fX8_isQuotaUsed_57 h
    · rcases ite_some h with ⟨-, h⟩ | ⟨-, h⟩
      · exact gn_fX8_isQuotaUsed_57 h
      · obtain ⟨-, h⟩ := ldi_some h
        obtain ⟨-, h⟩ := ldi_some h
        rcases ite_some h with ⟨-, h⟩ | ⟨-, h⟩
        · obtain ⟨-, h⟩ := ldi_some h
          obtain ⟨v8, ev8, h⟩ := nm_some h
          clear ev8
          exact ih _ _ _ _ h
        · obtain ⟨-, h⟩ := gbl_some h
          cases h
          exact ⟨rfl, rfl⟩
theorem gn_fX8_isQuotaUsed {F : Nat} {p1 : Int32} {σ : qS} {r : Int32 × qS} (h : fX8_isQuotaUsed F p1 σ = some r) : (r.2.2 0 0 = σ.2 0 0 ∧ r.2.2 1 0 = σ.2 1 0) := by
  unfold fX8_isQuotaUsed at h
  obtain ⟨s1, gs1, h⟩ := bnd_some h
  have fs1 : (s1.2 0 0 = σ.2 0 0 ∧ s1.2 1 0 = σ.2 1 0) := gn_fX7_countBelow gs1
  clear gs1
  exact n01_tr fs1 (gn_fX8_isQuotaUsed_11 _ _ _ _ _ h)
theorem gn_fX8_tryMake_150 {F : Nat} {i1 : Nat} {i2 : Nat} {x5 : Int32} {t2 : Int32} {σ : qS} {r : Int32 × qS} (h : fX8_tryMake_150 F i1 i2 x5 t2 σ = some r) : (r.2.2 0 0 = σ.2 0 0 ∧ r.2.2 1 0 = σ.2 1 0) := by
  unfold fX8_tryMake_150 at h
  obtain ⟨v22, ev22, h⟩ := nm_some h
  clear ev22
  obtain ⟨v23, ev23, h⟩ := nm_some h
  clear ev23
  obtain ⟨s24, gs24, h⟩ := bnd_some h
  have fs24 : (s24.2 0 0 = σ.2 0 0 ∧ s24.2 1 0 = σ.2 1 0) := gn_fX1_add gs24
  clear gs24
  obtain ⟨-, h⟩ := gnl_some h
  obtain ⟨v25, ev25, h⟩ := nm_some h
  clear ev25
  obtain ⟨s26, gs26, h⟩ := bnd_some h
  have fs26 : (s26.2 0 0 = σ.2 0 0 ∧ s26.2 1 0 = σ.2 1 0) := n01_tr fs24 (gn_fX8_record gs26)
  clear gs26
  cases h
  exact fs26
theorem gn_fX8_tryMake_76 {F : Nat} {i1 : Nat} {i2 : Nat} {x3 : Int32} {x4 : Int32} {σ : qS} {r : Int32 × qS} (h : fX8_tryMake_76 F i1 i2 x3 x4 σ = some r) : (r.2.2 0 0 = σ.2 0 0 ∧ r.2.2 1 0 = σ.2 1 0) := by
  unfold fX8_tryMake_76 at h
  obtain ⟨v13, s12, gs12, h⟩ := bnd2_some h
  have fs12 : (s12.2 0 0 = σ.2 0 0 ∧ s12.2 1 0 = σ.2 1 0) := gn_fX1_isHeld gs12
  clear gs12
  rcases ite_some h with ⟨-, h⟩ | ⟨-, h⟩
  · obtain ⟨v16, s15, gs15, h⟩ := bnd2_some h
    have fs15 : (s15.2 0 0 = σ.2 0 0 ∧ s15.2 1 0 = σ.2 1 0) := n01_tr fs12 (gn_fX8_isQuotaUsed gs15)
    clear gs15
    rcases ite_some h with ⟨-, h⟩ | ⟨-, h⟩
    · obtain ⟨v18, ev18, h⟩ := nm_some h
      clear ev18
      rcases ite_some h with ⟨-, h⟩ | ⟨-, h⟩
      · rcases ite_some h with ⟨-, h⟩ | ⟨-, h⟩
        · obtain ⟨-, h⟩ := gnl_some h
          obtain ⟨v21, ev21, h⟩ := nm_some h
          clear ev21
          exact n01_tr fs15 (gn_fX8_tryMake_150 h)
        · obtain ⟨-, h⟩ := ldi_some h
          obtain ⟨v28, ev28, h⟩ := nm_some h
          clear ev28
          exact n01_tr fs15 (gn_fX8_tryMake_150 h)
      · cases h
        exact fs15
    · cases h
      exact fs15
  · cases h
    exact fs12
theorem gn_fX8_tryMake_51 {F : Nat} {i1 : Nat} {i2 : Nat} {x3 : Int32} {t0 : Int32} {σ : qS} {r : Int32 × qS} (h : fX8_tryMake_51 F i1 i2 x3 t0 σ = some r) : (r.2.2 0 0 = σ.2 0 0 ∧ r.2.2 1 0 = σ.2 1 0) := by
  unfold fX8_tryMake_51 at h
  rcases ite_some h with ⟨-, h⟩ | ⟨-, h⟩
  · obtain ⟨-, h⟩ := gnl_some h
    obtain ⟨v29, ev29, h⟩ := nm_some h
    clear ev29
    obtain ⟨v31, s30, gs30, h⟩ := bnd2_some h
    have fs30 : (s30.2 0 0 = σ.2 0 0 ∧ s30.2 1 0 = σ.2 1 0) := gn_fX7_hasChildNamed gs30
    clear gs30
    rcases ite_some h with ⟨-, h⟩ | ⟨-, h⟩
    · exact n01_tr fs30 (gn_fX8_tryMake_76 h)
    · cases h
      exact fs30
  · exact gn_fX8_tryMake_76 h
theorem gn_fX8_tryMake {F : Nat} {i1 : Nat} {i2 : Nat} {σ : qS} {r : Int32 × qS} (h : fX8_tryMake F i1 i2 σ = some r) : (r.2.2 0 0 = σ.2 0 0 ∧ r.2.2 1 0 = σ.2 1 0) := by
  unfold fX8_tryMake at h
  obtain ⟨-, h⟩ := gnl_some h
  obtain ⟨v1, ev1, h⟩ := nm_some h
  clear ev1
  obtain ⟨v3, s2, gs2, h⟩ := bnd2_some h
  have fs2 : (s2.2 0 0 = σ.2 0 0 ∧ s2.2 1 0 = σ.2 1 0) := gn_fX7_holds gs2
  clear gs2
  rcases ite_some h with ⟨-, h⟩ | ⟨-, h⟩
  · cases h
    exact fs2
  · obtain ⟨-, h⟩ := gnl_some h
    obtain ⟨v5, ev5, h⟩ := nm_some h
    clear ev5
    obtain ⟨v7, s6, gs6, h⟩ := bnd2_some h
    have fs6 : (s6.2 0 0 = σ.2 0 0 ∧ s6.2 1 0 = σ.2 1 0) := n01_tr fs2 (gn_fX7_mayWrite gs6)
    clear gs6
    rcases ite_some h with ⟨-, h⟩ | ⟨-, h⟩
    · cases h
      exact fs6
    · obtain ⟨-, h⟩ := gnl_some h
      obtain ⟨v9, ev9, h⟩ := nm_some h
      clear ev9
      rcases ite_some h with ⟨-, h⟩ | ⟨-, h⟩
      · exact n01_tr fs6 (gn_fX8_tryMake_51 h)
      · exact n01_tr fs6 (gn_fX8_tryMake_51 h)
theorem gn_fX8_tryRights_71 {F : Nat} {i1 : Nat} {i2 : Nat} {t0 : Int32} {σ : qS} {r : Int32 × qS} (h : fX8_tryRights_71 F i1 i2 t0 σ = some r) : (r.2.2 0 0 = σ.2 0 0 ∧ r.2.2 1 0 = σ.2 1 0) := by
  unfold fX8_tryRights_71 at h
  cases h
  exact ⟨rfl, rfl⟩
theorem gn_fX8_tryRights {F : Nat} {i1 : Nat} {i2 : Nat} {σ : qS} {r : Int32 × qS} (h : fX8_tryRights F i1 i2 σ = some r) : (r.2.2 0 0 = σ.2 0 0 ∧ r.2.2 1 0 = σ.2 1 0) := by
  unfold fX8_tryRights at h
  obtain ⟨-, h⟩ := gnl_some h
  obtain ⟨v1, ev1, h⟩ := nm_some h
  clear ev1
  obtain ⟨v3, s2, gs2, h⟩ := bnd2_some h
  have fs2 : (s2.2 0 0 = σ.2 0 0 ∧ s2.2 1 0 = σ.2 1 0) := gn_fX7_holds gs2
  clear gs2
  rcases ite_some h with ⟨-, h⟩ | ⟨-, h⟩
  · cases h
    exact fs2
  · obtain ⟨-, h⟩ := gnl_some h
    obtain ⟨v5, ev5, h⟩ := nm_some h
    clear ev5
    obtain ⟨v7, s6, gs6, h⟩ := bnd2_some h
    have fs6 : (s6.2 0 0 = σ.2 0 0 ∧ s6.2 1 0 = σ.2 1 0) := n01_tr fs2 (gn_fX7_mayWrite gs6)
    clear gs6
    rcases ite_some h with ⟨-, h⟩ | ⟨-, h⟩
    · cases h
      exact fs6
    · obtain ⟨-, h⟩ := gnl_some h
      obtain ⟨v9, ev9, h⟩ := nm_some h
      clear ev9
      obtain ⟨-, h⟩ := gnl_some h
      obtain ⟨v10, ev10, h⟩ := nm_some h
      clear ev10
      obtain ⟨s11, gs11, h⟩ := bnd_some h
      have fs11 : (s11.2 0 0 = σ.2 0 0 ∧ s11.2 1 0 = σ.2 1 0) := n01_tr fs6 (gn_fX8_record gs11)
      clear gs11
      obtain ⟨-, h⟩ := gnl_some h
      obtain ⟨v12, ev12, h⟩ := nm_some h
      clear ev12
      rcases ite_some h with ⟨-, h⟩ | ⟨-, h⟩
      · obtain ⟨v15, s14, gs14, h⟩ := bnd2_some h
        have fs14 : (s14.2 0 0 = σ.2 0 0 ∧ s14.2 1 0 = σ.2 1 0) := n01_tr fs11 (gn_fX7_belowOf gs14)
        clear gs14
        obtain ⟨v16, ev16, h⟩ := nm_some h
        clear ev16
        exact n01_tr fs14 (gn_fX8_tryRights_71 h)
      · exact n01_tr fs11 (gn_fX8_tryRights_71 h)
theorem gn_fX8_trySet {F : Nat} {i1 : Nat} {i2 : Nat} {σ : qS} {r : Int32 × qS} (h : fX8_trySet F i1 i2 σ = some r) : (r.2.2 0 0 = σ.2 0 0 ∧ r.2.2 1 0 = σ.2 1 0) := by
  unfold fX8_trySet at h
  obtain ⟨-, h⟩ := gnl_some h
  obtain ⟨v1, ev1, h⟩ := nm_some h
  clear ev1
  obtain ⟨v3, s2, gs2, h⟩ := bnd2_some h
  have fs2 : (s2.2 0 0 = σ.2 0 0 ∧ s2.2 1 0 = σ.2 1 0) := gn_fX7_holds gs2
  clear gs2
  rcases ite_some h with ⟨-, h⟩ | ⟨-, h⟩
  · cases h
    exact fs2
  · obtain ⟨-, h⟩ := gnl_some h
    obtain ⟨v5, ev5, h⟩ := nm_some h
    clear ev5
    obtain ⟨v7, s6, gs6, h⟩ := bnd2_some h
    have fs6 : (s6.2 0 0 = σ.2 0 0 ∧ s6.2 1 0 = σ.2 1 0) := n01_tr fs2 (gn_fX7_mayWrite gs6)
    clear gs6
    rcases ite_some h with ⟨-, h⟩ | ⟨-, h⟩
    · cases h
      exact fs6
    · obtain ⟨-, h⟩ := gnl_some h
      obtain ⟨v9, ev9, h⟩ := nm_some h
      clear ev9
      obtain ⟨v11, s10, gs10, h⟩ := bnd2_some h
      have fs10 : (s10.2 0 0 = σ.2 0 0 ∧ s10.2 1 0 = σ.2 1 0) := n01_tr fs6 (gn_fX7_hasVersion gs10)
      clear gs10
      rcases ite_some h with ⟨-, h⟩ | ⟨-, h⟩
      · cases h
        exact fs10
      · obtain ⟨-, h⟩ := gnl_some h
        obtain ⟨v13, ev13, h⟩ := nm_some h
        clear ev13
        obtain ⟨s14, gs14, h⟩ := bnd_some h
        have fs14 : (s14.2 0 0 = σ.2 0 0 ∧ s14.2 1 0 = σ.2 1 0) := n01_tr fs10 (gn_fX8_record gs14)
        clear gs14
        obtain ⟨-, h⟩ := ldi_some h
        cases h
        exact fs14
theorem gn_fX8_perform_72 {F : Nat} {i1 : Nat} {i2 : Nat} {σ : qS} {r : Int32 × qS} (h : fX8_perform_72 F i1 i2 σ = some r) : (r.2.2 0 0 = σ.2 0 0 ∧ r.2.2 1 0 = σ.2 1 0) := by
  unfold fX8_perform_72 at h
  obtain ⟨v13, s12, gs12, h⟩ := bnd2_some h
  have fs12 : (s12.2 0 0 = σ.2 0 0 ∧ s12.2 1 0 = σ.2 1 0) := gn_fX8_tryRights gs12
  clear gs12
  cases h
  exact fs12
theorem gn_fX8_perform {F : Nat} {i1 : Nat} {i2 : Nat} {σ : qS} {r : Int32 × qS} (h : fX8_perform F i1 i2 σ = some r) : (r.2.2 0 0 = σ.2 0 0 ∧ r.2.2 1 0 = σ.2 1 0) := by
  unfold fX8_perform at h
  obtain ⟨-, h⟩ := gnl_some h
  obtain ⟨v1, ev1, h⟩ := nm_some h
  clear ev1
  rcases ite_some h with ⟨-, h⟩ | ⟨-, h⟩
  · obtain ⟨v4, s3, gs3, h⟩ := bnd2_some h
    have fs3 : (s3.2 0 0 = σ.2 0 0 ∧ s3.2 1 0 = σ.2 1 0) := gn_fX8_tryMake gs3
    clear gs3
    cases h
    exact fs3
  · rcases ite_some h with ⟨-, h⟩ | ⟨-, h⟩
    · obtain ⟨v7, s6, gs6, h⟩ := bnd2_some h
      have fs6 : (s6.2 0 0 = σ.2 0 0 ∧ s6.2 1 0 = σ.2 1 0) := gn_fX8_trySet gs6
      clear gs6
      cases h
      exact fs6
    · rcases ite_some h with ⟨-, h⟩ | ⟨-, h⟩
      · obtain ⟨v10, s9, gs9, h⟩ := bnd2_some h
        have fs9 : (s9.2 0 0 = σ.2 0 0 ∧ s9.2 1 0 = σ.2 1 0) := gn_fX8_tryDelete gs9
        clear gs9
        cases h
        exact fs9
      · rcases ite_some h with ⟨-, h⟩ | ⟨-, h⟩
        · exact gn_fX8_perform_72 h
        · rcases ite_some h with ⟨-, h⟩ | ⟨-, h⟩
          · exact gn_fX8_perform_72 h
          · rcases ite_some h with ⟨-, h⟩ | ⟨-, h⟩
            · obtain ⟨v17, s16, gs16, h⟩ := bnd2_some h
              have fs16 : (s16.2 0 0 = σ.2 0 0 ∧ s16.2 1 0 = σ.2 1 0) := gn_fX8_tryCheck gs16
              clear gs16
              cases h
              exact fs16
            · exact gn_fX8_perform_72 h
theorem gn_fX8_undo {F : Nat} {σ : qS} {r : qS} (h : fX8_undo F σ = some r) : (r.2 0 0 = σ.2 0 0 ∧ r.2 1 0 = σ.2 1 0) := by
  unfold fX8_undo at h
  obtain ⟨s1, gs1, h⟩ := bnd_some h
  have fs1 : (s1.2 0 0 = σ.2 0 0 ∧ s1.2 1 0 = σ.2 1 0) := gn_fX7_copyFrom gs1
  clear gs1
  obtain ⟨v2, ev2, h⟩ := nm_some h
  clear ev2
  obtain ⟨s3, es3, h⟩ := nm_some h
  have fs3 : (s3.2 0 0 = σ.2 0 0 ∧ s3.2 1 0 = σ.2 1 0) := n01_tr fs1 (show (s3.2 0 0 = s1.2 0 0 ∧ s3.2 1 0 = s1.2 1 0) from by rw [es3]; exact ⟨rfl, rfl⟩)
  clear es3
  obtain ⟨-, h⟩ := inx_some h
  obtain ⟨i4, ei4, h⟩ := nm_some h
  clear ei4
  obtain ⟨-, h⟩ := gnl_some h
  obtain ⟨v5, ev5, h⟩ := nm_some h
  clear ev5
  obtain ⟨s6, es6, h⟩ := nm_some h
  have fs6 : (s6.2 0 0 = σ.2 0 0 ∧ s6.2 1 0 = σ.2 1 0) := n01_tr fs3 (show (s6.2 0 0 = s3.2 0 0 ∧ s6.2 1 0 = s3.2 1 0) from by rw [es6]; exact ⟨rfl, rfl⟩)
  clear es6
  cases h
  exact fs6
theorem gn_fX8_settle_47 {F : Nat} {i1 : Nat} {t0 : Int32} {σ : qS} {r : Int32 × qS} (h : fX8_settle_47 F i1 t0 σ = some r) : (r.2.2 0 0 = σ.2 0 0 ∧ r.2.2 1 0 = σ.2 1 0) := by
  unfold fX8_settle_47 at h
  obtain ⟨-, h⟩ := gbl_some h
  cases h
  exact ⟨rfl, rfl⟩
theorem gn_fX8_settle {F : Nat} {i1 : Nat} {σ : qS} {r : Int32 × qS} (h : fX8_settle F i1 σ = some r) : (r.2.2 0 0 = σ.2 0 0 ∧ r.2.2 1 0 = σ.2 1 0) := by
  unfold fX8_settle at h
  obtain ⟨v1, ev1, h⟩ := nm_some h
  clear ev1
  obtain ⟨s2, es2, h⟩ := nm_some h
  have fs2 : (s2.2 0 0 = σ.2 0 0 ∧ s2.2 1 0 = σ.2 1 0) := show (s2.2 0 0 = σ.2 0 0 ∧ s2.2 1 0 = σ.2 1 0) from by rw [es2]; exact ⟨rfl, rfl⟩
  clear es2
  rcases ite_some h with ⟨-, h⟩ | ⟨-, h⟩
  · obtain ⟨s10, gs10, h⟩ := bnd_some h
    have fs10 : (s10.2 0 0 = σ.2 0 0 ∧ s10.2 1 0 = σ.2 1 0) := n01_tr fs2 (gn_fX8_undo gs10)
    clear gs10
    obtain ⟨-, h⟩ := gbl_some h
    cases h
    exact fs10
  · obtain ⟨s4, gs4, h⟩ := bnd_some h
    have fs4 : (s4.2 0 0 = σ.2 0 0 ∧ s4.2 1 0 = σ.2 1 0) := n01_tr fs2 (gn_fX8_commit gs4)
    clear gs4
    obtain ⟨-, h⟩ := gnl_some h
    obtain ⟨i5, ei5, h⟩ := nm_some h
    clear ei5
    obtain ⟨v6, ev6, h⟩ := nm_some h
    clear ev6
    obtain ⟨v8, s7, gs7, h⟩ := bnd2_some h
    have fs7 : (s7.2 0 0 = σ.2 0 0 ∧ s7.2 1 0 = σ.2 1 0) := n01_tr fs4 (gn_fX8_catchUp gs7)
    clear gs7
    rcases ite_some h with ⟨-, h⟩ | ⟨-, h⟩
    · exact n01_tr fs7 (gn_fX8_settle_47 h)
    · exact n01_tr fs7 (gn_fX8_settle_47 h)
theorem gn_fX8_submit_51 {F : Nat} {i1 : Nat} {i2 : Nat} {t0 : Int32} {σ : qS} {r : Int32 × qS} (h : fX8_submit_51 F i1 i2 t0 σ = some r) : (r.2.2 0 0 = σ.2 0 0 ∧ r.2.2 1 0 = σ.2 1 0) := by
  unfold fX8_submit_51 at h
  cases h
  exact ⟨rfl, rfl⟩
theorem gn_fX8_submit {F : Nat} {i1 : Nat} {i2 : Nat} {σ : qS} {r : Int32 × qS} (h : fX8_submit F i1 i2 σ = some r) : (r.2.2 0 0 = σ.2 0 0 ∧ r.2.2 1 0 = σ.2 1 0) := by
  unfold fX8_submit at h
  obtain ⟨-, h⟩ := gnl_some h
  obtain ⟨v1, ev1, h⟩ := nm_some h
  clear ev1
  rcases ite_some h with ⟨-, h⟩ | ⟨-, h⟩
  · obtain ⟨s3, gs3, h⟩ := bnd_some h
    have fs3 : (s3.2 0 0 = σ.2 0 0 ∧ s3.2 1 0 = σ.2 1 0) := gn_fX8_begin gs3
    clear gs3
    obtain ⟨v5, s4, gs4, h⟩ := bnd2_some h
    have fs4 : (s4.2 0 0 = σ.2 0 0 ∧ s4.2 1 0 = σ.2 1 0) := n01_tr fs3 (gn_fX8_perform gs4)
    clear gs4
    rcases ite_some h with ⟨-, h⟩ | ⟨-, h⟩
    · obtain ⟨v8, s7, gs7, h⟩ := bnd2_some h
      have fs7 : (s7.2 0 0 = σ.2 0 0 ∧ s7.2 1 0 = σ.2 1 0) := n01_tr fs4 (gn_fX8_settle gs7)
      clear gs7
      rcases ite_some h with ⟨-, h⟩ | ⟨-, h⟩
      · exact n01_tr fs7 (gn_fX8_submit_51 h)
      · exact n01_tr fs7 (gn_fX8_submit_51 h)
    · cases h
      exact fs4
  · obtain ⟨-, h⟩ := gnl_some h
    obtain ⟨v10, ev10, h⟩ := nm_some h
    clear ev10
    obtain ⟨v11, ev11, h⟩ := nm_some h
    clear ev11
    obtain ⟨-, h⟩ := gnl_some h
    obtain ⟨s12, es12, h⟩ := nm_some h
    have fs12 : (s12.2 0 0 = σ.2 0 0 ∧ s12.2 1 0 = σ.2 1 0) := show (s12.2 0 0 = σ.2 0 0 ∧ s12.2 1 0 = σ.2 1 0) from by rw [es12]; exact ⟨rfl, rfl⟩
    clear es12
    cases h
    exact fs12
theorem gn_fX8_performAll_77 {F : Nat} {i1 : Nat} {x2 : Int32} {σ : qS} {r : Int32 × qS} (h : fX8_performAll_77 F i1 x2 σ = some r) : (r.2.2 0 0 = σ.2 0 0 ∧ r.2.2 1 0 = σ.2 1 0) := by
  unfold fX8_performAll_77 at h
  cases h
  exact ⟨rfl, rfl⟩
theorem gn_fX8_performAll_71 {F : Nat} {i1 : Nat} {k16 : Int32 → Int32 → qS → Option (Int32 × qS)} {x2 : Int32} {x3 : Int32} {σ : qS} {r : Int32 × qS} (hk16 : ∀ a0 a1 σ r, k16 a0 a1 σ = some r → (r.2.2 0 0 = σ.2 0 0 ∧ r.2.2 1 0 = σ.2 1 0)) (h : fX8_performAll_71 F i1 k16 x2 x3 σ = some r) : (r.2.2 0 0 = σ.2 0 0 ∧ r.2.2 1 0 = σ.2 1 0) := by
  unfold fX8_performAll_71 at h
  obtain ⟨v13, ev13, h⟩ := nm_some h
  clear ev13
  exact hk16 x2 v13 σ _ h
theorem gn_fX8_performAll_55 {F : Nat} {i1 : Nat} {k16 : Int32 → Int32 → qS → Option (Int32 × qS)} {x2 : Int32} {x3 : Int32} {t1 : Int32} {t2 : Int32} {σ : qS} {r : Int32 × qS} (hk16 : ∀ a0 a1 σ r, k16 a0 a1 σ = some r → (r.2.2 0 0 = σ.2 0 0 ∧ r.2.2 1 0 = σ.2 1 0)) (h : fX8_performAll_55 F i1 k16 x2 x3 t1 t2 σ = some r) : (r.2.2 0 0 = σ.2 0 0 ∧ r.2.2 1 0 = σ.2 1 0) := by
  unfold fX8_performAll_55 at h
  obtain ⟨-, h⟩ := gnl_some h
  obtain ⟨-, h⟩ := inx_some h
  obtain ⟨s11, es11, h⟩ := nm_some h
  have fs11 : (s11.2 0 0 = σ.2 0 0 ∧ s11.2 1 0 = σ.2 1 0) := show (s11.2 0 0 = σ.2 0 0 ∧ s11.2 1 0 = σ.2 1 0) from by rw [es11]; exact ⟨rfl, rfl⟩
  clear es11
  rcases ite_some h with ⟨-, h⟩ | ⟨-, h⟩
  · exact n01_tr fs11 (gn_fX8_performAll_71 hk16 h)
  · obtain ⟨-, h⟩ := gnl_some h
    obtain ⟨-, h⟩ := gnl_some h
    obtain ⟨-, h⟩ := ldi_some h
    rcases ite_some h with ⟨-, h⟩ | ⟨-, h⟩
    · exact n01_tr fs11 (gn_fX8_performAll_71 hk16 h)
    · exact n01_tr fs11 (gn_fX8_performAll_71 hk16 h)
theorem gn_fX8_performAll_16 {F : Nat} {i1 : Nat} : ∀ (n : Nat) (x2 : Int32) (x3 : Int32) (σ : qS) (r : Int32 × qS), fX8_performAll_16 F i1 n x2 x3 σ = some r → (r.2.2 0 0 = σ.2 0 0 ∧ r.2.2 1 0 = σ.2 1 0) := by
  intro n
  induction n with
  | zero => intro x2 x3 σ r h; exact absurd h (by rw [fX8_performAll_16]; exact nofun)
  | succ n ih =>
    intro x2 x3 σ r h
    rw [fX8_performAll_16] at h
    obtain ⟨-, h⟩ := gnl_some h
    obtain ⟨v4, ev4, h⟩ := nm_some h
    clear ev4
    rcases ite_some h with ⟨-, h⟩ | ⟨-, h⟩
    · exact gn_fX8_performAll_77 h
    · rcases ite_some h with ⟨-, h⟩ | ⟨-, h⟩
      · exact gn_fX8_performAll_77 h
      · obtain ⟨-, h⟩ := gnl_some h
        rcases ite_some h with ⟨-, h⟩ | ⟨-, h⟩
        · obtain ⟨-, h⟩ := gnl_some h
          obtain ⟨-, h⟩ := gnl_some h
          obtain ⟨-, h⟩ := inx_some h
          obtain ⟨i8, ei8, h⟩ := nm_some h
          clear ei8
          obtain ⟨v10, s9, gs9, h⟩ := bnd2_some h
          have fs9 : (s9.2 0 0 = σ.2 0 0 ∧ s9.2 1 0 = σ.2 1 0) := gn_fX8_perform gs9
          clear gs9
          exact n01_tr fs9 (gn_fX8_performAll_55 (fun a0 a1 σ r h => ih a0 a1 σ r h) h)
        · exact gn_fX8_performAll_55 (fun a0 a1 σ r h => ih a0 a1 σ r h) h
theorem gn_fX8_performAll {F : Nat} {i1 : Nat} {σ : qS} {r : Int32 × qS} (h : fX8_performAll F i1 σ = some r) : (r.2.2 0 0 = σ.2 0 0 ∧ r.2.2 1 0 = σ.2 1 0) := by
  unfold fX8_performAll at h
  obtain ⟨s1, gs1, h⟩ := bnd_some h
  have fs1 : (s1.2 0 0 = σ.2 0 0 ∧ s1.2 1 0 = σ.2 1 0) := gn_fX8_begin gs1
  clear gs1
  obtain ⟨-, h⟩ := gnl_some h
  obtain ⟨v2, ev2, h⟩ := nm_some h
  clear ev2
  obtain ⟨-, h⟩ := gnl_some h
  obtain ⟨s3, es3, h⟩ := nm_some h
  have fs3 : (s3.2 0 0 = σ.2 0 0 ∧ s3.2 1 0 = σ.2 1 0) := n01_tr fs1 (show (s3.2 0 0 = s1.2 0 0 ∧ s3.2 1 0 = s1.2 1 0) from by rw [es3]; exact ⟨rfl, rfl⟩)
  clear es3
  exact n01_tr fs3 (gn_fX8_performAll_16 _ _ _ _ _ h)
theorem gn_fX8_lose_10 {F : Nat} {t1 : Int32} {σ : qS} {r : qS} (h : fX8_lose_10 F t1 σ = some r) : (r.2 0 0 = σ.2 0 0 ∧ r.2 1 0 = σ.2 1 0) := by
  unfold fX8_lose_10 at h
  obtain ⟨s2, es2, h⟩ := nm_some h
  have fs2 : (s2.2 0 0 = σ.2 0 0 ∧ s2.2 1 0 = σ.2 1 0) := show (s2.2 0 0 = σ.2 0 0 ∧ s2.2 1 0 = σ.2 1 0) from by rw [es2]; exact ⟨rfl, rfl⟩
  clear es2
  cases h
  exact fs2
theorem gn_fX8_lose {F : Nat} {p1 : Int32} {σ : qS} {r : qS} (h : fX8_lose F p1 σ = some r) : (r.2 0 0 = σ.2 0 0 ∧ r.2 1 0 = σ.2 1 0) := by
  unfold fX8_lose at h
  rcases ite_some h with ⟨-, h⟩ | ⟨-, h⟩
  · exact gn_fX8_lose_10 h
  · exact gn_fX8_lose_10 h
theorem gn_fX8_believers_20 {F : Nat} {t0 : Int32} {σ : qS} {r : Int32 × qS} (h : fX8_believers_20 F t0 σ = some r) : (r.2.2 0 0 = σ.2 0 0 ∧ r.2.2 1 0 = σ.2 1 0) := by
  unfold fX8_believers_20 at h
  cases h
  exact ⟨rfl, rfl⟩
theorem gn_fX8_believers {F : Nat} {p1 : Int32} {σ : qS} {r : Int32 × qS} (h : fX8_believers F p1 σ = some r) : (r.2.2 0 0 = σ.2 0 0 ∧ r.2.2 1 0 = σ.2 1 0) := by
  unfold fX8_believers at h
  obtain ⟨v2, s1, gs1, h⟩ := bnd2_some h
  have fs1 : (s1.2 0 0 = σ.2 0 0 ∧ s1.2 1 0 = σ.2 1 0) := gn_fX8_isWithin gs1
  clear gs1
  rcases ite_some h with ⟨-, h⟩ | ⟨-, h⟩
  · exact n01_tr fs1 (gn_fX8_believers_20 h)
  · obtain ⟨-, h⟩ := ldi_some h
    exact n01_tr fs1 (gn_fX8_believers_20 h)
theorem gn_fX8_stored {F : Nat} {σ : qS} {r : Int32 × qS} (h : fX8_stored F σ = some r) : (r.2.2 0 0 = σ.2 0 0 ∧ r.2.2 1 0 = σ.2 1 0) := by
  unfold fX8_stored at h
  obtain ⟨v1, ev1, h⟩ := nm_some h
  clear ev1
  cases h
  exact ⟨rfl, rfl⟩
theorem gn_fX8_snapshot {F : Nat} {σ : qS} {r : Int32 × qS} (h : fX8_snapshot F σ = some r) : (r.2.2 0 0 = σ.2 0 0 ∧ r.2.2 1 0 = σ.2 1 0) := by
  unfold fX8_snapshot at h
  obtain ⟨s1, gs1, h⟩ := bnd_some h
  have fs1 : (s1.2 0 0 = σ.2 0 0 ∧ s1.2 1 0 = σ.2 1 0) := gn_fX7_copyFrom gs1
  clear gs1
  obtain ⟨-, h⟩ := gbl_some h
  obtain ⟨s2, es2, h⟩ := nm_some h
  have fs2 : (s2.2 0 0 = σ.2 0 0 ∧ s2.2 1 0 = σ.2 1 0) := n01_tr fs1 (show (s2.2 0 0 = s1.2 0 0 ∧ s2.2 1 0 = s1.2 1 0) from by rw [es2]; exact ⟨rfl, rfl⟩)
  clear es2
  obtain ⟨v4, s3, gs3, h⟩ := bnd2_some h
  have fs3 : (s3.2 0 0 = σ.2 0 0 ∧ s3.2 1 0 = σ.2 1 0) := n01_tr fs2 (gn_fX7_belowOf gs3)
  clear gs3
  obtain ⟨v5, ev5, h⟩ := nm_some h
  clear ev5
  cases h
  exact fs3
theorem gn_fX8_changes {F : Nat} {σ : qS} {r : Int32 × qS} (h : fX8_changes F σ = some r) : (r.2.2 0 0 = σ.2 0 0 ∧ r.2.2 1 0 = σ.2 1 0) := by
  unfold fX8_changes at h
  obtain ⟨v1, ev1, h⟩ := nm_some h
  clear ev1
  cases h
  exact ⟨rfl, rfl⟩
theorem gn_fX8_knownServer_9 {F : Nat} {σ : qS} {r : Nat × Nat × qS} (h : fX8_knownServer_9 F σ = some r) : (r.2.2.2 0 0 = σ.2 0 0 ∧ r.2.2.2 1 0 = σ.2 1 0) := by
  unfold fX8_knownServer_9 at h
  cases h
  exact ⟨rfl, rfl⟩
theorem gn_fX8_knownServer {F : Nat} {p1 : Int32} {σ : qS} {r : Nat × Nat × qS} (h : fX8_knownServer F p1 σ = some r) : (r.2.2.2 0 0 = σ.2 0 0 ∧ r.2.2.2 1 0 = σ.2 1 0) := by
  unfold fX8_knownServer at h
  rcases ite_some h with ⟨-, h⟩ | ⟨-, h⟩
  · exact gn_fX8_knownServer_9 h
  · rcases ite_some h with ⟨-, h⟩ | ⟨-, h⟩
    · obtain ⟨-, h⟩ := inx_some h
      obtain ⟨i3, ei3, h⟩ := nm_some h
      clear ei3
      cases h
      exact ⟨rfl, rfl⟩
    · exact gn_fX8_knownServer_9 h
theorem gn_fX8_known_15 {F : Nat} {σ : qS} {r : Nat × Nat × qS} (h : fX8_known_15 F σ = some r) : (r.2.2.2 0 0 = σ.2 0 0 ∧ r.2.2.2 1 0 = σ.2 1 0) := by
  unfold fX8_known_15 at h
  cases h
  exact ⟨rfl, rfl⟩
theorem gn_fX8_known {F : Nat} {p1 : Int32} {σ : qS} {r : Nat × Nat × qS} (h : fX8_known F p1 σ = some r) : (r.2.2.2 0 0 = σ.2 0 0 ∧ r.2.2.2 1 0 = σ.2 1 0) := by
  unfold fX8_known at h
  rcases ite_some h with ⟨-, h⟩ | ⟨-, h⟩
  · exact gn_fX8_known_15 h
  · obtain ⟨v2, ev2, h⟩ := nm_some h
    clear ev2
    rcases ite_some h with ⟨-, h⟩ | ⟨-, h⟩
    · obtain ⟨-, h⟩ := gnl_some h
      obtain ⟨-, h⟩ := inx_some h
      obtain ⟨i4, ei4, h⟩ := nm_some h
      clear ei4
      obtain ⟨-, h⟩ := gnl_some h
      cases h
      exact ⟨rfl, rfl⟩
    · exact gn_fX8_known_15 h
theorem gn_fX8_mustLive {F : Nat} {i1 : Nat} {σ : qS} {r : Int32 × Nat × qS} (h : fX8_mustLive F i1 σ = some r) : (r.2.2.2 0 0 = σ.2 0 0 ∧ r.2.2.2 1 0 = σ.2 1 0) := by
  unfold fX8_mustLive at h
  obtain ⟨-, h⟩ := gnl_some h
  obtain ⟨v1, ev1, h⟩ := nm_some h
  clear ev1
  rcases ite_some h with ⟨-, h⟩ | ⟨-, h⟩
  · cases h
    exact ⟨rfl, rfl⟩
  · obtain ⟨s3, gs3, h⟩ := bnd_some h
    have fs3 : (s3.2 0 0 = σ.2 0 0 ∧ s3.2 1 0 = σ.2 1 0) := gn_fX8_forgetLocks gs3
    clear gs3
    cases h
    exact fs3
theorem gn_fX8_close {F : Nat} {p1 : Int32} {σ : qS} {r : Int32 × Nat × qS} (h : fX8_close F p1 σ = some r) : (r.2.2.2 0 0 = σ.2 0 0 ∧ r.2.2.2 1 0 = σ.2 1 0) := by
  unfold fX8_close at h
  obtain ⟨i2, w1, s1, gs1, h3, h4⟩ := bnd3_some h
  have fs1 : (s1.2 0 0 = σ.2 0 0 ∧ s1.2 1 0 = σ.2 1 0) := gn_fX8_known gs1
  by_cases c9 : w1 = 0
  · replace h := h3 c9
    obtain ⟨w0, w1, s3, gs3, h3, h4⟩ := bnd3_some h
    have fs3 : (s3.2 0 0 = σ.2 0 0 ∧ s3.2 1 0 = σ.2 1 0) := n01_tr fs1 (gn_fX8_mustLive gs3)
    by_cases c9 : w1 = 0
    · replace h := h3 c9
      obtain ⟨s4, gs4, h⟩ := bnd_some h
      have fs4 : (s4.2 0 0 = σ.2 0 0 ∧ s4.2 1 0 = σ.2 1 0) := n01_tr fs3 (gn_fX8_forgetLocks gs4)
      clear gs4
      obtain ⟨v6, s5, gs5, h⟩ := bnd2_some h
      have fs5 : (s5.2 0 0 = σ.2 0 0 ∧ s5.2 1 0 = σ.2 1 0) := n01_tr fs4 (gn_fX8_endSession gs5)
      clear gs5
      cases h
      exact fs5
    · replace h := h4 c9
      cases h
      exact fs3
  · replace h := h4 c9
    cases h
    exact fs1
theorem gn_fX8_wake {F : Nat} {i1 : Nat} {σ : qS} {r : Int32 × Nat × qS} (h : fX8_wake F i1 σ = some r) : (r.2.2.2 0 0 = σ.2 0 0 ∧ r.2.2.2 1 0 = σ.2 1 0) := by
  unfold fX8_wake at h
  obtain ⟨w0, w1, s1, gs1, h3, h4⟩ := bnd3_some h
  have fs1 : (s1.2 0 0 = σ.2 0 0 ∧ s1.2 1 0 = σ.2 1 0) := gn_fX8_mustLive gs1
  by_cases c9 : w1 = 0
  · replace h := h3 c9
    obtain ⟨v2, ev2, h⟩ := nm_some h
    clear ev2
    obtain ⟨-, h⟩ := gnl_some h
    obtain ⟨s3, es3, h⟩ := nm_some h
    have fs3 : (s3.2 0 0 = σ.2 0 0 ∧ s3.2 1 0 = σ.2 1 0) := n01_tr fs1 (show (s3.2 0 0 = s1.2 0 0 ∧ s3.2 1 0 = s1.2 1 0) from by rw [es3]; exact ⟨rfl, rfl⟩)
    clear es3
    cases h
    exact fs3
  · replace h := h4 c9
    cases h
    exact fs1
theorem gn_fX8_ping {F : Nat} {p1 : Int32} {σ : qS} {r : Int32 × Nat × qS} (h : fX8_ping F p1 σ = some r) : (r.2.2.2 0 0 = σ.2 0 0 ∧ r.2.2.2 1 0 = σ.2 1 0) := by
  unfold fX8_ping at h
  obtain ⟨i2, w1, s1, gs1, h3, h4⟩ := bnd3_some h
  have fs1 : (s1.2 0 0 = σ.2 0 0 ∧ s1.2 1 0 = σ.2 1 0) := gn_fX8_known gs1
  by_cases c9 : w1 = 0
  · replace h := h3 c9
    obtain ⟨w0, w1, s3, gs3, h3, h4⟩ := bnd3_some h
    have fs3 : (s3.2 0 0 = σ.2 0 0 ∧ s3.2 1 0 = σ.2 1 0) := n01_tr fs1 (gn_fX8_wake gs3)
    by_cases c9 : w1 = 0
    · replace h := h3 c9
      obtain ⟨-, h⟩ := gnl_some h
      obtain ⟨i4, ei4, h⟩ := nm_some h
      clear ei4
      obtain ⟨-, h⟩ := gnl_some h
      obtain ⟨v5, ev5, h⟩ := nm_some h
      clear ev5
      cases h
      exact fs3
    · replace h := h4 c9
      cases h
      exact fs3
  · replace h := h4 c9
    cases h
    exact fs1
theorem gn_fX8_move {F : Nat} {p1 : Int32} {p2 : Int32} {σ : qS} {r : Int32 × Nat × qS} (h : fX8_move F p1 p2 σ = some r) : (r.2.2.2 0 0 = σ.2 0 0 ∧ r.2.2.2 1 0 = σ.2 1 0) := by
  unfold fX8_move at h
  obtain ⟨i2, w1, s1, gs1, h3, h4⟩ := bnd3_some h
  have fs1 : (s1.2 0 0 = σ.2 0 0 ∧ s1.2 1 0 = σ.2 1 0) := gn_fX8_known gs1
  by_cases c9 : w1 = 0
  · replace h := h3 c9
    obtain ⟨i4, w1, s3, gs3, h3, h4⟩ := bnd3_some h
    have fs3 : (s3.2 0 0 = σ.2 0 0 ∧ s3.2 1 0 = σ.2 1 0) := n01_tr fs1 (gn_fX8_knownServer gs3)
    by_cases c9 : w1 = 0
    · replace h := h3 c9
      obtain ⟨w0, w1, s5, gs5, h3, h4⟩ := bnd3_some h
      have fs5 : (s5.2 0 0 = σ.2 0 0 ∧ s5.2 1 0 = σ.2 1 0) := n01_tr fs3 (gn_fX8_wake gs5)
      by_cases c9 : w1 = 0
      · replace h := h3 c9
        obtain ⟨-, h⟩ := gnl_some h
        obtain ⟨v6, ev6, h⟩ := nm_some h
        clear ev6
        obtain ⟨-, h⟩ := gnl_some h
        obtain ⟨i7, ei7, h⟩ := nm_some h
        clear ei7
        obtain ⟨-, h⟩ := gnl_some h
        obtain ⟨v8, ev8, h⟩ := nm_some h
        clear ev8
        rcases ite_some h with ⟨-, h⟩ | ⟨-, h⟩
        · obtain ⟨-, h⟩ := gnl_some h
          obtain ⟨s10, es10, h⟩ := nm_some h
          have fs10 : (s10.2 0 0 = σ.2 0 0 ∧ s10.2 1 0 = σ.2 1 0) := n01_tr fs5 (show (s10.2 0 0 = s5.2 0 0 ∧ s10.2 1 0 = s5.2 1 0) from by rw [es10]; exact ⟨rfl, rfl⟩)
          clear es10
          obtain ⟨-, h⟩ := gbl_some h
          cases h
          exact fs10
        · obtain ⟨-, h⟩ := gbl_some h
          cases h
          exact fs5
      · replace h := h4 c9
        cases h
        exact fs5
    · replace h := h4 c9
      cases h
      exact fs3
  · replace h := h4 c9
    cases h
    exact fs1
theorem gn_fX8_sync {F : Nat} {p1 : Int32} {σ : qS} {r : Int32 × Nat × qS} (h : fX8_sync F p1 σ = some r) : (r.2.2.2 0 0 = σ.2 0 0 ∧ r.2.2.2 1 0 = σ.2 1 0) := by
  unfold fX8_sync at h
  obtain ⟨i2, w1, s1, gs1, h3, h4⟩ := bnd3_some h
  have fs1 : (s1.2 0 0 = σ.2 0 0 ∧ s1.2 1 0 = σ.2 1 0) := gn_fX8_known gs1
  by_cases c9 : w1 = 0
  · replace h := h3 c9
    obtain ⟨w0, w1, s3, gs3, h3, h4⟩ := bnd3_some h
    have fs3 : (s3.2 0 0 = σ.2 0 0 ∧ s3.2 1 0 = σ.2 1 0) := n01_tr fs1 (gn_fX8_wake gs3)
    by_cases c9 : w1 = 0
    · replace h := h3 c9
      obtain ⟨-, h⟩ := gnl_some h
      obtain ⟨i4, ei4, h⟩ := nm_some h
      clear ei4
      obtain ⟨v5, ev5, h⟩ := nm_some h
      clear ev5
      obtain ⟨v7, s6, gs6, h⟩ := bnd2_some h
      have fs6 : (s6.2 0 0 = σ.2 0 0 ∧ s6.2 1 0 = σ.2 1 0) := n01_tr fs3 (gn_fX8_catchUp gs6)
      clear gs6
      cases h
      exact fs6
    · replace h := h4 c9
      cases h
      exact fs3
  · replace h := h4 c9
    cases h
    exact fs1
theorem gn_fX8_follow {F : Nat} {p1 : Int32} {p2 : Int32} {σ : qS} {r : Int32 × Nat × qS} (h : fX8_follow F p1 p2 σ = some r) : (r.2.2.2 0 0 = σ.2 0 0 ∧ r.2.2.2 1 0 = σ.2 1 0) := by
  unfold fX8_follow at h
  obtain ⟨i2, w1, s1, gs1, h3, h4⟩ := bnd3_some h
  have fs1 : (s1.2 0 0 = σ.2 0 0 ∧ s1.2 1 0 = σ.2 1 0) := gn_fX8_knownServer gs1
  by_cases c9 : w1 = 0
  · replace h := h3 c9
    obtain ⟨v4, s3, gs3, h⟩ := bnd2_some h
    have fs3 : (s3.2 0 0 = σ.2 0 0 ∧ s3.2 1 0 = σ.2 1 0) := n01_tr fs1 (gn_fX8_isWithin gs3)
    clear gs3
    rcases ite_some h with ⟨-, h⟩ | ⟨-, h⟩
    · cases h
      exact fs3
    · obtain ⟨v7, s6, gs6, h⟩ := bnd2_some h
      have fs6 : (s6.2 0 0 = σ.2 0 0 ∧ s6.2 1 0 = σ.2 1 0) := n01_tr fs3 (gn_fX8_catchUp gs6)
      clear gs6
      cases h
      exact fs6
  · replace h := h4 c9
    cases h
    exact fs1
theorem gn_fX8_pass_22 {F : Nat} : ∀ (n : Nat) (x1 : Int32) (x2 : Int32) (σ : qS) (r : Int32 × Nat × qS), fX8_pass_22 F n x1 x2 σ = some r → (r.2.2.2 0 0 = σ.2 0 0 ∧ r.2.2.2 1 0 = σ.2 1 0) := by
  intro n
  induction n with
  | zero => intro x1 x2 σ r h; exact absurd h (by rw [fX8_pass_22]; exact nofun)
  | succ n ih =>
    intro x1 x2 σ r h
    rw [fX8_pass_22] at h
    rcases ite_some h with ⟨-, h⟩ | ⟨-, h⟩
    · obtain ⟨v5, ev5, h⟩ := nm_some h
      clear ev5
      cases h
      exact ⟨rfl, rfl⟩
    · obtain ⟨v6, ev6, h⟩ := nm_some h
      clear ev6
      obtain ⟨v7, ev7, h⟩ := nm_some h
      clear ev7
      obtain ⟨s8, es8, h⟩ := nm_some h
      have fs8 : (s8.2 0 0 = σ.2 0 0 ∧ s8.2 1 0 = σ.2 1 0) := show (s8.2 0 0 = σ.2 0 0 ∧ s8.2 1 0 = σ.2 1 0) from by rw [es8]; exact ⟨rfl, rfl⟩
      clear es8
      obtain ⟨s9, gs9, h⟩ := bnd_some h
      have fs9 : (s9.2 0 0 = σ.2 0 0 ∧ s9.2 1 0 = σ.2 1 0) := n01_tr fs8 (gn_fX8_lapseSessions gs9)
      clear gs9
      obtain ⟨s10, gs10, h⟩ := bnd_some h
      have fs10 : (s10.2 0 0 = σ.2 0 0 ∧ s10.2 1 0 = σ.2 1 0) := n01_tr fs9 (gn_fX8_lapseLeases gs10)
      clear gs10
      obtain ⟨v11, ev11, h⟩ := nm_some h
      clear ev11
      exact n01_tr fs10 (ih _ _ _ _ h)
theorem gn_fX8_pass {F : Nat} {p1 : Int32} {σ : qS} {r : Int32 × Nat × qS} (h : fX8_pass F p1 σ = some r) : (r.2.2.2 0 0 = σ.2 0 0 ∧ r.2.2.2 1 0 = σ.2 1 0) := by
  unfold fX8_pass at h
  obtain ⟨v2, s1, gs1, h⟩ := bnd2_some h
  have fs1 : (s1.2 0 0 = σ.2 0 0 ∧ s1.2 1 0 = σ.2 1 0) := gn_fX8_isWithin gs1
  clear gs1
  rcases ite_some h with ⟨-, h⟩ | ⟨-, h⟩
  · cases h
    exact fs1
  · exact n01_tr fs1 (gn_fX8_pass_22 _ _ _ _ _ h)
theorem gn_fX8_knownLease_15 {F : Nat} {σ : qS} {r : Nat × Nat × qS} (h : fX8_knownLease_15 F σ = some r) : (r.2.2.2 0 0 = σ.2 0 0 ∧ r.2.2.2 1 0 = σ.2 1 0) := by
  unfold fX8_knownLease_15 at h
  cases h
  exact ⟨rfl, rfl⟩
theorem gn_fX8_knownLease {F : Nat} {p1 : Int32} {σ : qS} {r : Nat × Nat × qS} (h : fX8_knownLease F p1 σ = some r) : (r.2.2.2 0 0 = σ.2 0 0 ∧ r.2.2.2 1 0 = σ.2 1 0) := by
  unfold fX8_knownLease at h
  rcases ite_some h with ⟨-, h⟩ | ⟨-, h⟩
  · exact gn_fX8_knownLease_15 h
  · obtain ⟨v2, ev2, h⟩ := nm_some h
    clear ev2
    rcases ite_some h with ⟨-, h⟩ | ⟨-, h⟩
    · obtain ⟨-, h⟩ := gnl_some h
      obtain ⟨-, h⟩ := inx_some h
      obtain ⟨i4, ei4, h⟩ := nm_some h
      clear ei4
      obtain ⟨-, h⟩ := gnl_some h
      cases h
      exact ⟨rfl, rfl⟩
    · exact gn_fX8_knownLease_15 h
theorem gn_fX8_renew {F : Nat} {p1 : Int32} {σ : qS} {r : Int32 × Nat × qS} (h : fX8_renew F p1 σ = some r) : (r.2.2.2 0 0 = σ.2 0 0 ∧ r.2.2.2 1 0 = σ.2 1 0) := by
  unfold fX8_renew at h
  obtain ⟨i2, w1, s1, gs1, h3, h4⟩ := bnd3_some h
  have fs1 : (s1.2 0 0 = σ.2 0 0 ∧ s1.2 1 0 = σ.2 1 0) := gn_fX8_knownLease gs1
  by_cases c9 : w1 = 0
  · replace h := h3 c9
    obtain ⟨-, h⟩ := gnl_some h
    obtain ⟨v3, ev3, h⟩ := nm_some h
    clear ev3
    rcases ite_some h with ⟨-, h⟩ | ⟨-, h⟩
    · obtain ⟨v5, ev5, h⟩ := nm_some h
      clear ev5
      obtain ⟨-, h⟩ := gnl_some h
      obtain ⟨v6, ev6, h⟩ := nm_some h
      clear ev6
      obtain ⟨v7, ev7, h⟩ := nm_some h
      clear ev7
      obtain ⟨-, h⟩ := gnl_some h
      obtain ⟨s8, es8, h⟩ := nm_some h
      have fs8 : (s8.2 0 0 = σ.2 0 0 ∧ s8.2 1 0 = σ.2 1 0) := n01_tr fs1 (show (s8.2 0 0 = s1.2 0 0 ∧ s8.2 1 0 = s1.2 1 0) from by rw [es8]; exact ⟨rfl, rfl⟩)
      clear es8
      obtain ⟨-, h⟩ := gnl_some h
      obtain ⟨v9, ev9, h⟩ := nm_some h
      clear ev9
      cases h
      exact fs8
    · cases h
      exact fs1
  · replace h := h4 c9
    cases h
    exact fs1
theorem gn_fX8_mustBeName_25 {F : Nat} {σ : qS} {r : Int32 × Nat × qS} (h : fX8_mustBeName_25 F σ = some r) : (r.2.2.2 0 0 = σ.2 0 0 ∧ r.2.2.2 1 0 = σ.2 1 0) := by
  unfold fX8_mustBeName_25 at h
  cases h
  exact ⟨rfl, rfl⟩
theorem gn_fX8_mustBeName {F : Nat} {p1 : Int32} {p2 : Int32} {σ : qS} {r : Int32 × Nat × qS} (h : fX8_mustBeName F p1 p2 σ = some r) : (r.2.2.2 0 0 = σ.2 0 0 ∧ r.2.2.2 1 0 = σ.2 1 0) := by
  unfold fX8_mustBeName at h
  rcases ite_some h with ⟨-, h⟩ | ⟨-, h⟩
  · obtain ⟨v3, s2, gs2, h⟩ := bnd2_some h
    have fs2 : (s2.2 0 0 = σ.2 0 0 ∧ s2.2 1 0 = σ.2 1 0) := gn_fX8_isWithin gs2
    clear gs2
    rcases ite_some h with ⟨-, h⟩ | ⟨-, h⟩
    · cases h
      exact fs2
    · exact n01_tr fs2 (gn_fX8_mustBeName_25 h)
  · exact gn_fX8_mustBeName_25 h
theorem gn_fX8_mustBeValue {F : Nat} {p1 : Int32} {σ : qS} {r : Int32 × Nat × qS} (h : fX8_mustBeValue F p1 σ = some r) : (r.2.2.2 0 0 = σ.2 0 0 ∧ r.2.2.2 1 0 = σ.2 1 0) := by
  unfold fX8_mustBeValue at h
  obtain ⟨v2, s1, gs1, h⟩ := bnd2_some h
  have fs1 : (s1.2 0 0 = σ.2 0 0 ∧ s1.2 1 0 = σ.2 1 0) := gn_fX8_isWithin gs1
  clear gs1
  rcases ite_some h with ⟨-, h⟩ | ⟨-, h⟩
  · cases h
    exact fs1
  · cases h
    exact fs1
theorem gn_fX8_nextAct_63 {F : Nat} {i1 : Nat} {rt0 : Nat} {σ : qS} {r : Nat × Nat × qS} (h : fX8_nextAct_63 F i1 rt0 σ = some r) : (r.2.2.2 0 0 = σ.2 0 0 ∧ r.2.2.2 1 0 = σ.2 1 0) := by
  unfold fX8_nextAct_63 at h
  cases h
  exact ⟨rfl, rfl⟩
theorem gn_fX8_nextAct_32 {F : Nat} {i1 : Nat} {σ : qS} {r : Nat × Nat × qS} (h : fX8_nextAct_32 F i1 σ = some r) : (r.2.2.2 0 0 = σ.2 0 0 ∧ r.2.2.2 1 0 = σ.2 1 0) := by
  unfold fX8_nextAct_32 at h
  obtain ⟨v4, ev4, h⟩ := nm_some h
  clear ev4
  obtain ⟨-, h⟩ := gnl_some h
  obtain ⟨s5, es5, h⟩ := nm_some h
  have fs5 : (s5.2 0 0 = σ.2 0 0 ∧ s5.2 1 0 = σ.2 1 0) := show (s5.2 0 0 = σ.2 0 0 ∧ s5.2 1 0 = σ.2 1 0) from by rw [es5]; exact ⟨rfl, rfl⟩
  clear es5
  obtain ⟨-, h⟩ := gnl_some h
  obtain ⟨v6, ev6, h⟩ := nm_some h
  clear ev6
  rcases ite_some h with ⟨-, h⟩ | ⟨-, h⟩
  · exact n01_tr fs5 (gn_fX8_nextAct_63 h)
  · obtain ⟨-, h⟩ := gnl_some h
    obtain ⟨-, h⟩ := gnl_some h
    obtain ⟨v8, ev8, h⟩ := nm_some h
    clear ev8
    obtain ⟨-, h⟩ := gnl_some h
    obtain ⟨-, h⟩ := inx_some h
    obtain ⟨i9, ei9, h⟩ := nm_some h
    clear ei9
    exact n01_tr fs5 (gn_fX8_nextAct_63 h)
theorem gn_fX8_nextAct {F : Nat} {i1 : Nat} {σ : qS} {r : Nat × Nat × qS} (h : fX8_nextAct F i1 σ = some r) : (r.2.2.2 0 0 = σ.2 0 0 ∧ r.2.2.2 1 0 = σ.2 1 0) := by
  unfold fX8_nextAct at h
  obtain ⟨w0, w1, s1, gs1, h3, h4⟩ := bnd3_some h
  have fs1 : (s1.2 0 0 = σ.2 0 0 ∧ s1.2 1 0 = σ.2 1 0) := gn_fX8_mustLive gs1
  by_cases c9 : w1 = 0
  · replace h := h3 c9
    obtain ⟨-, h⟩ := gnl_some h
    obtain ⟨v2, ev2, h⟩ := nm_some h
    clear ev2
    rcases ite_some h with ⟨-, h⟩ | ⟨-, h⟩
    · exact n01_tr fs1 (gn_fX8_nextAct_32 h)
    · obtain ⟨-, h⟩ := gnl_some h
      obtain ⟨v10, ev10, h⟩ := nm_some h
      clear ev10
      rcases ite_some h with ⟨-, h⟩ | ⟨-, h⟩
      · exact n01_tr fs1 (gn_fX8_nextAct_32 h)
      · cases h
        exact fs1
  · replace h := h4 c9
    cases h
    exact fs1
theorem gn_fX8_make_129 {F : Nat} {rx8 : Nat} {rx10 : Nat} {rt0 : Nat} {t1 : Int32} {σ : qS} {r : Int32 × Nat × qS} (h : fX8_make_129 F rx8 rx10 rt0 t1 σ = some r) : (r.2.2.2 0 0 = σ.2 0 0 ∧ r.2.2.2 1 0 = σ.2 1 0) := by
  unfold fX8_make_129 at h
  obtain ⟨-, h⟩ := gnl_some h
  obtain ⟨s15, es15, h⟩ := nm_some h
  have fs15 : (s15.2 0 0 = σ.2 0 0 ∧ s15.2 1 0 = σ.2 1 0) := show (s15.2 0 0 = σ.2 0 0 ∧ s15.2 1 0 = σ.2 1 0) from by rw [es15]; exact ⟨rfl, rfl⟩
  clear es15
  obtain ⟨v17, s16, gs16, h⟩ := bnd2_some h
  have fs16 : (s16.2 0 0 = σ.2 0 0 ∧ s16.2 1 0 = σ.2 1 0) := n01_tr fs15 (gn_fX8_submit gs16)
  clear gs16
  cases h
  exact fs16
theorem gn_fX8_make_108 {F : Nat} {x1 : Int32} {x5 : Int32} {x6 : Int32} {x7 : Int32} {rx8 : Nat} {rx10 : Nat} {rt0 : Nat} {t1 : Int32} {t2 : Int32} {σ : qS} {r : Int32 × Nat × qS} (h : fX8_make_108 F x1 x5 x6 x7 rx8 rx10 rt0 t1 t2 σ = some r) : (r.2.2.2 0 0 = σ.2 0 0 ∧ r.2.2.2 1 0 = σ.2 1 0) := by
  unfold fX8_make_108 at h
  obtain ⟨-, h⟩ := gnl_some h
  obtain ⟨s13, gs13, h⟩ := bnd_some h
  have fs13 : (s13.2 0 0 = σ.2 0 0 ∧ s13.2 1 0 = σ.2 1 0) := gn_fX0_toMake gs13
  clear gs13
  rcases ite_some h with ⟨-, h⟩ | ⟨-, h⟩
  · exact n01_tr fs13 (gn_fX8_make_129 h)
  · exact n01_tr fs13 (gn_fX8_make_129 h)
theorem gn_fX8_make_85 {F : Nat} {x1 : Int32} {x2 : Int32} {x3 : Int32} {x4 : Int32} {x5 : Int32} {x6 : Int32} {x7 : Int32} {rx8 : Nat} {σ : qS} {r : Int32 × Nat × qS} (h : fX8_make_85 F x1 x2 x3 x4 x5 x6 x7 rx8 σ = some r) : (r.2.2.2 0 0 = σ.2 0 0 ∧ r.2.2.2 1 0 = σ.2 1 0) := by
  unfold fX8_make_85 at h
  obtain ⟨i11, w1, s10, gs10, h3, h4⟩ := bnd3_some h
  have fs10 : (s10.2 0 0 = σ.2 0 0 ∧ s10.2 1 0 = σ.2 1 0) := gn_fX8_nextAct gs10
  by_cases c9 : w1 = 0
  · replace h := h3 c9
    rcases ite_some h with ⟨-, h⟩ | ⟨-, h⟩
    · exact n01_tr fs10 (gn_fX8_make_108 h)
    · exact n01_tr fs10 (gn_fX8_make_108 h)
  · replace h := h4 c9
    cases h
    exact fs10
theorem gn_fX8_make {F : Nat} {p1 : Int32} {p2 : Int32} {p3 : Int32} {p4 : Int32} {p5 : Int32} {p6 : Int32} {p7 : Int32} {σ : qS} {r : Int32 × Nat × qS} (h : fX8_make F p1 p2 p3 p4 p5 p6 p7 σ = some r) : (r.2.2.2 0 0 = σ.2 0 0 ∧ r.2.2.2 1 0 = σ.2 1 0) := by
  unfold fX8_make at h
  obtain ⟨i2, w1, s1, gs1, h3, h4⟩ := bnd3_some h
  have fs1 : (s1.2 0 0 = σ.2 0 0 ∧ s1.2 1 0 = σ.2 1 0) := gn_fX8_known gs1
  by_cases c9 : w1 = 0
  · replace h := h3 c9
    obtain ⟨w0, w1, s3, gs3, h3, h4⟩ := bnd3_some h
    have fs3 : (s3.2 0 0 = σ.2 0 0 ∧ s3.2 1 0 = σ.2 1 0) := n01_tr fs1 (gn_fX8_mustBeName gs3)
    by_cases c9 : w1 = 0
    · replace h := h3 c9
      obtain ⟨w0, w1, s4, gs4, h3, h4⟩ := bnd3_some h
      have fs4 : (s4.2 0 0 = σ.2 0 0 ∧ s4.2 1 0 = σ.2 1 0) := n01_tr fs3 (gn_fX8_mustBeValue gs4)
      by_cases c9 : w1 = 0
      · replace h := h3 c9
        obtain ⟨v6, s5, gs5, h⟩ := bnd2_some h
        have fs5 : (s5.2 0 0 = σ.2 0 0 ∧ s5.2 1 0 = σ.2 1 0) := n01_tr fs4 (gn_fX8_isWithin gs5)
        clear gs5
        rcases ite_some h with ⟨-, h⟩ | ⟨-, h⟩
        · cases h
          exact fs5
        · rcases ite_some h with ⟨-, h⟩ | ⟨-, h⟩
          · obtain ⟨i19, w1, s18, gs18, h3, h4⟩ := bnd3_some h
            have fs18 : (s18.2 0 0 = σ.2 0 0 ∧ s18.2 1 0 = σ.2 1 0) := n01_tr fs5 (gn_fX8_knownLease gs18)
            by_cases c9 : w1 = 0
            · replace h := h3 c9
              obtain ⟨w0, w1, s20, gs20, h3, h4⟩ := bnd3_some h
              have fs20 : (s20.2 0 0 = σ.2 0 0 ∧ s20.2 1 0 = σ.2 1 0) := n01_tr fs18 (gn_fX8_mustLive gs20)
              by_cases c9 : w1 = 0
              · replace h := h3 c9
                obtain ⟨-, h⟩ := gnl_some h
                obtain ⟨v21, ev21, h⟩ := nm_some h
                clear ev21
                rcases ite_some h with ⟨-, h⟩ | ⟨-, h⟩
                · exact n01_tr fs20 (gn_fX8_make_85 h)
                · cases h
                  exact fs20
              · replace h := h4 c9
                cases h
                exact fs20
            · replace h := h4 c9
              cases h
              exact fs18
          · obtain ⟨w0, w1, s9, gs9, h3, h4⟩ := bnd3_some h
            have fs9 : (s9.2 0 0 = σ.2 0 0 ∧ s9.2 1 0 = σ.2 1 0) := n01_tr fs5 (gn_fX8_mustLive gs9)
            by_cases c9 : w1 = 0
            · replace h := h3 c9
              exact n01_tr fs9 (gn_fX8_make_85 h)
            · replace h := h4 c9
              cases h
              exact fs9
      · replace h := h4 c9
        cases h
        exact fs4
    · replace h := h4 c9
      cases h
      exact fs3
  · replace h := h4 c9
    cases h
    exact fs1
theorem gn_fX8_set {F : Nat} {p1 : Int32} {p2 : Int32} {p3 : Int32} {p4 : Int32} {σ : qS} {r : Int32 × Nat × qS} (h : fX8_set F p1 p2 p3 p4 σ = some r) : (r.2.2.2 0 0 = σ.2 0 0 ∧ r.2.2.2 1 0 = σ.2 1 0) := by
  unfold fX8_set at h
  obtain ⟨i2, w1, s1, gs1, h3, h4⟩ := bnd3_some h
  have fs1 : (s1.2 0 0 = σ.2 0 0 ∧ s1.2 1 0 = σ.2 1 0) := gn_fX8_known gs1
  by_cases c9 : w1 = 0
  · replace h := h3 c9
    obtain ⟨w0, w1, s3, gs3, h3, h4⟩ := bnd3_some h
    have fs3 : (s3.2 0 0 = σ.2 0 0 ∧ s3.2 1 0 = σ.2 1 0) := n01_tr fs1 (gn_fX8_mustBeValue gs3)
    by_cases c9 : w1 = 0
    · replace h := h3 c9
      obtain ⟨i5, w1, s4, gs4, h3, h4⟩ := bnd3_some h
      have fs4 : (s4.2 0 0 = σ.2 0 0 ∧ s4.2 1 0 = σ.2 1 0) := n01_tr fs3 (gn_fX8_nextAct gs4)
      by_cases c9 : w1 = 0
      · replace h := h3 c9
        obtain ⟨-, h⟩ := gnl_some h
        obtain ⟨s6, gs6, h⟩ := bnd_some h
        have fs6 : (s6.2 0 0 = σ.2 0 0 ∧ s6.2 1 0 = σ.2 1 0) := n01_tr fs4 (gn_fX0_toDo gs6)
        clear gs6
        obtain ⟨v8, s7, gs7, h⟩ := bnd2_some h
        have fs7 : (s7.2 0 0 = σ.2 0 0 ∧ s7.2 1 0 = σ.2 1 0) := n01_tr fs6 (gn_fX8_submit gs7)
        clear gs7
        cases h
        exact fs7
      · replace h := h4 c9
        cases h
        exact fs4
    · replace h := h4 c9
      cases h
      exact fs3
  · replace h := h4 c9
    cases h
    exact fs1
theorem gn_fX8_delete {F : Nat} {p1 : Int32} {p2 : Int32} {p3 : Int32} {σ : qS} {r : Int32 × Nat × qS} (h : fX8_delete F p1 p2 p3 σ = some r) : (r.2.2.2 0 0 = σ.2 0 0 ∧ r.2.2.2 1 0 = σ.2 1 0) := by
  unfold fX8_delete at h
  obtain ⟨i2, w1, s1, gs1, h3, h4⟩ := bnd3_some h
  have fs1 : (s1.2 0 0 = σ.2 0 0 ∧ s1.2 1 0 = σ.2 1 0) := gn_fX8_known gs1
  by_cases c9 : w1 = 0
  · replace h := h3 c9
    obtain ⟨i4, w1, s3, gs3, h3, h4⟩ := bnd3_some h
    have fs3 : (s3.2 0 0 = σ.2 0 0 ∧ s3.2 1 0 = σ.2 1 0) := n01_tr fs1 (gn_fX8_nextAct gs3)
    by_cases c9 : w1 = 0
    · replace h := h3 c9
      obtain ⟨-, h⟩ := gnl_some h
      obtain ⟨s5, gs5, h⟩ := bnd_some h
      have fs5 : (s5.2 0 0 = σ.2 0 0 ∧ s5.2 1 0 = σ.2 1 0) := n01_tr fs3 (gn_fX0_toDo gs5)
      clear gs5
      obtain ⟨v7, s6, gs6, h⟩ := bnd2_some h
      have fs6 : (s6.2 0 0 = σ.2 0 0 ∧ s6.2 1 0 = σ.2 1 0) := n01_tr fs5 (gn_fX8_submit gs6)
      clear gs6
      cases h
      exact fs6
    · replace h := h4 c9
      cases h
      exact fs3
  · replace h := h4 c9
    cases h
    exact fs1
theorem gn_fX8_rights_28 {F : Nat} {σ : qS} {r : Int32 × Nat × qS} (h : fX8_rights_28 F σ = some r) : (r.2.2.2 0 0 = σ.2 0 0 ∧ r.2.2.2 1 0 = σ.2 1 0) := by
  unfold fX8_rights_28 at h
  cases h
  exact ⟨rfl, rfl⟩
theorem gn_fX8_rights_58 {F : Nat} {x2 : Int32} {x3 : Int32} {x4 : Int32} {rx6 : Nat} {rx7 : Nat} {rt0 : Nat} {t1 : Int32} {σ : qS} {r : Int32 × Nat × qS} (h : fX8_rights_58 F x2 x3 x4 rx6 rx7 rt0 t1 σ = some r) : (r.2.2.2 0 0 = σ.2 0 0 ∧ r.2.2.2 1 0 = σ.2 1 0) := by
  unfold fX8_rights_58 at h
  obtain ⟨v12, ev12, h⟩ := nm_some h
  clear ev12
  obtain ⟨v13, ev13, h⟩ := nm_some h
  clear ev13
  obtain ⟨-, h⟩ := gnl_some h
  obtain ⟨s14, gs14, h⟩ := bnd_some h
  have fs14 : (s14.2 0 0 = σ.2 0 0 ∧ s14.2 1 0 = σ.2 1 0) := gn_fX0_toDo gs14
  clear gs14
  obtain ⟨v16, s15, gs15, h⟩ := bnd2_some h
  have fs15 : (s15.2 0 0 = σ.2 0 0 ∧ s15.2 1 0 = σ.2 1 0) := n01_tr fs14 (gn_fX8_submit gs15)
  clear gs15
  cases h
  exact fs15
theorem gn_fX8_rights {F : Nat} {p1 : Int32} {p2 : Int32} {p3 : Int32} {p4 : Int32} {p5 : Int32} {σ : qS} {r : Int32 × Nat × qS} (h : fX8_rights F p1 p2 p3 p4 p5 σ = some r) : (r.2.2.2 0 0 = σ.2 0 0 ∧ r.2.2.2 1 0 = σ.2 1 0) := by
  unfold fX8_rights at h
  obtain ⟨i2, w1, s1, gs1, h3, h4⟩ := bnd3_some h
  have fs1 : (s1.2 0 0 = σ.2 0 0 ∧ s1.2 1 0 = σ.2 1 0) := gn_fX8_known gs1
  by_cases c9 : w1 = 0
  · replace h := h3 c9
    obtain ⟨v4, s3, gs3, h⟩ := bnd2_some h
    have fs3 : (s3.2 0 0 = σ.2 0 0 ∧ s3.2 1 0 = σ.2 1 0) := n01_tr fs1 (gn_fX8_isWithin gs3)
    clear gs3
    rcases ite_some h with ⟨-, h⟩ | ⟨-, h⟩
    · exact n01_tr fs3 (gn_fX8_rights_28 h)
    · obtain ⟨v7, s6, gs6, h⟩ := bnd2_some h
      have fs6 : (s6.2 0 0 = σ.2 0 0 ∧ s6.2 1 0 = σ.2 1 0) := n01_tr fs3 (gn_fX8_isWithin gs6)
      clear gs6
      rcases ite_some h with ⟨-, h⟩ | ⟨-, h⟩
      · exact n01_tr fs6 (gn_fX8_rights_28 h)
      · obtain ⟨i10, w1, s9, gs9, h3, h4⟩ := bnd3_some h
        have fs9 : (s9.2 0 0 = σ.2 0 0 ∧ s9.2 1 0 = σ.2 1 0) := n01_tr fs6 (gn_fX8_nextAct gs9)
        by_cases c9 : w1 = 0
        · replace h := h3 c9
          rcases ite_some h with ⟨-, h⟩ | ⟨-, h⟩
          · exact n01_tr fs9 (gn_fX8_rights_58 h)
          · exact n01_tr fs9 (gn_fX8_rights_58 h)
        · replace h := h4 c9
          cases h
          exact fs9
  · replace h := h4 c9
    cases h
    exact fs1
theorem gn_fX8_check {F : Nat} {p1 : Int32} {p2 : Int32} {p3 : Int32} {σ : qS} {r : Int32 × Nat × qS} (h : fX8_check F p1 p2 p3 σ = some r) : (r.2.2.2 0 0 = σ.2 0 0 ∧ r.2.2.2 1 0 = σ.2 1 0) := by
  unfold fX8_check at h
  obtain ⟨i2, w1, s1, gs1, h3, h4⟩ := bnd3_some h
  have fs1 : (s1.2 0 0 = σ.2 0 0 ∧ s1.2 1 0 = σ.2 1 0) := gn_fX8_known gs1
  by_cases c9 : w1 = 0
  · replace h := h3 c9
    obtain ⟨i4, w1, s3, gs3, h3, h4⟩ := bnd3_some h
    have fs3 : (s3.2 0 0 = σ.2 0 0 ∧ s3.2 1 0 = σ.2 1 0) := n01_tr fs1 (gn_fX8_nextAct gs3)
    by_cases c9 : w1 = 0
    · replace h := h3 c9
      obtain ⟨-, h⟩ := gnl_some h
      obtain ⟨s5, gs5, h⟩ := bnd_some h
      have fs5 : (s5.2 0 0 = σ.2 0 0 ∧ s5.2 1 0 = σ.2 1 0) := n01_tr fs3 (gn_fX0_toDo gs5)
      clear gs5
      obtain ⟨v7, s6, gs6, h⟩ := bnd2_some h
      have fs6 : (s6.2 0 0 = σ.2 0 0 ∧ s6.2 1 0 = σ.2 1 0) := n01_tr fs5 (gn_fX8_submit gs6)
      clear gs6
      cases h
      exact fs6
    · replace h := h4 c9
      cases h
      exact fs3
  · replace h := h4 c9
    cases h
    exact fs1
theorem gn_fX8_mustNotGather {F : Nat} {i1 : Nat} {σ : qS} {r : Int32 × Nat × qS} (h : fX8_mustNotGather F i1 σ = some r) : (r.2.2.2 0 0 = σ.2 0 0 ∧ r.2.2.2 1 0 = σ.2 1 0) := by
  unfold fX8_mustNotGather at h
  obtain ⟨-, h⟩ := gnl_some h
  obtain ⟨v1, ev1, h⟩ := nm_some h
  clear ev1
  rcases ite_some h with ⟨-, h⟩ | ⟨-, h⟩
  · cases h
    exact ⟨rfl, rfl⟩
  · cases h
    exact ⟨rfl, rfl⟩
theorem gn_fX8_gather {F : Nat} {p1 : Int32} {σ : qS} {r : Int32 × Nat × qS} (h : fX8_gather F p1 σ = some r) : (r.2.2.2 0 0 = σ.2 0 0 ∧ r.2.2.2 1 0 = σ.2 1 0) := by
  unfold fX8_gather at h
  obtain ⟨i2, w1, s1, gs1, h3, h4⟩ := bnd3_some h
  have fs1 : (s1.2 0 0 = σ.2 0 0 ∧ s1.2 1 0 = σ.2 1 0) := gn_fX8_known gs1
  by_cases c9 : w1 = 0
  · replace h := h3 c9
    obtain ⟨w0, w1, s3, gs3, h3, h4⟩ := bnd3_some h
    have fs3 : (s3.2 0 0 = σ.2 0 0 ∧ s3.2 1 0 = σ.2 1 0) := n01_tr fs1 (gn_fX8_mustLive gs3)
    by_cases c9 : w1 = 0
    · replace h := h3 c9
      obtain ⟨w0, w1, s4, gs4, h3, h4⟩ := bnd3_some h
      have fs4 : (s4.2 0 0 = σ.2 0 0 ∧ s4.2 1 0 = σ.2 1 0) := n01_tr fs3 (gn_fX8_mustNotGather gs4)
      by_cases c9 : w1 = 0
      · replace h := h3 c9
        obtain ⟨v5, ev5, h⟩ := nm_some h
        clear ev5
        obtain ⟨-, h⟩ := gnl_some h
        obtain ⟨s6, es6, h⟩ := nm_some h
        have fs6 : (s6.2 0 0 = σ.2 0 0 ∧ s6.2 1 0 = σ.2 1 0) := n01_tr fs4 (show (s6.2 0 0 = s4.2 0 0 ∧ s6.2 1 0 = s4.2 1 0) from by rw [es6]; exact ⟨rfl, rfl⟩)
        clear es6
        obtain ⟨-, h⟩ := gnl_some h
        obtain ⟨-, h⟩ := gbl_some h
        obtain ⟨s7, es7, h⟩ := nm_some h
        have fs7 : (s7.2 0 0 = σ.2 0 0 ∧ s7.2 1 0 = σ.2 1 0) := n01_tr fs6 (show (s7.2 0 0 = s6.2 0 0 ∧ s7.2 1 0 = s6.2 1 0) from by rw [es7]; exact ⟨rfl, rfl⟩)
        clear es7
        obtain ⟨-, h⟩ := gnl_some h
        obtain ⟨s8, es8, h⟩ := nm_some h
        have fs8 : (s8.2 0 0 = σ.2 0 0 ∧ s8.2 1 0 = σ.2 1 0) := n01_tr fs7 (show (s8.2 0 0 = s7.2 0 0 ∧ s8.2 1 0 = s7.2 1 0) from by rw [es8]; exact ⟨rfl, rfl⟩)
        clear es8
        cases h
        exact fs8
      · replace h := h4 c9
        cases h
        exact fs4
    · replace h := h4 c9
      cases h
      exact fs3
  · replace h := h4 c9
    cases h
    exact fs1
theorem gn_fX8_done_101 {F : Nat} {t0 : Int32} {σ : qS} {r : Int32 × Nat × qS} (h : fX8_done_101 F t0 σ = some r) : (r.2.2.2 0 0 = σ.2 0 0 ∧ r.2.2.2 1 0 = σ.2 1 0) := by
  unfold fX8_done_101 at h
  cases h
  exact ⟨rfl, rfl⟩
theorem gn_fX8_done {F : Nat} {p1 : Int32} {σ : qS} {r : Int32 × Nat × qS} (h : fX8_done F p1 σ = some r) : (r.2.2.2 0 0 = σ.2 0 0 ∧ r.2.2.2 1 0 = σ.2 1 0) := by
  unfold fX8_done at h
  obtain ⟨i2, w1, s1, gs1, h3, h4⟩ := bnd3_some h
  have fs1 : (s1.2 0 0 = σ.2 0 0 ∧ s1.2 1 0 = σ.2 1 0) := gn_fX8_known gs1
  by_cases c9 : w1 = 0
  · replace h := h3 c9
    obtain ⟨w0, w1, s3, gs3, h3, h4⟩ := bnd3_some h
    have fs3 : (s3.2 0 0 = σ.2 0 0 ∧ s3.2 1 0 = σ.2 1 0) := n01_tr fs1 (gn_fX8_mustLive gs3)
    by_cases c9 : w1 = 0
    · replace h := h3 c9
      obtain ⟨-, h⟩ := gnl_some h
      obtain ⟨v4, ev4, h⟩ := nm_some h
      clear ev4
      rcases ite_some h with ⟨-, h⟩ | ⟨-, h⟩
      · cases h
        exact fs3
      · obtain ⟨v6, ev6, h⟩ := nm_some h
        clear ev6
        obtain ⟨-, h⟩ := gnl_some h
        obtain ⟨s7, es7, h⟩ := nm_some h
        have fs7 : (s7.2 0 0 = σ.2 0 0 ∧ s7.2 1 0 = σ.2 1 0) := n01_tr fs3 (show (s7.2 0 0 = s3.2 0 0 ∧ s7.2 1 0 = s3.2 1 0) from by rw [es7]; exact ⟨rfl, rfl⟩)
        clear es7
        obtain ⟨-, h⟩ := gnl_some h
        obtain ⟨-, h⟩ := gbl_some h
        obtain ⟨s8, es8, h⟩ := nm_some h
        have fs8 : (s8.2 0 0 = σ.2 0 0 ∧ s8.2 1 0 = σ.2 1 0) := n01_tr fs7 (show (s8.2 0 0 = s7.2 0 0 ∧ s8.2 1 0 = s7.2 1 0) from by rw [es8]; exact ⟨rfl, rfl⟩)
        clear es8
        obtain ⟨v10, s9, gs9, h⟩ := bnd2_some h
        have fs9 : (s9.2 0 0 = σ.2 0 0 ∧ s9.2 1 0 = σ.2 1 0) := n01_tr fs8 (gn_fX8_performAll gs9)
        clear gs9
        rcases ite_some h with ⟨-, h⟩ | ⟨-, h⟩
        · obtain ⟨-, h⟩ := gnl_some h
          obtain ⟨v12, ev12, h⟩ := nm_some h
          clear ev12
          rcases ite_some h with ⟨-, h⟩ | ⟨-, h⟩
          · obtain ⟨-, h⟩ := gnl_some h
            obtain ⟨i18, ei18, h⟩ := nm_some h
            clear ei18
            obtain ⟨v19, ev19, h⟩ := nm_some h
            clear ev19
            obtain ⟨v21, s20, gs20, h⟩ := bnd2_some h
            have fs20 : (s20.2 0 0 = σ.2 0 0 ∧ s20.2 1 0 = σ.2 1 0) := n01_tr fs9 (gn_fX8_catchUp gs20)
            clear gs20
            obtain ⟨v22, ev22, h⟩ := nm_some h
            clear ev22
            cases h
            exact fs20
          · obtain ⟨v15, s14, gs14, h⟩ := bnd2_some h
            have fs14 : (s14.2 0 0 = σ.2 0 0 ∧ s14.2 1 0 = σ.2 1 0) := n01_tr fs9 (gn_fX8_settle gs14)
            clear gs14
            rcases ite_some h with ⟨-, h⟩ | ⟨-, h⟩
            · exact n01_tr fs14 (gn_fX8_done_101 h)
            · obtain ⟨v17, ev17, h⟩ := nm_some h
              clear ev17
              exact n01_tr fs14 (gn_fX8_done_101 h)
        · obtain ⟨s23, gs23, h⟩ := bnd_some h
          have fs23 : (s23.2 0 0 = σ.2 0 0 ∧ s23.2 1 0 = σ.2 1 0) := n01_tr fs9 (gn_fX8_undo gs23)
          clear gs23
          obtain ⟨v24, ev24, h⟩ := nm_some h
          clear ev24
          cases h
          exact fs23
    · replace h := h4 c9
      cases h
      exact fs3
  · replace h := h4 c9
    cases h
    exact fs1
theorem gn_fX8_answer_46 {F : Nat} {t0 : Int32} {σ : qS} {r : Int32 × Nat × qS} (h : fX8_answer_46 F t0 σ = some r) : (r.2.2.2 0 0 = σ.2 0 0 ∧ r.2.2.2 1 0 = σ.2 1 0) := by
  unfold fX8_answer_46 at h
  cases h
  exact ⟨rfl, rfl⟩
theorem gn_fX8_answer_44 {F : Nat} {σ : qS} {r : Int32 × Nat × qS} (h : fX8_answer_44 F σ = some r) : (r.2.2.2 0 0 = σ.2 0 0 ∧ r.2.2.2 1 0 = σ.2 1 0) := by
  unfold fX8_answer_44 at h
  exact gn_fX8_answer_46 h
theorem gn_fX8_answer {F : Nat} {p1 : Int32} {p2 : Int32} {σ : qS} {r : Int32 × Nat × qS} (h : fX8_answer F p1 p2 σ = some r) : (r.2.2.2 0 0 = σ.2 0 0 ∧ r.2.2.2 1 0 = σ.2 1 0) := by
  unfold fX8_answer at h
  obtain ⟨i2, w1, s1, gs1, h3, h4⟩ := bnd3_some h
  have fs1 : (s1.2 0 0 = σ.2 0 0 ∧ s1.2 1 0 = σ.2 1 0) := gn_fX8_known gs1
  by_cases c9 : w1 = 0
  · replace h := h3 c9
    rcases ite_some h with ⟨-, h⟩ | ⟨-, h⟩
    · obtain ⟨-, h⟩ := gnl_some h
      obtain ⟨v4, ev4, h⟩ := nm_some h
      clear ev4
      rcases ite_some h with ⟨-, h⟩ | ⟨-, h⟩
      · exact n01_tr fs1 (gn_fX8_answer_44 h)
      · rcases ite_some h with ⟨-, h⟩ | ⟨-, h⟩
        · exact n01_tr fs1 (gn_fX8_answer_44 h)
        · obtain ⟨-, h⟩ := gnl_some h
          obtain ⟨-, h⟩ := gnl_some h
          obtain ⟨-, h⟩ := ldi_some h
          exact n01_tr fs1 (gn_fX8_answer_46 h)
    · cases h
      exact fs1
  · replace h := h4 c9
    cases h
    exact fs1
theorem gn_fX8_quota {F : Nat} {p1 : Int32} {p2 : Int32} {σ : qS} {r : Int32 × Nat × qS} (h : fX8_quota F p1 p2 σ = some r) : (r.2.2.2 0 0 = σ.2 0 0 ∧ r.2.2.2 1 0 = σ.2 1 0) := by
  unfold fX8_quota at h
  obtain ⟨v2, s1, gs1, h⟩ := bnd2_some h
  have fs1 : (s1.2 0 0 = σ.2 0 0 ∧ s1.2 1 0 = σ.2 1 0) := gn_fX8_isWithin gs1
  clear gs1
  rcases ite_some h with ⟨-, h⟩ | ⟨-, h⟩
  · cases h
    exact fs1
  · obtain ⟨v5, s4, gs4, h⟩ := bnd2_some h
    have fs4 : (s4.2 0 0 = σ.2 0 0 ∧ s4.2 1 0 = σ.2 1 0) := n01_tr fs1 (gn_fX7_holds gs4)
    clear gs4
    rcases ite_some h with ⟨-, h⟩ | ⟨-, h⟩
    · cases h
      exact fs4
    · obtain ⟨-, h⟩ := inx_some h
      obtain ⟨s7, es7, h⟩ := nm_some h
      have fs7 : (s7.2 0 0 = σ.2 0 0 ∧ s7.2 1 0 = σ.2 1 0) := n01_tr fs4 (show (s7.2 0 0 = s4.2 0 0 ∧ s7.2 1 0 = s4.2 1 0) from by rw [es7]; exact ⟨rfl, rfl⟩)
      clear es7
      obtain ⟨v9, s8, gs8, h⟩ := bnd2_some h
      have fs8 : (s8.2 0 0 = σ.2 0 0 ∧ s8.2 1 0 = σ.2 1 0) := n01_tr fs7 (gn_fX7_belowOf gs8)
      clear gs8
      cases h
      exact fs8
theorem gn_fX8_read_74 {F : Nat} {t0 : Int32} {σ : qS} {r : Int32 × Nat × qS} (h : fX8_read_74 F t0 σ = some r) : (r.2.2.2 0 0 = σ.2 0 0 ∧ r.2.2.2 1 0 = σ.2 1 0) := by
  unfold fX8_read_74 at h
  cases h
  exact ⟨rfl, rfl⟩
theorem gn_fX8_read {F : Nat} {p1 : Int32} {p2 : Int32} {p3 : Int32} {σ : qS} {r : Int32 × Nat × qS} (h : fX8_read F p1 p2 p3 σ = some r) : (r.2.2.2 0 0 = σ.2 0 0 ∧ r.2.2.2 1 0 = σ.2 1 0) := by
  unfold fX8_read at h
  obtain ⟨i2, w1, s1, gs1, h3, h4⟩ := bnd3_some h
  have fs1 : (s1.2 0 0 = σ.2 0 0 ∧ s1.2 1 0 = σ.2 1 0) := gn_fX8_known gs1
  by_cases c9 : w1 = 0
  · replace h := h3 c9
    obtain ⟨v4, s3, gs3, h⟩ := bnd2_some h
    have fs3 : (s3.2 0 0 = σ.2 0 0 ∧ s3.2 1 0 = σ.2 1 0) := n01_tr fs1 (gn_fX8_isWithin gs3)
    clear gs3
    rcases ite_some h with ⟨-, h⟩ | ⟨-, h⟩
    · cases h
      exact fs3
    · obtain ⟨w0, w1, s6, gs6, h3, h4⟩ := bnd3_some h
      have fs6 : (s6.2 0 0 = σ.2 0 0 ∧ s6.2 1 0 = σ.2 1 0) := n01_tr fs3 (gn_fX8_wake gs6)
      by_cases c9 : w1 = 0
      · replace h := h3 c9
        obtain ⟨-, h⟩ := gnl_some h
        obtain ⟨i7, ei7, h⟩ := nm_some h
        clear ei7
        obtain ⟨-, h⟩ := gnl_some h
        obtain ⟨-, h⟩ := gnl_some h
        obtain ⟨v8, ev8, h⟩ := nm_some h
        clear ev8
        obtain ⟨-, h⟩ := gnl_some h
        obtain ⟨v10, s9, gs9, h⟩ := bnd2_some h
        have fs9 : (s9.2 0 0 = σ.2 0 0 ∧ s9.2 1 0 = σ.2 1 0) := n01_tr fs6 (gn_fX7_readingRefused gs9)
        clear gs9
        rcases ite_some h with ⟨-, h⟩ | ⟨-, h⟩
        · obtain ⟨-, h⟩ := gnl_some h
          obtain ⟨v13, s12, gs12, h⟩ := bnd2_some h
          have fs12 : (s12.2 0 0 = σ.2 0 0 ∧ s12.2 1 0 = σ.2 1 0) := n01_tr fs9 (gn_fX7_told gs12)
          clear gs12
          exact n01_tr fs12 (gn_fX8_read_74 h)
        · exact n01_tr fs9 (gn_fX8_read_74 h)
      · replace h := h4 c9
        cases h
        exact fs6
  · replace h := h4 c9
    cases h
    exact fs1
theorem gn_fX8_child_68 {F : Nat} {t0 : Int32} {σ : qS} {r : Int32 × Nat × qS} (h : fX8_child_68 F t0 σ = some r) : (r.2.2.2 0 0 = σ.2 0 0 ∧ r.2.2.2 1 0 = σ.2 1 0) := by
  unfold fX8_child_68 at h
  cases h
  exact ⟨rfl, rfl⟩
theorem gn_fX8_child {F : Nat} {p1 : Int32} {p2 : Int32} {p3 : Int32} {σ : qS} {r : Int32 × Nat × qS} (h : fX8_child F p1 p2 p3 σ = some r) : (r.2.2.2 0 0 = σ.2 0 0 ∧ r.2.2.2 1 0 = σ.2 1 0) := by
  unfold fX8_child at h
  obtain ⟨i2, w1, s1, gs1, h3, h4⟩ := bnd3_some h
  have fs1 : (s1.2 0 0 = σ.2 0 0 ∧ s1.2 1 0 = σ.2 1 0) := gn_fX8_known gs1
  by_cases c9 : w1 = 0
  · replace h := h3 c9
    rcases ite_some h with ⟨-, h⟩ | ⟨-, h⟩
    · obtain ⟨w0, w1, s4, gs4, h3, h4⟩ := bnd3_some h
      have fs4 : (s4.2 0 0 = σ.2 0 0 ∧ s4.2 1 0 = σ.2 1 0) := n01_tr fs1 (gn_fX8_wake gs4)
      by_cases c9 : w1 = 0
      · replace h := h3 c9
        obtain ⟨-, h⟩ := gnl_some h
        obtain ⟨i5, ei5, h⟩ := nm_some h
        clear ei5
        obtain ⟨-, h⟩ := gnl_some h
        obtain ⟨-, h⟩ := gnl_some h
        obtain ⟨v6, ev6, h⟩ := nm_some h
        clear ev6
        obtain ⟨-, h⟩ := gnl_some h
        obtain ⟨v8, s7, gs7, h⟩ := bnd2_some h
        have fs7 : (s7.2 0 0 = σ.2 0 0 ∧ s7.2 1 0 = σ.2 1 0) := n01_tr fs4 (gn_fX7_readingRefused gs7)
        clear gs7
        rcases ite_some h with ⟨-, h⟩ | ⟨-, h⟩
        · obtain ⟨-, h⟩ := gnl_some h
          obtain ⟨v11, s10, gs10, h⟩ := bnd2_some h
          have fs10 : (s10.2 0 0 = σ.2 0 0 ∧ s10.2 1 0 = σ.2 1 0) := n01_tr fs7 (gn_fX7_childAt gs10)
          clear gs10
          exact n01_tr fs10 (gn_fX8_child_68 h)
        · exact n01_tr fs7 (gn_fX8_child_68 h)
      · replace h := h4 c9
        cases h
        exact fs4
    · cases h
      exact fs1
  · replace h := h4 c9
    cases h
    exact fs1
theorem gn_fX8_want_44 {F : Nat} {x1 : Int32} {rx4 : Nat} {rt0 : Nat} {t1 : Int32} {t2 : Int32} {t3 : Int32} {σ : qS} {r : Int32 × Nat × qS} (h : fX8_want_44 F x1 rx4 rt0 t1 t2 t3 σ = some r) : (r.2.2.2 0 0 = σ.2 0 0 ∧ r.2.2.2 1 0 = σ.2 1 0) := by
  unfold fX8_want_44 at h
  obtain ⟨-, h⟩ := gnl_some h
  obtain ⟨s8, gs8, h⟩ := bnd_some h
  have fs8 : (s8.2 0 0 = σ.2 0 0 ∧ s8.2 1 0 = σ.2 1 0) := gn_fX0_toMake gs8
  clear gs8
  obtain ⟨s9, es9, h⟩ := nm_some h
  have fs9 : (s9.2 0 0 = σ.2 0 0 ∧ s9.2 1 0 = σ.2 1 0) := n01_tr fs8 (show (s9.2 0 0 = s8.2 0 0 ∧ s9.2 1 0 = s8.2 1 0) from by rw [es9]; exact ⟨rfl, rfl⟩)
  clear es9
  obtain ⟨v11, s10, gs10, h⟩ := bnd2_some h
  have fs10 : (s10.2 0 0 = σ.2 0 0 ∧ s10.2 1 0 = σ.2 1 0) := n01_tr fs9 (gn_fX8_submit gs10)
  clear gs10
  cases h
  exact fs10
theorem gn_fX8_want {F : Nat} {p1 : Int32} {p2 : Int32} {p3 : Int32} {σ : qS} {r : Int32 × Nat × qS} (h : fX8_want F p1 p2 p3 σ = some r) : (r.2.2.2 0 0 = σ.2 0 0 ∧ r.2.2.2 1 0 = σ.2 1 0) := by
  unfold fX8_want at h
  obtain ⟨i2, w1, s1, gs1, h3, h4⟩ := bnd3_some h
  have fs1 : (s1.2 0 0 = σ.2 0 0 ∧ s1.2 1 0 = σ.2 1 0) := gn_fX8_known gs1
  by_cases c9 : w1 = 0
  · replace h := h3 c9
    obtain ⟨w0, w1, s3, gs3, h3, h4⟩ := bnd3_some h
    have fs3 : (s3.2 0 0 = σ.2 0 0 ∧ s3.2 1 0 = σ.2 1 0) := n01_tr fs1 (gn_fX8_mustLive gs3)
    by_cases c9 : w1 = 0
    · replace h := h3 c9
      obtain ⟨w0, w1, s4, gs4, h3, h4⟩ := bnd3_some h
      have fs4 : (s4.2 0 0 = σ.2 0 0 ∧ s4.2 1 0 = σ.2 1 0) := n01_tr fs3 (gn_fX8_mustNotGather gs4)
      by_cases c9 : w1 = 0
      · replace h := h3 c9
        obtain ⟨v5, ev5, h⟩ := nm_some h
        clear ev5
        obtain ⟨-, h⟩ := gnl_some h
        obtain ⟨s6, es6, h⟩ := nm_some h
        have fs6 : (s6.2 0 0 = σ.2 0 0 ∧ s6.2 1 0 = σ.2 1 0) := n01_tr fs4 (show (s6.2 0 0 = s4.2 0 0 ∧ s6.2 1 0 = s4.2 1 0) from by rw [es6]; exact ⟨rfl, rfl⟩)
        clear es6
        rcases ite_some h with ⟨-, h⟩ | ⟨-, h⟩
        · exact n01_tr fs6 (gn_fX8_want_44 h)
        · exact n01_tr fs6 (gn_fX8_want_44 h)
      · replace h := h4 c9
        cases h
        exact fs4
    · replace h := h4 c9
      cases h
      exact fs3
  · replace h := h4 c9
    cases h
    exact fs1
theorem gn_fX8_has_40 {F : Nat} {x4 : Int32} {rt1 : Nat} {t2 : Int32} {t3 : Int32} {σ : qS} {r : Int32 × Nat × qS} (h : fX8_has_40 F x4 rt1 t2 t3 σ = some r) : (r.2.2.2 0 0 = σ.2 0 0 ∧ r.2.2.2 1 0 = σ.2 1 0) := by
  unfold fX8_has_40 at h
  obtain ⟨s8, gs8, h⟩ := bnd_some h
  have fs8 : (s8.2 0 0 = σ.2 0 0 ∧ s8.2 1 0 = σ.2 1 0) := gn_fX8_believe gs8
  clear gs8
  cases h
  exact fs8
theorem gn_fX8_has {F : Nat} {p1 : Int32} {p2 : Int32} {σ : qS} {r : Int32 × Nat × qS} (h : fX8_has F p1 p2 σ = some r) : (r.2.2.2 0 0 = σ.2 0 0 ∧ r.2.2.2 1 0 = σ.2 1 0) := by
  unfold fX8_has at h
  obtain ⟨i2, w1, s1, gs1, h3, h4⟩ := bnd3_some h
  have fs1 : (s1.2 0 0 = σ.2 0 0 ∧ s1.2 1 0 = σ.2 1 0) := gn_fX8_known gs1
  by_cases c9 : w1 = 0
  · replace h := h3 c9
    obtain ⟨w0, w1, s3, gs3, h3, h4⟩ := bnd3_some h
    have fs3 : (s3.2 0 0 = σ.2 0 0 ∧ s3.2 1 0 = σ.2 1 0) := n01_tr fs1 (gn_fX8_wake gs3)
    by_cases c9 : w1 = 0
    · replace h := h3 c9
      obtain ⟨-, h⟩ := gnl_some h
      obtain ⟨i4, ei4, h⟩ := nm_some h
      clear ei4
      obtain ⟨-, h⟩ := gnl_some h
      obtain ⟨-, h⟩ := gnl_some h
      obtain ⟨v6, s5, gs5, h⟩ := bnd2_some h
      have fs5 : (s5.2 0 0 = σ.2 0 0 ∧ s5.2 1 0 = σ.2 1 0) := n01_tr fs3 (gn_fX7_fenceOf gs5)
      clear gs5
      rcases ite_some h with ⟨-, h⟩ | ⟨-, h⟩
      · exact n01_tr fs5 (gn_fX8_has_40 h)
      · exact n01_tr fs5 (gn_fX8_has_40 h)
    · replace h := h4 c9
      cases h
      exact fs3
  · replace h := h4 c9
    cases h
    exact fs1
theorem gn_fX8_giveUp {F : Nat} {p1 : Int32} {p2 : Int32} {σ : qS} {r : Int32 × Nat × qS} (h : fX8_giveUp F p1 p2 σ = some r) : (r.2.2.2 0 0 = σ.2 0 0 ∧ r.2.2.2 1 0 = σ.2 1 0) := by
  unfold fX8_giveUp at h
  obtain ⟨i2, w1, s1, gs1, h3, h4⟩ := bnd3_some h
  have fs1 : (s1.2 0 0 = σ.2 0 0 ∧ s1.2 1 0 = σ.2 1 0) := gn_fX8_known gs1
  by_cases c9 : w1 = 0
  · replace h := h3 c9
    obtain ⟨w0, w1, s3, gs3, h3, h4⟩ := bnd3_some h
    have fs3 : (s3.2 0 0 = σ.2 0 0 ∧ s3.2 1 0 = σ.2 1 0) := n01_tr fs1 (gn_fX8_wake gs3)
    by_cases c9 : w1 = 0
    · replace h := h3 c9
      obtain ⟨s4, gs4, h⟩ := bnd_some h
      have fs4 : (s4.2 0 0 = σ.2 0 0 ∧ s4.2 1 0 = σ.2 1 0) := n01_tr fs3 (gn_fX8_believe gs4)
      clear gs4
      obtain ⟨v6, s5, gs5, h⟩ := bnd2_some h
      have fs5 : (s5.2 0 0 = σ.2 0 0 ∧ s5.2 1 0 = σ.2 1 0) := n01_tr fs4 (gn_fX7_firstOf gs5)
      clear gs5
      rcases ite_some h with ⟨-, h⟩ | ⟨-, h⟩
      · cases h
        exact fs5
      · obtain ⟨v9, s8, gs8, h⟩ := bnd2_some h
        have fs8 : (s8.2 0 0 = σ.2 0 0 ∧ s8.2 1 0 = σ.2 1 0) := n01_tr fs5 (gn_fX8_letGo gs8)
        clear gs8
        obtain ⟨s10, gs10, h⟩ := bnd_some h
        have fs10 : (s10.2 0 0 = σ.2 0 0 ∧ s10.2 1 0 = σ.2 1 0) := n01_tr fs8 (gn_fX8_commit gs10)
        clear gs10
        obtain ⟨-, h⟩ := gnl_some h
        obtain ⟨i11, ei11, h⟩ := nm_some h
        clear ei11
        obtain ⟨v12, ev12, h⟩ := nm_some h
        clear ev12
        obtain ⟨v14, s13, gs13, h⟩ := bnd2_some h
        have fs13 : (s13.2 0 0 = σ.2 0 0 ∧ s13.2 1 0 = σ.2 1 0) := n01_tr fs10 (gn_fX8_catchUp gs13)
        clear gs13
        cases h
        exact fs13
    · replace h := h4 c9
      cases h
      exact fs3
  · replace h := h4 c9
    cases h
    exact fs1
theorem gn_fX8_isOpen_55 {F : Nat} {t0 : Int32} {σ : qS} {r : Int32 × Nat × qS} (h : fX8_isOpen_55 F t0 σ = some r) : (r.2.2.2 0 0 = σ.2 0 0 ∧ r.2.2.2 1 0 = σ.2 1 0) := by
  unfold fX8_isOpen_55 at h
  obtain ⟨-, h⟩ := gbl_some h
  cases h
  exact ⟨rfl, rfl⟩
theorem gn_fX8_isOpen {F : Nat} {p1 : Int32} {p2 : Int32} {p3 : Int32} {σ : qS} {r : Int32 × Nat × qS} (h : fX8_isOpen F p1 p2 p3 σ = some r) : (r.2.2.2 0 0 = σ.2 0 0 ∧ r.2.2.2 1 0 = σ.2 1 0) := by
  unfold fX8_isOpen at h
  obtain ⟨i2, w1, s1, gs1, h3, h4⟩ := bnd3_some h
  have fs1 : (s1.2 0 0 = σ.2 0 0 ∧ s1.2 1 0 = σ.2 1 0) := gn_fX8_known gs1
  by_cases c9 : w1 = 0
  · replace h := h3 c9
    obtain ⟨v4, s3, gs3, h⟩ := bnd2_some h
    have fs3 : (s3.2 0 0 = σ.2 0 0 ∧ s3.2 1 0 = σ.2 1 0) := n01_tr fs1 (gn_fX8_isWithin gs3)
    clear gs3
    rcases ite_some h with ⟨-, h⟩ | ⟨-, h⟩
    · cases h
      exact fs3
    · obtain ⟨w0, w1, s6, gs6, h3, h4⟩ := bnd3_some h
      have fs6 : (s6.2 0 0 = σ.2 0 0 ∧ s6.2 1 0 = σ.2 1 0) := n01_tr fs3 (gn_fX8_wake gs6)
      by_cases c9 : w1 = 0
      · replace h := h3 c9
        obtain ⟨-, h⟩ := gnl_some h
        obtain ⟨i7, ei7, h⟩ := nm_some h
        clear ei7
        obtain ⟨-, h⟩ := gnl_some h
        obtain ⟨-, h⟩ := gnl_some h
        obtain ⟨v9, s8, gs8, h⟩ := bnd2_some h
        have fs8 : (s8.2 0 0 = σ.2 0 0 ∧ s8.2 1 0 = σ.2 1 0) := n01_tr fs6 (gn_fX7_childrenOf gs8)
        clear gs8
        rcases ite_some h with ⟨-, h⟩ | ⟨-, h⟩
        · exact n01_tr fs8 (gn_fX8_isOpen_55 h)
        · exact n01_tr fs8 (gn_fX8_isOpen_55 h)
      · replace h := h4 c9
        cases h
        exact fs6
  · replace h := h4 c9
    cases h
    exact fs1
theorem gn_fX8_takeFirst_126 {F : Nat} {t0 : Int32} {σ : qS} {r : Int32 × Nat × qS} (h : fX8_takeFirst_126 F t0 σ = some r) : (r.2.2.2 0 0 = σ.2 0 0 ∧ r.2.2.2 1 0 = σ.2 1 0) := by
  unfold fX8_takeFirst_126 at h
  cases h
  exact ⟨rfl, rfl⟩
theorem gn_fX8_takeFirst {F : Nat} {p1 : Int32} {p2 : Int32} {σ : qS} {r : Int32 × Nat × qS} (h : fX8_takeFirst F p1 p2 σ = some r) : (r.2.2.2 0 0 = σ.2 0 0 ∧ r.2.2.2 1 0 = σ.2 1 0) := by
  unfold fX8_takeFirst at h
  obtain ⟨i2, w1, s1, gs1, h3, h4⟩ := bnd3_some h
  have fs1 : (s1.2 0 0 = σ.2 0 0 ∧ s1.2 1 0 = σ.2 1 0) := gn_fX8_known gs1
  by_cases c9 : w1 = 0
  · replace h := h3 c9
    obtain ⟨w0, w1, s3, gs3, h3, h4⟩ := bnd3_some h
    have fs3 : (s3.2 0 0 = σ.2 0 0 ∧ s3.2 1 0 = σ.2 1 0) := n01_tr fs1 (gn_fX8_mustLive gs3)
    by_cases c9 : w1 = 0
    · replace h := h3 c9
      obtain ⟨w0, w1, s4, gs4, h3, h4⟩ := bnd3_some h
      have fs4 : (s4.2 0 0 = σ.2 0 0 ∧ s4.2 1 0 = σ.2 1 0) := n01_tr fs3 (gn_fX8_mustNotGather gs4)
      by_cases c9 : w1 = 0
      · replace h := h3 c9
        obtain ⟨v5, ev5, h⟩ := nm_some h
        clear ev5
        obtain ⟨-, h⟩ := gnl_some h
        obtain ⟨s6, es6, h⟩ := nm_some h
        have fs6 : (s6.2 0 0 = σ.2 0 0 ∧ s6.2 1 0 = σ.2 1 0) := n01_tr fs4 (show (s6.2 0 0 = s4.2 0 0 ∧ s6.2 1 0 = s4.2 1 0) from by rw [es6]; exact ⟨rfl, rfl⟩)
        clear es6
        obtain ⟨v8, s7, gs7, h⟩ := bnd2_some h
        have fs7 : (s7.2 0 0 = σ.2 0 0 ∧ s7.2 1 0 = σ.2 1 0) := n01_tr fs6 (gn_fX7_holds gs7)
        clear gs7
        rcases ite_some h with ⟨-, h⟩ | ⟨-, h⟩
        · cases h
          exact fs7
        · obtain ⟨-, h⟩ := gnl_some h
          obtain ⟨v10, ev10, h⟩ := nm_some h
          clear ev10
          obtain ⟨v12, s11, gs11, h⟩ := bnd2_some h
          have fs11 : (s11.2 0 0 = σ.2 0 0 ∧ s11.2 1 0 = σ.2 1 0) := n01_tr fs7 (gn_fX7_mayWrite gs11)
          clear gs11
          rcases ite_some h with ⟨-, h⟩ | ⟨-, h⟩
          · cases h
            exact fs11
          · obtain ⟨v15, s14, gs14, h⟩ := bnd2_some h
            have fs14 : (s14.2 0 0 = σ.2 0 0 ∧ s14.2 1 0 = σ.2 1 0) := n01_tr fs11 (gn_fX7_firstWithoutChildren gs14)
            clear gs14
            obtain ⟨v17, s16, gs16, h⟩ := bnd2_some h
            have fs16 : (s16.2 0 0 = σ.2 0 0 ∧ s16.2 1 0 = σ.2 1 0) := n01_tr fs14 (gn_fX7_holds gs16)
            clear gs16
            rcases ite_some h with ⟨-, h⟩ | ⟨-, h⟩
            · cases h
              exact fs16
            · obtain ⟨-, h⟩ := ldi_some h
              obtain ⟨s20, gs20, h⟩ := bnd_some h
              have fs20 : (s20.2 0 0 = σ.2 0 0 ∧ s20.2 1 0 = σ.2 1 0) := n01_tr fs16 (gn_fX0_toDo gs20)
              clear gs20
              obtain ⟨v22, s21, gs21, h⟩ := bnd2_some h
              have fs21 : (s21.2 0 0 = σ.2 0 0 ∧ s21.2 1 0 = σ.2 1 0) := n01_tr fs20 (gn_fX8_submit gs21)
              clear gs21
              rcases ite_some h with ⟨-, h⟩ | ⟨-, h⟩
              · exact n01_tr fs21 (gn_fX8_takeFirst_126 h)
              · exact n01_tr fs21 (gn_fX8_takeFirst_126 h)
      · replace h := h4 c9
        cases h
        exact fs4
    · replace h := h4 c9
      cases h
      exact fs3
  · replace h := h4 c9
    cases h
    exact fs1
theorem gn_fX8_store {F : Nat} {p1 : Int32} {p2 : Int32} {σ : qS} {r : Int32 × Nat × qS} (h : fX8_store F p1 p2 σ = some r) : (r.2.2.2 0 0 = σ.2 0 0 ∧ r.2.2.2 1 0 = σ.2 1 0) := by
  unfold fX8_store at h
  obtain ⟨v2, s1, gs1, h⟩ := bnd2_some h
  have fs1 : (s1.2 0 0 = σ.2 0 0 ∧ s1.2 1 0 = σ.2 1 0) := gn_fX8_isWithin gs1
  clear gs1
  rcases ite_some h with ⟨-, h⟩ | ⟨-, h⟩
  · cases h
    exact fs1
  · obtain ⟨v4, ev4, h⟩ := nm_some h
    clear ev4
    rcases ite_some h with ⟨-, h⟩ | ⟨-, h⟩
    · obtain ⟨s6, es6, h⟩ := nm_some h
      have fs6 : (s6.2 0 0 = σ.2 0 0 ∧ s6.2 1 0 = σ.2 1 0) := n01_tr fs1 (show (s6.2 0 0 = s1.2 0 0 ∧ s6.2 1 0 = s1.2 1 0) from by rw [es6]; exact ⟨rfl, rfl⟩)
      clear es6
      obtain ⟨s7, es7, h⟩ := nm_some h
      have fs7 : (s7.2 0 0 = σ.2 0 0 ∧ s7.2 1 0 = σ.2 1 0) := n01_tr fs6 (show (s7.2 0 0 = s6.2 0 0 ∧ s7.2 1 0 = s6.2 1 0) from by rw [es7]; exact ⟨rfl, rfl⟩)
      clear es7
      obtain ⟨-, h⟩ := gbl_some h
      cases h
      exact fs7
    · obtain ⟨-, h⟩ := gbl_some h
      cases h
      exact fs1
theorem gn_fX8_mustBeChange {F : Nat} {p1 : Int32} {σ : qS} {r : Int32 × Nat × qS} (h : fX8_mustBeChange F p1 σ = some r) : (r.2.2.2 0 0 = σ.2 0 0 ∧ r.2.2.2 1 0 = σ.2 1 0) := by
  unfold fX8_mustBeChange at h
  obtain ⟨v1, ev1, h⟩ := nm_some h
  clear ev1
  obtain ⟨v3, s2, gs2, h⟩ := bnd2_some h
  have fs2 : (s2.2 0 0 = σ.2 0 0 ∧ s2.2 1 0 = σ.2 1 0) := gn_fX8_isWithin gs2
  clear gs2
  rcases ite_some h with ⟨-, h⟩ | ⟨-, h⟩
  · cases h
    exact fs2
  · cases h
    exact fs2
theorem gn_fX8_mustBeKept {F : Nat} {p1 : Int32} {σ : qS} {r : Int32 × Nat × qS} (h : fX8_mustBeKept F p1 σ = some r) : (r.2.2.2 0 0 = σ.2 0 0 ∧ r.2.2.2 1 0 = σ.2 1 0) := by
  unfold fX8_mustBeKept at h
  obtain ⟨v1, ev1, h⟩ := nm_some h
  clear ev1
  rcases ite_some h with ⟨-, h⟩ | ⟨-, h⟩
  · cases h
    exact ⟨rfl, rfl⟩
  · cases h
    exact ⟨rfl, rfl⟩
theorem gn_fX8_valueAt_141 {F : Nat} {x3 : Int32} {σ : qS} {r : Int32 × Nat × qS} (h : fX8_valueAt_141 F x3 σ = some r) : (r.2.2.2 0 0 = σ.2 0 0 ∧ r.2.2.2 1 0 = σ.2 1 0) := by
  unfold fX8_valueAt_141 at h
  cases h
  exact ⟨rfl, rfl⟩
theorem gn_fX8_valueAt_135 {F : Nat} {k53 : Int32 → Int32 → Int32 → Int32 → qS → Option (Int32 × Nat × qS)} {x1 : Int32} {x2 : Int32} {x3 : Int32} {x4 : Int32} {σ : qS} {r : Int32 × Nat × qS} (hk53 : ∀ a0 a1 a2 a3 σ r, k53 a0 a1 a2 a3 σ = some r → (r.2.2.2 0 0 = σ.2 0 0 ∧ r.2.2.2 1 0 = σ.2 1 0)) (h : fX8_valueAt_135 F k53 x1 x2 x3 x4 σ = some r) : (r.2.2.2 0 0 = σ.2 0 0 ∧ r.2.2.2 1 0 = σ.2 1 0) := by
  unfold fX8_valueAt_135 at h
  obtain ⟨v14, ev14, h⟩ := nm_some h
  clear ev14
  exact hk53 x1 x2 x3 v14 σ _ h
theorem gn_fX8_valueAt_134 {F : Nat} {k53 : Int32 → Int32 → Int32 → Int32 → qS → Option (Int32 × Nat × qS)} {x1 : Int32} {x2 : Int32} {x4 : Int32} {t0 : Int32} {σ : qS} {r : Int32 × Nat × qS} (hk53 : ∀ a0 a1 a2 a3 σ r, k53 a0 a1 a2 a3 σ = some r → (r.2.2.2 0 0 = σ.2 0 0 ∧ r.2.2.2 1 0 = σ.2 1 0)) (h : fX8_valueAt_134 F k53 x1 x2 x4 t0 σ = some r) : (r.2.2.2 0 0 = σ.2 0 0 ∧ r.2.2.2 1 0 = σ.2 1 0) := by
  unfold fX8_valueAt_134 at h
  exact gn_fX8_valueAt_135 hk53 h
theorem gn_fX8_valueAt_53 {F : Nat} : ∀ (n : Nat) (x1 : Int32) (x2 : Int32) (x3 : Int32) (x4 : Int32) (σ : qS) (r : Int32 × Nat × qS), fX8_valueAt_53 F n x1 x2 x3 x4 σ = some r → (r.2.2.2 0 0 = σ.2 0 0 ∧ r.2.2.2 1 0 = σ.2 1 0) := by
  intro n
  induction n with
  | zero => intro x1 x2 x3 x4 σ r h; exact absurd h (by rw [fX8_valueAt_53]; exact nofun)
  | succ n ih =>
    intro x1 x2 x3 x4 σ r h
    rw [fX8_valueAt_53] at h
    obtain ⟨v8, ev8, h⟩ := nm_some h
    clear ev8
    rcases ite_some h with ⟨-, h⟩ | ⟨-, h⟩
    · exact gn_fX8_valueAt_141 h
    · obtain ⟨-, h⟩ := ldi_some h
      rcases ite_some h with ⟨-, h⟩ | ⟨-, h⟩
      · exact gn_fX8_valueAt_141 h
      · obtain ⟨-, h⟩ := ldi_some h
        rcases ite_some h with ⟨-, h⟩ | ⟨-, h⟩
        · obtain ⟨v16, s15, gs15, h⟩ := bnd2_some h
          have fs15 : (s15.2 0 0 = σ.2 0 0 ∧ s15.2 1 0 = σ.2 1 0) := gn_fX3_tells gs15
          clear gs15
          rcases ite_some h with ⟨-, h⟩ | ⟨-, h⟩
          · exact n01_tr fs15 (gn_fX8_valueAt_135 (fun a0 a1 a2 a3 σ r h => ih a0 a1 a2 a3 σ r h) h)
          · obtain ⟨-, h⟩ := ldi_some h
            rcases ite_some h with ⟨-, h⟩ | ⟨-, h⟩
            · exact n01_tr fs15 (gn_fX8_valueAt_134 (fun a0 a1 a2 a3 σ r h => ih a0 a1 a2 a3 σ r h) h)
            · obtain ⟨-, h⟩ := ldi_some h
              exact n01_tr fs15 (gn_fX8_valueAt_134 (fun a0 a1 a2 a3 σ r h => ih a0 a1 a2 a3 σ r h) h)
        · exact gn_fX8_valueAt_135 (fun a0 a1 a2 a3 σ r h => ih a0 a1 a2 a3 σ r h) h
theorem gn_fX8_valueAt_49 {F : Nat} {x1 : Int32} {x2 : Int32} {t0 : Int32} {σ : qS} {r : Int32 × Nat × qS} (h : fX8_valueAt_49 F x1 x2 t0 σ = some r) : (r.2.2.2 0 0 = σ.2 0 0 ∧ r.2.2.2 1 0 = σ.2 1 0) := by
  unfold fX8_valueAt_49 at h
  exact gn_fX8_valueAt_53 _ _ _ _ _ _ _ h
theorem gn_fX8_valueAt {F : Nat} {p1 : Int32} {p2 : Int32} {σ : qS} {r : Int32 × Nat × qS} (h : fX8_valueAt F p1 p2 σ = some r) : (r.2.2.2 0 0 = σ.2 0 0 ∧ r.2.2.2 1 0 = σ.2 1 0) := by
  unfold fX8_valueAt at h
  obtain ⟨w0, w1, s1, gs1, h3, h4⟩ := bnd3_some h
  have fs1 : (s1.2 0 0 = σ.2 0 0 ∧ s1.2 1 0 = σ.2 1 0) := gn_fX8_mustBeChange gs1
  by_cases c9 : w1 = 0
  · replace h := h3 c9
    obtain ⟨w0, w1, s2, gs2, h3, h4⟩ := bnd3_some h
    have fs2 : (s2.2 0 0 = σ.2 0 0 ∧ s2.2 1 0 = σ.2 1 0) := n01_tr fs1 (gn_fX8_mustBeKept gs2)
    by_cases c9 : w1 = 0
    · replace h := h3 c9
      obtain ⟨v4, s3, gs3, h⟩ := bnd2_some h
      have fs3 : (s3.2 0 0 = σ.2 0 0 ∧ s3.2 1 0 = σ.2 1 0) := n01_tr fs2 (gn_fX8_isWithin gs3)
      clear gs3
      rcases ite_some h with ⟨-, h⟩ | ⟨-, h⟩
      · cases h
        exact fs3
      · obtain ⟨-, h⟩ := ldi_some h
        rcases ite_some h with ⟨-, h⟩ | ⟨-, h⟩
        · exact n01_tr fs3 (gn_fX8_valueAt_49 h)
        · obtain ⟨-, h⟩ := ldi_some h
          exact n01_tr fs3 (gn_fX8_valueAt_49 h)
    · replace h := h4 c9
      cases h
      exact fs2
  · replace h := h4 c9
    cases h
    exact fs1
theorem gn_fX8_changedAt_111 {F : Nat} {k34 : Int32 → Int32 → Int32 → Int32 → Int32 → qS → Option (Int32 × Nat × qS)} {x1 : Int32} {x3 : Int32} {x4 : Int32} {x5 : Int32} {x6 : Int32} {σ : qS} {r : Int32 × Nat × qS} (hk34 : ∀ a0 a1 a2 a3 a4 σ r, k34 a0 a1 a2 a3 a4 σ = some r → (r.2.2.2 0 0 = σ.2 0 0 ∧ r.2.2.2 1 0 = σ.2 1 0)) (h : fX8_changedAt_111 F k34 x1 x3 x4 x5 x6 σ = some r) : (r.2.2.2 0 0 = σ.2 0 0 ∧ r.2.2.2 1 0 = σ.2 1 0) := by
  unfold fX8_changedAt_111 at h
  obtain ⟨v8, ev8, h⟩ := nm_some h
  clear ev8
  exact hk34 x1 x3 x4 x5 v8 σ _ h
theorem gn_fX8_changedAt_34 {F : Nat} : ∀ (n : Nat) (x1 : Int32) (x3 : Int32) (x4 : Int32) (x5 : Int32) (x6 : Int32) (σ : qS) (r : Int32 × Nat × qS), fX8_changedAt_34 F n x1 x3 x4 x5 x6 σ = some r → (r.2.2.2 0 0 = σ.2 0 0 ∧ r.2.2.2 1 0 = σ.2 1 0) := by
  intro n
  induction n with
  | zero => intro x1 x3 x4 x5 x6 σ r h; exact absurd h (by rw [fX8_changedAt_34]; exact nofun)
  | succ n ih =>
    intro x1 x3 x4 x5 x6 σ r h
    rw [fX8_changedAt_34] at h
    obtain ⟨v4, ev4, h⟩ := nm_some h
    clear ev4
    rcases ite_some h with ⟨-, h⟩ | ⟨-, h⟩
    · cases h
      exact ⟨rfl, rfl⟩
    · obtain ⟨-, h⟩ := ldi_some h
      rcases ite_some h with ⟨-, h⟩ | ⟨-, h⟩
      · obtain ⟨v10, s9, gs9, h⟩ := bnd2_some h
        have fs9 : (s9.2 0 0 = σ.2 0 0 ∧ s9.2 1 0 = σ.2 1 0) := gn_fX3_tells gs9
        clear gs9
        rcases ite_some h with ⟨-, h⟩ | ⟨-, h⟩
        · exact n01_tr fs9 (gn_fX8_changedAt_111 (fun a0 a1 a2 a3 a4 σ r h => ih a0 a1 a2 a3 a4 σ r h) h)
        · obtain ⟨-, h⟩ := ldi_some h
          rcases ite_some h with ⟨-, h⟩ | ⟨-, h⟩
          · exact n01_tr fs9 (gn_fX8_changedAt_111 (fun a0 a1 a2 a3 a4 σ r h => ih a0 a1 a2 a3 a4 σ r h) h)
          · obtain ⟨-, h⟩ := ldi_some h
            obtain ⟨v15, ev15, h⟩ := nm_some h
            clear ev15
            rcases ite_some h with ⟨-, h⟩ | ⟨-, h⟩
            · cases h
              exact fs9
            · exact n01_tr fs9 (gn_fX8_changedAt_111 (fun a0 a1 a2 a3 a4 σ r h => ih a0 a1 a2 a3 a4 σ r h) h)
      · exact gn_fX8_changedAt_111 (fun a0 a1 a2 a3 a4 σ r h => ih a0 a1 a2 a3 a4 σ r h) h
theorem gn_fX8_changedAt {F : Nat} {p1 : Int32} {p2 : Int32} {p3 : Int32} {σ : qS} {r : Int32 × Nat × qS} (h : fX8_changedAt F p1 p2 p3 σ = some r) : (r.2.2.2 0 0 = σ.2 0 0 ∧ r.2.2.2 1 0 = σ.2 1 0) := by
  unfold fX8_changedAt at h
  rcases ite_some h with ⟨-, h⟩ | ⟨-, h⟩
  · obtain ⟨w0, w1, s2, gs2, h3, h4⟩ := bnd3_some h
    have fs2 : (s2.2 0 0 = σ.2 0 0 ∧ s2.2 1 0 = σ.2 1 0) := gn_fX8_mustBeChange gs2
    by_cases c9 : w1 = 0
    · replace h := h3 c9
      obtain ⟨w0, w1, s3, gs3, h3, h4⟩ := bnd3_some h
      have fs3 : (s3.2 0 0 = σ.2 0 0 ∧ s3.2 1 0 = σ.2 1 0) := n01_tr fs2 (gn_fX8_mustBeKept gs3)
      by_cases c9 : w1 = 0
      · replace h := h3 c9
        exact n01_tr fs3 (gn_fX8_changedAt_34 _ _ _ _ _ _ _ _ h)
      · replace h := h4 c9
        cases h
        exact fs3
    · replace h := h4 c9
      cases h
      exact fs2
  · cases h
    exact ⟨rfl, rfl⟩
theorem gn_fX8_compact {F : Nat} {p1 : Int32} {σ : qS} {r : Int32 × Nat × qS} (h : fX8_compact F p1 σ = some r) : (r.2.2.2 0 0 = σ.2 0 0 ∧ r.2.2.2 1 0 = σ.2 1 0) := by
  unfold fX8_compact at h
  obtain ⟨w0, w1, s1, gs1, h3, h4⟩ := bnd3_some h
  have fs1 : (s1.2 0 0 = σ.2 0 0 ∧ s1.2 1 0 = σ.2 1 0) := gn_fX8_mustBeChange gs1
  by_cases c9 : w1 = 0
  · replace h := h3 c9
    obtain ⟨v2, ev2, h⟩ := nm_some h
    clear ev2
    obtain ⟨v3, ev3, h⟩ := nm_some h
    clear ev3
    obtain ⟨s4, es4, h⟩ := nm_some h
    have fs4 : (s4.2 0 0 = σ.2 0 0 ∧ s4.2 1 0 = σ.2 1 0) := n01_tr fs1 (show (s4.2 0 0 = s1.2 0 0 ∧ s4.2 1 0 = s1.2 1 0) from by rw [es4]; exact ⟨rfl, rfl⟩)
    clear es4
    obtain ⟨v5, ev5, h⟩ := nm_some h
    clear ev5
    cases h
    exact fs4
  · replace h := h4 c9
    cases h
    exact fs1
theorem gn_fX8_restore_132 {F : Nat} : ∀ (n : Nat) (x1 : Int32) (σ : qS) (r : Int32 × Nat × qS), fX8_restore_132 F n x1 σ = some r → (r.2.2.2 0 0 = σ.2 0 0 ∧ r.2.2.2 1 0 = σ.2 1 0) := by
  intro n
  induction n with
  | zero => intro x1 σ r h; exact absurd h (by rw [fX8_restore_132]; exact nofun)
  | succ n ih =>
    intro x1 σ r h
    rw [fX8_restore_132] at h
    rcases ite_some h with ⟨-, h⟩ | ⟨-, h⟩
    · obtain ⟨v16, ev16, h⟩ := nm_some h
      clear ev16
      cases h
      exact ⟨rfl, rfl⟩
    · obtain ⟨-, h⟩ := inx_some h
      obtain ⟨i17, ei17, h⟩ := nm_some h
      clear ei17
      obtain ⟨-, h⟩ := gnl_some h
      obtain ⟨-, h⟩ := gnl_some h
      obtain ⟨s18, gs18, h⟩ := bnd_some h
      have fs18 : (s18.2 0 0 = σ.2 0 0 ∧ s18.2 1 0 = σ.2 1 0) := gn_fX7_copyFrom gs18
      clear gs18
      obtain ⟨-, h⟩ := inx_some h
      obtain ⟨i19, ei19, h⟩ := nm_some h
      clear ei19
      obtain ⟨v20, ev20, h⟩ := nm_some h
      clear ev20
      obtain ⟨-, h⟩ := gnl_some h
      obtain ⟨s21, es21, h⟩ := nm_some h
      have fs21 : (s21.2 0 0 = σ.2 0 0 ∧ s21.2 1 0 = σ.2 1 0) := n01_tr fs18 (show (s21.2 0 0 = s18.2 0 0 ∧ s21.2 1 0 = s18.2 1 0) from by rw [es21]; exact ⟨rfl, rfl⟩)
      clear es21
      obtain ⟨-, h⟩ := inx_some h
      obtain ⟨i22, ei22, h⟩ := nm_some h
      clear ei22
      obtain ⟨-, h⟩ := gnl_some h
      obtain ⟨s23, es23, h⟩ := nm_some h
      have fs23 : (s23.2 0 0 = σ.2 0 0 ∧ s23.2 1 0 = σ.2 1 0) := n01_tr fs21 (show (s23.2 0 0 = s21.2 0 0 ∧ s23.2 1 0 = s21.2 1 0) from by rw [es23]; exact ⟨rfl, rfl⟩)
      clear es23
      obtain ⟨v24, ev24, h⟩ := nm_some h
      clear ev24
      exact n01_tr fs23 (ih _ _ _ h)
theorem gn_fX8_restore_72 {F : Nat} : ∀ (n : Nat) (x1 : Int32) (σ : qS) (r : Int32 × Nat × qS), fX8_restore_72 F n x1 σ = some r → (r.2.2.2 0 0 = σ.2 0 0 ∧ r.2.2.2 1 0 = σ.2 1 0) := by
  intro n
  induction n with
  | zero => intro x1 σ r h; exact absurd h (by rw [fX8_restore_72]; exact nofun)
  | succ n ih =>
    intro x1 σ r h
    rw [fX8_restore_72] at h
    obtain ⟨v10, ev10, h⟩ := nm_some h
    clear ev10
    rcases ite_some h with ⟨-, h⟩ | ⟨-, h⟩
    · obtain ⟨s12, gs12, h⟩ := bnd_some h
      have fs12 : (s12.2 0 0 = σ.2 0 0 ∧ s12.2 1 0 = σ.2 1 0) := gn_fX7_copyFrom gs12
      clear gs12
      obtain ⟨s13, gs13, h⟩ := bnd_some h
      have fs13 : (s13.2 0 0 = σ.2 0 0 ∧ s13.2 1 0 = σ.2 1 0) := n01_tr fs12 (gn_fX7_dropHeld gs13)
      clear gs13
      obtain ⟨s14, es14, h⟩ := nm_some h
      have fs14 : (s14.2 0 0 = σ.2 0 0 ∧ s14.2 1 0 = σ.2 1 0) := n01_tr fs13 (show (s14.2 0 0 = s13.2 0 0 ∧ s14.2 1 0 = s13.2 1 0) from by rw [es14]; exact ⟨rfl, rfl⟩)
      clear es14
      exact n01_tr fs14 (gn_fX8_restore_132 _ _ _ _ h)
    · obtain ⟨-, h⟩ := gnl_some h
      obtain ⟨-, h⟩ := inx_some h
      obtain ⟨i25, ei25, h⟩ := nm_some h
      clear ei25
      obtain ⟨-, h⟩ := gnl_some h
      obtain ⟨-, h⟩ := gnl_some h
      obtain ⟨-, h⟩ := gbl_some h
      obtain ⟨s26, es26, h⟩ := nm_some h
      have fs26 : (s26.2 0 0 = σ.2 0 0 ∧ s26.2 1 0 = σ.2 1 0) := show (s26.2 0 0 = σ.2 0 0 ∧ s26.2 1 0 = σ.2 1 0) from by rw [es26]; exact ⟨rfl, rfl⟩
      clear es26
      obtain ⟨v27, ev27, h⟩ := nm_some h
      clear ev27
      exact n01_tr fs26 (ih _ _ _ h)
theorem gn_fX8_restore_38 {F : Nat} : ∀ (n : Nat) (x1 : Int32) (σ : qS) (r : Int32 × Nat × qS), fX8_restore_38 F n x1 σ = some r → (r.2.2.2 0 0 = σ.2 0 0 ∧ r.2.2.2 1 0 = σ.2 1 0) := by
  intro n
  induction n with
  | zero => intro x1 σ r h; exact absurd h (by rw [fX8_restore_38]; exact nofun)
  | succ n ih =>
    intro x1 σ r h
    rw [fX8_restore_38] at h
    obtain ⟨v8, ev8, h⟩ := nm_some h
    clear ev8
    rcases ite_some h with ⟨-, h⟩ | ⟨-, h⟩
    · exact gn_fX8_restore_72 _ _ _ _ h
    · obtain ⟨-, h⟩ := gnl_some h
      obtain ⟨-, h⟩ := inx_some h
      obtain ⟨i28, ei28, h⟩ := nm_some h
      clear ei28
      obtain ⟨-, h⟩ := gnl_some h
      obtain ⟨-, h⟩ := gnl_some h
      obtain ⟨-, h⟩ := gbl_some h
      obtain ⟨s29, es29, h⟩ := nm_some h
      have fs29 : (s29.2 0 0 = σ.2 0 0 ∧ s29.2 1 0 = σ.2 1 0) := show (s29.2 0 0 = σ.2 0 0 ∧ s29.2 1 0 = σ.2 1 0) from by rw [es29]; exact ⟨rfl, rfl⟩
      clear es29
      obtain ⟨v30, ev30, h⟩ := nm_some h
      clear ev30
      exact n01_tr fs29 (ih _ _ _ h)
theorem gn_fX8_restore {F : Nat} {σ : qS} {r : Int32 × Nat × qS} (h : fX8_restore F σ = some r) : (r.2.2.2 0 0 = σ.2 0 0 ∧ r.2.2.2 1 0 = σ.2 1 0) := by
  unfold fX8_restore at h
  obtain ⟨v1, ev1, h⟩ := nm_some h
  clear ev1
  rcases ite_some h with ⟨-, h⟩ | ⟨-, h⟩
  · cases h
    exact ⟨rfl, rfl⟩
  · obtain ⟨v3, ev3, h⟩ := nm_some h
    clear ev3
    obtain ⟨v4, ev4, h⟩ := nm_some h
    clear ev4
    obtain ⟨s5, es5, h⟩ := nm_some h
    have fs5 : (s5.2 0 0 = σ.2 0 0 ∧ s5.2 1 0 = σ.2 1 0) := show (s5.2 0 0 = σ.2 0 0 ∧ s5.2 1 0 = σ.2 1 0) from by rw [es5]; exact ⟨rfl, rfl⟩
    clear es5
    obtain ⟨v6, ev6, h⟩ := nm_some h
    clear ev6
    obtain ⟨s7, es7, h⟩ := nm_some h
    have fs7 : (s7.2 0 0 = σ.2 0 0 ∧ s7.2 1 0 = σ.2 1 0) := n01_tr fs5 (show (s7.2 0 0 = s5.2 0 0 ∧ s7.2 1 0 = s5.2 1 0) from by rw [es7]; exact ⟨rfl, rfl⟩)
    clear es7
    exact n01_tr fs7 (gn_fX8_restore_38 _ _ _ _ h)
theorem gn_fX4_add_48 {F : Nat} {i0 : Nat} {σ : qS} {r : qS} (h : fX4_add_48 F i0 σ = some r) : (r.2 0 0 = σ.2 0 0 ∧ r.2 1 0 = σ.2 1 0) := by
  unfold fX4_add_48 at h
  cases h
  exact ⟨rfl, rfl⟩
theorem gn_fX4_add_16 {F : Nat} {i0 : Nat} {x1 : Int32} {σ : qS} {r : qS} (h : fX4_add_16 F i0 x1 σ = some r) : (r.2 0 0 = σ.2 0 0 ∧ r.2 1 0 = σ.2 1 0) := by
  unfold fX4_add_16 at h
  obtain ⟨-, h⟩ := gnl_some h
  obtain ⟨v4, ev4, h⟩ := nm_some h
  clear ev4
  obtain ⟨-, h⟩ := gnl_some h
  obtain ⟨-, h⟩ := gnl_some h
  obtain ⟨v5, ev5, h⟩ := nm_some h
  clear ev5
  rcases ite_some h with ⟨-, h⟩ | ⟨-, h⟩
  · exact gn_fX4_add_48 h
  · obtain ⟨-, h⟩ := gnl_some h
    obtain ⟨-, h⟩ := gnl_some h
    obtain ⟨v7, ev7, h⟩ := nm_some h
    clear ev7
    obtain ⟨-, h⟩ := gnl_some h
    obtain ⟨-, h⟩ := inx_some h
    obtain ⟨s8, es8, h⟩ := nm_some h
    have fs8 : (s8.2 0 0 = σ.2 0 0 ∧ s8.2 1 0 = σ.2 1 0) := show (s8.2 0 0 = σ.2 0 0 ∧ s8.2 1 0 = σ.2 1 0) from by rw [es8]; exact ⟨rfl, rfl⟩
    clear es8
    obtain ⟨-, h⟩ := gnl_some h
    obtain ⟨v9, ev9, h⟩ := nm_some h
    clear ev9
    obtain ⟨v10, ev10, h⟩ := nm_some h
    clear ev10
    obtain ⟨-, h⟩ := gnl_some h
    obtain ⟨s11, es11, h⟩ := nm_some h
    have fs11 : (s11.2 0 0 = σ.2 0 0 ∧ s11.2 1 0 = σ.2 1 0) := n01_tr fs8 (show (s11.2 0 0 = s8.2 0 0 ∧ s11.2 1 0 = s8.2 1 0) from by rw [es11]; exact ⟨rfl, rfl⟩)
    clear es11
    exact n01_tr fs11 (gn_fX4_add_48 h)
theorem gn_fX4_add {F : Nat} {i0 : Nat} {p1 : Int32} {σ : qS} {r : qS} (h : fX4_add F i0 p1 σ = some r) : (r.2 0 0 = σ.2 0 0 ∧ r.2 1 0 = σ.2 1 0) := by
  unfold fX4_add at h
  obtain ⟨-, h⟩ := gnl_some h
  obtain ⟨v1, ev1, h⟩ := nm_some h
  clear ev1
  obtain ⟨-, h⟩ := gnl_some h
  obtain ⟨-, h⟩ := gnl_some h
  obtain ⟨v2, ev2, h⟩ := nm_some h
  clear ev2
  rcases ite_some h with ⟨-, h⟩ | ⟨-, h⟩
  · exact gn_fX4_add_16 h
  · obtain ⟨-, h⟩ := gnl_some h
    obtain ⟨s12, gs12, h⟩ := bnd_some h
    have fs12 : (s12.2 0 0 = σ.2 0 0 ∧ s12.2 1 0 = σ.2 1 0) := gn_fX4_makeRoom gs12
    clear gs12
    exact n01_tr fs12 (gn_fX4_add_16 h)
theorem gn_fX6_hearOf_104 {F : Nat} {i0 : Nat} {x4 : Int32} {σ : qS} {r : qS} (h : fX6_hearOf_104 F i0 x4 σ = some r) : (r.2 0 0 = σ.2 0 0 ∧ r.2 1 0 = σ.2 1 0) := by
  unfold fX6_hearOf_104 at h
  obtain ⟨-, h⟩ := gnl_some h
  obtain ⟨s3, es3, h⟩ := nm_some h
  have fs3 : (s3.2 0 0 = σ.2 0 0 ∧ s3.2 1 0 = σ.2 1 0) := show (s3.2 0 0 = σ.2 0 0 ∧ s3.2 1 0 = σ.2 1 0) from by rw [es3]; exact ⟨rfl, rfl⟩
  clear es3
  cases h
  exact fs3
theorem gn_fX6_hearOf_98 {F : Nat} {i0 : Nat} {k6 : Int32 → Int32 → Int32 → Int32 → qS → Option qS} {x1 : Int32} {x2 : Int32} {x4 : Int32} {x5 : Int32} {σ : qS} {r : qS} (hk6 : ∀ a0 a1 a2 a3 σ r, k6 a0 a1 a2 a3 σ = some r → (r.2 0 0 = σ.2 0 0 ∧ r.2 1 0 = σ.2 1 0)) (h : fX6_hearOf_98 F i0 k6 x1 x2 x4 x5 σ = some r) : (r.2 0 0 = σ.2 0 0 ∧ r.2 1 0 = σ.2 1 0) := by
  unfold fX6_hearOf_98 at h
  obtain ⟨v14, ev14, h⟩ := nm_some h
  clear ev14
  exact hk6 x1 x2 x4 v14 σ _ h
theorem gn_fX6_hearOf_67 {F : Nat} {i0 : Nat} {k6 : Int32 → Int32 → Int32 → Int32 → qS → Option qS} {x1 : Int32} {x2 : Int32} {x4 : Int32} {x5 : Int32} {σ : qS} {r : qS} (hk6 : ∀ a0 a1 a2 a3 σ r, k6 a0 a1 a2 a3 σ = some r → (r.2 0 0 = σ.2 0 0 ∧ r.2 1 0 = σ.2 1 0)) (h : fX6_hearOf_67 F i0 k6 x1 x2 x4 x5 σ = some r) : (r.2 0 0 = σ.2 0 0 ∧ r.2 1 0 = σ.2 1 0) := by
  unfold fX6_hearOf_67 at h
  obtain ⟨-, h⟩ := gnl_some h
  obtain ⟨-, h⟩ := gnl_some h
  obtain ⟨-, h⟩ := gnl_some h
  obtain ⟨-, h⟩ := ldi_some h
  obtain ⟨-, h⟩ := gnl_some h
  obtain ⟨-, h⟩ := inx_some h
  obtain ⟨s10, es10, h⟩ := nm_some h
  have fs10 : (s10.2 0 0 = σ.2 0 0 ∧ s10.2 1 0 = σ.2 1 0) := show (s10.2 0 0 = σ.2 0 0 ∧ s10.2 1 0 = σ.2 1 0) from by rw [es10]; exact ⟨rfl, rfl⟩
  clear es10
  obtain ⟨-, h⟩ := gnl_some h
  obtain ⟨-, h⟩ := gnl_some h
  obtain ⟨-, h⟩ := gnl_some h
  obtain ⟨-, h⟩ := ldi_some h
  obtain ⟨-, h⟩ := gnl_some h
  obtain ⟨-, h⟩ := inx_some h
  obtain ⟨s12, es12, h⟩ := nm_some h
  have fs12 : (s12.2 0 0 = σ.2 0 0 ∧ s12.2 1 0 = σ.2 1 0) := n01_tr fs10 (show (s12.2 0 0 = s10.2 0 0 ∧ s12.2 1 0 = s10.2 1 0) from by rw [es12]; exact ⟨rfl, rfl⟩)
  clear es12
  obtain ⟨v13, ev13, h⟩ := nm_some h
  clear ev13
  exact n01_tr fs12 (gn_fX6_hearOf_98 hk6 h)
theorem gn_fX6_hearOf_51 {F : Nat} {i0 : Nat} {k6 : Int32 → Int32 → Int32 → Int32 → qS → Option qS} {x1 : Int32} {x2 : Int32} {x4 : Int32} {x5 : Int32} {x6 : Int32} {σ : qS} {r : qS} (hk6 : ∀ a0 a1 a2 a3 σ r, k6 a0 a1 a2 a3 σ = some r → (r.2 0 0 = σ.2 0 0 ∧ r.2 1 0 = σ.2 1 0)) (h : fX6_hearOf_51 F i0 k6 x1 x2 x4 x5 x6 σ = some r) : (r.2 0 0 = σ.2 0 0 ∧ r.2 1 0 = σ.2 1 0) := by
  unfold fX6_hearOf_51 at h
  rcases ite_some h with ⟨-, h⟩ | ⟨-, h⟩
  · exact gn_fX6_hearOf_67 hk6 h
  · obtain ⟨-, h⟩ := gnl_some h
    obtain ⟨-, h⟩ := gnl_some h
    obtain ⟨-, h⟩ := ldi_some h
    rcases ite_some h with ⟨-, h⟩ | ⟨-, h⟩
    · exact gn_fX6_hearOf_67 hk6 h
    · exact gn_fX6_hearOf_98 hk6 h
theorem gn_fX6_hearOf_6 {F : Nat} {i0 : Nat} : ∀ (n : Nat) (x1 : Int32) (x2 : Int32) (x4 : Int32) (x5 : Int32) (σ : qS) (r : qS), fX6_hearOf_6 F i0 n x1 x2 x4 x5 σ = some r → (r.2 0 0 = σ.2 0 0 ∧ r.2 1 0 = σ.2 1 0) := by
  intro n
  induction n with
  | zero => intro x1 x2 x4 x5 σ r h; exact absurd h (by rw [fX6_hearOf_6]; exact nofun)
  | succ n ih =>
    intro x1 x2 x4 x5 σ r h
    rw [fX6_hearOf_6] at h
    obtain ⟨-, h⟩ := gnl_some h
    obtain ⟨v1, ev1, h⟩ := nm_some h
    clear ev1
    rcases ite_some h with ⟨-, h⟩ | ⟨-, h⟩
    · exact gn_fX6_hearOf_104 h
    · rcases ite_some h with ⟨-, h⟩ | ⟨-, h⟩
      · exact gn_fX6_hearOf_104 h
      · obtain ⟨-, h⟩ := gnl_some h
        obtain ⟨v6, s5, gs5, h⟩ := bnd2_some h
        have fs5 : (s5.2 0 0 = σ.2 0 0 ∧ s5.2 1 0 = σ.2 1 0) := gn_fX6_watchesFor gs5
        clear gs5
        rcases ite_some h with ⟨-, h⟩ | ⟨-, h⟩
        · exact n01_tr fs5 (gn_fX6_hearOf_51 (fun a0 a1 a2 a3 σ r h => ih a0 a1 a2 a3 σ r h) h)
        · obtain ⟨-, h⟩ := gnl_some h
          obtain ⟨v17, ev17, h⟩ := nm_some h
          clear ev17
          obtain ⟨v18, ev18, h⟩ := nm_some h
          clear ev18
          obtain ⟨-, h⟩ := gnl_some h
          obtain ⟨s19, gs19, h⟩ := bnd_some h
          have fs19 : (s19.2 0 0 = σ.2 0 0 ∧ s19.2 1 0 = σ.2 1 0) := n01_tr fs5 (gn_fX4_add gs19)
          clear gs19
          exact n01_tr fs19 (gn_fX6_hearOf_51 (fun a0 a1 a2 a3 σ r h => ih a0 a1 a2 a3 σ r h) h)
theorem gn_fX6_hearOf {F : Nat} {i0 : Nat} {p1 : Int32} {p2 : Int32} {σ : qS} {r : qS} (h : fX6_hearOf F i0 p1 p2 σ = some r) : (r.2 0 0 = σ.2 0 0 ∧ r.2 1 0 = σ.2 1 0) := by
  unfold fX6_hearOf at h
  exact gn_fX6_hearOf_6 _ _ _ _ _ _ _ h
theorem gn_fX8_tellWatches_70 {F : Nat} {i1 : Nat} {σ : qS} {r : qS} (h : fX8_tellWatches_70 F i1 σ = some r) : (r.2 0 0 = σ.2 0 0 ∧ r.2 1 0 = σ.2 1 0) := by
  unfold fX8_tellWatches_70 at h
  obtain ⟨-, h⟩ := gnl_some h
  obtain ⟨i4, ei4, h⟩ := nm_some h
  clear ei4
  obtain ⟨-, h⟩ := gnl_some h
  obtain ⟨v5, ev5, h⟩ := nm_some h
  clear ev5
  obtain ⟨-, h⟩ := gnl_some h
  obtain ⟨s6, es6, h⟩ := nm_some h
  have fs6 : (s6.2 0 0 = σ.2 0 0 ∧ s6.2 1 0 = σ.2 1 0) := show (s6.2 0 0 = σ.2 0 0 ∧ s6.2 1 0 = σ.2 1 0) from by rw [es6]; exact ⟨rfl, rfl⟩
  clear es6
  cases h
  exact fs6
theorem gn_fX8_tellWatches_64 {F : Nat} {i1 : Nat} {k5 : Int32 → qS → Option qS} {x2 : Int32} {σ : qS} {r : qS} (hk5 : ∀ a0 σ r, k5 a0 σ = some r → (r.2 0 0 = σ.2 0 0 ∧ r.2 1 0 = σ.2 1 0)) (h : fX8_tellWatches_64 F i1 k5 x2 σ = some r) : (r.2 0 0 = σ.2 0 0 ∧ r.2 1 0 = σ.2 1 0) := by
  unfold fX8_tellWatches_64 at h
  obtain ⟨v13, ev13, h⟩ := nm_some h
  clear ev13
  exact hk5 v13 σ _ h
theorem gn_fX8_tellWatches_5 {F : Nat} {i1 : Nat} : ∀ (n : Nat) (x2 : Int32) (σ : qS) (r : qS), fX8_tellWatches_5 F i1 n x2 σ = some r → (r.2 0 0 = σ.2 0 0 ∧ r.2 1 0 = σ.2 1 0) := by
  intro n
  induction n with
  | zero => intro x2 σ r h; exact absurd h (by rw [fX8_tellWatches_5]; exact nofun)
  | succ n ih =>
    intro x2 σ r h
    rw [fX8_tellWatches_5] at h
    obtain ⟨v2, ev2, h⟩ := nm_some h
    clear ev2
    rcases ite_some h with ⟨-, h⟩ | ⟨-, h⟩
    · exact gn_fX8_tellWatches_70 h
    · obtain ⟨-, h⟩ := gnl_some h
      obtain ⟨i7, ei7, h⟩ := nm_some h
      clear ei7
      obtain ⟨-, h⟩ := gnl_some h
      obtain ⟨v8, ev8, h⟩ := nm_some h
      clear ev8
      rcases ite_some h with ⟨-, h⟩ | ⟨-, h⟩
      · exact gn_fX8_tellWatches_70 h
      · obtain ⟨v11, s10, gs10, h⟩ := bnd2_some h
        have fs10 : (s10.2 0 0 = σ.2 0 0 ∧ s10.2 1 0 = σ.2 1 0) := gn_fX3_tells gs10
        clear gs10
        rcases ite_some h with ⟨-, h⟩ | ⟨-, h⟩
        · exact n01_tr fs10 (gn_fX8_tellWatches_64 (fun a0 σ r h => ih a0 σ r h) h)
        · obtain ⟨-, h⟩ := ldi_some h
          obtain ⟨-, h⟩ := ldi_some h
          obtain ⟨-, h⟩ := gnl_some h
          obtain ⟨s16, gs16, h⟩ := bnd_some h
          have fs16 : (s16.2 0 0 = σ.2 0 0 ∧ s16.2 1 0 = σ.2 1 0) := n01_tr fs10 (gn_fX6_hearOf gs16)
          clear gs16
          exact n01_tr fs16 (gn_fX8_tellWatches_64 (fun a0 σ r h => ih a0 σ r h) h)
theorem gn_fX8_tellWatches {F : Nat} {i1 : Nat} {σ : qS} {r : qS} (h : fX8_tellWatches F i1 σ = some r) : (r.2 0 0 = σ.2 0 0 ∧ r.2 1 0 = σ.2 1 0) := by
  unfold fX8_tellWatches at h
  obtain ⟨-, h⟩ := gnl_some h
  obtain ⟨v1, ev1, h⟩ := nm_some h
  clear ev1
  exact gn_fX8_tellWatches_5 _ _ _ _ h
theorem gn_fX8_watch_104 {F : Nat} {t0 : Int32} {σ : qS} {r : Int32 × Nat × qS} (h : fX8_watch_104 F t0 σ = some r) : (r.2.2.2 0 0 = σ.2 0 0 ∧ r.2.2.2 1 0 = σ.2 1 0) := by
  unfold fX8_watch_104 at h
  cases h
  exact ⟨rfl, rfl⟩
theorem gn_fX8_watch_38 {F : Nat} {x2 : Int32} {x3 : Int32} {rx4 : Nat} {σ : qS} {r : Int32 × Nat × qS} (h : fX8_watch_38 F x2 x3 rx4 σ = some r) : (r.2.2.2 0 0 = σ.2 0 0 ∧ r.2.2.2 1 0 = σ.2 1 0) := by
  unfold fX8_watch_38 at h
  obtain ⟨-, h⟩ := gnl_some h
  obtain ⟨v8, ev8, h⟩ := nm_some h
  clear ev8
  rcases ite_some h with ⟨-, h⟩ | ⟨-, h⟩
  · obtain ⟨v10, ev10, h⟩ := nm_some h
    clear ev10
    obtain ⟨-, h⟩ := gnl_some h
    obtain ⟨s11, es11, h⟩ := nm_some h
    have fs11 : (s11.2 0 0 = σ.2 0 0 ∧ s11.2 1 0 = σ.2 1 0) := show (s11.2 0 0 = σ.2 0 0 ∧ s11.2 1 0 = σ.2 1 0) from by rw [es11]; exact ⟨rfl, rfl⟩
    clear es11
    obtain ⟨-, h⟩ := gnl_some h
    obtain ⟨i12, ei12, h⟩ := nm_some h
    clear ei12
    obtain ⟨-, h⟩ := gnl_some h
    obtain ⟨-, h⟩ := gnl_some h
    obtain ⟨v13, ev13, h⟩ := nm_some h
    clear ev13
    obtain ⟨-, h⟩ := gnl_some h
    obtain ⟨v15, s14, gs14, h⟩ := bnd2_some h
    have fs14 : (s14.2 0 0 = σ.2 0 0 ∧ s14.2 1 0 = σ.2 1 0) := n01_tr fs11 (gn_fX7_readingRefused gs14)
    clear gs14
    rcases ite_some h with ⟨-, h⟩ | ⟨-, h⟩
    · obtain ⟨-, h⟩ := gnl_some h
      obtain ⟨v18, s17, gs17, h⟩ := bnd2_some h
      have fs17 : (s17.2 0 0 = σ.2 0 0 ∧ s17.2 1 0 = σ.2 1 0) := n01_tr fs14 (gn_fX6_addWatch gs17)
      clear gs17
      exact n01_tr fs17 (gn_fX8_watch_104 h)
    · exact n01_tr fs14 (gn_fX8_watch_104 h)
  · cases h
    exact ⟨rfl, rfl⟩
theorem gn_fX8_watch {F : Nat} {p1 : Int32} {p2 : Int32} {p3 : Int32} {σ : qS} {r : Int32 × Nat × qS} (h : fX8_watch F p1 p2 p3 σ = some r) : (r.2.2.2 0 0 = σ.2 0 0 ∧ r.2.2.2 1 0 = σ.2 1 0) := by
  unfold fX8_watch at h
  obtain ⟨i2, w1, s1, gs1, h3, h4⟩ := bnd3_some h
  have fs1 : (s1.2 0 0 = σ.2 0 0 ∧ s1.2 1 0 = σ.2 1 0) := gn_fX8_known gs1
  by_cases c9 : w1 = 0
  · replace h := h3 c9
    obtain ⟨v4, s3, gs3, h⟩ := bnd2_some h
    have fs3 : (s3.2 0 0 = σ.2 0 0 ∧ s3.2 1 0 = σ.2 1 0) := n01_tr fs1 (gn_fX8_isWithin gs3)
    clear gs3
    rcases ite_some h with ⟨-, h⟩ | ⟨-, h⟩
    · cases h
      exact fs3
    · obtain ⟨w0, w1, s6, gs6, h3, h4⟩ := bnd3_some h
      have fs6 : (s6.2 0 0 = σ.2 0 0 ∧ s6.2 1 0 = σ.2 1 0) := n01_tr fs3 (gn_fX8_mustLive gs6)
      by_cases c9 : w1 = 0
      · replace h := h3 c9
        obtain ⟨s7, gs7, h⟩ := bnd_some h
        have fs7 : (s7.2 0 0 = σ.2 0 0 ∧ s7.2 1 0 = σ.2 1 0) := n01_tr fs6 (gn_fX8_tellWatches gs7)
        clear gs7
        exact n01_tr fs7 (gn_fX8_watch_38 h)
      · replace h := h4 c9
        cases h
        exact fs6
  · replace h := h4 c9
    cases h
    exact fs1
theorem gn_fX8_hear_16 {F : Nat} {rx2 : Nat} {σ : qS} {r : Int32 × Nat × qS} (h : fX8_hear_16 F rx2 σ = some r) : (r.2.2.2 0 0 = σ.2 0 0 ∧ r.2.2.2 1 0 = σ.2 1 0) := by
  unfold fX8_hear_16 at h
  obtain ⟨-, h⟩ := gnl_some h
  obtain ⟨-, h⟩ := gnl_some h
  obtain ⟨v6, s5, gs5, h⟩ := bnd2_some h
  have fs5 : (s5.2 0 0 = σ.2 0 0 ∧ s5.2 1 0 = σ.2 1 0) := gn_fX4_takeOldest gs5
  clear gs5
  cases h
  exact fs5
theorem gn_fX8_hear {F : Nat} {p1 : Int32} {σ : qS} {r : Int32 × Nat × qS} (h : fX8_hear F p1 σ = some r) : (r.2.2.2 0 0 = σ.2 0 0 ∧ r.2.2.2 1 0 = σ.2 1 0) := by
  unfold fX8_hear at h
  obtain ⟨i2, w1, s1, gs1, h3, h4⟩ := bnd3_some h
  have fs1 : (s1.2 0 0 = σ.2 0 0 ∧ s1.2 1 0 = σ.2 1 0) := gn_fX8_known gs1
  by_cases c9 : w1 = 0
  · replace h := h3 c9
    obtain ⟨w0, w1, s3, gs3, h3, h4⟩ := bnd3_some h
    have fs3 : (s3.2 0 0 = σ.2 0 0 ∧ s3.2 1 0 = σ.2 1 0) := n01_tr fs1 (gn_fX8_wake gs3)
    by_cases c9 : w1 = 0
    · replace h := h3 c9
      obtain ⟨s4, gs4, h⟩ := bnd_some h
      have fs4 : (s4.2 0 0 = σ.2 0 0 ∧ s4.2 1 0 = σ.2 1 0) := n01_tr fs3 (gn_fX8_tellWatches gs4)
      clear gs4
      exact n01_tr fs4 (gn_fX8_hear_16 h)
    · replace h := h4 c9
      cases h
      exact fs3
  · replace h := h4 c9
    cases h
    exact fs1

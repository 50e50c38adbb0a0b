/-! WHICH THROWS A METHOD HAS -/
theorem gx_fX8_knownServer_9 {F : Nat} {σ : qS} {r : Nat × Nat × qS} (h : fX8_knownServer_9 F σ = some r) : r.2.1 ∈ ([0, 1] : List Nat) := by
  unfold fX8_knownServer_9 at h
  cases h
  exact (by decide : 1 ∈ [0, 1])
theorem gx_fX8_knownServer {F : Nat} {p1 : Int32} {σ : qS} {r : Nat × Nat × qS} (h : fX8_knownServer F p1 σ = some r) : r.2.1 ∈ ([0, 1] : List Nat) := by
  unfold fX8_knownServer at h
  rcases ite_some h with ⟨-, h⟩ | ⟨-, h⟩
  · exact gx_fX8_knownServer_9 h
  · rcases ite_some h with ⟨-, h⟩ | ⟨-, h⟩
    · obtain ⟨-, h⟩ := inx_some h
      obtain ⟨i3, -, h⟩ := nm_some h
      cases h
      exact (by decide : 0 ∈ [0, 1])
    · exact gx_fX8_knownServer_9 h
theorem gx_fX8_known_15 {F : Nat} {σ : qS} {r : Nat × Nat × qS} (h : fX8_known_15 F σ = some r) : r.2.1 ∈ ([0, 1] : List Nat) := by
  unfold fX8_known_15 at h
  cases h
  exact (by decide : 1 ∈ [0, 1])
theorem gx_fX8_known {F : Nat} {p1 : Int32} {σ : qS} {r : Nat × Nat × qS} (h : fX8_known F p1 σ = some r) : r.2.1 ∈ ([0, 1] : List Nat) := by
  unfold fX8_known at h
  rcases ite_some h with ⟨-, h⟩ | ⟨-, h⟩
  · exact gx_fX8_known_15 h
  · obtain ⟨v2, -, h⟩ := nm_some h
    rcases ite_some h with ⟨-, h⟩ | ⟨-, h⟩
    · obtain ⟨-, h⟩ := gnl_some h
      obtain ⟨-, h⟩ := inx_some h
      obtain ⟨i4, -, h⟩ := nm_some h
      obtain ⟨-, h⟩ := gnl_some h
      cases h
      exact (by decide : 0 ∈ [0, 1])
    · exact gx_fX8_known_15 h
theorem gx_fX8_mustLive {F : Nat} {i1 : Nat} {σ : qS} {r : Int32 × Nat × qS} (h : fX8_mustLive F i1 σ = some r) : r.2.1 ∈ ([0, 3] : List Nat) := by
  unfold fX8_mustLive at h
  obtain ⟨-, h⟩ := gnl_some h
  obtain ⟨v1, -, h⟩ := nm_some h
  rcases ite_some h with ⟨-, h⟩ | ⟨-, h⟩
  · cases h
    exact (by decide : 0 ∈ [0, 3])
  · obtain ⟨s3, -, h⟩ := bnd_some h
    cases h
    exact (by decide : 3 ∈ [0, 3])
theorem gx_fX8_close {F : Nat} {p1 : Int32} {σ : qS} {r : Int32 × Nat × qS} (h : fX8_close F p1 σ = some r) : r.2.1 ∈ ([0, 1, 3] : List Nat) := by
  unfold fX8_close at h
  obtain ⟨i2, w1, s1, g9, h3, h4⟩ := bnd3_some h
  by_cases c9 : w1 = 0
  · replace h := h3 c9
    obtain ⟨w0, w1, s3, g9, h3, h4⟩ := bnd3_some h
    by_cases c9 : w1 = 0
    · replace h := h3 c9
      obtain ⟨s4, -, h⟩ := bnd_some h
      obtain ⟨v6, s5, -, h⟩ := bnd2_some h
      cases h
      exact (by decide : 0 ∈ [0, 1, 3])
    · have g8 := gx_fX8_mustLive g9
      replace h := h4 c9
      cases h
      exact (by decide : ∀ x ∈ [0, 3], x ∈ [0, 1, 3]) _ g8
  · have g8 := gx_fX8_known g9
    replace h := h4 c9
    cases h
    exact (by decide : ∀ x ∈ [0, 1], x ∈ [0, 1, 3]) _ g8
theorem gx_fX8_wake {F : Nat} {i1 : Nat} {σ : qS} {r : Int32 × Nat × qS} (h : fX8_wake F i1 σ = some r) : r.2.1 ∈ ([0, 3] : List Nat) := by
  unfold fX8_wake at h
  obtain ⟨w0, w1, s1, g9, h3, h4⟩ := bnd3_some h
  by_cases c9 : w1 = 0
  · replace h := h3 c9
    obtain ⟨v2, -, h⟩ := nm_some h
    obtain ⟨-, h⟩ := gnl_some h
    obtain ⟨s3, -, h⟩ := nm_some h
    cases h
    exact (by decide : 0 ∈ [0, 3])
  · have g8 := gx_fX8_mustLive g9
    replace h := h4 c9
    cases h
    exact (by decide : ∀ x ∈ [0, 3], x ∈ [0, 3]) _ g8
theorem gx_fX8_ping {F : Nat} {p1 : Int32} {σ : qS} {r : Int32 × Nat × qS} (h : fX8_ping F p1 σ = some r) : r.2.1 ∈ ([0, 1, 3] : List Nat) := by
  unfold fX8_ping at h
  obtain ⟨i2, w1, s1, g9, h3, h4⟩ := bnd3_some h
  by_cases c9 : w1 = 0
  · replace h := h3 c9
    obtain ⟨w0, w1, s3, g9, h3, h4⟩ := bnd3_some h
    by_cases c9 : w1 = 0
    · replace h := h3 c9
      obtain ⟨-, h⟩ := gnl_some h
      obtain ⟨i4, -, h⟩ := nm_some h
      obtain ⟨-, h⟩ := gnl_some h
      obtain ⟨v5, -, h⟩ := nm_some h
      cases h
      exact (by decide : 0 ∈ [0, 1, 3])
    · have g8 := gx_fX8_wake g9
      replace h := h4 c9
      cases h
      exact (by decide : ∀ x ∈ [0, 3], x ∈ [0, 1, 3]) _ g8
  · have g8 := gx_fX8_known g9
    replace h := h4 c9
    cases h
    exact (by decide : ∀ x ∈ [0, 1], x ∈ [0, 1, 3]) _ g8
theorem gx_fX8_move {F : Nat} {p1 : Int32} {p2 : Int32} {σ : qS} {r : Int32 × Nat × qS} (h : fX8_move F p1 p2 σ = some r) : r.2.1 ∈ ([0, 1, 3] : List Nat) := by
  unfold fX8_move at h
  obtain ⟨i2, w1, s1, g9, h3, h4⟩ := bnd3_some h
  by_cases c9 : w1 = 0
  · replace h := h3 c9
    obtain ⟨i4, w1, s3, g9, h3, h4⟩ := bnd3_some h
    by_cases c9 : w1 = 0
    · replace h := h3 c9
      obtain ⟨w0, w1, s5, g9, h3, h4⟩ := bnd3_some h
      by_cases c9 : w1 = 0
      · replace h := h3 c9
        obtain ⟨-, h⟩ := gnl_some h
        obtain ⟨v6, -, h⟩ := nm_some h
        obtain ⟨-, h⟩ := gnl_some h
        obtain ⟨i7, -, h⟩ := nm_some h
        obtain ⟨-, h⟩ := gnl_some h
        obtain ⟨v8, -, h⟩ := nm_some h
        rcases ite_some h with ⟨-, h⟩ | ⟨-, h⟩
        · obtain ⟨-, h⟩ := gnl_some h
          obtain ⟨s10, -, h⟩ := nm_some h
          obtain ⟨-, h⟩ := gbl_some h
          cases h
          exact (by decide : 0 ∈ [0, 1, 3])
        · obtain ⟨-, h⟩ := gbl_some h
          cases h
          exact (by decide : 0 ∈ [0, 1, 3])
      · have g8 := gx_fX8_wake g9
        replace h := h4 c9
        cases h
        exact (by decide : ∀ x ∈ [0, 3], x ∈ [0, 1, 3]) _ g8
    · have g8 := gx_fX8_knownServer g9
      replace h := h4 c9
      cases h
      exact (by decide : ∀ x ∈ [0, 1], x ∈ [0, 1, 3]) _ g8
  · have g8 := gx_fX8_known g9
    replace h := h4 c9
    cases h
    exact (by decide : ∀ x ∈ [0, 1], x ∈ [0, 1, 3]) _ g8
theorem gx_fX8_sync {F : Nat} {p1 : Int32} {σ : qS} {r : Int32 × Nat × qS} (h : fX8_sync F p1 σ = some r) : r.2.1 ∈ ([0, 1, 3] : List Nat) := by
  unfold fX8_sync at h
  obtain ⟨i2, w1, s1, g9, h3, h4⟩ := bnd3_some h
  by_cases c9 : w1 = 0
  · replace h := h3 c9
    obtain ⟨w0, w1, s3, g9, h3, h4⟩ := bnd3_some h
    by_cases c9 : w1 = 0
    · replace h := h3 c9
      obtain ⟨-, h⟩ := gnl_some h
      obtain ⟨i4, -, h⟩ := nm_some h
      obtain ⟨v5, -, h⟩ := nm_some h
      obtain ⟨v7, s6, -, h⟩ := bnd2_some h
      cases h
      exact (by decide : 0 ∈ [0, 1, 3])
    · have g8 := gx_fX8_wake g9
      replace h := h4 c9
      cases h
      exact (by decide : ∀ x ∈ [0, 3], x ∈ [0, 1, 3]) _ g8
  · have g8 := gx_fX8_known g9
    replace h := h4 c9
    cases h
    exact (by decide : ∀ x ∈ [0, 1], x ∈ [0, 1, 3]) _ g8
theorem gx_fX8_follow {F : Nat} {p1 : Int32} {p2 : Int32} {σ : qS} {r : Int32 × Nat × qS} (h : fX8_follow F p1 p2 σ = some r) : r.2.1 ∈ ([0, 1, 2] : List Nat) := by
  unfold fX8_follow at h
  obtain ⟨i2, w1, s1, g9, h3, h4⟩ := bnd3_some h
  by_cases c9 : w1 = 0
  · replace h := h3 c9
    obtain ⟨v4, s3, -, h⟩ := bnd2_some h
    rcases ite_some h with ⟨-, h⟩ | ⟨-, h⟩
    · cases h
      exact (by decide : 2 ∈ [0, 1, 2])
    · obtain ⟨v7, s6, -, h⟩ := bnd2_some h
      cases h
      exact (by decide : 0 ∈ [0, 1, 2])
  · have g8 := gx_fX8_knownServer g9
    replace h := h4 c9
    cases h
    exact (by decide : ∀ x ∈ [0, 1], x ∈ [0, 1, 2]) _ g8
theorem gx_fX8_pass_22 {F : Nat} : ∀ (n : Nat) (x1 : Int32) (x2 : Int32) (σ : qS) (r : Int32 × Nat × qS), fX8_pass_22 F n x1 x2 σ = some r → r.2.1 ∈ ([0, 2] : List Nat) := by
  intro n
  induction n with
  | zero => intro x1 x2 σ r h; exact absurd h (by rw [fX8_pass_22]; exact nofun)
  | succ n ih =>
    intro x1 x2 σ r h
    rw [fX8_pass_22] at h
    rcases ite_some h with ⟨-, h⟩ | ⟨-, h⟩
    · obtain ⟨v5, -, h⟩ := nm_some h
      cases h
      exact (by decide : 0 ∈ [0, 2])
    · obtain ⟨v6, -, h⟩ := nm_some h
      obtain ⟨v7, -, h⟩ := nm_some h
      obtain ⟨s8, -, h⟩ := nm_some h
      obtain ⟨s9, -, h⟩ := bnd_some h
      obtain ⟨s10, -, h⟩ := bnd_some h
      obtain ⟨v11, -, h⟩ := nm_some h
      exact ih _ _ _ _ h
theorem gx_fX8_pass {F : Nat} {p1 : Int32} {σ : qS} {r : Int32 × Nat × qS} (h : fX8_pass F p1 σ = some r) : r.2.1 ∈ ([0, 2] : List Nat) := by
  unfold fX8_pass at h
  obtain ⟨v2, s1, -, h⟩ := bnd2_some h
  rcases ite_some h with ⟨-, h⟩ | ⟨-, h⟩
  · cases h
    exact (by decide : 2 ∈ [0, 2])
  · exact gx_fX8_pass_22 _ _ _ _ _ h
theorem gx_fX8_knownLease_15 {F : Nat} {σ : qS} {r : Nat × Nat × qS} (h : fX8_knownLease_15 F σ = some r) : r.2.1 ∈ ([0, 1] : List Nat) := by
  unfold fX8_knownLease_15 at h
  cases h
  exact (by decide : 1 ∈ [0, 1])
theorem gx_fX8_knownLease {F : Nat} {p1 : Int32} {σ : qS} {r : Nat × Nat × qS} (h : fX8_knownLease F p1 σ = some r) : r.2.1 ∈ ([0, 1] : List Nat) := by
  unfold fX8_knownLease at h
  rcases ite_some h with ⟨-, h⟩ | ⟨-, h⟩
  · exact gx_fX8_knownLease_15 h
  · obtain ⟨v2, -, h⟩ := nm_some h
    rcases ite_some h with ⟨-, h⟩ | ⟨-, h⟩
    · obtain ⟨-, h⟩ := gnl_some h
      obtain ⟨-, h⟩ := inx_some h
      obtain ⟨i4, -, h⟩ := nm_some h
      obtain ⟨-, h⟩ := gnl_some h
      cases h
      exact (by decide : 0 ∈ [0, 1])
    · exact gx_fX8_knownLease_15 h
theorem gx_fX8_renew {F : Nat} {p1 : Int32} {σ : qS} {r : Int32 × Nat × qS} (h : fX8_renew F p1 σ = some r) : r.2.1 ∈ ([0, 1, 3] : List Nat) := by
  unfold fX8_renew at h
  obtain ⟨i2, w1, s1, g9, h3, h4⟩ := bnd3_some h
  by_cases c9 : w1 = 0
  · replace h := h3 c9
    obtain ⟨-, h⟩ := gnl_some h
    obtain ⟨v3, -, h⟩ := nm_some h
    rcases ite_some h with ⟨-, h⟩ | ⟨-, h⟩
    · obtain ⟨v5, -, h⟩ := nm_some h
      obtain ⟨-, h⟩ := gnl_some h
      obtain ⟨v6, -, h⟩ := nm_some h
      obtain ⟨v7, -, h⟩ := nm_some h
      obtain ⟨-, h⟩ := gnl_some h
      obtain ⟨s8, -, h⟩ := nm_some h
      obtain ⟨-, h⟩ := gnl_some h
      obtain ⟨v9, -, h⟩ := nm_some h
      cases h
      exact (by decide : 0 ∈ [0, 1, 3])
    · cases h
      exact (by decide : 3 ∈ [0, 1, 3])
  · have g8 := gx_fX8_knownLease g9
    replace h := h4 c9
    cases h
    exact (by decide : ∀ x ∈ [0, 1], x ∈ [0, 1, 3]) _ g8
theorem gx_fX8_mustBeName_25 {F : Nat} {σ : qS} {r : Int32 × Nat × qS} (h : fX8_mustBeName_25 F σ = some r) : r.2.1 ∈ ([0, 2] : List Nat) := by
  unfold fX8_mustBeName_25 at h
  cases h
  exact (by decide : 0 ∈ [0, 2])
theorem gx_fX8_mustBeName {F : Nat} {p1 : Int32} {p2 : Int32} {σ : qS} {r : Int32 × Nat × qS} (h : fX8_mustBeName F p1 p2 σ = some r) : r.2.1 ∈ ([0, 2] : List Nat) := by
  unfold fX8_mustBeName at h
  rcases ite_some h with ⟨-, h⟩ | ⟨-, h⟩
  · obtain ⟨v3, s2, -, h⟩ := bnd2_some h
    rcases ite_some h with ⟨-, h⟩ | ⟨-, h⟩
    · cases h
      exact (by decide : 2 ∈ [0, 2])
    · exact gx_fX8_mustBeName_25 h
  · exact gx_fX8_mustBeName_25 h
theorem gx_fX8_mustBeValue {F : Nat} {p1 : Int32} {σ : qS} {r : Int32 × Nat × qS} (h : fX8_mustBeValue F p1 σ = some r) : r.2.1 ∈ ([0, 2] : List Nat) := by
  unfold fX8_mustBeValue at h
  obtain ⟨v2, s1, -, h⟩ := bnd2_some h
  rcases ite_some h with ⟨-, h⟩ | ⟨-, h⟩
  · cases h
    exact (by decide : 2 ∈ [0, 2])
  · cases h
    exact (by decide : 0 ∈ [0, 2])
theorem gx_fX8_nextAct_63 {F : Nat} {i1 : Nat} {rt0 : Nat} {σ : qS} {r : Nat × Nat × qS} (h : fX8_nextAct_63 F i1 rt0 σ = some r) : r.2.1 ∈ ([0, 3] : List Nat) := by
  unfold fX8_nextAct_63 at h
  cases h
  exact (by decide : 0 ∈ [0, 3])
theorem gx_fX8_nextAct_32 {F : Nat} {i1 : Nat} {σ : qS} {r : Nat × Nat × qS} (h : fX8_nextAct_32 F i1 σ = some r) : r.2.1 ∈ ([0, 3] : List Nat) := by
  unfold fX8_nextAct_32 at h
  obtain ⟨v4, -, h⟩ := nm_some h
  obtain ⟨-, h⟩ := gnl_some h
  obtain ⟨s5, -, h⟩ := nm_some h
  obtain ⟨-, h⟩ := gnl_some h
  obtain ⟨v6, -, h⟩ := nm_some h
  rcases ite_some h with ⟨-, h⟩ | ⟨-, h⟩
  · exact gx_fX8_nextAct_63 h
  · obtain ⟨-, h⟩ := gnl_some h
    obtain ⟨-, h⟩ := gnl_some h
    obtain ⟨v8, -, h⟩ := nm_some h
    obtain ⟨-, h⟩ := gnl_some h
    obtain ⟨-, h⟩ := inx_some h
    obtain ⟨i9, -, h⟩ := nm_some h
    exact gx_fX8_nextAct_63 h
theorem gx_fX8_nextAct {F : Nat} {i1 : Nat} {σ : qS} {r : Nat × Nat × qS} (h : fX8_nextAct F i1 σ = some r) : r.2.1 ∈ ([0, 3] : List Nat) := by
  unfold fX8_nextAct at h
  obtain ⟨w0, w1, s1, g9, h3, h4⟩ := bnd3_some h
  by_cases c9 : w1 = 0
  · replace h := h3 c9
    obtain ⟨-, h⟩ := gnl_some h
    obtain ⟨v2, -, h⟩ := nm_some h
    rcases ite_some h with ⟨-, h⟩ | ⟨-, h⟩
    · exact gx_fX8_nextAct_32 h
    · obtain ⟨-, h⟩ := gnl_some h
      obtain ⟨v10, -, h⟩ := nm_some h
      rcases ite_some h with ⟨-, h⟩ | ⟨-, h⟩
      · exact gx_fX8_nextAct_32 h
      · cases h
        exact (by decide : 3 ∈ [0, 3])
  · have g8 := gx_fX8_mustLive g9
    replace h := h4 c9
    cases h
    exact (by decide : ∀ x ∈ [0, 3], x ∈ [0, 3]) _ g8
theorem gx_fX8_make_129 {F : Nat} {rx8 : Nat} {rx10 : Nat} {rt0 : Nat} {t1 : Int32} {σ : qS} {r : Int32 × Nat × qS} (h : fX8_make_129 F rx8 rx10 rt0 t1 σ = some r) : r.2.1 ∈ ([0, 1, 2, 3] : List Nat) := by
  unfold fX8_make_129 at h
  obtain ⟨-, h⟩ := gnl_some h
  obtain ⟨s15, -, h⟩ := nm_some h
  obtain ⟨v17, s16, -, h⟩ := bnd2_some h
  cases h
  exact (by decide : 0 ∈ [0, 1, 2, 3])
theorem gx_fX8_make_108 {F : Nat} {x1 : Int32} {x5 : Int32} {x6 : Int32} {x7 : Int32} {rx8 : Nat} {rx10 : Nat} {rt0 : Nat} {t1 : Int32} {t2 : Int32} {σ : qS} {r : Int32 × Nat × qS} (h : fX8_make_108 F x1 x5 x6 x7 rx8 rx10 rt0 t1 t2 σ = some r) : r.2.1 ∈ ([0, 1, 2, 3] : List Nat) := by
  unfold fX8_make_108 at h
  obtain ⟨-, h⟩ := gnl_some h
  obtain ⟨s13, -, h⟩ := bnd_some h
  rcases ite_some h with ⟨-, h⟩ | ⟨-, h⟩
  · exact gx_fX8_make_129 h
  · exact gx_fX8_make_129 h
theorem gx_fX8_make_85 {F : Nat} {x1 : Int32} {x2 : Int32} {x3 : Int32} {x4 : Int32} {x5 : Int32} {x6 : Int32} {x7 : Int32} {rx8 : Nat} {σ : qS} {r : Int32 × Nat × qS} (h : fX8_make_85 F x1 x2 x3 x4 x5 x6 x7 rx8 σ = some r) : r.2.1 ∈ ([0, 1, 2, 3] : List Nat) := by
  unfold fX8_make_85 at h
  obtain ⟨i11, w1, s10, g9, h3, h4⟩ := bnd3_some h
  by_cases c9 : w1 = 0
  · replace h := h3 c9
    rcases ite_some h with ⟨-, h⟩ | ⟨-, h⟩
    · exact gx_fX8_make_108 h
    · exact gx_fX8_make_108 h
  · have g8 := gx_fX8_nextAct g9
    replace h := h4 c9
    cases h
    exact (by decide : ∀ x ∈ [0, 3], x ∈ [0, 1, 2, 3]) _ g8
theorem gx_fX8_make {F : Nat} {p1 : Int32} {p2 : Int32} {p3 : Int32} {p4 : Int32} {p5 : Int32} {p6 : Int32} {p7 : Int32} {σ : qS} {r : Int32 × Nat × qS} (h : fX8_make F p1 p2 p3 p4 p5 p6 p7 σ = some r) : r.2.1 ∈ ([0, 1, 2, 3] : List Nat) := by
  unfold fX8_make at h
  obtain ⟨i2, w1, s1, g9, h3, h4⟩ := bnd3_some h
  by_cases c9 : w1 = 0
  · replace h := h3 c9
    obtain ⟨w0, w1, s3, g9, h3, h4⟩ := bnd3_some h
    by_cases c9 : w1 = 0
    · replace h := h3 c9
      obtain ⟨w0, w1, s4, g9, h3, h4⟩ := bnd3_some h
      by_cases c9 : w1 = 0
      · replace h := h3 c9
        obtain ⟨v6, s5, -, h⟩ := bnd2_some h
        rcases ite_some h with ⟨-, h⟩ | ⟨-, h⟩
        · cases h
          exact (by decide : 2 ∈ [0, 1, 2, 3])
        · rcases ite_some h with ⟨-, h⟩ | ⟨-, h⟩
          · obtain ⟨i19, w1, s18, g9, h3, h4⟩ := bnd3_some h
            by_cases c9 : w1 = 0
            · replace h := h3 c9
              obtain ⟨w0, w1, s20, g9, h3, h4⟩ := bnd3_some h
              by_cases c9 : w1 = 0
              · replace h := h3 c9
                obtain ⟨-, h⟩ := gnl_some h
                obtain ⟨v21, -, h⟩ := nm_some h
                rcases ite_some h with ⟨-, h⟩ | ⟨-, h⟩
                · exact gx_fX8_make_85 h
                · cases h
                  exact (by decide : 3 ∈ [0, 1, 2, 3])
              · have g8 := gx_fX8_mustLive g9
                replace h := h4 c9
                cases h
                exact (by decide : ∀ x ∈ [0, 3], x ∈ [0, 1, 2, 3]) _ g8
            · have g8 := gx_fX8_knownLease g9
              replace h := h4 c9
              cases h
              exact (by decide : ∀ x ∈ [0, 1], x ∈ [0, 1, 2, 3]) _ g8
          · obtain ⟨w0, w1, s9, g9, h3, h4⟩ := bnd3_some h
            by_cases c9 : w1 = 0
            · replace h := h3 c9
              exact gx_fX8_make_85 h
            · have g8 := gx_fX8_mustLive g9
              replace h := h4 c9
              cases h
              exact (by decide : ∀ x ∈ [0, 3], x ∈ [0, 1, 2, 3]) _ g8
      · have g8 := gx_fX8_mustBeValue g9
        replace h := h4 c9
        cases h
        exact (by decide : ∀ x ∈ [0, 2], x ∈ [0, 1, 2, 3]) _ g8
    · have g8 := gx_fX8_mustBeName g9
      replace h := h4 c9
      cases h
      exact (by decide : ∀ x ∈ [0, 2], x ∈ [0, 1, 2, 3]) _ g8
  · have g8 := gx_fX8_known g9
    replace h := h4 c9
    cases h
    exact (by decide : ∀ x ∈ [0, 1], x ∈ [0, 1, 2, 3]) _ g8
theorem gx_fX8_set {F : Nat} {p1 : Int32} {p2 : Int32} {p3 : Int32} {p4 : Int32} {σ : qS} {r : Int32 × Nat × qS} (h : fX8_set F p1 p2 p3 p4 σ = some r) : r.2.1 ∈ ([0, 1, 2, 3] : List Nat) := by
  unfold fX8_set at h
  obtain ⟨i2, w1, s1, g9, h3, h4⟩ := bnd3_some h
  by_cases c9 : w1 = 0
  · replace h := h3 c9
    obtain ⟨w0, w1, s3, g9, h3, h4⟩ := bnd3_some h
    by_cases c9 : w1 = 0
    · replace h := h3 c9
      obtain ⟨i5, w1, s4, g9, h3, h4⟩ := bnd3_some h
      by_cases c9 : w1 = 0
      · replace h := h3 c9
        obtain ⟨-, h⟩ := gnl_some h
        obtain ⟨s6, -, h⟩ := bnd_some h
        obtain ⟨v8, s7, -, h⟩ := bnd2_some h
        cases h
        exact (by decide : 0 ∈ [0, 1, 2, 3])
      · have g8 := gx_fX8_nextAct g9
        replace h := h4 c9
        cases h
        exact (by decide : ∀ x ∈ [0, 3], x ∈ [0, 1, 2, 3]) _ g8
    · have g8 := gx_fX8_mustBeValue g9
      replace h := h4 c9
      cases h
      exact (by decide : ∀ x ∈ [0, 2], x ∈ [0, 1, 2, 3]) _ g8
  · have g8 := gx_fX8_known g9
    replace h := h4 c9
    cases h
    exact (by decide : ∀ x ∈ [0, 1], x ∈ [0, 1, 2, 3]) _ g8
theorem gx_fX8_delete {F : Nat} {p1 : Int32} {p2 : Int32} {p3 : Int32} {σ : qS} {r : Int32 × Nat × qS} (h : fX8_delete F p1 p2 p3 σ = some r) : r.2.1 ∈ ([0, 1, 3] : List Nat) := by
  unfold fX8_delete at h
  obtain ⟨i2, w1, s1, g9, h3, h4⟩ := bnd3_some h
  by_cases c9 : w1 = 0
  · replace h := h3 c9
    obtain ⟨i4, w1, s3, g9, h3, h4⟩ := bnd3_some h
    by_cases c9 : w1 = 0
    · replace h := h3 c9
      obtain ⟨-, h⟩ := gnl_some h
      obtain ⟨s5, -, h⟩ := bnd_some h
      obtain ⟨v7, s6, -, h⟩ := bnd2_some h
      cases h
      exact (by decide : 0 ∈ [0, 1, 3])
    · have g8 := gx_fX8_nextAct g9
      replace h := h4 c9
      cases h
      exact (by decide : ∀ x ∈ [0, 3], x ∈ [0, 1, 3]) _ g8
  · have g8 := gx_fX8_known g9
    replace h := h4 c9
    cases h
    exact (by decide : ∀ x ∈ [0, 1], x ∈ [0, 1, 3]) _ g8
theorem gx_fX8_rights_28 {F : Nat} {σ : qS} {r : Int32 × Nat × qS} (h : fX8_rights_28 F σ = some r) : r.2.1 ∈ ([0, 1, 2, 3] : List Nat) := by
  unfold fX8_rights_28 at h
  cases h
  exact (by decide : 2 ∈ [0, 1, 2, 3])
theorem gx_fX8_rights_58 {F : Nat} {x2 : Int32} {x3 : Int32} {x4 : Int32} {rx6 : Nat} {rx7 : Nat} {rt0 : Nat} {t1 : Int32} {σ : qS} {r : Int32 × Nat × qS} (h : fX8_rights_58 F x2 x3 x4 rx6 rx7 rt0 t1 σ = some r) : r.2.1 ∈ ([0, 1, 2, 3] : List Nat) := by
  unfold fX8_rights_58 at h
  obtain ⟨v12, -, h⟩ := nm_some h
  obtain ⟨v13, -, h⟩ := nm_some h
  obtain ⟨-, h⟩ := gnl_some h
  obtain ⟨s14, -, h⟩ := bnd_some h
  obtain ⟨v16, s15, -, h⟩ := bnd2_some h
  cases h
  exact (by decide : 0 ∈ [0, 1, 2, 3])
theorem gx_fX8_rights {F : Nat} {p1 : Int32} {p2 : Int32} {p3 : Int32} {p4 : Int32} {p5 : Int32} {σ : qS} {r : Int32 × Nat × qS} (h : fX8_rights F p1 p2 p3 p4 p5 σ = some r) : r.2.1 ∈ ([0, 1, 2, 3] : List Nat) := by
  unfold fX8_rights at h
  obtain ⟨i2, w1, s1, g9, h3, h4⟩ := bnd3_some h
  by_cases c9 : w1 = 0
  · replace h := h3 c9
    obtain ⟨v4, s3, -, h⟩ := bnd2_some h
    rcases ite_some h with ⟨-, h⟩ | ⟨-, h⟩
    · exact gx_fX8_rights_28 h
    · obtain ⟨v7, s6, -, h⟩ := bnd2_some h
      rcases ite_some h with ⟨-, h⟩ | ⟨-, h⟩
      · exact gx_fX8_rights_28 h
      · obtain ⟨i10, w1, s9, g9, h3, h4⟩ := bnd3_some h
        by_cases c9 : w1 = 0
        · replace h := h3 c9
          rcases ite_some h with ⟨-, h⟩ | ⟨-, h⟩
          · exact gx_fX8_rights_58 h
          · exact gx_fX8_rights_58 h
        · have g8 := gx_fX8_nextAct g9
          replace h := h4 c9
          cases h
          exact (by decide : ∀ x ∈ [0, 3], x ∈ [0, 1, 2, 3]) _ g8
  · have g8 := gx_fX8_known g9
    replace h := h4 c9
    cases h
    exact (by decide : ∀ x ∈ [0, 1], x ∈ [0, 1, 2, 3]) _ g8
theorem gx_fX8_check {F : Nat} {p1 : Int32} {p2 : Int32} {p3 : Int32} {σ : qS} {r : Int32 × Nat × qS} (h : fX8_check F p1 p2 p3 σ = some r) : r.2.1 ∈ ([0, 1, 3] : List Nat) := by
  unfold fX8_check at h
  obtain ⟨i2, w1, s1, g9, h3, h4⟩ := bnd3_some h
  by_cases c9 : w1 = 0
  · replace h := h3 c9
    obtain ⟨i4, w1, s3, g9, h3, h4⟩ := bnd3_some h
    by_cases c9 : w1 = 0
    · replace h := h3 c9
      obtain ⟨-, h⟩ := gnl_some h
      obtain ⟨s5, -, h⟩ := bnd_some h
      obtain ⟨v7, s6, -, h⟩ := bnd2_some h
      cases h
      exact (by decide : 0 ∈ [0, 1, 3])
    · have g8 := gx_fX8_nextAct g9
      replace h := h4 c9
      cases h
      exact (by decide : ∀ x ∈ [0, 3], x ∈ [0, 1, 3]) _ g8
  · have g8 := gx_fX8_known g9
    replace h := h4 c9
    cases h
    exact (by decide : ∀ x ∈ [0, 1], x ∈ [0, 1, 3]) _ g8
theorem gx_fX8_mustNotGather {F : Nat} {i1 : Nat} {σ : qS} {r : Int32 × Nat × qS} (h : fX8_mustNotGather F i1 σ = some r) : r.2.1 ∈ ([0, 3] : List Nat) := by
  unfold fX8_mustNotGather at h
  obtain ⟨-, h⟩ := gnl_some h
  obtain ⟨v1, -, h⟩ := nm_some h
  rcases ite_some h with ⟨-, h⟩ | ⟨-, h⟩
  · cases h
    exact (by decide : 0 ∈ [0, 3])
  · cases h
    exact (by decide : 3 ∈ [0, 3])
theorem gx_fX8_gather {F : Nat} {p1 : Int32} {σ : qS} {r : Int32 × Nat × qS} (h : fX8_gather F p1 σ = some r) : r.2.1 ∈ ([0, 1, 3] : List Nat) := by
  unfold fX8_gather at h
  obtain ⟨i2, w1, s1, g9, h3, h4⟩ := bnd3_some h
  by_cases c9 : w1 = 0
  · replace h := h3 c9
    obtain ⟨w0, w1, s3, g9, h3, h4⟩ := bnd3_some h
    by_cases c9 : w1 = 0
    · replace h := h3 c9
      obtain ⟨w0, w1, s4, g9, h3, h4⟩ := bnd3_some h
      by_cases c9 : w1 = 0
      · replace h := h3 c9
        obtain ⟨v5, -, h⟩ := nm_some h
        obtain ⟨-, h⟩ := gnl_some h
        obtain ⟨s6, -, h⟩ := nm_some h
        obtain ⟨-, h⟩ := gnl_some h
        obtain ⟨-, h⟩ := gbl_some h
        obtain ⟨s7, -, h⟩ := nm_some h
        obtain ⟨-, h⟩ := gnl_some h
        obtain ⟨s8, -, h⟩ := nm_some h
        cases h
        exact (by decide : 0 ∈ [0, 1, 3])
      · have g8 := gx_fX8_mustNotGather g9
        replace h := h4 c9
        cases h
        exact (by decide : ∀ x ∈ [0, 3], x ∈ [0, 1, 3]) _ g8
    · have g8 := gx_fX8_mustLive g9
      replace h := h4 c9
      cases h
      exact (by decide : ∀ x ∈ [0, 3], x ∈ [0, 1, 3]) _ g8
  · have g8 := gx_fX8_known g9
    replace h := h4 c9
    cases h
    exact (by decide : ∀ x ∈ [0, 1], x ∈ [0, 1, 3]) _ g8
theorem gx_fX8_done_101 {F : Nat} {t0 : Int32} {σ : qS} {r : Int32 × Nat × qS} (h : fX8_done_101 F t0 σ = some r) : r.2.1 ∈ ([0, 1, 3] : List Nat) := by
  unfold fX8_done_101 at h
  cases h
  exact (by decide : 0 ∈ [0, 1, 3])
theorem gx_fX8_done {F : Nat} {p1 : Int32} {σ : qS} {r : Int32 × Nat × qS} (h : fX8_done F p1 σ = some r) : r.2.1 ∈ ([0, 1, 3] : List Nat) := by
  unfold fX8_done at h
  obtain ⟨i2, w1, s1, g9, h3, h4⟩ := bnd3_some h
  by_cases c9 : w1 = 0
  · replace h := h3 c9
    obtain ⟨w0, w1, s3, g9, h3, h4⟩ := bnd3_some h
    by_cases c9 : w1 = 0
    · replace h := h3 c9
      obtain ⟨-, h⟩ := gnl_some h
      obtain ⟨v4, -, h⟩ := nm_some h
      rcases ite_some h with ⟨-, h⟩ | ⟨-, h⟩
      · cases h
        exact (by decide : 3 ∈ [0, 1, 3])
      · obtain ⟨v6, -, h⟩ := nm_some h
        obtain ⟨-, h⟩ := gnl_some h
        obtain ⟨s7, -, h⟩ := nm_some h
        obtain ⟨-, h⟩ := gnl_some h
        obtain ⟨-, h⟩ := gbl_some h
        obtain ⟨s8, -, h⟩ := nm_some h
        obtain ⟨v10, s9, -, h⟩ := bnd2_some h
        rcases ite_some h with ⟨-, h⟩ | ⟨-, h⟩
        · obtain ⟨-, h⟩ := gnl_some h
          obtain ⟨v12, -, h⟩ := nm_some h
          rcases ite_some h with ⟨-, h⟩ | ⟨-, h⟩
          · obtain ⟨-, h⟩ := gnl_some h
            obtain ⟨i18, -, h⟩ := nm_some h
            obtain ⟨v19, -, h⟩ := nm_some h
            obtain ⟨v21, s20, -, h⟩ := bnd2_some h
            obtain ⟨v22, -, h⟩ := nm_some h
            cases h
            exact (by decide : 0 ∈ [0, 1, 3])
          · obtain ⟨v15, s14, -, h⟩ := bnd2_some h
            rcases ite_some h with ⟨-, h⟩ | ⟨-, h⟩
            · exact gx_fX8_done_101 h
            · obtain ⟨v17, -, h⟩ := nm_some h
              exact gx_fX8_done_101 h
        · obtain ⟨s23, -, h⟩ := bnd_some h
          obtain ⟨v24, -, h⟩ := nm_some h
          cases h
          exact (by decide : 0 ∈ [0, 1, 3])
    · have g8 := gx_fX8_mustLive g9
      replace h := h4 c9
      cases h
      exact (by decide : ∀ x ∈ [0, 3], x ∈ [0, 1, 3]) _ g8
  · have g8 := gx_fX8_known g9
    replace h := h4 c9
    cases h
    exact (by decide : ∀ x ∈ [0, 1], x ∈ [0, 1, 3]) _ g8
theorem gx_fX8_answer_46 {F : Nat} {t0 : Int32} {σ : qS} {r : Int32 × Nat × qS} (h : fX8_answer_46 F t0 σ = some r) : r.2.1 ∈ ([0, 1] : List Nat) := by
  unfold fX8_answer_46 at h
  cases h
  exact (by decide : 0 ∈ [0, 1])
theorem gx_fX8_answer_44 {F : Nat} {σ : qS} {r : Int32 × Nat × qS} (h : fX8_answer_44 F σ = some r) : r.2.1 ∈ ([0, 1] : List Nat) := by
  unfold fX8_answer_44 at h
  exact gx_fX8_answer_46 h
theorem gx_fX8_answer {F : Nat} {p1 : Int32} {p2 : Int32} {σ : qS} {r : Int32 × Nat × qS} (h : fX8_answer F p1 p2 σ = some r) : r.2.1 ∈ ([0, 1] : List Nat) := by
  unfold fX8_answer at h
  obtain ⟨i2, w1, s1, g9, h3, h4⟩ := bnd3_some h
  by_cases c9 : w1 = 0
  · replace h := h3 c9
    rcases ite_some h with ⟨-, h⟩ | ⟨-, h⟩
    · obtain ⟨-, h⟩ := gnl_some h
      obtain ⟨v4, -, h⟩ := nm_some h
      rcases ite_some h with ⟨-, h⟩ | ⟨-, h⟩
      · exact gx_fX8_answer_44 h
      · rcases ite_some h with ⟨-, h⟩ | ⟨-, h⟩
        · exact gx_fX8_answer_44 h
        · obtain ⟨-, h⟩ := gnl_some h
          obtain ⟨-, h⟩ := gnl_some h
          obtain ⟨-, h⟩ := ldi_some h
          exact gx_fX8_answer_46 h
    · cases h
      exact (by decide : 1 ∈ [0, 1])
  · have g8 := gx_fX8_known g9
    replace h := h4 c9
    cases h
    exact (by decide : ∀ x ∈ [0, 1], x ∈ [0, 1]) _ g8
theorem gx_fX8_quota {F : Nat} {p1 : Int32} {p2 : Int32} {σ : qS} {r : Int32 × Nat × qS} (h : fX8_quota F p1 p2 σ = some r) : r.2.1 ∈ ([0, 2] : List Nat) := by
  unfold fX8_quota at h
  obtain ⟨v2, s1, -, h⟩ := bnd2_some h
  rcases ite_some h with ⟨-, h⟩ | ⟨-, h⟩
  · cases h
    exact (by decide : 2 ∈ [0, 2])
  · obtain ⟨v5, s4, -, h⟩ := bnd2_some h
    rcases ite_some h with ⟨-, h⟩ | ⟨-, h⟩
    · cases h
      exact (by decide : 0 ∈ [0, 2])
    · obtain ⟨-, h⟩ := inx_some h
      obtain ⟨s7, -, h⟩ := nm_some h
      obtain ⟨v9, s8, -, h⟩ := bnd2_some h
      cases h
      exact (by decide : 0 ∈ [0, 2])
theorem gx_fX8_read_74 {F : Nat} {t0 : Int32} {σ : qS} {r : Int32 × Nat × qS} (h : fX8_read_74 F t0 σ = some r) : r.2.1 ∈ ([0, 1, 2, 3] : List Nat) := by
  unfold fX8_read_74 at h
  cases h
  exact (by decide : 0 ∈ [0, 1, 2, 3])
theorem gx_fX8_read {F : Nat} {p1 : Int32} {p2 : Int32} {p3 : Int32} {σ : qS} {r : Int32 × Nat × qS} (h : fX8_read F p1 p2 p3 σ = some r) : r.2.1 ∈ ([0, 1, 2, 3] : List Nat) := by
  unfold fX8_read at h
  obtain ⟨i2, w1, s1, g9, h3, h4⟩ := bnd3_some h
  by_cases c9 : w1 = 0
  · replace h := h3 c9
    obtain ⟨v4, s3, -, h⟩ := bnd2_some h
    rcases ite_some h with ⟨-, h⟩ | ⟨-, h⟩
    · cases h
      exact (by decide : 2 ∈ [0, 1, 2, 3])
    · obtain ⟨w0, w1, s6, g9, h3, h4⟩ := bnd3_some h
      by_cases c9 : w1 = 0
      · replace h := h3 c9
        obtain ⟨-, h⟩ := gnl_some h
        obtain ⟨i7, -, h⟩ := nm_some h
        obtain ⟨-, h⟩ := gnl_some h
        obtain ⟨-, h⟩ := gnl_some h
        obtain ⟨v8, -, h⟩ := nm_some h
        obtain ⟨-, h⟩ := gnl_some h
        obtain ⟨v10, s9, -, h⟩ := bnd2_some h
        rcases ite_some h with ⟨-, h⟩ | ⟨-, h⟩
        · obtain ⟨-, h⟩ := gnl_some h
          obtain ⟨v13, s12, -, h⟩ := bnd2_some h
          exact gx_fX8_read_74 h
        · exact gx_fX8_read_74 h
      · have g8 := gx_fX8_wake g9
        replace h := h4 c9
        cases h
        exact (by decide : ∀ x ∈ [0, 3], x ∈ [0, 1, 2, 3]) _ g8
  · have g8 := gx_fX8_known g9
    replace h := h4 c9
    cases h
    exact (by decide : ∀ x ∈ [0, 1], x ∈ [0, 1, 2, 3]) _ g8
theorem gx_fX8_child_68 {F : Nat} {t0 : Int32} {σ : qS} {r : Int32 × Nat × qS} (h : fX8_child_68 F t0 σ = some r) : r.2.1 ∈ ([0, 1, 3] : List Nat) := by
  unfold fX8_child_68 at h
  cases h
  exact (by decide : 0 ∈ [0, 1, 3])
theorem gx_fX8_child {F : Nat} {p1 : Int32} {p2 : Int32} {p3 : Int32} {σ : qS} {r : Int32 × Nat × qS} (h : fX8_child F p1 p2 p3 σ = some r) : r.2.1 ∈ ([0, 1, 3] : List Nat) := by
  unfold fX8_child at h
  obtain ⟨i2, w1, s1, g9, h3, h4⟩ := bnd3_some h
  by_cases c9 : w1 = 0
  · replace h := h3 c9
    rcases ite_some h with ⟨-, h⟩ | ⟨-, h⟩
    · obtain ⟨w0, w1, s4, g9, h3, h4⟩ := bnd3_some h
      by_cases c9 : w1 = 0
      · replace h := h3 c9
        obtain ⟨-, h⟩ := gnl_some h
        obtain ⟨i5, -, h⟩ := nm_some h
        obtain ⟨-, h⟩ := gnl_some h
        obtain ⟨-, h⟩ := gnl_some h
        obtain ⟨v6, -, h⟩ := nm_some h
        obtain ⟨-, h⟩ := gnl_some h
        obtain ⟨v8, s7, -, h⟩ := bnd2_some h
        rcases ite_some h with ⟨-, h⟩ | ⟨-, h⟩
        · obtain ⟨-, h⟩ := gnl_some h
          obtain ⟨v11, s10, -, h⟩ := bnd2_some h
          exact gx_fX8_child_68 h
        · exact gx_fX8_child_68 h
      · have g8 := gx_fX8_wake g9
        replace h := h4 c9
        cases h
        exact (by decide : ∀ x ∈ [0, 3], x ∈ [0, 1, 3]) _ g8
    · cases h
      exact (by decide : 1 ∈ [0, 1, 3])
  · have g8 := gx_fX8_known g9
    replace h := h4 c9
    cases h
    exact (by decide : ∀ x ∈ [0, 1], x ∈ [0, 1, 3]) _ g8
theorem gx_fX8_want_44 {F : Nat} {x1 : Int32} {rx4 : Nat} {rt0 : Nat} {t1 : Int32} {t2 : Int32} {t3 : Int32} {σ : qS} {r : Int32 × Nat × qS} (h : fX8_want_44 F x1 rx4 rt0 t1 t2 t3 σ = some r) : r.2.1 ∈ ([0, 1, 3] : List Nat) := by
  unfold fX8_want_44 at h
  obtain ⟨-, h⟩ := gnl_some h
  obtain ⟨s8, -, h⟩ := bnd_some h
  obtain ⟨s9, -, h⟩ := nm_some h
  obtain ⟨v11, s10, -, h⟩ := bnd2_some h
  cases h
  exact (by decide : 0 ∈ [0, 1, 3])
theorem gx_fX8_want {F : Nat} {p1 : Int32} {p2 : Int32} {p3 : Int32} {σ : qS} {r : Int32 × Nat × qS} (h : fX8_want F p1 p2 p3 σ = some r) : r.2.1 ∈ ([0, 1, 3] : List Nat) := by
  unfold fX8_want at h
  obtain ⟨i2, w1, s1, g9, h3, h4⟩ := bnd3_some h
  by_cases c9 : w1 = 0
  · replace h := h3 c9
    obtain ⟨w0, w1, s3, g9, h3, h4⟩ := bnd3_some h
    by_cases c9 : w1 = 0
    · replace h := h3 c9
      obtain ⟨w0, w1, s4, g9, h3, h4⟩ := bnd3_some h
      by_cases c9 : w1 = 0
      · replace h := h3 c9
        obtain ⟨v5, -, h⟩ := nm_some h
        obtain ⟨-, h⟩ := gnl_some h
        obtain ⟨s6, -, h⟩ := nm_some h
        rcases ite_some h with ⟨-, h⟩ | ⟨-, h⟩
        · exact gx_fX8_want_44 h
        · exact gx_fX8_want_44 h
      · have g8 := gx_fX8_mustNotGather g9
        replace h := h4 c9
        cases h
        exact (by decide : ∀ x ∈ [0, 3], x ∈ [0, 1, 3]) _ g8
    · have g8 := gx_fX8_mustLive g9
      replace h := h4 c9
      cases h
      exact (by decide : ∀ x ∈ [0, 3], x ∈ [0, 1, 3]) _ g8
  · have g8 := gx_fX8_known g9
    replace h := h4 c9
    cases h
    exact (by decide : ∀ x ∈ [0, 1], x ∈ [0, 1, 3]) _ g8
theorem gx_fX8_has_40 {F : Nat} {x4 : Int32} {rt1 : Nat} {t2 : Int32} {t3 : Int32} {σ : qS} {r : Int32 × Nat × qS} (h : fX8_has_40 F x4 rt1 t2 t3 σ = some r) : r.2.1 ∈ ([0, 1, 3] : List Nat) := by
  unfold fX8_has_40 at h
  obtain ⟨s8, -, h⟩ := bnd_some h
  cases h
  exact (by decide : 0 ∈ [0, 1, 3])
theorem gx_fX8_has {F : Nat} {p1 : Int32} {p2 : Int32} {σ : qS} {r : Int32 × Nat × qS} (h : fX8_has F p1 p2 σ = some r) : r.2.1 ∈ ([0, 1, 3] : List Nat) := by
  unfold fX8_has at h
  obtain ⟨i2, w1, s1, g9, h3, h4⟩ := bnd3_some h
  by_cases c9 : w1 = 0
  · replace h := h3 c9
    obtain ⟨w0, w1, s3, g9, h3, h4⟩ := bnd3_some h
    by_cases c9 : w1 = 0
    · replace h := h3 c9
      obtain ⟨-, h⟩ := gnl_some h
      obtain ⟨i4, -, h⟩ := nm_some h
      obtain ⟨-, h⟩ := gnl_some h
      obtain ⟨-, h⟩ := gnl_some h
      obtain ⟨v6, s5, -, h⟩ := bnd2_some h
      rcases ite_some h with ⟨-, h⟩ | ⟨-, h⟩
      · exact gx_fX8_has_40 h
      · exact gx_fX8_has_40 h
    · have g8 := gx_fX8_wake g9
      replace h := h4 c9
      cases h
      exact (by decide : ∀ x ∈ [0, 3], x ∈ [0, 1, 3]) _ g8
  · have g8 := gx_fX8_known g9
    replace h := h4 c9
    cases h
    exact (by decide : ∀ x ∈ [0, 1], x ∈ [0, 1, 3]) _ g8
theorem gx_fX8_giveUp {F : Nat} {p1 : Int32} {p2 : Int32} {σ : qS} {r : Int32 × Nat × qS} (h : fX8_giveUp F p1 p2 σ = some r) : r.2.1 ∈ ([0, 1, 3] : List Nat) := by
  unfold fX8_giveUp at h
  obtain ⟨i2, w1, s1, g9, h3, h4⟩ := bnd3_some h
  by_cases c9 : w1 = 0
  · replace h := h3 c9
    obtain ⟨w0, w1, s3, g9, h3, h4⟩ := bnd3_some h
    by_cases c9 : w1 = 0
    · replace h := h3 c9
      obtain ⟨s4, -, h⟩ := bnd_some h
      obtain ⟨v6, s5, -, h⟩ := bnd2_some h
      rcases ite_some h with ⟨-, h⟩ | ⟨-, h⟩
      · cases h
        exact (by decide : 0 ∈ [0, 1, 3])
      · obtain ⟨v9, s8, -, h⟩ := bnd2_some h
        obtain ⟨s10, -, h⟩ := bnd_some h
        obtain ⟨-, h⟩ := gnl_some h
        obtain ⟨i11, -, h⟩ := nm_some h
        obtain ⟨v12, -, h⟩ := nm_some h
        obtain ⟨v14, s13, -, h⟩ := bnd2_some h
        cases h
        exact (by decide : 0 ∈ [0, 1, 3])
    · have g8 := gx_fX8_wake g9
      replace h := h4 c9
      cases h
      exact (by decide : ∀ x ∈ [0, 3], x ∈ [0, 1, 3]) _ g8
  · have g8 := gx_fX8_known g9
    replace h := h4 c9
    cases h
    exact (by decide : ∀ x ∈ [0, 1], x ∈ [0, 1, 3]) _ g8
theorem gx_fX8_isOpen_55 {F : Nat} {t0 : Int32} {σ : qS} {r : Int32 × Nat × qS} (h : fX8_isOpen_55 F t0 σ = some r) : r.2.1 ∈ ([0, 1, 2, 3] : List Nat) := by
  unfold fX8_isOpen_55 at h
  obtain ⟨-, h⟩ := gbl_some h
  cases h
  exact (by decide : 0 ∈ [0, 1, 2, 3])
theorem gx_fX8_isOpen {F : Nat} {p1 : Int32} {p2 : Int32} {p3 : Int32} {σ : qS} {r : Int32 × Nat × qS} (h : fX8_isOpen F p1 p2 p3 σ = some r) : r.2.1 ∈ ([0, 1, 2, 3] : List Nat) := by
  unfold fX8_isOpen at h
  obtain ⟨i2, w1, s1, g9, h3, h4⟩ := bnd3_some h
  by_cases c9 : w1 = 0
  · replace h := h3 c9
    obtain ⟨v4, s3, -, h⟩ := bnd2_some h
    rcases ite_some h with ⟨-, h⟩ | ⟨-, h⟩
    · cases h
      exact (by decide : 2 ∈ [0, 1, 2, 3])
    · obtain ⟨w0, w1, s6, g9, h3, h4⟩ := bnd3_some h
      by_cases c9 : w1 = 0
      · replace h := h3 c9
        obtain ⟨-, h⟩ := gnl_some h
        obtain ⟨i7, -, h⟩ := nm_some h
        obtain ⟨-, h⟩ := gnl_some h
        obtain ⟨-, h⟩ := gnl_some h
        obtain ⟨v9, s8, -, h⟩ := bnd2_some h
        rcases ite_some h with ⟨-, h⟩ | ⟨-, h⟩
        · exact gx_fX8_isOpen_55 h
        · exact gx_fX8_isOpen_55 h
      · have g8 := gx_fX8_wake g9
        replace h := h4 c9
        cases h
        exact (by decide : ∀ x ∈ [0, 3], x ∈ [0, 1, 2, 3]) _ g8
  · have g8 := gx_fX8_known g9
    replace h := h4 c9
    cases h
    exact (by decide : ∀ x ∈ [0, 1], x ∈ [0, 1, 2, 3]) _ g8
theorem gx_fX8_takeFirst_126 {F : Nat} {t0 : Int32} {σ : qS} {r : Int32 × Nat × qS} (h : fX8_takeFirst_126 F t0 σ = some r) : r.2.1 ∈ ([0, 1, 3] : List Nat) := by
  unfold fX8_takeFirst_126 at h
  cases h
  exact (by decide : 0 ∈ [0, 1, 3])
theorem gx_fX8_takeFirst {F : Nat} {p1 : Int32} {p2 : Int32} {σ : qS} {r : Int32 × Nat × qS} (h : fX8_takeFirst F p1 p2 σ = some r) : r.2.1 ∈ ([0, 1, 3] : List Nat) := by
  unfold fX8_takeFirst at h
  obtain ⟨i2, w1, s1, g9, h3, h4⟩ := bnd3_some h
  by_cases c9 : w1 = 0
  · replace h := h3 c9
    obtain ⟨w0, w1, s3, g9, h3, h4⟩ := bnd3_some h
    by_cases c9 : w1 = 0
    · replace h := h3 c9
      obtain ⟨w0, w1, s4, g9, h3, h4⟩ := bnd3_some h
      by_cases c9 : w1 = 0
      · replace h := h3 c9
        obtain ⟨v5, -, h⟩ := nm_some h
        obtain ⟨-, h⟩ := gnl_some h
        obtain ⟨s6, -, h⟩ := nm_some h
        obtain ⟨v8, s7, -, h⟩ := bnd2_some h
        rcases ite_some h with ⟨-, h⟩ | ⟨-, h⟩
        · cases h
          exact (by decide : 0 ∈ [0, 1, 3])
        · obtain ⟨-, h⟩ := gnl_some h
          obtain ⟨v10, -, h⟩ := nm_some h
          obtain ⟨v12, s11, -, h⟩ := bnd2_some h
          rcases ite_some h with ⟨-, h⟩ | ⟨-, h⟩
          · cases h
            exact (by decide : 0 ∈ [0, 1, 3])
          · obtain ⟨v15, s14, -, h⟩ := bnd2_some h
            obtain ⟨v17, s16, -, h⟩ := bnd2_some h
            rcases ite_some h with ⟨-, h⟩ | ⟨-, h⟩
            · cases h
              exact (by decide : 0 ∈ [0, 1, 3])
            · obtain ⟨-, h⟩ := ldi_some h
              obtain ⟨s20, -, h⟩ := bnd_some h
              obtain ⟨v22, s21, -, h⟩ := bnd2_some h
              rcases ite_some h with ⟨-, h⟩ | ⟨-, h⟩
              · exact gx_fX8_takeFirst_126 h
              · exact gx_fX8_takeFirst_126 h
      · have g8 := gx_fX8_mustNotGather g9
        replace h := h4 c9
        cases h
        exact (by decide : ∀ x ∈ [0, 3], x ∈ [0, 1, 3]) _ g8
    · have g8 := gx_fX8_mustLive g9
      replace h := h4 c9
      cases h
      exact (by decide : ∀ x ∈ [0, 3], x ∈ [0, 1, 3]) _ g8
  · have g8 := gx_fX8_known g9
    replace h := h4 c9
    cases h
    exact (by decide : ∀ x ∈ [0, 1], x ∈ [0, 1, 3]) _ g8
theorem gx_fX8_store {F : Nat} {p1 : Int32} {p2 : Int32} {σ : qS} {r : Int32 × Nat × qS} (h : fX8_store F p1 p2 σ = some r) : r.2.1 ∈ ([0, 2] : List Nat) := by
  unfold fX8_store at h
  obtain ⟨v2, s1, -, h⟩ := bnd2_some h
  rcases ite_some h with ⟨-, h⟩ | ⟨-, h⟩
  · cases h
    exact (by decide : 2 ∈ [0, 2])
  · obtain ⟨v4, -, h⟩ := nm_some h
    rcases ite_some h with ⟨-, h⟩ | ⟨-, h⟩
    · obtain ⟨s6, -, h⟩ := nm_some h
      obtain ⟨s7, -, h⟩ := nm_some h
      obtain ⟨-, h⟩ := gbl_some h
      cases h
      exact (by decide : 0 ∈ [0, 2])
    · obtain ⟨-, h⟩ := gbl_some h
      cases h
      exact (by decide : 0 ∈ [0, 2])
theorem gx_fX8_mustBeChange {F : Nat} {p1 : Int32} {σ : qS} {r : Int32 × Nat × qS} (h : fX8_mustBeChange F p1 σ = some r) : r.2.1 ∈ ([0, 2] : List Nat) := by
  unfold fX8_mustBeChange at h
  obtain ⟨v1, -, h⟩ := nm_some h
  obtain ⟨v3, s2, -, h⟩ := bnd2_some h
  rcases ite_some h with ⟨-, h⟩ | ⟨-, h⟩
  · cases h
    exact (by decide : 2 ∈ [0, 2])
  · cases h
    exact (by decide : 0 ∈ [0, 2])
theorem gx_fX8_mustBeKept {F : Nat} {p1 : Int32} {σ : qS} {r : Int32 × Nat × qS} (h : fX8_mustBeKept F p1 σ = some r) : r.2.1 ∈ ([0, 3] : List Nat) := by
  unfold fX8_mustBeKept at h
  obtain ⟨v1, -, h⟩ := nm_some h
  rcases ite_some h with ⟨-, h⟩ | ⟨-, h⟩
  · cases h
    exact (by decide : 0 ∈ [0, 3])
  · cases h
    exact (by decide : 3 ∈ [0, 3])
theorem gx_fX8_valueAt_141 {F : Nat} {x3 : Int32} {σ : qS} {r : Int32 × Nat × qS} (h : fX8_valueAt_141 F x3 σ = some r) : r.2.1 ∈ ([0, 2, 3] : List Nat) := by
  unfold fX8_valueAt_141 at h
  cases h
  exact (by decide : 0 ∈ [0, 2, 3])
theorem gx_fX8_valueAt_135 {F : Nat} {k53 : Int32 → Int32 → Int32 → Int32 → qS → Option (Int32 × Nat × qS)} {x1 : Int32} {x2 : Int32} {x3 : Int32} {x4 : Int32} {σ : qS} {r : Int32 × Nat × qS} (hk53 : ∀ a0 a1 a2 a3 σ r, k53 a0 a1 a2 a3 σ = some r → r.2.1 ∈ ([0, 2, 3] : List Nat)) (h : fX8_valueAt_135 F k53 x1 x2 x3 x4 σ = some r) : r.2.1 ∈ ([0, 2, 3] : List Nat) := by
  unfold fX8_valueAt_135 at h
  obtain ⟨v14, -, h⟩ := nm_some h
  exact hk53 x1 x2 x3 v14 σ _ h
theorem gx_fX8_valueAt_134 {F : Nat} {k53 : Int32 → Int32 → Int32 → Int32 → qS → Option (Int32 × Nat × qS)} {x1 : Int32} {x2 : Int32} {x4 : Int32} {t0 : Int32} {σ : qS} {r : Int32 × Nat × qS} (hk53 : ∀ a0 a1 a2 a3 σ r, k53 a0 a1 a2 a3 σ = some r → r.2.1 ∈ ([0, 2, 3] : List Nat)) (h : fX8_valueAt_134 F k53 x1 x2 x4 t0 σ = some r) : r.2.1 ∈ ([0, 2, 3] : List Nat) := by
  unfold fX8_valueAt_134 at h
  exact gx_fX8_valueAt_135 hk53 h
theorem gx_fX8_valueAt_53 {F : Nat} : ∀ (n : Nat) (x1 : Int32) (x2 : Int32) (x3 : Int32) (x4 : Int32) (σ : qS) (r : Int32 × Nat × qS), fX8_valueAt_53 F n x1 x2 x3 x4 σ = some r → r.2.1 ∈ ([0, 2, 3] : List Nat) := by
  intro n
  induction n with
  | zero => intro x1 x2 x3 x4 σ r h; exact absurd h (by rw [fX8_valueAt_53]; exact nofun)
  | succ n ih =>
    intro x1 x2 x3 x4 σ r h
    rw [fX8_valueAt_53] at h
    obtain ⟨v8, -, h⟩ := nm_some h
    rcases ite_some h with ⟨-, h⟩ | ⟨-, h⟩
    · exact gx_fX8_valueAt_141 h
    · obtain ⟨-, h⟩ := ldi_some h
      rcases ite_some h with ⟨-, h⟩ | ⟨-, h⟩
      · exact gx_fX8_valueAt_141 h
      · obtain ⟨-, h⟩ := ldi_some h
        rcases ite_some h with ⟨-, h⟩ | ⟨-, h⟩
        · obtain ⟨v16, s15, -, h⟩ := bnd2_some h
          rcases ite_some h with ⟨-, h⟩ | ⟨-, h⟩
          · exact gx_fX8_valueAt_135 (fun a0 a1 a2 a3 σ r h => ih a0 a1 a2 a3 σ r h) h
          · obtain ⟨-, h⟩ := ldi_some h
            rcases ite_some h with ⟨-, h⟩ | ⟨-, h⟩
            · exact gx_fX8_valueAt_134 (fun a0 a1 a2 a3 σ r h => ih a0 a1 a2 a3 σ r h) h
            · obtain ⟨-, h⟩ := ldi_some h
              exact gx_fX8_valueAt_134 (fun a0 a1 a2 a3 σ r h => ih a0 a1 a2 a3 σ r h) h
        · exact gx_fX8_valueAt_135 (fun a0 a1 a2 a3 σ r h => ih a0 a1 a2 a3 σ r h) h
theorem gx_fX8_valueAt_49 {F : Nat} {x1 : Int32} {x2 : Int32} {t0 : Int32} {σ : qS} {r : Int32 × Nat × qS} (h : fX8_valueAt_49 F x1 x2 t0 σ = some r) : r.2.1 ∈ ([0, 2, 3] : List Nat) := by
  unfold fX8_valueAt_49 at h
  exact gx_fX8_valueAt_53 _ _ _ _ _ _ _ h
theorem gx_fX8_valueAt {F : Nat} {p1 : Int32} {p2 : Int32} {σ : qS} {r : Int32 × Nat × qS} (h : fX8_valueAt F p1 p2 σ = some r) : r.2.1 ∈ ([0, 2, 3] : List Nat) := by
  unfold fX8_valueAt at h
  obtain ⟨w0, w1, s1, g9, h3, h4⟩ := bnd3_some h
  by_cases c9 : w1 = 0
  · replace h := h3 c9
    obtain ⟨w0, w1, s2, g9, h3, h4⟩ := bnd3_some h
    by_cases c9 : w1 = 0
    · replace h := h3 c9
      obtain ⟨v4, s3, -, h⟩ := bnd2_some h
      rcases ite_some h with ⟨-, h⟩ | ⟨-, h⟩
      · cases h
        exact (by decide : 0 ∈ [0, 2, 3])
      · obtain ⟨-, h⟩ := ldi_some h
        rcases ite_some h with ⟨-, h⟩ | ⟨-, h⟩
        · exact gx_fX8_valueAt_49 h
        · obtain ⟨-, h⟩ := ldi_some h
          exact gx_fX8_valueAt_49 h
    · have g8 := gx_fX8_mustBeKept g9
      replace h := h4 c9
      cases h
      exact (by decide : ∀ x ∈ [0, 3], x ∈ [0, 2, 3]) _ g8
  · have g8 := gx_fX8_mustBeChange g9
    replace h := h4 c9
    cases h
    exact (by decide : ∀ x ∈ [0, 2], x ∈ [0, 2, 3]) _ g8
theorem gx_fX8_changedAt_111 {F : Nat} {k34 : Int32 → Int32 → Int32 → Int32 → Int32 → qS → Option (Int32 × Nat × qS)} {x1 : Int32} {x3 : Int32} {x4 : Int32} {x5 : Int32} {x6 : Int32} {σ : qS} {r : Int32 × Nat × qS} (hk34 : ∀ a0 a1 a2 a3 a4 σ r, k34 a0 a1 a2 a3 a4 σ = some r → r.2.1 ∈ ([0, 1, 2, 3] : List Nat)) (h : fX8_changedAt_111 F k34 x1 x3 x4 x5 x6 σ = some r) : r.2.1 ∈ ([0, 1, 2, 3] : List Nat) := by
  unfold fX8_changedAt_111 at h
  obtain ⟨v8, -, h⟩ := nm_some h
  exact hk34 x1 x3 x4 x5 v8 σ _ h
theorem gx_fX8_changedAt_34 {F : Nat} : ∀ (n : Nat) (x1 : Int32) (x3 : Int32) (x4 : Int32) (x5 : Int32) (x6 : Int32) (σ : qS) (r : Int32 × Nat × qS), fX8_changedAt_34 F n x1 x3 x4 x5 x6 σ = some r → r.2.1 ∈ ([0, 1, 2, 3] : List Nat) := by
  intro n
  induction n with
  | zero => intro x1 x3 x4 x5 x6 σ r h; exact absurd h (by rw [fX8_changedAt_34]; exact nofun)
  | succ n ih =>
    intro x1 x3 x4 x5 x6 σ r h
    rw [fX8_changedAt_34] at h
    obtain ⟨v4, -, h⟩ := nm_some h
    rcases ite_some h with ⟨-, h⟩ | ⟨-, h⟩
    · cases h
      exact (by decide : 0 ∈ [0, 1, 2, 3])
    · obtain ⟨-, h⟩ := ldi_some h
      rcases ite_some h with ⟨-, h⟩ | ⟨-, h⟩
      · obtain ⟨v10, s9, -, h⟩ := bnd2_some h
        rcases ite_some h with ⟨-, h⟩ | ⟨-, h⟩
        · exact gx_fX8_changedAt_111 (fun a0 a1 a2 a3 a4 σ r h => ih a0 a1 a2 a3 a4 σ r h) h
        · obtain ⟨-, h⟩ := ldi_some h
          rcases ite_some h with ⟨-, h⟩ | ⟨-, h⟩
          · exact gx_fX8_changedAt_111 (fun a0 a1 a2 a3 a4 σ r h => ih a0 a1 a2 a3 a4 σ r h) h
          · obtain ⟨-, h⟩ := ldi_some h
            obtain ⟨v15, -, h⟩ := nm_some h
            rcases ite_some h with ⟨-, h⟩ | ⟨-, h⟩
            · cases h
              exact (by decide : 0 ∈ [0, 1, 2, 3])
            · exact gx_fX8_changedAt_111 (fun a0 a1 a2 a3 a4 σ r h => ih a0 a1 a2 a3 a4 σ r h) h
      · exact gx_fX8_changedAt_111 (fun a0 a1 a2 a3 a4 σ r h => ih a0 a1 a2 a3 a4 σ r h) h
theorem gx_fX8_changedAt {F : Nat} {p1 : Int32} {p2 : Int32} {p3 : Int32} {σ : qS} {r : Int32 × Nat × qS} (h : fX8_changedAt F p1 p2 p3 σ = some r) : r.2.1 ∈ ([0, 1, 2, 3] : List Nat) := by
  unfold fX8_changedAt at h
  rcases ite_some h with ⟨-, h⟩ | ⟨-, h⟩
  · obtain ⟨w0, w1, s2, g9, h3, h4⟩ := bnd3_some h
    by_cases c9 : w1 = 0
    · replace h := h3 c9
      obtain ⟨w0, w1, s3, g9, h3, h4⟩ := bnd3_some h
      by_cases c9 : w1 = 0
      · replace h := h3 c9
        exact gx_fX8_changedAt_34 _ _ _ _ _ _ _ _ h
      · have g8 := gx_fX8_mustBeKept g9
        replace h := h4 c9
        cases h
        exact (by decide : ∀ x ∈ [0, 3], x ∈ [0, 1, 2, 3]) _ g8
    · have g8 := gx_fX8_mustBeChange g9
      replace h := h4 c9
      cases h
      exact (by decide : ∀ x ∈ [0, 2], x ∈ [0, 1, 2, 3]) _ g8
  · cases h
    exact (by decide : 1 ∈ [0, 1, 2, 3])
theorem gx_fX8_compact {F : Nat} {p1 : Int32} {σ : qS} {r : Int32 × Nat × qS} (h : fX8_compact F p1 σ = some r) : r.2.1 ∈ ([0, 2] : List Nat) := by
  unfold fX8_compact at h
  obtain ⟨w0, w1, s1, g9, h3, h4⟩ := bnd3_some h
  by_cases c9 : w1 = 0
  · replace h := h3 c9
    obtain ⟨v2, -, h⟩ := nm_some h
    obtain ⟨v3, -, h⟩ := nm_some h
    obtain ⟨s4, -, h⟩ := nm_some h
    obtain ⟨v5, -, h⟩ := nm_some h
    cases h
    exact (by decide : 0 ∈ [0, 2])
  · have g8 := gx_fX8_mustBeChange g9
    replace h := h4 c9
    cases h
    exact (by decide : ∀ x ∈ [0, 2], x ∈ [0, 2]) _ g8
theorem gx_fX8_restore_132 {F : Nat} : ∀ (n : Nat) (x1 : Int32) (σ : qS) (r : Int32 × Nat × qS), fX8_restore_132 F n x1 σ = some r → r.2.1 ∈ ([0, 3] : List Nat) := by
  intro n
  induction n with
  | zero => intro x1 σ r h; exact absurd h (by rw [fX8_restore_132]; exact nofun)
  | succ n ih =>
    intro x1 σ r h
    rw [fX8_restore_132] at h
    rcases ite_some h with ⟨-, h⟩ | ⟨-, h⟩
    · obtain ⟨v16, -, h⟩ := nm_some h
      cases h
      exact (by decide : 0 ∈ [0, 3])
    · obtain ⟨-, h⟩ := inx_some h
      obtain ⟨i17, -, h⟩ := nm_some h
      obtain ⟨-, h⟩ := gnl_some h
      obtain ⟨-, h⟩ := gnl_some h
      obtain ⟨s18, -, h⟩ := bnd_some h
      obtain ⟨-, h⟩ := inx_some h
      obtain ⟨i19, -, h⟩ := nm_some h
      obtain ⟨v20, -, h⟩ := nm_some h
      obtain ⟨-, h⟩ := gnl_some h
      obtain ⟨s21, -, h⟩ := nm_some h
      obtain ⟨-, h⟩ := inx_some h
      obtain ⟨i22, -, h⟩ := nm_some h
      obtain ⟨-, h⟩ := gnl_some h
      obtain ⟨s23, -, h⟩ := nm_some h
      obtain ⟨v24, -, h⟩ := nm_some h
      exact ih _ _ _ h
theorem gx_fX8_restore_72 {F : Nat} : ∀ (n : Nat) (x1 : Int32) (σ : qS) (r : Int32 × Nat × qS), fX8_restore_72 F n x1 σ = some r → r.2.1 ∈ ([0, 3] : List Nat) := by
  intro n
  induction n with
  | zero => intro x1 σ r h; exact absurd h (by rw [fX8_restore_72]; exact nofun)
  | succ n ih =>
    intro x1 σ r h
    rw [fX8_restore_72] at h
    obtain ⟨v10, -, h⟩ := nm_some h
    rcases ite_some h with ⟨-, h⟩ | ⟨-, h⟩
    · obtain ⟨s12, -, h⟩ := bnd_some h
      obtain ⟨s13, -, h⟩ := bnd_some h
      obtain ⟨s14, -, h⟩ := nm_some h
      exact gx_fX8_restore_132 _ _ _ _ h
    · obtain ⟨-, h⟩ := gnl_some h
      obtain ⟨-, h⟩ := inx_some h
      obtain ⟨i25, -, h⟩ := nm_some h
      obtain ⟨-, h⟩ := gnl_some h
      obtain ⟨-, h⟩ := gnl_some h
      obtain ⟨-, h⟩ := gbl_some h
      obtain ⟨s26, -, h⟩ := nm_some h
      obtain ⟨v27, -, h⟩ := nm_some h
      exact ih _ _ _ h
theorem gx_fX8_restore_38 {F : Nat} : ∀ (n : Nat) (x1 : Int32) (σ : qS) (r : Int32 × Nat × qS), fX8_restore_38 F n x1 σ = some r → r.2.1 ∈ ([0, 3] : List Nat) := by
  intro n
  induction n with
  | zero => intro x1 σ r h; exact absurd h (by rw [fX8_restore_38]; exact nofun)
  | succ n ih =>
    intro x1 σ r h
    rw [fX8_restore_38] at h
    obtain ⟨v8, -, h⟩ := nm_some h
    rcases ite_some h with ⟨-, h⟩ | ⟨-, h⟩
    · exact gx_fX8_restore_72 _ _ _ _ h
    · obtain ⟨-, h⟩ := gnl_some h
      obtain ⟨-, h⟩ := inx_some h
      obtain ⟨i28, -, h⟩ := nm_some h
      obtain ⟨-, h⟩ := gnl_some h
      obtain ⟨-, h⟩ := gnl_some h
      obtain ⟨-, h⟩ := gbl_some h
      obtain ⟨s29, -, h⟩ := nm_some h
      obtain ⟨v30, -, h⟩ := nm_some h
      exact ih _ _ _ h
theorem gx_fX8_restore {F : Nat} {σ : qS} {r : Int32 × Nat × qS} (h : fX8_restore F σ = some r) : r.2.1 ∈ ([0, 3] : List Nat) := by
  unfold fX8_restore at h
  obtain ⟨v1, -, h⟩ := nm_some h
  rcases ite_some h with ⟨-, h⟩ | ⟨-, h⟩
  · cases h
    exact (by decide : 3 ∈ [0, 3])
  · obtain ⟨v3, -, h⟩ := nm_some h
    obtain ⟨v4, -, h⟩ := nm_some h
    obtain ⟨s5, -, h⟩ := nm_some h
    obtain ⟨v6, -, h⟩ := nm_some h
    obtain ⟨s7, -, h⟩ := nm_some h
    exact gx_fX8_restore_38 _ _ _ _ h
theorem gx_fX8_watch_104 {F : Nat} {t0 : Int32} {σ : qS} {r : Int32 × Nat × qS} (h : fX8_watch_104 F t0 σ = some r) : r.2.1 ∈ ([0, 1, 2, 3] : List Nat) := by
  unfold fX8_watch_104 at h
  cases h
  exact (by decide : 0 ∈ [0, 1, 2, 3])
theorem gx_fX8_watch_38 {F : Nat} {x2 : Int32} {x3 : Int32} {rx4 : Nat} {σ : qS} {r : Int32 × Nat × qS} (h : fX8_watch_38 F x2 x3 rx4 σ = some r) : r.2.1 ∈ ([0, 1, 2, 3] : List Nat) := by
  unfold fX8_watch_38 at h
  obtain ⟨-, h⟩ := gnl_some h
  obtain ⟨v8, -, h⟩ := nm_some h
  rcases ite_some h with ⟨-, h⟩ | ⟨-, h⟩
  · obtain ⟨v10, -, h⟩ := nm_some h
    obtain ⟨-, h⟩ := gnl_some h
    obtain ⟨s11, -, h⟩ := nm_some h
    obtain ⟨-, h⟩ := gnl_some h
    obtain ⟨i12, -, h⟩ := nm_some h
    obtain ⟨-, h⟩ := gnl_some h
    obtain ⟨-, h⟩ := gnl_some h
    obtain ⟨v13, -, h⟩ := nm_some h
    obtain ⟨-, h⟩ := gnl_some h
    obtain ⟨v15, s14, -, h⟩ := bnd2_some h
    rcases ite_some h with ⟨-, h⟩ | ⟨-, h⟩
    · obtain ⟨-, h⟩ := gnl_some h
      obtain ⟨v18, s17, -, h⟩ := bnd2_some h
      exact gx_fX8_watch_104 h
    · exact gx_fX8_watch_104 h
  · cases h
    exact (by decide : 3 ∈ [0, 1, 2, 3])
theorem gx_fX8_watch {F : Nat} {p1 : Int32} {p2 : Int32} {p3 : Int32} {σ : qS} {r : Int32 × Nat × qS} (h : fX8_watch F p1 p2 p3 σ = some r) : r.2.1 ∈ ([0, 1, 2, 3] : List Nat) := by
  unfold fX8_watch at h
  obtain ⟨i2, w1, s1, g9, h3, h4⟩ := bnd3_some h
  by_cases c9 : w1 = 0
  · replace h := h3 c9
    obtain ⟨v4, s3, -, h⟩ := bnd2_some h
    rcases ite_some h with ⟨-, h⟩ | ⟨-, h⟩
    · cases h
      exact (by decide : 2 ∈ [0, 1, 2, 3])
    · obtain ⟨w0, w1, s6, g9, h3, h4⟩ := bnd3_some h
      by_cases c9 : w1 = 0
      · replace h := h3 c9
        obtain ⟨s7, -, h⟩ := bnd_some h
        exact gx_fX8_watch_38 h
      · have g8 := gx_fX8_mustLive g9
        replace h := h4 c9
        cases h
        exact (by decide : ∀ x ∈ [0, 3], x ∈ [0, 1, 2, 3]) _ g8
  · have g8 := gx_fX8_known g9
    replace h := h4 c9
    cases h
    exact (by decide : ∀ x ∈ [0, 1], x ∈ [0, 1, 2, 3]) _ g8
theorem gx_fX8_hear_16 {F : Nat} {rx2 : Nat} {σ : qS} {r : Int32 × Nat × qS} (h : fX8_hear_16 F rx2 σ = some r) : r.2.1 ∈ ([0, 1, 3] : List Nat) := by
  unfold fX8_hear_16 at h
  obtain ⟨-, h⟩ := gnl_some h
  obtain ⟨-, h⟩ := gnl_some h
  obtain ⟨v6, s5, -, h⟩ := bnd2_some h
  cases h
  exact (by decide : 0 ∈ [0, 1, 3])
theorem gx_fX8_hear {F : Nat} {p1 : Int32} {σ : qS} {r : Int32 × Nat × qS} (h : fX8_hear F p1 σ = some r) : r.2.1 ∈ ([0, 1, 3] : List Nat) := by
  unfold fX8_hear at h
  obtain ⟨i2, w1, s1, g9, h3, h4⟩ := bnd3_some h
  by_cases c9 : w1 = 0
  · replace h := h3 c9
    obtain ⟨w0, w1, s3, g9, h3, h4⟩ := bnd3_some h
    by_cases c9 : w1 = 0
    · replace h := h3 c9
      obtain ⟨s4, -, h⟩ := bnd_some h
      exact gx_fX8_hear_16 h
    · have g8 := gx_fX8_wake g9
      replace h := h4 c9
      cases h
      exact (by decide : ∀ x ∈ [0, 3], x ∈ [0, 1, 3]) _ g8
  · have g8 := gx_fX8_known g9
    replace h := h4 c9
    cases h
    exact (by decide : ∀ x ∈ [0, 1], x ∈ [0, 1, 3]) _ g8

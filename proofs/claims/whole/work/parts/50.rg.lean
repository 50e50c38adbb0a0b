/-! PURE: what changes do in the reference, place by place -/
section RG
variable {F : Nat}
theorem i400 : 400 ≤ 2 ^ 31 := by decide
theorem i90k : 90000 ≤ 2 ^ 31 := by decide
/-- rows copied, up to t -/
def cpM (m s : qS) (a b t : Nat) : Prop := s.2 = m.2 ∧ ∀ f j q, s.1 f j q = if j = 0 ∧ 108 ≤ f ∧ f ≤ 114 ∧ 80 * b ≤ q ∧ q < 80 * b + t then m.1 f 0 (80 * a + (q - 80 * b)) else m.1 f j q
theorem e_copy_l {m : qS} {a b : Nat} (ha : a < 5) (hb : b < 5) (hab : a ≠ b) : ∀ (d t n : Nat) (s : qS), t + d = 80 → d < n → cpM m s a b t → ∃ s', fX9_copy_2 F n (nI a) (nI b) (nI t) s = some s' ∧ cpM m s' a b 80 := by
  intro d
  induction d with
  | zero =>
    intro t n s h hn hs
    obtain ⟨n, rfl⟩ : ∃ m, n = m + 1 := ⟨n - 1, by omega⟩
    obtain rfl : t = 80 := by omega
    rw [fX9_copy_2, if_pos (le80 (by omega) (by omega))]
    exact ⟨s, rfl, hs⟩
  | succ d ih =>
    intro t n s h hn hs
    obtain ⟨n, rfl⟩ : ∃ m, n = m + 1 := ⟨n - 1, by omega⟩
    have hx : 80 * a + t < 400 := by omega
    have hy : 80 * b + t < 400 := by omega
    have hj : ∀ f, s.1 f 0 (80 * a + t) = m.1 f 0 (80 * a + t) := fun f => by
      rw [hs.2, if_neg]
      rintro ⟨-, -, -, h1, h2⟩
      omega
    rw [fX9_copy_2, if_neg (nle80 (by omega))]
    simp only [nm_x, nI_80, ldi_nI hx i400, inx_nI hy i400, ix_nI (show 80 * b + t < 2 ^ 31 by omega), nI_1]
    refine ih (t + 1) n _ (by omega) (by omega) ⟨hs.1, fun f j q => ?_⟩
    have hne : 80 * a + t ≠ 80 * b + t := by omega
    simp only [qI_ap, hj, hne, and_false, if_false]
    by_cases c1 : j = 0
    · subst c1
      by_cases c2 : q = 80 * b + t
      · subst c2
        have e1 : 80 * b + t - 80 * b = t := by omega
        have e2 : ¬ (80 * b + t < 80 * b + t) := by omega
        have e3 : 80 * b + t < 80 * b + (t + 1) := by omega
        have e4 : 80 * b ≤ 80 * b + t := by omega
        simp only [hs.2, e1, e2, e3, e4, and_true, true_and, and_false, if_false]
        by_cases a7 : f = 114
        · subst a7; simp
        by_cases a6 : f = 113
        · subst a6; simp
        by_cases a5 : f = 112
        · subst a5; simp
        by_cases a4 : f = 111
        · subst a4; simp
        by_cases a3 : f = 110
        · subst a3; simp
        by_cases a2 : f = 109
        · subst a2; simp
        by_cases a1 : f = 108
        · subst a1; simp
        rw [if_neg a7, if_neg a6, if_neg a5, if_neg a4, if_neg a3, if_neg a2, if_neg a1, if_neg (by omega)]
      · simp only [c2, and_false, if_false, hs.2]
        have c4 : (80 * b ≤ q ∧ q < 80 * b + (t + 1)) ↔ (80 * b ≤ q ∧ q < 80 * b + t) := by omega
        simp only [c4]
    · simp only [c1, false_and, and_false, if_false, hs.2]
theorem e_copy {m : qS} {a b : Nat} (hF : 100 ≤ F) (ha : a < 5) (hb : b < 5) (hab : a ≠ b) : ∃ s', fX9_copy F (nI a) (nI b) m = some s' ∧ cpM m s' a b 80 := by
  unfold fX9_copy
  exact e_copy_l ha hb hab 80 0 F m rfl (by omega) ⟨rfl, fun f j q => by rw [if_neg (by omega)]⟩
/-- a step in the reference's log -/
def lgM (m s : qS) (R : Nat) (ch kd n v w : Int32) : Prop := s.2 = m.2 ∧ ∀ f j k, s.1 f j k = if j = 0 ∧ k = R ∧ f = 120 then ch else if j = 0 ∧ k = R ∧ f = 121 then kd else if j = 0 ∧ k = R ∧ f = 122 then n else if j = 0 ∧ k = R ∧ f = 123 then v else if j = 0 ∧ k = R ∧ f = 124 then w else if j = 0 ∧ k = 25 ∧ f = 0 then nI (R + 1) else m.1 f j k
theorem e_log {m : qS} {R : Nat} {kd n v w : Int32} (hR : m.1 0 0 25 = nI R) (h8 : R < 90000) : ∃ s', fX9_log F kd n v w m = some s' ∧ lgM m s' R (m.1 0 0 27) kd n v w := by
  unfold fX9_log
  simp only [nm_x]
  have e5 : ∀ (s : qS) (k' j : Nat) (v : Int32), k' ≠ 0 → (qI s k' 0 j v).1 0 0 25 = s.1 0 0 25 := fun s k' j v h => by rw [qI_ap, if_neg (fun h9 => h h9.1.symm)]
  simp only [e5 _ 120 _ _ (by decide), e5 _ 121 _ _ (by decide), e5 _ 122 _ _ (by decide), e5 _ 123 _ _ (by decide), e5 _ 124 _ _ (by decide), hR, inx_nI h8 i90k, ix_nI (show R < 2 ^ 31 by omega), nI_1]
  refine ⟨_, rfl, rfl, fun f j k => ?_⟩
  simp only [qI_ap]
  by_cases c1 : f = 0
  · subst c1; simp [and_comm]
  by_cases c2 : f = 120
  · subst c2; simp
  by_cases c3 : f = 121
  · subst c3; simp
  by_cases c4 : f = 122
  · subst c4; simp
  by_cases c5 : f = 123
  · subst c5; simp
  by_cases c6 : f = 124
  · subst c6; simp
  simp [c1, c2, c3, c4, c5, c6]
/-- rows after one step of one node -/
def apM (m : qS) (s kd n q : Nat) (v w : Int32) (f x : Nat) : Int32 :=
  if kd = 0 then (if x = 80 * s + n ∧ f = 108 then 1 else if x = 80 * s + n ∧ f = 109 then v else if x = 80 * s + n ∧ 110 ≤ f ∧ f ≤ 112 then 0 else if x = 80 * s + n ∧ f = 113 then m.1 113 0 (80 * s + q) else if x = 80 * s + n ∧ f = 114 then m.1 114 0 (80 * s + q) else if x = 80 * s + q ∧ f = 111 then m.1 111 0 x + 1 else m.1 f 0 x)
  else if kd = 1 then (if x = 80 * s + n ∧ f = 109 then v else if x = 80 * s + n ∧ f = 110 then m.1 110 0 x + 1 else m.1 f 0 x)
  else if kd = 2 then (if x = 80 * s + n ∧ f = 108 then 0 else if x = 80 * s + q ∧ f = 111 then m.1 111 0 x + 1 else m.1 f 0 x)
  else (if x = 80 * s + n ∧ f = 113 then v else if x = 80 * s + n ∧ f = 114 then w else if x = 80 * s + n ∧ f = 112 then m.1 112 0 x + 1 else m.1 f 0 x)
theorem apM_0 {m : qS} {s n q : Nat} {v w : Int32} {f x : Nat} : apM m s 0 n q v w f x = (if x = 80 * s + n ∧ f = 108 then 1 else if x = 80 * s + n ∧ f = 109 then v else if x = 80 * s + n ∧ 110 ≤ f ∧ f ≤ 112 then 0 else if x = 80 * s + n ∧ f = 113 then m.1 113 0 (80 * s + q) else if x = 80 * s + n ∧ f = 114 then m.1 114 0 (80 * s + q) else if x = 80 * s + q ∧ f = 111 then m.1 111 0 x + 1 else m.1 f 0 x) := rfl
theorem apM_1 {m : qS} {s n q : Nat} {v w : Int32} {f x : Nat} : apM m s 1 n q v w f x = (if x = 80 * s + n ∧ f = 109 then v else if x = 80 * s + n ∧ f = 110 then m.1 110 0 x + 1 else m.1 f 0 x) := rfl
theorem apM_2 {m : qS} {s n q : Nat} {v w : Int32} {f x : Nat} : apM m s 2 n q v w f x = (if x = 80 * s + n ∧ f = 108 then 0 else if x = 80 * s + q ∧ f = 111 then m.1 111 0 x + 1 else m.1 f 0 x) := rfl
theorem apM_3 {m : qS} {s n q : Nat} {v w : Int32} {f x : Nat} : apM m s 3 n q v w f x = (if x = 80 * s + n ∧ f = 113 then v else if x = 80 * s + n ∧ f = 114 then w else if x = 80 * s + n ∧ f = 112 then m.1 112 0 x + 1 else m.1 f 0 x) := rfl
def amS (m s' : qS) (s kd n q : Nat) (v w : Int32) : Prop := s'.2 = m.2 ∧ ∀ f j x, s'.1 f j x = if j = 0 then apM m s kd n q v w f x else m.1 f j x
theorem e_apply9 {m : qS} {s p kd n q : Nat} {v w : Int32} (hs : s < 5) (hp : p < 90000) (hkd : kd ≤ 3) (hn : n < 80) (e1 : m.1 121 0 p = nI kd) (e2 : m.1 122 0 p = nI n) (e3 : m.1 123 0 p = v) (e4 : m.1 124 0 p = w) (hq : kd = 0 ∨ kd = 2 → q < n) (hq2 : 1 ≤ n → m.1 100 0 n = nI q ∧ q < n) : ∃ s', fX9_apply F (nI s) (nI p) m = some s' ∧ amS m s' s kd n q v w := by
  unfold fX9_apply
  have hx : 80 * s + n < 400 := by omega
  have hx31 : 80 * s + n < 2 ^ 31 := by omega
  simp only [nm_x, ldi_nI hp i90k, e1, e2]
  have to51 : ∀ t0 : Int32, ((kd = 0 ∨ kd = 2) → t0 = nI (80 * s + q)) → ∃ s', fX9_apply_51 F (nI p) (80 * nI s + nI n) t0 m = some s' ∧ amS m s' s kd n q v w := by
    intro t0 ht
    unfold fX9_apply_51 fX9_apply_251
    rw [ldi_nI hp i90k, e1, nI_80]
    obtain rfl | rfl | rfl | rfl : kd = 0 ∨ kd = 1 ∨ kd = 2 ∨ kd = 3 := by omega
    · have hqn := hq (Or.inl rfl)
      have hu : 80 * s + q < 400 := by omega
      have hne : 80 * s + q ≠ 80 * s + n := by omega
      have x1 : q ≠ n := by omega
      have x2 : n ≠ q := by omega
      have hne2 : 80 * s + n ≠ 80 * s + q := by omega
      rw [if_pos (by decide), ht (Or.inl rfl)]
      have e33 : (qI m 108 0 (80 * s + n) 1).1 123 0 p = v := by rw [qI_ap, if_neg (by omega), e3]
      simp only [nm_x, inx_nI hx i400, ix_nI hx31, ldi_nI hp i90k, e33, ldi_nI hu i400, inx_nI hu i400, ix_nI (show 80 * s + q < 2 ^ 31 by omega)]
      refine ⟨_, rfl, rfl, fun f j x => ?_⟩
      rw [apM_0]
      simp only [qI_ap]
      by_cases c : j = 0
      · subst c
        by_cases b : x = 80 * s + n
        · subst b
          by_cases g1 : f = 108
          · subst g1; simp [x1, x2, hne]
          by_cases g2 : f = 109
          · subst g2; simp [x1, x2, hne]
          by_cases g3 : f = 110
          · subst g3; simp [x1, x2, hne]
          by_cases g4 : f = 111
          · subst g4; simp [x1, x2, hne, hne2]
          by_cases g5 : f = 112
          · subst g5; simp [x1, x2, hne]
          by_cases g6 : f = 113
          · subst g6; simp [x1, x2, hne]
          by_cases g7 : f = 114
          · subst g7; simp [x1, x2, hne]
          have g8 : ¬ (110 ≤ f ∧ f ≤ 112) := by omega
          simp [x1, x2, g1, g2, g3, g4, g5, g6, g7, g8]
        · by_cases b2 : x = 80 * s + q
          · subst b2
            by_cases g4 : f = 111
            · subst g4; simp [x1, x2, b]
            · simp [x1, x2, b, g4]
          · simp [x1, x2, b, b2]
      · simp [x1, x2, c]
    · rw [if_neg (by decide), if_pos (by decide), ldi_nI hp i90k, e3]
      simp only [nm_x, inx_nI hx i400, ix_nI hx31, ldi_nI hx i400]
      refine ⟨_, rfl, rfl, fun f j x => ?_⟩
      rw [apM_1]
      simp only [qI_ap]
      by_cases c : j = 0
      · subst c
        by_cases b : x = 80 * s + n
        · subst b
          by_cases g2 : f = 109
          · subst g2; simp
          by_cases g3 : f = 110
          · subst g3; simp
          simp [g2, g3]
        · simp [b]
      · simp [c]
    · have hqn := hq (Or.inr rfl)
      have hu : 80 * s + q < 400 := by omega
      have hne : 80 * s + q ≠ 80 * s + n := by omega
      have x1 : q ≠ n := by omega
      have x2 : n ≠ q := by omega
      rw [if_neg (by decide), if_neg (by decide), if_pos (by decide), ht (Or.inr rfl)]
      simp only [nm_x, inx_nI hx i400, ix_nI hx31, ldi_nI hu i400, inx_nI hu i400, ix_nI (show 80 * s + q < 2 ^ 31 by omega)]
      refine ⟨_, rfl, rfl, fun f j x => ?_⟩
      rw [apM_2]
      simp only [qI_ap]
      by_cases c : j = 0
      · subst c
        by_cases b : x = 80 * s + n
        · subst b
          have hne2 : 80 * s + n ≠ 80 * s + q := by omega
          by_cases g2 : f = 108
          · subst g2; simp [x1, x2]
          simp [x1, x2, g2, hne2]
        · by_cases b2 : x = 80 * s + q
          · subst b2
            by_cases g4 : f = 111
            · subst g4; simp [x1, x2, b]
            · simp [x1, x2, b, g4]
          · simp [x1, x2, b, b2]
      · simp [x1, x2, c]
    · rw [if_neg (by decide), if_neg (by decide), if_neg (by decide), if_pos (by decide), ldi_nI hp i90k, e3]
      have e44 : (qI m 113 0 (80 * s + n) v).1 124 0 p = w := by rw [qI_ap, if_neg (by omega), e4]
      simp only [nm_x, inx_nI hx i400, ix_nI hx31, ldi_nI hx i400, ldi_nI hp i90k, e44]
      refine ⟨_, rfl, rfl, fun f j x => ?_⟩
      rw [apM_3]
      simp only [qI_ap]
      by_cases c : j = 0
      · subst c
        by_cases b : x = 80 * s + n
        · subst b
          by_cases g2 : f = 113
          · subst g2; simp
          by_cases g3 : f = 114
          · subst g3; simp
          by_cases g4 : f = 112
          · subst g4; simp
          simp [g2, g3, g4]
        · simp [b]
      · simp [c]
  by_cases c0 : n = 0
  · subst c0
    rw [if_pos (by decide)]
    unfold fX9_apply_31
    exact to51 (-1) (fun h => by have := hq h; omega)
  · rw [if_neg (show ¬ nI n = 0 from fun h => c0 (nI_inj (b := 0) (by omega) (by omega) h)), if_pos (show nI kd ≤ 3 from (nI_le' (b := 3) (by omega) (by omega)).mpr hkd)]
    obtain ⟨h1, h2⟩ := hq2 (by omega)
    rw [ldi_nI hn i80', h1]
    refine to51 _ (fun _ => nI_80 s q)
/-- begin -/
def bgM (m s : qS) : Prop := s.2 = m.2 ∧ ∀ f j q, s.1 f j q = if f = 0 ∧ j = 0 ∧ q = 27 then m.1 0 0 26 + 1 else if f = 0 ∧ j = 0 ∧ q = 19 then m.1 0 0 25 else if f = 0 ∧ j = 0 ∧ q = 18 then m.1 0 0 7 else if f = 116 ∧ j = 0 ∧ q < 80 then m.1 105 0 q else if j = 0 ∧ 108 ≤ f ∧ f ≤ 114 ∧ 320 ≤ q ∧ q < 400 then m.1 f 0 (q - 320) else m.1 f j q
def ctM (m s : qS) (a b t : Nat) : Prop := s.2 = m.2 ∧ ∀ f j q, s.1 f j q = if f = b ∧ j = 0 ∧ q < t then m.1 a 0 q else m.1 f j q
theorem e_begin9_l {m : qS} : ∀ (d t n : Nat) (s : qS), t + d = 80 → d < n → ctM m s 105 116 t → ∃ s', fX9_begin_8 F n (nI t) s = some s' ∧ ∃ s1, ctM m s1 105 116 80 ∧ s' = qI (qI (qI s1 0 0 18 (m.1 0 0 7)) 0 0 19 (m.1 0 0 25)) 0 0 27 (m.1 0 0 26 + 1) := by
  intro d
  induction d with
  | zero =>
    intro t n s h hn hs
    obtain ⟨n, rfl⟩ : ∃ m, n = m + 1 := ⟨n - 1, by omega⟩
    obtain rfl : t = 80 := by omega
    rw [fX9_begin_8, if_pos (le80 (by omega) (by omega))]
    simp only [nm_x]
    have e7 : ∀ q, s.1 0 0 q = m.1 0 0 q := fun q => by rw [hs.2, if_neg (by omega)]
    refine ⟨_, rfl, s, hs, ?_⟩
    have h1 : (qI s 0 0 18 (s.1 0 0 7)).1 0 0 25 = m.1 0 0 25 := by rw [qI_ap, if_neg (by omega), e7]
    have h2 : (qI (qI s 0 0 18 (s.1 0 0 7)) 0 0 19 ((qI s 0 0 18 (s.1 0 0 7)).1 0 0 25)).1 0 0 26 = m.1 0 0 26 := by rw [qI_ap, if_neg (by omega), qI_ap, if_neg (by omega), e7]
    rw [h2, h1, e7]
  | succ d ih =>
    intro t n s h hn hs
    obtain ⟨n, rfl⟩ : ∃ m, n = m + 1 := ⟨n - 1, by omega⟩
    have ht : t < 80 := by omega
    rw [fX9_begin_8, if_neg (nle80 ht), ldi_nI ht i80', inx_nI ht i80', ix_nI (by omega)]
    simp only [nm_x, nI_1]
    refine ih (t + 1) n _ (by omega) (by omega) ⟨hs.1, fun f j q => ?_⟩
    rw [qI_ap, hs.2, hs.2, if_neg (c := (105 : Nat) = 116 ∧ _) (by omega)]
    by_cases c : f = 116 ∧ j = 0 ∧ q = t
    · rw [if_pos c, if_pos ⟨c.1, c.2.1, by omega⟩, c.2.2]
    · rw [if_neg c]
      have e : (f = 116 ∧ j = 0 ∧ q < t) ↔ (f = 116 ∧ j = 0 ∧ q < t + 1) := by omega
      simp only [e]
theorem e_begin9 {m : qS} (hF : 100 ≤ F) : ∃ s', fX9_begin F m = some s' ∧ bgM m s' := by
  unfold fX9_begin
  obtain ⟨s1, g1, g2⟩ := e_copy (F := F) (m := m) (a := 0) (b := 4) hF (by decide) (by decide) (by decide)
  rw [show (0 : Int32) = nI 0 from rfl, show (4 : Int32) = nI 4 from rfl, g1, bnd_s]
  obtain ⟨s', k1, s2, k2, rfl⟩ := e_begin9_l (F := F) (m := s1) 80 0 F s1 rfl (by omega) ⟨rfl, fun f j q => by rw [if_neg (by omega)]⟩
  refine ⟨_, k1, (k2.1.trans g2.1 : s2.2 = m.2), fun f j q => ?_⟩
  have e0 : ∀ q, s1.1 0 0 q = m.1 0 0 q := fun q => by rw [g2.2, if_neg (by omega)]
  have e105 : ∀ q, s1.1 105 0 q = m.1 105 0 q := fun q => by rw [g2.2, if_neg (by omega)]
  simp only [qI_ap, k2.2, e0, e105]
  rw [g2.2]
  have e9 : (j = 0 ∧ 108 ≤ f ∧ f ≤ 114 ∧ 80 * 4 ≤ q ∧ q < 80 * 4 + 80) ↔ (j = 0 ∧ 108 ≤ f ∧ f ≤ 114 ∧ 320 ≤ q ∧ q < 400) := by omega
  simp only [e9, Nat.mul_zero, Nat.zero_add]
/-- taken back -/
def udM (m s : qS) : Prop := s.2 = m.2 ∧ ∀ f j q, s.1 f j q = if f = 0 ∧ j = 0 ∧ q = 25 then m.1 0 0 19 else if f = 0 ∧ j = 0 ∧ q = 7 then m.1 0 0 18 else if f = 105 ∧ j = 0 ∧ q < 80 then m.1 116 0 q else if j = 0 ∧ 108 ≤ f ∧ f ≤ 114 ∧ q < 80 then m.1 f 0 (320 + q) else m.1 f j q
theorem e_undo9_l {m : qS} : ∀ (d t n : Nat) (s : qS), t + d = 80 → d < n → ctM m s 116 105 t → ∃ s', fX9_undo_8 F n (nI t) s = some s' ∧ ∃ s1, ctM m s1 116 105 80 ∧ s' = qI (qI s1 0 0 7 (m.1 0 0 18)) 0 0 25 (m.1 0 0 19) := by
  intro d
  induction d with
  | zero =>
    intro t n s h hn hs
    obtain ⟨n, rfl⟩ : ∃ m, n = m + 1 := ⟨n - 1, by omega⟩
    obtain rfl : t = 80 := by omega
    rw [fX9_undo_8, if_pos (le80 (by omega) (by omega))]
    simp only [nm_x]
    have e7 : ∀ q, s.1 0 0 q = m.1 0 0 q := fun q => by rw [hs.2, if_neg (by omega)]
    refine ⟨_, rfl, s, hs, ?_⟩
    have h1 : (qI s 0 0 7 (s.1 0 0 18)).1 0 0 19 = m.1 0 0 19 := by rw [qI_ap, if_neg (by omega), e7]
    rw [h1, e7]
  | succ d ih =>
    intro t n s h hn hs
    obtain ⟨n, rfl⟩ : ∃ m, n = m + 1 := ⟨n - 1, by omega⟩
    have ht : t < 80 := by omega
    rw [fX9_undo_8, if_neg (nle80 ht), ldi_nI ht i80', inx_nI ht i80', ix_nI (by omega)]
    simp only [nm_x, nI_1]
    refine ih (t + 1) n _ (by omega) (by omega) ⟨hs.1, fun f j q => ?_⟩
    rw [qI_ap, hs.2, hs.2, if_neg (c := (116 : Nat) = 105 ∧ _) (by omega)]
    by_cases c : f = 105 ∧ j = 0 ∧ q = t
    · rw [if_pos c, if_pos ⟨c.1, c.2.1, by omega⟩, c.2.2]
    · rw [if_neg c]
      have e : (f = 105 ∧ j = 0 ∧ q < t) ↔ (f = 105 ∧ j = 0 ∧ q < t + 1) := by omega
      simp only [e]
theorem e_undo9 {m : qS} (hF : 100 ≤ F) : ∃ s', fX9_undo F m = some s' ∧ udM m s' := by
  unfold fX9_undo
  obtain ⟨s1, g1, g2⟩ := e_copy (F := F) (m := m) (a := 4) (b := 0) hF (by decide) (by decide) (by decide)
  rw [show (0 : Int32) = nI 0 from rfl, show (4 : Int32) = nI 4 from rfl, g1, bnd_s]
  obtain ⟨s', k1, s2, k2, rfl⟩ := e_undo9_l (F := F) (m := s1) 80 0 F s1 rfl (by omega) ⟨rfl, fun f j q => by rw [if_neg (by omega)]⟩
  refine ⟨_, k1, (k2.1.trans g2.1 : s2.2 = m.2), fun f j q => ?_⟩
  have e0 : ∀ q, s1.1 0 0 q = m.1 0 0 q := fun q => by rw [g2.2, if_neg (by omega)]
  have e105 : ∀ q, s1.1 116 0 q = m.1 116 0 q := fun q => by rw [g2.2, if_neg (by omega)]
  simp only [qI_ap, k2.2, e0, e105]
  rw [g2.2]
  have e9 : (j = 0 ∧ 108 ≤ f ∧ f ≤ 114 ∧ 80 * 0 ≤ q ∧ q < 80 * 0 + 80) ↔ (j = 0 ∧ 108 ≤ f ∧ f ≤ 114 ∧ q < 80) := by omega
  simp only [e9, Nat.mul_zero, Nat.sub_zero, show 80 * 4 = 320 from rfl]
end RG

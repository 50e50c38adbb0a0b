/-! PURE: an act, in both -/
/-- an act that waits in the class is one that the reference is given -/
def actR (σ : qS) (z a : Nat) (w x1 x2 x3 x4 x5 x6 : Int32) : Prop :=
  (w = 0 ∧ σ.1 56 a 0 = 0 ∧ σ.1 56 a 1 = x1 ∧ σ.1 56 a 3 = x4 ∧ σ.1 56 a 5 = x5 ∧ ∃ nb : Bool, x3 = (if nb = true then 1 else 0) ∧ (nb = true → σ.1 56 a 2 = 1000) ∧ (nb = false → σ.1 56 a 2 = x2 ∧ ∃ x, x < 100 ∧ x2 = nI x) ∧ (x5 = 1 → σ.1 56 a 6 = nI z) ∧ (x5 = 2 → σ.1 56 a 6 = x6)) ∨
  (w = 1 ∧ σ.1 56 a 0 = 1 ∧ σ.1 56 a 1 = x1 ∧ σ.1 56 a 3 = x2 ∧ σ.1 56 a 4 = x3) ∨
  (w = 2 ∧ σ.1 56 a 0 = 2 ∧ σ.1 56 a 1 = x1 ∧ σ.1 56 a 4 = x2) ∨
  (w = 3 ∧ ∃ kd, (kd = 3 ∨ kd = 4) ∧ σ.1 56 a 0 = nI kd ∧ σ.1 56 a 1 = x1 ∧ x4 = (if kd = 4 then 1 else 0) ∧ ∃ x y, x < 16 ∧ y < 16 ∧ x2 = nI x ∧ x3 = nI y ∧ σ.1 56 a 3 = nI (x + 16 * y)) ∨
  (w = 4 ∧ σ.1 56 a 0 = 5 ∧ σ.1 56 a 1 = x1 ∧ σ.1 56 a 4 = x2)
theorem frB_weak {σ σ' : qS} {S M0 M1 : Nat} (h : frB σ σ' S M1) (hM : M0 ≤ M1) : frB σ σ' S M0 := ⟨h.1, fun f j k w1 w2 w3 w4 w5 w6 w7 => h.2 f j k w1 w2 w3 w4 w5 (by omega) w7⟩
theorem frD_weak {m m' : qS} {R M0 M1 : Nat} (h : frD m m' R M1) (hM : M0 ≤ M1) : frD m m' R M0 := ⟨h.1, fun f j k w1 w2 w3 w4 w5 => h.2 f j k w1 w2 w3 (by omega) w5⟩
theorem eX_weak {M0 M1 L a b a' b' : Nat} {σ m σ' m' : qS} {C C' : Nat → qS} {π π' : Nat → Nat} {M S M' S' : Nat} (h : eX M1 L a b σ m C π M S σ' m' C' π' M' S') (hM : M0 ≤ M1) (ha : a ≤ a') (hb : b ≤ b') : eX M0 L a' b' σ m C π M S σ' m' C' π' M' S' := by
  obtain ⟨h1, h2, h3, h4, h5, h6, h7, h8, h9, h10⟩ := h
  exact ⟨h1, frB_weak h2 hM, frD_weak h3 hM, h4, h5, h6, h7, h8, by omega, by omega⟩
theorem eX_kQ {L a b : Nat} {σ m σ' m' : qS} {C C' : Nat → qS} {π π' : Nat → Nat} {M S S' : Nat} (h : eX 80 L a b σ m C π M S σ' m' C' π' M S') (hQ : kQ σ m M) : kQ σ' m' M := by
  obtain ⟨h1, h2, h3, h4, h5, h6, h7, h8, h9, h10⟩ := h
  intro k hk
  rw [h2.2 14 0 k (by omega) (by omega) (by omega) (by omega) (by omega) (by omega) (by omega), h3.2 106 0 k (by omega) (by omega) (by omega) (by omega) (by omega)]
  exact hQ k hk
/-- what both answer to an act, how both went on -/
def acR (M0 L : Nat) (σ m : qS) (C : Nat → qS) (π : Nat → Nat) (M S : Nat) (X Y : Option (Int32 × qS)) : Prop := ∃ v σ' m' C' π' M' S', X = some (v, σ') ∧ Y = some (v, m') ∧ eX M0 L 1 80 σ m C π M S σ' m' C' π' M' S' ∧ kQ σ' m' M' ∧ (v < 0 → S' = S ∧ M' = M)
section AT
variable {F : Nat}
theorem acR_of {M0 L a b M : Nat} {σ m : qS} {C : Nat → qS} {π : Nat → Nat} {S : Nat} {X Y : Option (Int32 × qS)} (hM0 : M0 ≤ 80) (ha : a ≤ 1) (hb : b ≤ 80) (hQ : kQ σ m M) (h : ∃ v σ' m' C' π' S', X = some (v, σ') ∧ Y = some (v, m') ∧ eX 80 L a b σ m C π M S σ' m' C' π' M S' ∧ (v < 0 → S' = S)) : acR M0 L σ m C π M S X Y := by
  obtain ⟨v, σ', m', C', π', S', h1, h2, h3, h4⟩ := h
  exact ⟨v, σ', m', C', π', M, S', h1, h2, eX_weak h3 hM0 ha hb, eX_kQ h3 hQ, fun q => ⟨h4 q, rfl⟩⟩
theorem bnd2_id {α β : Type} {x : Option (α × β)} : (bnd2 x fun a b => some (a, b)) = x := by
  cases x with
  | none => rfl
  | some p => rfl
theorem pr_act {M0 L M : Nat} {σ m : qS} {C : Nat → qS} {π : Nat → Nat} {S z a p : Nat} {w x1 x2 x3 x4 x5 x6 : Int32} (hF : 200 ≤ F) (h : kA σ m C π M S) (hQ : kQ σ m M) (hz : z < σ.2 0 0) (hz10 : z < 10) (ha : a < 1 + 6 * σ.2 0 0) (hp : σ.1 50 z 1 = nI p) (hp4 : p < 4) (hpm : m.1 131 0 z = nI p) (hL : σ.1 0 0 15 = nI L) (hL9 : L + 1 < 2 ^ 31) (h27 : m.1 0 0 27 = nI (L + 1)) (hS9 : S + nH (C S) ≤ 998) (hR9 : π S + 80 ≤ 89999) (hR8 : π S + nH (C S) ≤ 89999) (hM0 : M0 ≤ M) (hr : actR σ z a w x1 x2 x3 x4 x5 x6) :
    acR M0 L σ m C π M S (fX8_perform F z a σ) (fX9_acts F (nI z) w x1 x2 x3 x4 x5 x6 m) := by
  have hM80 : M ≤ 80 := h.2.1.2.2.2.2.1
  unfold fX8_perform fX8_perform_72 fX9_acts
  simp only [nm_x, gnl_pos ha, bnd2_id]
  rcases hr with ⟨rfl, e0, e1, e3, e5, nb, eb, n1, n0, hh1, hh2⟩ | ⟨rfl, e0, e1, e2, e3⟩ | ⟨rfl, e0, e1, e2⟩ | ⟨rfl, kd, hk, e0, e1, e4, x, y, hx, hy, e2, e3, e6⟩ | ⟨rfl, e0, e1, e2⟩
  · rw [e0, if_pos rfl, if_pos rfl, eb, ← e1, ← e3]
    obtain ⟨v, σ', m', C', π', M', S', q1, q2, q3, q4, q5⟩ := pr_make (F := F) (M0 := M0) (L := L) (lease := x6) hF h hQ hz hz10 ha hp hp4 hpm hL hL9 h27 (by omega) (by omega) hM0 n1 n0 e5 hh1 hh2
    exact ⟨v, σ', m', C', π', M', S', q1, q2, eX_weak q3 (Nat.le_refl _) (by omega) (by omega), q4, q5⟩
  · rw [e0, if_neg (by decide), if_pos rfl, if_neg (by decide), if_pos rfl, ldi_nI hz10 (by decide), hpm, ← e1, ← e2, ← e3]
    exact acR_of (by omega) (Nat.le_refl _) (by omega) hQ (pr_set (F := F) (by omega) h hz ha hp hp4 hL hL9 h27 (by omega) (by omega))
  · rw [e0, if_neg (by decide), if_neg (by decide), if_pos rfl, if_neg (by decide), if_neg (by decide), if_pos rfl, ldi_nI hz10 (by decide), hpm, ← e1, ← e2]
    exact acR_of (by omega) (by omega) (by omega) hQ (pr_delete (F := F) hF h hz ha hp hp4 hL hL9 h27 (by omega) (by omega))
  · have hc : (if σ.1 56 a 0 = 0 then fX8_tryMake F z a σ else if σ.1 56 a 0 = 1 then fX8_trySet F z a σ else if σ.1 56 a 0 = 2 then fX8_tryDelete F z a σ else if σ.1 56 a 0 = 3 then fX8_tryRights F z a σ else if σ.1 56 a 0 = 4 then fX8_tryRights F z a σ else if σ.1 56 a 0 = 5 then fX8_tryCheck F z a σ else fX8_tryRights F z a σ) = fX8_tryRights F z a σ := by
      rw [e0]
      obtain rfl | rfl := hk
      · rw [if_neg (by decide), if_neg (by decide), if_neg (by decide), if_pos (by decide)]
      · rw [if_neg (by decide), if_neg (by decide), if_neg (by decide), if_neg (by decide), if_pos (by decide)]
    rw [hc, if_neg (by decide), if_neg (by decide), if_neg (by decide), if_pos rfl, ldi_nI hz10 (by decide), hpm, ← e1, e2, e3, e4]
    exact acR_of (by omega) (Nat.le_refl _) (Nat.le_refl _) hQ (pr_rights (F := F) (by omega) h hz ha hp hp4 hL hL9 h27 (by omega) (by omega) hk e0 hx hy e6)
  · rw [e0, if_neg (by decide), if_neg (by decide), if_neg (by decide), if_neg (by decide), if_neg (by decide), if_pos rfl, if_neg (by decide), if_neg (by decide), if_neg (by decide), if_neg (by decide), ldi_nI hz10 (by decide), hpm, ← e1, ← e2]
    obtain ⟨v, q1, q2⟩ := pr_check (F := F) (M0 := M0) (L := L) (by omega) h hz ha hp hp4 (show π S < 2 ^ 31 by omega)
    exact acR_of (by omega) (a := 0) (b := 0) (by omega) (by omega) hQ ⟨v, σ, m, C, π, S, q1, q2, eX_rf h, fun _ => rfl⟩
end AT

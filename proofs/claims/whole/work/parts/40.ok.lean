/-! PURE: what a printed function says, as a statement over its answer -/
def ok {α : Type} (x : Option α) (P : α → Prop) : Prop := ∃ a, x = some a ∧ P a
theorem ok_some {α : Type} {a : α} {P : α → Prop} : ok (some a) P ↔ P a := ⟨fun ⟨b, h, hp⟩ => by cases h; exact hp, fun h => ⟨a, rfl, h⟩⟩
theorem ok_none {α : Type} {P : α → Prop} : ok (none : Option α) P ↔ False := ⟨fun ⟨b, h, _⟩ => (by cases h), False.elim⟩
theorem ok_nm {α β : Type} {x : α} {k : α → Option β} {P : β → Prop} : ok (nm x k) P ↔ ok (k x) P := Iff.rfl
theorem ok_gnl {β : Type} {i n : Nat} {k : Option β} {P : β → Prop} : ok (gnl i n k) P ↔ i < n ∧ ok k P := by
  unfold gnl
  by_cases h : i < n
  · rw [if_pos h]; exact ⟨fun q => ⟨h, q⟩, fun q => q.2⟩
  · rw [if_neg h]; exact ⟨fun ⟨a, q, _⟩ => (by cases q), fun q => absurd q.1 h⟩
theorem ok_ldi {β : Type} {n : Nat} {f : Nat → Int32} {j : Int32} {k : Int32 → Option β} {P : β → Prop} : ok (ldi n f j k) P ↔ vp_in j n ∧ ok (k (f j.toNatClampNeg)) P := by
  unfold ldi
  by_cases h : 0 ≤ j.toInt ∧ j.toInt < n
  · rw [if_pos h]; exact ⟨fun q => ⟨vp_in_iff.mpr h, q⟩, fun q => q.2⟩
  · rw [if_neg h]; exact ⟨fun ⟨a, q, _⟩ => (by cases q), fun q => absurd (vp_in_iff.mp q.1) h⟩
theorem ok_inx {β : Type} {n : Nat} {j : Int32} {k : Option β} {P : β → Prop} : ok (inx n j k) P ↔ vp_in j n ∧ ok k P := by
  unfold inx
  by_cases h : 0 ≤ j.toInt ∧ j.toInt < n
  · rw [if_pos h]; exact ⟨fun q => ⟨vp_in_iff.mpr h, q⟩, fun q => q.2⟩
  · rw [if_neg h]; exact ⟨fun ⟨a, q, _⟩ => (by cases q), fun q => absurd (vp_in_iff.mp q.1) h⟩
theorem ok_gbl {β : Type} {x : Int32} {k : Option β} {P : β → Prop} : ok (gbl x k) P ↔ (x = 0 ∨ x = 1) ∧ ok k P := by
  unfold gbl
  by_cases h : x = 0 ∨ x = 1
  · rw [if_pos h]; exact ⟨fun q => ⟨h, q⟩, fun q => q.2⟩
  · rw [if_neg h]; exact ⟨fun ⟨a, q, _⟩ => (by cases q), fun q => absurd q.1 h⟩
theorem ok_ite {β : Type} {c : Prop} {inst : Decidable c} {a b : Option β} {P : β → Prop} : ok (@ite _ c inst a b) P ↔ (c → ok a P) ∧ (¬ c → ok b P) := by
  by_cases h : c
  · rw [if_pos h]; exact ⟨fun q => ⟨fun _ => q, fun n => absurd h n⟩, fun q => q.1 h⟩
  · rw [if_neg h]; exact ⟨fun q => ⟨fun n => absurd n h, fun _ => q⟩, fun q => q.2 h⟩
theorem ok_bnd {α β : Type} {x : Option α} {k : α → Option β} {P : β → Prop} : ok (bnd x k) P ↔ ok x (fun a => ok (k a) P) := by
  cases x with
  | none => exact ⟨fun ⟨a, q, _⟩ => (by cases q), fun ⟨a, q, _⟩ => (by cases q)⟩
  | some a => exact (ok_some (P := fun a => ok (k a) P)).symm
theorem ok_bnd2 {α γ β : Type} {x : Option (α × γ)} {k : α → γ → Option β} {P : β → Prop} : ok (bnd2 x k) P ↔ ok x (fun a => ok (k a.1 a.2) P) := by
  cases x with
  | none => exact ⟨fun ⟨a, q, _⟩ => (by cases q), fun ⟨a, q, _⟩ => (by cases q)⟩
  | some a => exact (ok_some (P := fun a : α × γ => ok (k a.1 a.2) P)).symm
theorem ok_bnd3 {α γ β : Type} {x : Option (α × Nat × γ)} {k : α → γ → Option β} {kx : Nat → γ → Option β} {P : β → Prop} : ok (bnd3 x k kx) P ↔ ok x (fun a => (a.2.1 = 0 → ok (k a.1 a.2.2) P) ∧ (a.2.1 ≠ 0 → ok (kx a.2.1 a.2.2) P)) := by
  cases x with
  | none => exact ⟨fun ⟨a, q, _⟩ => (by cases q), fun ⟨a, q, _⟩ => (by cases q)⟩
  | some a => exact (ok_ite (c := a.2.1 = 0) (P := P)).trans (ok_some (P := fun a : α × Nat × γ => (a.2.1 = 0 → ok (k a.1 a.2.2) P) ∧ (a.2.1 ≠ 0 → ok (kx a.2.1 a.2.2) P))).symm
theorem ok_imp {α : Type} {x : Option α} {P Q : α → Prop} (h : ok x P) (hi : ∀ a, P a → Q a) : ok x Q := by
  obtain ⟨a, h1, h2⟩ := h
  exact ⟨a, h1, hi a h2⟩
theorem ok_eq {α : Type} {x : Option α} {a : α} (h : x = some a) {P : α → Prop} : ok x P ↔ P a := by
  subst h
  exact ok_some
/-! indices and small numbers -/
theorem ix_nI {n : Nat} (h : n < 2 ^ 31) : (nI n).toNatClampNeg = n := nI_clamp h
theorem in_nI {a n : Nat} (h : a < n) (h2 : n ≤ 2 ^ 31) : vp_in (nI a) n := by
  have h9 := nI_toInt (n := a) (by omega)
  exact vp_in_iff.mpr ⟨by omega, by omega⟩
theorem in_ex {x : Int32} {n : Nat} (h : vp_in x n) : ∃ a, a < n ∧ a < 2 ^ 31 ∧ x = nI a := by
  obtain ⟨h1, h2⟩ := vp_in_iff.mp h
  obtain ⟨j, hj, e⟩ := nI_of (x := x) (by
    intro h9
    have h8 := Int32.lt_iff_toInt_lt.mp h9
    have h7 : (0 : Int32).toInt = 0 := rfl
    omega)
  refine ⟨j, ?_, hj, e⟩
  rw [e, nI_toInt hj] at h2
  omega
theorem nI_mul (a b : Nat) : nI a * nI b = nI (a * b) := (Int32.ofNat_mul a b).symm
theorem nI_sub {a b : Nat} (h : b ≤ a) : nI a - nI b = nI (a - b) := by
  obtain ⟨k, rfl⟩ : ∃ k, a = k + b := ⟨a - b, by omega⟩
  rw [← nI_add, Nat.add_sub_cancel]
  exact Int32.add_sub_cancel _ _
theorem nI_lit (n : Nat) : (OfNat.ofNat n : Int32) = nI n := rfl
theorem nI_inj {a b : Nat} (ha : a < 2 ^ 31) (hb : b < 2 ^ 31) (h : nI a = nI b) : a = b := (nI_eq ha hb).mp h
/-! reading what was written -/
theorem qI_at {σ : qS} {k i j : Nat} {v : Int32} : (qI σ k i j v).1 k i = upd (σ.1 k i) j v := qF_s
theorem qI_k {σ : qS} {k i j k' i' : Nat} {v : Int32} (h : k' ≠ k) : (qI σ k i j v).1 k' i' = σ.1 k' i' := if_neg (fun q => h q.1)
theorem qI_i {σ : qS} {k i j k' i' : Nat} {v : Int32} (h : i' ≠ i) : (qI σ k i j v).1 k' i' = σ.1 k' i' := if_neg (fun q => h q.2)
theorem qI_N {σ : qS} {k i j : Nat} {v : Int32} : (qI σ k i j v).2 = σ.2 := rfl
theorem upd_at {f : Nat → Int32} {j : Nat} {v : Int32} : upd f j v j = v := by simp [upd]
theorem upd_ne {f : Nat → Int32} {j q : Nat} {v : Int32} (h : q ≠ j) : upd f j v q = f q := by simp [upd, h]
theorem upd_if {f : Nat → Int32} {j q : Nat} {v : Int32} : upd f j v q = if q = j then v else f q := by
  by_cases h : q = j
  · subst h; rw [upd_at, if_pos rfl]
  · rw [upd_ne h, if_neg h]

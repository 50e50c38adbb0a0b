/-! OPEN: a session's cells more -/
theorem at_arr {D : va_G} {cl : List vw_C} {a n : Nat} {c : ClassId} {f f' : Nat → Option Nat} {H : Heap} (h : ∀ j, j < n → f j = f' j) (h9 : va_at D cl (a, .inl (c, n, .inr (.inr (.inr (.inr f))))) H) : va_at D cl (a, .inl (c, n, .inr (.inr (.inr (.inr f'))))) H := by
  have e : vp_cell c (n, .inr (.inr (.inr (.inr f)))) = vp_cell c (n, .inr (.inr (.inr (.inr f')))) := by
    show arrV c n (fun j => va_rf (f j)) = arrV c n (fun j => va_rf (f' j))
    unfold arrV
    congr 1
    congr 1
    funext j
    show va_rf (f j.val) = va_rf (f' j.val)
    rw [h j.val j.isLt]
  show H[a]? = some (vp_cell c (n, .inr (.inr (.inr (.inr f')))))
  rw [← e]
  exact h9
theorem cDom {N : Nat → Nat → Nat} {k i : Nat} (hd : i < cNum N k) : k < 20 ∨ (30 ≤ k ∧ k < 40) ∨ (50 ≤ k ∧ k < 59) := by
  refine Decidable.byContradiction fun hn => ?_
  have h0 : k ≠ 0 := by omega
  have h1 : k ≠ 1 := by omega
  have h2 : k ≠ 2 := by omega
  have h3 : k ≠ 3 := by omega
  have h4 : k ≠ 4 := by omega
  have h5 : k ≠ 5 := by omega
  have h6 : k ≠ 6 := by omega
  have h7 : k ≠ 7 := by omega
  have h8 : k ≠ 8 := by omega
  have h9 : k ≠ 9 := by omega
  have h10 : k ≠ 10 := by omega
  have h11 : k ≠ 11 := by omega
  have h12 : k ≠ 12 := by omega
  have h13 : k ≠ 13 := by omega
  have h14 : k ≠ 14 := by omega
  have h15 : k ≠ 15 := by omega
  have h16 : k ≠ 16 := by omega
  have h17 : k ≠ 17 := by omega
  have h18 : k ≠ 18 := by omega
  have h19 : k ≠ 19 := by omega
  have h30 : k ≠ 30 := by omega
  have h31 : k ≠ 31 := by omega
  have h32 : k ≠ 32 := by omega
  have h33 : k ≠ 33 := by omega
  have h34 : k ≠ 34 := by omega
  have h35 : k ≠ 35 := by omega
  have h36 : k ≠ 36 := by omega
  have h37 : k ≠ 37 := by omega
  have h38 : k ≠ 38 := by omega
  have h39 : k ≠ 39 := by omega
  have h50 : k ≠ 50 := by omega
  have h51 : k ≠ 51 := by omega
  have h52 : k ≠ 52 := by omega
  have h53 : k ≠ 53 := by omega
  have h54 : k ≠ 54 := by omega
  have h55 : k ≠ 55 := by omega
  have h56 : k ≠ 56 := by omega
  have h57 : k ≠ 57 := by omega
  have h58 : k ≠ 58 := by omega
  unfold cNum at hd
  simp only [h0, h1, h2, h3, h4, h5, h6, h7, h8, h9, h10, h11, h12, h13, h14, h15, h16, h17, h18, h19, h30, h31, h32, h33, h34, h35, h36, h37, h38, h39, h50, h51, h52, h53, h54, h55, h56, h57, h58, if_false] at hd
  exact Nat.not_lt_zero _ hd
def sesI (a b c d sh : Int32) : Nat → Int32 := fun j => if j = 0 then a else if j = 1 then b else if j = 2 then c else if j = 9 then d else if j = 10 then sh else 0
def actI : Nat → Int32 := fun j => if j = 0 then 5 else if j = 1 then -100 else if j = 6 then -100 else if j = 4 then -1 else 0
def newS (p1 p3 : Int32) (i2 : Nat) (σ : qS) : qS := (fun k i => if k = 16 ∧ i = 0 then upd (σ.1 16 0) 0 (σ.1 16 0 0 + 1) else if k = 50 ∧ i = σ.2 0 0 then sesI (nI (σ.2 0 0)) p1 p3 (σ.1 0 0 14) (σ.1 8 i2 2) else if 51 ≤ k ∧ k ≤ 55 ∧ i = σ.2 0 0 then (fun _ => 0) else if k = 58 ∧ i = σ.2 0 0 then (fun _ => 0) else if k = 56 ∧ 1 + 6 * σ.2 0 0 ≤ i ∧ i < 7 + 6 * σ.2 0 0 then actI else σ.1 k i,
  fun k i => if k = 0 ∧ i = 0 then σ.2 0 0 + 1 else if k = 2 ∧ i = σ.2 0 0 then i2 else if k = 3 ∧ i = σ.2 0 0 then 16 else σ.2 k i)
def newSa (ad : qAd) (N q b : Nat) (a : Nat → Nat) : qAd := fun k i => if k = 17 ∧ i = 0 then b else if k = 50 ∧ i = N then q else if 51 ≤ k ∧ k ≤ 55 ∧ i = N then a (k - 51) else if k = 58 ∧ i = N then a 5 else if k = 56 ∧ 1 + 6 * N ≤ i ∧ i < 7 + 6 * N then a (i - (1 + 6 * N) + 6) else ad k i
theorem newSa_lo {ad : qAd} {N q b : Nat} {a : Nat → Nat} {k i : Nat} (h : k < 50) (h17 : k ≠ 17) : newSa ad N q b a k i = ad k i := by
  unfold newSa
  rw [if_neg (fun c => h17 c.1), if_neg (by omega), if_neg (by omega), if_neg (by omega), if_neg (by omega)]
theorem newSa_hi {ad : qAd} {N q b : Nat} {a : Nat → Nat} {k i : Nat} (h : 50 ≤ k) (h56 : k ≠ 56) (hi : i ≠ N) : newSa ad N q b a k i = ad k i := by
  unfold newSa
  rw [if_neg (by omega), if_neg (fun c => hi c.2), if_neg (fun c => hi c.2.2), if_neg (fun c => hi c.2), if_neg (fun c => h56 c.1)]
theorem newSa_56 {ad : qAd} {N q b : Nat} {a : Nat → Nat} {i : Nat} (hi : i < 1 + 6 * N) : newSa ad N q b a 56 i = ad 56 i := by
  unfold newSa
  rw [if_neg (by omega), if_neg (by omega), if_neg (by omega), if_neg (by omega), if_neg (by omega)]
theorem cCe_open {Y : Nat → ClassId} (f : Nat → Int32) {N' : Nat → Nat → Nat} {ad : qAd} {σ : qS} {p1 p3 : Int32} {i2 q b : Nat} {a : Nat → Nat} (hN' : N' = (newS p1 p3 i2 σ).2) {k i : Nat} (hd : i < cNum σ.2 k) (h16 : k ≠ 16) (h17 : k ≠ 17) (h51 : k ≠ 51) : cCe Y f N' (newSa ad (σ.2 0 0) q b a) k i = cCe Y f σ.2 ad k i := by
  have n1 : ∀ i, N' 1 i = σ.2 1 i := fun i => by rw [hN']; simp [newS]
  have n2 : i ≠ σ.2 0 0 → N' 2 i = σ.2 2 i := fun h => by rw [hN']; simp [newS, h]
  have n3 : i ≠ σ.2 0 0 → N' 3 i = σ.2 3 i := fun h => by rw [hN']; simp [newS, h]
  have a1 : ∀ i, newSa ad (σ.2 0 0) q b a 1 i = ad 1 i := fun i => newSa_lo (by decide) (by decide)
  have a2 : ∀ i, newSa ad (σ.2 0 0) q b a 2 i = ad 2 i := fun i => newSa_lo (by decide) (by decide)
  have a3 : ∀ i, newSa ad (σ.2 0 0) q b a 3 i = ad 3 i := fun i => newSa_lo (by decide) (by decide)
  have a4 : ∀ i, newSa ad (σ.2 0 0) q b a 4 i = ad 4 i := fun i => newSa_lo (by decide) (by decide)
  have a5 : ∀ i, newSa ad (σ.2 0 0) q b a 5 i = ad 5 i := fun i => newSa_lo (by decide) (by decide)
  have a6 : ∀ i, newSa ad (σ.2 0 0) q b a 6 i = ad 6 i := fun i => newSa_lo (by decide) (by decide)
  have a7 : ∀ i, newSa ad (σ.2 0 0) q b a 7 i = ad 7 i := fun i => newSa_lo (by decide) (by decide)
  have a8 : ∀ i, newSa ad (σ.2 0 0) q b a 8 i = ad 8 i := fun i => newSa_lo (by decide) (by decide)
  have a9 : ∀ i, newSa ad (σ.2 0 0) q b a 9 i = ad 9 i := fun i => newSa_lo (by decide) (by decide)
  have a10 : ∀ i, newSa ad (σ.2 0 0) q b a 10 i = ad 10 i := fun i => newSa_lo (by decide) (by decide)
  have a11 : ∀ i, newSa ad (σ.2 0 0) q b a 11 i = ad 11 i := fun i => newSa_lo (by decide) (by decide)
  have a12 : ∀ i, newSa ad (σ.2 0 0) q b a 12 i = ad 12 i := fun i => newSa_lo (by decide) (by decide)
  have a13 : ∀ i, newSa ad (σ.2 0 0) q b a 13 i = ad 13 i := fun i => newSa_lo (by decide) (by decide)
  have a14 : ∀ i, newSa ad (σ.2 0 0) q b a 14 i = ad 14 i := fun i => newSa_lo (by decide) (by decide)
  have a15 : ∀ i, newSa ad (σ.2 0 0) q b a 15 i = ad 15 i := fun i => newSa_lo (by decide) (by decide)
  have a16 : ∀ i, newSa ad (σ.2 0 0) q b a 16 i = ad 16 i := fun i => newSa_lo (by decide) (by decide)
  have a18 : ∀ i, newSa ad (σ.2 0 0) q b a 18 i = ad 18 i := fun i => newSa_lo (by decide) (by decide)
  have a19 : ∀ i, newSa ad (σ.2 0 0) q b a 19 i = ad 19 i := fun i => newSa_lo (by decide) (by decide)
  have a30 : ∀ i, newSa ad (σ.2 0 0) q b a 30 i = ad 30 i := fun i => newSa_lo (by decide) (by decide)
  have a31 : ∀ i, newSa ad (σ.2 0 0) q b a 31 i = ad 31 i := fun i => newSa_lo (by decide) (by decide)
  have a32 : ∀ i, newSa ad (σ.2 0 0) q b a 32 i = ad 32 i := fun i => newSa_lo (by decide) (by decide)
  have a33 : ∀ i, newSa ad (σ.2 0 0) q b a 33 i = ad 33 i := fun i => newSa_lo (by decide) (by decide)
  have a34 : ∀ i, newSa ad (σ.2 0 0) q b a 34 i = ad 34 i := fun i => newSa_lo (by decide) (by decide)
  have a35 : ∀ i, newSa ad (σ.2 0 0) q b a 35 i = ad 35 i := fun i => newSa_lo (by decide) (by decide)
  have a36 : ∀ i, newSa ad (σ.2 0 0) q b a 36 i = ad 36 i := fun i => newSa_lo (by decide) (by decide)
  have a37 : ∀ i, newSa ad (σ.2 0 0) q b a 37 i = ad 37 i := fun i => newSa_lo (by decide) (by decide)
  have a38 : ∀ i, newSa ad (σ.2 0 0) q b a 38 i = ad 38 i := fun i => newSa_lo (by decide) (by decide)
  have a39 : ∀ i, newSa ad (σ.2 0 0) q b a 39 i = ad 39 i := fun i => newSa_lo (by decide) (by decide)
  have z56 : newSa ad (σ.2 0 0) q b a 56 0 = ad 56 0 := newSa_56 (by omega)
  have h57 : ∀ j, newSa ad (σ.2 0 0) q b a 57 j = ad 57 j := fun j => by unfold newSa; rw [if_neg (by omega), if_neg (by omega), if_neg (by omega), if_neg (by omega), if_neg (by omega)]
  rcases cDom hd with h | h | h
  · obtain rfl | rfl | rfl | rfl | rfl | rfl | rfl | rfl | rfl | rfl | rfl | rfl | rfl | rfl | rfl | rfl | rfl | rfl | rfl | rfl : k = 0 ∨ k = 1 ∨ k = 2 ∨ k = 3 ∨ k = 4 ∨ k = 5 ∨ k = 6 ∨ k = 7 ∨ k = 8 ∨ k = 9 ∨ k = 10 ∨ k = 11 ∨ k = 12 ∨ k = 13 ∨ k = 14 ∨ k = 15 ∨ k = 16 ∨ k = 17 ∨ k = 18 ∨ k = 19 := by omega
    · show (.inr (9, [.ref (newSa ad (σ.2 0 0) q b a 1 0), .ref (newSa ad (σ.2 0 0) q b a 7 0), .ref (newSa ad (σ.2 0 0) q b a 30 0), .ref (newSa ad (σ.2 0 0) q b a 30 3), .ref (newSa ad (σ.2 0 0) q b a 30 4), .ref (newSa ad (σ.2 0 0) q b a 9 0), .ref (newSa ad (σ.2 0 0) q b a 30 5), .ref (newSa ad (σ.2 0 0) q b a 16 0), .ref (newSa ad (σ.2 0 0) q b a 18 0), .ref (newSa ad (σ.2 0 0) q b a 56 0), .ref (newSa ad (σ.2 0 0) q b a 14 0), .ref (newSa ad (σ.2 0 0) q b a 15 0), .int (f 12), .int (f 13), .int (f 14), .int (f 15), .int (f 16), .int (f 17), .int (f 18), .int (f 19)]) : va_E) = _; simp only [a1, a7, a9, a14, a15, a16, a18, a30, z56]; rfl
    · show (.inr (2, [.ref (newSa ad (σ.2 0 0) q b a 2 0), .ref (newSa ad (σ.2 0 0) q b a 3 0), .ref (newSa ad (σ.2 0 0) q b a 4 0), .ref (newSa ad (σ.2 0 0) q b a 5 0), .ref (newSa ad (σ.2 0 0) q b a 6 0), .int (f 5)]) : va_E) = _; simp only [a2, a3, a4, a5, a6]; rfl
    · rfl
    · rfl
    · rfl
    · rfl
    · rfl
    · show (.inl (Y 3, 3, .inr (.inr (.inr (.inr (fun j => some (newSa ad (σ.2 0 0) q b a 8 j)))))) : va_E) = _; simp only [a8]; rfl
    · show (.inr (6, [.ref (newSa ad (σ.2 0 0) q b a 30 i), .int (f 1), .int (f 2)]) : va_E) = _; simp only [a30]; rfl
    · show (.inr (4, [.ref (newSa ad (σ.2 0 0) q b a 10 0), .ref (newSa ad (σ.2 0 0) q b a 11 0), .ref (newSa ad (σ.2 0 0) q b a 12 0), .ref (newSa ad (σ.2 0 0) q b a 13 0), .int (f 4)]) : va_E) = _; simp only [a10, a11, a12, a13]; rfl
    · rfl
    · rfl
    · rfl
    · rfl
    · rfl
    · rfl
    · exact absurd rfl h16
    · exact absurd rfl h17
    · show (.inr (0, [.int (f 0), .ref (newSa ad (σ.2 0 0) q b a 19 0), .int (nI (N' 1 0))]) : va_E) = _; simp only [a19, n1]; rfl
    · show (.inl (Y 4, 10, .inr (.inr (.inr (.inr (fun j => if j < N' 1 0 then some (newSa ad (σ.2 0 0) q b a 57 j) else none))))) : va_E) = _; simp only [h57, n1]; rfl
  · obtain rfl | rfl | rfl | rfl | rfl | rfl | rfl | rfl | rfl | rfl : k = 30 ∨ k = 31 ∨ k = 32 ∨ k = 33 ∨ k = 34 ∨ k = 35 ∨ k = 36 ∨ k = 37 ∨ k = 38 ∨ k = 39 := by omega
    · show (.inr (8, [.ref (newSa ad (σ.2 0 0) q b a 1 0), .ref (newSa ad (σ.2 0 0) q b a 31 i), .ref (newSa ad (σ.2 0 0) q b a 32 i), .ref (newSa ad (σ.2 0 0) q b a 33 i), .ref (newSa ad (σ.2 0 0) q b a 34 i), .ref (newSa ad (σ.2 0 0) q b a 35 i), .ref (newSa ad (σ.2 0 0) q b a 36 i), .ref (newSa ad (σ.2 0 0) q b a 37 i), .ref (newSa ad (σ.2 0 0) q b a 38 i), .ref (newSa ad (σ.2 0 0) q b a 39 i)]) : va_E) = _; simp only [a1, a31, a32, a33, a34, a35, a36, a37, a38, a39]; rfl
    · rfl
    · rfl
    · rfl
    · rfl
    · rfl
    · rfl
    · rfl
    · rfl
    · rfl
  · obtain rfl | rfl | rfl | rfl | rfl | rfl | rfl | rfl | rfl : k = 50 ∨ k = 51 ∨ k = 52 ∨ k = 53 ∨ k = 54 ∨ k = 55 ∨ k = 56 ∨ k = 57 ∨ k = 58 := by omega
    · have hi : i ≠ σ.2 0 0 := Nat.ne_of_lt hd; have e51 : newSa ad (σ.2 0 0) q b a 51 i = ad 51 i := newSa_hi (by decide) (by decide) hi; have e52 : newSa ad (σ.2 0 0) q b a 52 i = ad 52 i := newSa_hi (by decide) (by decide) hi; have e53 : newSa ad (σ.2 0 0) q b a 53 i = ad 53 i := newSa_hi (by decide) (by decide) hi; have e54 : newSa ad (σ.2 0 0) q b a 54 i = ad 54 i := newSa_hi (by decide) (by decide) hi; have e55 : newSa ad (σ.2 0 0) q b a 55 i = ad 55 i := newSa_hi (by decide) (by decide) hi; show (.inr (7, [.int (f 0), .int (f 1), .int (f 2), .ref (newSa ad (σ.2 0 0) q b a 51 i), .ref (newSa ad (σ.2 0 0) q b a 52 i), .ref (newSa ad (σ.2 0 0) q b a 53 i), .ref (newSa ad (σ.2 0 0) q b a 54 i), .ref (newSa ad (σ.2 0 0) q b a 55 i), .ref (newSa ad (σ.2 0 0) q b a 8 (N' 2 i)), .int (f 9), .int (f 10), .int (f 11), .int (f 12), .int (f 13), .int (f 14), .int (f 15)]) : va_E) = _; simp only [a8, e51, e52, e53, e54, e55, n2 hi]; rfl
    · exact absurd rfl h51
    · rfl
    · rfl
    · rfl
    · have hi : i ≠ σ.2 0 0 := Nat.ne_of_lt hd; have e58 : newSa ad (σ.2 0 0) q b a 58 i = ad 58 i := newSa_hi (by decide) (by decide) hi; show (.inr (5, [.ref (newSa ad (σ.2 0 0) q b a 58 i), .int (f 1), .int (f 2)]) : va_E) = _; simp only [e58]; rfl
    · rfl
    · rfl
    · have hi : i ≠ σ.2 0 0 := Nat.ne_of_lt hd; show (.inl (Y 0, N' 3 i, .inl f) : va_E) = _; simp only [n3 hi]; rfl
theorem cNum_open {N N' : Nat → Nat → Nat} (hN : N' 1 0 = N 1 0) {k : Nat} (h17 : k ≠ 17) (hk : k < 50) : cNum N' k = cNum N k := by
  have h50 : k ≠ 50 := by omega
  have h51 : k ≠ 51 := by omega
  have h52 : k ≠ 52 := by omega
  have h53 : k ≠ 53 := by omega
  have h54 : k ≠ 54 := by omega
  have h55 : k ≠ 55 := by omega
  have h56 : k ≠ 56 := by omega
  have h58 : k ≠ 58 := by omega
  unfold cNum
  simp only [h17, h50, h51, h52, h53, h54, h55, h56, h58, if_false, hN]
abbrev wsSes (Y : Nat → ClassId) (ad : qAd) (σ : qS) (i2 : Nat) (a : Nat → Nat) : va_W := [(ad 8 i2, .inr (6, [.ref (ad 30 i2), .int (σ.1 8 i2 1), .int (σ.1 8 i2 2)])), (a 0, .inl (Y 2, 6, .inr (.inr (.inr (.inr (va_up (va_up (va_up (va_up (va_up (va_up (fun _ => none) (0 : Int32).toNatClampNeg (some (a 6))) (1 : Int32).toNatClampNeg (some (a 7))) (2 : Int32).toNatClampNeg (some (a 8))) (3 : Int32).toNatClampNeg (some (a 9))) (4 : Int32).toNatClampNeg (some (a 10))) (5 : Int32).toNatClampNeg (some (a 11)))))))), (a 1, .inl (Y 0, 6, .inl (fun _ => 0))), (a 2, .inl (Y 0, 8, .inl (fun _ => 0))), (a 3, .inl (Y 0, 8, .inl (fun _ => 0))), (a 4, .inr (5, [.ref (a 5), .int 0, .int 0])), (a 5, .inl (Y 0, 16, .inl (fun _ => 0))), (a 6, .inr (1, [.int 5, .int (-100), .int 0, .int 0, .int (-1), .int 0, .int (-100)])), (a 7, .inr (1, [.int 5, .int (-100), .int 0, .int 0, .int (-1), .int 0, .int (-100)])), (a 8, .inr (1, [.int 5, .int (-100), .int 0, .int 0, .int (-1), .int 0, .int (-100)])), (a 9, .inr (1, [.int 5, .int (-100), .int 0, .int 0, .int (-1), .int 0, .int (-100)])), (a 10, .inr (1, [.int 5, .int (-100), .int 0, .int 0, .int (-1), .int 0, .int (-100)])), (a 11, .inr (1, [.int 5, .int (-100), .int 0, .int 0, .int (-1), .int 0, .int (-100)]))]
abbrev sesF (ad : qAd) (σ : qS) (p1 p3 : Int32) (i2 : Nat) (a : Nat → Nat) : List Value := [.int (nI (σ.2 0 0)), .int p1, .int p3, .ref (a 0), .ref (a 1), .ref (a 2), .ref (a 3), .ref (a 4), .ref (ad 8 i2), .int (σ.1 0 0 14), .int (σ.1 8 i2 2), .int 0, .int 0, .int 0, .int 0, .int 0]
theorem newS_out {s : State} {H : Heap} {locs : List Loc} {D : va_G} {Y : Nat → ClassId} {A : Nat → Prop} {B0 e0 : Nat} {ad : qAd} {σ : qS} {K : List (Nat × Nat)} {q b i2 : Nat} {p1 p3 z : Int32} {f : Nat → Option Nat} {a : Nat → Nat}
    (hm : qM B0 e0 D Y A s ad σ K (wsSes Y ad σ i2 a ++ wsL (ad 16 0) q 7 (sesF ad σ p1 p3 i2 a) (σ.1 16 0 0 + 1) z Y b f) H locs) (hK : ∀ x ∈ K, x = (8, i2) ∨ x = (16, 0) ∨ x = (17, 0)) (h2 : i2 < 3) (hz : z = nI (σ.2 0 0 + 1)) (hf : ∀ j, f j = if j < σ.2 0 0 + 1 then some (newSa ad (σ.2 0 0) q b a 50 j) else none) :
    qW D (cL Y) (qT Y) A s.heap s (newSa ad (σ.2 0 0) q b a) (newS p1 p3 i2 σ) H locs := by
  subst hz
  obtain rfl : f = _ := funext hf
  have hN0 : (newS p1 p3 i2 σ).2 0 0 = σ.2 0 0 + 1 := by simp [newS]
  have hN1 : (newS p1 p3 i2 σ).2 1 0 = σ.2 1 0 := by simp [newS]
  refine m_out hm (fun k i => if k = 8 ∧ i = i2 then some 0 else if k = 58 ∧ i = σ.2 0 0 then some 6 else if 51 ≤ k ∧ k ≤ 55 ∧ i = σ.2 0 0 then some (k - 50) else if k = 56 ∧ 1 + 6 * σ.2 0 0 ≤ i ∧ i < 7 + 6 * σ.2 0 0 then some (i - (1 + 6 * σ.2 0 0) + 7) else if k = 16 ∧ i = 0 then some 13 else if k = 50 ∧ i = σ.2 0 0 then some 14 else if k = 17 ∧ i = 0 then some 15 else none) (fun k i j hd h => ?_) (fun k i hd h => ?_) (fun k i k' i' j h h' => ?_)
  · by_cases c1 : k = 8 ∧ i = i2
    · rw [if_pos c1] at h
      cases h
      obtain ⟨rfl, rfl⟩ := c1
      have e1 : newSa ad (σ.2 0 0) q b a 8 i = ad 8 i := newSa_lo (by decide) (by decide)
      have e2 : newSa ad (σ.2 0 0) q b a 30 i = ad 30 i := newSa_lo (by decide) (by decide)
      refine ⟨.inr (6, [.ref (ad 30 i), .int (σ.1 8 i 1), .int (σ.1 8 i 2)]), by rw [e1]; rfl, fun h9 => ?_⟩
      have e9 : qc (cL Y) (newSa ad (σ.2 0 0) q b a) (newS p1 p3 i σ) 8 i = .inr (6, [.ref (ad 30 i), .int (σ.1 8 i 1), .int (σ.1 8 i 2)]) := by
        show (.inr (6, [.ref (newSa ad (σ.2 0 0) q b a 30 i), .int ((newS p1 p3 i σ).1 8 i 1), .int ((newS p1 p3 i σ).1 8 i 2)]) : va_E) = _
        rw [e2]
        simp [newS]
      rw [e9]
      exact h9
    rw [if_neg c1] at h
    by_cases c2 : k = 58 ∧ i = σ.2 0 0
    · rw [if_pos c2] at h
      cases h
      obtain ⟨rfl, rfl⟩ := c2
      refine ⟨.inl (Y 0, 16, .inl (fun _ => 0)), by simp [newSa], fun h9 => ?_⟩
      have e9 : qc (cL Y) (newSa ad (σ.2 0 0) q b a) (newS p1 p3 i2 σ) 58 (σ.2 0 0) = .inl (Y 0, 16, .inl (fun _ => 0)) := by
        show (.inl (Y 0, (newS p1 p3 i2 σ).2 3 (σ.2 0 0), .inl ((newS p1 p3 i2 σ).1 58 (σ.2 0 0))) : va_E) = _
        simp [newS]
      rw [e9]
      exact h9
    rw [if_neg c2] at h
    by_cases c3 : 51 ≤ k ∧ k ≤ 55 ∧ i = σ.2 0 0
    · rw [if_pos c3] at h
      cases h
      obtain ⟨g1, g2, rfl⟩ := c3
      obtain rfl | rfl | rfl | rfl | rfl : k = 51 ∨ k = 52 ∨ k = 53 ∨ k = 54 ∨ k = 55 := by omega
      · refine ⟨.inl (Y 2, 6, .inr (.inr (.inr (.inr (va_up (va_up (va_up (va_up (va_up (va_up (fun _ => none) (0 : Int32).toNatClampNeg (some (a 6))) (1 : Int32).toNatClampNeg (some (a 7))) (2 : Int32).toNatClampNeg (some (a 8))) (3 : Int32).toNatClampNeg (some (a 9))) (4 : Int32).toNatClampNeg (some (a 10))) (5 : Int32).toNatClampNeg (some (a 11))))))), by simp [newSa], fun h9 => ?_⟩
        refine at_arr (fun j hj => ?_) h9
        obtain rfl | rfl | rfl | rfl | rfl | rfl : j = 0 ∨ j = 1 ∨ j = 2 ∨ j = 3 ∨ j = 4 ∨ j = 5 := by omega
        · show _ = some (newSa ad (σ.2 0 0) q b a 56 (1 + 6 * σ.2 0 0 + 0))
          have e1 : newSa ad (σ.2 0 0) q b a 56 (1 + 6 * σ.2 0 0 + 0) = a 6 := by
            unfold newSa
            rw [if_neg (by omega), if_neg (by omega), if_neg (by omega), if_neg (by omega), if_pos (by omega)]
            congr 1
            omega
          rw [e1]
          rfl
        · show _ = some (newSa ad (σ.2 0 0) q b a 56 (1 + 6 * σ.2 0 0 + 1))
          have e1 : newSa ad (σ.2 0 0) q b a 56 (1 + 6 * σ.2 0 0 + 1) = a 7 := by
            unfold newSa
            rw [if_neg (by omega), if_neg (by omega), if_neg (by omega), if_neg (by omega), if_pos (by omega)]
            congr 1
            omega
          rw [e1]
          rfl
        · show _ = some (newSa ad (σ.2 0 0) q b a 56 (1 + 6 * σ.2 0 0 + 2))
          have e1 : newSa ad (σ.2 0 0) q b a 56 (1 + 6 * σ.2 0 0 + 2) = a 8 := by
            unfold newSa
            rw [if_neg (by omega), if_neg (by omega), if_neg (by omega), if_neg (by omega), if_pos (by omega)]
            congr 1
            omega
          rw [e1]
          rfl
        · show _ = some (newSa ad (σ.2 0 0) q b a 56 (1 + 6 * σ.2 0 0 + 3))
          have e1 : newSa ad (σ.2 0 0) q b a 56 (1 + 6 * σ.2 0 0 + 3) = a 9 := by
            unfold newSa
            rw [if_neg (by omega), if_neg (by omega), if_neg (by omega), if_neg (by omega), if_pos (by omega)]
            congr 1
            omega
          rw [e1]
          rfl
        · show _ = some (newSa ad (σ.2 0 0) q b a 56 (1 + 6 * σ.2 0 0 + 4))
          have e1 : newSa ad (σ.2 0 0) q b a 56 (1 + 6 * σ.2 0 0 + 4) = a 10 := by
            unfold newSa
            rw [if_neg (by omega), if_neg (by omega), if_neg (by omega), if_neg (by omega), if_pos (by omega)]
            congr 1
            omega
          rw [e1]
          rfl
        · show _ = some (newSa ad (σ.2 0 0) q b a 56 (1 + 6 * σ.2 0 0 + 5))
          have e1 : newSa ad (σ.2 0 0) q b a 56 (1 + 6 * σ.2 0 0 + 5) = a 11 := by
            unfold newSa
            rw [if_neg (by omega), if_neg (by omega), if_neg (by omega), if_neg (by omega), if_pos (by omega)]
            congr 1
            omega
          rw [e1]
          rfl
      · refine ⟨.inl (Y 0, 6, .inl (fun _ => 0)), by simp [newSa], fun h9 => ?_⟩
        have e9 : qc (cL Y) (newSa ad (σ.2 0 0) q b a) (newS p1 p3 i2 σ) 52 (σ.2 0 0) = .inl (Y 0, 6, .inl (fun _ => 0)) := by
          show (.inl (Y 0, 6, .inl ((newS p1 p3 i2 σ).1 52 (σ.2 0 0))) : va_E) = _
          simp [newS]
        rw [e9]
        exact h9
      · refine ⟨.inl (Y 0, 8, .inl (fun _ => 0)), by simp [newSa], fun h9 => ?_⟩
        have e9 : qc (cL Y) (newSa ad (σ.2 0 0) q b a) (newS p1 p3 i2 σ) 53 (σ.2 0 0) = .inl (Y 0, 8, .inl (fun _ => 0)) := by
          show (.inl (Y 0, 8, .inl ((newS p1 p3 i2 σ).1 53 (σ.2 0 0))) : va_E) = _
          simp [newS]
        rw [e9]
        exact h9
      · refine ⟨.inl (Y 0, 8, .inl (fun _ => 0)), by simp [newSa], fun h9 => ?_⟩
        have e9 : qc (cL Y) (newSa ad (σ.2 0 0) q b a) (newS p1 p3 i2 σ) 54 (σ.2 0 0) = .inl (Y 0, 8, .inl (fun _ => 0)) := by
          show (.inl (Y 0, 8, .inl ((newS p1 p3 i2 σ).1 54 (σ.2 0 0))) : va_E) = _
          simp [newS]
        rw [e9]
        exact h9
      · refine ⟨.inr (5, [.ref (a 5), .int 0, .int 0]), by simp [newSa], fun h9 => ?_⟩
        have e9 : qc (cL Y) (newSa ad (σ.2 0 0) q b a) (newS p1 p3 i2 σ) 55 (σ.2 0 0) = .inr (5, [.ref (a 5), .int 0, .int 0]) := by
          show (.inr (5, [.ref (newSa ad (σ.2 0 0) q b a 58 (σ.2 0 0)), .int ((newS p1 p3 i2 σ).1 55 (σ.2 0 0) 1), .int ((newS p1 p3 i2 σ).1 55 (σ.2 0 0) 2)]) : va_E) = _
          simp [newS, newSa]
        rw [e9]
        exact h9
    rw [if_neg c3] at h
    by_cases c4 : k = 56 ∧ 1 + 6 * σ.2 0 0 ≤ i ∧ i < 7 + 6 * σ.2 0 0
    · rw [if_pos c4] at h
      obtain ⟨rfl, g1, g2⟩ := c4
      obtain ⟨j6, hj, rfl⟩ : ∃ j6, j6 < 6 ∧ i = 1 + 6 * σ.2 0 0 + j6 := ⟨i - (1 + 6 * σ.2 0 0), by omega, by omega⟩
      have ej : j = j6 + 7 := by have := Option.some.inj h; omega
      subst ej
      have e1 : newSa ad (σ.2 0 0) q b a 56 (1 + 6 * σ.2 0 0 + j6) = a (j6 + 6) := by
        unfold newSa
        rw [if_neg (by omega), if_neg (by omega), if_neg (by omega), if_neg (by omega), if_pos ⟨rfl, g1, g2⟩]
        congr 1
        omega
      have e2 : (newS p1 p3 i2 σ).1 56 (1 + 6 * σ.2 0 0 + j6) = actI := by
        unfold newS
        dsimp only
        rw [if_neg (by omega), if_neg (by omega), if_neg (by omega), if_neg (by omega), if_pos ⟨rfl, g1, g2⟩]
      refine ⟨.inr (1, [.int 5, .int (-100), .int 0, .int 0, .int (-1), .int 0, .int (-100)]), ?_, fun h9 => ?_⟩
      · rw [e1]
        obtain rfl | rfl | rfl | rfl | rfl | rfl : j6 = 0 ∨ j6 = 1 ∨ j6 = 2 ∨ j6 = 3 ∨ j6 = 4 ∨ j6 = 5 := by omega
        all_goals rfl
      · have e9 : qc (cL Y) (newSa ad (σ.2 0 0) q b a) (newS p1 p3 i2 σ) 56 (1 + 6 * σ.2 0 0 + j6) = .inr (1, [.int 5, .int (-100), .int 0, .int 0, .int (-1), .int 0, .int (-100)]) := by
          show (.inr (1, [.int ((newS p1 p3 i2 σ).1 56 (1 + 6 * σ.2 0 0 + j6) 0), .int ((newS p1 p3 i2 σ).1 56 (1 + 6 * σ.2 0 0 + j6) 1), .int ((newS p1 p3 i2 σ).1 56 (1 + 6 * σ.2 0 0 + j6) 2), .int ((newS p1 p3 i2 σ).1 56 (1 + 6 * σ.2 0 0 + j6) 3), .int ((newS p1 p3 i2 σ).1 56 (1 + 6 * σ.2 0 0 + j6) 4), .int ((newS p1 p3 i2 σ).1 56 (1 + 6 * σ.2 0 0 + j6) 5), .int ((newS p1 p3 i2 σ).1 56 (1 + 6 * σ.2 0 0 + j6) 6)]) : va_E) = _
          rw [e2]
          rfl
        rw [e9]
        exact h9
    rw [if_neg c4] at h
    by_cases c5 : k = 16 ∧ i = 0
    · rw [if_pos c5] at h
      cases h
      obtain ⟨rfl, rfl⟩ := c5
      have e1 : newSa ad (σ.2 0 0) q b a 16 0 = ad 16 0 := newSa_lo (by decide) (by decide)
      refine ⟨.inr (0, [.int (σ.1 16 0 0 + 1), .ref b, .int (nI (σ.2 0 0 + 1))]), by rw [e1]; rfl, fun h9 => ?_⟩
      have e9 : qc (cL Y) (newSa ad (σ.2 0 0) q b a) (newS p1 p3 i2 σ) 16 0 = .inr (0, [.int (σ.1 16 0 0 + 1), .ref b, .int (nI (σ.2 0 0 + 1))]) := by
        show (.inr (0, [.int ((newS p1 p3 i2 σ).1 16 0 0), .ref (newSa ad (σ.2 0 0) q b a 17 0), .int (nI ((newS p1 p3 i2 σ).2 0 0))]) : va_E) = _
        rw [hN0]
        simp [newS, newSa, upd]
      rw [e9]
      exact h9
    rw [if_neg c5] at h
    by_cases c6 : k = 50 ∧ i = σ.2 0 0
    · rw [if_pos c6] at h
      cases h
      obtain ⟨rfl, rfl⟩ := c6
      have e1 : newSa ad (σ.2 0 0) q b a 50 (σ.2 0 0) = q := by simp [newSa]
      refine ⟨.inr (7, sesF ad σ p1 p3 i2 a), by rw [e1]; rfl, fun h9 => ?_⟩
      have e9 : qc (cL Y) (newSa ad (σ.2 0 0) q b a) (newS p1 p3 i2 σ) 50 (σ.2 0 0) = .inr (7, sesF ad σ p1 p3 i2 a) := by
        have s1 : (newS p1 p3 i2 σ).1 50 (σ.2 0 0) = sesI (nI (σ.2 0 0)) p1 p3 (σ.1 0 0 14) (σ.1 8 i2 2) := by simp [newS]
        have s2 : (newS p1 p3 i2 σ).2 2 (σ.2 0 0) = i2 := by simp [newS]
        have s3 : newSa ad (σ.2 0 0) q b a 8 i2 = ad 8 i2 := newSa_lo (by decide) (by decide)
        have s4 : ∀ k, 51 ≤ k → k ≤ 55 → newSa ad (σ.2 0 0) q b a k (σ.2 0 0) = a (k - 51) := fun k h1 h2 => by
          unfold newSa
          rw [if_neg (by omega), if_neg (by omega), if_pos ⟨h1, h2, rfl⟩]
        show (.inr (7, [.int ((newS p1 p3 i2 σ).1 50 (σ.2 0 0) 0), .int ((newS p1 p3 i2 σ).1 50 (σ.2 0 0) 1), .int ((newS p1 p3 i2 σ).1 50 (σ.2 0 0) 2), .ref (newSa ad (σ.2 0 0) q b a 51 (σ.2 0 0)), .ref (newSa ad (σ.2 0 0) q b a 52 (σ.2 0 0)), .ref (newSa ad (σ.2 0 0) q b a 53 (σ.2 0 0)), .ref (newSa ad (σ.2 0 0) q b a 54 (σ.2 0 0)), .ref (newSa ad (σ.2 0 0) q b a 55 (σ.2 0 0)), .ref (newSa ad (σ.2 0 0) q b a 8 ((newS p1 p3 i2 σ).2 2 (σ.2 0 0))), .int ((newS p1 p3 i2 σ).1 50 (σ.2 0 0) 9), .int ((newS p1 p3 i2 σ).1 50 (σ.2 0 0) 10), .int ((newS p1 p3 i2 σ).1 50 (σ.2 0 0) 11), .int ((newS p1 p3 i2 σ).1 50 (σ.2 0 0) 12), .int ((newS p1 p3 i2 σ).1 50 (σ.2 0 0) 13), .int ((newS p1 p3 i2 σ).1 50 (σ.2 0 0) 14), .int ((newS p1 p3 i2 σ).1 50 (σ.2 0 0) 15)]) : va_E) = _
        rw [s1, s2, s3, s4 51 (by decide) (by decide), s4 52 (by decide) (by decide), s4 53 (by decide) (by decide), s4 54 (by decide) (by decide), s4 55 (by decide) (by decide)]
        rfl
      rw [e9]
      exact h9
    rw [if_neg c6] at h
    by_cases c7 : k = 17 ∧ i = 0
    · rw [if_pos c7] at h
      cases h
      obtain ⟨rfl, rfl⟩ := c7
      have e1 : newSa ad (σ.2 0 0) q b a 17 0 = b := by simp [newSa]
      refine ⟨_, by rw [e1]; rfl, fun h9 => ?_⟩
      have e9 : qc (cL Y) (newSa ad (σ.2 0 0) q b a) (newS p1 p3 i2 σ) 17 0 = .inl (Y 4, 10, .inr (.inr (.inr (.inr (fun j => if j < σ.2 0 0 + 1 then some (newSa ad (σ.2 0 0) q b a 50 j) else none))))) := by
        show (.inl (Y 4, 10, .inr (.inr (.inr (.inr (fun j => if j < (newS p1 p3 i2 σ).2 0 0 then some (newSa ad (σ.2 0 0) q b a 50 j) else none))))) : va_E) = _
        rw [hN0]
      rw [e9]
      exact h9
    rw [if_neg c7] at h
    cases h
  · have c1 : ¬ (k = 8 ∧ i = i2) := fun c => by rw [if_pos c] at h; cases h
    rw [if_neg c1] at h
    have c2 : ¬ (k = 58 ∧ i = σ.2 0 0) := fun c => by rw [if_pos c] at h; cases h
    rw [if_neg c2] at h
    have c3 : ¬ (51 ≤ k ∧ k ≤ 55 ∧ i = σ.2 0 0) := fun c => by rw [if_pos c] at h; cases h
    rw [if_neg c3] at h
    have c4 : ¬ (k = 56 ∧ 1 + 6 * σ.2 0 0 ≤ i ∧ i < 7 + 6 * σ.2 0 0) := fun c => by rw [if_pos c] at h; cases h
    rw [if_neg c4] at h
    have c5 : ¬ (k = 16 ∧ i = 0) := fun c => by rw [if_pos c] at h; cases h
    rw [if_neg c5] at h
    have c6 : ¬ (k = 50 ∧ i = σ.2 0 0) := fun c => by rw [if_pos c] at h; cases h
    rw [if_neg c6] at h
    have c7 : ¬ (k = 17 ∧ i = 0) := fun c => by rw [if_pos c] at h; cases h
    have d16 : k ≠ 16 := fun c => by
      subst c
      have h9 : i < 1 := hd
      exact c5 ⟨rfl, by omega⟩
    have d17 : k ≠ 17 := fun c => by
      subst c
      have h9 : i < (if (newS p1 p3 i2 σ).2 0 0 = 0 then 0 else 1) := hd
      rw [hN0, if_neg (Nat.succ_ne_zero _)] at h9
      exact c7 ⟨rfl, by omega⟩
    have hd0 : i < cNum σ.2 k := by
      have h9 : i < cNum (newS p1 p3 i2 σ).2 k := hd
      by_cases c : k < 50
      · rw [cNum_open (N := σ.2) hN1 d17 c] at h9
        exact h9
      · rcases cDom h9 with h8 | h8 | h8
        · omega
        · omega
        · obtain rfl | rfl | rfl | rfl | rfl | rfl | rfl | rfl | rfl := (by omega : k = 50 ∨ k = 51 ∨ k = 52 ∨ k = 53 ∨ k = 54 ∨ k = 55 ∨ k = 56 ∨ k = 57 ∨ k = 58)
          · show i < σ.2 0 0
            have h7 : i < (newS p1 p3 i2 σ).2 0 0 := h9
            rw [hN0] at h7; omega
          · show i < σ.2 0 0
            have h7 : i < (newS p1 p3 i2 σ).2 0 0 := h9
            rw [hN0] at h7; omega
          · show i < σ.2 0 0
            have h7 : i < (newS p1 p3 i2 σ).2 0 0 := h9
            rw [hN0] at h7; omega
          · show i < σ.2 0 0
            have h7 : i < (newS p1 p3 i2 σ).2 0 0 := h9
            rw [hN0] at h7; omega
          · show i < σ.2 0 0
            have h7 : i < (newS p1 p3 i2 σ).2 0 0 := h9
            rw [hN0] at h7; omega
          · show i < σ.2 0 0
            have h7 : i < (newS p1 p3 i2 σ).2 0 0 := h9
            rw [hN0] at h7; omega
          · show i < 1 + 6 * σ.2 0 0
            have h7 : i < 1 + 6 * (newS p1 p3 i2 σ).2 0 0 := h9
            rw [hN0] at h7; omega
          · show i < σ.2 1 0
            have h7 : i < (newS p1 p3 i2 σ).2 1 0 := h9
            rw [hN1] at h7; omega
          · show i < σ.2 0 0
            have h7 : i < (newS p1 p3 i2 σ).2 0 0 := h9
            rw [hN0] at h7; omega
    have ha : newSa ad (σ.2 0 0) q b a k i = ad k i := by
      unfold newSa
      rw [if_neg c7, if_neg c6, if_neg c3, if_neg c2, if_neg c4]
    refine ⟨hd0, fun hk => ?_, ha, fun h9 => ?_⟩
    · rcases hK _ hk with h8 | h8 | h8
      · exact c1 ⟨congrArg Prod.fst h8, congrArg Prod.snd h8⟩
      · exact d16 (congrArg Prod.fst h8)
      · exact d17 (congrArg Prod.fst h8)
    · have e8 : (newS p1 p3 i2 σ).1 k i = σ.1 k i := by
        unfold newS
        dsimp only
        rw [if_neg c5, if_neg c6, if_neg c3, if_neg c2, if_neg c4]
      by_cases d51 : k = 51
      · subst d51
        have hi : i < σ.2 0 0 := hd0
        refine at_arr (fun j hj => ?_) (show va_at D vwCl (ad 51 i, .inl (Y 2, 6, .inr (.inr (.inr (.inr (fun j => some (ad 56 (1 + 6 * i + j)))))))) H from h9)
        show some (ad 56 (1 + 6 * i + j)) = some (newSa ad (σ.2 0 0) q b a 56 (1 + 6 * i + j))
        rw [newSa_56 (by omega)]
      · have e9 : qc (cL Y) (newSa ad (σ.2 0 0) q b a) (newS p1 p3 i2 σ) k i = qc (cL Y) ad σ k i := by
          show cCe Y ((newS p1 p3 i2 σ).1 k i) (newS p1 p3 i2 σ).2 (newSa ad (σ.2 0 0) q b a) k i = cCe Y (σ.1 k i) σ.2 ad k i
          rw [e8]
          exact cCe_open _ rfl hd0 d16 d17 d51
        rw [e9]
        exact h9
  · have inv : ∀ (k i j : Nat), (fun k i => if k = 8 ∧ i = i2 then some 0 else if k = 58 ∧ i = σ.2 0 0 then some 6 else if 51 ≤ k ∧ k ≤ 55 ∧ i = σ.2 0 0 then some (k - 50) else if k = 56 ∧ 1 + 6 * σ.2 0 0 ≤ i ∧ i < 7 + 6 * σ.2 0 0 then some (i - (1 + 6 * σ.2 0 0) + 7) else if k = 16 ∧ i = 0 then some 13 else if k = 50 ∧ i = σ.2 0 0 then some 14 else if k = 17 ∧ i = 0 then some 15 else none) k i = some j → (j = 0 → k = 8 ∧ i = i2) ∧ (1 ≤ j → j ≤ 5 → k = 50 + j ∧ i = σ.2 0 0) ∧ (j = 6 → k = 58 ∧ i = σ.2 0 0) ∧ (7 ≤ j → j ≤ 12 → k = 56 ∧ i = 1 + 6 * σ.2 0 0 + (j - 7)) ∧ (j = 13 → k = 16 ∧ i = 0) ∧ (j = 14 → k = 50 ∧ i = σ.2 0 0) ∧ (j = 15 → k = 17 ∧ i = 0) ∧ j ≤ 15 := by
      intro k i j h
      dsimp only at h
      repeat' split at h
      all_goals first | (have h3 := Option.some.inj h; omega) | (cases h)
    obtain ⟨p0, p1, p2, p3, p4, p5, p6, p7⟩ := inv k i j h
    obtain ⟨q0, q1, q2, q3, q4, q5, q6, q7⟩ := inv k' i' j h'
    omega
theorem qyX8_open : qY yX8_open RX8 cX8_open 6 (some .int) 3 := ⟨⟨kw_331, kw_332, kw_1, kw_333⟩, rfl, by decide, by decide, by decide +kernel⟩
def fX8_open (F : Nat) (p1 p2 p3 : Int32) (σ : qS) : Option (Int32 × Nat × qS) :=
  bnd2 (fX8_isWithin F p1 0 3 σ) fun v1 s1 => if v1 = 0 then some (0, 1, s1) else bnd3 (fX8_knownServer F p2 s1) (fun i2 s2 => if s2.2 0 0 = s1.2 0 0 ∧ s2.2 1 0 = s1.2 1 0 then (bnd2 (fX8_isWithin F p3 1 50 s2) fun v3 s3 => if v3 = 0 then some (0, 2, s3) else gnl i2 3 (gnl (s3.2 0 0) 11 (if nI (s3.2 0 0) < 10 then some (nI (s3.2 0 0), 0, newS p1 p3 i2 s3) else some (0, 3, s3)))) else none) (fun ex s2 => some (0, ex, s2))
theorem kS_same {F : Nat} {p1 : Int32} {σ s1 : qS} {i2 ex : Nat} (h : fX8_knownServer F p1 σ = some (i2, ex, s1)) : s1 = σ := by
  unfold fX8_knownServer fX8_knownServer_9 at h
  split at h
  · cases h; rfl
  · split at h
    · have h2 := (inx_some h).2; cases h2; rfl
    · cases h; rfl
set_option maxRecDepth 100000 in
set_option maxHeartbeats 4000000 in
theorem wX8_open (l : Launch) (hst : l.stackTraces = false) (D : va_G) (Y : Nat → ClassId) (ad : qAd) (B0 e0 F : Nat) (p1 p2 p3 : Int32) (σ : qS) : qYi l yX8_open cX8_open 6 (some .int) 7 140 15 124 B0 e0 (fun k => 16 ≤ k) D Y ad [.ref (ad 0 0), .int p1, .int p2, .int p3] σ (fX8_open F p1 p2 p3 σ) := by
  refine q_oyi hst (by decide) (Nat.le_of_ble_eq_true rfl) ⟨by decide, by decide⟩ "Leasehall" rfl (fun p e s m below meth c A Q r0 S0 hf hw hG hAB hE hok hret hHx hthr ls hl => ?_)
  replace hl : lv_has ls 6 [(0, .ref (ad 0 0)), (1, .int p1), (2, .int p2), (3, .int p3)] := hl
  unfold fX8_open at hf
  obtain ⟨v1, s1, e1, hf9⟩ := bnd2_some hf
  obtain rfl := isW_same e1
  clear hf
  replace hf := hf9
  clear hf9
  refine lv_iload_n S0.1 S0.2.1 dX8_open_0 rfl (lv_at hl 1 rfl) ?_
  refine lv_iconst (v := 0) S0.1 S0.2.1 dX8_open_1 (by decide) ?_
  refine lv_iconst (v := 3) S0.1 S0.2.1 dX8_open_2 (by decide) ?_
  refine q_scalli S0 hw (As := [.int p1, .int 0, .int 3]) (rest := []) (β := Int32 × qS) (kf := fun v s => some (v, s)) (r0 := (v1, s1)) (wX8_isWithin l D Y ad F p1 0 3 s1) qsX8_isWithin kw_296 ⟨Nat.le_of_ble_eq_true rfl, Nat.le_of_ble_eq_true rfl⟩ rfl hl.1 (Nat.le_of_ble_eq_true rfl) dX8_open_3 ⟨Nat.le_of_ble_eq_true rfl, Nat.le_of_ble_eq_true rfl⟩ rfl (by rw [e1]; rfl) (fun v s3 H locs hw hv => ?_)
  cases hv
  refine lv_if_ne (tgt := 19) S0.1 S0.2.1 dX8_open_6 (by decide) (fun c5 => ?_) (fun c5 => ?_)
  · replace hf := q_neg c5 hf
    refine lv_aload_n S0.1 S0.2.1 dX8_open_19 rfl (lv_at hl 0 rfl) ?_
    refine lv_iload_n S0.1 S0.2.1 dX8_open_20 rfl (lv_at hl 2 rfl) ?_
    refine q_xcallr S0 hG hAB hw (As := [.int p2]) (rest := []) (wX8_knownServer l hst D Y ad B0 F p2 s1) qyX8_knownServer kw_402 ⟨Nat.le_of_ble_eq_true rfl, Nat.le_of_ble_eq_true rfl⟩ dC_0 rfl rfl rfl rfl hl.1 (Nat.le_of_ble_eq_true rfl) dX8_open_21 ⟨Nat.le_of_ble_eq_true rfl, Nat.le_of_ble_eq_true rfl⟩ rfl hf (fun ex ce q9 s9 H locs hw hf hne hce hcv hcl => hHx hw hf hne hce hcv hcl (Nat.le_of_ble_eq_true rfl) (Nat.le_of_ble_eq_true rfl)) (fun i2 s2 H locs hw hf => ?_)
    have hgd : s2.2 0 0 = s1.2 0 0 ∧ s2.2 1 0 = s1.2 1 0 := Decidable.byContradiction fun h => by
      have hf2 := q_neg h hf
      cases hf2
    replace hf := q_pos hgd hf
    replace hok : qOk e0 ad s2 := ⟨fun h => hok.1 (hgd.1.symm.trans h), fun h => hok.2 (hgd.2.symm.trans h)⟩
    clear hgd
    · skip
      refine lv_astore (lv' := [(4, .ref (ad 8 i2)), (0, .ref (ad 0 0)), (1, .int p1), (2, .int p2), (3, .int p3)]) S0.1 S0.2.1 dX8_open_24 hl (by decide) rfl (fun ls hl => ?_)
      obtain ⟨v3, s3, e3, hf9⟩ := bnd2_some hf
      obtain rfl := isW_same e3
      clear hf
      replace hf := hf9
      clear hf9
      refine lv_iload_n S0.1 S0.2.1 dX8_open_26 rfl (lv_at hl 4 rfl) ?_
      refine lv_iconst (v := 1) S0.1 S0.2.1 dX8_open_27 (by decide) ?_
      refine lv_bipush (v := 50) S0.1 S0.2.1 dX8_open_28 (by decide) ?_
      refine q_scalli S0 hw (As := [.int p3, .int 1, .int 50]) (rest := []) (β := Int32 × qS) (kf := fun v s => some (v, s)) (r0 := (v3, s3)) (wX8_isWithin l D Y ad F p3 1 50 s3) qsX8_isWithin kw_296 ⟨Nat.le_of_ble_eq_true rfl, Nat.le_of_ble_eq_true rfl⟩ rfl hl.1 (Nat.le_of_ble_eq_true rfl) dX8_open_30 ⟨Nat.le_of_ble_eq_true rfl, Nat.le_of_ble_eq_true rfl⟩ rfl (by rw [e3]; rfl) (fun v s9 H locs hw hv => ?_)
      cases hv
      refine lv_if_ne (tgt := 46) S0.1 S0.2.1 dX8_open_33 (by decide) (fun c6 => ?_) (fun c6 => ?_)
      rotate_left
      · replace hf := q_pos (Decidable.not_not.mp (fun h => h c6)) hf
        exact hthr qt2_123 (by decide) hw hf ⟨dX8_open_36, dX8_open_39, Or.inl ⟨dX8_open_40, dX8_open_42, dX8_open_45⟩⟩ hl.1 (Nat.le_of_ble_eq_true rfl) ⟨Nat.le_of_ble_eq_true rfl, Nat.le_of_ble_eq_true rfl⟩
      replace hf := q_neg c6 hf
      obtain ⟨hi2, hf⟩ := gnl_some hf
      obtain ⟨hg, hf⟩ := gnl_some hf
      refine lv_aload_n S0.1 S0.2.1 dX8_open_46 rfl (lv_at hl 1 rfl) ?_
      refine gX8_sessions S0 hw kw_234 dX8_open_47 ?_
      refine q_lsize S0 hw (k := 16) dC_16 rfl kw_423 ⟨Nat.le_of_ble_eq_true rfl, Nat.le_of_ble_eq_true rfl⟩ hl.1 (Nat.le_of_ble_eq_true rfl) dX8_open_50 ⟨Nat.le_of_ble_eq_true rfl, Nat.le_of_ble_eq_true rfl⟩ (β := Int32) (kf := fun v => some v) (r0 := nI (s3.2 0 0)) rfl (fun v2 H locs hw hv => ?_)
      cases hv
      refine lv_bipush (v := 10) S0.1 S0.2.1 dX8_open_53 (by decide) ?_
      refine lv_icmp_lt (tgt := 68) S0.1 S0.2.1 dX8_open_55 (by decide) (fun c7 => ?_) (fun c7 => ?_)
      rotate_left
      · replace hf := q_neg c7 hf
        exact hthr qt3_132 (by decide) hw hf ⟨dX8_open_58, dX8_open_61, Or.inl ⟨dX8_open_62, dX8_open_64, dX8_open_67⟩⟩ hl.1 (Nat.le_of_ble_eq_true rfl) ⟨Nat.le_of_ble_eq_true rfl, Nat.le_of_ble_eq_true rfl⟩
      replace hf := q_pos c7 hf
      have hN : s3.2 0 0 < 10 := (nI_ltI (by omega) (by decide)).mp (show nI (s3.2 0 0) < nI 10 from c7)
      refine lv_aload_n S0.1 S0.2.1 dX8_open_68 rfl (lv_at hl 1 rfl) ?_
      refine gX8_sessions S0 hw kw_234 dX8_open_69 ?_
      refine q_lsize S0 hw (k := 16) dC_16 rfl kw_423 ⟨Nat.le_of_ble_eq_true rfl, Nat.le_of_ble_eq_true rfl⟩ hl.1 (Nat.le_of_ble_eq_true rfl) dX8_open_72 ⟨Nat.le_of_ble_eq_true rfl, Nat.le_of_ble_eq_true rfl⟩ (β := Int32) (kf := fun v => some v) (r0 := nI (s3.2 0 0)) rfl (fun v2 H locs hw hv => ?_)
      cases hv
      refine lv_istore (lv' := [(5, .int (nI (s3.2 0 0))), (4, .ref (ad 8 i2)), (0, .ref (ad 0 0)), (1, .int p1), (2, .int p2), (3, .int p3)]) S0.1 S0.2.1 dX8_open_75 hl (by decide) rfl (fun ls hl => ?_)
      refine lv_aload_n S0.1 S0.2.1 dX8_open_77 rfl (lv_at hl 2 rfl) ?_
      refine gX8_sessions S0 hw kw_234 dX8_open_78 ?_
      have hm := m_of hw hAB hE
      have last : ∀ (H : Heap) (locs : List Loc) (q b : Nat) (a : Nat → Nat) (r : Int32), qW D (cL Y) (qT Y) A s.heap s (newSa ad (s3.2 0 0) q b a) (newS p1 p3 i2 s3) H locs → W p l e (qRx 7 140 15 124) s m ([.ref (ad 0 0), .int p1, .int p2, .int p3] : List Value).toArray below meth c H locs 15 124 Q (F0 m 101 ls [.int r]) := by
        intro H locs q b a r hw
        refine lv_pop S0.1 S0.2.1 dX8_open_101 rfl ?_
        refine lv_iload S0.1 S0.2.1 dX8_open_102 (lv_at hl 0 rfl) ?_
        have g0 : (newS p1 p3 i2 s3).2 0 0 = s3.2 0 0 + 1 := by simp [newS]
        have g1 : (newS p1 p3 i2 s3).2 1 0 = s3.2 1 0 := by simp [newS]
        exact hret dX8_open_104 hw hf ⟨fun h9 => absurd (g0.symm.trans h9) (Nat.succ_ne_zero _), fun h9 => (newSa_lo (by decide) (by decide)).trans (hok.2 (g1.symm.trans h9))⟩ (fun k i hk => by
          have hk' : ¬ 16 ≤ k := hk
          exact newSa_lo (by omega) (by omega))
      replace hm := m_cut hm (k := 8) (i := i2) (show i2 < 3 from hi2) (by simp)
      rcases Nat.eq_zero_or_pos (s3.2 0 0) with h0 | h0
      · replace hm := m_cut hm (k := 16) (i := 0) dC_16 (by simp)
        have e16 : qc (cL Y) ad s3 16 0 = .inr (0, [.int (s3.1 16 0 0), .ref e0, .int 0]) := by
          show (.inr (0, [Value.int (s3.1 16 0 0), .ref (ad 17 0), .int (nI (s3.2 0 0))]) : va_E) = _
          rw [hok.1 h0, h0]
          rfl
        rw [e16] at hm
        replace hm : qM B0 e0 D Y A s ad s3 [(16, 0), (8, i2)] [(ad 16 0, .inr (0, [.int (s3.1 16 0 0), .ref e0, .int 0])), (ad 8 i2, (.inr (6, [.ref (ad 30 i2), .int (s3.1 8 i2 1), .int (s3.1 8 i2 2)])))] _ _ := hm
        refine m_new S0 hm (C := RX6) (T := TX6) (N := 16) (ci := 7) inX6 tyX6 tyX6_ok kw_443 kw_444 kw_18 rfl (fs := [.int 0, .int 0, .int 0, .null, .null, .null, .null, .null, .null, .int 0, .int 0, .int 0, .int 0, .int 0, .int 0, .int 0]) (by decide) ⟨Nat.le_of_ble_eq_true rfl, Nat.le_of_ble_eq_true rfl⟩ dX8_open_81 (fun q H hm => ?_)
        replace hm : qM B0 e0 D Y A s ad s3 [(16, 0), (8, i2)] [(ad 16 0, .inr (0, [.int (s3.1 16 0 0), .ref e0, .int 0])), (ad 8 i2, (.inr (6, [.ref (ad 30 i2), .int (s3.1 8 i2 1), .int (s3.1 8 i2 2)]))), (q, (.inr (7, [.int 0, .int 0, .int 0, .null, .null, .null, .null, .null, .null, .int 0, .int 0, .int 0, .int 0, .int 0, .int 0, .int 0])))] _ _ := hm
        refine lv_dup S0.1 S0.2.1 dX8_open_84 rfl ?_
        refine lv_iload S0.1 S0.2.1 dX8_open_85 (lv_at hl 0 rfl) ?_
        refine lv_iload_n S0.1 S0.2.1 dX8_open_87 rfl (lv_at hl 3 rfl) ?_
        refine lv_aload S0.1 S0.2.1 dX8_open_88 (lv_at hl 1 rfl) ?_
        refine lv_iload_n S0.1 S0.2.1 dX8_open_90 rfl (lv_at hl 5 rfl) ?_
        refine lv_aload_n S0.1 S0.2.1 dX8_open_91 rfl (lv_at hl 2 rfl) ?_
        refine m_get S0 hm (k := 0) dC_0 (by simp) rfl rfl inX8 14 (by decide) kw_241 rfl dX8_open_92 ?_
        refine m_call S0 hm (As := [.int (nI (s3.2 0 0)), .int p1, .ref (ad 8 i2), .int p3, .int (s3.1 0 0 14)]) (rest := [.ref q, .ref (ad 16 0)]) (wr := [(ad 16 0, .inr (0, [.int (s3.1 16 0 0), .ref e0, .int 0]))]) [2, 1] [0] (kX6_init l D Y B0 e0 q (nI (s3.2 0 0)) p1 (ad 8 i2) p3 (s3.1 0 0 14) (ad 30 i2) (s3.1 8 i2 1) (s3.1 8 i2 2)) lyX6 kw_445 ⟨Nat.le_of_ble_eq_true rfl, Nat.le_of_ble_eq_true rfl⟩ rfl rfl rfl rfl rfl (by decide) hl.1 (Nat.le_of_ble_eq_true rfl) dX8_open_95 ⟨Nat.le_of_ble_eq_true rfl, Nat.le_of_ble_eq_true rfl⟩ rfl (fun a1 H locs hm => ?_)
        refine m_callVi S0 hm (As := [.ref q]) (rest := []) (wr := wsSes Y ad s3 i2 a1) [0, 1] [2, 3, 4, 5, 6, 7, 8, 9, 10, 11, 12, 13, 14] (kJx_addA l D Y B0 e0 (ad 16 0) (s3.1 16 0 0) q 7 (sesF ad s3 p1 p3 i2 a1) rfl (by decide)) qyJx_add kw_531 ⟨Nat.le_of_ble_eq_true rfl, Nat.le_of_ble_eq_true rfl⟩ 0 rfl rfl rfl rfl rfl rfl rfl rfl (by decide) hl.1 (Nat.le_of_ble_eq_true rfl) dX8_open_98 ⟨Nat.le_of_ble_eq_true rfl, Nat.le_of_ble_eq_true rfl⟩ rfl (fun a2 r H locs hm => ?_)
        refine W.widen (k := 15) (n := 124) (by decide) (by decide) ?_
        exact last H locs q (a2 0) a1 r (newS_out hm (by simp) hi2 (by rw [h0]; rfl) (fun j => by
          rw [h0]
          unfold va_up newSa
          by_cases h9 : j = 0
          · subst h9
            rw [if_pos rfl, if_pos (by omega), if_neg (by omega), if_pos ⟨rfl, rfl⟩]
          · rw [if_neg h9, if_neg (by omega)]))
      · replace hm := m_cut hm (k := 17) (i := 0) (by show 0 < (if s3.2 0 0 = 0 then 0 else 1); rw [if_neg (by omega)]; decide) (by simp)
        replace hm := m_cut hm (k := 16) (i := 0) dC_16 (by simp)
        replace hm : qM B0 e0 D Y A s ad s3 [(16, 0), (17, 0), (8, i2)] [(ad 16 0, .inr (0, [.int (s3.1 16 0 0), .ref (ad 17 0), .int (nI (s3.2 0 0))])), (ad 17 0, .inl (Y 4, 10, .inr (.inr (.inr (.inr (fun j => if j < s3.2 0 0 then some (ad 50 j) else none)))))), (ad 8 i2, (.inr (6, [.ref (ad 30 i2), .int (s3.1 8 i2 1), .int (s3.1 8 i2 2)])))] _ _ := hm
        refine m_new S0 hm (C := RX6) (T := TX6) (N := 16) (ci := 7) inX6 tyX6 tyX6_ok kw_443 kw_444 kw_18 rfl (fs := [.int 0, .int 0, .int 0, .null, .null, .null, .null, .null, .null, .int 0, .int 0, .int 0, .int 0, .int 0, .int 0, .int 0]) (by decide) ⟨Nat.le_of_ble_eq_true rfl, Nat.le_of_ble_eq_true rfl⟩ dX8_open_81 (fun q H hm => ?_)
        replace hm : qM B0 e0 D Y A s ad s3 [(16, 0), (17, 0), (8, i2)] [(ad 16 0, .inr (0, [.int (s3.1 16 0 0), .ref (ad 17 0), .int (nI (s3.2 0 0))])), (ad 17 0, .inl (Y 4, 10, .inr (.inr (.inr (.inr (fun j => if j < s3.2 0 0 then some (ad 50 j) else none)))))), (ad 8 i2, (.inr (6, [.ref (ad 30 i2), .int (s3.1 8 i2 1), .int (s3.1 8 i2 2)]))), (q, (.inr (7, [.int 0, .int 0, .int 0, .null, .null, .null, .null, .null, .null, .int 0, .int 0, .int 0, .int 0, .int 0, .int 0, .int 0])))] _ _ := hm
        refine lv_dup S0.1 S0.2.1 dX8_open_84 rfl ?_
        refine lv_iload S0.1 S0.2.1 dX8_open_85 (lv_at hl 0 rfl) ?_
        refine lv_iload_n S0.1 S0.2.1 dX8_open_87 rfl (lv_at hl 3 rfl) ?_
        refine lv_aload S0.1 S0.2.1 dX8_open_88 (lv_at hl 1 rfl) ?_
        refine lv_iload_n S0.1 S0.2.1 dX8_open_90 rfl (lv_at hl 5 rfl) ?_
        refine lv_aload_n S0.1 S0.2.1 dX8_open_91 rfl (lv_at hl 2 rfl) ?_
        refine m_get S0 hm (k := 0) dC_0 (by simp) rfl rfl inX8 14 (by decide) kw_241 rfl dX8_open_92 ?_
        refine m_call S0 hm (As := [.int (nI (s3.2 0 0)), .int p1, .ref (ad 8 i2), .int p3, .int (s3.1 0 0 14)]) (rest := [.ref q, .ref (ad 16 0)]) (wr := [(ad 16 0, .inr (0, [.int (s3.1 16 0 0), .ref (ad 17 0), .int (nI (s3.2 0 0))])), (ad 17 0, .inl (Y 4, 10, .inr (.inr (.inr (.inr (fun j => if j < s3.2 0 0 then some (ad 50 j) else none))))))]) [3, 2] [0, 1] (kX6_init l D Y B0 e0 q (nI (s3.2 0 0)) p1 (ad 8 i2) p3 (s3.1 0 0 14) (ad 30 i2) (s3.1 8 i2 1) (s3.1 8 i2 2)) lyX6 kw_445 ⟨Nat.le_of_ble_eq_true rfl, Nat.le_of_ble_eq_true rfl⟩ rfl rfl rfl rfl rfl (by decide) hl.1 (Nat.le_of_ble_eq_true rfl) dX8_open_95 ⟨Nat.le_of_ble_eq_true rfl, Nat.le_of_ble_eq_true rfl⟩ rfl (fun a1 H locs hm => ?_)
        refine m_callVi S0 hm (As := [.ref q]) (rest := []) (wr := wsSes Y ad s3 i2 a1) [0, 2, 1] [3, 4, 5, 6, 7, 8, 9, 10, 11, 12, 13, 14, 15] (kJx_addB l D Y B0 e0 (ad 16 0) (s3.1 16 0 0) (nI (s3.2 0 0)) (vp_in_nI hN (by decide)) q 7 (ad 17 0) (fun j => if j < s3.2 0 0 then some (ad 50 j) else none) (sesF ad s3 p1 p3 i2 a1) rfl (by decide)) qyJx_add kw_531 ⟨Nat.le_of_ble_eq_true rfl, Nat.le_of_ble_eq_true rfl⟩ 0 rfl rfl rfl rfl rfl rfl rfl rfl (by decide) hl.1 (Nat.le_of_ble_eq_true rfl) dX8_open_98 ⟨Nat.le_of_ble_eq_true rfl, Nat.le_of_ble_eq_true rfl⟩ rfl (fun a2 r H locs hm => ?_)
        refine W.widen (k := 15) (n := 124) (by decide) (by decide) ?_
        exact last H locs q (ad 17 0) a1 r (newS_out hm (by simp) hi2 (nI_1 _) (fun j => by
          rw [nI_clamp (by omega)]
          by_cases h9 : j = s3.2 0 0
          · unfold va_up newSa
            rw [if_pos h9, if_pos (by omega), if_neg (by omega), if_pos ⟨rfl, h9⟩]
          · rw [newSa_hi (by decide) (by decide) h9]
            unfold va_up
            rw [if_neg h9]
            show (if j < s3.2 0 0 then some (ad 50 j) else none) = _
            by_cases h8 : j < s3.2 0 0
            · rw [if_pos h8, if_pos (by omega)]
            · rw [if_neg h8, if_neg (by omega)]))
  · replace hf := q_pos (Decidable.not_not.mp (fun h => h c5)) hf
    exact hthr qt1_112 (by decide) hw hf ⟨dX8_open_9, dX8_open_12, Or.inl ⟨dX8_open_13, dX8_open_15, dX8_open_18⟩⟩ hl.1 (Nat.le_of_ble_eq_true rfl) ⟨Nat.le_of_ble_eq_true rfl, Nat.le_of_ble_eq_true rfl⟩

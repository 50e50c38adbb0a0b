/-! THE START: classes, arrays, statics, texts -/
theorem tm {w : Cond} (h : w ∈ tables_1) : w ∈ lw_tbl := List.mem_append_right _ h
theorem gm {w : Cond} (h : w ∈ gws) : w ∈ lw_tbl := (List.mem_filter.mp h).1
theorem arr_p {args : Array Value} {s : State} {ty : FieldType} (h : (Cond.arrayClass ty).before args s = true) : ∃ c, ArrOfT s c ty ∧ s.vm.findClass ("[" ++ ty.toString) = some c := by
  obtain ⟨c, k, comp, h1, h2, h3⟩ := Cond.arrayClass_spec h
  exact ⟨c, fun n z => ⟨fun k h => (by cases h), k, h2, comp, h3⟩, h1⟩
theorem arr_o {args : Array Value} {s : State} {C : String} (h : (Cond.arrayOver (.object C)).before args s = true) : ∃ c, ArrOfT s c (.object C) ∧ va_RA s c (.object C) := by
  obtain ⟨comp, c, k, h1, h2, h3, h4, h5⟩ := Cond.arrayOver_spec h
  exact ⟨c, fun n z => ⟨fun k h => (by cases h), k, h3, comp, h4⟩, k, comp, h3, h4, h1, h5⟩
section ST
variable {s : State} {b : Nat}
theorem st_K (hts : ∀ w ∈ gws, w.before #[Value.ref b] s = true) (htm : ∀ w ∈ tables_1, w.before #[Value.ref b] s = true) : ∃ (D : va_G) (Y : Nat → ClassId), va_K D vwCl (qT Y) s := by
  have h : ∀ k : Nat, ∃ (cC : ClassId) (iS : Nat → Nat), ∀ q : vw_C, vwCl[k]? = some q → u_Kn s q.1 q.2.1 q.2.2 cC iS := by
    intro k
    match k with
    | 0 =>
      obtain ⟨c, i, h⟩ := u_known (C := RJx4a65c) (T := TJx4a65c) (N := 3) (n := 3) hts inJx4a65c (hts _ kw_143)
      exact ⟨c, i, fun q hq => by cases hq; exact h⟩
    | 1 =>
      obtain ⟨c, i, h⟩ := u_known (C := RX0) (T := TX0) (N := 7) (n := 7) hts inX0 (hts _ kw_169)
      exact ⟨c, i, fun q hq => by cases hq; exact h⟩
    | 2 =>
      obtain ⟨c, i, h⟩ := u_known (C := RX1) (T := TX1) (N := 6) (n := 6) hts inX1 (hts _ kw_35)
      exact ⟨c, i, fun q hq => by cases hq; exact h⟩
    | 3 =>
      obtain ⟨c, i, h⟩ := u_known (C := RX2) (T := TX2) (N := 3) (n := 3) hts inX2 (hts _ kw_738)
      exact ⟨c, i, fun q hq => by cases hq; exact h⟩
    | 4 =>
      obtain ⟨c, i, h⟩ := u_known (C := RX3) (T := TX3) (N := 5) (n := 5) hts inX3 (hts _ kw_116)
      exact ⟨c, i, fun q hq => by cases hq; exact h⟩
    | 5 =>
      obtain ⟨c, i, h⟩ := u_known (C := RX4) (T := TX4) (N := 3) (n := 3) hts inX4 (hts _ kw_452)
      exact ⟨c, i, fun q hq => by cases hq; exact h⟩
    | 6 =>
      obtain ⟨c, i, h⟩ := u_known (C := RX5) (T := TX5) (N := 3) (n := 3) hts inX5 (hts _ kw_205)
      exact ⟨c, i, fun q hq => by cases hq; exact h⟩
    | 7 =>
      obtain ⟨c, i, h⟩ := u_known (C := RX6) (T := TX6) (N := 16) (n := 16) hts inX6 (hts _ kw_444)
      exact ⟨c, i, fun q hq => by cases hq; exact h⟩
    | 8 =>
      obtain ⟨c, i, h⟩ := u_known (C := RX7) (T := TX7) (N := 10) (n := 10) hts inX7 (hts _ kw_73)
      exact ⟨c, i, fun q hq => by cases hq; exact h⟩
    | 9 =>
      obtain ⟨c, i, h⟩ := u_known (C := RX8) (T := TX8) (N := 20) (n := 20) hts inX8 (hts _ kw_27)
      exact ⟨c, i, fun q hq => by cases hq; exact h⟩
    | 10 =>
      obtain ⟨c, i, h⟩ := u_known (C := RX9) (T := TX9) (N := 58) (n := 58) hts inX9 (hts _ kw_1141)
      exact ⟨c, i, fun q hq => by cases hq; exact h⟩
    | k + 11 => exact ⟨0, fun _ => 0, fun q hq => by simp at hq⟩
  obtain ⟨y0, a0, b0⟩ := arr_p (hts _ kw_69)
  obtain ⟨y1, a1, b1⟩ := arr_p (hts _ kw_114)
  obtain ⟨y2, a2, b2⟩ := arr_o (htm (.arrayOver (.object "Leasehall$Act")) (List.mem_of_getElem? (i := 450) (by decide +kernel)))
  obtain ⟨y3, a3, b3⟩ := arr_o (htm (.arrayOver (.object "Leasehall$Server")) (List.mem_of_getElem? (i := 71) (by decide +kernel)))
  obtain ⟨y4, a4, b4⟩ := arr_o (htm (.arrayOver (.object "java/lang/Object")) (List.mem_of_getElem? (i := 582) (by decide +kernel)))
  obtain ⟨y5, a5, b5⟩ := arr_p (hts _ kw_1623)
  refine ⟨(fun k => Classical.choose (h k), fun k => Classical.choose (Classical.choose_spec (h k))), fun k => if k = 0 then y0 else if k = 1 then y1 else if k = 2 then y2 else if k = 3 then y3 else if k = 4 then y4 else y5, fun k q hq => Classical.choose_spec (Classical.choose_spec (h k)) q hq, fun k q hq => ?_⟩
  match k, hq with
  | 0, hq => cases hq; exact ⟨a0, b0⟩
  | 1, hq => cases hq; exact ⟨a1, b1⟩
  | 2, hq => cases hq; exact ⟨a2, b2⟩
  | 3, hq => cases hq; exact ⟨a3, b3⟩
  | 4, hq => cases hq; exact ⟨a4, b4⟩
  | 5, hq => cases hq; exact ⟨a5, b5⟩
  | k + 6, hq => simp at hq
theorem st_len {args : Array Value} {t : Term} (h : (Cond.eq (.length t) (.int 0)).before args s = true) {a : Nat} {cell : Cell} (ht : t.eval args s none [] s = some (.ref a)) (hc : s.heap[a]? = some cell) : cell.slots.size = 0 := by
  have hv : (Term.length t).eval args s none [] s = some (.int 0) := by
    cases hv : (Term.length t).eval args s none [] s with
    | none => simp [Cond.before, Cond.holds, Cond.value, hv] at h
    | some w =>
      have hz : (Term.int 0).eval args s none [] s = some (.int 0) := rfl
      simp only [Cond.before, Cond.holds, Cond.value, hv, hz] at h
      cases w <;> simp_all
  obtain ⟨a', cell', ht', harr, he⟩ := Term.length_spec hv
  cases Option.some.inj (ht.symm.trans ht')
  obtain ⟨hcell, -, -, -⟩ := State.arrayAt?_spec harr
  cases Option.some.inj (hc.symm.trans hcell)
  have hsz : cell.slots.size < 2 ^ 31 := by
    simp only [Term.eval, ht, harr, Option.bind_eq_bind, Option.bind_some] at hv
    by_cases hlt : cell.slots.size < 2147483648
    · exact hlt
    · simp [hlt] at hv
  have h9 : (0 : Int32) = nI cell.slots.size := Value.int.inj he
  have h8 := congrArg Int32.toNatClampNeg h9
  rw [nI_clamp hsz] at h8
  exact h8.symm
theorem st_E (htm : ∀ w ∈ tables_1, w.before #[Value.ref b] s = true) (hgv : (Jvm.Cond.and given_1 narrow_1).before #[Value.ref b] s = true) : ∃ e0, qE s.heap.size e0 s s.heap := by
  have hs := flat_of_before _ hgv
  have hno : ∀ a : Nat, a < s.heap.size → ¬ s.heap.size ≤ a := fun a h => Nat.not_le.mpr h
  obtain ⟨a, c, cell, k, ht, hc, hcell, hk, hst, -, -⟩ := Cond.exactly_spec (hs (.exactly (.static "java/util/ArrayList" "DEFAULTCAPACITY_EMPTY_ELEMENTDATA" "[Ljava/lang/Object;") "[Ljava/lang/Object;") (by decide +kernel))
  have harr := Cond.arrayOf_spec (hs (.arrayOf (.static "java/util/ArrayList" "DEFAULTCAPACITY_EMPTY_ELEMENTDATA" "[Ljava/lang/Object;") (.object "java/lang/Object")) (by decide +kernel)) ht hcell
  have hlen := st_len (hs (.eq (.length (.static "java/util/ArrayList" "DEFAULTCAPACITY_EMPTY_ELEMENTDATA" "[Ljava/lang/Object;")) (.int 0)) (by decide +kernel)) ht hcell
  have hlt := (Array.getElem?_eq_some_iff.mp hcell).1
  refine ⟨a, ⟨fun q hq => va_Nw.of rfl (htm _ ((by decide +kernel : ∀ q ∈ nws, Cond.methodLinkNest q.1 q.2.1 q.2.2 "Leasehall" ∈ tables_1) q hq)), fun C hC => va_Nw.of rfl (htm _ ((by decide +kernel : ∀ C ∈ oas, Cond.castable C "java/lang/Object" ∈ tables_1) C hC))⟩, fun C hC => va_AO.of (htm _ ((by decide +kernel : ∀ C ∈ aos, Cond.arrayOver (.object C) ∈ tables_1) C hC)), va_Zof (htm _ (List.mem_of_getElem? (i := 155) (by decide +kernel))) (htm _ (List.mem_of_getElem? (i := 7) (by decide +kernel))) ht hno, ⟨cell, hcell, harr.1, harr.2, hlen⟩, Nat.not_le.mpr hlt, Nat.le_refl _⟩
theorem st_G {D : va_G} {Y : Nat → ClassId} (hK : va_K D vwCl (qT Y) s) (hts : ∀ w ∈ lw_tbl, w.before #[Value.ref b] s = true) (hgv : (Jvm.Cond.and given_1 narrow_1).before #[Value.ref b] s = true) : qG s.heap.size s s.heap := by
  have hs := flat_of_before _ hgv
  have hno : ∀ a : Nat, a < s.heap.size → ¬ s.heap.size ≤ a := fun a h => Nat.not_le.mpr h
  have htm : ∀ w ∈ tables_1, w.before #[Value.ref b] s = true := fun w h => hts w (tm h)
  have hown : s.vm.findClass RX8 = some (D.1 9) := (hK.1 9 _ rfl).2.1
  refine ⟨vx_Zqof (htm (.laysStatic "java/lang/Throwable" "UNASSIGNED_STACK" "[Ljava/lang/StackTraceElement;") (List.mem_of_getElem? (i := 361) (by decide +kernel))) (htm (.initialized "java/lang/Throwable") (List.mem_of_getElem? (i := 12) (by decide +kernel))) (hs (.isRef (.static "java/lang/Throwable" "UNASSIGNED_STACK" "[Ljava/lang/StackTraceElement;")) (by decide +kernel)) hno, vx_Zqof (htm (.laysStatic "java/lang/Throwable" "SUPPRESSED_SENTINEL" "Ljava/util/List;") (List.mem_of_getElem? (i := 363) (by decide +kernel))) (htm (.initialized "java/lang/Throwable") (List.mem_of_getElem? (i := 12) (by decide +kernel))) (hs (.isRef (.static "java/lang/Throwable" "SUPPRESSED_SENTINEL" "Ljava/util/List;")) (by decide +kernel)) hno, fun w hw => va_tabs (u := s) (U := s) (xws_ot hw).1 rfl (hts w (List.mem_filter.mp hw).1), fun q hq => ?_, Nat.le_refl _⟩
  have h1 := htm _ ((by decide +kernel : ∀ q ∈ strs, Cond.stringRef q.1 q.2.1 q.2.2 ∈ tables_1) q hq)
  have h0 : q.1 = RX8 := (by decide +kernel : ∀ q ∈ strs, q.1 = RX8) q hq
  obtain ⟨k, cf, i, a, -, -, -, -, -, h2⟩ := Cond.stringRef_spec (by rw [h0]; exact hown) h1
  exact ⟨a, vk_R.of h1 h2⟩
theorem st_Nc (htm : ∀ w ∈ tables_1, w.before #[Value.ref b] s = true) (hgv : (Jvm.Cond.and given_1 narrow_1).before #[Value.ref b] s = true) : qNc s := by
  have hs := flat_of_before _ hgv
  refine ⟨fun q hq => ?_, fun j hj => va_Nw.of rfl (htm _ ((by decide +kernel : ∀ j ∈ ([1, 2, 3] : List Nat), Cond.castable (exN j) (exN j) ∈ tables_1) j hj))⟩
  simp only [xPairs, List.mem_cons, List.not_mem_nil, or_false] at hq
  rcases hq with rfl | rfl | rfl
  · exact va_Nc.of (hs (.not (.castable "java/lang/IllegalArgumentException" "java/lang/IndexOutOfBoundsException")) (by decide +kernel))
  · exact va_Nc.of (hs (.not (.castable "java/lang/IllegalStateException" "java/lang/IndexOutOfBoundsException")) (by decide +kernel))
  · exact va_Nc.of (hs (.not (.castable "java/lang/IllegalStateException" "java/lang/IllegalArgumentException")) (by decide +kernel))
end ST

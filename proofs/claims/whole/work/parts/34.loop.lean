/-! THE CLAIM OUT OF ONE WALK OF THE LAW'S BODY. Your part is whole_start (and what it stands on); all else here is the same for every law, but numbers. -/
def R_law : String := "LeasehallLaw"
def lw_P (b : Addr) (xs : List Int32) (args : Array Value) (s : State) : Prop := args = #[.ref b] ∧ s.IntsAt b xs ∧ xs.length ≤ 4096 ∧ (Jvm.Cond.and given_1 narrow_1).before args s = true
def lw_Q (_ : Array Value) (s : State) (o : Outcome) (t : State) : Prop := o = .returned (some (.int 1)) ∧ Framed s o t [] 601024 7293034
def lw_Z (below : List Frame) (a : Array Value) (s : State) : State → Prop := fun t => ∃ o, t.status = .running ∧ Ended t below o ∧ lw_Q a s o t
/-- the law's own end, with 1 on the stack, nothing written that was there before, its room as the claim has it -/
theorem lw_ret {p : Program} {l : Launch} {e : Env} {s : State} {m : MethodId} {below : List Frame} {meth : Method} {c : Code} {b : Nat} (hx : p.tables.exec = Jvm.exec) (hb : c.code = code) (hr : meth.sig.returnType = ret) (hlocks : meth.locks = false) {pc : Nat} {H : Heap} {ls : Array Slot} (hdg : decode code pc = .ok (.ireturn, 1)) : W p l e room_1 s m #[Value.ref b] below meth c H [] 601024 7293034 (lw_Z below #[Value.ref b] s) (F0 m pc ls [.int 1]) := by
  intro T hT X
  obtain ⟨fs, hret, hrun, hended, hW, hframe⟩ := X.leave (v := some (.int 1)) (hlocks := hlocks) (fun h => by rw [hr] at h; cases h)
  have hmeth' : T.vm.method? m = some meth := X.method'
  refine ⟨T.setFrames fs, ?_, .returned (some (.int 1)), hrun, hended, rfl, ⟨_, rfl⟩, hW, hframe⟩
  jvm_step X.here [X.here.top, hx, hb, hdg, hmeth', hr, ret, narrow_b1]
  (try refine ⟨rfl, ?_⟩); (try refine ⟨rfl, ?_⟩)
  first | (intro acts; rw [hret _ acts rfl rfl rfl]) | rw [hret _ _ rfl rfl rfl]
  exact Steps.refl _
/-- what holds at the law's entry: the machine, the code, the tables' words (any of lw_tbl by 'hts w (by decide +kernel)'), the script of L ints xs at the cell b, what the Statement gives of the start (any of its parts by flat_of_before) -/
def lw_At (p : Program) (s : State) (m : MethodId) (meth : Method) (c : Code) (b L : Nat) (xs : Nat → Int32) : Prop :=
  p.tables.exec = Jvm.exec ∧ c.code = code ∧ meth.sig.returnType = ret ∧ c.maxLocals = 7 ∧ s.vm.findClass R_law = some m.cls ∧ (∀ w ∈ lw_tbl, w.before #[Value.ref b] s = true) ∧ va_X b L xs s s.heap ∧ b < s.heap.size ∧ meth.locks = false ∧ (Jvm.Cond.and given_1 narrow_1).before #[Value.ref b] s = true
/-! THE LAW'S LOOP -/
/-- all that the two programs owe each other -/
def lawI (F : Nat) (I : Nat → qS → qS → Prop) (Φ : qS → Nat) : Prop :=
  (∀ n σ σm, I n σ σm → Φ σ ≤ 90000) ∧ (∀ n σ σm, I n σ σm → I (n + 1) σ σm) ∧ cI_open F I Φ ∧ cI_close F I Φ ∧ cI_ping F I Φ ∧ cI_move F I Φ ∧ cI_sync F I Φ ∧ cI_follow F I Φ ∧ cI_pass F I Φ ∧ cI_lease F I Φ ∧ cI_renew F I Φ ∧ cI_make F I Φ ∧ cI_set F I Φ ∧ cI_delete F I Φ ∧ cI_rights F I Φ ∧ cI_check F I Φ ∧ cI_gather F I Φ ∧ cI_done F I Φ ∧ cI_answer F I Φ ∧ cI_lose F I Φ ∧ cI_quota F I Φ ∧ cI_read F I Φ ∧ cI_child F I Φ ∧ cI_watch F I Φ ∧ cI_hear F I Φ ∧ cI_want F I Φ ∧ cI_has F I Φ ∧ cI_giveUp F I Φ ∧ cI_believers F I Φ ∧ cI_isOpen F I Φ ∧ cI_takeFirst F I Φ ∧ cI_store F I Φ ∧ cI_stored F I Φ ∧ cI_valueAt F I Φ ∧ cI_changedAt F I Φ ∧ cI_compact F I Φ ∧ cI_snapshot F I Φ ∧ cI_restore F I Φ ∧ cI_changes F I Φ
theorem nI_sub8 {L n : Nat} (hL : L ≤ 4096) (h8 : ¬ nI L - 8 < nI (8 * n)) (hn : n ≤ 512) : 8 * n + 8 ≤ L := by
  refine Decidable.byContradiction fun h => h8 ?_
  by_cases c : 8 ≤ L
  · obtain ⟨k, rfl⟩ : ∃ k, L = k + 8 := ⟨L - 8, by omega⟩
    have e9 : nI (k + 8) - 8 = nI k := by
      rw [← nI_add k 8]
      exact Int32.add_sub_cancel _ _
    rw [e9]
    exact nI_lt (by omega) (by omega)
  · have h0 : nI L - 8 < 0 := by
      obtain rfl | rfl | rfl | rfl | rfl | rfl | rfl | rfl : L = 0 ∨ L = 1 ∨ L = 2 ∨ L = 3 ∨ L = 4 ∨ L = 5 ∨ L = 6 ∨ L = 7 := by omega
      all_goals decide
    exact Int32.lt_of_lt_of_le h0 (nI_pos' (by omega))
set_option maxRecDepth 100000 in
set_option maxHeartbeats 4000000 in
theorem law_loop {p : Program} {l : Launch} {e : Env} {s : State} {m : MethodId} {below : List Frame} {meth : Method} {c : Code} {D : va_G} {Y : Nat → ClassId} {am : qAd} {b L : Nat} {xs : Nat → Int32} {x0 o e0 F : Nat} {I : Nat → qS → qS → Prop} {Φ : qS → Nat} (S0 : CallFix p m c cL_law 7 s #[.ref b] gws "LeasehallLaw") (hr : meth.sig.returnType = ret) (hlocks : meth.locks = false) (hst : l.stackTraces = false) (hX : va_X b L xs s s.heap) (hbl : b < s.heap.size) (hL : L ≤ 4096) (hG : qG s.heap.size s s.heap) (hE : qE s.heap.size e0 s s.heap) (hNc : qNc s) (hI : lawI F I Φ) : ∀ k n : Nat, n + k = 513 → n ≤ 512 → lNext p l e s m b below meth c (lw_Z below #[.ref b] s) D Y am x0 o e0 I Φ n n 23 := by
  obtain ⟨hΦ, hstep, h_open, h_close, h_ping, h_move, h_sync, h_follow, h_pass, h_lease, h_renew, h_make, h_set, h_delete, h_rights, h_check, h_gather, h_done, h_answer, h_lose, h_quota, h_read, h_child, h_watch, h_hear, h_want, h_has, h_giveUp, h_believers, h_isOpen, h_takeFirst, h_store, h_stored, h_valueAt, h_changedAt, h_compact, h_snapshot, h_restore, h_changes⟩ := hI
  intro k
  induction k with
  | zero => intro n h1 h2; omega
  | succ k ih =>
    intro n h1 h2
    intro ad σ σm g H locs ls cells slots hw h0 hok hI hcl hsl hl
    have hΦ9 := hΦ _ _ _ hI
    have hbA : ¬ lA s b := Nat.not_le.mpr hbl
    refine lv_iload S0.1 S0.2.1 dL_law_23 (lv_at hl 4 rfl) ?_
    refine lv_aload_n S0.1 S0.2.1 dL_law_25 rfl (lv_at hl 0 rfl) ?_
    refine va_slen S0.1 S0.2.1 hX hbl hbA hw.1.1.2.2.1 dL_law_26 ?_
    refine lv_bipush (v := 8) S0.1 S0.2.1 dL_law_27 (by decide) ?_
    refine lv_isub S0.1 S0.2.1 dL_law_29 ?_
    refine lv_icmp_gt (tgt := 2626) S0.1 S0.2.1 dL_law_30 (by decide) (fun c1 => ?_) (fun c1 => ?_)
    · refine lv_iconst (v := 1) S0.1 S0.2.1 dL_law_2626 (by decide) ?_
      refine va_forget (fun q hq => hw.1.1.2.2.1.2.2 q hq) ?_
      refine W.widen (k := 601024) (n := 7293034) (by omega) (by omega) ?_
      exact lw_ret S0.1 S0.2.1 hr hlocks dL_law_2627
    · have hn : 8 * n + 8 ≤ L := nI_sub8 hL c1 h2
      have next : lNext p l e s m b below meth c (lw_Z below #[.ref b] s) D Y am x0 o e0 I Φ n (n + 1) 2620 := by
        intro ad σ σm g H locs ls cells slots hw h0 hok hI hcl hsl hl
        refine lv_iinc (v := nI (8 * (n + 1))) (lv' := [(4, .int (nI (8 * (n + 1)))), (0, .ref b), (1, .ref x0), (2, .ref (am 0 0)), (3, .ref o)]) S0.1 S0.2.1 dL_law_2620 hl (k := 4) rfl (by rw [show 8 * (n + 1) = 8 * n + 8 by omega, ← nI_add]; rfl) (by decide) rfl (fun ls hl => ?_)
        refine lv_goto (tgt := 23) S0.1 S0.2.1 dL_law_2623 (by decide) ?_
        exact ih (n + 1) (by omega) (by omega) ad σ σm g H locs ls cells slots hw h0 hok hI hcl hsl (lv_sub hl [1, 2, 3, 4, 0] rfl)
      refine lv_aload_n S0.1 S0.2.1 dL_law_33 rfl (lv_at hl 0 rfl) ?_
      refine lv_iload S0.1 S0.2.1 dL_law_34 (lv_at hl 4 rfl) ?_
      refine l_sld0 S0 hX hbl hbA hL hw.1.1.2.2.1 (by omega) dL_law_36 ?_
      refine lv_bipush (v := 63) S0.1 S0.2.1 dL_law_37 (by decide) ?_
      refine lv_iand S0.1 S0.2.1 dL_law_39 ?_
      generalize xs (8 * n) &&& 63 = x
      by_cases c10 : x = 0
      · refine lv_tableIn (tgt := 204) S0.1 S0.2.1 dL_law_40 (by rw [c10]; decide) (by rw [c10]; decide) (by rw [c10]; rfl) (by decide) ?_
        exact wLaw_open S0 hst hX hbl hL hG hE hNc hΦ h_open hn next ad σ σm g H locs ls cells slots hw h0 hok hI hcl hsl hl
      by_cases c11 : x = 1
      · refine lv_tableIn (tgt := 284) S0.1 S0.2.1 dL_law_40 (by rw [c11]; decide) (by rw [c11]; decide) (by rw [c11]; rfl) (by decide) ?_
        exact wLaw_close S0 hst hX hbl hL hG hE hNc hΦ h_close hn next ad σ σm g H locs ls cells slots hw h0 hok hI hcl hsl hl
      by_cases c12 : x = 2
      · refine lv_tableIn (tgt := 340) S0.1 S0.2.1 dL_law_40 (by rw [c12]; decide) (by rw [c12]; decide) (by rw [c12]; rfl) (by decide) ?_
        exact wLaw_ping S0 hst hX hbl hL hG hE hNc hΦ h_ping hn next ad σ σm g H locs ls cells slots hw h0 hok hI hcl hsl hl
      by_cases c13 : x = 3
      · refine lv_tableIn (tgt := 396) S0.1 S0.2.1 dL_law_40 (by rw [c13]; decide) (by rw [c13]; decide) (by rw [c13]; rfl) (by decide) ?_
        exact wLaw_move S0 hst hX hbl hL hG hE hNc hΦ h_move hn next ad σ σm g H locs ls cells slots hw h0 hok hI hcl hsl hl
      by_cases c14 : x = 4
      · refine lv_tableIn (tgt := 471) S0.1 S0.2.1 dL_law_40 (by rw [c14]; decide) (by rw [c14]; decide) (by rw [c14]; rfl) (by decide) ?_
        exact wLaw_sync S0 hst hX hbl hL hG hE hNc hΦ h_sync hn next ad σ σm g H locs ls cells slots hw h0 hok hI hcl hsl hl
      by_cases c15 : x = 5
      · refine lv_tableIn (tgt := 527) S0.1 S0.2.1 dL_law_40 (by rw [c15]; decide) (by rw [c15]; decide) (by rw [c15]; rfl) (by decide) ?_
        exact wLaw_follow S0 hst hX hbl hL hG hE hNc hΦ h_follow hn next ad σ σm g H locs ls cells slots hw h0 hok hI hcl hsl hl
      by_cases c16 : x = 6
      · refine lv_tableIn (tgt := 595) S0.1 S0.2.1 dL_law_40 (by rw [c16]; decide) (by rw [c16]; decide) (by rw [c16]; rfl) (by decide) ?_
        exact wLaw_pass S0 hst hX hbl hL hG hE hNc hΦ h_pass hn next ad σ σm g H locs ls cells slots hw h0 hok hI hcl hsl hl
      by_cases c17 : x = 7
      · refine lv_tableIn (tgt := 651) S0.1 S0.2.1 dL_law_40 (by rw [c17]; decide) (by rw [c17]; decide) (by rw [c17]; rfl) (by decide) ?_
        exact wLaw_lease S0 hst hX hbl hL hG hE hNc hΦ h_lease hn next ad σ σm g H locs ls cells slots hw h0 hok hI hcl hsl hl
      by_cases c18 : x = 8
      · refine lv_tableIn (tgt := 707) S0.1 S0.2.1 dL_law_40 (by rw [c18]; decide) (by rw [c18]; decide) (by rw [c18]; rfl) (by decide) ?_
        exact wLaw_renew S0 hst hX hbl hL hG hE hNc hΦ h_renew hn next ad σ σm g H locs ls cells slots hw h0 hok hI hcl hsl hl
      by_cases c19 : x = 9
      · refine lv_tableIn (tgt := 763) S0.1 S0.2.1 dL_law_40 (by rw [c19]; decide) (by rw [c19]; decide) (by rw [c19]; rfl) (by decide) ?_
        exact wLaw_make S0 hst hX hbl hL hG hE hNc hΦ h_make hn next ad σ σm g H locs ls cells slots hw h0 hok hI hcl hsl hl
      by_cases c20 : x = 10
      · refine lv_tableIn (tgt := 911) S0.1 S0.2.1 dL_law_40 (by rw [c20]; decide) (by rw [c20]; decide) (by rw [c20]; rfl) (by decide) ?_
        exact wLaw_set S0 hst hX hbl hL hG hE hNc hΦ h_set hn next ad σ σm g H locs ls cells slots hw h0 hok hI hcl hsl hl
      by_cases c21 : x = 11
      · refine lv_tableIn (tgt := 1003) S0.1 S0.2.1 dL_law_40 (by rw [c21]; decide) (by rw [c21]; decide) (by rw [c21]; rfl) (by decide) ?_
        exact wLaw_delete S0 hst hX hbl hL hG hE hNc hΦ h_delete hn next ad σ σm g H locs ls cells slots hw h0 hok hI hcl hsl hl
      by_cases c22 : x = 12
      · refine lv_tableIn (tgt := 1083) S0.1 S0.2.1 dL_law_40 (by rw [c22]; decide) (by rw [c22]; decide) (by rw [c22]; rfl) (by decide) ?_
        exact wLaw_rights S0 hst hX hbl hL hG hE hNc hΦ h_rights hn next ad σ σm g H locs ls cells slots hw h0 hok hI hcl hsl hl
      by_cases c23 : x = 13
      · refine lv_tableIn (tgt := 1203) S0.1 S0.2.1 dL_law_40 (by rw [c23]; decide) (by rw [c23]; decide) (by rw [c23]; rfl) (by decide) ?_
        exact wLaw_check S0 hst hX hbl hL hG hE hNc hΦ h_check hn next ad σ σm g H locs ls cells slots hw h0 hok hI hcl hsl hl
      by_cases c24 : x = 14
      · refine lv_tableIn (tgt := 1283) S0.1 S0.2.1 dL_law_40 (by rw [c24]; decide) (by rw [c24]; decide) (by rw [c24]; rfl) (by decide) ?_
        exact wLaw_gather S0 hst hX hbl hL hG hE hNc hΦ h_gather hn next ad σ σm g H locs ls cells slots hw h0 hok hI hcl hsl hl
      by_cases c25 : x = 15
      · refine lv_tableIn (tgt := 1319) S0.1 S0.2.1 dL_law_40 (by rw [c25]; decide) (by rw [c25]; decide) (by rw [c25]; rfl) (by decide) ?_
        exact wLaw_done S0 hst hX hbl hL hG hE hNc hΦ h_done hn next ad σ σm g H locs ls cells slots hw h0 hok hI hcl hsl hl
      by_cases c26 : x = 16
      · refine lv_tableIn (tgt := 1375) S0.1 S0.2.1 dL_law_40 (by rw [c26]; decide) (by rw [c26]; decide) (by rw [c26]; rfl) (by decide) ?_
        exact wLaw_answer S0 hst hX hbl hL hG hE hNc hΦ h_answer hn next ad σ σm g H locs ls cells slots hw h0 hok hI hcl hsl hl
      by_cases c27 : x = 17
      · refine lv_tableIn (tgt := 1443) S0.1 S0.2.1 dL_law_40 (by rw [c27]; decide) (by rw [c27]; decide) (by rw [c27]; rfl) (by decide) ?_
        exact wLaw_lose S0 hst hX hbl hL hG hE hNc hΦ h_lose hn next ad σ σm g H locs ls cells slots hw h0 hok hI hcl hsl hl
      by_cases c28 : x = 18
      · refine lv_tableIn (tgt := 1482) S0.1 S0.2.1 dL_law_40 (by rw [c28]; decide) (by rw [c28]; decide) (by rw [c28]; rfl) (by decide) ?_
        exact wLaw_quota S0 hst hX hbl hL hG hE hNc hΦ h_quota hn next ad σ σm g H locs ls cells slots hw h0 hok hI hcl hsl hl
      by_cases c29 : x = 19
      · refine lv_tableIn (tgt := 1550) S0.1 S0.2.1 dL_law_40 (by rw [c29]; decide) (by rw [c29]; decide) (by rw [c29]; rfl) (by decide) ?_
        exact wLaw_read S0 hst hX hbl hL hG hE hNc hΦ h_read hn next ad σ σm g H locs ls cells slots hw h0 hok hI hcl hsl hl
      by_cases c30 : x = 20
      · refine lv_tableIn (tgt := 1630) S0.1 S0.2.1 dL_law_40 (by rw [c30]; decide) (by rw [c30]; decide) (by rw [c30]; rfl) (by decide) ?_
        exact wLaw_child S0 hst hX hbl hL hG hE hNc hΦ h_child hn next ad σ σm g H locs ls cells slots hw h0 hok hI hcl hsl hl
      by_cases c31 : x = 21
      · refine lv_tableIn (tgt := 1710) S0.1 S0.2.1 dL_law_40 (by rw [c31]; decide) (by rw [c31]; decide) (by rw [c31]; rfl) (by decide) ?_
        exact wLaw_watch S0 hst hX hbl hL hG hE hNc hΦ h_watch hn next ad σ σm g H locs ls cells slots hw h0 hok hI hcl hsl hl
      by_cases c32 : x = 22
      · refine lv_tableIn (tgt := 1790) S0.1 S0.2.1 dL_law_40 (by rw [c32]; decide) (by rw [c32]; decide) (by rw [c32]; rfl) (by decide) ?_
        exact wLaw_hear S0 hst hX hbl hL hG hE hNc hΦ h_hear hn next ad σ σm g H locs ls cells slots hw h0 hok hI hcl hsl hl
      by_cases c33 : x = 23
      · refine lv_tableIn (tgt := 1846) S0.1 S0.2.1 dL_law_40 (by rw [c33]; decide) (by rw [c33]; decide) (by rw [c33]; rfl) (by decide) ?_
        exact wLaw_want S0 hst hX hbl hL hG hE hNc hΦ h_want hn next ad σ σm g H locs ls cells slots hw h0 hok hI hcl hsl hl
      by_cases c34 : x = 24
      · refine lv_tableIn (tgt := 1942) S0.1 S0.2.1 dL_law_40 (by rw [c34]; decide) (by rw [c34]; decide) (by rw [c34]; rfl) (by decide) ?_
        exact wLaw_has S0 hst hX hbl hL hG hE hNc hΦ h_has hn next ad σ σm g H locs ls cells slots hw h0 hok hI hcl hsl hl
      by_cases c35 : x = 25
      · refine lv_tableIn (tgt := 2010) S0.1 S0.2.1 dL_law_40 (by rw [c35]; decide) (by rw [c35]; decide) (by rw [c35]; rfl) (by decide) ?_
        exact wLaw_giveUp S0 hst hX hbl hL hG hE hNc hΦ h_giveUp hn next ad σ σm g H locs ls cells slots hw h0 hok hI hcl hsl hl
      by_cases c36 : x = 26
      · refine lv_tableIn (tgt := 2078) S0.1 S0.2.1 dL_law_40 (by rw [c36]; decide) (by rw [c36]; decide) (by rw [c36]; rfl) (by decide) ?_
        exact wLaw_believers S0 hst hX hbl hL hG hE hNc hΦ h_believers hn next ad σ σm g H locs ls cells slots hw h0 hok hI hcl hsl hl
      by_cases c37 : x = 27
      · refine lv_tableIn (tgt := 2103) S0.1 S0.2.1 dL_law_40 (by rw [c37]; decide) (by rw [c37]; decide) (by rw [c37]; rfl) (by decide) ?_
        exact wLaw_isOpen S0 hst hX hbl hL hG hE hNc hΦ h_isOpen hn next ad σ σm g H locs ls cells slots hw h0 hok hI hcl hsl hl
      by_cases c38 : x = 28
      · refine lv_tableIn (tgt := 2190) S0.1 S0.2.1 dL_law_40 (by rw [c38]; decide) (by rw [c38]; decide) (by rw [c38]; rfl) (by decide) ?_
        exact wLaw_takeFirst S0 hst hX hbl hL hG hE hNc hΦ h_takeFirst hn next ad σ σm g H locs ls cells slots hw h0 hok hI hcl hsl hl
      by_cases c39 : x = 29
      · refine lv_tableIn (tgt := 2258) S0.1 S0.2.1 dL_law_40 (by rw [c39]; decide) (by rw [c39]; decide) (by rw [c39]; rfl) (by decide) ?_
        exact wLaw_store S0 hst hX hbl hL hG hE hNc hΦ h_store hn next ad σ σm g H locs ls cells slots hw h0 hok hI hcl hsl hl
      by_cases c40 : x = 30
      · refine lv_tableIn (tgt := 2333) S0.1 S0.2.1 dL_law_40 (by rw [c40]; decide) (by rw [c40]; decide) (by rw [c40]; rfl) (by decide) ?_
        exact wLaw_stored S0 hst hX hbl hL hG hE hNc hΦ h_stored hn next ad σ σm g H locs ls cells slots hw h0 hok hI hcl hsl hl
      by_cases c41 : x = 31
      · refine lv_tableIn (tgt := 2346) S0.1 S0.2.1 dL_law_40 (by rw [c41]; decide) (by rw [c41]; decide) (by rw [c41]; rfl) (by decide) ?_
        exact wLaw_valueAt S0 hst hX hbl hL hG hE hNc hΦ h_valueAt hn next ad σ σm g H locs ls cells slots hw h0 hok hI hcl hsl hl
      by_cases c42 : x = 32
      · refine lv_tableIn (tgt := 2414) S0.1 S0.2.1 dL_law_40 (by rw [c42]; decide) (by rw [c42]; decide) (by rw [c42]; rfl) (by decide) ?_
        exact wLaw_changedAt S0 hst hX hbl hL hG hE hNc hΦ h_changedAt hn next ad σ σm g H locs ls cells slots hw h0 hok hI hcl hsl hl
      by_cases c43 : x = 33
      · refine lv_tableIn (tgt := 2494) S0.1 S0.2.1 dL_law_40 (by rw [c43]; decide) (by rw [c43]; decide) (by rw [c43]; rfl) (by decide) ?_
        exact wLaw_compact S0 hst hX hbl hL hG hE hNc hΦ h_compact hn next ad σ σm g H locs ls cells slots hw h0 hok hI hcl hsl hl
      by_cases c44 : x = 34
      · refine lv_tableIn (tgt := 2550) S0.1 S0.2.1 dL_law_40 (by rw [c44]; decide) (by rw [c44]; decide) (by rw [c44]; rfl) (by decide) ?_
        exact wLaw_snapshot S0 hst hX hbl hL hG hE hNc hΦ h_snapshot hn next ad σ σm g H locs ls cells slots hw h0 hok hI hcl hsl hl
      by_cases c45 : x = 35
      · refine lv_tableIn (tgt := 2563) S0.1 S0.2.1 dL_law_40 (by rw [c45]; decide) (by rw [c45]; decide) (by rw [c45]; rfl) (by decide) ?_
        exact wLaw_restore S0 hst hX hbl hL hG hE hNc hΦ h_restore hn next ad σ σm g H locs ls cells slots hw h0 hok hI hcl hsl hl
      by_cases c46 : x = 36
      · refine lv_tableIn (tgt := 2607) S0.1 S0.2.1 dL_law_40 (by rw [c46]; decide) (by rw [c46]; decide) (by rw [c46]; rfl) (by decide) ?_
        exact wLaw_changes S0 hst hX hbl hL hG hE hNc hΦ h_changes hn next ad σ σm g H locs ls cells slots hw h0 hok hI hcl hsl hl
      refine lv_tableOut (tgt := 2620) S0.1 S0.2.1 dL_law_40 (by have h10 := lv_neT c10 (a := 0) (by decide); have h11 := lv_neT c11 (a := 1) (by decide); have h12 := lv_neT c12 (a := 2) (by decide); have h13 := lv_neT c13 (a := 3) (by decide); have h14 := lv_neT c14 (a := 4) (by decide); have h15 := lv_neT c15 (a := 5) (by decide); have h16 := lv_neT c16 (a := 6) (by decide); have h17 := lv_neT c17 (a := 7) (by decide); have h18 := lv_neT c18 (a := 8) (by decide); have h19 := lv_neT c19 (a := 9) (by decide); have h20 := lv_neT c20 (a := 10) (by decide); have h21 := lv_neT c21 (a := 11) (by decide); have h22 := lv_neT c22 (a := 12) (by decide); have h23 := lv_neT c23 (a := 13) (by decide); have h24 := lv_neT c24 (a := 14) (by decide); have h25 := lv_neT c25 (a := 15) (by decide); have h26 := lv_neT c26 (a := 16) (by decide); have h27 := lv_neT c27 (a := 17) (by decide); have h28 := lv_neT c28 (a := 18) (by decide); have h29 := lv_neT c29 (a := 19) (by decide); have h30 := lv_neT c30 (a := 20) (by decide); have h31 := lv_neT c31 (a := 21) (by decide); have h32 := lv_neT c32 (a := 22) (by decide); have h33 := lv_neT c33 (a := 23) (by decide); have h34 := lv_neT c34 (a := 24) (by decide); have h35 := lv_neT c35 (a := 25) (by decide); have h36 := lv_neT c36 (a := 26) (by decide); have h37 := lv_neT c37 (a := 27) (by decide); have h38 := lv_neT c38 (a := 28) (by decide); have h39 := lv_neT c39 (a := 29) (by decide); have h40 := lv_neT c40 (a := 30) (by decide); have h41 := lv_neT c41 (a := 31) (by decide); have h42 := lv_neT c42 (a := 32) (by decide); have h43 := lv_neT c43 (a := 33) (by decide); have h44 := lv_neT c44 (a := 34) (by decide); have h45 := lv_neT c45 (a := 35) (by decide); have h46 := lv_neT c46 (a := 36) (by decide); omega) (by decide) ?_
      exact next ad σ σm g H locs ls cells slots hw h0 hok (hstep _ _ _ hI) (by omega) (by omega) hl

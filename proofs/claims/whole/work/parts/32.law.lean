/-! THE LAW'S WORLD: the class, the reference, the array of one long, the script -/
theorem gws_S {y : MethodName} {own : String} {b : ByteArray} {maxL idx : Nat} {hh : List (Nat × Nat × Nat × Nat)} (hc : Cond.codeWith y b maxL (some .int) hh ∈ gws) (hl : Cond.methodLink own idx y ∈ gws) (hs : Cond.static y ∈ gws) (hi : Cond.initialized y.cls ∈ gws) : GoodIn gws (va_wsS own idx y (.codeWith y b maxL (some .int) hh :: gws)) := by
  intro w hw
  have g : ∀ w' ∈ gws, w' ∈ gws ∧ ((w'.onTables && w'.keeps) = true ∨ ∃ ty, w' = .arrayClass ty) := fun w' h' => ⟨h', good_of_word (List.mem_filter.mp h').2⟩
  unfold va_wsS at hw
  rcases List.mem_append.mp hw with hw | hw
  · simp only [List.mem_cons, List.not_mem_nil, or_false] at hw
    rcases hw with rfl | rfl | rfl
    · exact g _ hl
    · exact g _ hs
    · exact g _ hi
  · rcases List.mem_cons.mp hw with rfl | hw
    · exact g _ hc
    · exact g _ hw
def lW (D : va_G) (Y : Nat → ClassId) (A : Nat → Prop) (s : State) (ad : qAd) (σ : qS) (am : qAd) (σm : qS) (o : Nat) (g : Nat → Int64) (H : Heap) (locs : List Loc) : Prop :=
  oW D Y A s ad σ o g H locs ∧ qV D (mL Y) am σm H ∧ (∀ k i, qd (mL Y) σm k i → A (am k i) ∧ am k i ≠ o) ∧ ∀ k i k' i', qd (cL Y) σ k i → qd (mL Y) σm k' i' → ad k i ≠ am k' i'
section LW
variable {p : Program} {l : Launch} {e : Env} {R : Room} {s : State} {m : MethodId} {args : Array Value} {below : List Frame} {meth : Method} {c : Code} {H : Heap} {locs : List Loc} {cells slots : Nat} {Q : State → Prop}
variable {cc : ByteArray} {pc nL : Nat} {ls : Array Slot} {rest : List Value} {own : String}
variable {D : va_G} {Y : Nat → ClassId} {A : Nat → Prop} {ad am : qAd} {σ σm : qS} {o : Nat} {g : Nat → Int64} {B0 e0 : Nat}
theorem lW.ref (hw : lW D Y A s ad σ am σm o g H locs) : qW D (mL Y) (qT Y) A s.heap s am σm H locs := ⟨hw.2.1, fun k i h => (hw.2.2.1 k i h).1, hw.1.1.2.2.1, hw.1.1.2.2.2.1, hw.1.1.2.2.2.2⟩
/-- a wrapper is called -/
theorem l_wrap (S0 : CallFix p m c cc nL s args gws own) (hG : qG B0 s s.heap) (hE : qE B0 e0 s s.heap) (hNc : qNc s) (hAB : ∀ q, A q → B0 ≤ q) (hok : qOk e0 ad σ) (hw : lW D Y A s ad σ am σm o g H locs) {y : MethodName} {b2 : ByteArray} {maxL2 fr2 lo2 n : Nat} {hh : List (Nat × Nat × Nat × Nat)} {mcf msf : Int32 × Nat × qS → Nat} {As : List Value} {fv : Option (Int32 × Nat × qS)} {cod : Nat → Int32} {og : Nat → Int32 → Nat → Int64}
    (hM : qLw l y b2 maxL2 hh fr2 lo2 mcf msf B0 e0 D Y ad o g As σ fv cod og) (hc : Cond.codeWith y b2 maxL2 (some .int) hh ∈ gws) {idx : Nat} (hl : Cond.methodLink own idx y ∈ gws) (hs : Cond.static y ∈ gws) (hi : Cond.initialized y.cls ∈ gws) (hd : y.cls ≠ "java/lang/invoke/MethodHandle" ∧ y.cls ≠ "java/lang/invoke/VarHandle" ∧ (parseMethodDescriptor y.desc).map (fun d => d.parameters.length) = some n) (hR : fr2 + 1 ≤ R.frames ∧ 8 + (maxL2 + 11) + lo2 ≤ R.locals) {r0 : Int32 × Nat × qS} (hf : fv = some r0)
    (hn : As.length = n) (hl2 : ls.size = nL) (hcat : (rest.map fun v => v.category).sum ≤ 8) (hdg : decode cc pc = .ok (.invokestatic idx, 3)) (hroom : cells + mcf r0 ≤ R.cells ∧ slots + msf r0 ≤ R.slots) {st0 : List Value} (hst : st0 = As.reverse ++ rest)
    (kk : ∀ (ad' : qAd) (H1 : Heap) (locs1 : List Loc), lW D Y A s ad' r0.2.2 am σm o (og r0.2.1 r0.1) H1 locs1 → ad' 0 0 = ad 0 0 → qOk e0 ad' r0.2.2 → W p l e R s m args below meth c H1 locs1 (cells + mcf r0) (slots + msf r0) Q (F0 m (pc + 3) ls (.int (cod r0.2.1) :: rest))) : W p l e R s m args below meth c H locs cells slots Q (F0 m pc ls st0) := by
  obtain ⟨ho, hV, hA2, hap⟩ := hw
  have hsub : ∀ q, oA (cL Y) ad σ o H.size q → A q := fun q h => by
    rcases h with h | rfl
    · exact q_sub ho.1 q h
    · exact ho.2.2.1
  refine va_calli (vx_runSW (As := As) (rest := rest) S0 (hM H.size _ hf hok) (vx_cwSW n S0.2.2.2.2 (gws_S hc hl hs hi) rfl rfl rfl hd hR) ⟨fun a U g9 mk q => ⟨q.1, ?_, q.2.2.1, ?_⟩, fun U hU hW => ⟨rfl, (qy_pre (av := As) ho.1 hG hE hAB hU hW).2, ⟨by rw [hU]; exact ho.2.1, ho.2.2.2, hAB _ ho.2.2.1⟩, hNc.warm hW⟩⟩ rfl hn hl2 hst (lv_room hcat) hdg hroom) ho.1.2.2.1 (fun q _ h => hsub q h) hsub (fun k u t H1 locs1 ht hvm hp hB hz hk hS => ?_)
  · exact (qy_blind (av := As) a U g9 mk ⟨q.1, q.2.1⟩).2
  · exact qNc.same (U := U) rfl q.2.2.2
  · obtain ⟨v, ex, h1, h2, h3, h4, h5⟩ := hp
    obtain ⟨hB1, hB2, hB3⟩ := hB
    cases hf.symm.trans h1
    subst h2
    have hkA : ∀ k i, qd (mL Y) σm k i → ¬ oA (cL Y) ad σ o H.size (am k i) := fun k i hd h => by
      rcases h with (⟨k', i', hd', h⟩ | h) | h
      · exact hap k' i' k i hd' hd h
      · exact absurd (hV.1 k i hd).lt (Nat.not_lt.mpr h)
      · exact (hA2 k i hd).2 h
    rw [h3] at hB2
    refine kk u.1 H1 locs1 ⟨⟨q_back ho.1 ht hvm hB1 hS, by rw [← ht]; exact hB2, ho.2.2.1, hB3⟩, ⟨fun k i hd => (hV.1 k i hd).kept (hk _ (hV.1 k i hd).lt (hkA k i hd)), hV.2⟩, hA2, fun k i k' i' hd hd' h => hkA k' i' hd' (Or.inl (h ▸ hB1.2.1 k i hd))⟩ h5 h4
/-- the reference is called -/
theorem lW.ref_next {H1 : Heap} {locs1 : List Loc} {σm' : qS} {t : State} (hw : lW D Y A s ad σ am σm o g H locs) (ht : t.heap = H1) (hvm : s.vm.Alike t.vm) (hB : qB D (mL Y) (qT Y) (qA (mL Y) am σm H.size) am σm' t) (hk : ∀ q : Nat, q < H.size → ¬ qA (mL Y) am σm H.size q → H1[q]? = H[q]?) (hS : va_S A s.heap H1 locs1) : lW D Y A s ad σ am σm' o g H1 locs1 := by
  have hr := hw.ref
  obtain ⟨⟨⟨hV, hA, hS0, hK, hA0⟩, ho1, ho2, ho3⟩, hVm, hA2, hap⟩ := hw
  have hb := q_back hr ht hvm hB hS
  have hnc : ∀ k i, qd (cL Y) σ k i → ¬ qA (mL Y) am σm H.size (ad k i) := fun k i hd h => by
    rcases h with ⟨k', i', hd', h⟩ | h
    · exact hap k i k' i' hd hd' h.symm
    · exact absurd (hV.1 k i hd).lt (Nat.not_lt.mpr h)
  have hno : ¬ qA (mL Y) am σm H.size o := fun h => by
    rcases h with ⟨k', i', hd', h⟩ | h
    · exact (hA2 k' i' hd').2 h
    · exact absurd ho1.lt (Nat.not_lt.mpr h)
  refine ⟨⟨⟨⟨fun k i hd => (hV.1 k i hd).kept (hk _ (hV.1 k i hd).lt (hnc k i hd)), hV.2⟩, hA, hS, hK, hA0⟩, ho1.kept (hk _ ho1.lt hno), ho2, ho3⟩, hb.1, fun k i hd => ⟨hb.2.1 k i hd, fun h => hno (h ▸ hB.2.1 k i hd)⟩, fun k i k' i' hd hd' h => hnc k i hd (h ▸ hB.2.1 k' i' hd')⟩
theorem l_refi (S0 : CallFix p m c cc nL s args gws own) (hw : lW D Y A s ad σ am σm o g H locs) {y : MethodName} {b2 : ByteArray} {maxL2 fr2 lo2 n : Nat} {ret2 : Option FieldType} {As : List Value} {fv : Option (Int32 × qS)}
    (hM : qCi l y b2 maxL2 ret2 fr2 lo2 D (mL Y) (qT Y) am (.ref (am 0 0) :: As) σm fv) (hy : qY y "LeasehallModel" b2 maxL2 ret2 n) {idx : Nat} (hl : Cond.methodLink own idx y ∈ gws) (hR : fr2 + 1 ≤ R.frames ∧ 8 + (maxL2 + 11) + lo2 ≤ R.locals) {r0 : Int32 × qS} (hf : fv = some r0)
    (hn : As.length = n) (hl2 : ls.size = nL) (hcat : (rest.map fun v => v.category).sum ≤ 8) (hdg : decode cc pc = .ok (.invokevirtual idx, 3)) (hroom : cells ≤ R.cells ∧ slots ≤ R.slots) {st0 : List Value} (hst : st0 = As.reverse ++ .ref (am 0 0) :: rest)
    (kk : ∀ (H1 : Heap) (locs1 : List Loc), lW D Y A s ad σ am r0.2 o g H1 locs1 → W p l e R s m args below meth c H1 locs1 cells slots Q (F0 m (pc + 3) ls (.int r0.1 :: rest))) : W p l e R s m args below meth c H locs cells slots Q (F0 m pc ls st0) := by
  have hr := hw.ref
  refine va_calli (va_runV (As := As) (rest := rest) S0 (hM H.size _ hf) (cwV n S0.2.2.2.2 (gws_V hy hl) rfl rfl rfl hy.2 hR) ⟨q_blind, va_recv hr.2.2.2.1 (hr.one dM_0 rfl) (q := (RX9, TX9, 58)) (ci := 10) rfl (q0 := 0) rfl, fun U hU hW => ⟨rfl, by rw [hU], by rw [hU]; exact hr.1, va_K.moved hW.alike hr.2.2.2.1⟩⟩ rfl hn hl2 hst (lv_room hcat) hdg hroom) hr.2.2.1 (fun q _ h => q_sub hr q h) (q_sub hr) (fun r u t H1 locs1 ht hvm hp hB hz hk hS => ?_)
  cases hf.symm.trans hp
  exact kk H1 locs1 (hw.ref_next ht hvm hB hk hS)
theorem l_refv (S0 : CallFix p m c cc nL s args gws own) (hw : lW D Y A s ad σ am σm o g H locs) {y : MethodName} {b2 : ByteArray} {maxL2 fr2 lo2 n : Nat} {ret2 : Option FieldType} {As : List Value} {fv : Option qS}
    (hM : qCv l y b2 maxL2 ret2 fr2 lo2 D (mL Y) (qT Y) am (.ref (am 0 0) :: As) σm fv) (hy : qY y "LeasehallModel" b2 maxL2 ret2 n) {idx : Nat} (hl : Cond.methodLink own idx y ∈ gws) (hR : fr2 + 1 ≤ R.frames ∧ 8 + (maxL2 + 11) + lo2 ≤ R.locals) {r0 : qS} (hf : fv = some r0)
    (hn : As.length = n) (hl2 : ls.size = nL) (hcat : (rest.map fun v => v.category).sum ≤ 8) (hdg : decode cc pc = .ok (.invokevirtual idx, 3)) (hroom : cells ≤ R.cells ∧ slots ≤ R.slots) {st0 : List Value} (hst : st0 = As.reverse ++ .ref (am 0 0) :: rest)
    (kk : ∀ (H1 : Heap) (locs1 : List Loc), lW D Y A s ad σ am r0 o g H1 locs1 → W p l e R s m args below meth c H1 locs1 cells slots Q (F0 m (pc + 3) ls rest)) : W p l e R s m args below meth c H locs cells slots Q (F0 m pc ls st0) := by
  have hr := hw.ref
  refine va_callv (va_runV (As := As) (rest := rest) S0 (hM H.size _ hf) (cwV n S0.2.2.2.2 (gws_V hy hl) rfl rfl rfl hy.2 hR) ⟨q_blind, va_recv hr.2.2.2.1 (hr.one dM_0 rfl) (q := (RX9, TX9, 58)) (ci := 10) rfl (q0 := 0) rfl, fun U hU hW => ⟨rfl, by rw [hU], by rw [hU]; exact hr.1, va_K.moved hW.alike hr.2.2.2.1⟩⟩ rfl hn hl2 hst (lv_room hcat) hdg hroom) hr.2.2.1 (fun q _ h => q_sub hr q h) (q_sub hr) (fun u t H1 locs1 ht hvm hp hB hz hk hS => ?_)
  cases hf.symm.trans hp
  exact kk H1 locs1 (hw.ref_next ht hvm hB hk hS)
/-- the class is called by the law itself -/
theorem lW.cls_next {H1 : Heap} {locs1 : List Loc} {σ' : qS} {t : State} (hw : lW D Y A s ad σ am σm o g H locs) (ht : t.heap = H1) (hvm : s.vm.Alike t.vm) (hB : qB D (cL Y) (qT Y) (qA (cL Y) ad σ H.size) ad σ' t) (hk : ∀ q : Nat, q < H.size → ¬ qA (cL Y) ad σ H.size q → H1[q]? = H[q]?) (hS : va_S A s.heap H1 locs1) : lW D Y A s ad σ' am σm o g H1 locs1 := by
  have ho := hw.1.next ht hvm hB hk hS
  obtain ⟨h1, hVm, hA2, hap⟩ := hw
  have hkA : ∀ k i, qd (mL Y) σm k i → ¬ qA (cL Y) ad σ H.size (am k i) := fun k i hd h => by
    rcases h with ⟨k', i', hd', h⟩ | h
    · exact hap k' i' k i hd' hd h
    · exact absurd (hVm.1 k i hd).lt (Nat.not_lt.mpr h)
  exact ⟨ho, ⟨fun k i hd => (hVm.1 k i hd).kept (hk _ (hVm.1 k i hd).lt (hkA k i hd)), hVm.2⟩, hA2, fun k i k' i' hd hd' h => hkA k' i' hd' (h ▸ hB.2.1 k i hd)⟩
theorem l_clsi (S0 : CallFix p m c cc nL s args gws own) (hw : lW D Y A s ad σ am σm o g H locs) {y : MethodName} {b2 : ByteArray} {maxL2 fr2 lo2 n : Nat} {ret2 : Option FieldType} {As : List Value} {fv : Option (Int32 × qS)}
    (hM : qCi l y b2 maxL2 ret2 fr2 lo2 D (cL Y) (qT Y) ad (.ref (ad 0 0) :: As) σ fv) (hy : qY y "Leasehall" b2 maxL2 ret2 n) {idx : Nat} (hl : Cond.methodLink own idx y ∈ gws) (hR : fr2 + 1 ≤ R.frames ∧ 8 + (maxL2 + 11) + lo2 ≤ R.locals) {r0 : Int32 × qS} (hf : fv = some r0)
    (hn : As.length = n) (hl2 : ls.size = nL) (hcat : (rest.map fun v => v.category).sum ≤ 8) (hdg : decode cc pc = .ok (.invokevirtual idx, 3)) (hroom : cells ≤ R.cells ∧ slots ≤ R.slots) {st0 : List Value} (hst : st0 = As.reverse ++ .ref (ad 0 0) :: rest)
    (kk : ∀ (H1 : Heap) (locs1 : List Loc), lW D Y A s ad r0.2 am σm o g H1 locs1 → W p l e R s m args below meth c H1 locs1 cells slots Q (F0 m (pc + 3) ls (.int r0.1 :: rest))) : W p l e R s m args below meth c H locs cells slots Q (F0 m pc ls st0) := by
  have hr := hw.1.1
  refine va_calli (va_runV (As := As) (rest := rest) S0 (hM H.size _ hf) (cwV n S0.2.2.2.2 (gws_V hy hl) rfl rfl rfl hy.2 hR) ⟨q_blind, va_recv hr.2.2.2.1 (hr.one dC_0 rfl) (q := (RX8, TX8, 20)) (ci := 9) rfl (q0 := 0) rfl, fun U hU hW => ⟨rfl, by rw [hU], by rw [hU]; exact hr.1, va_K.moved hW.alike hr.2.2.2.1⟩⟩ rfl hn hl2 hst (lv_room hcat) hdg hroom) hr.2.2.1 (fun q _ h => q_sub hr q h) (q_sub hr) (fun r u t H1 locs1 ht hvm hp hB hz hk hS => ?_)
  cases hf.symm.trans hp
  exact kk H1 locs1 (hw.cls_next ht hvm hB hk hS)
theorem l_clsv (S0 : CallFix p m c cc nL s args gws own) (hw : lW D Y A s ad σ am σm o g H locs) {y : MethodName} {b2 : ByteArray} {maxL2 fr2 lo2 n : Nat} {ret2 : Option FieldType} {As : List Value} {fv : Option qS}
    (hM : qCv l y b2 maxL2 ret2 fr2 lo2 D (cL Y) (qT Y) ad (.ref (ad 0 0) :: As) σ fv) (hy : qY y "Leasehall" b2 maxL2 ret2 n) {idx : Nat} (hl : Cond.methodLink own idx y ∈ gws) (hR : fr2 + 1 ≤ R.frames ∧ 8 + (maxL2 + 11) + lo2 ≤ R.locals) {r0 : qS} (hf : fv = some r0)
    (hn : As.length = n) (hl2 : ls.size = nL) (hcat : (rest.map fun v => v.category).sum ≤ 8) (hdg : decode cc pc = .ok (.invokevirtual idx, 3)) (hroom : cells ≤ R.cells ∧ slots ≤ R.slots) {st0 : List Value} (hst : st0 = As.reverse ++ .ref (ad 0 0) :: rest)
    (kk : ∀ (H1 : Heap) (locs1 : List Loc), lW D Y A s ad r0 am σm o g H1 locs1 → W p l e R s m args below meth c H1 locs1 cells slots Q (F0 m (pc + 3) ls rest)) : W p l e R s m args below meth c H locs cells slots Q (F0 m pc ls st0) := by
  have hr := hw.1.1
  refine va_callv (va_runV (As := As) (rest := rest) S0 (hM H.size _ hf) (cwV n S0.2.2.2.2 (gws_V hy hl) rfl rfl rfl hy.2 hR) ⟨q_blind, va_recv hr.2.2.2.1 (hr.one dC_0 rfl) (q := (RX8, TX8, 20)) (ci := 9) rfl (q0 := 0) rfl, fun U hU hW => ⟨rfl, by rw [hU], by rw [hU]; exact hr.1, va_K.moved hW.alike hr.2.2.2.1⟩⟩ rfl hn hl2 hst (lv_room hcat) hdg hroom) hr.2.2.1 (fun q _ h => q_sub hr q h) (q_sub hr) (fun u t H1 locs1 ht hvm hp hB hz hk hS => ?_)
  cases hf.symm.trans hp
  exact kk H1 locs1 (hw.cls_next ht hvm hB hk hS)
theorem l_out0 (S0 : CallFix p m c cc nL s args gws own) (hw : lW D Y A s ad σ am σm o g H locs) (hdg : decode cc pc = .ok (.laload, 1))
    (kk : W p l e R s m args below meth c H locs cells slots Q (F0 m (pc + 1) ls (.long (g 0) :: rest))) : W p l e R s m args below meth c H locs cells slots Q (F0 m pc ls (.int 0 :: .ref o :: rest)) :=
  va_lald S0.1 S0.2.1 hw.1.1.2.2.2.1 (ws := [(o, .inl (Y 5, 1, .inr (.inl g)))]) (fun k q h => by
    cases k with
    | zero => cases Option.some.inj h; exact hw.1.2.1
    | succ k => simp at h) 0 5 rfl rfl (i := 0) (vp_in_iff.mpr (by decide)) hdg kk
theorem l_lcmp0 (S0 : CallFix p m c cc nL s args gws own) {x : Int64} (hdg : decode cc pc = .ok (.lcmp, 1)) (k : W p l e R s m args below meth c H locs cells slots Q (F0 m (pc + 1) ls (.int 0 :: rest))) : W p l e R s m args below meth c H locs cells slots Q (F0 m pc ls (.long x :: .long x :: rest)) := by
  obtain ⟨hexec, hb, -⟩ := S0
  intro T hT X
  obtain ⟨t, a, b⟩ := k T hT X
  refine ⟨t, ?_, b⟩
  jvm_step X.here [X.here.top, hexec, hb, hdg]
  exact a
/-- 'x != 0' -/
theorem l_bool (S0 : CallFix p m c cc nL s args gws own) {x : Int32} {t : Nat} (d0 : decode cc pc = .ok (.ifCond .eq 7, 3)) (d1 : decode cc (pc + 3) = .ok (.iconst 1, 1)) (d2 : decode cc (pc + 4) = .ok (.goto 4, 3)) (d3 : decode cc (pc + 7) = .ok (.iconst 0, 1)) (ht : t = pc + 7)
    (kk : W p l e R s m args below meth c H locs cells slots Q (F0 m (pc + 8) ls (.int (if x = 0 then 0 else 1) :: rest))) : W p l e R s m args below meth c H locs cells slots Q (F0 m pc ls (.int x :: rest)) := by
  subst ht
  refine lv_if_eq (tgt := pc + 7) S0.1 S0.2.1 d0 (by omega) (fun c5 => ?_) (fun c5 => ?_)
  · refine lv_iconst (v := 0) S0.1 S0.2.1 d3 (by decide) ?_
    rw [if_pos c5] at kk
    exact kk
  · refine lv_iconst (v := 1) S0.1 S0.2.1 d1 (by decide) ?_
    refine lv_goto (tgt := pc + 8) S0.1 S0.2.1 d2 (by omega) ?_
    rw [if_neg c5] at kk
    exact kk
theorem l_boolL (S0 : CallFix p m c cc nL s args gws own) {x : Int32} {t : Nat} (d0 : decode cc pc = .ok (.ifCond .eq 7, 3)) (d1 : decode cc (pc + 3) = .ok (.lconst 1, 1)) (d2 : decode cc (pc + 4) = .ok (.goto 4, 3)) (d3 : decode cc (pc + 7) = .ok (.lconst 0, 1)) (ht : t = pc + 7)
    (kk : W p l e R s m args below meth c H locs cells slots Q (F0 m (pc + 8) ls (.long (if x = 0 then 0 else 1) :: rest))) : W p l e R s m args below meth c H locs cells slots Q (F0 m pc ls (.int x :: rest)) := by
  subst ht
  refine lv_if_eq (tgt := pc + 7) S0.1 S0.2.1 d0 (by omega) (fun c5 => ?_) (fun c5 => ?_)
  · refine lv_lconst (v := 0) S0.1 S0.2.1 d3 (by decide) ?_
    rw [if_pos c5] at kk
    exact kk
  · refine lv_lconst (v := 1) S0.1 S0.2.1 d1 (by decide) ?_
    refine lv_goto (tgt := pc + 8) S0.1 S0.2.1 d2 (by omega) ?_
    rw [if_neg c5] at kk
    exact kk
/-- 'script[i + k]' -/
theorem l_sld (S0 : CallFix p m c cc nL s args gws own) {b L : Nat} {xs : Nat → Int32} (hX : va_X b L xs s s.heap) (hbl : b < s.heap.size) (hbA : ¬ A b) (hL : L ≤ 4096) (hS : va_S A s.heap H locs) {n k : Nat} {x : Int32} (hx : x = nI k) (h : 8 * n + k < L) (d0 : decode cc pc = .ok (.iadd, 1)) (d1 : decode cc (pc + 1) = .ok (.iaload, 1))
    (kk : W p l e R s m args below meth c H locs cells slots Q (F0 m (pc + 2) ls (.int (xs (8 * n + k)) :: rest))) : W p l e R s m args below meth c H locs cells slots Q (F0 m pc ls (.int x :: .int (nI (8 * n)) :: .ref b :: rest)) := by
  subst hx
  refine lv_iadd S0.1 S0.2.1 d0 ?_
  rw [nI_add]
  refine va_sld S0.1 S0.2.1 hX hbl hbA hS (vp_in_nI h (by omega)) d1 ?_
  rw [nI_clamp (by omega)]
  exact kk
theorem l_sld0 (S0 : CallFix p m c cc nL s args gws own) {b L : Nat} {xs : Nat → Int32} (hX : va_X b L xs s s.heap) (hbl : b < s.heap.size) (hbA : ¬ A b) (hL : L ≤ 4096) (hS : va_S A s.heap H locs) {n : Nat} (h : 8 * n < L) (d1 : decode cc pc = .ok (.iaload, 1))
    (kk : W p l e R s m args below meth c H locs cells slots Q (F0 m (pc + 1) ls (.int (xs (8 * n)) :: rest))) : W p l e R s m args below meth c H locs cells slots Q (F0 m pc ls (.int (nI (8 * n)) :: .ref b :: rest)) := by
  refine va_sld S0.1 S0.2.1 hX hbl hbA hS (vp_in_nI h (by omega)) d1 ?_
  rw [nI_clamp (by omega)]
  exact kk
end LW

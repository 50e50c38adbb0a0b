/-! CONTRACTS: a method does to the state what its function says, if that says anything -/
def qB (D : va_G) (L : qLay) (tys : List (ClassId × FieldType)) (A : Nat → Prop) (ad : qAd) (σ : qS) (t : State) : Prop := qV D L ad σ t.heap ∧ (∀ k i, qd L σ k i → A (ad k i)) ∧ va_K D vwCl tys t
def qPre (D : va_G) (L : qLay) (tys : List (ClassId × FieldType)) (ad : qAd) (σ : qS) (sz : Nat) (U : State) : Prop := U.heap.size = sz ∧ qV D L ad σ U.heap ∧ va_K D vwCl tys U
def qA (L : qLay) (ad : qAd) (σ : qS) (sz : Nat) : Nat → Prop := fun q => (∃ k i, qd L σ k i ∧ ad k i = q) ∨ sz ≤ q
abbrev qRm (fr lo : Nat) : Room := { frames := fr, cells := 0, slots := 0, locals := lo }
abbrev qWs (y : MethodName) (b : ByteArray) (maxL : Nat) (ret : Option FieldType) : List Cond := .code y b maxL ret :: gws
def qCi (l : Launch) (y : MethodName) (b : ByteArray) (maxL : Nat) (ret : Option FieldType) (fr lo : Nat) (D : va_G) (L : qLay) (tys : List (ClassId × FieldType)) (ad : qAd) (av : List Value) (σ : qS) (fv : Option (Int32 × qS)) : Prop :=
  ∀ (sz : Nat) (r0 : Int32 × qS), fv = some r0 → Met l y (qWs y b maxL ret) (qRm fr lo) (va_Pc av (qPre D L tys ad σ sz)) (va_Qi (fun r u => fv = some (r, u)) (qB D L tys (qA L ad σ sz) ad) (qA L ad σ sz)) 0 0 (qA L ad σ sz)
def qCv (l : Launch) (y : MethodName) (b : ByteArray) (maxL : Nat) (ret : Option FieldType) (fr lo : Nat) (D : va_G) (L : qLay) (tys : List (ClassId × FieldType)) (ad : qAd) (av : List Value) (σ : qS) (fv : Option qS) : Prop :=
  ∀ (sz : Nat) (r0 : qS), fv = some r0 → Met l y (qWs y b maxL ret) (qRm fr lo) (va_Pc av (qPre D L tys ad σ sz)) (va_Qv (fun u => fv = some u) (qB D L tys (qA L ad σ sz) ad) (qA L ad σ sz)) 0 0 (qA L ad σ sz)
def qY (y : MethodName) (C : String) (b : ByteArray) (maxL : Nat) (ret : Option FieldType) (n : Nat) : Prop :=
  (Cond.instanceMethod y ∈ gws ∧ Cond.selects C y y ∈ gws ∧ Cond.initialized C ∈ gws ∧ Cond.code y b maxL ret ∈ gws) ∧ (y.cls = C ∧ y.cls ≠ "java/lang/invoke/MethodHandle" ∧ y.cls ≠ "java/lang/invoke/VarHandle" ∧ (parseMethodDescriptor y.desc).map (fun d => d.parameters.length) = some n)
theorem gws_V {y : MethodName} {C own : String} {b : ByteArray} {maxL : Nat} {ret : Option FieldType} {n idx : Nat} (h : qY y C b maxL ret n) (hl : Cond.methodLink own idx y ∈ gws) : GoodIn gws (wsV own idx C y (qWs y b maxL ret)) := by
  intro w hw
  have g : ∀ w' ∈ gws, w' ∈ gws ∧ ((w'.onTables && w'.keeps) = true ∨ ∃ ty, w' = .arrayClass ty) := fun w' h' => ⟨h', good_of_word (List.mem_filter.mp h').2⟩
  unfold wsV at hw
  rcases List.mem_append.mp hw with hw | hw
  · simp only [List.mem_cons, List.not_mem_nil, or_false] at hw
    rcases hw with rfl | rfl | rfl | rfl
    · exact g _ hl
    · exact g _ h.1.1
    · exact g _ h.1.2.1
    · exact g _ h.1.2.2.1
  · rcases List.mem_cons.mp hw with rfl | hw
    · exact g _ h.1.2.2.2
    · exact g _ hw
section QC
variable {p : Program} {l : Launch} {e : Env} {R : Room} {s : State} {m : MethodId} {args : Array Value} {below : List Frame} {meth : Method} {c : Code} {H : Heap} {locs : List Loc} {cells slots : Nat} {Q : State → Prop}
variable {cc : ByteArray} {pc nL : Nat} {ls : Array Slot} {rest : List Value} {own : String}
variable {D : va_G} {L : qLay} {tys : List (ClassId × FieldType)} {A : Nat → Prop} {H0 : Heap} {ad : qAd} {σ : qS} {β : Type} {r0 : β}
theorem q_blind {av : List Value} {sz : Nat} : FrameBlind (va_Pc av (qPre D L tys ad σ sz)) := fun a U g mk q => ⟨q.1, q.2.1, q.2.2.1, va_K.moved (u := U) (U := U.calling g mk a) (Vm.Alike.refl U.vm) q.2.2.2⟩
theorem q_sub (hw : qW D L tys A H0 s ad σ H locs) : ∀ q, qA L ad σ H.size q → A q := by
  intro q h
  rcases h with ⟨k, i, hd, rfl⟩ | h
  · exact hw.2.1 k i hd
  · exact hw.2.2.2.2 q (Nat.le_trans hw.2.2.1.1 h)
theorem q_back {σ' : qS} {t : State} {H1 : Heap} {locs1 : List Loc} {ad' : qAd} (hw : qW D L tys A H0 s ad σ H locs) (ht : t.heap = H1) (hvm : s.vm.Alike t.vm) (hB : qB D L tys (qA L ad σ H.size) ad' σ' t) (hS : va_S A H0 H1 locs1) : qW D L tys A H0 s ad' σ' H1 locs1 :=
  ⟨ht ▸ hB.1, fun k i h => q_sub hw _ (hB.2.1 k i h), hS, va_K.moved hvm.symm hB.2.2, hw.2.2.2.2⟩
theorem q_calli (S0 : CallFix p m c cc nL s args gws own) (hw : qW D L tys A H0 s ad σ H locs) {y : MethodName} {C : String} {b2 : ByteArray} {maxL2 fr2 lo2 n : Nat} {ret2 : Option FieldType} {As : List Value} {fv : Option (Int32 × qS)} {k i ci : Nat} {fs : List Value}
    (hM : qCi l y b2 maxL2 ret2 fr2 lo2 D L tys ad (.ref (ad k i) :: As) σ fv) (hy : qY y C b2 maxL2 ret2 n) {idx : Nat} (hl : Cond.methodLink own idx y ∈ gws) (hR : fr2 + 1 ≤ R.frames ∧ 8 + (maxL2 + 11) + lo2 ≤ R.locals) (hd : qd L σ k i) (he : qc L ad σ k i = .inr (ci, fs)) {q : vw_C} (hc : vwCl[ci]? = some q) (hq : q.1 = C)
    (hn : As.length = n) (hl2 : ls.size = nL) (hcat : (rest.map fun v => v.category).sum ≤ 8) (hdg : decode cc pc = .ok (.invokevirtual idx, 3)) (hroom : cells ≤ R.cells ∧ slots ≤ R.slots) {st0 : List Value} (hst : st0 = As.reverse ++ .ref (ad k i) :: rest)
    {kf : Int32 → qS → Option β} (hf : bnd2 fv kf = some r0)
    (kk : ∀ (r : Int32) (σ' : qS) (H1 : Heap) (locs1 : List Loc), qW D L tys A H0 s ad σ' H1 locs1 → kf r σ' = some r0 → W p l e R s m args below meth c H1 locs1 cells slots Q (F0 m (pc + 3) ls (.int r :: rest))) : W p l e R s m args below meth c H locs cells slots Q (F0 m pc ls st0) := by
  obtain ⟨r1, σ1, h1, h2⟩ := bnd2_some hf
  subst hq
  refine va_calli (va_runV (As := As) (rest := rest) S0 (hM H.size _ h1) (cwV n S0.2.2.2.2 (gws_V hy hl) rfl rfl rfl hy.2 hR) ⟨q_blind, va_recv hw.2.2.2.1 (hw.one hd he) hc (q0 := 0) rfl, fun U hU hW => ⟨rfl, by rw [hU], by rw [hU]; exact hw.1, va_K.moved hW.alike hw.2.2.2.1⟩⟩ rfl hn hl2 hst (lv_room hcat) hdg hroom) hw.2.2.1 (fun q _ h => q_sub hw q h) (q_sub hw) (fun r u t H1 locs1 ht hvm hp hB hz hk hS => ?_)
  cases h1.symm.trans hp
  exact kk _ _ H1 locs1 (q_back hw ht hvm hB hS) h2
theorem q_callv (S0 : CallFix p m c cc nL s args gws own) (hw : qW D L tys A H0 s ad σ H locs) {y : MethodName} {C : String} {b2 : ByteArray} {maxL2 fr2 lo2 n : Nat} {ret2 : Option FieldType} {As : List Value} {fv : Option qS} {k i ci : Nat} {fs : List Value}
    (hM : qCv l y b2 maxL2 ret2 fr2 lo2 D L tys ad (.ref (ad k i) :: As) σ fv) (hy : qY y C b2 maxL2 ret2 n) {idx : Nat} (hl : Cond.methodLink own idx y ∈ gws) (hR : fr2 + 1 ≤ R.frames ∧ 8 + (maxL2 + 11) + lo2 ≤ R.locals) (hd : qd L σ k i) (he : qc L ad σ k i = .inr (ci, fs)) {q : vw_C} (hc : vwCl[ci]? = some q) (hq : q.1 = C)
    (hn : As.length = n) (hl2 : ls.size = nL) (hcat : (rest.map fun v => v.category).sum ≤ 8) (hdg : decode cc pc = .ok (.invokevirtual idx, 3)) (hroom : cells ≤ R.cells ∧ slots ≤ R.slots) {st0 : List Value} (hst : st0 = As.reverse ++ .ref (ad k i) :: rest)
    {kf : qS → Option β} (hf : bnd fv kf = some r0)
    (kk : ∀ (σ' : qS) (H1 : Heap) (locs1 : List Loc), qW D L tys A H0 s ad σ' H1 locs1 → kf σ' = some r0 → W p l e R s m args below meth c H1 locs1 cells slots Q (F0 m (pc + 3) ls rest)) : W p l e R s m args below meth c H locs cells slots Q (F0 m pc ls st0) := by
  obtain ⟨σ1, h1, h2⟩ := bnd_some hf
  subst hq
  refine va_callv (va_runV (As := As) (rest := rest) S0 (hM H.size _ h1) (cwV n S0.2.2.2.2 (gws_V hy hl) rfl rfl rfl hy.2 hR) ⟨q_blind, va_recv hw.2.2.2.1 (hw.one hd he) hc (q0 := 0) rfl, fun U hU hW => ⟨rfl, by rw [hU], by rw [hU]; exact hw.1, va_K.moved hW.alike hw.2.2.2.1⟩⟩ rfl hn hl2 hst (lv_room hcat) hdg hroom) hw.2.2.1 (fun q _ h => q_sub hw q h) (q_sub hw) (fun u t H1 locs1 ht hvm hp hB hz hk hS => ?_)
  cases h1.symm.trans hp
  exact kk _ H1 locs1 (q_back hw ht hvm hB hS) h2
theorem q_ofi {y : MethodName} {b : ByteArray} {maxL fr lo : Nat} {av : List Value} {fv : Option (Int32 × qS)} (hy : plainName y.cls = true) (hlen : (lg_sl av).length ≤ maxL) (own : String) (ho : y.cls = own)
    (body : ∀ (p : Program) (e : Env) (s : State) (m : MethodId) (below : List Frame) (meth : Method) (c : Code) (A : Nat → Prop) (Q : State → Prop) (r0 : Int32 × qS), CallFix p m c b maxL s av.toArray gws own → fv = some r0 → qW D L tys A s.heap s ad σ s.heap [] →
      (∀ {pc : Nat} {ls : Array Slot} {H : Heap} {locs : List Loc} {v : Int32} {σ' : qS}, decode b pc = .ok (.ireturn, 1) → qW D L tys A s.heap s ad σ' H locs → some (v, σ') = some r0 → W p l e (qRm fr lo) s m av.toArray below meth c H locs 0 0 Q (F0 m pc ls [.int v])) →
      ∀ ls : Array Slot, lv_has ls maxL (lv_args 0 av) → W p l e (qRm fr lo) s m av.toArray below meth c s.heap [] 0 0 Q (F0 m 0 ls [])) : qCi l y b maxL (some .int) fr lo D L tys ad av σ fv := by
  intro sz r0 hf
  refine Met.ofW (cc := b) (maxL := maxL) (ret := some .int) hy rfl ?_
  intro p e s m args below meth c s₁ B hml hv
  obtain ⟨rfl, hsz, hV, hK⟩ := hv
  subst hsz
  have hts := atoms_spec (ws := qWs y b maxL (some .int)) B.pre
  have hown : s.vm.findClass y.cls = some m.cls := findClass_of_methodNamed B.named
  rw [ho] at hown
  have S0 : CallFix p m c b maxL s av.toArray gws own := ⟨B.exec, B.bytes, hml, hown, fun w h => hts w (List.mem_cons_of_mem _ h)⟩
  have hw : qW D L tys (qA L ad σ s.heap.size) s.heap s ad σ s.heap [] := ⟨hV, fun k i h => Or.inl ⟨k, i, h, rfl⟩, va_S.rf, hK, fun q h => Or.inr h⟩
  have hl := lv_entry av (n := maxL) hlen
  rw [lg_entry_eq]
  generalize (lg_sl av ++ List.replicate (maxL - (lg_sl av).length) Slot.unset).toArray = ls at hl ⊢
  exact body p e s m below meth c _ _ r0 S0 hf hw (fun hd hw' h => W.iret S0.1 S0.2.1 B.returns (fun t ht hW => ⟨⟨_, _, rfl, hf.trans h.symm, ⟨by rw [ht]; exact hw'.1, hw'.2.1, va_K.moved hW.alike hw'.2.2.2.1⟩⟩, hw'.2.2.1.F ht⟩) hw'.2.2.1.2.2 hd (hlocks := B.notSynchronized)) ls hl
theorem q_ofz {y : MethodName} {b : ByteArray} {maxL fr lo : Nat} {av : List Value} {fv : Option (Int32 × qS)} (hy : plainName y.cls = true) (hlen : (lg_sl av).length ≤ maxL) (own : String) (ho : y.cls = own)
    (body : ∀ (p : Program) (e : Env) (s : State) (m : MethodId) (below : List Frame) (meth : Method) (c : Code) (A : Nat → Prop) (Q : State → Prop) (r0 : Int32 × qS), CallFix p m c b maxL s av.toArray gws own → fv = some r0 → qW D L tys A s.heap s ad σ s.heap [] →
      (∀ {pc : Nat} {ls : Array Slot} {H : Heap} {locs : List Loc} {v : Int32} {σ' : qS}, decode b pc = .ok (.ireturn, 1) → qW D L tys A s.heap s ad σ' H locs → gbl v (some (v, σ')) = some r0 → W p l e (qRm fr lo) s m av.toArray below meth c H locs 0 0 Q (F0 m pc ls [.int v])) →
      ∀ ls : Array Slot, lv_has ls maxL (lv_args 0 av) → W p l e (qRm fr lo) s m av.toArray below meth c s.heap [] 0 0 Q (F0 m 0 ls [])) : qCi l y b maxL (some .boolean) fr lo D L tys ad av σ fv := by
  intro sz r0 hf
  refine Met.ofW (cc := b) (maxL := maxL) (ret := some .boolean) hy rfl ?_
  intro p e s m args below meth c s₁ B hml hv
  obtain ⟨rfl, hsz, hV, hK⟩ := hv
  subst hsz
  have hts := atoms_spec (ws := qWs y b maxL (some .boolean)) B.pre
  have hown : s.vm.findClass y.cls = some m.cls := findClass_of_methodNamed B.named
  rw [ho] at hown
  have S0 : CallFix p m c b maxL s av.toArray gws own := ⟨B.exec, B.bytes, hml, hown, fun w h => hts w (List.mem_cons_of_mem _ h)⟩
  have hw : qW D L tys (qA L ad σ s.heap.size) s.heap s ad σ s.heap [] := ⟨hV, fun k i h => Or.inl ⟨k, i, h, rfl⟩, va_S.rf, hK, fun q h => Or.inr h⟩
  have hl := lv_entry av (n := maxL) hlen
  rw [lg_entry_eq]
  generalize (lg_sl av ++ List.replicate (maxL - (lg_sl av).length) Slot.unset).toArray = ls at hl ⊢
  refine body p e s m below meth c _ _ r0 S0 hf hw ?_ ls hl
  intro pc ls H locs v σ' hd hw' h
  obtain ⟨hv, h⟩ := gbl_some h
  exact W.zret S0.1 S0.2.1 B.returns (by rcases hv with rfl | rfl <;> rfl) (fun t ht hW => ⟨⟨_, _, rfl, hf.trans h.symm, ⟨by rw [ht]; exact hw'.1, hw'.2.1, va_K.moved hW.alike hw'.2.2.2.1⟩⟩, hw'.2.2.1.F ht⟩) hw'.2.2.1.2.2 hd (hlocks := B.notSynchronized)
theorem q_ofv {y : MethodName} {b : ByteArray} {maxL fr lo : Nat} {av : List Value} {fv : Option qS} (hy : plainName y.cls = true) (hlen : (lg_sl av).length ≤ maxL) (own : String) (ho : y.cls = own)
    (body : ∀ (p : Program) (e : Env) (s : State) (m : MethodId) (below : List Frame) (meth : Method) (c : Code) (A : Nat → Prop) (Q : State → Prop) (r0 : qS), CallFix p m c b maxL s av.toArray gws own → fv = some r0 → qW D L tys A s.heap s ad σ s.heap [] →
      (∀ {pc : Nat} {ls : Array Slot} {H : Heap} {locs : List Loc} {σ' : qS}, decode b pc = .ok (.return_, 1) → qW D L tys A s.heap s ad σ' H locs → some σ' = some r0 → W p l e (qRm fr lo) s m av.toArray below meth c H locs 0 0 Q (F0 m pc ls [])) →
      ∀ ls : Array Slot, lv_has ls maxL (lv_args 0 av) → W p l e (qRm fr lo) s m av.toArray below meth c s.heap [] 0 0 Q (F0 m 0 ls [])) : qCv l y b maxL none fr lo D L tys ad av σ fv := by
  intro sz r0 hf
  refine Met.ofW (cc := b) (maxL := maxL) (ret := none) hy rfl ?_
  intro p e s m args below meth c s₁ B hml hv
  obtain ⟨rfl, hsz, hV, hK⟩ := hv
  subst hsz
  have hts := atoms_spec (ws := qWs y b maxL none) B.pre
  have hown : s.vm.findClass y.cls = some m.cls := findClass_of_methodNamed B.named
  rw [ho] at hown
  have S0 : CallFix p m c b maxL s av.toArray gws own := ⟨B.exec, B.bytes, hml, hown, fun w h => hts w (List.mem_cons_of_mem _ h)⟩
  have hw : qW D L tys (qA L ad σ s.heap.size) s.heap s ad σ s.heap [] := ⟨hV, fun k i h => Or.inl ⟨k, i, h, rfl⟩, va_S.rf, hK, fun q h => Or.inr h⟩
  have hl := lv_entry av (n := maxL) hlen
  rw [lg_entry_eq]
  generalize (lg_sl av ++ List.replicate (maxL - (lg_sl av).length) Slot.unset).toArray = ls at hl ⊢
  exact body p e s m below meth c _ _ r0 S0 hf hw (fun hd hw' h => W.vret S0.1 S0.2.1 B.returns (fun t ht hW => ⟨⟨_, rfl, hf.trans h.symm, ⟨by rw [ht]; exact hw'.1, hw'.2.1, va_K.moved hW.alike hw'.2.2.2.1⟩⟩, hw'.2.2.1.F ht⟩) hw'.2.2.1.2.2 hd (hlocks := B.notSynchronized)) ls hl
end QC

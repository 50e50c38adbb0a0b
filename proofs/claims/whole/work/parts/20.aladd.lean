/-! A LIST GROWS BY ONE: the first of all (ten places are made), or in its ten places -/
theorem ksame_m : Cond.sameField "java/util/ArrayList" "java/util/AbstractList" "modCount" "I" ∈ gws := kt1 160 rfl rfl
def qKr (l : Launch) (y : MethodName) (b : ByteArray) (maxL : Nat) (ret : Option FieldType) (fr lo mc ms B0 e0 : Nat) (D : va_G) (Y : Nat → ClassId) (av : List Value) (ws : va_W) (wsf : (Nat → Nat) → va_W) : Prop :=
  ∀ sz : Nat, Met l y (qWs y b maxL ret) (qRx fr lo mc ms) (va_Pc av (lPre B0 e0 D Y ws sz)) (va_Qr (S := Nat → Nat) (fun _ => True) (fun a ra t => ra = a 0 ∧ lB D Y (va_A ws sz) wsf a t) (va_A ws sz)) mc ms (va_A ws sz)
def qKv (l : Launch) (y : MethodName) (b : ByteArray) (maxL : Nat) (ret : Option FieldType) (fr lo mc ms B0 e0 : Nat) (D : va_G) (Y : Nat → ClassId) (av : List Value) (ws : va_W) (wsf : (Nat → Nat) → va_W) : Prop :=
  ∀ sz : Nat, Met l y (qWs y b maxL ret) (qRx fr lo mc ms) (va_Pc av (lPre B0 e0 D Y ws sz)) (va_Qv (fun _ : Nat → Nat => True) (lB D Y (va_A ws sz) wsf) (va_A ws sz)) mc ms (va_A ws sz)
def qKi (l : Launch) (y : MethodName) (b : ByteArray) (maxL : Nat) (ret : Option FieldType) (fr lo mc ms B0 e0 : Nat) (D : va_G) (Y : Nat → ClassId) (av : List Value) (ws : va_W) (wsf : (Nat → Nat) → va_W) : Prop :=
  ∀ sz : Nat, Met l y (qWs y b maxL ret) (qRx fr lo mc ms) (va_Pc av (lPre B0 e0 D Y ws sz)) (va_Qi (S := Nat → Nat) (fun _ _ => True) (lB D Y (va_A ws sz) wsf) (va_A ws sz)) mc ms (va_A ws sz)
theorem qyJx_growI : qY yJx4a65c_grow_92f84 RJx4a65c cJx4a65c_grow_92f84 4 (some (.array (.object "java/lang/Object"))) 1 := ⟨⟨kw_545, kp_4, kw_7, kw_546⟩, rfl, by decide, by decide, by decide +kernel⟩
theorem qyJx_grow : qY yJx4a65c_grow_d5877 RJx4a65c cJx4a65c_grow_d5877 1 (some (.array (.object "java/lang/Object"))) 0 := ⟨⟨kw_541, kp_3, kw_7, kw_542⟩, rfl, by decide, by decide, by decide +kernel⟩
theorem qyJx_add3 : qY yJx4a65c_add_72be8 RJx4a65c cJx4a65c_add_72be8 4 none 3 := ⟨⟨kw_537, kp_2, kw_7, kw_538⟩, rfl, by decide, by decide, by decide +kernel⟩
theorem qyJx_add : qY yJx4a65c_add_9ea2d RJx4a65c cJx4a65c_add_9ea2d 2 (some .boolean) 1 := ⟨⟨kw_532, kw_533, kw_7, kw_534⟩, rfl, by decide, by decide, by decide +kernel⟩
section LG
variable {p : Program} {l : Launch} {e : Env} {R : Room} {s : State} {m : MethodId} {args : Array Value} {below : List Frame} {meth : Method} {c : Code} {H : Heap} {locs : List Loc} {cells slots : Nat} {Q : State → Prop}
variable {cc : ByteArray} {pc nL : Nat} {ls : Array Slot} {rest : List Value} {own : String}
variable {D : va_G} {Y : Nat → ClassId} {A : Nat → Prop} {ws : va_W} {B0 e0 : Nat}
theorem l_ofr {y : MethodName} {b : ByteArray} {maxL fr lo mc ms : Nat} {av : List Value} {wsf : (Nat → Nat) → va_W} (hy : plainName y.cls = true) (hlen : (lg_sl av).length ≤ maxL) (own : String) (ho : y.cls = own)
    (body : ∀ (p : Program) (e : Env) (s : State) (m : MethodId) (below : List Frame) (meth : Method) (c : Code) (A : Nat → Prop) (Q : State → Prop), CallFix p m c b maxL s av.toArray gws own → lX B0 e0 D Y A s ws s.heap [] →
      (∀ {pc : Nat} {ls : Array Slot} {H : Heap} {locs : List Loc} (a : Nat → Nat), decode b pc = .ok (.areturn, 1) → lX B0 e0 D Y A s (wsf a) H locs → W p l e (qRx fr lo mc ms) s m av.toArray below meth c H locs mc ms Q (F0 m pc ls [.ref (a 0)])) →
      ∀ ls : Array Slot, lv_has ls maxL (lv_args 0 av) → W p l e (qRx fr lo mc ms) s m av.toArray below meth c s.heap [] 0 0 Q (F0 m 0 ls [])) : qKr l y b maxL (some (.array (.object "java/lang/Object"))) fr lo mc ms B0 e0 D Y av ws wsf := by
  intro sz
  refine Met.ofW (cc := b) (maxL := maxL) (ret := (some (.array (.object "java/lang/Object")))) hy rfl ?_
  intro p e s m args below meth c s₁ B hml hv
  obtain ⟨rfl, hsz, hP, hK, hD0, hE⟩ := hv
  subst hsz
  have hts := atoms_spec (ws := qWs y b maxL (some (.array (.object "java/lang/Object")))) B.pre
  have hown : s.vm.findClass y.cls = some m.cls := findClass_of_methodNamed B.named
  rw [ho] at hown
  have S0 : CallFix p m c b maxL s av.toArray gws own := ⟨B.exec, B.bytes, hml, hown, fun w h => hts w (List.mem_cons_of_mem _ h)⟩
  have hAB : ∀ q, va_A ws s.heap.size q → B0 ≤ q := fun q h => by
    rcases h with ⟨k, e9, h⟩ | h
    · exact hD0.2 k (q, e9) h
    · exact Nat.le_trans hE.2.2.2.2.2 h
  have hx : lX B0 e0 D Y (va_A ws s.heap.size) s ws s.heap [] := ⟨hP, (hD0.weaken (B := fun _ => True) (fun _ _ _ _ => trivial)).self, va_S.rf, hK, fun q h => Or.inr h, hAB, hE⟩
  have hl := lv_entry av (n := maxL) hlen
  rw [lg_entry_eq]
  generalize (lg_sl av ++ List.replicate (maxL - (lg_sl av).length) Slot.unset).toArray = ls at hl ⊢
  exact body p e s m below meth c _ _ S0 hx (fun a hd hx' => W.aret S0.1 S0.2.1 B.returns (Or.inr ⟨_, rfl⟩) (Or.inr ⟨_, rfl⟩) (fun t ht hW => ⟨⟨a, a 0, rfl, trivial, rfl, by rw [ht]; exact hx'.1, va_K.moved hW.alike hx'.2.2.2.1, hx'.2.1⟩, hx'.2.2.1.F ht⟩) hx'.2.2.1.2.2 hd (hlocks := B.notSynchronized)) ls hl
theorem l_ofv {y : MethodName} {b : ByteArray} {maxL fr lo mc ms : Nat} {av : List Value} {wsf : (Nat → Nat) → va_W} (hy : plainName y.cls = true) (hlen : (lg_sl av).length ≤ maxL) (own : String) (ho : y.cls = own)
    (body : ∀ (p : Program) (e : Env) (s : State) (m : MethodId) (below : List Frame) (meth : Method) (c : Code) (A : Nat → Prop) (Q : State → Prop), CallFix p m c b maxL s av.toArray gws own → lX B0 e0 D Y A s ws s.heap [] →
      (∀ {pc : Nat} {ls : Array Slot} {H : Heap} {locs : List Loc} (a : Nat → Nat), decode b pc = .ok (.return_, 1) → lX B0 e0 D Y A s (wsf a) H locs → W p l e (qRx fr lo mc ms) s m av.toArray below meth c H locs mc ms Q (F0 m pc ls [])) →
      ∀ ls : Array Slot, lv_has ls maxL (lv_args 0 av) → W p l e (qRx fr lo mc ms) s m av.toArray below meth c s.heap [] 0 0 Q (F0 m 0 ls [])) : qKv l y b maxL none fr lo mc ms B0 e0 D Y av ws wsf := by
  intro sz
  refine Met.ofW (cc := b) (maxL := maxL) (ret := none) hy rfl ?_
  intro p e s m args below meth c s₁ B hml hv
  obtain ⟨rfl, hsz, hP, hK, hD0, hE⟩ := hv
  subst hsz
  have hts := atoms_spec (ws := qWs y b maxL none) B.pre
  have hown : s.vm.findClass y.cls = some m.cls := findClass_of_methodNamed B.named
  rw [ho] at hown
  have S0 : CallFix p m c b maxL s av.toArray gws own := ⟨B.exec, B.bytes, hml, hown, fun w h => hts w (List.mem_cons_of_mem _ h)⟩
  have hAB : ∀ q, va_A ws s.heap.size q → B0 ≤ q := fun q h => by
    rcases h with ⟨k, e9, h⟩ | h
    · exact hD0.2 k (q, e9) h
    · exact Nat.le_trans hE.2.2.2.2.2 h
  have hx : lX B0 e0 D Y (va_A ws s.heap.size) s ws s.heap [] := ⟨hP, (hD0.weaken (B := fun _ => True) (fun _ _ _ _ => trivial)).self, va_S.rf, hK, fun q h => Or.inr h, hAB, hE⟩
  have hl := lv_entry av (n := maxL) hlen
  rw [lg_entry_eq]
  generalize (lg_sl av ++ List.replicate (maxL - (lg_sl av).length) Slot.unset).toArray = ls at hl ⊢
  exact body p e s m below meth c _ _ S0 hx (fun a hd hx' => W.vret S0.1 S0.2.1 B.returns (fun t ht hW => ⟨⟨a, rfl, trivial, by rw [ht]; exact hx'.1, va_K.moved hW.alike hx'.2.2.2.1, hx'.2.1⟩, hx'.2.2.1.F ht⟩) hx'.2.2.1.2.2 hd (hlocks := B.notSynchronized)) ls hl
theorem l_ofz {y : MethodName} {b : ByteArray} {maxL fr lo mc ms : Nat} {av : List Value} {wsf : (Nat → Nat) → va_W} (hy : plainName y.cls = true) (hlen : (lg_sl av).length ≤ maxL) (own : String) (ho : y.cls = own)
    (body : ∀ (p : Program) (e : Env) (s : State) (m : MethodId) (below : List Frame) (meth : Method) (c : Code) (A : Nat → Prop) (Q : State → Prop), CallFix p m c b maxL s av.toArray gws own → lX B0 e0 D Y A s ws s.heap [] →
      (∀ {pc : Nat} {ls : Array Slot} {H : Heap} {locs : List Loc} (a : Nat → Nat), decode b pc = .ok (.ireturn, 1) → lX B0 e0 D Y A s (wsf a) H locs → W p l e (qRx fr lo mc ms) s m av.toArray below meth c H locs mc ms Q (F0 m pc ls [.int 1])) →
      ∀ ls : Array Slot, lv_has ls maxL (lv_args 0 av) → W p l e (qRx fr lo mc ms) s m av.toArray below meth c s.heap [] 0 0 Q (F0 m 0 ls [])) : qKi l y b maxL (some .boolean) fr lo mc ms B0 e0 D Y av ws wsf := by
  intro sz
  refine Met.ofW (cc := b) (maxL := maxL) (ret := (some .boolean)) hy rfl ?_
  intro p e s m args below meth c s₁ B hml hv
  obtain ⟨rfl, hsz, hP, hK, hD0, hE⟩ := hv
  subst hsz
  have hts := atoms_spec (ws := qWs y b maxL (some .boolean)) B.pre
  have hown : s.vm.findClass y.cls = some m.cls := findClass_of_methodNamed B.named
  rw [ho] at hown
  have S0 : CallFix p m c b maxL s av.toArray gws own := ⟨B.exec, B.bytes, hml, hown, fun w h => hts w (List.mem_cons_of_mem _ h)⟩
  have hAB : ∀ q, va_A ws s.heap.size q → B0 ≤ q := fun q h => by
    rcases h with ⟨k, e9, h⟩ | h
    · exact hD0.2 k (q, e9) h
    · exact Nat.le_trans hE.2.2.2.2.2 h
  have hx : lX B0 e0 D Y (va_A ws s.heap.size) s ws s.heap [] := ⟨hP, (hD0.weaken (B := fun _ => True) (fun _ _ _ _ => trivial)).self, va_S.rf, hK, fun q h => Or.inr h, hAB, hE⟩
  have hl := lv_entry av (n := maxL) hlen
  rw [lg_entry_eq]
  generalize (lg_sl av ++ List.replicate (maxL - (lg_sl av).length) Slot.unset).toArray = ls at hl ⊢
  exact body p e s m below meth c _ _ S0 hx (fun a hd hx' => W.zret S0.1 S0.2.1 B.returns rfl (fun t ht hW => ⟨⟨1, a, rfl, trivial, by rw [ht]; exact hx'.1, va_K.moved hW.alike hx'.2.2.2.1, hx'.2.1⟩, hx'.2.2.1.F ht⟩) hx'.2.2.1.2.2 hd (hlocks := B.notSynchronized)) ls hl
theorem l_callVr (S0 : CallFix p m c cc nL s args gws own) (hx : lX B0 e0 D Y A s ws H locs) {y : MethodName} {C : String} {b2 : ByteArray} {maxL2 fr2 lo2 mc ms n b ci : Nat} {ret2 : Option FieldType} {fs : List Value} {As : List Value} {wc wr : va_W} {wsf : (Nat → Nat) → va_W} (isC isR : List Nat)
    (hM : qKr l y b2 maxL2 ret2 fr2 lo2 mc ms B0 e0 D Y (.ref b :: As) wc wsf) (hy : qY y C b2 maxL2 ret2 n) {idx : Nat} (hl : Cond.methodLink own idx y ∈ gws) (hR : fr2 + 1 ≤ R.frames ∧ 8 + (maxL2 + 11) + lo2 ≤ R.locals) (q0 : Nat) (he : ws[q0]? = some (b, .inr (ci, fs))) {q : vw_C} (hc : vwCl[ci]? = some q) (hq : q.1 = C) (hn : As.length = n) (hC : isC.map (fun i => ws[i]?) = wc.map some) (hRr : isR.map (fun i => ws[i]?) = wr.map some) (hnC : va_nd isC = true) (hnR : va_nd isR = true) (hdis : ∀ i ∈ isR, i ∉ isC)
    (hl2 : ls.size = nL) (hcat : (rest.map fun v => v.category).sum ≤ 8) (hdg : decode cc pc = .ok (.invokevirtual idx, 3)) (hroom : cells + mc ≤ R.cells ∧ slots + ms ≤ R.slots) {st0 : List Value} (hst : st0 = As.reverse ++ .ref b :: rest)
    (kk : ∀ (a : Nat → Nat) (H1 : Heap) (locs1 : List Loc), lX B0 e0 D Y A s (wr ++ wsf a) H1 locs1 → W p l e R s m args below meth c H1 locs1 (cells + mc) (slots + ms) Q (F0 m (pc + 3) ls (.ref (a 0) :: rest))) : W p l e R s m args below meth c H locs cells slots Q (F0 m pc ls st0) := by
  obtain ⟨hP, hD, hS, hK, hA, hAB, hE⟩ := hx
  subst hq
  have hPc : va_P D vwCl wc H := hP.by (fun k => isC.getD k 0) (fun k q hk => by
    have h1 : (isC.map (fun i => ws[i]?))[k]? = some (some q) := by rw [hC, List.getElem?_map, hk]; rfl
    rw [List.getElem?_map] at h1
    cases hi : isC[k]? with
    | none => rw [hi] at h1; cases h1
    | some i =>
      rw [hi] at h1
      rw [List.getD_eq_getElem?_getD, hi]
      exact Option.some.inj h1)
  have hDc := hD.sub (ws' := wc) isC hnC hC
  have hF := va_free (wc := wc) hD hS hA isC hC
  refine va_callr (va_runV (As := As) (rest := rest) S0 (hM H.size) (cwV n S0.2.2.2.2 (gws_V hy hl) rfl rfl rfl hy.2 hR) ⟨l_blind, va_recv hK hP hc he, fun U hU hW => ⟨rfl, by rw [hU], by rw [hU]; exact hPc, va_K.moved hW.alike hK, hDc.weaken (fun _ _ _ h => hAB _ h), by rw [hU]; exact hE.warm hW hS.1 (fun q hq hn => hS.2.1 q hq (fun ha => hn (hAB q ha)))⟩⟩ rfl hn hl2 hst (lv_room hcat) hdg hroom) hS (fun q _ h => hF q h) hF (fun u ra t H1 locs1 ht hvm _ hB hz hk hS => ?_)
  obtain ⟨hra, hB⟩ := hB
  subst hra
  obtain ⟨hP1, hK1, hD1⟩ := hB
  rw [ht] at hP1
  obtain ⟨hP2, hD2⟩ := va_join (wr := wr) (w1 := wsf u) hP hD isC isR hC hRr hnR hdis hk hF hP1 hD1
  exact kk u H1 locs1 ⟨hP2, hD2, hS, hK, hA, hAB, hE⟩
theorem l_callVv (S0 : CallFix p m c cc nL s args gws own) (hx : lX B0 e0 D Y A s ws H locs) {y : MethodName} {C : String} {b2 : ByteArray} {maxL2 fr2 lo2 mc ms n b ci : Nat} {ret2 : Option FieldType} {fs : List Value} {As : List Value} {wc wr : va_W} {wsf : (Nat → Nat) → va_W} (isC isR : List Nat)
    (hM : qKv l y b2 maxL2 ret2 fr2 lo2 mc ms B0 e0 D Y (.ref b :: As) wc wsf) (hy : qY y C b2 maxL2 ret2 n) {idx : Nat} (hl : Cond.methodLink own idx y ∈ gws) (hR : fr2 + 1 ≤ R.frames ∧ 8 + (maxL2 + 11) + lo2 ≤ R.locals) (q0 : Nat) (he : ws[q0]? = some (b, .inr (ci, fs))) {q : vw_C} (hc : vwCl[ci]? = some q) (hq : q.1 = C) (hn : As.length = n) (hC : isC.map (fun i => ws[i]?) = wc.map some) (hRr : isR.map (fun i => ws[i]?) = wr.map some) (hnC : va_nd isC = true) (hnR : va_nd isR = true) (hdis : ∀ i ∈ isR, i ∉ isC)
    (hl2 : ls.size = nL) (hcat : (rest.map fun v => v.category).sum ≤ 8) (hdg : decode cc pc = .ok (.invokevirtual idx, 3)) (hroom : cells + mc ≤ R.cells ∧ slots + ms ≤ R.slots) {st0 : List Value} (hst : st0 = As.reverse ++ .ref b :: rest)
    (kk : ∀ (a : Nat → Nat) (H1 : Heap) (locs1 : List Loc), lX B0 e0 D Y A s (wr ++ wsf a) H1 locs1 → W p l e R s m args below meth c H1 locs1 (cells + mc) (slots + ms) Q (F0 m (pc + 3) ls rest)) : W p l e R s m args below meth c H locs cells slots Q (F0 m pc ls st0) := by
  obtain ⟨hP, hD, hS, hK, hA, hAB, hE⟩ := hx
  subst hq
  have hPc : va_P D vwCl wc H := hP.by (fun k => isC.getD k 0) (fun k q hk => by
    have h1 : (isC.map (fun i => ws[i]?))[k]? = some (some q) := by rw [hC, List.getElem?_map, hk]; rfl
    rw [List.getElem?_map] at h1
    cases hi : isC[k]? with
    | none => rw [hi] at h1; cases h1
    | some i =>
      rw [hi] at h1
      rw [List.getD_eq_getElem?_getD, hi]
      exact Option.some.inj h1)
  have hDc := hD.sub (ws' := wc) isC hnC hC
  have hF := va_free (wc := wc) hD hS hA isC hC
  refine va_callv (va_runV (As := As) (rest := rest) S0 (hM H.size) (cwV n S0.2.2.2.2 (gws_V hy hl) rfl rfl rfl hy.2 hR) ⟨l_blind, va_recv hK hP hc he, fun U hU hW => ⟨rfl, by rw [hU], by rw [hU]; exact hPc, va_K.moved hW.alike hK, hDc.weaken (fun _ _ _ h => hAB _ h), by rw [hU]; exact hE.warm hW hS.1 (fun q hq hn => hS.2.1 q hq (fun ha => hn (hAB q ha)))⟩⟩ rfl hn hl2 hst (lv_room hcat) hdg hroom) hS (fun q _ h => hF q h) hF (fun u t H1 locs1 ht hvm _ hB hz hk hS => ?_)
  obtain ⟨hP1, hK1, hD1⟩ := hB
  rw [ht] at hP1
  obtain ⟨hP2, hD2⟩ := va_join (wr := wr) (w1 := wsf u) hP hD isC isR hC hRr hnR hdis hk hF hP1 hD1
  exact kk u H1 locs1 ⟨hP2, hD2, hS, hK, hA, hAB, hE⟩
theorem l_callVi (S0 : CallFix p m c cc nL s args gws own) (hx : lX B0 e0 D Y A s ws H locs) {y : MethodName} {C : String} {b2 : ByteArray} {maxL2 fr2 lo2 mc ms n b ci : Nat} {ret2 : Option FieldType} {fs : List Value} {As : List Value} {wc wr : va_W} {wsf : (Nat → Nat) → va_W} (isC isR : List Nat)
    (hM : qKi l y b2 maxL2 ret2 fr2 lo2 mc ms B0 e0 D Y (.ref b :: As) wc wsf) (hy : qY y C b2 maxL2 ret2 n) {idx : Nat} (hl : Cond.methodLink own idx y ∈ gws) (hR : fr2 + 1 ≤ R.frames ∧ 8 + (maxL2 + 11) + lo2 ≤ R.locals) (q0 : Nat) (he : ws[q0]? = some (b, .inr (ci, fs))) {q : vw_C} (hc : vwCl[ci]? = some q) (hq : q.1 = C) (hn : As.length = n) (hC : isC.map (fun i => ws[i]?) = wc.map some) (hRr : isR.map (fun i => ws[i]?) = wr.map some) (hnC : va_nd isC = true) (hnR : va_nd isR = true) (hdis : ∀ i ∈ isR, i ∉ isC)
    (hl2 : ls.size = nL) (hcat : (rest.map fun v => v.category).sum ≤ 8) (hdg : decode cc pc = .ok (.invokevirtual idx, 3)) (hroom : cells + mc ≤ R.cells ∧ slots + ms ≤ R.slots) {st0 : List Value} (hst : st0 = As.reverse ++ .ref b :: rest)
    (kk : ∀ (a : Nat → Nat) (r : Int32) (H1 : Heap) (locs1 : List Loc), lX B0 e0 D Y A s (wr ++ wsf a) H1 locs1 → W p l e R s m args below meth c H1 locs1 (cells + mc) (slots + ms) Q (F0 m (pc + 3) ls (.int r :: rest))) : W p l e R s m args below meth c H locs cells slots Q (F0 m pc ls st0) := by
  obtain ⟨hP, hD, hS, hK, hA, hAB, hE⟩ := hx
  subst hq
  have hPc : va_P D vwCl wc H := hP.by (fun k => isC.getD k 0) (fun k q hk => by
    have h1 : (isC.map (fun i => ws[i]?))[k]? = some (some q) := by rw [hC, List.getElem?_map, hk]; rfl
    rw [List.getElem?_map] at h1
    cases hi : isC[k]? with
    | none => rw [hi] at h1; cases h1
    | some i =>
      rw [hi] at h1
      rw [List.getD_eq_getElem?_getD, hi]
      exact Option.some.inj h1)
  have hDc := hD.sub (ws' := wc) isC hnC hC
  have hF := va_free (wc := wc) hD hS hA isC hC
  refine va_calli (va_runV (As := As) (rest := rest) S0 (hM H.size) (cwV n S0.2.2.2.2 (gws_V hy hl) rfl rfl rfl hy.2 hR) ⟨l_blind, va_recv hK hP hc he, fun U hU hW => ⟨rfl, by rw [hU], by rw [hU]; exact hPc, va_K.moved hW.alike hK, hDc.weaken (fun _ _ _ h => hAB _ h), by rw [hU]; exact hE.warm hW hS.1 (fun q hq hn => hS.2.1 q hq (fun ha => hn (hAB q ha)))⟩⟩ rfl hn hl2 hst (lv_room hcat) hdg hroom) hS (fun q _ h => hF q h) hF (fun r u t H1 locs1 ht hvm _ hB hz hk hS => ?_)
  obtain ⟨hP1, hK1, hD1⟩ := hB
  rw [ht] at hP1
  obtain ⟨hP2, hD2⟩ := va_join (wr := wr) (w1 := wsf u) hP hD isC isR hC hRr hnR hdis hk hF hP1 hD1
  exact kk u r H1 locs1 ⟨hP2, hD2, hS, hK, hA, hAB, hE⟩
theorem l_putN (S0 : CallFix p m c cc nL s args gws own) (hx : lX B0 e0 D Y A s ws H locs) {C : String} {T : u_T} {N ci a : Nat} (q0 : Nat) {fs : List Value} (he : ws[q0]? = some (a, .inr (ci, fs))) (hc : vwCl[ci]? = some (C, T, N)) (hin : ∀ w ∈ u_ws C T N, w ∈ gws) (ty0 : Nat → FieldType) (hty : ∀ k, k < N → parseFieldDescriptor (T k).2.2.1 = some (ty0 k)) (hnm : ∀ a, a < N → ∀ b, b < N → a ≠ b → (T a).2.1 ≠ (T b).2.1) (sl : Nat) (hk : sl < N)
    {idx : Nat} (hl : Cond.fieldLink own idx (T sl).1 (T sl).2.1 (T sl).2.2.1 ∈ gws) (hfin : (T sl).2.2.2 = false) {ty : FieldType} {v : Value} (hd : parseFieldDescriptor (T sl).2.2.1 = some ty) (hn : narrow ty v = v) (hfit : fits ty v = true) (hlen : sl < fs.length) (hdg : decode cc pc = .ok (.putfield idx, 3))
    (kk : ∀ (H1 : Heap) (locs1 : List Loc), lX B0 e0 D Y A s (ws.set q0 (a, .inr (ci, fs.set sl v))) H1 locs1 → W p l e R s m args below meth c H1 locs1 cells slots Q (F0 m (pc + 3) ls rest)) : W p l e R s m args below meth c H locs cells slots Q (F0 m pc ls (v :: .ref a :: rest)) := by
  obtain ⟨hP, hD, hS, hK, hA, hAB, hE⟩ := hx
  exact va_put S0.1 S0.2.1 S0.2.2.2.2 hin ty0 hty hnm S0.2.2.2.1 hK hP hD hS q0 he hc sl hk (S0.2.2.2.2 _ hl) (fun _ h => h) hfin hd hn hfit hlen hdg (fun H1 locs1 hP hD hS => kk H1 locs1 ⟨hP, hD, hS, hK, hA, hAB, hE⟩)
theorem l_len0 (S0 : CallFix p m c cc nL s args gws own) (hx : lX B0 e0 D Y A s ws H locs) (hdg : decode cc pc = .ok (.arraylength, 1)) (kk : W p l e R s m args below meth c H locs cells slots Q (F0 m (pc + 1) ls (.int 0 :: rest))) : W p l e R s m args below meth c H locs cells slots Q (F0 m pc ls (.ref e0 :: rest)) := by
  obtain ⟨hP, hD, hS, hK, hA, hAB, hE⟩ := hx
  obtain ⟨-, -, -, ⟨ce, c1, c2, c3, c4⟩, h5, -⟩ := hE
  refine W.alen (n := 0) S0.1 S0.2.1 (cell := ce) ?_ c2 (by rw [c4]; rfl) rfl rfl hdg kk
  rw [hS.2.1 e0 (Array.getElem?_eq_some_iff.mp c1).1 (fun h => h5 (hAB e0 h))]
  exact c1
theorem l_len (S0 : CallFix p m c cc nL s args gws own) (hx : lX B0 e0 D Y A s ws H locs) {a t0 : Nat} (q0 : Nat) {x : vp_A} (he : ws[q0]? = some (a, .inl (Y t0, x))) {ty : FieldType} (ht : (qT Y)[t0]? = some (Y t0, ty)) (hdg : decode cc pc = .ok (.arraylength, 1)) (kk : W p l e R s m args below meth c H locs cells slots Q (F0 m (pc + 1) ls (.int (nI x.1) :: rest))) : W p l e R s m args below meth c H locs cells slots Q (F0 m pc ls (.ref a :: rest)) :=
  va_alen S0.1 S0.2.1 hx.2.2.2.1 hx.1 q0 t0 he ht rfl hdg kk
theorem l_aastO (S0 : CallFix p m c cc nL s args gws own) (hx : lX B0 e0 D Y A s ws H locs) {a n v ci : Nat} (q0 qk : Nat) {r : vw_C} {vs : List Value} {f : Nat → Option Nat} (he : ws[q0]? = some (a, .inl (Y 4, n, .inr (.inr (.inr (.inr f)))))) (hca : r.1 ∈ oas) (hv : ws[qk]? = some (v, .inr (ci, vs))) (hc : vwCl[ci]? = some r) {i : Int32} (hin : vp_in i n) (hdg : decode cc pc = .ok (.aastore, 1))
    (kk : ∀ (H1 : Heap) (locs1 : List Loc), lX B0 e0 D Y A s (ws.set q0 (a, .inl (Y 4, n, .inr (.inr (.inr (.inr (va_up f i.toNatClampNeg (some v)))))))) H1 locs1 → W p l e R s m args below meth c H1 locs1 cells slots Q (F0 m (pc + 1) ls rest)) : W p l e R s m args below meth c H locs cells slots Q (F0 m pc ls (.ref v :: .int i :: .ref a :: rest)) := by
  obtain ⟨hP, hD, hS, hK, hA, hAB, hE⟩ := hx
  exact va_astqO S0.1 S0.2.1 hK hP hD hS q0 4 qk ci he rfl (hE.1.2 _ hca) hv hc hin hdg (fun H1 locs1 hP hD hS => kk H1 locs1 ⟨hP, hD, hS, hK, hA, hAB, hE⟩)
end LG
set_option maxRecDepth 100000 in
theorem kJx_growI (l : Launch) (D : va_G) (Y : Nat → ClassId) (B0 e0 h0 : Nat) (x n : Int32) : qKr l yJx4a65c_grow_92f84 cJx4a65c_grow_92f84 4 (some (.array (.object "java/lang/Object"))) 1 21 1 10 B0 e0 D Y [.ref h0, .int 1] [(h0, .inr (0, [.int x, .ref e0, .int n]))] (fun a => [(h0, .inr (0, [.int x, .ref (a 0), .int n])), (a 0, .inl (Y 4, 10, .inr (.inr (.inr (.inr (fun _ => none))))))]) := by
  refine l_ofr (by decide) (Nat.le_of_ble_eq_true rfl) "java/util/ArrayList" rfl (fun p e s m below meth c A Q S0 hx hret ls hl => ?_)
  replace hl : lv_has ls 4 [(0, .ref h0), (1, .int 1)] := hl
  refine lv_aload_n S0.1 S0.2.1 dJx4a65c_grow_92f84_0 rfl (lv_at hl 0 rfl) ?_
  refine l_get S0 hx (C := RJx4a65c) (T := TJx4a65c) (N := 3) 0 rfl rfl inJx4a65c 1 (by decide) kw_156 rfl dJx4a65c_grow_92f84_1 ?_
  refine l_len0 S0 hx dJx4a65c_grow_92f84_4 ?_
  refine lv_istore_n (lv' := [(2, .int 0), (0, .ref h0), (1, .int 1)]) S0.1 S0.2.1 dJx4a65c_grow_92f84_5 rfl hl (by decide) rfl (fun ls hl => ?_)
  refine lv_iload_n S0.1 S0.2.1 dJx4a65c_grow_92f84_6 rfl (lv_at hl 0 rfl) ?_
  refine lv_if_gt (tgt := 20) S0.1 S0.2.1 dJx4a65c_grow_92f84_7 (by decide) (fun c1 => absurd c1 (by decide)) (fun c1 => ?_)
  refine lv_aload_n S0.1 S0.2.1 dJx4a65c_grow_92f84_10 rfl (lv_at hl 1 rfl) ?_
  refine l_get S0 hx (C := RJx4a65c) (T := TJx4a65c) (N := 3) 0 rfl rfl inJx4a65c 1 (by decide) kw_156 rfl dJx4a65c_grow_92f84_11 ?_
  refine va_gets S0.1 S0.2.1 (hx.2.2.2.2.2.2.2.2.1.narrow hx.2.2.2.2.2.1) hx.2.2.1 S0.2.2.2.1 (S0.2.2.2.2 _ kw_154) (fun _ h => h) dJx4a65c_grow_92f84_14 ?_
  refine lv_acmp_eq (rx := some e0) (ry := some e0) (tgt := 45) S0.1 S0.2.1 dJx4a65c_grow_92f84_17 (by decide) (fun c2 => ?_) (fun c2 => absurd rfl c2)
  refine lv_aload_n S0.1 S0.2.1 dJx4a65c_grow_92f84_45 rfl (lv_at hl 1 rfl) ?_
  refine lv_bipush (v := 10) S0.1 S0.2.1 dJx4a65c_grow_92f84_46 (by decide) ?_
  refine lv_iload_n S0.1 S0.2.1 dJx4a65c_grow_92f84_48 rfl (lv_at hl 2 rfl) ?_
  refine q_mmax S0 (β := Int32) (kf := fun v => some v) (r0 := 10) kw_590 hl.1 ⟨Nat.le_of_ble_eq_true rfl, Nat.le_of_ble_eq_true rfl⟩ (Nat.le_of_ble_eq_true rfl) ⟨Nat.le_of_ble_eq_true rfl, Nat.le_of_ble_eq_true rfl⟩ dJx4a65c_grow_92f84_49 (by decide) (fun v hv => ?_)
  cases hv
  refine l_newq (t0 := 4) S0 hx (N' := 10) (C := "java/lang/Object") (by decide) rfl kw_591 (by decide) (by decide) (by decide) ⟨Nat.le_of_ble_eq_true rfl, Nat.le_of_ble_eq_true rfl⟩ dJx4a65c_grow_92f84_52 (fun q1 H hx => ?_)
  replace hx : lX B0 e0 D Y A s [(h0, .inr (0, [.int x, .ref e0, .int n])), (q1, .inl (Y 4, 10, .inr (.inr (.inr (.inr (fun _ => none))))))] _ _ := hx
  refine lv_dup_x1 S0.1 S0.2.1 dJx4a65c_grow_92f84_55 rfl rfl ?_
  refine l_putN S0 hx (C := RJx4a65c) (T := TJx4a65c) (N := 3) 0 rfl rfl inJx4a65c tyJx4a65c tyJx4a65c_ok nmJx4a65c 1 (by decide) kw_156 rfl (ty := .array (.object "java/lang/Object")) (tyJx4a65c_ok 1 (by decide)) rfl rfl (Nat.le_of_ble_eq_true rfl) dJx4a65c_grow_92f84_56 (fun H locs hx => ?_)
  replace hx : lX B0 e0 D Y A s [(h0, .inr (0, [.int x, .ref q1, .int n])), (q1, .inl (Y 4, 10, .inr (.inr (.inr (.inr (fun _ => none))))))] _ _ := hx
  exact hret (fun _ => q1) dJx4a65c_grow_92f84_59 hx
set_option maxRecDepth 100000 in
theorem kJx_grow (l : Launch) (D : va_G) (Y : Nat → ClassId) (B0 e0 h0 : Nat) (x : Int32) : qKr l yJx4a65c_grow_d5877 cJx4a65c_grow_d5877 1 (some (.array (.object "java/lang/Object"))) 2 44 1 10 B0 e0 D Y [.ref h0] [(h0, .inr (0, [.int x, .ref e0, .int 0]))] (fun a => [(h0, .inr (0, [.int x, .ref (a 0), .int 0])), (a 0, .inl (Y 4, 10, .inr (.inr (.inr (.inr (fun _ => none))))))]) := by
  refine l_ofr (by decide) (Nat.le_of_ble_eq_true rfl) "java/util/ArrayList" rfl (fun p e s m below meth c A Q S0 hx hret ls hl => ?_)
  replace hl : lv_has ls 1 [(0, .ref h0)] := hl
  refine lv_aload_n S0.1 S0.2.1 dJx4a65c_grow_d5877_0 rfl (lv_at hl 0 rfl) ?_
  refine lv_aload_n S0.1 S0.2.1 dJx4a65c_grow_d5877_1 rfl (lv_at hl 0 rfl) ?_
  refine l_get S0 hx (C := RJx4a65c) (T := TJx4a65c) (N := 3) 0 rfl rfl inJx4a65c 2 (by decide) kw_157 rfl dJx4a65c_grow_d5877_2 ?_
  refine lv_iconst (v := 1) S0.1 S0.2.1 dJx4a65c_grow_d5877_5 (by decide) ?_
  refine lv_iadd S0.1 S0.2.1 dJx4a65c_grow_d5877_6 (lv_topi (fun y9 e9 => ?_))
  replace e9 : y9 = 1 := e9.trans (by decide)
  subst e9
  refine l_callVr S0 hx (As := [.int 1]) (rest := []) (wr := []) [0] [] (kJx_growI l D Y B0 e0 h0 x 0) qyJx_growI kw_543 ⟨Nat.le_of_ble_eq_true rfl, Nat.le_of_ble_eq_true rfl⟩ 0 rfl rfl rfl rfl rfl rfl rfl rfl (by decide) hl.1 (Nat.le_of_ble_eq_true rfl) dJx4a65c_grow_d5877_7 ⟨Nat.le_of_ble_eq_true rfl, Nat.le_of_ble_eq_true rfl⟩ rfl (fun a1 H locs hx => ?_)
  exact hret a1 dJx4a65c_grow_d5877_10 hx
section LH
variable {p : Program} {l : Launch} {e : Env} {R : Room} {s : State} {m : MethodId} {args : Array Value} {below : List Frame} {meth : Method} {c : Code} {H : Heap} {locs : List Loc} {cells slots : Nat} {Q : State → Prop}
variable {cc : ByteArray} {pc nL : Nat} {ls : Array Slot} {rest : List Value} {own : String}
variable {D : va_G} {Y : Nat → ClassId} {A : Nat → Prop} {ws : va_W} {B0 e0 : Nat}
theorem l_getM (S0 : CallFix p m c cc nL s args gws own) (hx : lX B0 e0 D Y A s ws H locs) {a : Nat} (q0 : Nat) {fs : List Value} (he : ws[q0]? = some (a, .inr (0, fs))) {idx : Nat} (hl : Cond.fieldLink own idx "java/util/ArrayList" "modCount" "I" ∈ gws) {v : Value} (hv : fs[0]? = some v) (hdg : decode cc pc = .ok (.getfield idx, 3))
    (kk : W p l e R s m args below meth c H locs cells slots Q (F0 m (pc + 3) ls (v :: rest))) : W p l e R s m args below meth c H locs cells slots Q (F0 m pc ls (.ref a :: rest)) :=
  va_get (C := RJx4a65c) (T := TJx4a65c) (N := 3) S0.1 S0.2.1 S0.2.2.2.2 inJx4a65c S0.2.2.2.1 hx.2.2.2.1 hx.1 q0 he rfl 0 (by decide) (ref := "java/util/ArrayList") (S0.2.2.2.2 _ hl) (u_same (S0.2.2.2.2 _ ksame_m)) hv hdg kk
theorem l_putM (S0 : CallFix p m c cc nL s args gws own) (hx : lX B0 e0 D Y A s ws H locs) {a : Nat} (q0 : Nat) {fs : List Value} (he : ws[q0]? = some (a, .inr (0, fs))) {idx : Nat} (hl : Cond.fieldLink own idx "java/util/ArrayList" "modCount" "I" ∈ gws) {x : Int32} (hlen : 0 < fs.length) (hdg : decode cc pc = .ok (.putfield idx, 3))
    (kk : ∀ (H1 : Heap) (locs1 : List Loc), lX B0 e0 D Y A s (ws.set q0 (a, .inr (0, fs.set 0 (.int x)))) H1 locs1 → W p l e R s m args below meth c H1 locs1 cells slots Q (F0 m (pc + 3) ls rest)) : W p l e R s m args below meth c H locs cells slots Q (F0 m pc ls (.int x :: .ref a :: rest)) := by
  obtain ⟨hP, hD, hS, hK, hA, hAB, hE⟩ := hx
  exact va_put (C := RJx4a65c) (T := TJx4a65c) (N := 3) S0.1 S0.2.1 S0.2.2.2.2 inJx4a65c tyJx4a65c tyJx4a65c_ok nmJx4a65c S0.2.2.2.1 hK hP hD hS q0 he rfl 0 (by decide) (ref := "java/util/ArrayList") (S0.2.2.2.2 _ hl) (u_same (S0.2.2.2.2 _ ksame_m)) rfl (ty := .int) rfl rfl rfl hlen hdg (fun H1 locs1 hP hD hS => kk H1 locs1 ⟨hP, hD, hS, hK, hA, hAB, hE⟩)
theorem l_perm (hx : lX B0 e0 D Y A s ws H locs) {ws' : va_W} (is : List Nat) (hn : va_nd is = true) (hs : is.map (fun i => ws[i]?) = ws'.map some) : lX B0 e0 D Y A s ws' H locs := by
  obtain ⟨hP, hD, hS, hK, hA, hAB, hE⟩ := hx
  refine ⟨hP.by (fun k => is.getD k 0) (fun k q hk => ?_), hD.sub is hn hs, hS, hK, hA, hAB, hE⟩
  have h1 : (is.map (fun i => ws[i]?))[k]? = some (some q) := by rw [hs, List.getElem?_map, hk]; rfl
  rw [List.getElem?_map] at h1
  cases hi : is[k]? with
  | none => rw [hi] at h1; cases h1
  | some i =>
    rw [hi] at h1
    rw [List.getD_eq_getElem?_getD, hi]
    exact Option.some.inj h1
end LH
/-- the list's cell, the new one's, the array's -/
def wsL (h0 v : Nat) (ci : Nat) (vs : List Value) (x z : Int32) (Y : Nat → ClassId) (a : Nat) (f : Nat → Option Nat) : va_W := [(h0, .inr (0, [.int x, .ref a, .int z])), (v, .inr (ci, vs)), (a, .inl (Y 4, 10, .inr (.inr (.inr (.inr f)))))]
set_option maxRecDepth 100000 in
theorem kJx_add3A (l : Launch) (D : va_G) (Y : Nat → ClassId) (B0 e0 h0 : Nat) (x : Int32) (v ci : Nat) (vs : List Value) {r : vw_C} (hc : vwCl[ci]? = some r) (hr : r.1 ∈ oas) : qKv l yJx4a65c_add_72be8 cJx4a65c_add_72be8 4 none 3 64 1 10 B0 e0 D Y [.ref h0, .ref v, .ref e0, .int 0] [(h0, .inr (0, [.int x, .ref e0, .int 0])), (v, .inr (ci, vs))] (fun a => wsL h0 v ci vs x 1 Y (a 0) (va_up (fun _ => none) 0 (some v))) := by
  refine l_ofv (by decide) (Nat.le_of_ble_eq_true rfl) "java/util/ArrayList" rfl (fun p e s m below meth c A Q S0 hx hret ls hl => ?_)
  replace hl : lv_has ls 4 [(0, .ref h0), (1, .ref v), (2, .ref e0), (3, .int 0)] := hl
  refine lv_iload_n S0.1 S0.2.1 dJx4a65c_add_72be8_0 rfl (lv_at hl 3 rfl) ?_
  refine lv_aload_n S0.1 S0.2.1 dJx4a65c_add_72be8_1 rfl (lv_at hl 2 rfl) ?_
  refine l_len0 S0 hx dJx4a65c_add_72be8_2 ?_
  refine lv_icmp_ne (tgt := 11) S0.1 S0.2.1 dJx4a65c_add_72be8_3 (by decide) (fun c1 => absurd rfl c1) (fun c1 => ?_)
  refine lv_aload_n S0.1 S0.2.1 dJx4a65c_add_72be8_6 rfl (lv_at hl 0 rfl) ?_
  refine l_callVr S0 hx (As := []) (rest := []) (wr := [(v, .inr (ci, vs))]) [0] [1] (kJx_grow l D Y B0 e0 h0 x) qyJx_grow kw_539 ⟨Nat.le_of_ble_eq_true rfl, Nat.le_of_ble_eq_true rfl⟩ 0 rfl rfl rfl rfl rfl rfl rfl rfl (by decide) hl.1 (Nat.le_of_ble_eq_true rfl) dJx4a65c_add_72be8_7 ⟨Nat.le_of_ble_eq_true rfl, Nat.le_of_ble_eq_true rfl⟩ rfl (fun a1 H locs hx => ?_)
  replace hx : lX B0 e0 D Y A s [(v, .inr (ci, vs)), (h0, .inr (0, [.int x, .ref (a1 0), .int 0])), (a1 0, .inl (Y 4, 10, .inr (.inr (.inr (.inr (fun _ => none))))))] _ _ := hx
  refine lv_astore_n (lv' := [(2, .ref (a1 0)), (0, .ref h0), (1, .ref v), (3, .int 0)]) S0.1 S0.2.1 dJx4a65c_add_72be8_10 rfl hl (by decide) rfl (fun ls hl => ?_)
  refine lv_aload_n S0.1 S0.2.1 dJx4a65c_add_72be8_11 rfl (lv_at hl 0 rfl) ?_
  refine lv_iload_n S0.1 S0.2.1 dJx4a65c_add_72be8_12 rfl (lv_at hl 3 rfl) ?_
  refine lv_aload_n S0.1 S0.2.1 dJx4a65c_add_72be8_13 rfl (lv_at hl 2 rfl) ?_
  refine l_aastO S0 hx 2 0 (n := 10) (f := fun _ => none) rfl hr rfl hc (i := 0) (vp_in_iff.mpr (by decide)) dJx4a65c_add_72be8_14 (fun H locs hx => ?_)
  replace hx : lX B0 e0 D Y A s [(v, .inr (ci, vs)), (h0, .inr (0, [.int x, .ref (a1 0), .int 0])), (a1 0, .inl (Y 4, 10, .inr (.inr (.inr (.inr (va_up (fun _ => none) 0 (some v)))))))] _ _ := hx
  refine lv_aload_n S0.1 S0.2.1 dJx4a65c_add_72be8_15 rfl (lv_at hl 1 rfl) ?_
  refine lv_iload_n S0.1 S0.2.1 dJx4a65c_add_72be8_16 rfl (lv_at hl 3 rfl) ?_
  refine lv_iconst (v := 1) S0.1 S0.2.1 dJx4a65c_add_72be8_17 (by decide) ?_
  refine lv_iadd S0.1 S0.2.1 dJx4a65c_add_72be8_18 (lv_topi (fun y9 e9 => ?_))
  replace e9 : y9 = 1 := e9.trans (by decide)
  subst e9
  refine l_putN S0 hx (C := RJx4a65c) (T := TJx4a65c) (N := 3) 1 rfl rfl inJx4a65c tyJx4a65c tyJx4a65c_ok nmJx4a65c 2 (by decide) kw_157 rfl (ty := .int) rfl rfl rfl (Nat.le_of_ble_eq_true rfl) dJx4a65c_add_72be8_19 (fun H locs hx => ?_)
  replace hx : lX B0 e0 D Y A s [(v, .inr (ci, vs)), (h0, .inr (0, [.int x, .ref (a1 0), .int 1])), (a1 0, .inl (Y 4, 10, .inr (.inr (.inr (.inr (va_up (fun _ => none) 0 (some v)))))))] _ _ := hx
  exact hret a1 dJx4a65c_add_72be8_22 (l_perm hx [1, 0, 2] rfl rfl)
set_option maxRecDepth 100000 in
theorem kJx_add3B (l : Launch) (D : va_G) (Y : Nat → ClassId) (B0 e0 h0 : Nat) (x n : Int32) (hn : vp_in n 10) (v ci a0 : Nat) (f : Nat → Option Nat) (vs : List Value) {r : vw_C} (hc : vwCl[ci]? = some r) (hr : r.1 ∈ oas) : qKv l yJx4a65c_add_72be8 cJx4a65c_add_72be8 4 none 3 64 0 0 B0 e0 D Y [.ref h0, .ref v, .ref a0, .int n] (wsL h0 v ci vs x n Y a0 f) (fun _ => wsL h0 v ci vs x (n + 1) Y a0 (va_up f n.toNatClampNeg (some v))) := by
  refine l_ofv (by decide) (Nat.le_of_ble_eq_true rfl) "java/util/ArrayList" rfl (fun p e s m below meth c A Q S0 hx hret ls hl => ?_)
  replace hl : lv_has ls 4 [(0, .ref h0), (1, .ref v), (2, .ref a0), (3, .int n)] := hl
  replace hx : lX B0 e0 D Y A s [(h0, .inr (0, [.int x, .ref a0, .int n])), (v, .inr (ci, vs)), (a0, .inl (Y 4, 10, .inr (.inr (.inr (.inr f)))))] _ _ := hx
  refine lv_iload_n S0.1 S0.2.1 dJx4a65c_add_72be8_0 rfl (lv_at hl 3 rfl) ?_
  refine lv_aload_n S0.1 S0.2.1 dJx4a65c_add_72be8_1 rfl (lv_at hl 2 rfl) ?_
  refine l_len S0 hx (t0 := 4) 2 rfl rfl dJx4a65c_add_72be8_2 ?_
  refine lv_icmp_ne (tgt := 11) S0.1 S0.2.1 dJx4a65c_add_72be8_3 (by decide) (fun c1 => ?_) (fun c1 => absurd (vp_in_iff.mp (show vp_in (nI 10) 10 from c1 ▸ hn)) (by decide))
  refine lv_aload_n S0.1 S0.2.1 dJx4a65c_add_72be8_11 rfl (lv_at hl 2 rfl) ?_
  refine lv_iload_n S0.1 S0.2.1 dJx4a65c_add_72be8_12 rfl (lv_at hl 3 rfl) ?_
  refine lv_aload_n S0.1 S0.2.1 dJx4a65c_add_72be8_13 rfl (lv_at hl 1 rfl) ?_
  refine l_aastO S0 hx 2 1 (n := 10) (f := f) rfl hr rfl hc (i := n) hn dJx4a65c_add_72be8_14 (fun H locs hx => ?_)
  refine lv_aload_n S0.1 S0.2.1 dJx4a65c_add_72be8_15 rfl (lv_at hl 0 rfl) ?_
  refine lv_iload_n S0.1 S0.2.1 dJx4a65c_add_72be8_16 rfl (lv_at hl 3 rfl) ?_
  refine lv_iconst (v := 1) S0.1 S0.2.1 dJx4a65c_add_72be8_17 (by decide) ?_
  refine lv_iadd S0.1 S0.2.1 dJx4a65c_add_72be8_18 ?_
  refine l_putN S0 hx (C := RJx4a65c) (T := TJx4a65c) (N := 3) 0 rfl rfl inJx4a65c tyJx4a65c tyJx4a65c_ok nmJx4a65c 2 (by decide) kw_157 rfl (ty := .int) rfl rfl rfl (Nat.le_of_ble_eq_true rfl) dJx4a65c_add_72be8_19 (fun H locs hx => ?_)
  exact hret (fun _ => 0) dJx4a65c_add_72be8_22 hx
set_option maxRecDepth 100000 in
theorem kJx_addA (l : Launch) (D : va_G) (Y : Nat → ClassId) (B0 e0 h0 : Nat) (x : Int32) (v ci : Nat) (vs : List Value) {r : vw_C} (hc : vwCl[ci]? = some r) (hr : r.1 ∈ oas) : qKi l yJx4a65c_add_9ea2d cJx4a65c_add_9ea2d 2 (some .boolean) 4 90 1 10 B0 e0 D Y [.ref h0, .ref v] [(h0, .inr (0, [.int x, .ref e0, .int 0])), (v, .inr (ci, vs))] (fun a => wsL h0 v ci vs (x + 1) 1 Y (a 0) (va_up (fun _ => none) 0 (some v))) := by
  refine l_ofz (by decide) (Nat.le_of_ble_eq_true rfl) "java/util/ArrayList" rfl (fun p e s m below meth c A Q S0 hx hret ls hl => ?_)
  replace hl : lv_has ls 2 [(0, .ref h0), (1, .ref v)] := hl
  refine lv_aload_n S0.1 S0.2.1 dJx4a65c_add_9ea2d_0 rfl (lv_at hl 0 rfl) ?_
  refine lv_dup S0.1 S0.2.1 dJx4a65c_add_9ea2d_1 rfl ?_
  refine l_getM S0 hx 0 rfl kw_159 rfl dJx4a65c_add_9ea2d_2 ?_
  refine lv_iconst (v := 1) S0.1 S0.2.1 dJx4a65c_add_9ea2d_5 (by decide) ?_
  refine lv_iadd S0.1 S0.2.1 dJx4a65c_add_9ea2d_6 ?_
  refine l_putM S0 hx 0 rfl kw_159 (Nat.le_of_ble_eq_true rfl) dJx4a65c_add_9ea2d_7 (fun H locs hx => ?_)
  replace hx : lX B0 e0 D Y A s [(h0, .inr (0, [.int (x + 1), .ref e0, .int 0])), (v, .inr (ci, vs))] _ _ := hx
  refine lv_aload_n S0.1 S0.2.1 dJx4a65c_add_9ea2d_10 rfl (lv_at hl 0 rfl) ?_
  refine lv_aload_n S0.1 S0.2.1 dJx4a65c_add_9ea2d_11 rfl (lv_at hl 1 rfl) ?_
  refine lv_aload_n S0.1 S0.2.1 dJx4a65c_add_9ea2d_12 rfl (lv_at hl 0 rfl) ?_
  refine l_get S0 hx (C := RJx4a65c) (T := TJx4a65c) (N := 3) 0 rfl rfl inJx4a65c 1 (by decide) kw_156 rfl dJx4a65c_add_9ea2d_13 ?_
  refine lv_aload_n S0.1 S0.2.1 dJx4a65c_add_9ea2d_16 rfl (lv_at hl 0 rfl) ?_
  refine l_get S0 hx (C := RJx4a65c) (T := TJx4a65c) (N := 3) 0 rfl rfl inJx4a65c 2 (by decide) kw_157 rfl dJx4a65c_add_9ea2d_17 ?_
  refine l_callVv S0 hx (As := [.ref v, .ref e0, .int 0]) (rest := []) (wr := []) [0, 1] [] (kJx_add3A l D Y B0 e0 h0 (x + 1) v ci vs hc hr) qyJx_add3 kw_535 ⟨Nat.le_of_ble_eq_true rfl, Nat.le_of_ble_eq_true rfl⟩ 0 rfl rfl rfl rfl rfl rfl rfl rfl (by decide) hl.1 (Nat.le_of_ble_eq_true rfl) dJx4a65c_add_9ea2d_20 ⟨Nat.le_of_ble_eq_true rfl, Nat.le_of_ble_eq_true rfl⟩ rfl (fun a1 H locs hx => ?_)
  refine lv_iconst (v := 1) S0.1 S0.2.1 dJx4a65c_add_9ea2d_23 (by decide) ?_
  exact hret a1 dJx4a65c_add_9ea2d_24 hx
set_option maxRecDepth 100000 in
theorem kJx_addB (l : Launch) (D : va_G) (Y : Nat → ClassId) (B0 e0 h0 : Nat) (x n : Int32) (hn : vp_in n 10) (v ci a0 : Nat) (f : Nat → Option Nat) (vs : List Value) {r : vw_C} (hc : vwCl[ci]? = some r) (hr : r.1 ∈ oas) : qKi l yJx4a65c_add_9ea2d cJx4a65c_add_9ea2d 2 (some .boolean) 4 90 0 0 B0 e0 D Y [.ref h0, .ref v] (wsL h0 v ci vs x n Y a0 f) (fun _ => wsL h0 v ci vs (x + 1) (n + 1) Y a0 (va_up f n.toNatClampNeg (some v))) := by
  refine l_ofz (by decide) (Nat.le_of_ble_eq_true rfl) "java/util/ArrayList" rfl (fun p e s m below meth c A Q S0 hx hret ls hl => ?_)
  replace hl : lv_has ls 2 [(0, .ref h0), (1, .ref v)] := hl
  replace hx : lX B0 e0 D Y A s [(h0, .inr (0, [.int x, .ref a0, .int n])), (v, .inr (ci, vs)), (a0, .inl (Y 4, 10, .inr (.inr (.inr (.inr f)))))] _ _ := hx
  refine lv_aload_n S0.1 S0.2.1 dJx4a65c_add_9ea2d_0 rfl (lv_at hl 0 rfl) ?_
  refine lv_dup S0.1 S0.2.1 dJx4a65c_add_9ea2d_1 rfl ?_
  refine l_getM S0 hx 0 rfl kw_159 rfl dJx4a65c_add_9ea2d_2 ?_
  refine lv_iconst (v := 1) S0.1 S0.2.1 dJx4a65c_add_9ea2d_5 (by decide) ?_
  refine lv_iadd S0.1 S0.2.1 dJx4a65c_add_9ea2d_6 ?_
  refine l_putM S0 hx 0 rfl kw_159 (Nat.le_of_ble_eq_true rfl) dJx4a65c_add_9ea2d_7 (fun H locs hx => ?_)
  replace hx : lX B0 e0 D Y A s (wsL h0 v ci vs (x + 1) n Y a0 f) _ _ := hx
  refine lv_aload_n S0.1 S0.2.1 dJx4a65c_add_9ea2d_10 rfl (lv_at hl 0 rfl) ?_
  refine lv_aload_n S0.1 S0.2.1 dJx4a65c_add_9ea2d_11 rfl (lv_at hl 1 rfl) ?_
  refine lv_aload_n S0.1 S0.2.1 dJx4a65c_add_9ea2d_12 rfl (lv_at hl 0 rfl) ?_
  refine l_get S0 hx (C := RJx4a65c) (T := TJx4a65c) (N := 3) 0 rfl rfl inJx4a65c 1 (by decide) kw_156 rfl dJx4a65c_add_9ea2d_13 ?_
  refine lv_aload_n S0.1 S0.2.1 dJx4a65c_add_9ea2d_16 rfl (lv_at hl 0 rfl) ?_
  refine l_get S0 hx (C := RJx4a65c) (T := TJx4a65c) (N := 3) 0 rfl rfl inJx4a65c 2 (by decide) kw_157 rfl dJx4a65c_add_9ea2d_17 ?_
  refine l_callVv S0 hx (As := [.ref v, .ref a0, .int n]) (rest := []) (wr := []) [0, 1, 2] [] (kJx_add3B l D Y B0 e0 h0 (x + 1) n hn v ci a0 f vs hc hr) qyJx_add3 kw_535 ⟨Nat.le_of_ble_eq_true rfl, Nat.le_of_ble_eq_true rfl⟩ 0 rfl rfl rfl rfl rfl rfl rfl rfl (by decide) hl.1 (Nat.le_of_ble_eq_true rfl) dJx4a65c_add_9ea2d_20 ⟨Nat.le_of_ble_eq_true rfl, Nat.le_of_ble_eq_true rfl⟩ rfl (fun a1 H locs hx => ?_)
  refine lv_iconst (v := 1) S0.1 S0.2.1 dJx4a65c_add_9ea2d_23 (by decide) ?_
  exact hret (fun _ => 0) dJx4a65c_add_9ea2d_24 hx

/-! MORE CALLS: static ones, ones that answer a reference; the JDK's small methods -/
def qCr (l : Launch) (y : MethodName) (b : ByteArray) (maxL : Nat) (ret : Option FieldType) (fr lo kr : Nat) (D : va_G) (L : qLay) (tys : List (ClassId × FieldType)) (ad : qAd) (av : List Value) (σ : qS) (fv : Option (Nat × qS)) : Prop :=
  ∀ (sz : Nat) (r0 : Nat × qS), fv = some r0 → Met l y (qWs y b maxL ret) (qRm fr lo) (va_Pc av (qPre D L tys ad σ sz)) (va_Qr (S := Nat × qS) (fun u => fv = some u) (fun u a t => a = ad kr u.1 ∧ qB D L tys (qA L ad σ sz) ad u.2 t) (qA L ad σ sz)) 0 0 (qA L ad σ sz)
def qYs (y : MethodName) (b : ByteArray) (maxL : Nat) (ret : Option FieldType) (n : Nat) : Prop :=
  (Cond.static y ∈ gws ∧ Cond.initialized y.cls ∈ gws ∧ Cond.code y b maxL ret ∈ gws) ∧ (y.cls ≠ "java/lang/invoke/MethodHandle" ∧ y.cls ≠ "java/lang/invoke/VarHandle" ∧ (parseMethodDescriptor y.desc).map (fun d => d.parameters.length) = some n)
section QC2
variable {p : Program} {l : Launch} {e : Env} {R : Room} {s : State} {m : MethodId} {args : Array Value} {below : List Frame} {meth : Method} {c : Code} {H : Heap} {locs : List Loc} {cells slots : Nat} {Q : State → Prop}
variable {cc : ByteArray} {pc nL : Nat} {ls : Array Slot} {rest : List Value} {own : String}
variable {D : va_G} {L : qLay} {tys : List (ClassId × FieldType)} {A : Nat → Prop} {H0 : Heap} {ad : qAd} {σ : qS} {β : Type} {r0 : β}
theorem q_CB {y : MethodName} {b2 : ByteArray} {maxL2 fr2 lo2 n : Nat} {ret2 : Option FieldType} (S0 : CallFix p m c cc nL s args gws own) (hy : qYs y b2 maxL2 ret2 n) {idx : Nat} (hl : Cond.methodLink own idx y ∈ gws) (hR : fr2 + 1 ≤ R.frames ∧ 8 + (maxL2 + 11) + lo2 ≤ R.locals) :
    CallB R s args own idx y b2 maxL2 ret2 (qWs y b2 maxL2 ret2) (qRm fr2 lo2) 0 0 n ∧ (Cond.static y).before args s = true :=
  ⟨callB_of n S0.2.2.2.2 (gws_good0 hy.1.2.2) rfl rfl rfl (S0.2.2.2.2 _ hy.1.2.1) (S0.2.2.2.2 _ hl) hy.2 hR, S0.2.2.2.2 _ hy.1.1⟩
theorem q_scalli (S0 : CallFix p m c cc nL s args gws own) (hw : qW D L tys A H0 s ad σ H locs) {y : MethodName} {b2 : ByteArray} {maxL2 fr2 lo2 n : Nat} {ret2 : Option FieldType} {As : List Value} {fv : Option (Int32 × qS)}
    (hM : qCi l y b2 maxL2 ret2 fr2 lo2 D L tys ad As σ fv) (hy : qYs y b2 maxL2 ret2 n) {idx : Nat} (hl : Cond.methodLink own idx y ∈ gws) (hR : fr2 + 1 ≤ R.frames ∧ 8 + (maxL2 + 11) + lo2 ≤ R.locals)
    (hn : As.length = n) (hl2 : ls.size = nL) (hcat : (rest.map fun v => v.category).sum ≤ 8) (hdg : decode cc pc = .ok (.invokestatic idx, 3)) (hroom : cells ≤ R.cells ∧ slots ≤ R.slots) {st0 : List Value} (hst : st0 = As.reverse ++ rest)
    {kf : Int32 → qS → Option β} (hf : bnd2 fv kf = some r0)
    (kk : ∀ (r : Int32) (σ' : qS) (H1 : Heap) (locs1 : List Loc), qW D L tys A H0 s ad σ' H1 locs1 → kf r σ' = some r0 → W p l e R s m args below meth c H1 locs1 cells slots Q (F0 m (pc + 3) ls (.int r :: rest))) : W p l e R s m args below meth c H locs cells slots Q (F0 m pc ls st0) := by
  obtain ⟨r1, σ1, h1, h2⟩ := bnd2_some hf
  refine va_calli (va_runS (As := As) (rest := rest) S0 (hM H.size _ h1) (q_CB S0 hy hl hR) ⟨q_blind, fun U hU hW => ⟨rfl, by rw [hU], by rw [hU]; exact hw.1, va_K.moved hW.alike hw.2.2.2.1⟩⟩ rfl hn hl2 hst (lv_room hcat) hdg hroom) hw.2.2.1 (fun q _ h => q_sub hw q h) (q_sub hw) (fun r u t H1 locs1 ht hvm hp hB hz hk hS => ?_)
  cases h1.symm.trans hp
  exact kk _ _ H1 locs1 (q_back hw ht hvm hB hS) h2
theorem q_scallv (S0 : CallFix p m c cc nL s args gws own) (hw : qW D L tys A H0 s ad σ H locs) {y : MethodName} {b2 : ByteArray} {maxL2 fr2 lo2 n : Nat} {ret2 : Option FieldType} {As : List Value} {fv : Option qS}
    (hM : qCv l y b2 maxL2 ret2 fr2 lo2 D L tys ad As σ fv) (hy : qYs y b2 maxL2 ret2 n) {idx : Nat} (hl : Cond.methodLink own idx y ∈ gws) (hR : fr2 + 1 ≤ R.frames ∧ 8 + (maxL2 + 11) + lo2 ≤ R.locals)
    (hn : As.length = n) (hl2 : ls.size = nL) (hcat : (rest.map fun v => v.category).sum ≤ 8) (hdg : decode cc pc = .ok (.invokestatic idx, 3)) (hroom : cells ≤ R.cells ∧ slots ≤ R.slots) {st0 : List Value} (hst : st0 = As.reverse ++ rest)
    {kf : qS → Option β} (hf : bnd fv kf = some r0)
    (kk : ∀ (σ' : qS) (H1 : Heap) (locs1 : List Loc), qW D L tys A H0 s ad σ' H1 locs1 → kf σ' = some r0 → W p l e R s m args below meth c H1 locs1 cells slots Q (F0 m (pc + 3) ls rest)) : W p l e R s m args below meth c H locs cells slots Q (F0 m pc ls st0) := by
  obtain ⟨σ1, h1, h2⟩ := bnd_some hf
  refine va_callv (va_runS (As := As) (rest := rest) S0 (hM H.size _ h1) (q_CB S0 hy hl hR) ⟨q_blind, fun U hU hW => ⟨rfl, by rw [hU], by rw [hU]; exact hw.1, va_K.moved hW.alike hw.2.2.2.1⟩⟩ rfl hn hl2 hst (lv_room hcat) hdg hroom) hw.2.2.1 (fun q _ h => q_sub hw q h) (q_sub hw) (fun u t H1 locs1 ht hvm hp hB hz hk hS => ?_)
  cases h1.symm.trans hp
  exact kk _ H1 locs1 (q_back hw ht hvm hB hS) h2
theorem q_callr (S0 : CallFix p m c cc nL s args gws own) (hw : qW D L tys A H0 s ad σ H locs) {y : MethodName} {C : String} {b2 : ByteArray} {maxL2 fr2 lo2 n kr : Nat} {ret2 : Option FieldType} {As : List Value} {fv : Option (Nat × qS)} {k i ci : Nat} {fs : List Value}
    (hM : qCr l y b2 maxL2 ret2 fr2 lo2 kr D L tys ad (.ref (ad k i) :: As) σ fv) (hy : qY y C b2 maxL2 ret2 n) {idx : Nat} (hl : Cond.methodLink own idx y ∈ gws) (hR : fr2 + 1 ≤ R.frames ∧ 8 + (maxL2 + 11) + lo2 ≤ R.locals) (hd : qd L σ k i) (he : qc L ad σ k i = .inr (ci, fs)) {q : vw_C} (hc : vwCl[ci]? = some q) (hq : q.1 = C)
    (hn : As.length = n) (hl2 : ls.size = nL) (hcat : (rest.map fun v => v.category).sum ≤ 8) (hdg : decode cc pc = .ok (.invokevirtual idx, 3)) (hroom : cells ≤ R.cells ∧ slots ≤ R.slots) {st0 : List Value} (hst : st0 = As.reverse ++ .ref (ad k i) :: rest)
    {kf : Nat → qS → Option β} (hf : bnd2 fv kf = some r0)
    (kk : ∀ (r : Nat) (σ' : qS) (H1 : Heap) (locs1 : List Loc), qW D L tys A H0 s ad σ' H1 locs1 → kf r σ' = some r0 → W p l e R s m args below meth c H1 locs1 cells slots Q (F0 m (pc + 3) ls (.ref (ad kr r) :: rest))) : W p l e R s m args below meth c H locs cells slots Q (F0 m pc ls st0) := by
  obtain ⟨r1, σ1, h1, h2⟩ := bnd2_some hf
  subst hq
  refine va_callr (va_runV (As := As) (rest := rest) S0 (hM H.size _ h1) (cwV n S0.2.2.2.2 (gws_V hy hl) rfl rfl rfl hy.2 hR) ⟨q_blind, va_recv hw.2.2.2.1 (hw.one hd he) hc (q0 := 0) rfl, fun U hU hW => ⟨rfl, by rw [hU], by rw [hU]; exact hw.1, va_K.moved hW.alike hw.2.2.2.1⟩⟩ rfl hn hl2 hst (lv_room hcat) hdg hroom) hw.2.2.1 (fun q _ h => q_sub hw q h) (q_sub hw) (fun u ra t H1 locs1 ht hvm hp hB hz hk hS => ?_)
  cases h1.symm.trans hp
  rw [hB.1]
  exact kk _ _ H1 locs1 (q_back hw ht hvm hB.2 hS) h2
theorem q_ofr {y : MethodName} {b : ByteArray} {maxL fr lo kr : Nat} {C : String} {av : List Value} {fv : Option (Nat × qS)} (hy : plainName y.cls = true) (hlen : (lg_sl av).length ≤ maxL) (own : String) (ho : y.cls = own)
    (body : ∀ (p : Program) (e : Env) (s : State) (m : MethodId) (below : List Frame) (meth : Method) (c : Code) (A : Nat → Prop) (Q : State → Prop) (r0 : Nat × qS), CallFix p m c b maxL s av.toArray gws own → fv = some r0 → qW D L tys A s.heap s ad σ s.heap [] →
      (∀ {pc : Nat} {ls : Array Slot} {H : Heap} {locs : List Loc} {v : Nat} {σ' : qS}, decode b pc = .ok (.areturn, 1) → qW D L tys A s.heap s ad σ' H locs → some (v, σ') = some r0 → W p l e (qRm fr lo) s m av.toArray below meth c H locs 0 0 Q (F0 m pc ls [.ref (ad kr v)])) →
      ∀ ls : Array Slot, lv_has ls maxL (lv_args 0 av) → W p l e (qRm fr lo) s m av.toArray below meth c s.heap [] 0 0 Q (F0 m 0 ls [])) : qCr l y b maxL (some (.object C)) fr lo kr D L tys ad av σ fv := by
  intro sz r0 hf
  refine Met.ofW (cc := b) (maxL := maxL) (ret := some (.object C)) hy rfl ?_
  intro p e s m args below meth c s₁ B hml hv
  obtain ⟨rfl, hsz, hV, hK⟩ := hv
  subst hsz
  have hts := atoms_spec (ws := qWs y b maxL (some (.object C))) B.pre
  have hown : s.vm.findClass y.cls = some m.cls := findClass_of_methodNamed B.named
  rw [ho] at hown
  have S0 : CallFix p m c b maxL s av.toArray gws own := ⟨B.exec, B.bytes, hml, hown, fun w h => hts w (List.mem_cons_of_mem _ h)⟩
  have hw : qW D L tys (qA L ad σ s.heap.size) s.heap s ad σ s.heap [] := ⟨hV, fun k i h => Or.inl ⟨k, i, h, rfl⟩, va_S.rf, hK, fun q h => Or.inr h⟩
  have hl := lv_entry av (n := maxL) hlen
  rw [lg_entry_eq]
  generalize (lg_sl av ++ List.replicate (maxL - (lg_sl av).length) Slot.unset).toArray = ls at hl ⊢
  exact body p e s m below meth c _ _ r0 S0 hf hw (fun hd hw' h => W.aret S0.1 S0.2.1 B.returns (Or.inl ⟨_, rfl⟩) (Or.inr ⟨_, rfl⟩) (fun t ht hW => ⟨⟨_, _, rfl, hf.trans h.symm, rfl, by rw [ht]; exact hw'.1, hw'.2.1, va_K.moved hW.alike hw'.2.2.2.1⟩, hw'.2.2.1.F ht⟩) hw'.2.2.1.2.2 hd (hlocks := B.notSynchronized)) ls hl
theorem q_aldn (S0 : CallFix p m c cc nL s args gws own) (hw : qW D L tys A H0 s ad σ H locs) {k i n t0 : Nat} (hd : qd L σ k i) {cA : ClassId} {C : String} {f : Nat → Option Nat} (he : qc L ad σ k i = .inl (cA, n, .inr (.inr (.inr (.inr f))))) (ht : tys[t0]? = some (cA, .object C)) {j : Int32} {g : Nat → Nat} (hg : ∀ x, f x = some (g x)) (hdg : decode cc pc = .ok (.aaload, 1)) {kf : Nat → Option β} (hf : inx n j (nm j.toNatClampNeg kf) = some r0)
    (kk : ∀ x, kf x = some r0 → W p l e R s m args below meth c H locs cells slots Q (F0 m (pc + 1) ls (.ref (g x) :: rest))) : W p l e R s m args below meth c H locs cells slots Q (F0 m pc ls (.int j :: .ref (ad k i) :: rest)) :=
  q_aldq S0 hw hd he ht (hg _) hdg hf (fun h => kk _ h)
theorem q_cast (S0 : CallFix p m c cc nL s args gws own) (hw : qW D L tys A H0 s ad σ H locs) {k i ci : Nat} {fs : List Value} (hd : qd L σ k i) (he : qc L ad σ k i = .inr (ci, fs)) {q : vw_C} (hc : vwCl[ci]? = some q) {idx : Nat} (hl : Cond.classLink own idx q.1 ∈ gws) (hdg : decode cc pc = .ok (.checkcast idx, 3))
    (kk : W p l e R s m args below meth c H locs cells slots Q (F0 m (pc + 3) ls (.ref (ad k i) :: rest))) : W p l e R s m args below meth c H locs cells slots Q (F0 m pc ls (.ref (ad k i) :: rest)) :=
  va_castS S0.1 S0.2.1 S0.2.2.2.1 (S0.2.2.2.2 _ hl) (hw.2.2.2.1.1 ci q hc).2 (va_recv hw.2.2.2.1 (hw.one hd he) hc (q0 := 0) rfl) hdg kk
theorem q_mmin (S0 : CallFix p m c cc nL s args gws own) {idx : Nat} (hl : Cond.methodLink own idx Lib.Math.min.name ∈ gws) (hz : ls.size = nL) (hR : 1 ≤ R.frames ∧ 21 ≤ R.locals) (hcat : (rest.map fun v => v.category).sum ≤ 8) (hroom : cells ≤ R.cells ∧ slots ≤ R.slots) {x y : Int32} (hdg : decode cc pc = .ok (.invokestatic idx, 3)) {kf : Int32 → Option β} (hf : nm (if y < x then y else x) kf = some r0)
    (kk : ∀ v, kf v = some r0 → W p l e R s m args below meth c H locs cells slots Q (F0 m (pc + 3) ls (.int v :: rest))) : W p l e R s m args below meth c H locs cells slots Q (F0 m pc ls (.int y :: .int x :: rest)) :=
  va_mmin S0.1 S0.2.1 (S0.2.2.1.trans hz.symm) S0.2.2.2.1 (S0.2.2.2.2 _ hl) (S0.2.2.2.2 _ kw_585) (S0.2.2.2.2 _ kw_21) (S0.2.2.2.2 _ kw_586) hR.1 (by omega) hroom.1 hroom.2 hdg (kk _ hf)
theorem q_mmax (S0 : CallFix p m c cc nL s args gws own) {idx : Nat} (hl : Cond.methodLink own idx Lib.Math.max.name ∈ gws) (hz : ls.size = nL) (hR : 1 ≤ R.frames ∧ 21 ≤ R.locals) (hcat : (rest.map fun v => v.category).sum ≤ 8) (hroom : cells ≤ R.cells ∧ slots ≤ R.slots) {x y : Int32} (hdg : decode cc pc = .ok (.invokestatic idx, 3)) {kf : Int32 → Option β} (hf : nm (if x < y then y else x) kf = some r0)
    (kk : ∀ v, kf v = some r0 → W p l e R s m args below meth c H locs cells slots Q (F0 m (pc + 3) ls (.int v :: rest))) : W p l e R s m args below meth c H locs cells slots Q (F0 m pc ls (.int y :: .int x :: rest)) :=
  va_mmax S0.1 S0.2.1 (S0.2.2.1.trans hz.symm) S0.2.2.2.1 (S0.2.2.2.2 _ hl) (S0.2.2.2.2 _ kw_551) (S0.2.2.2.2 _ kw_21) (S0.2.2.2.2 _ kw_552) hR.1 (by omega) hroom.1 hroom.2 hdg (kk _ hf)
end QC2
theorem inJx4a65c : ∀ w ∈ u_ws RJx4a65c TJx4a65c 3, w ∈ gws := by decide +kernel
theorem qsJ3_checkIndex : qYs yJ3_checkIndex_8e157 cJ3_checkIndex_8e157 3 (some .int) 3 := ⟨⟨kw_612, kw_24, kw_613⟩, by decide, by decide, by decide +kernel⟩
theorem qsJ15_checkIndex : qYs yJ15_checkIndex_7cf53 cJ15_checkIndex_7cf53 2 (some .int) 2 := ⟨⟨kw_609, kw_23, kw_610⟩, by decide, by decide, by decide +kernel⟩
theorem qyJx_size : qY yJx4a65c_size_8abf5 RJx4a65c cJx4a65c_size_8abf5 1 (some .int) 0 := ⟨⟨kw_424, kw_425, kw_7, kw_426⟩, rfl, by decide, by decide, by decide +kernel⟩
theorem qyJx_elementData : qY yJx4a65c_elementData_915e3 RJx4a65c cJx4a65c_elementData_915e3 2 (some (.object "java/lang/Object")) 1 := ⟨⟨kw_615, kw_616, kw_7, kw_617⟩, rfl, by decide, by decide, by decide +kernel⟩
theorem qyJx_get : qY yJx4a65c_get_915e3 RJx4a65c cJx4a65c_get_915e3 2 (some (.object "java/lang/Object")) 1 := ⟨⟨kw_605, kw_606, kw_7, kw_607⟩, rfl, by decide, by decide, by decide +kernel⟩
def fJx_chk (i n : Int32) (σ : qS) : Option (Int32 × qS) := if i < 0 then none else if i < n then some (i, σ) else none
set_option maxRecDepth 100000 in
theorem wJ3_chk (l : Launch) (D : va_G) (L : qLay) (tys : List (ClassId × FieldType)) (ad : qAd) (i n : Int32) (σ : qS) : qCi l yJ3_checkIndex_8e157 cJ3_checkIndex_8e157 3 (some .int) 0 0 D L tys ad [.int i, .int n, .null] σ (fJx_chk i n σ) := by
  refine q_ofi (by decide) (Nat.le_of_ble_eq_true rfl) "jdk/internal/util/Preconditions" rfl (fun p e s m below meth c A Q r0 S0 hf hw hret ls hl => ?_)
  replace hl : lv_has ls 3 [(0, .int i), (1, .int n), (2, .null)] := hl
  unfold fJx_chk at hf
  refine lv_iload_n S0.1 S0.2.1 dJ3_checkIndex_8e157_0 rfl (lv_at hl 0 rfl) ?_
  refine lv_if_lt (tgt := 9) S0.1 S0.2.1 dJ3_checkIndex_8e157_1 (by decide) (fun c1 => ?_) (fun c1 => ?_)
  · exact absurd (q_pos c1 hf) nofun
  · replace hf := q_neg c1 hf
    refine lv_iload_n S0.1 S0.2.1 dJ3_checkIndex_8e157_4 rfl (lv_at hl 0 rfl) ?_
    refine lv_iload_n S0.1 S0.2.1 dJ3_checkIndex_8e157_5 rfl (lv_at hl 1 rfl) ?_
    refine lv_icmp_lt (tgt := 16) S0.1 S0.2.1 dJ3_checkIndex_8e157_6 (by decide) (fun c2 => ?_) (fun c2 => ?_)
    · replace hf := q_pos c2 hf
      refine lv_iload_n S0.1 S0.2.1 dJ3_checkIndex_8e157_16 rfl (lv_at hl 0 rfl) ?_
      exact hret dJ3_checkIndex_8e157_17 hw hf
    · exact absurd (q_neg c2 hf) nofun
set_option maxRecDepth 100000 in
theorem wJ15_chk (l : Launch) (D : va_G) (L : qLay) (tys : List (ClassId × FieldType)) (ad : qAd) (i n : Int32) (σ : qS) : qCi l yJ15_checkIndex_7cf53 cJ15_checkIndex_7cf53 2 (some .int) 1 22 D L tys ad [.int i, .int n] σ (bnd2 (fJx_chk i n σ) fun r s => some (r, s)) := by
  refine q_ofi (by decide) (Nat.le_of_ble_eq_true rfl) "java/util/Objects" rfl (fun p e s m below meth c A Q r0 S0 hf hw hret ls hl => ?_)
  replace hl : lv_has ls 2 [(0, .int i), (1, .int n)] := hl
  refine lv_iload_n S0.1 S0.2.1 dJ15_checkIndex_7cf53_0 rfl (lv_at hl 0 rfl) ?_
  refine lv_iload_n S0.1 S0.2.1 dJ15_checkIndex_7cf53_1 rfl (lv_at hl 1 rfl) ?_
  refine lv_null S0.1 S0.2.1 dJ15_checkIndex_7cf53_2 ?_
  refine q_scalli S0 hw (As := [.int i, .int n, .null]) (rest := []) (wJ3_chk l D L tys ad i n σ) qsJ3_checkIndex kw_611 ⟨Nat.le_of_ble_eq_true rfl, Nat.le_of_ble_eq_true rfl⟩ rfl hl.1 (Nat.le_of_ble_eq_true rfl) dJ15_checkIndex_7cf53_3 ⟨Nat.le_refl _, Nat.le_refl _⟩ rfl hf (fun v1 s1 H locs hw hf => ?_)
  exact hret dJ15_checkIndex_7cf53_6 hw hf
set_option maxRecDepth 100000 in
theorem wJx_size (l : Launch) (D : va_G) (L : qLay) (tys : List (ClassId × FieldType)) (ad : qAd) (σ : qS) {k a : Nat} (hd : qd L σ k 0) {x n : Int32} (he : qc L ad σ k 0 = .inr (0, [.int x, .ref a, .int n])) : qCi l yJx4a65c_size_8abf5 cJx4a65c_size_8abf5 1 (some .int) 0 0 D L tys ad [.ref (ad k 0)] σ (some (n, σ)) := by
  refine q_ofi (by decide) (Nat.le_of_ble_eq_true rfl) "java/util/ArrayList" rfl (fun p e s m below meth c A Q r0 S0 hf hw hret ls hl => ?_)
  replace hl : lv_has ls 1 [(0, .ref (ad k 0))] := hl
  refine lv_aload_n S0.1 S0.2.1 dJx4a65c_size_8abf5_0 rfl (lv_at hl 0 rfl) ?_
  refine q_get S0 hw hd he rfl inJx4a65c 2 (by decide) kw_157 rfl dJx4a65c_size_8abf5_1 ?_
  exact hret dJx4a65c_size_8abf5_4 hw hf
theorem inx_in {β : Type} {n : Nat} {j : Int32} {k : Option β} {r : β} (h : vp_in j n) (hk : k = some r) : inx n j k = some r := by
  unfold inx
  rw [if_pos (vp_in_iff.mp h)]
  exact hk
set_option maxRecDepth 100000 in
theorem wJx_elem (l : Launch) (D : va_G) (L : qLay) (tys : List (ClassId × FieldType)) (ad : qAd) (σ : qS) {k k2 kr N t0 : Nat} (hd : qd L σ k 0) {x n : Int32} (he : qc L ad σ k 0 = .inr (0, [.int x, .ref (ad k2 0), .int n])) {cA : ClassId} {f : Nat → Option Nat} {j : Int32} (hd2 : qd L σ k2 0) (he2 : qc L ad σ k2 0 = .inl (cA, N, .inr (.inr (.inr (.inr f))))) (ht : tys[t0]? = some (cA, .object "java/lang/Object")) (hj : vp_in j N) (hg : f j.toNatClampNeg = some (ad kr j.toNatClampNeg)) :
    qCr l yJx4a65c_elementData_915e3 cJx4a65c_elementData_915e3 2 (some (.object "java/lang/Object")) 0 0 kr D L tys ad [.ref (ad k 0), .int j] σ (some (j.toNatClampNeg, σ)) := by
  refine q_ofr (by decide) (Nat.le_of_ble_eq_true rfl) "java/util/ArrayList" rfl (fun p e s m below meth c A Q r0 S0 hf hw hret ls hl => ?_)
  replace hl : lv_has ls 2 [(0, .ref (ad k 0)), (1, .int j)] := hl
  refine lv_aload_n S0.1 S0.2.1 dJx4a65c_elementData_915e3_0 rfl (lv_at hl 0 rfl) ?_
  refine q_get S0 hw hd he rfl inJx4a65c 1 (by decide) kw_156 rfl dJx4a65c_elementData_915e3_1 ?_
  refine lv_iload_n S0.1 S0.2.1 dJx4a65c_elementData_915e3_4 rfl (lv_at hl 1 rfl) ?_
  refine q_aldq S0 hw hd2 he2 ht hg dJx4a65c_elementData_915e3_5 (inx_in hj hf) (fun hf => ?_)
  exact hret dJx4a65c_elementData_915e3_6 hw hf
set_option maxRecDepth 100000 in
/-- get(j) of a list of n0 elements in an array of N places -/
theorem wJx_get (l : Launch) (D : va_G) (L : qLay) (tys : List (ClassId × FieldType)) (ad : qAd) (σ : qS) {k k2 kr N n0 t0 : Nat} (hd : qd L σ k 0) {x : Int32} (he : qc L ad σ k 0 = .inr (0, [.int x, .ref (ad k2 0), .int (nI n0)])) (hn : n0 < 2 ^ 31) (hN : n0 ≤ N) {cA : ClassId} {f : Nat → Option Nat} {j : Int32} (hd2 : 0 < n0 → qd L σ k2 0) (he2 : qc L ad σ k2 0 = .inl (cA, N, .inr (.inr (.inr (.inr f))))) (ht : tys[t0]? = some (cA, .object "java/lang/Object")) (hg : ∀ y, y < n0 → f y = some (ad kr y)) :
    qCr l yJx4a65c_get_915e3 cJx4a65c_get_915e3 2 (some (.object "java/lang/Object")) 2 43 kr D L tys ad [.ref (ad k 0), .int j] σ (inx n0 j (some (j.toNatClampNeg, σ))) := by
  refine q_ofr (by decide) (Nat.le_of_ble_eq_true rfl) "java/util/ArrayList" rfl (fun p e s m below meth c A Q r0 S0 hf hw hret ls hl => ?_)
  replace hl : lv_has ls 2 [(0, .ref (ad k 0)), (1, .int j)] := hl
  obtain ⟨hin, hf⟩ := inx_some hf
  have hi2 := vp_in_iff.mp hin
  have hlt : j.toNatClampNeg < n0 := Nat.not_le.mp fun q => hin (Or.inr q)
  have c1 : ¬ j < 0 := by
    rw [Int32.lt_iff_toInt_lt]
    exact fun h => absurd h (by rw [show (0 : Int32).toInt = 0 from rfl]; omega)
  have c2 : j < nI n0 := by
    rw [Int32.lt_iff_toInt_lt, nI_toInt hn]
    exact hi2.2
  have hch : fJx_chk j (nI n0) σ = some (j, σ) := by
    unfold fJx_chk
    rw [if_neg c1, if_pos c2]
  refine lv_iload_n S0.1 S0.2.1 dJx4a65c_get_915e3_0 rfl (lv_at hl 1 rfl) ?_
  refine lv_aload_n S0.1 S0.2.1 dJx4a65c_get_915e3_1 rfl (lv_at hl 0 rfl) ?_
  refine q_get S0 hw hd he rfl inJx4a65c 2 (by decide) kw_157 rfl dJx4a65c_get_915e3_2 ?_
  have e0 : r0 = (j.toNatClampNeg, σ) := (Option.some.inj hf).symm
  subst e0
  refine q_scalli S0 hw (As := [.int j, .int (nI n0)]) (rest := []) (kf := fun r s => some (r.toNatClampNeg, s)) (wJ15_chk l D L tys ad j (nI n0) σ) qsJ15_checkIndex kw_608 ⟨Nat.le_of_ble_eq_true rfl, Nat.le_of_ble_eq_true rfl⟩ rfl hl.1 (Nat.le_of_ble_eq_true rfl) dJx4a65c_get_915e3_5 ⟨Nat.le_refl _, Nat.le_refl _⟩ rfl (by rw [hch]; rfl) (fun v1 s1 H locs hw2 hf9 => ?_)
  have e1 := (Prod.mk.inj (Option.some.inj hf9)).2
  subst e1
  refine lv_pop S0.1 S0.2.1 dJx4a65c_get_915e3_8 rfl ?_
  refine lv_aload_n S0.1 S0.2.1 dJx4a65c_get_915e3_9 rfl (lv_at hl 0 rfl) ?_
  refine lv_iload_n S0.1 S0.2.1 dJx4a65c_get_915e3_10 rfl (lv_at hl 1 rfl) ?_
  have hjN : vp_in j N := vp_in_iff.mpr ⟨hi2.1, Int.lt_of_lt_of_le hi2.2 (Int.ofNat_le.mpr hN)⟩
  refine q_callr (R := qRm 2 43) (r0 := (j.toNatClampNeg, s1)) S0 hw2 (As := [.int j]) (rest := []) (kf := fun r s => some (r, s)) (wJx_elem l D L tys ad _ hd he (hd2 (by omega)) he2 ht hjN (hg _ hlt)) qyJx_elementData kw_614 ⟨Nat.le_of_ble_eq_true rfl, Nat.le_of_ble_eq_true rfl⟩ hd he rfl rfl rfl hl.1 (Nat.le_of_ble_eq_true rfl) dJx4a65c_get_915e3_11 ⟨Nat.le_refl _, Nat.le_refl _⟩ rfl rfl (fun v2 s2 H locs hw hf => ?_)
  exact hret dJx4a65c_get_915e3_14 hw hf
section QC3
variable {p : Program} {l : Launch} {e : Env} {R : Room} {s : State} {m : MethodId} {args : Array Value} {below : List Frame} {meth : Method} {c : Code} {H : Heap} {locs : List Loc} {cells slots : Nat} {Q : State → Prop}
variable {cc : ByteArray} {pc nL : Nat} {ls : Array Slot} {rest : List Value} {own : String}
variable {D : va_G} {L : qLay} {tys : List (ClassId × FieldType)} {A : Nat → Prop} {H0 : Heap} {ad : qAd} {σ : qS} {β : Type} {r0 : β}
/-- a list's size, a list's element: the state stays -/
theorem q_lsize (S0 : CallFix p m c cc nL s args gws own) (hw : qW D L tys A H0 s ad σ H locs) {k a : Nat} (hd : qd L σ k 0) {x n : Int32} (he : qc L ad σ k 0 = .inr (0, [.int x, .ref a, .int n])) {idx : Nat} (hl : Cond.methodLink own idx yJx4a65c_size_8abf5 ∈ gws) (hR : 1 ≤ R.frames ∧ 20 ≤ R.locals)
    (hl2 : ls.size = nL) (hcat : (rest.map fun v => v.category).sum ≤ 8) (hdg : decode cc pc = .ok (.invokevirtual idx, 3)) (hroom : cells ≤ R.cells ∧ slots ≤ R.slots) {kf : Int32 → Option β} (hf : nm n kf = some r0)
    (kk : ∀ (r : Int32) (H1 : Heap) (locs1 : List Loc), qW D L tys A H0 s ad σ H1 locs1 → kf r = some r0 → W p l e R s m args below meth c H1 locs1 cells slots Q (F0 m (pc + 3) ls (.int r :: rest))) : W p l e R s m args below meth c H locs cells slots Q (F0 m pc ls (.ref (ad k 0) :: rest)) := by
  refine q_calli S0 hw (As := []) (rest := rest) (kf := fun r s => some (r, s)) (r0 := (n, σ)) (wJx_size l D L tys ad σ hd he) qyJx_size hl ⟨hR.1, hR.2⟩ hd he rfl rfl rfl hl2 hcat hdg hroom rfl rfl (fun v1 s1 H1 locs1 hw1 hf1 => ?_)
  cases hf1
  exact kk _ H1 locs1 hw1 hf
theorem q_lget (S0 : CallFix p m c cc nL s args gws own) (hw : qW D L tys A H0 s ad σ H locs) {k k2 kr N n0 t0 : Nat} (hd : qd L σ k 0) {x : Int32} (he : qc L ad σ k 0 = .inr (0, [.int x, .ref (ad k2 0), .int (nI n0)])) (hn : n0 < 2 ^ 31) (hN : n0 ≤ N) {cA : ClassId} {f : Nat → Option Nat} {j : Int32} (hd2 : 0 < n0 → qd L σ k2 0) (he2 : qc L ad σ k2 0 = .inl (cA, N, .inr (.inr (.inr (.inr f))))) (ht : tys[t0]? = some (cA, .object "java/lang/Object")) (hg : ∀ y, y < n0 → f y = some (ad kr y))
    {idx : Nat} (hl : Cond.methodLink own idx yJx4a65c_get_915e3 ∈ gws) (hR : 3 ≤ R.frames ∧ 64 ≤ R.locals)
    (hl2 : ls.size = nL) (hcat : (rest.map fun v => v.category).sum ≤ 8) (hdg : decode cc pc = .ok (.invokevirtual idx, 3)) (hroom : cells ≤ R.cells ∧ slots ≤ R.slots) {kf : Nat → Option β} (hf : inx n0 j (nm j.toNatClampNeg kf) = some r0)
    (kk : ∀ (r : Nat) (H1 : Heap) (locs1 : List Loc), qW D L tys A H0 s ad σ H1 locs1 → kf r = some r0 → W p l e R s m args below meth c H1 locs1 cells slots Q (F0 m (pc + 3) ls (.ref (ad kr r) :: rest))) : W p l e R s m args below meth c H locs cells slots Q (F0 m pc ls (.int j :: .ref (ad k 0) :: rest)) := by
  obtain ⟨hin, hf⟩ := inx_some hf
  refine q_callr S0 hw (As := [.int j]) (rest := rest) (kf := fun r s => some (r, s)) (r0 := (j.toNatClampNeg, σ)) (wJx_get l D L tys ad σ hd he hn hN hd2 he2 ht hg) qyJx_get hl ⟨hR.1, hR.2⟩ hd he rfl rfl rfl hl2 hcat hdg hroom rfl (by rw [show inx n0 j (some (j.toNatClampNeg, σ)) = some (j.toNatClampNeg, σ) from inx_in hin rfl]; rfl) (fun v1 s1 H1 locs1 hw1 hf1 => ?_)
  cases hf1
  exact kk _ H1 locs1 hw1 hf
end QC3

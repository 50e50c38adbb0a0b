/-! WHAT THE LAW CALLS ON THE CLASS, IN ONE SHAPE; its wrappers, which catch -/
theorem vx_conseq {l : Launch} {y : MethodName} {ws : List Cond} {rm : Room} {Pc Pc' : Array Value → State → Prop} {Qc Qc' : Array Value → State → Outcome → State → Prop} {XC XC' : String → State → State → Prop} {mc ms : Nat} {free : Addr → Prop} (h : vx_Met l y ws rm Pc Qc XC mc ms free) (h1 : ∀ a s, Pc' a s → Pc a s) (h2 : ∀ a st oc t, Qc a st oc t → Qc' a st oc t) (h3 : ∀ E st t, XC E st t → XC' E st t) : vx_Met l y ws rm Pc' Qc' XC' mc ms free := by
  intro p e ha hc hk s m args below hf happ hP _
  obtain ⟨k, o, g1, g2, g3, hQ⟩ := h p e ha hc hk s m args below hf happ (h1 _ _ hP) trivial
  refine ⟨k, o, g1, g2, g3, ?_⟩
  rcases hQ with ⟨q1, q2⟩ | ⟨q, q1, E, ce, L, q2, q3⟩
  · exact Or.inl ⟨h2 _ _ _ _ q1, q2⟩
  · exact Or.inr ⟨q, q1, E, ce, L, h3 _ _ _ q2, q3⟩
def qUX {α : Type} (D : va_G) (Y : Nat → ClassId) (e0 : Nat) (ad : qAd) (A : Nat → Prop) (fv : Option (α × Nat × qS)) : String → State → State → Prop :=
  vx_X (S := Nat × qAd × qS) (fun u => (∃ r, fv = some (r, u.1, u.2.2)) ∧ qOk e0 u.2.1 u.2.2 ∧ u.2.1 0 0 = ad 0 0) (fun E u t => E = exN u.1 ∧ u.1 ≠ 0 ∧ qB D (cL Y) (qT Y) A u.2.1 u.2.2 t) A
def qUi (l : Launch) (y : MethodName) (b : ByteArray) (maxL : Nat) (ret : Option FieldType) (fr lo : Nat) (mcf msf : Int32 × Nat × qS → Nat) (B0 e0 : Nat) (D : va_G) (Y : Nat → ClassId) (ad : qAd) (av : List Value) (σ : qS) (fv : Option (Int32 × Nat × qS)) : Prop :=
  ∀ (sz : Nat) (r0 : Int32 × Nat × qS), fv = some r0 → qOk e0 ad σ → vx_Met l y (qWs y b maxL ret) (qRx fr lo (mcf r0) (msf r0)) (va_Pc av (qPy B0 e0 D Y ad σ sz)) (va_Qi (S := qAd × qS) (fun r u => fv = some (r, 0, u.2) ∧ qOk e0 u.1 u.2 ∧ u.1 0 0 = ad 0 0) (fun u t => qB D (cL Y) (qT Y) (qA (cL Y) ad σ sz) u.1 u.2 t) (qA (cL Y) ad σ sz)) (qUX D Y e0 ad (qA (cL Y) ad σ sz) fv) (mcf r0) (msf r0) (qA (cL Y) ad σ sz)
def qUv (l : Launch) (y : MethodName) (b : ByteArray) (maxL : Nat) (ret : Option FieldType) (fr lo : Nat) (mcf msf : Int32 × Nat × qS → Nat) (B0 e0 : Nat) (D : va_G) (Y : Nat → ClassId) (ad : qAd) (av : List Value) (σ : qS) (fv : Option (Int32 × Nat × qS)) : Prop :=
  ∀ (sz : Nat) (r0 : Int32 × Nat × qS), fv = some r0 → qOk e0 ad σ → vx_Met l y (qWs y b maxL ret) (qRx fr lo (mcf r0) (msf r0)) (va_Pc av (qPy B0 e0 D Y ad σ sz)) (va_Qv (S := qAd × qS) (fun u => (∃ r, fv = some (r, 0, u.2)) ∧ qOk e0 u.1 u.2 ∧ u.1 0 0 = ad 0 0) (fun u t => qB D (cL Y) (qT Y) (qA (cL Y) ad σ sz) u.1 u.2 t) (qA (cL Y) ad σ sz)) (qUX D Y e0 ad (qA (cL Y) ad σ sz) fv) (mcf r0) (msf r0) (qA (cL Y) ad σ sz)
theorem qOk.same {e0 : Nat} {ad : qAd} {σ σ' : qS} (h : qOk e0 ad σ) (hn : σ'.2 0 0 = σ.2 0 0 ∧ σ'.2 1 0 = σ.2 1 0) : qOk e0 ad σ' := ⟨fun q => h.1 (hn.1.symm.trans q), fun q => h.2 (hn.2.symm.trans q)⟩
section UO
variable {l : Launch} {y : MethodName} {b : ByteArray} {maxL fr lo mc ms gi B0 e0 : Nat} {ret : Option FieldType} {D : va_G} {Y : Nat → ClassId} {ad : qAd} {av : List Value} {σ : qS} {fv : Option (Int32 × Nat × qS)}
theorem u_ofX (hM : qXi l y b maxL ret fr lo mc ms B0 D (cL Y) (qT Y) ad av σ fv) (hn : ∀ r0, fv = some r0 → r0.2.2.2 0 0 = σ.2 0 0 ∧ r0.2.2.2 1 0 = σ.2 1 0) : qUi l y b maxL ret fr lo (fun _ => mc) (fun _ => ms) B0 e0 D Y ad av σ fv := by
  intro sz r0 hf hok
  refine vx_conseq (hM sz r0 hf) (fun a s h => ⟨h.1, h.2.1⟩) (fun a st oc t h => ?_) (fun E st t h => ?_)
  · obtain ⟨⟨r, u, h1, h2, h3⟩, hF⟩ := h
    exact ⟨⟨r, (ad, u), h1, ⟨h2, hok.same (hn _ h2), rfl⟩, h3⟩, hF⟩
  · obtain ⟨u, ⟨r, h1⟩, h2, hF⟩ := h
    exact ⟨(u.1, ad, u.2), ⟨⟨r, h1⟩, hok.same (hn _ h1), rfl⟩, h2, hF⟩
theorem u_ofXv (hM : qXv l y b maxL ret fr lo mc ms B0 D (cL Y) (qT Y) ad av σ fv) (hn : ∀ r0, fv = some r0 → r0.2.2.2 0 0 = σ.2 0 0 ∧ r0.2.2.2 1 0 = σ.2 1 0) : qUv l y b maxL ret fr lo (fun _ => mc) (fun _ => ms) B0 e0 D Y ad av σ fv := by
  intro sz r0 hf hok
  refine vx_conseq (hM sz r0 hf) (fun a s h => ⟨h.1, h.2.1⟩) (fun a st oc t h => ?_) (fun E st t h => ?_)
  · obtain ⟨⟨u, h1, ⟨r, h2⟩, h3⟩, hF⟩ := h
    exact ⟨⟨(ad, u), h1, ⟨⟨r, h2⟩, hok.same (hn _ h2), rfl⟩, h3⟩, hF⟩
  · obtain ⟨u, ⟨r, h1⟩, h2, hF⟩ := h
    exact ⟨(u.1, ad, u.2), ⟨⟨r, h1⟩, hok.same (hn _ h1), rfl⟩, h2, hF⟩
theorem u_ofY (hM : qYi l y b maxL ret fr lo mc ms B0 e0 (fun k => 16 ≤ k) D Y ad av σ fv) (hn : ∀ r0, fv = some r0 → r0.2.1 ≠ 0 → r0.2.2.2 0 0 = σ.2 0 0 ∧ r0.2.2.2 1 0 = σ.2 1 0) : qUi l y b maxL ret fr lo (fun _ => mc) (fun _ => ms) B0 e0 D Y ad av σ fv := by
  intro sz r0 hf hok
  refine vx_conseq (hM sz r0 hf hok) (fun a s h => h) (fun a st oc t h => ?_) (fun E st t h => ?_)
  · obtain ⟨⟨r, u, h1, ⟨h2, h3, h4⟩, h5⟩, hF⟩ := h
    exact ⟨⟨r, u, h1, ⟨h2, h3, h4 0 0 (show ¬ 16 ≤ 0 by decide)⟩, h5⟩, hF⟩
  · obtain ⟨u, ⟨r, h1⟩, h2, hF⟩ := h
    exact ⟨(u.1, ad, u.2), ⟨⟨r, h1⟩, hok.same (hn _ h1 h2.2.1), rfl⟩, h2, hF⟩
theorem u_ofZ (hM : qZi l y b maxL ret fr lo mc ms gi B0 e0 D Y ad (ad 58) av σ fv) (hn : ∀ r0, fv = some r0 → r0.2.2.2 0 0 = σ.2 0 0 ∧ r0.2.2.2 1 0 = σ.2 1 0) : qUi l y b maxL ret fr lo (fun r => mc + (r.2.2.2 3 gi - σ.2 3 gi)) (fun r => ms + 2 * (r.2.2.2 3 gi - σ.2 3 gi)) B0 e0 D Y ad av σ fv := by
  intro sz r0 hf hok
  have h9 := hM sz r0 hf
  rw [aw_self] at h9
  have hz : ∀ (z : Nat → Nat) (σ' : qS), σ'.2 0 0 = σ.2 0 0 ∧ σ'.2 1 0 = σ.2 1 0 → qOk e0 (aw ad z) σ' := fun z σ' h => ⟨fun q => hok.1 (h.1.symm.trans q), fun q => hok.2 (h.2.symm.trans q)⟩
  refine vx_conseq h9 (fun a s h => h) (fun a st oc t h => ?_) (fun E st t h => ?_)
  · obtain ⟨⟨r, u, h1, h2, h3⟩, hF⟩ := h
    exact ⟨⟨r, (aw ad u.1, u.2), h1, ⟨h2, hz _ _ (hn _ h2), rfl⟩, h3⟩, hF⟩
  · obtain ⟨u, ⟨r, h1⟩, h2, hF⟩ := h
    exact ⟨(u.1, aw ad u.2.1, u.2.2), ⟨⟨r, h1⟩, hz _ _ (hn _ h1), rfl⟩, h2, hF⟩
end UO
/-- the class's world and the law's array of one long beside it -/
def oW (D : va_G) (Y : Nat → ClassId) (A : Nat → Prop) (s : State) (ad : qAd) (σ : qS) (o : Nat) (g : Nat → Int64) (H : Heap) (locs : List Loc) : Prop :=
  qW D (cL Y) (qT Y) A s.heap s ad σ H locs ∧ va_at D vwCl (o, .inl (Y 5, 1, .inr (.inl g))) H ∧ A o ∧ ∀ k i, qd (cL Y) σ k i → ad k i ≠ o
def oA (L : qLay) (ad : qAd) (σ : qS) (o sz : Nat) : Nat → Prop := fun q => qA L ad σ sz q ∨ q = o
def xPairs : List (Nat × Nat) := [(2, 1), (3, 1), (3, 2)]
def qNc (U : State) : Prop := (∀ q ∈ xPairs, va_Nc (exN q.1) (exN q.2) U) ∧ ∀ j ∈ ([1, 2, 3] : List Nat), va_Nw (.castable (exN j) (exN j)) U
theorem qNc.warm {s U : State} (h : qNc s) (hW : s.WarmedH U.vm) : qNc U := ⟨fun q hq => va_Nc.moved hW.alike (h.1 q hq), fun j hj => va_Nw.warmC hW (h.2 j hj)⟩
theorem qNc.same {U V : State} (hv : V.vm = U.vm) (h : qNc U) : qNc V := ⟨fun q hq => va_Nc.moved (by rw [hv]; exact Vm.Alike.refl _) (h.1 q hq), fun j hj => va_Nw.same rfl hv.symm (h.2 j hj)⟩
def qLw (l : Launch) (y : MethodName) (b : ByteArray) (maxL : Nat) (hh : List (Nat × Nat × Nat × Nat)) (fr lo : Nat) (mcf msf : Int32 × Nat × qS → Nat) (B0 e0 : Nat) (D : va_G) (Y : Nat → ClassId) (ad : qAd) (o : Nat) (g : Nat → Int64) (av : List Value) (σ : qS) (fv : Option (Int32 × Nat × qS)) (cod : Nat → Int32) (og : Nat → Int32 → Nat → Int64) : Prop :=
  ∀ (sz : Nat) (r0 : Int32 × Nat × qS), fv = some r0 → qOk e0 ad σ → Met l y (.codeWith y b maxL (some .int) hh :: gws) (qRx fr lo (mcf r0) (msf r0)) (va_Pc av (fun U => qPy B0 e0 D Y ad σ sz U ∧ (va_at D vwCl (o, .inl (Y 5, 1, .inr (.inl g))) U.heap ∧ (∀ k i, qd (cL Y) σ k i → ad k i ≠ o) ∧ B0 ≤ o) ∧ qNc U)) (va_Qi (S := qAd × qS × (Nat → Int64)) (fun k u => ∃ v ex, fv = some (v, ex, u.2.1) ∧ k = cod ex ∧ u.2.2 = og ex v ∧ qOk e0 u.1 u.2.1 ∧ u.1 0 0 = ad 0 0) (fun u t => qB D (cL Y) (qT Y) (qA (cL Y) ad σ sz) u.1 u.2.1 t ∧ va_at D vwCl (o, .inl (Y 5, 1, .inr (.inl u.2.2))) t.heap ∧ ∀ k i, qd (cL Y) u.2.1 k i → u.1 k i ≠ o) (oA (cL Y) ad σ o sz)) (mcf r0) (msf r0) (oA (cL Y) ad σ o sz)
section OW
variable {p : Program} {l : Launch} {e : Env} {R : Room} {s : State} {m : MethodId} {args : Array Value} {below : List Frame} {meth : Method} {c : Code} {H : Heap} {locs : List Loc} {cells slots : Nat} {Q : State → Prop}
variable {cc : ByteArray} {pc nL : Nat} {ls : Array Slot} {rest : List Value} {own : String}
variable {D : va_G} {Y : Nat → ClassId} {A : Nat → Prop} {ad : qAd} {σ : qS} {o : Nat} {g : Nat → Int64} {B0 e0 : Nat}
theorem oW.next {H1 : Heap} {locs1 : List Loc} {ad' : qAd} {σ' : qS} {t : State} (hw : oW D Y A s ad σ o g H locs) (ht : t.heap = H1) (hvm : s.vm.Alike t.vm) (hB : qB D (cL Y) (qT Y) (qA (cL Y) ad σ H.size) ad' σ' t) (hk : ∀ q : Nat, q < H.size → ¬ qA (cL Y) ad σ H.size q → H1[q]? = H[q]?) (hS : va_S A s.heap H1 locs1) : oW D Y A s ad' σ' o g H1 locs1 := by
  have hlt := hw.2.1.lt
  have hno : ¬ qA (cL Y) ad σ H.size o := fun h => by
    rcases h with ⟨k, i, hd, h⟩ | h
    · exact hw.2.2.2 k i hd h
    · exact absurd hlt (Nat.not_lt.mpr h)
  refine ⟨q_back hw.1 ht hvm hB hS, hw.2.1.kept (hk _ hlt hno), hw.2.2.1, fun k i hd h => hno (h ▸ hB.2.1 k i hd)⟩
theorem o_ucalli (S0 : CallFix p m c cc nL s args gws own) (hG : qG B0 s s.heap) (hE : qE B0 e0 s s.heap) (hAB : ∀ q, A q → B0 ≤ q) (hok : qOk e0 ad σ) (hw : oW D Y A s ad σ o g H locs) {y : MethodName} {b2 : ByteArray} {maxL2 fr2 lo2 n : Nat} {mcf msf : Int32 × Nat × qS → Nat} {ret2 : Option FieldType} {As : List Value} {fv : Option (Int32 × Nat × qS)}
    (hM : qUi l y b2 maxL2 ret2 fr2 lo2 mcf msf B0 e0 D Y ad (.ref (ad 0 0) :: As) σ fv) (hy : qY y "Leasehall" b2 maxL2 ret2 n) {idx : Nat} (hl : Cond.methodLink own idx y ∈ gws) (hR : fr2 + 1 ≤ R.frames ∧ 8 + (maxL2 + 11) + lo2 ≤ R.locals) (r0 : Int32 × Nat × qS) (hf : fv = some r0)
    (hn : As.length = n) (hl2 : ls.size = nL) (hcat : (rest.map fun v => v.category).sum ≤ 8) (hdg : decode cc pc = .ok (.invokevirtual idx, 3)) (hroom : cells + mcf r0 ≤ R.cells ∧ slots + msf r0 ≤ R.slots) {st0 : List Value} (hst : st0 = As.reverse ++ .ref (ad 0 0) :: rest)
    (kX : ∀ (ex : Nat) (ce : Cell) (q9 : Addr) (r : Int32) (ad' : qAd) (σ' : qS) (H1 : Heap) (locs1 : List Loc), oW D Y A s ad' σ' o g H1 locs1 → ad' 0 0 = ad 0 0 → qOk e0 ad' σ' → fv = some (r, ex, σ') → ex ≠ 0 → H1[q9]? = some ce → ce.vm = .none → s.vm.findClass (exN ex) = some ce.cls → vx_W p l e R s m args below meth c H1 locs1 (cells + mcf r0) (slots + msf r0) Q (F0 m pc ls rest) q9)
    (kk : ∀ (r : Int32) (ad' : qAd) (σ' : qS) (H1 : Heap) (locs1 : List Loc), oW D Y A s ad' σ' o g H1 locs1 → ad' 0 0 = ad 0 0 → qOk e0 ad' σ' → fv = some (r, 0, σ') → W p l e R s m args below meth c H1 locs1 (cells + mcf r0) (slots + msf r0) Q (F0 m (pc + 3) ls (.int r :: rest))) : W p l e R s m args below meth c H locs cells slots Q (F0 m pc ls st0) := by
  refine vx_calli (vx_runV (As := As) (rest := rest) S0 (hM H.size _ hf hok) (cwV n S0.2.2.2.2 (gws_V hy hl) rfl rfl rfl hy.2 hR) ⟨qy_blind, va_recv hw.1.2.2.2.1 (hw.1.one dC_0 rfl) (q := (RX8, TX8, 20)) (ci := 9) rfl (q0 := 0) rfl, fun U hU hW => qy_pre hw.1 hG hE hAB hU hW⟩ rfl hn hl2 hst (lv_room hcat) hdg hroom) hw.1.2.2.1 (fun q _ h => q_sub hw.1 q h) (q_sub hw.1) (fun q _ h => q_sub hw.1 q h) (fun E ce q9 u t H1 locs1 ht hvm hp hB hz hk hS hce hcv hcl => ?_) (fun r u t H1 locs1 ht hvm hp hB hz hk hS => ?_)
  · obtain ⟨⟨r2, h1⟩, h2, h3⟩ := hp
    obtain ⟨rfl, hne, hB⟩ := hB
    exact kX _ ce q9 r2 _ _ H1 locs1 (hw.next ht hvm hB hk hS) h3 h2 h1 hne hce hcv hcl
  · exact kk r _ _ H1 locs1 (hw.next ht hvm hB hk hS) hp.2.2 hp.2.1 hp.1
theorem o_ucallv (S0 : CallFix p m c cc nL s args gws own) (hG : qG B0 s s.heap) (hE : qE B0 e0 s s.heap) (hAB : ∀ q, A q → B0 ≤ q) (hok : qOk e0 ad σ) (hw : oW D Y A s ad σ o g H locs) {y : MethodName} {b2 : ByteArray} {maxL2 fr2 lo2 n : Nat} {mcf msf : Int32 × Nat × qS → Nat} {ret2 : Option FieldType} {As : List Value} {fv : Option (Int32 × Nat × qS)}
    (hM : qUv l y b2 maxL2 ret2 fr2 lo2 mcf msf B0 e0 D Y ad (.ref (ad 0 0) :: As) σ fv) (hy : qY y "Leasehall" b2 maxL2 ret2 n) {idx : Nat} (hl : Cond.methodLink own idx y ∈ gws) (hR : fr2 + 1 ≤ R.frames ∧ 8 + (maxL2 + 11) + lo2 ≤ R.locals) (r0 : Int32 × Nat × qS) (hf : fv = some r0)
    (hn : As.length = n) (hl2 : ls.size = nL) (hcat : (rest.map fun v => v.category).sum ≤ 8) (hdg : decode cc pc = .ok (.invokevirtual idx, 3)) (hroom : cells + mcf r0 ≤ R.cells ∧ slots + msf r0 ≤ R.slots) {st0 : List Value} (hst : st0 = As.reverse ++ .ref (ad 0 0) :: rest)
    (kX : ∀ (ex : Nat) (ce : Cell) (q9 : Addr) (r : Int32) (ad' : qAd) (σ' : qS) (H1 : Heap) (locs1 : List Loc), oW D Y A s ad' σ' o g H1 locs1 → ad' 0 0 = ad 0 0 → qOk e0 ad' σ' → fv = some (r, ex, σ') → ex ≠ 0 → H1[q9]? = some ce → ce.vm = .none → s.vm.findClass (exN ex) = some ce.cls → vx_W p l e R s m args below meth c H1 locs1 (cells + mcf r0) (slots + msf r0) Q (F0 m pc ls rest) q9)
    (kk : ∀ (r : Int32) (ad' : qAd) (σ' : qS) (H1 : Heap) (locs1 : List Loc), oW D Y A s ad' σ' o g H1 locs1 → ad' 0 0 = ad 0 0 → qOk e0 ad' σ' → fv = some (r, 0, σ') → W p l e R s m args below meth c H1 locs1 (cells + mcf r0) (slots + msf r0) Q (F0 m (pc + 3) ls rest)) : W p l e R s m args below meth c H locs cells slots Q (F0 m pc ls st0) := by
  refine vx_callv (vx_runV (As := As) (rest := rest) S0 (hM H.size _ hf hok) (cwV n S0.2.2.2.2 (gws_V hy hl) rfl rfl rfl hy.2 hR) ⟨qy_blind, va_recv hw.1.2.2.2.1 (hw.1.one dC_0 rfl) (q := (RX8, TX8, 20)) (ci := 9) rfl (q0 := 0) rfl, fun U hU hW => qy_pre hw.1 hG hE hAB hU hW⟩ rfl hn hl2 hst (lv_room hcat) hdg hroom) hw.1.2.2.1 (fun q _ h => q_sub hw.1 q h) (q_sub hw.1) (fun q _ h => q_sub hw.1 q h) (fun E ce q9 u t H1 locs1 ht hvm hp hB hz hk hS hce hcv hcl => ?_) (fun u t H1 locs1 ht hvm hp hB hz hk hS => ?_)
  · obtain ⟨⟨r2, h1⟩, h2, h3⟩ := hp
    obtain ⟨rfl, hne, hB⟩ := hB
    exact kX _ ce q9 r2 _ _ H1 locs1 (hw.next ht hvm hB hk hS) h3 h2 h1 hne hce hcv hcl
  · obtain ⟨⟨r2, h1⟩, h2, h3⟩ := hp
    exact kk r2 _ _ H1 locs1 (hw.next ht hvm hB hk hS) h3 h2 h1
theorem o_last (S0 : CallFix p m c cc nL s args gws own) (hw : oW D Y A s ad σ o g H locs) {x : Int64} (hdg : decode cc pc = .ok (.lastore, 1))
    (kk : ∀ (H1 : Heap) (locs1 : List Loc), oW D Y A s ad σ o (vp_updL g 0 x) H1 locs1 → W p l e R s m args below meth c H1 locs1 cells slots Q (F0 m (pc + 1) ls rest)) : W p l e R s m args below meth c H locs cells slots Q (F0 m pc ls (.long x :: .int 0 :: .ref o :: rest)) := by
  obtain ⟨⟨hV, hA1, hS, hK, hA⟩, ho, hAo, hap⟩ := hw
  refine W.last S0.1 S0.2.1 ho ((hK.2 5 (Y 5, .long) rfl).1 1 (fun j => .long (g j))) (fun q => by cases q) (by show ¬ ((0 : Int32) < 0 ∨ (arrV _ _ _).slots.size ≤ _); rw [arrV_size]; show ¬ ((0 : Int32) < 0 ∨ 1 ≤ (0 : Int32).toNatClampNeg); decide) rfl rfl hdg fun H1 e9 z oq => ?_
  refine kk H1 _ ⟨⟨⟨fun k i hd => (hV.1 k i hd).kept (oq _ (hap k i hd)), hV.2⟩, hA1, hS.put z oq hAo, hK, hA⟩, ?_, hAo, hap⟩
  show H1[o]? = some (vp_cell _ _)
  rw [e9]
  rw [vp_cell_l, vp_cell_l, arrV_store]
  congr 2
  funext q
  by_cases hq : q = (0 : Int32).toNatClampNeg
  · subst hq
    simp [updV, vp_updL]
  · have hq0 : q ≠ 0 := hq
    simp [updV, vp_updL, hq0]
theorem q_olw {y : MethodName} {b : ByteArray} {maxL fr lo : Nat} {hh : List (Nat × Nat × Nat × Nat)} {mcf msf : Int32 × Nat × qS → Nat} {av : List Value} {fv : Option (Int32 × Nat × qS)} {cod : Nat → Int32} {og : Nat → Int32 → Nat → Int64} (hy : plainName y.cls = true) (hlen : (lg_sl av).length ≤ maxL) (own : String) (ho : y.cls = own)
    (body : ∀ (p : Program) (e : Env) (s : State) (m : MethodId) (below : List Frame) (meth : Method) (c : Code) (A : Nat → Prop) (Q : State → Prop) (r0 : Int32 × Nat × qS), CallFix p m c b maxL s av.toArray gws own → c.exceptionTable.toList = tableOf hh → fv = some r0 → qOk e0 ad σ → oW D Y A s ad σ o g s.heap [] → qG B0 s s.heap → (∀ q, A q → B0 ≤ q) → qE B0 e0 s s.heap → qNc s →
      (∀ {pc : Nat} {ls : Array Slot} {H : Heap} {locs : List Loc} {k v : Int32} {ex : Nat} {ad' : qAd} {σ' : qS}, decode b pc = .ok (.ireturn, 1) → oW D Y A s ad' σ' o (og ex v) H locs → ad' 0 0 = ad 0 0 → qOk e0 ad' σ' → fv = some (v, ex, σ') → k = cod ex → W p l e (qRx fr lo (mcf r0) (msf r0)) s m av.toArray below meth c H locs (mcf r0) (msf r0) Q (F0 m pc ls [.int k])) →
      ∀ ls : Array Slot, lv_has ls maxL (lv_args 0 av) → W p l e (qRx fr lo (mcf r0) (msf r0)) s m av.toArray below meth c s.heap [] 0 0 Q (F0 m 0 ls [])) : qLw l y b maxL hh fr lo mcf msf B0 e0 D Y ad o g av σ fv cod og := by
  intro sz r0 hf hok
  refine va_MetW (cc := b) (maxL := maxL) (ret := some .int) (hh := hh) hy rfl ?_
  intro p e s m args below meth c s₁ B hml hv
  obtain ⟨rfl, ⟨⟨⟨hsz, hV, hK⟩, hB0, hG⟩, hE⟩, ⟨ho1, ho2, ho3⟩, hNc⟩ := hv
  subst hsz
  have hts := atoms_spec (ws := .codeWith y b maxL (some .int) hh :: gws) B.pre
  have hown : s.vm.findClass y.cls = some m.cls := findClass_of_methodNamed B.named
  have htab := vx_table (x := y) B (hts _ List.mem_cons_self)
  rw [ho] at hown
  have S0 : CallFix p m c b maxL s av.toArray gws own := ⟨B.exec, B.bytes, hml, hown, fun w h => hts w (List.mem_cons_of_mem _ h)⟩
  have hw : oW D Y (oA (cL Y) ad σ o s.heap.size) s ad σ o g s.heap [] := ⟨⟨hV, fun k i h => Or.inl (Or.inl ⟨k, i, h, rfl⟩), va_S.rf, hK, fun q h => Or.inl (Or.inr h)⟩, ho1, Or.inr rfl, ho2⟩
  have hAB : ∀ q, oA (cL Y) ad σ o s.heap.size q → B0 ≤ q := fun q h => by
    rcases h with (⟨k, i, hd, rfl⟩ | h) | rfl
    · exact hB0 k i hd
    · exact Nat.le_trans hG.2.2.2.2 h
    · exact ho3
  have hl := lv_entry av (n := maxL) hlen
  rw [lg_entry_eq]
  generalize (lg_sl av ++ List.replicate (maxL - (lg_sl av).length) Slot.unset).toArray = ls at hl ⊢
  refine body p e s m below meth c _ _ r0 S0 htab hf hok hw hG hAB hE hNc ?_ ls hl
  intro pc ls H locs k v ex ad' σ' hd hw' h0 hok' h hk
  refine W.iret S0.1 S0.2.1 B.returns (fun t ht hW => ⟨⟨_, (ad', σ', og ex v), rfl, ⟨v, ex, h, hk, rfl, hok', h0⟩, ⟨⟨by rw [ht]; exact hw'.1.1, fun k i hd => ?_, va_K.moved hW.alike hw'.1.2.2.2.1⟩, by rw [ht]; exact hw'.2.1, hw'.2.2.2⟩⟩, hw'.1.2.2.1.F ht⟩) hw'.1.2.2.1.2.2 hd (hlocks := B.notSynchronized)
  rcases hw'.1.2.1 k i hd with h9 | h9
  · exact h9
  · exact absurd h9 (hw'.2.2.2 k i hd)
end OW

/-! CONSTRUCTORS: over a list of cells; what they rest on beside the good words -/
def nws : List (String × Nat × MethodName) := [("Leasehall", 39, ⟨"Leasehall$Log", "<init>", "()V"⟩), ("Leasehall", 59, ⟨"Leasehall$Act", "<init>", "()V"⟩), ("Leasehall$Session", 29, ⟨"Leasehall$Row", "<init>", "()V"⟩), ("Leasehall$Session", 73, ⟨"Leasehall$Act", "<init>", "()V"⟩)]
def aos : List String := ["Leasehall$Server", "Leasehall$Act", "java/lang/Object"]
def oas : List String := ["Leasehall$Session", "Leasehall$Lease"]
def qE (B0 e0 : Nat) (U : State) (H : Heap) : Prop := ((∀ q ∈ nws, va_Nw (.methodLinkNest q.1 q.2.1 q.2.2 "Leasehall") U) ∧ ∀ C ∈ oas, va_Nw (.castable C "java/lang/Object") U) ∧ (∀ C ∈ aos, va_AO C U) ∧ va_Z "java/util/ArrayList" "DEFAULTCAPACITY_EMPTY_ELEMENTDATA" "[Ljava/lang/Object;" (.ref e0) (fun q => B0 ≤ q) U H ∧ (∃ ce : Cell, H[e0]? = some ce ∧ U.isArrayOf ce (.object "java/lang/Object") ∧ ce.vm ≠ .unknown ∧ ce.slots.size = 0) ∧ ¬ B0 ≤ e0 ∧ B0 ≤ H.size
theorem qE.warm {B0 e0 : Nat} {s U : State} {H H1 : Heap} (h : qE B0 e0 s H) (hW : s.WarmedH U.vm) (hz : H.size ≤ H1.size) (hk : ∀ q : Nat, q < H.size → ¬ B0 ≤ q → H1[q]? = H[q]?) : qE B0 e0 U H1 := by
  obtain ⟨h1, h2, h3, ⟨ce, c1, c2, c3, c4⟩, h5, h6⟩ := h
  refine ⟨⟨fun q hq => va_Nw.warmM hW (h1.1 q hq), fun C hC => va_Nw.warmC hW (h1.2 C hC)⟩, fun C hC => va_AO.moved hW.alike (h2 C hC), va_Z.moved hW.alike (h3.kept hk), ⟨ce, ?_, State.isArrayOf_alike hW.alike c2, c3, c4⟩, h5, Nat.le_trans h6 hz⟩
  rw [hk e0 (Array.getElem?_eq_some_iff.mp c1).1 h5]
  exact c1
theorem qE.same {B0 e0 : Nat} {U V : State} {H : Heap} (hv : V.vm = U.vm) (h : qE B0 e0 U H) : qE B0 e0 V H := by
  obtain ⟨h1, h2, h3, ⟨ce, c1, c2, c3, c4⟩, h5, h6⟩ := h
  have hA : U.vm.Alike V.vm := by rw [hv]; exact Vm.Alike.refl _
  exact ⟨⟨fun q hq => va_Nw.same rfl hv.symm (h1.1 q hq), fun C hC => va_Nw.same rfl hv.symm (h1.2 C hC)⟩, fun C hC => va_AO.moved hA (h2 C hC), va_Z.moved hA h3, ⟨ce, c1, State.isArrayOf_alike hA c2, c3, c4⟩, h5, h6⟩
def lPre (B0 e0 : Nat) (D : va_G) (Y : Nat → ClassId) (ws : va_W) (sz : Nat) (U : State) : Prop := U.heap.size = sz ∧ va_P D vwCl ws U.heap ∧ va_K D vwCl (qT Y) U ∧ va_D (fun q => B0 ≤ q) ws ∧ qE B0 e0 U U.heap
def lB (D : va_G) (Y : Nat → ClassId) (A : Nat → Prop) (wsf : (Nat → Nat) → va_W) (a : Nat → Nat) (t : State) : Prop := va_P D vwCl (wsf a) t.heap ∧ va_K D vwCl (qT Y) t ∧ va_D A (wsf a)
def qK (l : Launch) (y : MethodName) (b : ByteArray) (maxL fr lo mc ms B0 e0 : Nat) (D : va_G) (Y : Nat → ClassId) (av : List Value) (ws : va_W) (wsf : (Nat → Nat) → va_W) : Prop :=
  ∀ sz : Nat, Met l y (qWs y b maxL none) (qRx fr lo mc ms) (va_Pc av (lPre B0 e0 D Y ws sz)) (va_Qv (fun _ : Nat → Nat => True) (lB D Y (va_A ws sz) wsf) (va_A ws sz)) mc ms (va_A ws sz)
def lX (B0 e0 : Nat) (D : va_G) (Y : Nat → ClassId) (A : Nat → Prop) (s : State) (ws : va_W) (H : Heap) (locs : List Loc) : Prop := va_P D vwCl ws H ∧ va_D A ws ∧ va_S A s.heap H locs ∧ va_K D vwCl (qT Y) s ∧ (∀ q, s.heap.size ≤ q → A q) ∧ (∀ q, A q → B0 ≤ q) ∧ qE B0 e0 s s.heap
theorem va_RA_eq {U : State} {c1 c2 : ClassId} {t : FieldType} (h1 : va_RA U c1 t) (h2 : va_RA U c2 t) : c1 = c2 := by
  have e : ∀ c, va_RA U c t → U.vm.findClass ("[" ++ t.toString) = some c := fun c h => by
    cases t with
    | object C =>
      obtain ⟨kA, comp, -, -, -, h4⟩ := h
      exact h4
    | _ => exact h
  exact Option.some.inj ((e _ h1).symm.trans (e _ h2))
section LR
variable {p : Program} {l : Launch} {e : Env} {R : Room} {s : State} {m : MethodId} {args : Array Value} {below : List Frame} {meth : Method} {c : Code} {H : Heap} {locs : List Loc} {cells slots : Nat} {Q : State → Prop}
variable {cc : ByteArray} {pc nL : Nat} {ls : Array Slot} {rest : List Value} {own : String}
variable {D : va_G} {Y : Nat → ClassId} {A : Nat → Prop} {ws : va_W} {B0 e0 : Nat}
theorem l_new (S0 : CallFix p m c cc nL s args gws own) (hx : lX B0 e0 D Y A s ws H locs) {C : String} {T : u_T} {N ci index : Nat} (hin : ∀ w ∈ u_ws C T N, w ∈ gws) (ty : Nat → FieldType) (hty : ∀ k, k < N → parseFieldDescriptor (T k).2.2.1 = some (ty k)) (hcl : Cond.classLink own index C ∈ gws) (hinst : Cond.instantiable C N ∈ gws) (hini : Cond.initialized C ∈ gws) (hc : vwCl[ci]? = some (C, T, N)) {fs : List Value} (hfs : ∀ j, j < N → defaultValue (ty j) = vp_V fs j) (hcells : cells + 1 ≤ R.cells ∧ slots + N ≤ R.slots) (hdg : decode cc pc = .ok (.new index, 3))
    (kk : ∀ (q : Nat) (H1 : Heap), lX B0 e0 D Y A s (ws ++ [(q, .inr (ci, fs))]) H1 locs → W p l e R s m args below meth c H1 locs (cells + 1) (slots + N) Q (F0 m (pc + 3) ls (.ref q :: rest))) : W p l e R s m args below meth c H locs cells slots Q (F0 m pc ls rest) := by
  obtain ⟨hP, hD, hS, hK, hA, hAB, hE⟩ := hx
  exact va_new S0.1 S0.2.1 S0.2.2.2.2 hin ty hty S0.2.2.2.1 (S0.2.2.2.2 _ hcl) (S0.2.2.2.2 _ hinst) (S0.2.2.2.2 _ hini) hK hP hD hS hA hc hfs hcells.1 hcells.2 hdg (fun q H1 hP hD hS => kk q H1 ⟨hP, hD, hS, hK, hA, hAB, hE⟩)
theorem l_newI (S0 : CallFix p m c cc nL s args gws own) (hx : lX B0 e0 D Y A s ws H locs) {n : Int32} {N' : Nat} (hn : ¬ n < 0) (hN : n.toNatClampNeg = N') (hbytes : N' * componentBytes .int ≤ 536870912) (hcells : cells + 1 ≤ R.cells ∧ slots + N' ≤ R.slots) (hdg : decode cc pc = .ok (.newarray .int, 2))
    (kk : ∀ (q : Nat) (H1 : Heap), lX B0 e0 D Y A s (ws ++ [(q, .inl (Y 0, N', .inl (fun _ => 0)))]) H1 locs → W p l e R s m args below meth c H1 locs (cells + 1) (slots + N') Q (F0 m (pc + 2) ls (.ref q :: rest))) : W p l e R s m args below meth c H locs cells slots Q (F0 m pc ls (.int n :: rest)) := by
  obtain ⟨hP, hD, hS, hK, hA, hAB, hE⟩ := hx
  refine va_newa (atype := .int) (ty := .int) (a0 := (N', .inl (fun _ => 0))) S0.1 S0.2.1 (S0.2.2.2.2 _ kw_69) rfl hK hP hD hS hA (fun cA => rfl) hn hN hbytes hcells.1 hcells.2 hdg (fun q cA H1 hK9 hP hD hS => ?_)
  have e : cA = Y 0 := va_RA_eq (hK9.2 6 (cA, .int) rfl).2 (hK.2 0 (Y 0, .int) rfl).2
  subst e
  exact kk q H1 ⟨hP, hD, hS, hK, hA, hAB, hE⟩
theorem l_newZ (S0 : CallFix p m c cc nL s args gws own) (hx : lX B0 e0 D Y A s ws H locs) {n : Int32} {N' : Nat} (hn : ¬ n < 0) (hN : n.toNatClampNeg = N') (hbytes : N' * componentBytes .boolean ≤ 536870912) (hcells : cells + 1 ≤ R.cells ∧ slots + N' ≤ R.slots) (hdg : decode cc pc = .ok (.newarray .boolean, 2))
    (kk : ∀ (q : Nat) (H1 : Heap), lX B0 e0 D Y A s (ws ++ [(q, .inl (Y 1, N', .inl (fun _ => 0)))]) H1 locs → W p l e R s m args below meth c H1 locs (cells + 1) (slots + N') Q (F0 m (pc + 2) ls (.ref q :: rest))) : W p l e R s m args below meth c H locs cells slots Q (F0 m pc ls (.int n :: rest)) := by
  obtain ⟨hP, hD, hS, hK, hA, hAB, hE⟩ := hx
  refine va_newa (atype := .boolean) (ty := .boolean) (a0 := (N', .inl (fun _ => 0))) S0.1 S0.2.1 (S0.2.2.2.2 _ kw_114) rfl hK hP hD hS hA (fun cA => rfl) hn hN hbytes hcells.1 hcells.2 hdg (fun q cA H1 hK9 hP hD hS => ?_)
  have e : cA = Y 1 := va_RA_eq (hK9.2 6 (cA, .boolean) rfl).2 (hK.2 1 (Y 1, .boolean) rfl).2
  subst e
  exact kk q H1 ⟨hP, hD, hS, hK, hA, hAB, hE⟩
theorem l_newq (S0 : CallFix p m c cc nL s args gws own) (hx : lX B0 e0 D Y A s ws H locs) {n : Int32} {N' t0 : Nat} {C : String} (hC : C ∈ aos) (ht : (qT Y)[t0]? = some (Y t0, .object C)) {index : Nat} (hcl : Cond.classLink own index C ∈ gws) (hn : ¬ n < 0) (hN : n.toNatClampNeg = N') (hbytes : N' * 4 ≤ 536870912) (hcells : cells + 1 ≤ R.cells ∧ slots + N' ≤ R.slots) (hdg : decode cc pc = .ok (.anewarray index, 3))
    (kk : ∀ (q : Nat) (H1 : Heap), lX B0 e0 D Y A s (ws ++ [(q, .inl (Y t0, N', .inr (.inr (.inr (.inr (fun _ => none))))))]) H1 locs → W p l e R s m args below meth c H1 locs (cells + 1) (slots + N') Q (F0 m (pc + 3) ls (.ref q :: rest))) : W p l e R s m args below meth c H locs cells slots Q (F0 m pc ls (.int n :: rest)) := by
  obtain ⟨hP, hD, hS, hK, hA, hAB, hE⟩ := hx
  refine va_newq S0.1 S0.2.1 S0.2.2.2.1 (S0.2.2.2.2 _ hcl) (hE.2.1 C hC) hK hP hD hS hA hn hN hbytes hcells.1 hcells.2 hdg (fun q cA H1 hK9 hP hD hS => ?_)
  have e : cA = Y t0 := va_RA_eq (hK9.2 6 (cA, .object C) rfl).2 (hK.2 t0 _ ht).2
  subst e
  exact kk q H1 ⟨hP, hD, hS, hK, hA, hAB, hE⟩
theorem l_get (S0 : CallFix p m c cc nL s args gws own) (hx : lX B0 e0 D Y A s ws H locs) {C : String} {T : u_T} {N ci a : Nat} (q0 : Nat) {fs : List Value} (he : ws[q0]? = some (a, .inr (ci, fs))) (hc : vwCl[ci]? = some (C, T, N)) (hin : ∀ w ∈ u_ws C T N, w ∈ gws) (sl : Nat) (hk : sl < N)
    {idx : Nat} (hl : Cond.fieldLink own idx (T sl).1 (T sl).2.1 (T sl).2.2.1 ∈ gws) {v : Value} (hv : fs[sl]? = some v) (hdg : decode cc pc = .ok (.getfield idx, 3))
    (kk : W p l e R s m args below meth c H locs cells slots Q (F0 m (pc + 3) ls (v :: rest))) : W p l e R s m args below meth c H locs cells slots Q (F0 m pc ls (.ref a :: rest)) :=
  va_get S0.1 S0.2.1 S0.2.2.2.2 hin S0.2.2.2.1 hx.2.2.2.1 hx.1 q0 he hc sl hk (S0.2.2.2.2 _ hl) (fun _ h => h) hv hdg kk
theorem l_put (S0 : CallFix p m c cc nL s args gws own) (hx : lX B0 e0 D Y A s ws H locs) (hin2 : meth.name = "<init>") {C : String} {T : u_T} {N ci a : Nat} (q0 : Nat) {fs : List Value} (he : ws[q0]? = some (a, .inr (ci, fs))) (hc : vwCl[ci]? = some (C, T, N)) (hin : ∀ w ∈ u_ws C T N, w ∈ gws) (ty0 : Nat → FieldType) (hty : ∀ k, k < N → parseFieldDescriptor (T k).2.2.1 = some (ty0 k)) (hnm : ∀ a, a < N → ∀ b, b < N → a ≠ b → (T a).2.1 ≠ (T b).2.1) (sl : Nat) (hk : sl < N)
    {idx : Nat} (hl : Cond.fieldLink own idx (T sl).1 (T sl).2.1 (T sl).2.2.1 ∈ gws) (hdecl : (T sl).1 = own) {ty : FieldType} {v : Value} (hd : parseFieldDescriptor (T sl).2.2.1 = some ty) (hn : narrow ty v = v) (hfit : fits ty v = true) (hlen : sl < fs.length) (hdg : decode cc pc = .ok (.putfield idx, 3))
    (kk : ∀ (H1 : Heap) (locs1 : List Loc), lX B0 e0 D Y A s (ws.set q0 (a, .inr (ci, fs.set sl v))) H1 locs1 → W p l e R s m args below meth c H1 locs1 cells slots Q (F0 m (pc + 3) ls rest)) : W p l e R s m args below meth c H locs cells slots Q (F0 m pc ls (v :: .ref a :: rest)) := by
  obtain ⟨hP, hD, hS, hK, hA, hAB, hE⟩ := hx
  cases hfin : (T sl).2.2.2 with
  | false => exact va_put S0.1 S0.2.1 S0.2.2.2.2 hin ty0 hty hnm S0.2.2.2.1 hK hP hD hS q0 he hc sl hk (S0.2.2.2.2 _ hl) (fun _ h => h) hfin hd hn hfit hlen hdg (fun H1 locs1 hP hD hS => kk H1 locs1 ⟨hP, hD, hS, hK, hA, hAB, hE⟩)
  | true => exact va_putF S0.1 S0.2.1 S0.2.2.2.2 hin ty0 hty hnm S0.2.2.2.1 hK hP hD hS q0 he hc sl hk (S0.2.2.2.2 _ hl) (fun _ h => h) hfin hin2 hdecl hd hn hfit hlen hdg (fun H1 locs1 hP hD hS => kk H1 locs1 ⟨hP, hD, hS, hK, hA, hAB, hE⟩)
theorem l_iast (S0 : CallFix p m c cc nL s args gws own) (hx : lX B0 e0 D Y A s ws H locs) {a n : Nat} (q0 : Nat) {f : Nat → Int32} (he : ws[q0]? = some (a, .inl (Y 0, n, .inl f))) {i x : Int32} (hin : vp_in i n) (hdg : decode cc pc = .ok (.iastore, 1))
    (kk : ∀ (H1 : Heap) (locs1 : List Loc), lX B0 e0 D Y A s (ws.set q0 (a, .inl (Y 0, n, .inl (upd f i.toNatClampNeg x)))) H1 locs1 → W p l e R s m args below meth c H1 locs1 cells slots Q (F0 m (pc + 1) ls rest)) : W p l e R s m args below meth c H locs cells slots Q (F0 m pc ls (.int x :: .int i :: .ref a :: rest)) := by
  obtain ⟨hP, hD, hS, hK, hA, hAB, hE⟩ := hx
  exact va_iast S0.1 S0.2.1 hK hP hD hS q0 0 he rfl hin hdg (fun H1 locs1 hP hD hS => kk H1 locs1 ⟨hP, hD, hS, hK, hA, hAB, hE⟩)
theorem l_zast (S0 : CallFix p m c cc nL s args gws own) (hx : lX B0 e0 D Y A s ws H locs) {a n : Nat} (q0 : Nat) {f : Nat → Int32} (he : ws[q0]? = some (a, .inl (Y 1, n, .inl f))) {i x : Int32} (hin : vp_in i n) (hdg : decode cc pc = .ok (.bastore, 1))
    (kk : ∀ (H1 : Heap) (locs1 : List Loc), lX B0 e0 D Y A s (ws.set q0 (a, .inl (Y 1, n, .inl (upd f i.toNatClampNeg (vp_nar .boolean x))))) H1 locs1 → W p l e R s m args below meth c H1 locs1 cells slots Q (F0 m (pc + 1) ls rest)) : W p l e R s m args below meth c H locs cells slots Q (F0 m pc ls (.int x :: .int i :: .ref a :: rest)) := by
  obtain ⟨hP, hD, hS, hK, hA, hAB, hE⟩ := hx
  exact va_zast S0.1 S0.2.1 hK hP hD hS q0 1 he rfl hin hdg (fun H1 locs1 hP hD hS => kk H1 locs1 ⟨hP, hD, hS, hK, hA, hAB, hE⟩)
theorem l_aast (S0 : CallFix p m c cc nL s args gws own) (hx : lX B0 e0 D Y A s ws H locs) {a n v ci t0 : Nat} (q0 qk : Nat) {r : vw_C} {vs : List Value} {f : Nat → Option Nat} (he : ws[q0]? = some (a, .inl (Y t0, n, .inr (.inr (.inr (.inr f)))))) (ht : (qT Y)[t0]? = some (Y t0, .object r.1)) (hv : ws[qk]? = some (v, .inr (ci, vs))) (hc : vwCl[ci]? = some r) {i : Int32} (hin : vp_in i n) (hdg : decode cc pc = .ok (.aastore, 1))
    (kk : ∀ (H1 : Heap) (locs1 : List Loc), lX B0 e0 D Y A s (ws.set q0 (a, .inl (Y t0, n, .inr (.inr (.inr (.inr (va_up f i.toNatClampNeg (some v)))))))) H1 locs1 → W p l e R s m args below meth c H1 locs1 cells slots Q (F0 m (pc + 1) ls rest)) : W p l e R s m args below meth c H locs cells slots Q (F0 m pc ls (.ref v :: .int i :: .ref a :: rest)) := by
  obtain ⟨hP, hD, hS, hK, hA, hAB, hE⟩ := hx
  exact va_astq S0.1 S0.2.1 hK hP hD hS q0 t0 qk ci he ht hv hc hin hdg (fun H1 locs1 hP hD hS => kk H1 locs1 ⟨hP, hD, hS, hK, hA, hAB, hE⟩)
theorem l_obj (S0 : CallFix p m c cc nL s args gws own) {idx a : Nat} (hl : Cond.methodLink own idx Lib.objectInit ∈ gws) (hz : ls.size = nL) (hR : 1 ≤ R.frames ∧ 20 ≤ R.locals) (hcat : (rest.map fun v => v.category).sum ≤ 8) (hdg : decode cc pc = .ok (.invokespecial idx, 3)) (kk : W p l e R s m args below meth c H locs cells slots Q (F0 m (pc + 3) ls rest)) : W p l e R s m args below meth c H locs cells slots Q (F0 m pc ls (.ref a :: rest)) :=
  W.objInit S0.1 S0.2.1 S0.2.2.2.1 (S0.2.2.2.2 _ hl) (S0.2.2.2.2 _ kw_32) (S0.2.2.2.2 _ kw_33) rfl (hz.trans S0.2.2.1.symm) rfl hdg hR.1 (by have := lv_room (m := m) (pc := pc) (ls := ls) (rest := rest) hcat; show 2 * (F0 m pc ls (.ref a :: rest)).monitorRoom + _ + 12 ≤ _; have h2 : (F0 m pc ls (.ref a :: rest)).monitorRoom = (F0 m pc ls rest).monitorRoom := rfl; omega) (W.eq rfl kk)
def lY (y : MethodName) (b : ByteArray) (maxL n : Nat) : Prop := (Cond.instanceMethod y ∈ gws ∧ Cond.initialized y.cls ∈ gws ∧ Cond.code y b maxL none ∈ gws) ∧ y.name = "<init>" ∧ (y.cls ≠ "java/lang/invoke/MethodHandle" ∧ y.cls ≠ "java/lang/invoke/VarHandle" ∧ (parseMethodDescriptor y.desc).map (fun d => d.parameters.length) = some n)
theorem l_blind {av : List Value} {sz : Nat} : FrameBlind (va_Pc av (lPre B0 e0 D Y ws sz)) := fun a U g mk q => ⟨q.1, q.2.1, q.2.2.1, va_K.moved (u := U) (U := U.calling g mk a) (Vm.Alike.refl U.vm) q.2.2.2.1, q.2.2.2.2.1, (show qE B0 e0 (U.calling g mk a) U.heap from qE.same (U := U) rfl q.2.2.2.2.2)⟩
theorem l_call (S0 : CallFix p m c cc nL s args gws own) (hx : lX B0 e0 D Y A s ws H locs) {y : MethodName} {b2 : ByteArray} {maxL2 fr2 lo2 mc ms n b : Nat} {As : List Value} {wc wr : va_W} {wsf : (Nat → Nat) → va_W} (isC isR : List Nat)
    (hM : qK l y b2 maxL2 fr2 lo2 mc ms B0 e0 D Y (.ref b :: As) wc wsf) (hy : lY y b2 maxL2 n) {idx : Nat} (hl : Cond.methodLink own idx y ∈ gws) (hR : fr2 + 1 ≤ R.frames ∧ 8 + (maxL2 + 11) + lo2 ≤ R.locals) (hn : As.length = n) (hC : isC.map (fun i => ws[i]?) = wc.map some) (hRr : isR.map (fun i => ws[i]?) = wr.map some) (hnC : va_nd isC = true) (hnR : va_nd isR = true) (hdis : ∀ i ∈ isR, i ∉ isC)
    (hl2 : ls.size = nL) (hcat : (rest.map fun v => v.category).sum ≤ 8) (hdg : decode cc pc = .ok (.invokespecial idx, 3)) (hroom : cells + mc ≤ R.cells ∧ slots + ms ≤ R.slots) {st0 : List Value} (hst : st0 = As.reverse ++ .ref b :: rest)
    (kk : ∀ (a : Nat → Nat) (H1 : Heap) (locs1 : List Loc), lX B0 e0 D Y A s (wr ++ wsf a) H1 locs1 → W p l e R s m args below meth c H1 locs1 (cells + mc) (slots + ms) Q (F0 m (pc + 3) ls rest)) : W p l e R s m args below meth c H locs cells slots Q (F0 m pc ls st0) := by
  obtain ⟨hP, hD, hS, hK, hA, hAB, hE⟩ := hx
  have hPc : va_P D vwCl wc H := hP.by (fun k => isC.getD k 0) (fun k q hk => by
    have h1 : (isC.map (fun i => ws[i]?))[k]? = some (some q) := by rw [hC, List.getElem?_map, hk]; rfl
    rw [List.getElem?_map] at h1
    cases hi : isC[k]? with
    | none => rw [hi] at h1; cases h1
    | some i =>
      rw [hi] at h1
      rw [List.getD_eq_getElem?_getD, hi]
      exact Option.some.inj h1)
  have hDc := hD.sub (ws' := wc) isC hnC hC
  have hF := va_free (wc := wc) hD hS hA isC hC
  refine va_callv (va_runI (As := As) (rest := rest) S0 (hM H.size) (cwI n S0.2.2.2.2 (gws_good0 hy.1.2.2) rfl rfl rfl (S0.2.2.2.2 _ hy.1.2.1) (S0.2.2.2.2 _ hl) (S0.2.2.2.2 _ hy.1.1) hy.2.1 hy.2.2 hR) ⟨l_blind, fun U hU hW => ⟨rfl, by rw [hU], by rw [hU]; exact hPc, va_K.moved hW.alike hK, hDc.weaken (fun _ _ _ h => hAB _ h), by rw [hU]; exact hE.warm hW hS.1 (fun q hq hn => hS.2.1 q hq (fun ha => hn (hAB q ha)))⟩⟩ rfl hn hl2 hst (lv_room hcat) hdg hroom) hS (fun q _ h => hF q h) hF (fun u t H1 locs1 ht hvm _ hB hz hk hS => ?_)
  obtain ⟨hP1, hK1, hD1⟩ := hB
  rw [ht] at hP1
  obtain ⟨hP2, hD2⟩ := va_join (wr := wr) (w1 := wsf u) hP hD isC isR hC hRr hnR hdis hk hF hP1 hD1
  exact kk u H1 locs1 ⟨hP2, hD2, hS, hK, hA, hAB, hE⟩
theorem l_callN (S0 : CallFix p m c cc nL s args gws own) (hx : lX B0 e0 D Y A s ws H locs) {y : MethodName} {b2 : ByteArray} {maxL2 fr2 lo2 mc ms n b : Nat} {As : List Value} {wc wr : va_W} {wsf : (Nat → Nat) → va_W} (isC isR : List Nat)
    (hM : qK l y b2 maxL2 fr2 lo2 mc ms B0 e0 D Y (.ref b :: As) wc wsf) (hy : lY y b2 maxL2 n) {idx : Nat} (hl : (own, idx, y) ∈ nws) (hR : fr2 + 1 ≤ R.frames ∧ 8 + (maxL2 + 11) + lo2 ≤ R.locals) (hn : As.length = n) (hC : isC.map (fun i => ws[i]?) = wc.map some) (hRr : isR.map (fun i => ws[i]?) = wr.map some) (hnC : va_nd isC = true) (hnR : va_nd isR = true) (hdis : ∀ i ∈ isR, i ∉ isC)
    (hl2 : ls.size = nL) (hcat : (rest.map fun v => v.category).sum ≤ 8) (hdg : decode cc pc = .ok (.invokespecial idx, 3)) (hroom : cells + mc ≤ R.cells ∧ slots + ms ≤ R.slots) {st0 : List Value} (hst : st0 = As.reverse ++ .ref b :: rest)
    (kk : ∀ (a : Nat → Nat) (H1 : Heap) (locs1 : List Loc), lX B0 e0 D Y A s (wr ++ wsf a) H1 locs1 → W p l e R s m args below meth c H1 locs1 (cells + mc) (slots + ms) Q (F0 m (pc + 3) ls rest)) : W p l e R s m args below meth c H locs cells slots Q (F0 m pc ls st0) := by
  obtain ⟨hP, hD, hS, hK, hA, hAB, hE⟩ := hx
  have hPc : va_P D vwCl wc H := hP.by (fun k => isC.getD k 0) (fun k q hk => by
    have h1 : (isC.map (fun i => ws[i]?))[k]? = some (some q) := by rw [hC, List.getElem?_map, hk]; rfl
    rw [List.getElem?_map] at h1
    cases hi : isC[k]? with
    | none => rw [hi] at h1; cases h1
    | some i =>
      rw [hi] at h1
      rw [List.getD_eq_getElem?_getD, hi]
      exact Option.some.inj h1)
  have hDc := hD.sub (ws' := wc) isC hnC hC
  have hF := va_free (wc := wc) hD hS hA isC hC
  refine va_callv (va_runIN (As := As) (rest := rest) S0 (hM H.size) ⟨va_cnB n S0.2.2.2.2 (gws_good0 hy.1.2.2) rfl rfl rfl (hE.1.1 _ hl) (S0.2.2.2.2 _ hy.1.2.1) hy.2.2 hR, hy.2.1, S0.2.2.2.2 _ hy.1.1⟩ ⟨l_blind, fun U hU hW => ⟨rfl, by rw [hU], by rw [hU]; exact hPc, va_K.moved hW.alike hK, hDc.weaken (fun _ _ _ h => hAB _ h), by rw [hU]; exact hE.warm hW hS.1 (fun q hq hn => hS.2.1 q hq (fun ha => hn (hAB q ha)))⟩⟩ rfl hn hl2 hst (lv_room hcat) hdg hroom) hS (fun q _ h => hF q h) hF (fun u t H1 locs1 ht hvm _ hB hz hk hS => ?_)
  obtain ⟨hP1, hK1, hD1⟩ := hB
  rw [ht] at hP1
  obtain ⟨hP2, hD2⟩ := va_join (wr := wr) (w1 := wsf u) hP hD isC isR hC hRr hnR hdis hk hF hP1 hD1
  exact kk u H1 locs1 ⟨hP2, hD2, hS, hK, hA, hAB, hE⟩
theorem l_of {y : MethodName} {b : ByteArray} {maxL fr lo mc ms : Nat} {av : List Value} {wsf : (Nat → Nat) → va_W} (hy : plainName y.cls = true) (hyn : y.name = "<init>") (hlen : (lg_sl av).length ≤ maxL) (own : String) (ho : y.cls = own)
    (body : ∀ (p : Program) (e : Env) (s : State) (m : MethodId) (below : List Frame) (meth : Method) (c : Code) (A : Nat → Prop) (Q : State → Prop), CallFix p m c b maxL s av.toArray gws own → meth.name = "<init>" → lX B0 e0 D Y A s ws s.heap [] →
      (∀ {pc : Nat} {ls : Array Slot} {H : Heap} {locs : List Loc} (a : Nat → Nat), decode b pc = .ok (.return_, 1) → lX B0 e0 D Y A s (wsf a) H locs → W p l e (qRx fr lo mc ms) s m av.toArray below meth c H locs mc ms Q (F0 m pc ls [])) →
      ∀ ls : Array Slot, lv_has ls maxL (lv_args 0 av) → W p l e (qRx fr lo mc ms) s m av.toArray below meth c s.heap [] 0 0 Q (F0 m 0 ls [])) : qK l y b maxL fr lo mc ms B0 e0 D Y av ws wsf := by
  intro sz
  refine Met.ofW (cc := b) (maxL := maxL) (ret := none) hy rfl ?_
  intro p e s m args below meth c s₁ B hml hv
  obtain ⟨rfl, hsz, hP, hK, hD0, hE⟩ := hv
  subst hsz
  have hts := atoms_spec (ws := qWs y b maxL none) B.pre
  have hown : s.vm.findClass y.cls = some m.cls := findClass_of_methodNamed B.named
  rw [ho] at hown
  have S0 : CallFix p m c b maxL s av.toArray gws own := ⟨B.exec, B.bytes, hml, hown, fun w h => hts w (List.mem_cons_of_mem _ h)⟩
  have hin : meth.name = "<init>" := (name_of_methodNamed B.named B.method).1.trans hyn
  have hAB : ∀ q, va_A ws s.heap.size q → B0 ≤ q := fun q h => by
    rcases h with ⟨k, e9, h⟩ | h
    · exact hD0.2 k (q, e9) h
    · exact Nat.le_trans hE.2.2.2.2.2 h
  have hx : lX B0 e0 D Y (va_A ws s.heap.size) s ws s.heap [] := ⟨hP, (hD0.weaken (B := fun _ => True) (fun _ _ _ _ => trivial)).self, va_S.rf, hK, fun q h => Or.inr h, hAB, hE⟩
  have hl := lv_entry av (n := maxL) hlen
  rw [lg_entry_eq]
  generalize (lg_sl av ++ List.replicate (maxL - (lg_sl av).length) Slot.unset).toArray = ls at hl ⊢
  exact body p e s m below meth c _ _ S0 hin hx (fun a hd hx' => W.vret S0.1 S0.2.1 B.returns (fun t ht hW => ⟨⟨a, rfl, trivial, by rw [ht]; exact hx'.1, va_K.moved hW.alike hx'.2.2.2.1, hx'.2.1⟩, hx'.2.2.1.F ht⟩) hx'.2.2.1.2.2 hd (hlocks := B.notSynchronized)) ls hl
end LR

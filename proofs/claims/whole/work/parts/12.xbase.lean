/-! METHODS THAT THROW: what they rest on, their contracts, their calls, their throws -/
def xws : List Cond := lw_tbl.filter (fun w => !goodWord w && (w.onTables && w.keepsFace))
def strs : List (String × Nat × String) := [("Leasehall", 112, "no such person"), ("Leasehall", 396, "no such server"), ("Leasehall", 123, "patience is out of range"), ("Leasehall", 132, "10 sessions were opened"), ("Leasehall", 394, "no such session"), ("Leasehall", 400, "the session has ended"), ("Leasehall", 173, "most is out of range"), ("Leasehall", 175, "time is out of range"), ("Leasehall", 183, "10 leases were made"), ("Leasehall", 398, "no such lease"), ("Leasehall", 197, "the lease has ended"), ("Leasehall", 404, "name is out of range"), ("Leasehall", 406, "value is out of range"), ("Leasehall", 213, "kind is out of range"), ("Leasehall", 412, "6 acts are gathered"), ("Leasehall", 233, "rights are out of range"), ("Leasehall", 402, "the session gathers"), ("Leasehall", 247, "the session does not gather"), ("Leasehall", 262, "place is below 0"), ("Leasehall", 275, "what is out of range"), ("Leasehall", 299, "the session has 8 watches"), ("Leasehall", 329, "many is out of range"), ("Leasehall", 344, "fence is out of range"), ("Leasehall", 408, "change is out of range"), ("Leasehall", 410, "the change is compacted"), ("Leasehall", 381, "no snapshot was kept")]
def exN (e : Nat) : String := if e = 1 then "java/lang/IndexOutOfBoundsException" else if e = 2 then "java/lang/IllegalArgumentException" else "java/lang/IllegalStateException"
abbrev exNames : List String := ["java/lang/RuntimeException", "java/lang/Exception"]
theorem xat1 : ∀ w ∈ vx_atS "Leasehall" 114 (exN 1) exNames, w ∈ gws ∨ w ∈ xws := by decide +kernel
theorem xat2 : ∀ w ∈ vx_atS "Leasehall" 125 (exN 2) exNames, w ∈ gws ∨ w ∈ xws := by decide +kernel
theorem xat3 : ∀ w ∈ vx_atS "Leasehall" 134 (exN 3) exNames, w ∈ gws ∨ w ∈ xws := by decide +kernel
theorem xgo1 : ∀ w ∈ Cond.classLink "Leasehall" 110 (exN 1) :: Cond.initialized (exN 1) :: vx_atS "Leasehall" 114 (exN 1) exNames, vx_ot w = true := by decide +kernel
theorem xgo2 : ∀ w ∈ Cond.classLink "Leasehall" 121 (exN 2) :: Cond.initialized (exN 2) :: vx_atS "Leasehall" 125 (exN 2) exNames, vx_ot w = true := by decide +kernel
theorem xgo3 : ∀ w ∈ Cond.classLink "Leasehall" 130 (exN 3) :: Cond.initialized (exN 3) :: vx_atS "Leasehall" 134 (exN 3) exNames, vx_ot w = true := by decide +kernel
/-- what all around rests on: two statics of Throwable's, words of the tables, the texts; from B0 on lies what may change -/
def qG (B0 : Nat) (U : State) (H : Heap) : Prop := vx_Zq Bundle.tN "UNASSIGNED_STACK" Bundle.steD (fun q => B0 ≤ q) U H ∧ vx_Zq Bundle.tN "SUPPRESSED_SENTINEL" Bundle.listD (fun q => B0 ≤ q) U H ∧ (∀ w ∈ xws, w.before #[] U = true) ∧ (∀ q ∈ strs, ∃ a, vk_R q.1 q.2.1 q.2.2 a U) ∧ B0 ≤ H.size
theorem xws_ot {w : Cond} (h : w ∈ xws) : w.onTables = true ∧ w.keepsFace = true := by
  have h1 := (List.mem_filter.mp h).2
  simp only [Bool.and_eq_true] at h1
  exact h1.2
theorem qG.warm {B0 : Nat} {s U : State} {H H1 : Heap} (h : qG B0 s H) (hW : s.WarmedH U.vm) (hz : H.size ≤ H1.size) (hk : ∀ q : Nat, q < H.size → ¬ B0 ≤ q → H1[q]? = H[q]?) : qG B0 U H1 := by
  obtain ⟨h1, h2, h3, h4, h5⟩ := h
  refine ⟨vx_Zq.moved hW.alike (h1.kept hk), vx_Zq.moved hW.alike (h2.kept hk), fun w hw => ?_, fun q hq => ?_, Nat.le_trans h5 hz⟩
  · obtain ⟨ho, hf⟩ := xws_ot hw
    have h9 : w.before #[] (s.setVm U.vm) = true := Cond.before_shiftedFace (State.Shifted.of_warmed hW) _ hf (h3 w hw)
    exact va_tabs (u := s.setVm U.vm) (U := U) ho rfl h9
  · obtain ⟨a, ha⟩ := h4 q hq
    exact ⟨a, vk_R.warm hW ha⟩
theorem qG.same {B0 : Nat} {U V : State} {H : Heap} (hv : V.vm = U.vm) (h : qG B0 U H) : qG B0 V H := by
  obtain ⟨h1, h2, h3, h4, h5⟩ := h
  have hA : U.vm.Alike V.vm := by rw [hv]; exact Vm.Alike.refl _
  refine ⟨vx_Zq.moved hA h1, vx_Zq.moved hA h2, fun w hw => va_tabs (xws_ot hw).1 hv.symm (h3 w hw), fun q hq => ?_, h5⟩
  obtain ⟨a, ha⟩ := h4 q hq
  exact ⟨a, vk_R.same hv ha⟩
abbrev qRx (fr lo mc ms : Nat) : Room := { frames := fr, cells := mc, slots := ms, locals := lo }
def qPx (B0 : Nat) (D : va_G) (L : qLay) (tys : List (ClassId × FieldType)) (ad : qAd) (σ : qS) (sz : Nat) (U : State) : Prop := qPre D L tys ad σ sz U ∧ (∀ k i, qd L σ k i → B0 ≤ ad k i) ∧ qG B0 U U.heap
/-- thrown: e, in the state that the function tells -/
def qXC {α : Type} (D : va_G) (L : qLay) (tys : List (ClassId × FieldType)) (ad : qAd) (A : Nat → Prop) (fv : Option (α × Nat × qS)) : String → State → State → Prop :=
  vx_X (S := Nat × qS) (fun u => ∃ r, fv = some (r, u.1, u.2)) (fun E u t => E = exN u.1 ∧ u.1 ≠ 0 ∧ qB D L tys A ad u.2 t) A
def qXi (l : Launch) (y : MethodName) (b : ByteArray) (maxL : Nat) (ret : Option FieldType) (fr lo mc ms B0 : Nat) (D : va_G) (L : qLay) (tys : List (ClassId × FieldType)) (ad : qAd) (av : List Value) (σ : qS) (fv : Option (Int32 × Nat × qS)) : Prop :=
  ∀ (sz : Nat) (r0 : Int32 × Nat × qS), fv = some r0 → vx_Met l y (qWs y b maxL ret) (qRx fr lo mc ms) (va_Pc av (qPx B0 D L tys ad σ sz)) (va_Qi (fun r u => fv = some (r, 0, u)) (qB D L tys (qA L ad σ sz) ad) (qA L ad σ sz)) (qXC D L tys ad (qA L ad σ sz) fv) mc ms (qA L ad σ sz)
def qXv (l : Launch) (y : MethodName) (b : ByteArray) (maxL : Nat) (ret : Option FieldType) (fr lo mc ms B0 : Nat) (D : va_G) (L : qLay) (tys : List (ClassId × FieldType)) (ad : qAd) (av : List Value) (σ : qS) (fv : Option (Int32 × Nat × qS)) : Prop :=
  ∀ (sz : Nat) (r0 : Int32 × Nat × qS), fv = some r0 → vx_Met l y (qWs y b maxL ret) (qRx fr lo mc ms) (va_Pc av (qPx B0 D L tys ad σ sz)) (va_Qv (fun u => ∃ r, fv = some (r, 0, u)) (qB D L tys (qA L ad σ sz) ad) (qA L ad σ sz)) (qXC D L tys ad (qA L ad σ sz) fv) mc ms (qA L ad σ sz)
def qXr (l : Launch) (y : MethodName) (b : ByteArray) (maxL : Nat) (ret : Option FieldType) (fr lo mc ms kr B0 : Nat) (D : va_G) (L : qLay) (tys : List (ClassId × FieldType)) (ad : qAd) (av : List Value) (σ : qS) (fv : Option (Nat × Nat × qS)) : Prop :=
  ∀ (sz : Nat) (r0 : Nat × Nat × qS), fv = some r0 → vx_Met l y (qWs y b maxL ret) (qRx fr lo mc ms) (va_Pc av (qPx B0 D L tys ad σ sz)) (va_Qr (S := Nat × qS) (fun u => fv = some (u.1, 0, u.2)) (fun u a t => a = ad kr u.1 ∧ qB D L tys (qA L ad σ sz) ad u.2 t) (qA L ad σ sz)) (qXC D L tys ad (qA L ad σ sz) fv) mc ms (qA L ad σ sz)
/-- a call's answer, or what it throws, goes on -/
def bnd3 {α γ β : Type} (x : Option (α × Nat × γ)) (k : α → γ → Option β) (kx : Nat → γ → Option β) : Option β := match x with | none => none | some a => if a.2.1 = 0 then k a.1 a.2.2 else kx a.2.1 a.2.2
theorem bnd3_some {α γ β : Type} {x : Option (α × Nat × γ)} {k : α → γ → Option β} {kx : Nat → γ → Option β} {r : β} (h : bnd3 x k kx = some r) : ∃ a e b, x = some (a, e, b) ∧ (e = 0 → k a b = some r) ∧ (e ≠ 0 → kx e b = some r) := by
  cases x with
  | none => cases h
  | some a =>
    refine ⟨a.1, a.2.1, a.2.2, rfl, fun c => ?_, fun c => ?_⟩
    · exact (if_pos c : bnd3 (some a) k kx = _).symm.trans h
    · exact (if_neg c : bnd3 (some a) k kx = _).symm.trans h
section QX
variable {p : Program} {l : Launch} {e : Env} {R : Room} {s : State} {m : MethodId} {args : Array Value} {below : List Frame} {meth : Method} {c : Code} {H : Heap} {locs : List Loc} {cells slots : Nat} {Q : State → Prop}
variable {cc : ByteArray} {pc nL : Nat} {ls : Array Slot} {rest : List Value} {own : String}
variable {D : va_G} {L : qLay} {tys : List (ClassId × FieldType)} {A : Nat → Prop} {ad : qAd} {σ : qS} {β : Type} {r0 : β} {B0 : Nat}
theorem qx_blind {av : List Value} {sz : Nat} : FrameBlind (va_Pc av (qPx B0 D L tys ad σ sz)) := fun a U g mk q => ⟨q.1, ⟨q.2.1.1, q.2.1.2.1, va_K.moved (u := U) (U := U.calling g mk a) (Vm.Alike.refl U.vm) q.2.1.2.2⟩, q.2.2.1, (show qG B0 (U.calling g mk a) U.heap from qG.same (U := U) rfl q.2.2.2)⟩
theorem qx_pre (hw : qW D L tys A s.heap s ad σ H locs) (hG : qG B0 s s.heap) (hAB : ∀ q, A q → B0 ≤ q) {av : List Value} {U : State} (hU : U.heap = H) (hW : s.WarmedH U.vm) : va_Pc av (qPx B0 D L tys ad σ H.size) av.toArray U :=
  ⟨rfl, ⟨by rw [hU], by rw [hU]; exact hw.1, va_K.moved hW.alike hw.2.2.2.1⟩, fun k i h => hAB _ (hw.2.1 k i h), by
    rw [hU]
    exact hG.warm hW hw.2.2.1.1 (fun q hq hn => hw.2.2.1.2.1 q hq (fun ha => hn (hAB q ha)))⟩
/-- thrown through here -/
abbrev qHx (p : Program) (l : Launch) (e : Env) (R : Room) (s : State) (m : MethodId) (args : Array Value) (below : List Frame) (meth : Method) (c : Code) (Q : State → Prop) (D : va_G) (L : qLay) (tys : List (ClassId × FieldType)) (A : Nat → Prop) (ad : qAd) {α : Type} (r0 : α × Nat × qS) : Prop :=
  ∀ {pc : Nat} {ls : Array Slot} {H : Heap} {locs : List Loc} {rest : List Value} {cl sl : Nat} {q9 : Addr} {ce : Cell} {ex : Nat} {r : α} {σ' : qS}, qW D L tys A s.heap s ad σ' H locs → some (r, ex, σ') = some r0 → ex ≠ 0 → H[q9]? = some ce → ce.vm = .none → s.vm.findClass (exN ex) = some ce.cls → cl ≤ R.cells → sl ≤ R.slots → vx_W p l e R s m args below meth c H locs cl sl Q (F0 m pc ls rest) q9
theorem q_xcalli (S0 : CallFix p m c cc nL s args gws own) (hG : qG B0 s s.heap) (hAB : ∀ q, A q → B0 ≤ q) (hw : qW D L tys A s.heap s ad σ H locs) {y : MethodName} {C : String} {b2 : ByteArray} {maxL2 fr2 lo2 mc ms n : Nat} {ret2 : Option FieldType} {As : List Value} {fv : Option (Int32 × Nat × qS)} {k i ci : Nat} {fs : List Value}
    (hM : qXi l y b2 maxL2 ret2 fr2 lo2 mc ms B0 D L tys ad (.ref (ad k i) :: As) σ fv) (hy : qY y C b2 maxL2 ret2 n) {idx : Nat} (hl : Cond.methodLink own idx y ∈ gws) (hR : fr2 + 1 ≤ R.frames ∧ 8 + (maxL2 + 11) + lo2 ≤ R.locals) (hd : qd L σ k i) (he : qc L ad σ k i = .inr (ci, fs)) {q : vw_C} (hc : vwCl[ci]? = some q) (hq : q.1 = C)
    (hn : As.length = n) (hl2 : ls.size = nL) (hcat : (rest.map fun v => v.category).sum ≤ 8) (hdg : decode cc pc = .ok (.invokevirtual idx, 3)) (hroom : cells + mc ≤ R.cells ∧ slots + ms ≤ R.slots) {st0 : List Value} (hst : st0 = As.reverse ++ .ref (ad k i) :: rest)
    {kf : Int32 → qS → Option β} {kx : Nat → qS → Option β} (hf : bnd3 fv kf kx = some r0)
    (kX : ∀ (ex : Nat) (ce : Cell) (q9 : Addr) (σ' : qS) (H1 : Heap) (locs1 : List Loc), qW D L tys A s.heap s ad σ' H1 locs1 → kx ex σ' = some r0 → ex ≠ 0 → H1[q9]? = some ce → ce.vm = .none → s.vm.findClass (exN ex) = some ce.cls → vx_W p l e R s m args below meth c H1 locs1 (cells + mc) (slots + ms) Q (F0 m pc ls rest) q9)
    (kk : ∀ (r : Int32) (σ' : qS) (H1 : Heap) (locs1 : List Loc), qW D L tys A s.heap s ad σ' H1 locs1 → kf r σ' = some r0 → W p l e R s m args below meth c H1 locs1 (cells + mc) (slots + ms) Q (F0 m (pc + 3) ls (.int r :: rest))) : W p l e R s m args below meth c H locs cells slots Q (F0 m pc ls st0) := by
  obtain ⟨r1, e1, σ1, h1, h2, h3⟩ := bnd3_some hf
  subst hq
  refine vx_calli (vx_runV (As := As) (rest := rest) S0 (hM H.size _ h1) (cwV n S0.2.2.2.2 (gws_V hy hl) rfl rfl rfl hy.2 hR) ⟨qx_blind, va_recv hw.2.2.2.1 (hw.one hd he) hc (q0 := 0) rfl, fun U hU hW => qx_pre hw hG hAB hU hW⟩ rfl hn hl2 hst (lv_room hcat) hdg hroom) hw.2.2.1 (fun q _ h => q_sub hw q h) (q_sub hw) (fun q _ h => q_sub hw q h) (fun E ce q9 u t H1 locs1 ht hvm hp hB hz hk hS hce hcv hcl => ?_) (fun r u t H1 locs1 ht hvm hp hB hz hk hS => ?_)
  · obtain ⟨r2, hp⟩ := hp
    obtain ⟨rfl, hne, hB⟩ := hB
    cases h1.symm.trans hp
    exact kX _ _ _ _ H1 locs1 (q_back hw ht hvm hB hS) (h3 hne) hne hce hcv hcl
  · cases h1.symm.trans hp
    exact kk _ _ H1 locs1 (q_back hw ht hvm hB hS) (h2 rfl)
theorem q_xcallv (S0 : CallFix p m c cc nL s args gws own) (hG : qG B0 s s.heap) (hAB : ∀ q, A q → B0 ≤ q) (hw : qW D L tys A s.heap s ad σ H locs) {y : MethodName} {C : String} {b2 : ByteArray} {maxL2 fr2 lo2 mc ms n : Nat} {ret2 : Option FieldType} {As : List Value} {fv : Option (Int32 × Nat × qS)} {k i ci : Nat} {fs : List Value}
    (hM : qXv l y b2 maxL2 ret2 fr2 lo2 mc ms B0 D L tys ad (.ref (ad k i) :: As) σ fv) (hy : qY y C b2 maxL2 ret2 n) {idx : Nat} (hl : Cond.methodLink own idx y ∈ gws) (hR : fr2 + 1 ≤ R.frames ∧ 8 + (maxL2 + 11) + lo2 ≤ R.locals) (hd : qd L σ k i) (he : qc L ad σ k i = .inr (ci, fs)) {q : vw_C} (hc : vwCl[ci]? = some q) (hq : q.1 = C)
    (hn : As.length = n) (hl2 : ls.size = nL) (hcat : (rest.map fun v => v.category).sum ≤ 8) (hdg : decode cc pc = .ok (.invokevirtual idx, 3)) (hroom : cells + mc ≤ R.cells ∧ slots + ms ≤ R.slots) {st0 : List Value} (hst : st0 = As.reverse ++ .ref (ad k i) :: rest)
    {kf : Int32 → qS → Option β} {kx : Nat → qS → Option β} (hf : bnd3 fv kf kx = some r0)
    (kX : ∀ (ex : Nat) (ce : Cell) (q9 : Addr) (σ' : qS) (H1 : Heap) (locs1 : List Loc), qW D L tys A s.heap s ad σ' H1 locs1 → kx ex σ' = some r0 → ex ≠ 0 → H1[q9]? = some ce → ce.vm = .none → s.vm.findClass (exN ex) = some ce.cls → vx_W p l e R s m args below meth c H1 locs1 (cells + mc) (slots + ms) Q (F0 m pc ls rest) q9)
    (kk : ∀ (r : Int32) (σ' : qS) (H1 : Heap) (locs1 : List Loc), qW D L tys A s.heap s ad σ' H1 locs1 → kf r σ' = some r0 → W p l e R s m args below meth c H1 locs1 (cells + mc) (slots + ms) Q (F0 m (pc + 3) ls rest)) : W p l e R s m args below meth c H locs cells slots Q (F0 m pc ls st0) := by
  obtain ⟨r1, e1, σ1, h1, h2, h3⟩ := bnd3_some hf
  subst hq
  refine vx_callv (vx_runV (As := As) (rest := rest) S0 (hM H.size _ h1) (cwV n S0.2.2.2.2 (gws_V hy hl) rfl rfl rfl hy.2 hR) ⟨qx_blind, va_recv hw.2.2.2.1 (hw.one hd he) hc (q0 := 0) rfl, fun U hU hW => qx_pre hw hG hAB hU hW⟩ rfl hn hl2 hst (lv_room hcat) hdg hroom) hw.2.2.1 (fun q _ h => q_sub hw q h) (q_sub hw) (fun q _ h => q_sub hw q h) (fun E ce q9 u t H1 locs1 ht hvm hp hB hz hk hS hce hcv hcl => ?_) (fun u t H1 locs1 ht hvm hp hB hz hk hS => ?_)
  · obtain ⟨r2, hp⟩ := hp
    obtain ⟨rfl, hne, hB⟩ := hB
    cases h1.symm.trans hp
    exact kX _ _ _ _ H1 locs1 (q_back hw ht hvm hB hS) (h3 hne) hne hce hcv hcl
  · obtain ⟨r2, hp⟩ := hp
    cases h1.symm.trans hp
    exact kk _ _ H1 locs1 (q_back hw ht hvm hB hS) (h2 rfl)
theorem q_xscallv (S0 : CallFix p m c cc nL s args gws own) (hG : qG B0 s s.heap) (hAB : ∀ q, A q → B0 ≤ q) (hw : qW D L tys A s.heap s ad σ H locs) {y : MethodName} {b2 : ByteArray} {maxL2 fr2 lo2 mc ms n : Nat} {ret2 : Option FieldType} {As : List Value} {fv : Option (Int32 × Nat × qS)}
    (hM : qXv l y b2 maxL2 ret2 fr2 lo2 mc ms B0 D L tys ad As σ fv) (hy : qYs y b2 maxL2 ret2 n) {idx : Nat} (hl : Cond.methodLink own idx y ∈ gws) (hR : fr2 + 1 ≤ R.frames ∧ 8 + (maxL2 + 11) + lo2 ≤ R.locals)
    (hn : As.length = n) (hl2 : ls.size = nL) (hcat : (rest.map fun v => v.category).sum ≤ 8) (hdg : decode cc pc = .ok (.invokestatic idx, 3)) (hroom : cells + mc ≤ R.cells ∧ slots + ms ≤ R.slots) {st0 : List Value} (hst : st0 = As.reverse ++ rest)
    {kf : Int32 → qS → Option β} {kx : Nat → qS → Option β} (hf : bnd3 fv kf kx = some r0)
    (kX : ∀ (ex : Nat) (ce : Cell) (q9 : Addr) (σ' : qS) (H1 : Heap) (locs1 : List Loc), qW D L tys A s.heap s ad σ' H1 locs1 → kx ex σ' = some r0 → ex ≠ 0 → H1[q9]? = some ce → ce.vm = .none → s.vm.findClass (exN ex) = some ce.cls → vx_W p l e R s m args below meth c H1 locs1 (cells + mc) (slots + ms) Q (F0 m pc ls rest) q9)
    (kk : ∀ (r : Int32) (σ' : qS) (H1 : Heap) (locs1 : List Loc), qW D L tys A s.heap s ad σ' H1 locs1 → kf r σ' = some r0 → W p l e R s m args below meth c H1 locs1 (cells + mc) (slots + ms) Q (F0 m (pc + 3) ls rest)) : W p l e R s m args below meth c H locs cells slots Q (F0 m pc ls st0) := by
  obtain ⟨r1, e1, σ1, h1, h2, h3⟩ := bnd3_some hf
  refine vx_callv (vx_runS (As := As) (rest := rest) S0 (hM H.size _ h1) ⟨callB_of n S0.2.2.2.2 (gws_good0 hy.1.2.2) rfl rfl rfl (S0.2.2.2.2 _ hy.1.2.1) (S0.2.2.2.2 _ hl) hy.2 hR, S0.2.2.2.2 _ hy.1.1⟩ ⟨qx_blind, fun U hU hW => qx_pre hw hG hAB hU hW⟩ rfl hn hl2 hst (lv_room hcat) hdg hroom) hw.2.2.1 (fun q _ h => q_sub hw q h) (q_sub hw) (fun q _ h => q_sub hw q h) (fun E ce q9 u t H1 locs1 ht hvm hp hB hz hk hS hce hcv hcl => ?_) (fun u t H1 locs1 ht hvm hp hB hz hk hS => ?_)
  · obtain ⟨r2, hp⟩ := hp
    obtain ⟨rfl, hne, hB⟩ := hB
    cases h1.symm.trans hp
    exact kX _ _ _ _ H1 locs1 (q_back hw ht hvm hB hS) (h3 hne) hne hce hcv hcl
  · obtain ⟨r2, hp⟩ := hp
    cases h1.symm.trans hp
    exact kk _ _ H1 locs1 (q_back hw ht hvm hB hS) (h2 rfl)
/-- a call of a method that hands back an object or throws -/
theorem vx_callr9 {S SX : Type} {mc ms : Nat} {A0 A1 AX : Nat → Prop} {H0 : Heap} {free : Addr → Prop} {a : Array Value} {st0 : List Value} {post : S → Prop} {px : SX → Prop} {B : S → Nat → State → Prop} {BX : String → SX → State → Prop} (hr : vx_Run p l e R s m args below meth c H locs cells slots mc ms (F0 m pc ls st0) rest (va_Qr post B A1 a) (vx_X px BX AX) free) (hS : va_S A0 H0 H locs) (hA : ∀ q, q < H.size → A1 q → A0 q) (hf : ∀ q, free q → A0 q) (hAX : ∀ q, q < H.size → AX q → A0 q)
    (kx : ∀ (E : String) (ce : Cell) (q9 : Addr) (u : SX) (t : State) (H1 : Heap) (locs1 : List Loc), t.heap = H1 → s.vm.Alike t.vm → px u → BX E u t → H.size ≤ H1.size → (∀ q : Nat, q < H.size → ¬ AX q → H1[q]? = H[q]?) → va_S A0 H0 H1 locs1 → H1[q9]? = some ce → ce.vm = .none → s.vm.findClass E = some ce.cls → vx_W p l e R s m args below meth c H1 locs1 (cells + mc) (slots + ms) Q (F0 m pc ls rest) q9)
    (kk : ∀ (u : S) (ra : Nat) (t : State) (H1 : Heap) (locs1 : List Loc), t.heap = H1 → s.vm.Alike t.vm → post u → B u ra t → H.size ≤ H1.size → (∀ q : Nat, q < H.size → ¬ A1 q → H1[q]? = H[q]?) → va_S A0 H0 H1 locs1 → W p l e R s m args below meth c H1 locs1 (cells + mc) (slots + ms) Q (F0 m (pc + 3) ls (.ref ra :: rest))) : W p l e R s m args below meth c H locs cells slots Q (F0 m pc ls st0) := by
  intro T hT X
  rcases hr T hT X with ⟨v, st₀, t, T', L, h0, X', hL, e1, e2, ⟨⟨u, ra, hv, hp, hb⟩, hF⟩, st⟩ | ⟨q, st₀, t, T', L, E, ce, h0, X', hL, e1, e2, ⟨u, hp, hb, hF⟩, hce, hcv, hcl, st⟩
  · cases hv
    obtain ⟨k1, k2, k3⟩ := vx_keep h0 e1 hS hA hf hL hF
    obtain ⟨t2, a1, b1⟩ := kk u ra t T'.heap (locs ++ L) e1.symm (by rw [← e2]; exact X'.warmed.alike) hp hb k1 k2 k3 T' rfl X'
    exact ⟨t2, st t2 a1, b1⟩
  · obtain ⟨k1, k2, k3⟩ := vx_keep h0 e1 hS hAX hf hL hF
    obtain ⟨t2, a1, b1⟩ := kx E ce q u t T'.heap (locs ++ L) e1.symm (by rw [← e2]; exact X'.warmed.alike) hp hb k1 k2 k3 (by rw [e1]; exact hce) hcv hcl T' rfl X'
    exact ⟨t2, st.trans a1, b1⟩
theorem q_xcallr (S0 : CallFix p m c cc nL s args gws own) (hG : qG B0 s s.heap) (hAB : ∀ q, A q → B0 ≤ q) (hw : qW D L tys A s.heap s ad σ H locs) {y : MethodName} {C : String} {b2 : ByteArray} {maxL2 fr2 lo2 mc ms n kr : Nat} {ret2 : Option FieldType} {As : List Value} {fv : Option (Nat × Nat × qS)} {k i ci : Nat} {fs : List Value}
    (hM : qXr l y b2 maxL2 ret2 fr2 lo2 mc ms kr B0 D L tys ad (.ref (ad k i) :: As) σ fv) (hy : qY y C b2 maxL2 ret2 n) {idx : Nat} (hl : Cond.methodLink own idx y ∈ gws) (hR : fr2 + 1 ≤ R.frames ∧ 8 + (maxL2 + 11) + lo2 ≤ R.locals) (hd : qd L σ k i) (he : qc L ad σ k i = .inr (ci, fs)) {q : vw_C} (hc : vwCl[ci]? = some q) (hq : q.1 = C)
    (hn : As.length = n) (hl2 : ls.size = nL) (hcat : (rest.map fun v => v.category).sum ≤ 8) (hdg : decode cc pc = .ok (.invokevirtual idx, 3)) (hroom : cells + mc ≤ R.cells ∧ slots + ms ≤ R.slots) {st0 : List Value} (hst : st0 = As.reverse ++ .ref (ad k i) :: rest)
    {kf : Nat → qS → Option β} {kx : Nat → qS → Option β} (hf : bnd3 fv kf kx = some r0)
    (kX : ∀ (ex : Nat) (ce : Cell) (q9 : Addr) (σ' : qS) (H1 : Heap) (locs1 : List Loc), qW D L tys A s.heap s ad σ' H1 locs1 → kx ex σ' = some r0 → ex ≠ 0 → H1[q9]? = some ce → ce.vm = .none → s.vm.findClass (exN ex) = some ce.cls → vx_W p l e R s m args below meth c H1 locs1 (cells + mc) (slots + ms) Q (F0 m pc ls rest) q9)
    (kk : ∀ (r : Nat) (σ' : qS) (H1 : Heap) (locs1 : List Loc), qW D L tys A s.heap s ad σ' H1 locs1 → kf r σ' = some r0 → W p l e R s m args below meth c H1 locs1 (cells + mc) (slots + ms) Q (F0 m (pc + 3) ls (.ref (ad kr r) :: rest))) : W p l e R s m args below meth c H locs cells slots Q (F0 m pc ls st0) := by
  obtain ⟨r1, e1, σ1, h1, h2, h3⟩ := bnd3_some hf
  subst hq
  refine vx_callr9 (vx_runV (As := As) (rest := rest) S0 (hM H.size _ h1) (cwV n S0.2.2.2.2 (gws_V hy hl) rfl rfl rfl hy.2 hR) ⟨qx_blind, va_recv hw.2.2.2.1 (hw.one hd he) hc (q0 := 0) rfl, fun U hU hW => qx_pre hw hG hAB hU hW⟩ rfl hn hl2 hst (lv_room hcat) hdg hroom) hw.2.2.1 (fun q _ h => q_sub hw q h) (q_sub hw) (fun q _ h => q_sub hw q h) (fun E ce q9 u t H1 locs1 ht hvm hp hB hz hk hS hce hcv hcl => ?_) (fun u ra t H1 locs1 ht hvm hp hB hz hk hS => ?_)
  · obtain ⟨r2, hp⟩ := hp
    obtain ⟨rfl, hne, hB⟩ := hB
    cases h1.symm.trans hp
    exact kX _ _ _ _ H1 locs1 (q_back hw ht hvm hB hS) (h3 hne) hne hce hcv hcl
  · cases h1.symm.trans hp
    rw [hB.1]
    exact kk _ _ H1 locs1 (q_back hw ht hvm hB.2 hS) (h2 rfl)
end QX

/-! WATCH AND HEAR: the row may grow, and they throw -/
theorem rm {a C mc d : Nat} (h : C = mc + d) (h2 : Nat.ble a mc = true) : a ≤ C := by
  have h3 := Nat.le_of_ble_eq_true h2
  omega
theorem bnd3_keep {α γ β : Type} {P : α → γ → Prop} {fv : Option (α × Nat × γ)} {kf : α → γ → Option β} {kx : Nat → γ → Option β} {r0 : β} (hs : ∀ v s, fv = some (v, 0, s) → P v s) (hf : bnd3 fv kf kx = some r0) : bnd3 fv (fun v s => @ite _ (P v s) (Classical.propDecidable _) (kf v s) none) kx = some r0 := by
  obtain ⟨a, e, b, h1, h2, h3⟩ := bnd3_some hf
  subst h1
  by_cases h : e = 0
  · subst h
    exact (show bnd3 (some (a, 0, b)) (fun v s => @ite _ (P v s) (Classical.propDecidable _) (kf v s) none) kx = (@ite _ (P a b) (Classical.propDecidable _) (kf a b) none) from rfl).trans ((if_pos (hs a b rfl)).trans (h2 rfl))
  · exact (show bnd3 (some (a, e, b)) (fun v s => @ite _ (P v s) (Classical.propDecidable _) (kf v s) none) kx = kx e b from if_neg h).trans (h3 h)
theorem known_n {F : Nat} {p1 : Int32} {σ s1 : qS} {i2 : Nat} (h : fX8_known F p1 σ = some (i2, 0, s1)) : i2 = p1.toNatClampNeg ∧ s1.2 = σ.2 := by
  unfold fX8_known fX8_known_15 at h
  rcases ite_some h with ⟨-, h⟩ | ⟨-, h⟩
  · cases h
  · obtain ⟨v2, -, h⟩ := nm_some h
    rcases ite_some h with ⟨-, h⟩ | ⟨-, h⟩
    · obtain ⟨-, h⟩ := gnl_some h
      obtain ⟨-, h⟩ := inx_some h
      obtain ⟨i4, e4, h⟩ := nm_some h
      obtain ⟨-, h⟩ := gnl_some h
      cases h
      exact ⟨e4, rfl⟩
    · cases h
theorem gk_fX8_isWithin_15 {F : Nat} {t0 : Int32} {σ : qS} {r : Int32 × qS} (h : fX8_isWithin_15 F t0 σ = some r) : r.2 = σ := by
  unfold fX8_isWithin_15 at h
  obtain ⟨-, h⟩ := gbl_some h
  cases h
  rfl
theorem gk_fX8_isWithin_14 {F : Nat} {σ : qS} {r : Int32 × qS} (h : fX8_isWithin_14 F σ = some r) : r.2 = σ := by
  unfold fX8_isWithin_14 at h
  exact gk_fX8_isWithin_15 h
theorem gk_fX8_isWithin {F : Nat} {p1 : Int32} {p2 : Int32} {p3 : Int32} {σ : qS} {r : Int32 × qS} (h : fX8_isWithin F p1 p2 p3 σ = some r) : r.2 = σ := by
  unfold fX8_isWithin at h
  rcases ite_some h with ⟨-, h⟩ | ⟨-, h⟩
  · exact gk_fX8_isWithin_14 h
  · rcases ite_some h with ⟨-, h⟩ | ⟨-, h⟩
    · exact gk_fX8_isWithin_14 h
    · exact gk_fX8_isWithin_15 h
theorem gk_fX8_believe_51 {F : Nat} {i1 : Nat} {σ : qS} {r : qS} (h : fX8_believe_51 F i1 σ = some r) : r.2 = σ.2 := by
  unfold fX8_believe_51 at h
  cases h
  rfl
theorem gk_fX8_believe_50 {F : Nat} {i1 : Nat} {t1 : Int32} {t2 : Int32} {σ : qS} {r : qS} (h : fX8_believe_50 F i1 t1 t2 σ = some r) : r.2 = σ.2 := by
  unfold fX8_believe_50 at h
  obtain ⟨-, h⟩ := inx_some h
  obtain ⟨s10, es10, h⟩ := nm_some h
  have fs10 : s10.2 = σ.2 := (show s10.2 = σ.2 from by rw [es10]; exact rfl)
  clear es10
  exact (gk_fX8_believe_51 h).trans fs10
theorem gk_fX8_believe {F : Nat} {i1 : Nat} {p2 : Int32} {p3 : Int32} {σ : qS} {r : qS} (h : fX8_believe F i1 p2 p3 σ = some r) : r.2 = σ.2 := by
  unfold fX8_believe at h
  obtain ⟨v2, s1, gs1, h⟩ := bnd2_some h
  have fs1 : s1.2 = σ.2 := congrArg Prod.snd (gk_fX8_isWithin gs1)
  clear gs1
  rcases ite_some h with ⟨-, h⟩ | ⟨-, h⟩
  · exact (gk_fX8_believe_51 h).trans fs1
  · obtain ⟨-, h⟩ := gnl_some h
    obtain ⟨v4, ev4, h⟩ := nm_some h
    clear ev4
    obtain ⟨v5, ev5, h⟩ := nm_some h
    clear ev5
    rcases ite_some h with ⟨-, h⟩ | ⟨-, h⟩
    · obtain ⟨-, h⟩ := ldi_some h
      obtain ⟨v8, ev8, h⟩ := nm_some h
      clear ev8
      obtain ⟨v9, ev9, h⟩ := nm_some h
      clear ev9
      exact (gk_fX8_believe_50 h).trans fs1
    · obtain ⟨-, h⟩ := ldi_some h
      obtain ⟨v12, ev12, h⟩ := nm_some h
      clear ev12
      exact (gk_fX8_believe_50 h).trans fs1
theorem gk_fX8_forgetLocks_2 {F : Nat} {i1 : Nat} : ∀ (n : Nat) (x2 : Int32) (σ : qS) (r : qS), fX8_forgetLocks_2 F i1 n x2 σ = some r → r.2 = σ.2 := by
  intro n
  induction n with
  | zero => intro x2 σ r h; exact absurd h (by rw [fX8_forgetLocks_2]; exact nofun)
  | succ n ih =>
    intro x2 σ r h
    rw [fX8_forgetLocks_2] at h
    rcases ite_some h with ⟨-, h⟩ | ⟨-, h⟩
    · cases h
      rfl
    · obtain ⟨s2, gs2, h⟩ := bnd_some h
      have fs2 : s2.2 = σ.2 := gk_fX8_believe gs2
      clear gs2
      obtain ⟨v3, ev3, h⟩ := nm_some h
      clear ev3
      exact (ih _ _ _ h).trans fs2
theorem gk_fX8_forgetLocks {F : Nat} {i1 : Nat} {σ : qS} {r : qS} (h : fX8_forgetLocks F i1 σ = some r) : r.2 = σ.2 := by
  unfold fX8_forgetLocks at h
  exact gk_fX8_forgetLocks_2 _ _ _ _ h
theorem gk_fX8_mustLive {F : Nat} {i1 : Nat} {σ : qS} {r : Int32 × Nat × qS} (h : fX8_mustLive F i1 σ = some r) : r.2.2.2 = σ.2 := by
  unfold fX8_mustLive at h
  obtain ⟨-, h⟩ := gnl_some h
  obtain ⟨v1, ev1, h⟩ := nm_some h
  clear ev1
  rcases ite_some h with ⟨-, h⟩ | ⟨-, h⟩
  · cases h
    rfl
  · obtain ⟨s3, gs3, h⟩ := bnd_some h
    have fs3 : s3.2 = σ.2 := gk_fX8_forgetLocks gs3
    clear gs3
    cases h
    exact fs3
theorem gk_fX8_wake {F : Nat} {i1 : Nat} {σ : qS} {r : Int32 × Nat × qS} (h : fX8_wake F i1 σ = some r) : r.2.2.2 = σ.2 := by
  unfold fX8_wake at h
  obtain ⟨w0, w1, s1, gs1, h3, h4⟩ := bnd3_some h
  have fs1 : s1.2 = σ.2 := gk_fX8_mustLive gs1
  by_cases c9 : w1 = 0
  · replace h := h3 c9
    obtain ⟨v2, ev2, h⟩ := nm_some h
    clear ev2
    obtain ⟨-, h⟩ := gnl_some h
    obtain ⟨s3, es3, h⟩ := nm_some h
    have fs3 : s3.2 = σ.2 := ((show s3.2 = s1.2 from by rw [es3]; exact rfl)).trans fs1
    clear es3
    cases h
    exact fs3
  · replace h := h4 c9
    cases h
    exact fs1
theorem gk_fX7_holds_24 {F : Nat} {i0 : Nat} {t0 : Int32} {σ : qS} {r : Int32 × qS} (h : fX7_holds_24 F i0 t0 σ = some r) : r.2 = σ := by
  unfold fX7_holds_24 at h
  obtain ⟨-, h⟩ := gbl_some h
  cases h
  rfl
theorem gk_fX7_holds_23 {F : Nat} {i0 : Nat} {σ : qS} {r : Int32 × qS} (h : fX7_holds_23 F i0 σ = some r) : r.2 = σ := by
  unfold fX7_holds_23 at h
  exact gk_fX7_holds_24 h
theorem gk_fX7_holds {F : Nat} {i0 : Nat} {p1 : Int32} {σ : qS} {r : Int32 × qS} (h : fX7_holds F i0 p1 σ = some r) : r.2 = σ := by
  unfold fX7_holds at h
  obtain ⟨-, h⟩ := gnl_some h
  rcases ite_some h with ⟨-, h⟩ | ⟨-, h⟩
  · exact gk_fX7_holds_23 h
  · rcases ite_some h with ⟨-, h⟩ | ⟨-, h⟩
    · exact gk_fX7_holds_23 h
    · obtain ⟨-, h⟩ := ldi_some h
      rcases ite_some h with ⟨-, h⟩ | ⟨-, h⟩
      · exact gk_fX7_holds_23 h
      · exact gk_fX7_holds_24 h
theorem gk_fX7_readingRefused_30 {F : Nat} {i0 : Nat} {t0 : Int32} {σ : qS} {r : Int32 × qS} (h : fX7_readingRefused_30 F i0 t0 σ = some r) : r.2 = σ := by
  unfold fX7_readingRefused_30 at h
  cases h
  rfl
theorem gk_fX7_readingRefused {F : Nat} {i0 : Nat} {p1 : Int32} {p2 : Int32} {σ : qS} {r : Int32 × qS} (h : fX7_readingRefused F i0 p1 p2 σ = some r) : r.2 = σ := by
  unfold fX7_readingRefused at h
  obtain ⟨-, h⟩ := gnl_some h
  obtain ⟨v2, s1, gs1, h⟩ := bnd2_some h
  have fs1 : s1 = σ := gk_fX7_holds gs1
  clear gs1
  rcases ite_some h with ⟨-, h⟩ | ⟨-, h⟩
  · cases h
    exact fs1
  · obtain ⟨-, h⟩ := ldi_some h
    obtain ⟨v5, ev5, h⟩ := nm_some h
    clear ev5
    obtain ⟨v6, ev6, h⟩ := nm_some h
    clear ev6
    rcases ite_some h with ⟨-, h⟩ | ⟨-, h⟩
    · exact (gk_fX7_readingRefused_30 h).trans fs1
    · exact (gk_fX7_readingRefused_30 h).trans fs1
theorem gk_fX6_addWatch_39 {F : Nat} {i0 : Nat} {σ : qS} {r : Int32 × qS} (h : fX6_addWatch_39 F i0 σ = some r) : r.2.2 = σ.2 := by
  unfold fX6_addWatch_39 at h
  obtain ⟨-, h⟩ := gnl_some h
  obtain ⟨v3, ev3, h⟩ := nm_some h
  clear ev3
  cases h
  rfl
theorem gk_fX6_addWatch {F : Nat} {i0 : Nat} {p1 : Int32} {p2 : Int32} {σ : qS} {r : Int32 × qS} (h : fX6_addWatch F i0 p1 p2 σ = some r) : r.2.2 = σ.2 := by
  unfold fX6_addWatch at h
  obtain ⟨-, h⟩ := gnl_some h
  obtain ⟨v1, ev1, h⟩ := nm_some h
  clear ev1
  rcases ite_some h with ⟨-, h⟩ | ⟨-, h⟩
  · exact gk_fX6_addWatch_39 h
  · obtain ⟨-, h⟩ := gnl_some h
    obtain ⟨-, h⟩ := gnl_some h
    obtain ⟨v4, ev4, h⟩ := nm_some h
    clear ev4
    obtain ⟨-, h⟩ := gnl_some h
    obtain ⟨-, h⟩ := inx_some h
    obtain ⟨s5, es5, h⟩ := nm_some h
    have fs5 : s5.2 = σ.2 := (show s5.2 = σ.2 from by rw [es5]; exact rfl)
    clear es5
    obtain ⟨-, h⟩ := gnl_some h
    obtain ⟨-, h⟩ := gnl_some h
    obtain ⟨v6, ev6, h⟩ := nm_some h
    clear ev6
    obtain ⟨-, h⟩ := gnl_some h
    obtain ⟨-, h⟩ := inx_some h
    obtain ⟨s7, es7, h⟩ := nm_some h
    have fs7 : s7.2 = σ.2 := ((show s7.2 = s5.2 from by rw [es7]; exact rfl)).trans fs5
    clear es7
    obtain ⟨-, h⟩ := gnl_some h
    obtain ⟨v8, ev8, h⟩ := nm_some h
    clear ev8
    obtain ⟨v9, ev9, h⟩ := nm_some h
    clear ev9
    obtain ⟨-, h⟩ := gnl_some h
    obtain ⟨s10, es10, h⟩ := nm_some h
    have fs10 : s10.2 = σ.2 := ((show s10.2 = s7.2 from by rw [es10]; exact rfl)).trans fs7
    clear es10
    exact (gk_fX6_addWatch_39 h).trans fs10
theorem gk_fX4_takeOldest {F : Nat} {i0 : Nat} {σ : qS} {r : Int32 × qS} (h : fX4_takeOldest F i0 σ = some r) : r.2.2 = σ.2 := by
  unfold fX4_takeOldest at h
  obtain ⟨-, h⟩ := gnl_some h
  obtain ⟨v1, ev1, h⟩ := nm_some h
  clear ev1
  obtain ⟨-, h⟩ := gnl_some h
  obtain ⟨v2, ev2, h⟩ := nm_some h
  clear ev2
  rcases ite_some h with ⟨-, h⟩ | ⟨-, h⟩
  · obtain ⟨-, h⟩ := gnl_some h
    obtain ⟨-, h⟩ := gnl_some h
    obtain ⟨v4, ev4, h⟩ := nm_some h
    clear ev4
    obtain ⟨-, h⟩ := gnl_some h
    obtain ⟨-, h⟩ := ldi_some h
    obtain ⟨-, h⟩ := gnl_some h
    obtain ⟨v6, ev6, h⟩ := nm_some h
    clear ev6
    obtain ⟨v7, ev7, h⟩ := nm_some h
    clear ev7
    obtain ⟨-, h⟩ := gnl_some h
    obtain ⟨s8, es8, h⟩ := nm_some h
    have fs8 : s8.2 = σ.2 := (show s8.2 = σ.2 from by rw [es8]; exact rfl)
    clear es8
    cases h
    exact fs8
  · cases h
    rfl
def qXCz {α : Type} (D : va_G) (Y : Nat → ClassId) (ad : qAd) (A : Nat → Prop) (fv : Option (α × Nat × qS)) : String → State → State → Prop :=
  vx_X (S := Nat × (Nat → Nat) × qS) (fun u => ∃ r, fv = some (r, u.1, u.2.2)) (fun E u t => E = exN u.1 ∧ u.1 ≠ 0 ∧ qB D (cL Y) (qT Y) A (aw ad u.2.1) u.2.2 t) A
/-- a method that answers an int or throws, under which the row of session gi may grow -/
def qZi (l : Launch) (y : MethodName) (b : ByteArray) (maxL : Nat) (ret : Option FieldType) (fr lo mc ms gi B0 e0 : Nat) (D : va_G) (Y : Nat → ClassId) (ad : qAd) (z : Nat → Nat) (av : List Value) (σ : qS) (fv : Option (Int32 × Nat × qS)) : Prop :=
  ∀ (sz : Nat) (r0 : Int32 × Nat × qS), fv = some r0 → vx_Met l y (qWs y b maxL ret) (qRx fr lo (mc + (r0.2.2.2 3 gi - σ.2 3 gi)) (ms + 2 * (r0.2.2.2 3 gi - σ.2 3 gi))) (va_Pc av (qPy B0 e0 D Y (aw ad z) σ sz)) (va_Qi (S := (Nat → Nat) × qS) (fun r u => fv = some (r, 0, u.2)) (fun u t => qB D (cL Y) (qT Y) (qA (cL Y) (aw ad z) σ sz) (aw ad u.1) u.2 t) (qA (cL Y) (aw ad z) σ sz)) (qXCz D Y ad (qA (cL Y) (aw ad z) σ sz) fv) (mc + (r0.2.2.2 3 gi - σ.2 3 gi)) (ms + 2 * (r0.2.2.2 3 gi - σ.2 3 gi)) (qA (cL Y) (aw ad z) σ sz)
/-- thrown through here, addresses of rows being others -/
abbrev gHx (p : Program) (l : Launch) (e : Env) (R : Room) (s : State) (m : MethodId) (args : Array Value) (below : List Frame) (meth : Method) (c : Code) (Q : State → Prop) (D : va_G) (Y : Nat → ClassId) (A : Nat → Prop) (ad : qAd) {α : Type} (r0 : α × Nat × qS) : Prop :=
  ∀ {pc : Nat} {ls : Array Slot} {H : Heap} {locs : List Loc} {rest : List Value} {cl sl : Nat} {q9 : Addr} {ce : Cell} {ex : Nat} {r : α} {z' : Nat → Nat} {σ' : qS}, qW D (cL Y) (qT Y) A s.heap s (aw ad z') σ' H locs → some (r, ex, σ') = some r0 → ex ≠ 0 → H[q9]? = some ce → ce.vm = .none → s.vm.findClass (exN ex) = some ce.cls → cl ≤ R.cells → sl ≤ R.slots → vx_W p l e R s m args below meth c H locs cl sl Q (F0 m pc ls rest) q9
def hAt (p : Program) (l : Launch) (e : Env) (fr lo C S : Nat) (s : State) (m : MethodId) (args : Array Value) (below : List Frame) (meth : Method) (c : Code) (Q : State → Prop) (D : va_G) (Y : Nat → ClassId) (A : Nat → Prop) (ad : qAd) (nL cb sb pc : Nat) (lv : (Nat → Nat) → List (Nat × Value)) (st : List Value) (σ : qS) : Prop :=
  ∀ (z : Nat → Nat) (cells slots : Nat), cells ≤ cb → slots ≤ sb → qAt p l e (qRx fr lo C S) s m args below meth c Q D (cL Y) (qT Y) A (aw ad z) nL cells slots pc (lv z) st σ
section ZB
variable {p : Program} {l : Launch} {e : Env} {R : Room} {s : State} {m : MethodId} {args : Array Value} {below : List Frame} {meth : Method} {c : Code} {H : Heap} {locs : List Loc} {cells slots : Nat} {Q : State → Prop}
variable {cc : ByteArray} {pc nL : Nat} {ls : Array Slot} {rest : List Value} {own : String}
variable {D : va_G} {L : qLay} {tys : List (ClassId × FieldType)} {Y : Nat → ClassId} {A : Nat → Prop} {ad : qAd} {z : Nat → Nat} {σ : qS} {B0 e0 : Nat}
theorem q_throwX (hst : l.stackTraces = false) (S0 : CallFix p m c cc nL s args gws own) (hG : qG B0 s s.heap) (hAB : ∀ q, A q → B0 ≤ q) (hlk : meth.locks = false) (hout : ∀ x ∈ c.exceptionTable.toList, False) (hw : qW D L tys A s.heap s ad σ H locs) {ex : Nat} {Qc : Array Value → State → Outcome → State → Prop} {QX : String → State → State → Prop} {ik is ic : Nat} {text : String} (ht : qThr own ex ik is ic text) {cl sl mc ms : Nat} (hd : qThD cc pc ik is ic) (hz : ls.size = nL) (hcat : (rest.map fun v => v.category).sum ≤ 8) (hR : 5 < R.frames ∧ 90 ≤ R.locals) (hRc : cl + 1 ≤ R.cells ∧ sl + 6 ≤ R.slots) (hm : cl + 1 ≤ mc ∧ sl + 6 ≤ ms)
    (hx : ∀ t : State, s.vm.Alike t.vm → H.size ≤ t.heap.size → (∀ q : Nat, q < H.size → t.heap[q]? = H[q]?) → QX (exN ex) s t) :
    W p l e R s m args below meth c H locs cl sl (vx_MQ below Qc QX args s mc ms A) (F0 m pc ls rest) := by
  obtain ⟨t1, t2, t3, t4, t5, t6⟩ := ht
  obtain ⟨d0, d3, d4⟩ := hd
  obtain ⟨g1, g2, g3, g4, g5⟩ := hG
  obtain ⟨sa, hsa⟩ := g4 _ t3
  have hts := S0.2.2.2.2
  have hat : ∀ w ∈ vx_atS own ic (exN ex) exNames, w.before args s = true := fun w hw => by
    rcases t4 w hw with h | h
    · exact hts w h
    · exact va_tabs (u := s) (U := s) (xws_ot h).1 rfl (g3 w h)
  have hno : ∀ pc', ∀ x ∈ c.exceptionTable.toList, covers x pc' = false := fun _ x hx => (hout x hx).elim
  have hRl : (rest.map fun v => v.category).sum + (13 * (exNames.length + 1) + 43) ≤ R.locals := Nat.le_trans (Nat.add_le_add_right hcat _) hR.2
  rcases d4 with ⟨d4, d6, d9⟩ | ⟨d4, d6, d9⟩
  · exact vx_throwS S0.1 S0.2.1 hst S0.2.2.2.1 t6 exNames_fit (hts _ t1) (hts _ t2) hsa hat t5 (g1.narrow hAB) (g2.narrow hAB) hw.2.2.1 (hz.trans S0.2.2.1.symm) d0 d3 d4 d6 d9 (hno _) hR.1 hRl hRc.1 hRc.2 hlk hx hw.2.2.1.2.2 hm.1 hm.2
  · exact vx_throwSW S0.1 S0.2.1 hst S0.2.2.2.1 t6 exNames_fit (hts _ t1) (hts _ t2) hsa hat t5 (g1.narrow hAB) (g2.narrow hAB) hw.2.2.1 (hz.trans S0.2.2.1.symm) d0 d3 d4 d6 d9 (hno _) hR.1 hRl hRc.1 hRc.2 hlk hx hw.2.2.1.2.2 hm.1 hm.2
theorem q_ozi (hst : l.stackTraces = false) {y : MethodName} {b : ByteArray} {maxL fr lo mc ms gi : Nat} {av : List Value} {fv : Option (Int32 × Nat × qS)} (hy : plainName y.cls = true) (hlen : (lg_sl av).length ≤ maxL) (hfl : 5 < fr ∧ 90 ≤ lo) (own : String) (ho : y.cls = own)
    (body : ∀ (p : Program) (e : Env) (s : State) (m : MethodId) (below : List Frame) (meth : Method) (c : Code) (A : Nat → Prop) (Q : State → Prop) (r0 : Int32 × Nat × qS) (n0 nr C S : Nat), CallFix p m c b maxL s av.toArray gws own → fv = some r0 → σ.2 3 gi = n0 → r0.2.2.2 3 gi = nr → C = mc + (nr - n0) → S = ms + 2 * (nr - n0) → qW D (cL Y) (qT Y) A s.heap s (aw ad z) σ s.heap [] → qG B0 s s.heap → (∀ q, A q → B0 ≤ q) → qE B0 e0 s s.heap →
      (∀ {pc : Nat} {ls : Array Slot} {H : Heap} {locs : List Loc} {v : Int32} {z' : Nat → Nat} {σ' : qS}, decode b pc = .ok (.ireturn, 1) → qW D (cL Y) (qT Y) A s.heap s (aw ad z') σ' H locs → some (v, 0, σ') = some r0 → W p l e (qRx fr lo C S) s m av.toArray below meth c H locs C S Q (F0 m pc ls [.int v])) →
      gHx p l e (qRx fr lo C S) s m av.toArray below meth c Q D Y A ad r0 →
      (∀ {pc : Nat} {ls : Array Slot} {H : Heap} {locs : List Loc} {rest : List Value} {cl sl ex ik is ic : Nat} {text : String} {r : Int32} {z' : Nat → Nat} {σ' : qS}, qThr own ex ik is ic text → ex ≠ 0 → qW D (cL Y) (qT Y) A s.heap s (aw ad z') σ' H locs → some (r, ex, σ') = some r0 → qThD b pc ik is ic → ls.size = maxL → (rest.map fun v => v.category).sum ≤ 8 → cl + 1 ≤ C ∧ sl + 6 ≤ S → W p l e (qRx fr lo C S) s m av.toArray below meth c H locs cl sl Q (F0 m pc ls rest)) →
      ∀ ls : Array Slot, lv_has ls maxL (lv_args 0 av) → W p l e (qRx fr lo C S) s m av.toArray below meth c s.heap [] 0 0 Q (F0 m 0 ls [])) : qZi l y b maxL (some .int) fr lo mc ms gi B0 e0 D Y ad z av σ fv := by
  intro sz r0 hf
  refine vx_ofW (cc := b) (maxL := maxL) (ret := (some .int)) hy rfl ?_
  intro p e s m args below meth c s₁ B hml hout hv
  obtain ⟨rfl, ⟨⟨hsz, hV, hK⟩, hB0, hG⟩, hE⟩ := hv
  subst hsz
  have hts := atoms_spec (ws := qWs y b maxL (some .int)) B.pre
  have hown : s.vm.findClass y.cls = some m.cls := findClass_of_methodNamed B.named
  rw [ho] at hown
  have S0 : CallFix p m c b maxL s av.toArray gws own := ⟨B.exec, B.bytes, hml, hown, fun w h => hts w (List.mem_cons_of_mem _ h)⟩
  have hw : qW D (cL Y) (qT Y) (qA (cL Y) (aw ad z) σ s.heap.size) s.heap s (aw ad z) σ s.heap [] := ⟨hV, fun k i h => Or.inl ⟨k, i, h, rfl⟩, va_S.rf, hK, fun q h => Or.inr h⟩
  have hAB : ∀ q, qA (cL Y) (aw ad z) σ s.heap.size q → B0 ≤ q := fun q h => by
    rcases h with ⟨k, i, hd, rfl⟩ | h
    · exact hB0 k i hd
    · exact Nat.le_trans hG.2.2.2.2 h
  have hl := lv_entry av (n := maxL) hlen
  rw [lg_entry_eq]
  generalize (lg_sl av ++ List.replicate (maxL - (lg_sl av).length) Slot.unset).toArray = ls at hl ⊢
  refine body p e s m below meth c _ _ r0 _ _ _ _ S0 hf rfl rfl rfl rfl hw hG hAB hE ?_ ?_ ?_ ls hl
  · exact fun {pc ls H locs v z' σ'} hd hw' h => vx_ret (W.iret S0.1 S0.2.1 B.returns (fun t ht hW => ⟨⟨_, (z', σ'), rfl, hf.trans h.symm, ⟨by rw [ht]; exact hw'.1, hw'.2.1, va_K.moved hW.alike hw'.2.2.2.1⟩⟩, hw'.2.2.1.F ht⟩) hw'.2.2.1.2.2 hd (hlocks := B.notSynchronized))
  · intro pc ls H locs rest cl sl q9 ce ex r z' σ' hw' h hne hce hcv hcl h1 h2
    exact vx_out (fun x hx => (hout x hx).elim) B.notSynchronized hce hcv hcl (fun t ht hvm => ⟨(ex, z', σ'), ⟨r, hf.trans h.symm⟩, ⟨rfl, hne, ⟨by rw [ht]; exact hw'.1, hw'.2.1, va_K.moved hvm hw'.2.2.2.1⟩⟩, hw'.2.2.1.F ht⟩) hw'.2.2.1.2.2 h1 h2
  · intro pc ls H locs rest cl sl ex ik is ic text r z' σ' ht hne hw' h hd hz hcat hm
    exact q_throwX hst S0 hG hAB B.notSynchronized hout hw' ht hd hz hcat hfl hm hm (fun t hvm hz hk => ⟨(ex, z', σ'), ⟨r, hf.trans h.symm⟩, ⟨rfl, hne, ⟨⟨fun k i hd => (hw'.1.1 k i hd).kept (hk _ (hw'.1.1 k i hd).lt), hw'.1.2⟩, hw'.2.1, va_K.moved hvm hw'.2.2.2.1⟩⟩, Nat.le_trans hw'.2.2.1.1 hz, fun q hq hn => (hk q (Nat.lt_of_lt_of_le hq hw'.2.2.1.1)).trans (hw'.2.2.1.2.1 q hq hn)⟩)
end ZB
theorem qyX8_watch : qY yX8_watch RX8 cX8_watch 6 (some .int) 3 := ⟨⟨kw_976, kw_977, kw_1, kw_978⟩, rfl, by decide, by decide, by decide +kernel⟩
def fX8_watch_104 (F : Nat) (t0 : Int32) (σ : qS) : Option (Int32 × Nat × qS) :=
  some (t0, 0, σ)
def fX8_watch_38 (F : Nat) (x2 : Int32) (x3 : Int32) (rx4 : Nat) (σ : qS) : Option (Int32 × Nat × qS) :=
  gnl rx4 (σ.2 0 0) (nm (σ.1 50 rx4 11) fun v8 => (if v8 < 8 then (nm (σ.1 0 0 14) fun v10 => (gnl rx4 (σ.2 0 0) (nm (qI σ 50 rx4 9 v10) fun s11 => (gnl rx4 (s11.2 0 0) (nm (s11.2 2 rx4) fun i12 => (gnl i12 3 (gnl rx4 (s11.2 0 0) (nm (s11.1 50 rx4 1) fun v13 => (gnl i12 6 (bnd2 (fX7_readingRefused F i12 x2 v13 s11) fun v15 s14 => (if 0 ≤ v15 then (gnl rx4 (s14.2 0 0) (bnd2 (fX6_addWatch F rx4 x2 x3 s14) fun v18 s17 => (fX8_watch_104 F v18 s17))) else (fX8_watch_104 F v15 s14)))))))))))) else (some (0, 3, σ))))
def fX8_watch (F : Nat) (p1 : Int32) (p2 : Int32) (p3 : Int32) (σ : qS) : Option (Int32 × Nat × qS) :=
  bnd3 (fX8_known F p1 σ) (fun i2 s1 => bnd2 (fX8_isWithin F p3 0 2 s1) fun v4 s3 => (if v4 = 0 then (some (0, 2, s3)) else (bnd3 (fX8_mustLive F i2 s3) (fun _ s6 => bnd (fX8_tellWatches F i2 s6) fun s7 => (fX8_watch_38 F p2 p3 i2 s7)) (fun e s => some (0, e, s))))) (fun e s => some (0, e, s))
theorem qyX8_hear : qY yX8_hear RX8 cX8_hear 3 (some .int) 1 := ⟨⟨kw_1027, kw_1028, kw_1, kw_1029⟩, rfl, by decide, by decide, by decide +kernel⟩
def fX8_hear_16 (F : Nat) (rx2 : Nat) (σ : qS) : Option (Int32 × Nat × qS) :=
  gnl rx2 (σ.2 0 0) (gnl rx2 (σ.2 0 0) (bnd2 (fX4_takeOldest F rx2 σ) fun v6 s5 => (some (v6, 0, s5))))
def fX8_hear (F : Nat) (p1 : Int32) (σ : qS) : Option (Int32 × Nat × qS) :=
  bnd3 (fX8_known F p1 σ) (fun i2 s1 => bnd3 (fX8_wake F i2 s1) (fun _ s3 => bnd (fX8_tellWatches F i2 s3) fun s4 => (fX8_hear_16 F i2 s4)) (fun e s => some (0, e, s))) (fun e s => some (0, e, s))
theorem gk_fX8_watch_104 {F : Nat} {t0 : Int32} {σ : qS} {r : Int32 × Nat × qS} (h : fX8_watch_104 F t0 σ = some r) : r.2.2.2 = σ.2 := by
  unfold fX8_watch_104 at h
  cases h
  rfl
theorem gk_fX8_watch_38 {F : Nat} {x2 : Int32} {x3 : Int32} {rx4 : Nat} {σ : qS} {r : Int32 × Nat × qS} (h : fX8_watch_38 F x2 x3 rx4 σ = some r) : r.2.2.2 = σ.2 := by
  unfold fX8_watch_38 at h
  obtain ⟨-, h⟩ := gnl_some h
  obtain ⟨v8, ev8, h⟩ := nm_some h
  clear ev8
  rcases ite_some h with ⟨-, h⟩ | ⟨-, h⟩
  · obtain ⟨v10, ev10, h⟩ := nm_some h
    clear ev10
    obtain ⟨-, h⟩ := gnl_some h
    obtain ⟨s11, es11, h⟩ := nm_some h
    have fs11 : s11.2 = σ.2 := (show s11.2 = σ.2 from by rw [es11]; exact rfl)
    clear es11
    obtain ⟨-, h⟩ := gnl_some h
    obtain ⟨i12, ei12, h⟩ := nm_some h
    clear ei12
    obtain ⟨-, h⟩ := gnl_some h
    obtain ⟨-, h⟩ := gnl_some h
    obtain ⟨v13, ev13, h⟩ := nm_some h
    clear ev13
    obtain ⟨-, h⟩ := gnl_some h
    obtain ⟨v15, s14, gs14, h⟩ := bnd2_some h
    have fs14 : s14.2 = σ.2 := (congrArg Prod.snd (gk_fX7_readingRefused gs14)).trans fs11
    clear gs14
    rcases ite_some h with ⟨-, h⟩ | ⟨-, h⟩
    · obtain ⟨-, h⟩ := gnl_some h
      obtain ⟨v18, s17, gs17, h⟩ := bnd2_some h
      have fs17 : s17.2 = σ.2 := (gk_fX6_addWatch gs17).trans fs14
      clear gs17
      exact (gk_fX8_watch_104 h).trans fs17
    · exact (gk_fX8_watch_104 h).trans fs14
  · cases h
    rfl
theorem gk_fX8_hear_16 {F : Nat} {rx2 : Nat} {σ : qS} {r : Int32 × Nat × qS} (h : fX8_hear_16 F rx2 σ = some r) : r.2.2.2 = σ.2 := by
  unfold fX8_hear_16 at h
  obtain ⟨-, h⟩ := gnl_some h
  obtain ⟨-, h⟩ := gnl_some h
  obtain ⟨v6, s5, gs5, h⟩ := bnd2_some h
  have fs5 : s5.2 = σ.2 := gk_fX4_takeOldest gs5
  clear gs5
  cases h
  exact fs5
set_option maxRecDepth 100000 in
set_option maxHeartbeats 4000000 in
theorem wX8_watch (l : Launch) (hst : l.stackTraces = false) (D : va_G) (Y : Nat → ClassId) (ad : qAd) (z : Nat → Nat) (B0 e0 F : Nat) (p1 : Int32) (p2 : Int32) (p3 : Int32) (σ : qS) : qZi l yX8_watch cX8_watch 6 (some .int) 7 179 3 18 p1.toNatClampNeg B0 e0 D Y ad z [.ref (aw ad z 0 0), .int p1, .int p2, .int p3] σ (fX8_watch F p1 p2 p3 σ) := by
  refine q_ozi hst (by decide) (Nat.le_of_ble_eq_true rfl) ⟨by decide, by decide⟩ "Leasehall" rfl (fun p e s m below meth c A Q r0 n0 nr C S S0 hf hn0 hnr hCe hSe hw hG hAB hE hret hHx hthr ls hl => ?_)
  replace hl : lv_has ls 6 [(0, .ref (aw ad z 0 0)), (1, .int p1), (2, .int p2), (3, .int p3)] := hl
  unfold fX8_watch at hf
  have b104 : ∀ (t0 : Int32) (σ : qS), fX8_watch_104 F t0 σ = some r0 → hAt p l e 7 179 C S s m ([.ref (aw ad z 0 0), .int p1, .int p2, .int p3] : List Value).toArray below meth c Q D Y A ad 6 (2 + (nr - n0)) (12 + 2 * (nr - n0)) 104 (fun z => []) [.int t0] σ := by
    clear hf hw hl ls hn0
    intro t0 σ hf z cells slots hC hS H locs ls hw hl
    replace hl : lv_has ls 6 [] := hl
    unfold fX8_watch_104 at hf
    exact W.widen (by omega) (by omega) (hret dX8_watch_104 hw hf)
  have b38 : ∀ (x2 : Int32) (x3 : Int32) (rx4 : Nat) (σ : qS), fX8_watch_38 F x2 x3 rx4 σ = some r0 → hAt p l e 7 179 C S s m ([.ref (aw ad z 0 0), .int p1, .int p2, .int p3] : List Value).toArray below meth c Q D Y A ad 6 (2 + (nr - n0)) (12 + 2 * (nr - n0)) 38 (fun z => [(0, .ref (aw ad z 0 0)), (2, .int x2), (3, .int x3), (4, .ref (aw ad z 50 rx4))]) [] σ := by
    clear hf hw hl ls hn0
    intro x2 x3 rx4 σ hf z cells slots hC hS H locs ls hw hl
    replace hl : lv_has ls 6 [(0, .ref (aw ad z 0 0)), (2, .int x2), (3, .int x3), (4, .ref (aw ad z 50 rx4))] := hl
    unfold fX8_watch_38 at hf
    refine lv_aload S0.1 S0.2.1 dX8_watch_38 (lv_at hl 3 rfl) ?_
    obtain ⟨hd, hf⟩ := gnl_some hf
    refine gX6_watches S0 hw hd kw_489 dX8_watch_40 hf (fun v8 hf => ?_)
    refine lv_bipush (v := 8) S0.1 S0.2.1 dX8_watch_43 (by decide) ?_
    refine lv_icmp_lt (tgt := 59) S0.1 S0.2.1 dX8_watch_45 (by decide) (fun c9 => ?_) (fun c9 => ?_)
    · replace hf := q_pos c9 hf
      refine lv_aload S0.1 S0.2.1 dX8_watch_59 (lv_at hl 3 rfl) ?_
      refine lv_aload_n S0.1 S0.2.1 dX8_watch_61 rfl (lv_at hl 0 rfl) ?_
      refine gX8_now S0 hw kw_241 dX8_watch_62 hf (fun v10 hf => ?_)
      obtain ⟨hd, hf⟩ := gnl_some hf
      refine pX6_last S0 hw hd kw_485 dX8_watch_65 hf (fun s11 H locs hw hf => ?_)
      refine lv_aload S0.1 S0.2.1 dX8_watch_68 (lv_at hl 3 rfl) ?_
      obtain ⟨hd, hf⟩ := gnl_some hf
      refine gX6_server S0 hw hd kw_483 dX8_watch_70 hf (fun i12 hf => ?_)
      obtain ⟨hd, hf⟩ := gnl_some hf
      refine gX5_tree S0 hw hd kw_211 dX8_watch_73 ?_
      refine lv_iload_n S0.1 S0.2.1 dX8_watch_76 rfl (lv_at hl 1 rfl) ?_
      refine lv_aload S0.1 S0.2.1 dX8_watch_77 (lv_at hl 3 rfl) ?_
      obtain ⟨hd, hf⟩ := gnl_some hf
      refine gX6_person S0 hw hd kw_471 dX8_watch_79 hf (fun v13 hf => ?_)
      obtain ⟨hd, hf⟩ := gnl_some hf
      refine q_calli (k := 30) (i := i12) S0 hw (As := [.int x2, .int v13]) (rest := []) (wX7_readingRefused l D Y (aw ad z) F i12 x2 v13 s11) qyX7_readingRefused kw_855 ⟨Nat.le_of_ble_eq_true rfl, Nat.le_of_ble_eq_true rfl⟩ hd rfl rfl rfl rfl hl.1 (Nat.le_of_ble_eq_true rfl) dX8_watch_82 ⟨show cells ≤ C by omega, show slots ≤ S by omega⟩ rfl hf (fun v15 s14 H locs hw hf => ?_)
      refine lv_istore (lv' := [(5, .int v15), (0, .ref (aw ad z 0 0)), (2, .int x2), (3, .int x3), (4, .ref (aw ad z 50 rx4))]) S0.1 S0.2.1 dX8_watch_85 hl (by decide) rfl (fun ls hl => ?_)
      refine lv_iload S0.1 S0.2.1 dX8_watch_87 (lv_at hl 0 rfl) ?_
      refine lv_if_ge (tgt := 97) S0.1 S0.2.1 dX8_watch_89 (by decide) (fun c16 => ?_) (fun c16 => ?_)
      · replace hf := q_pos c16 hf
        refine lv_aload S0.1 S0.2.1 dX8_watch_97 (lv_at hl 4 rfl) ?_
        refine lv_iload_n S0.1 S0.2.1 dX8_watch_99 rfl (lv_at hl 2 rfl) ?_
        refine lv_iload_n S0.1 S0.2.1 dX8_watch_100 rfl (lv_at hl 3 rfl) ?_
        obtain ⟨hd, hf⟩ := gnl_some hf
        refine q_calli (k := 50) (i := rx4) S0 hw (As := [.int x2, .int x3]) (rest := []) (wX6_addWatch l D Y (aw ad z) F rx4 x2 x3 s14) qyX6_addWatch kw_1019 ⟨Nat.le_of_ble_eq_true rfl, Nat.le_of_ble_eq_true rfl⟩ hd rfl rfl rfl rfl hl.1 (Nat.le_of_ble_eq_true rfl) dX8_watch_101 ⟨show cells ≤ C by omega, show slots ≤ S by omega⟩ rfl hf (fun v18 s17 H locs hw hf => ?_)
        exact b104 v18 s17 hf z cells slots hC hS _ _ _ hw (lv_sub hl [] rfl)
      · replace hf := q_neg c16 hf
        refine lv_iload S0.1 S0.2.1 dX8_watch_92 (lv_at hl 0 rfl) ?_
        refine lv_goto (tgt := 104) S0.1 S0.2.1 dX8_watch_94 (by decide) ?_
        exact b104 v15 s14 hf z cells slots hC hS _ _ _ hw (lv_sub hl [] rfl)
    · replace hf := q_neg c9 hf
      exact hthr qt3_299 (by decide) hw hf ⟨dX8_watch_48, dX8_watch_51, Or.inr ⟨dX8_watch_52, dX8_watch_55, dX8_watch_58⟩⟩ hl.1 (Nat.le_of_ble_eq_true rfl) ⟨by omega, by omega⟩
  refine lv_aload_n S0.1 S0.2.1 dX8_watch_0 rfl (lv_at hl 0 rfl) ?_
  refine lv_iload_n S0.1 S0.2.1 dX8_watch_1 rfl (lv_at hl 1 rfl) ?_
  refine q_xcallr S0 hG hAB hw (As := [.int p1]) (rest := []) (wX8_known l hst D Y (aw ad z) B0 F p1 σ) qyX8_known kw_599 ⟨Nat.le_of_ble_eq_true rfl, Nat.le_of_ble_eq_true rfl⟩ dC_0 rfl rfl rfl rfl hl.1 (Nat.le_of_ble_eq_true rfl) dX8_watch_2 ⟨rm hCe rfl, rm hSe rfl⟩ rfl (bnd3_keep (P := fun v s => v = p1.toNatClampNeg ∧ s.2 = σ.2) (fun v s h => known_n h) hf) (fun ex ce q9 s9 H locs hw hf hne hce hcv hcl => hHx hw hf hne hce hcv hcl (rm hCe rfl) (rm hSe rfl)) (fun i2 s1 H locs hw hf => ?_)
  obtain ⟨⟨rfl, e1⟩, hf⟩ := keep_some hf
  have kN : s1.2 3 p1.toNatClampNeg = n0 := by rw [e1]; exact hn0
  refine lv_astore (lv' := [(4, .ref (aw ad z 50 p1.toNatClampNeg)), (0, .ref (aw ad z 0 0)), (1, .int p1), (2, .int p2), (3, .int p3)]) S0.1 S0.2.1 dX8_watch_5 hl (by decide) rfl (fun ls hl => ?_)
  refine lv_iload_n S0.1 S0.2.1 dX8_watch_7 rfl (lv_at hl 4 rfl) ?_
  refine lv_iconst (v := 0) S0.1 S0.2.1 dX8_watch_8 (by decide) ?_
  refine lv_iconst (v := 2) S0.1 S0.2.1 dX8_watch_9 (by decide) ?_
  refine q_scalli S0 hw (As := [.int p3, .int 0, .int 2]) (rest := []) (wX8_isWithin l D Y (aw ad z) F p3 0 2 s1) qsX8_isWithin kw_296 ⟨Nat.le_of_ble_eq_true rfl, Nat.le_of_ble_eq_true rfl⟩ rfl hl.1 (Nat.le_of_ble_eq_true rfl) dX8_watch_10 ⟨rm hCe rfl, rm hSe rfl⟩ rfl (bnd2_keep (fun v s h => congrArg Prod.snd (gk_fX8_isWithin h)) hf) (fun v4 s3 H locs hw hf => ?_)
  obtain ⟨e1, hf⟩ := keep_some hf
  replace kN : s3.2 3 p1.toNatClampNeg = n0 := by rw [e1]; exact kN
  refine lv_if_ne (tgt := 26) S0.1 S0.2.1 dX8_watch_13 (by decide) (fun c5 => ?_) (fun c5 => ?_)
  · replace hf := q_neg c5 hf
    refine lv_aload_n S0.1 S0.2.1 dX8_watch_26 rfl (lv_at hl 1 rfl) ?_
    refine lv_aload S0.1 S0.2.1 dX8_watch_27 (lv_at hl 0 rfl) ?_
    refine q_xcallv S0 hG hAB hw (As := [.ref (aw ad z 50 p1.toNatClampNeg)]) (rest := []) (wX8_mustLive l hst D Y (aw ad z) B0 F p1.toNatClampNeg s3) qyX8_mustLive kw_618 ⟨Nat.le_of_ble_eq_true rfl, Nat.le_of_ble_eq_true rfl⟩ dC_0 rfl rfl rfl rfl hl.1 (Nat.le_of_ble_eq_true rfl) dX8_watch_29 ⟨rm hCe rfl, rm hSe rfl⟩ rfl (bnd3_keep (P := fun _ s => s.2 = s3.2) (fun v s h => gk_fX8_mustLive h) hf) (fun ex ce q9 s9 H locs hw hf hne hce hcv hcl => hHx hw hf hne hce hcv hcl (rm hCe rfl) (rm hSe rfl)) (fun _ s6 H locs hw hf => ?_)
    obtain ⟨e1, hf⟩ := keep_some hf
    replace kN : s6.2 3 p1.toNatClampNeg = n0 := by rw [e1]; exact kN
    refine lv_aload_n S0.1 S0.2.1 dX8_watch_32 rfl (lv_at hl 1 rfl) ?_
    refine lv_aload S0.1 S0.2.1 dX8_watch_33 (lv_at hl 0 rfl) ?_
    refine q_gcallv (gi := p1.toNatClampNeg) (nr := nr) (Cb := 2 + (nr - n0)) (Sb := 12 + 2 * (nr - n0)) S0 hG hE hAB hw (As := [.ref (aw ad z 50 p1.toNatClampNeg)]) (rest := []) (wX8_tellWatches l D Y ad z B0 e0 F p1.toNatClampNeg s6) qyX8_tellWatches kw_979 ⟨Nat.le_of_ble_eq_true rfl, Nat.le_of_ble_eq_true rfl⟩ dC_0 rfl rfl rfl rfl hl.1 (Nat.le_of_ble_eq_true rfl) dX8_watch_35 rfl hf (fun s1 h => gk_fX8_tellWatches h) (fun s1 h => by rw [← hnr, ← (gk_fX8_watch_38 h)]; exact Nat.le_refl _) (show _ ≤ C by omega) (show _ ≤ S by omega) (by rw [kN]; omega) (by rw [kN]; omega) (fun z s7 H locs cells slots hw hr hf hN hC hS => ?_)
    exact b38 p2 p3 p1.toNatClampNeg s7 hf z cells slots (by omega) (by omega) _ _ _ hw (lv_sub hl [1, 3, 4, 0] rfl)
  · replace hf := q_pos c5 hf
    exact hthr qt2_213 (by decide) hw hf ⟨dX8_watch_16, dX8_watch_19, Or.inl ⟨dX8_watch_20, dX8_watch_22, dX8_watch_25⟩⟩ hl.1 (Nat.le_of_ble_eq_true rfl) ⟨rm hCe rfl, rm hSe rfl⟩

set_option maxRecDepth 100000 in
set_option maxHeartbeats 4000000 in
theorem wX8_hear (l : Launch) (hst : l.stackTraces = false) (D : va_G) (Y : Nat → ClassId) (ad : qAd) (z : Nat → Nat) (B0 e0 F : Nat) (p1 : Int32) (σ : qS) : qZi l yX8_hear cX8_hear 3 (some .int) 8 179 2 12 p1.toNatClampNeg B0 e0 D Y ad z [.ref (aw ad z 0 0), .int p1] σ (fX8_hear F p1 σ) := by
  refine q_ozi hst (by decide) (Nat.le_of_ble_eq_true rfl) ⟨by decide, by decide⟩ "Leasehall" rfl (fun p e s m below meth c A Q r0 n0 nr C S S0 hf hn0 hnr hCe hSe hw hG hAB hE hret hHx hthr ls hl => ?_)
  replace hl : lv_has ls 3 [(0, .ref (aw ad z 0 0)), (1, .int p1)] := hl
  unfold fX8_hear at hf
  have b16 : ∀ (rx2 : Nat) (σ : qS), fX8_hear_16 F rx2 σ = some r0 → hAt p l e 8 179 C S s m ([.ref (aw ad z 0 0), .int p1] : List Value).toArray below meth c Q D Y A ad 3 (2 + (nr - n0)) (12 + 2 * (nr - n0)) 16 (fun z => [(2, .ref (aw ad z 50 rx2))]) [] σ := by
    clear hf hw hl ls hn0
    intro rx2 σ hf z cells slots hC hS H locs ls hw hl
    replace hl : lv_has ls 3 [(2, .ref (aw ad z 50 rx2))] := hl
    unfold fX8_hear_16 at hf
    refine lv_aload_n S0.1 S0.2.1 dX8_hear_16 rfl (lv_at hl 0 rfl) ?_
    obtain ⟨hd, hf⟩ := gnl_some hf
    refine gX6_row S0 hw hd kw_481 dX8_hear_17 ?_
    obtain ⟨hd, hf⟩ := gnl_some hf
    refine q_calli (k := 55) (i := rx2) S0 hw (As := []) (rest := []) (wX4_takeOldest l D Y (aw ad z) F rx2 σ) qyX4_takeOldest kw_1030 ⟨Nat.le_of_ble_eq_true rfl, Nat.le_of_ble_eq_true rfl⟩ hd rfl rfl rfl rfl hl.1 (Nat.le_of_ble_eq_true rfl) dX8_hear_20 ⟨show cells ≤ C by omega, show slots ≤ S by omega⟩ rfl hf (fun v6 s5 H locs hw hf => ?_)
    exact W.widen (by omega) (by omega) (hret dX8_hear_23 hw hf)
  refine lv_aload_n S0.1 S0.2.1 dX8_hear_0 rfl (lv_at hl 0 rfl) ?_
  refine lv_iload_n S0.1 S0.2.1 dX8_hear_1 rfl (lv_at hl 1 rfl) ?_
  refine q_xcallr S0 hG hAB hw (As := [.int p1]) (rest := []) (wX8_known l hst D Y (aw ad z) B0 F p1 σ) qyX8_known kw_599 ⟨Nat.le_of_ble_eq_true rfl, Nat.le_of_ble_eq_true rfl⟩ dC_0 rfl rfl rfl rfl hl.1 (Nat.le_of_ble_eq_true rfl) dX8_hear_2 ⟨rm hCe rfl, rm hSe rfl⟩ rfl (bnd3_keep (P := fun v s => v = p1.toNatClampNeg ∧ s.2 = σ.2) (fun v s h => known_n h) hf) (fun ex ce q9 s9 H locs hw hf hne hce hcv hcl => hHx hw hf hne hce hcv hcl (rm hCe rfl) (rm hSe rfl)) (fun i2 s1 H locs hw hf => ?_)
  obtain ⟨⟨rfl, e1⟩, hf⟩ := keep_some hf
  have kN : s1.2 3 p1.toNatClampNeg = n0 := by rw [e1]; exact hn0
  refine lv_astore_n (lv' := [(2, .ref (aw ad z 50 p1.toNatClampNeg)), (0, .ref (aw ad z 0 0)), (1, .int p1)]) S0.1 S0.2.1 dX8_hear_5 rfl hl (by decide) rfl (fun ls hl => ?_)
  refine lv_aload_n S0.1 S0.2.1 dX8_hear_6 rfl (lv_at hl 1 rfl) ?_
  refine lv_aload_n S0.1 S0.2.1 dX8_hear_7 rfl (lv_at hl 0 rfl) ?_
  refine q_xcallv S0 hG hAB hw (As := [.ref (aw ad z 50 p1.toNatClampNeg)]) (rest := []) (wX8_wake l hst D Y (aw ad z) B0 F p1.toNatClampNeg s1) qyX8_wake kw_682 ⟨Nat.le_of_ble_eq_true rfl, Nat.le_of_ble_eq_true rfl⟩ dC_0 rfl rfl rfl rfl hl.1 (Nat.le_of_ble_eq_true rfl) dX8_hear_8 ⟨rm hCe rfl, rm hSe rfl⟩ rfl (bnd3_keep (P := fun _ s => s.2 = s1.2) (fun v s h => gk_fX8_wake h) hf) (fun ex ce q9 s9 H locs hw hf hne hce hcv hcl => hHx hw hf hne hce hcv hcl (rm hCe rfl) (rm hSe rfl)) (fun _ s3 H locs hw hf => ?_)
  obtain ⟨e1, hf⟩ := keep_some hf
  replace kN : s3.2 3 p1.toNatClampNeg = n0 := by rw [e1]; exact kN
  refine lv_aload_n S0.1 S0.2.1 dX8_hear_11 rfl (lv_at hl 1 rfl) ?_
  refine lv_aload_n S0.1 S0.2.1 dX8_hear_12 rfl (lv_at hl 0 rfl) ?_
  refine q_gcallv (gi := p1.toNatClampNeg) (nr := nr) (Cb := 2 + (nr - n0)) (Sb := 12 + 2 * (nr - n0)) S0 hG hE hAB hw (As := [.ref (aw ad z 50 p1.toNatClampNeg)]) (rest := []) (wX8_tellWatches l D Y ad z B0 e0 F p1.toNatClampNeg s3) qyX8_tellWatches kw_979 ⟨Nat.le_of_ble_eq_true rfl, Nat.le_of_ble_eq_true rfl⟩ dC_0 rfl rfl rfl rfl hl.1 (Nat.le_of_ble_eq_true rfl) dX8_hear_13 rfl hf (fun s1 h => gk_fX8_tellWatches h) (fun s1 h => by rw [← hnr, ← (gk_fX8_hear_16 h)]; exact Nat.le_refl _) (show _ ≤ C by omega) (show _ ≤ S by omega) (by rw [kN]; omega) (by rw [kN]; omega) (fun z s4 H locs cells slots hw hr hf hN hC hS => ?_)
  exact b16 p1.toNatClampNeg s4 hf z cells slots (by omega) (by omega) _ _ _ hw (lv_sub hl [0] rfl)

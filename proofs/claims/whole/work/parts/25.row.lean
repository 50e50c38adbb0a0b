/-! ROWS THAT GROW: the array of a session's row is made anew; addresses change at kind 58 alone -/
def aw (ad : qAd) (z : Nat → Nat) : qAd := fun k i => bif Nat.beq k 58 then z i else ad k i
theorem aw_self (ad : qAd) : aw ad (ad 58) = ad := by
  funext k i
  show (bif Nat.beq k 58 then ad 58 i else ad k i) = ad k i
  cases h : Nat.beq k 58 with
  | true => rw [Nat.eq_of_beq_eq_true h]; rfl
  | false => rfl
theorem aw_aw (ad : qAd) (z z' : Nat → Nat) : aw (aw ad z) z' = aw ad z' := by
  funext k i
  show (bif Nat.beq k 58 then z' i else (bif Nat.beq k 58 then z i else ad k i)) = (bif Nat.beq k 58 then z' i else ad k i)
  cases Nat.beq k 58 <;> rfl
theorem aw_ne {ad : qAd} {z : Nat → Nat} {k : Nat} (h : k ≠ 58) (i : Nat) : aw ad z k i = ad k i := by
  show (bif Nat.beq k 58 then z i else ad k i) = ad k i
  cases h9 : Nat.beq k 58 with
  | true => exact absurd (Nat.eq_of_beq_eq_true h9) h
  | false => rfl
theorem knat : Cond.native arraycopyName ∈ gws := kt3 109 rfl rfl
section CP
variable {p : Program} {l : Launch} {e : Env} {R : Room} {s : State} {m : MethodId} {args : Array Value} {below : List Frame} {meth : Method} {c : Code} {H : Heap} {locs : List Loc} {cells slots : Nat} {Q : State → Prop}
variable {cc : ByteArray} {pc nL : Nat} {ls : Array Slot} {rest : List Value} {own : String}
variable {D : va_G} {L : qLay} {tys : List (ClassId × FieldType)} {Y : Nat → ClassId} {A : Nat → Prop} {ws : va_W} {B0 e0 : Nat} {ad : qAd} {σ : qS} {K : List (Nat × Nat)}
theorem nn32 (z : Int32) (hz : ¬ z < 0) : z.toInt = (z.toNatClampNeg : Int) := by
  have hz0 : (0 : Int) ≤ z.toInt := by
    have := Int32.not_lt.mp hz
    simpa using Int32.le_iff_toInt_le.mp this
  show z.toInt = ((z.toInt.toNat : Nat) : Int)
  omega
/-- an array copied into itself, to its start -/
theorem q_selfcopy (S0 : CallFix p m c cc nL s args gws own) (hw : qW D L tys A s.heap s ad σ H locs) {k i n t0 : Nat} (hd : qd L σ k i) {cA : ClassId} (he : ∀ f, L.2 f σ.2 ad k i = .inl (cA, n, .inl f)) (ht : tys[t0]? = some (cA, .int)) {idx : Nat} (hl : Cond.methodLink own idx arraycopyName ∈ gws) (hR : 1 ≤ R.frames ∧ 40 ≤ R.locals) (hl2 : ls.size = nL) (hcat : (rest.map fun v => v.category).sum ≤ 8)
    {sp len : Int32} (h1 : ¬ sp < 0) (h3 : ¬ len < 0) (h4 : sp.toNatClampNeg + len.toNatClampNeg ≤ n) (hdg : decode cc pc = .ok (.invokestatic idx, 3))
    (kk : ∀ (H1 : Heap) (locs1 : List Loc), qW D L tys A s.heap s ad (qF σ k i (va_cpy (σ.1 k i) (σ.1 k i) sp.toNatClampNeg 0 len.toNatClampNeg)) H1 locs1 → W p l e R s m args below meth c H1 locs1 cells slots Q (F0 m (pc + 3) ls rest)) : W p l e R s m args below meth c H locs cells slots Q (F0 m pc ls (.int len :: .int 0 :: .ref (ad k i) :: .int sp :: .ref (ad k i) :: rest)) := by
  have hc0 : H[ad k i]? = some (vp_cell cA (n, .inl (σ.1 k i))) := hw.one hd (he _) 0 _ rfl
  obtain ⟨-, k0, hk0, cm0, hkk0⟩ := (hw.2.2.2.1.2 t0 _ ht).1 n (fun j => .int (σ.1 k i j))
  have h5 : len.toNatClampNeg ≤ n := Nat.le_trans (Nat.le_add_left _ _) h4
  intro T hT X
  obtain ⟨vm', X', step⟩ := X.arraycopy S0.1 S0.2.2.2.1 (S0.2.2.2.2 _ hl) (S0.2.2.2.2 _ knat) (S0.2.2.2.2 _ kw_588) (S0.2.2.2.2 _ kw_22) (src := ad k i) (dst := ad k i) (cs := vp_cell cA (n, .inl (σ.1 k i))) (cd := vp_cell cA (n, .inl (σ.1 k i))) (srcPos := sp) (destPos := 0) (n := len) (by rw [hT]; exact hc0) (by rw [hT]; exact hc0)
    (fun _ h => by cases h) (fun _ h => by cases h) (fun h => by cases h) (fun h => by cases h) hk0 hk0 hkk0 hkk0 (by simp [refKind]) h1 (by decide) h3
    (by rw [nn32 sp h1, nn32 len h3]; show ¬ _ > ((arrV cA n (fun j => .int (σ.1 k i j))).slots.size : Int); rw [arrV_size]; omega)
    (by rw [nn32 len h3]; show ¬ (0 : Int) + _ > ((arrV cA n (fun j => .int (σ.1 k i j))).slots.size : Int); rw [arrV_size]; omega)
    (fun vm₁ _ j hj => by
      have e9 : (vp_cell cA (n, .inl (σ.1 k i))).slots.getD (sp.toNatClampNeg + j) .null = .int (σ.1 k i (sp.toNatClampNeg + j)) := by
        show (arrV cA n (fun j => .int (σ.1 k i j))).slots.getD _ _ = _
        rw [Array.getD_eq_getD_getElem?, arrV_read _ _ (by omega)]
        rfl
      rw [e9]
      exact ⟨rfl, trivial⟩)
    (g := F0 m pc ls (.int len :: .int 0 :: .ref (ad k i) :: .int sp :: .ref (ad k i) :: rest)) rfl (hl2.trans S0.2.2.1.symm) (rest := rest) rfl (by rw [S0.2.1]; exact hdg) hR.1 (by have h9 : nativeFrameWords "java/lang/System" "arraycopy" 5 ≤ 20 := by decide
                                                                                                                                                                                      have h8 := hR.2
                                                                                                                                                                                      show 2 * 0 + _ + _ ≤ _; omega)
  have e1 : copied (vp_cell cA (n, .inl (σ.1 k i))) (vp_cell cA (n, .inl (σ.1 k i))) sp 0 len = vp_cell cA (n, .inl (va_cpy (σ.1 k i) (σ.1 k i) sp.toNatClampNeg 0 len.toNatClampNeg)) := va_copied (fun z => .int z) cA cA (σ.1 k i) (σ.1 k i) h4
  rw [e1] at X' step
  have hlt : ad k i < H.size := (Array.getElem?_eq_some_iff.mp hc0).1
  have hheap : ((T.setVm vm').setCell (ad k i) (vp_cell cA (n, .inl (va_cpy (σ.1 k i) (σ.1 k i) sp.toNatClampNeg 0 len.toNatClampNeg)))).heap = H.setIfInBounds (ad k i) (vp_cell cA (n, .inl (va_cpy (σ.1 k i) (σ.1 k i) sp.toNatClampNeg 0 len.toNatClampNeg))) := by rw [← hT]; rfl
  have oq : ∀ q : Nat, q ≠ ad k i → (H.setIfInBounds (ad k i) (vp_cell cA (n, .inl (va_cpy (σ.1 k i) (σ.1 k i) sp.toNatClampNeg 0 len.toNatClampNeg))))[q]? = H[q]? := fun q hq => by simp [Array.getElem?_setIfInBounds, Ne.symm hq]
  obtain ⟨t, a1, b1⟩ := kk _ (locs ++ _) (hw.upd (σ' := qF σ k i (va_cpy (σ.1 k i) (σ.1 k i) sp.toNatClampNeg 0 len.toNatClampNeg)) (fun _ => rfl) (fun _ _ c => qc_F c) hd (by
      rw [qc_Fs, he]
      show (H.setIfInBounds (ad k i) _)[ad k i]? = some _
      simp [Array.getElem?_setIfInBounds, hlt]) oq ⟨by simp; exact hw.2.2.1.1, fun q g1 g2 => by
      rw [oq q (fun e9 => g2 (by rw [e9]; exact hw.2.1 k i hd))]
      exact hw.2.2.1.2.1 q g1 g2, fun q hq => by
      rcases List.mem_append.mp hq with h | h
      · exact hw.2.2.1.2.2 q h
      · obtain ⟨z, -, hz⟩ := List.mem_map.mp h
        rw [← hz]
        exact hw.2.1 k i hd⟩) _ hheap X'
  exact ⟨t, step t a1, b1⟩
/-- contracts of a static method that makes an array of ints -/
def qKc (l : Launch) (y : MethodName) (b : ByteArray) (maxL : Nat) (fr lo mc ms B0 e0 : Nat) (D : va_G) (Y : Nat → ClassId) (av : List Value) (ws : va_W) (wsf : (Nat → Nat) → va_W) : Prop :=
  ∀ sz : Nat, Met l y (qWs y b maxL (some (.array .int))) (qRx fr lo mc ms) (va_Pc av (lPre B0 e0 D Y ws sz)) (va_Qr (S := Nat → Nat) (fun _ => True) (fun a ra t => ra = a 0 ∧ lB D Y (va_A ws sz) wsf a t) (va_A ws sz)) mc ms (va_A ws sz)
theorem l_ofc {y : MethodName} {b : ByteArray} {maxL fr lo mc ms : Nat} {av : List Value} {wsf : (Nat → Nat) → va_W} (hy : plainName y.cls = true) (hlen : (lg_sl av).length ≤ maxL) (own : String) (ho : y.cls = own)
    (body : ∀ (p : Program) (e : Env) (s : State) (m : MethodId) (below : List Frame) (meth : Method) (c : Code) (A : Nat → Prop) (Q : State → Prop), CallFix p m c b maxL s av.toArray gws own → lX B0 e0 D Y A s ws s.heap [] →
      (∀ {pc : Nat} {ls : Array Slot} {H : Heap} {locs : List Loc} (a : Nat → Nat), decode b pc = .ok (.areturn, 1) → lX B0 e0 D Y A s (wsf a) H locs → W p l e (qRx fr lo mc ms) s m av.toArray below meth c H locs mc ms Q (F0 m pc ls [.ref (a 0)])) →
      ∀ ls : Array Slot, lv_has ls maxL (lv_args 0 av) → W p l e (qRx fr lo mc ms) s m av.toArray below meth c s.heap [] 0 0 Q (F0 m 0 ls [])) : qKc l y b maxL fr lo mc ms B0 e0 D Y av ws wsf := by
  intro sz
  refine Met.ofW (cc := b) (maxL := maxL) (ret := (some (.array .int))) hy rfl ?_
  intro p e s m args below meth c s₁ B hml hv
  obtain ⟨rfl, hsz, hP, hK, hD0, hE⟩ := hv
  subst hsz
  have hts := atoms_spec (ws := qWs y b maxL (some (.array .int))) B.pre
  have hown : s.vm.findClass y.cls = some m.cls := findClass_of_methodNamed B.named
  rw [ho] at hown
  have S0 : CallFix p m c b maxL s av.toArray gws own := ⟨B.exec, B.bytes, hml, hown, fun w h => hts w (List.mem_cons_of_mem _ h)⟩
  have hAB : ∀ q, va_A ws s.heap.size q → B0 ≤ q := fun q h => by
    rcases h with ⟨k, e9, h⟩ | h
    · exact hD0.2 k (q, e9) h
    · exact Nat.le_trans hE.2.2.2.2.2 h
  have hx : lX B0 e0 D Y (va_A ws s.heap.size) s ws s.heap [] := ⟨hP, (hD0.weaken (B := fun _ => True) (fun _ _ _ _ => trivial)).self, va_S.rf, hK, fun q h => Or.inr h, hAB, hE⟩
  have hl := lv_entry av (n := maxL) hlen
  rw [lg_entry_eq]
  generalize (lg_sl av ++ List.replicate (maxL - (lg_sl av).length) Slot.unset).toArray = ls at hl ⊢
  exact body p e s m below meth c _ _ S0 hx (fun a hd hx' => W.aret S0.1 S0.2.1 B.returns (Or.inr ⟨_, rfl⟩) (Or.inr ⟨_, rfl⟩) (fun t ht hW => ⟨⟨a, a 0, rfl, trivial, rfl, by rw [ht]; exact hx'.1, va_K.moved hW.alike hx'.2.2.2.1, hx'.2.1⟩, hx'.2.2.1.F ht⟩) hx'.2.2.1.2.2 hd (hlocks := B.notSynchronized)) ls hl
set_option maxRecDepth 100000 in
theorem kJ7_copyOf (l : Launch) (D : va_G) (Y : Nat → ClassId) (B0 e0 a0 n : Nat) (f : Nat → Int32) (h0 : 0 < n) (hn : n < 8192) : qKc l yJ7_copyOf_59c91 cJ7_copyOf_59c91 3 1 60 1 (2 * n) B0 e0 D Y [.ref a0, .int (nI (2 * n))] [(a0, .inl (Y 0, n, .inl f))] (fun a => [(a0, .inl (Y 0, n, .inl f)), (a 0, .inl (Y 0, 2 * n, .inl (fun j => if j < n then f j else 0)))]) := by
  refine l_ofc (by decide) (Nat.le_of_ble_eq_true rfl) "java/util/Arrays" rfl (fun p e s m below meth c A Q S0 hx hret ls hl => ?_)
  replace hl : lv_has ls 3 [(0, .ref a0), (1, .int (nI (2 * n)))] := hl
  refine lv_iload_n S0.1 S0.2.1 dJ7_copyOf_59c91_0 rfl (lv_at hl 1 rfl) ?_
  refine lv_aload_n S0.1 S0.2.1 dJ7_copyOf_59c91_1 rfl (lv_at hl 0 rfl) ?_
  refine l_len S0 hx (t0 := 0) 0 rfl rfl dJ7_copyOf_59c91_2 ?_
  refine lv_icmp_ne (tgt := 14) S0.1 S0.2.1 dJ7_copyOf_59c91_3 (by decide) (fun c1 => ?_) (fun c1 => ?_)
  · refine lv_iload_n S0.1 S0.2.1 dJ7_copyOf_59c91_14 rfl (lv_at hl 1 rfl) ?_
    refine l_newI S0 hx (N' := 2 * n) (nI_pos (by omega)) (nI_clamp (by omega)) (by show 2 * n * 4 ≤ _; omega) ⟨Nat.le_refl _, by show 0 + 2 * n ≤ 2 * n; omega⟩ dJ7_copyOf_59c91_15 (fun q H hx => ?_)
    replace hx : lX B0 e0 D Y A s [(a0, .inl (Y 0, n, .inl f)), (q, .inl (Y 0, 2 * n, .inl (fun _ => 0)))] _ _ := hx
    refine lv_astore_n (lv' := [(2, .ref q), (0, .ref a0), (1, .int (nI (2 * n)))]) S0.1 S0.2.1 dJ7_copyOf_59c91_17 rfl hl (by decide) rfl (fun ls hl => ?_)
    refine lv_aload_n S0.1 S0.2.1 dJ7_copyOf_59c91_18 rfl (lv_at hl 1 rfl) ?_
    refine lv_iconst (v := 0) S0.1 S0.2.1 dJ7_copyOf_59c91_19 (by decide) ?_
    refine lv_aload_n S0.1 S0.2.1 dJ7_copyOf_59c91_20 rfl (lv_at hl 0 rfl) ?_
    refine lv_iconst (v := 0) S0.1 S0.2.1 dJ7_copyOf_59c91_21 (by decide) ?_
    refine lv_aload_n S0.1 S0.2.1 dJ7_copyOf_59c91_22 rfl (lv_at hl 1 rfl) ?_
    refine l_len S0 hx (t0 := 0) 0 rfl rfl dJ7_copyOf_59c91_23 ?_
    refine lv_iload_n S0.1 S0.2.1 dJ7_copyOf_59c91_24 rfl (lv_at hl 2 rfl) ?_
    refine q_mmin S0 kw_584 hl.1 ⟨Nat.le_of_ble_eq_true rfl, Nat.le_of_ble_eq_true rfl⟩ (Nat.le_of_ble_eq_true rfl) ⟨by show 0 + 1 ≤ 1; omega, by show 0 + 2 * n ≤ 2 * n; omega⟩ dJ7_copyOf_59c91_25 (β := Int32) (kf := some) (r0 := nI n) (by
      show some (if nI (2 * n) < nI n then _ else _) = _
      rw [if_neg (fun h => absurd ((nI_ltI (by omega) (by omega)).mp h) (by omega))]) (fun v hv => ?_)
    cases hv
    refine va_copyi (cc := cJ7_copyOf_59c91) S0.1 S0.2.1 (S0.2.2.1.trans hl.1.symm) S0.2.2.2.1 (S0.2.2.2.2 _ kw_587) (S0.2.2.2.2 _ knat) (S0.2.2.2.2 _ kw_588) (S0.2.2.2.2 _ kw_22) hx.2.2.2.1 hx.1 hx.2.1 hx.2.2.1 0 1 0 0 (a0 := a0) (a := q) (c0 := Y 0) (c1 := Y 0) (n0 := n) (n1 := 2 * n) (f := f) (g := fun _ => 0) (ty := .int) rfl rfl rfl rfl rfl (sp := 0) (dp := 0) (n := nI n) (by decide) (by decide) (nI_pos (by omega)) (by rw [nI_clamp (by omega)]; show 0 + n ≤ n; omega) (by rw [nI_clamp (by omega)]; show 0 + n ≤ 2 * n; omega) (fun i _ => rfl) (Nat.le_of_ble_eq_true rfl) (Nat.le_of_ble_eq_true rfl) dJ7_copyOf_59c91_28 (fun H1 locs1 hP hD hS => ?_)
    rw [nI_clamp (by omega)] at hP hD
    refine lv_aload_n S0.1 S0.2.1 dJ7_copyOf_59c91_31 rfl (lv_at hl 0 rfl) ?_
    have e9 : va_cpy f (fun _ => (0 : Int32)) (0 : Int32).toNatClampNeg (0 : Int32).toNatClampNeg n = fun j => if j < n then f j else 0 := by
      funext j
      show (if 0 ≤ j ∧ j < 0 + n then f (0 + (j - 0)) else 0) = _
      by_cases h : j < n
      · rw [if_pos h, if_pos ⟨Nat.zero_le _, by omega⟩, Nat.sub_zero, Nat.zero_add]
      · rw [if_neg h, if_neg (by omega)]
    rw [e9] at hP hD
    rw [show 0 + 2 * n = 2 * n from Nat.zero_add _]
    exact (hret (fun _ => q) dJ7_copyOf_59c91_32 ⟨hP, hD, hS, hx.2.2.2.1, hx.2.2.2.2⟩)
  · have h9 : nI (2 * n) = nI n := c1
    have h8 := congrArg Int32.toNatClampNeg h9
    rw [nI_clamp (by omega), nI_clamp (by omega)] at h8
    omega
theorem qsJ7_copyOf : qYs yJ7_copyOf_59c91 cJ7_copyOf_59c91 3 (some (.array .int)) 2 := ⟨⟨kw_1009, kw_10, kw_1010⟩, by decide, by decide, by decide +kernel⟩
theorem m_callc (S0 : CallFix p m c cc nL s args gws own) (hm : qM B0 e0 D Y A s ad σ K ws H locs) {y : MethodName} {b2 : ByteArray} {maxL2 fr2 lo2 mc ms n : Nat} {As : List Value} {wc wr : va_W} {wsf : (Nat → Nat) → va_W} (isC isR : List Nat)
    (hM : qKc l y b2 maxL2 fr2 lo2 mc ms B0 e0 D Y As wc wsf) (hy : qYs y b2 maxL2 (some (.array .int)) n) {idx : Nat} (hl : Cond.methodLink own idx y ∈ gws) (hR : fr2 + 1 ≤ R.frames ∧ 8 + (maxL2 + 11) + lo2 ≤ R.locals) (hn : As.length = n) (hC : isC.map (fun i => ws[i]?) = wc.map some) (hRr : isR.map (fun i => ws[i]?) = wr.map some) (hnC : va_nd isC = true) (hnR : va_nd isR = true) (hdis : ∀ i ∈ isR, i ∉ isC)
    (hl2 : ls.size = nL) (hcat : (rest.map fun v => v.category).sum ≤ 8) (hdg : decode cc pc = .ok (.invokestatic idx, 3)) (hroom : cells + mc ≤ R.cells ∧ slots + ms ≤ R.slots) {st0 : List Value} (hst : st0 = As.reverse ++ rest)
    (kk : ∀ (a : Nat → Nat) (H1 : Heap) (locs1 : List Loc), qM B0 e0 D Y A s ad σ K (wr ++ wsf a) H1 locs1 → W p l e R s m args below meth c H1 locs1 (cells + mc) (slots + ms) Q (F0 m (pc + 3) ls (.ref (a 0) :: rest))) : W p l e R s m args below meth c H locs cells slots Q (F0 m pc ls st0) := by
  have hm0 := hm
  obtain ⟨⟨hP, hD, hS, hK, hA, hAB, hE⟩, m2, m3, m4, m5⟩ := hm
  have hPc : va_P D vwCl wc H := hP.by (fun k => isC.getD k 0) (fun k q hk => by
    have h1 : (isC.map (fun i => ws[i]?))[k]? = some (some q) := by rw [hC, List.getElem?_map, hk]; rfl
    rw [List.getElem?_map] at h1
    cases hi : isC[k]? with
    | none => rw [hi] at h1; cases h1
    | some i =>
      rw [hi] at h1
      rw [List.getD_eq_getElem?_getD, hi]
      exact Option.some.inj h1)
  have hDc := hD.sub (ws' := wc) isC hnC hC
  have hF := va_free (wc := wc) hD hS hA isC hC
  refine va_callr (va_runS (As := As) (rest := rest) S0 (hM H.size) ⟨callB_of n S0.2.2.2.2 (gws_good0 hy.1.2.2) rfl rfl rfl (S0.2.2.2.2 _ hy.1.2.1) (S0.2.2.2.2 _ hl) hy.2 hR, S0.2.2.2.2 _ hy.1.1⟩ ⟨l_blind, fun U hU hW => ⟨rfl, by rw [hU], by rw [hU]; exact hPc, va_K.moved hW.alike hK, hDc.weaken (fun _ _ _ h => hAB _ h), by rw [hU]; exact hE.warm hW hS.1 (fun q hq hn => hS.2.1 q hq (fun ha => hn (hAB q ha)))⟩⟩ rfl hn hl2 hst (lv_room hcat) hdg hroom) hS (fun q _ h => hF q h) hF (fun u ra t H1 locs1 ht hvm _ hB hz hk hS => ?_)
  obtain ⟨rfl, hP1, hK1, hD1⟩ := hB
  rw [ht] at hP1
  obtain ⟨hP2, hD2⟩ := va_join (wr := wr) (w1 := wsf u) hP hD isC isR hC hRr hnR hdis hk hF hP1 hD1
  obtain ⟨m2', m5'⟩ := m_kept hm0 hC hRr hk hD1
  exact kk u H1 locs1 ⟨⟨hP2, hD2, hS, hK, hA, hAB, hE⟩, m2', m3, m4, m5'⟩
/-- a field of an object that was cut out -/
theorem m_put (S0 : CallFix p m c cc nL s args gws own) (hm : qM B0 e0 D Y A s ad σ K ws H locs) {C : String} {T : u_T} {N ci a : Nat} (q0 : Nat) {fs : List Value} (he : ws[q0]? = some (a, .inr (ci, fs))) (hc : vwCl[ci]? = some (C, T, N)) (hin : ∀ w ∈ u_ws C T N, w ∈ gws) (ty0 : Nat → FieldType) (hty : ∀ k, k < N → parseFieldDescriptor (T k).2.2.1 = some (ty0 k)) (hnm : ∀ a, a < N → ∀ b, b < N → a ≠ b → (T a).2.1 ≠ (T b).2.1) (sl : Nat) (hk : sl < N)
    {idx : Nat} (hl : Cond.fieldLink own idx (T sl).1 (T sl).2.1 (T sl).2.2.1 ∈ gws) (hfin : (T sl).2.2.2 = false) {ty : FieldType} {v : Value} (hdp : parseFieldDescriptor (T sl).2.2.1 = some ty) (hn : narrow ty v = v) (hfit : fits ty v = true) (hlen : sl < fs.length) (hdg : decode cc pc = .ok (.putfield idx, 3))
    (kk : ∀ (H1 : Heap) (locs1 : List Loc), qM B0 e0 D Y A s ad σ K (ws.set q0 (a, .inr (ci, fs.set sl v))) H1 locs1 → W p l e R s m args below meth c H1 locs1 cells slots Q (F0 m (pc + 3) ls rest)) : W p l e R s m args below meth c H locs cells slots Q (F0 m pc ls (v :: .ref a :: rest)) := by
  obtain ⟨⟨hP, hD, hS, hK, hA, hAB, hE⟩, m2, m3, m4, m5⟩ := hm
  have hts := S0.2.2.2.2
  have hap := va_apart (own := own) hts hin ty0 hty hnm hK hc
  obtain ⟨r, h1, cell, q1, q2, q3, q4⟩ := hP q0 _ he
  have hr : r = (C, T, N) := Option.some.inj (h1.symm.trans hc)
  subst hr
  obtain ⟨hS9, hfc, kC, hkC, hkind⟩ := hK.1 ci _ hc
  obtain ⟨cf, kf, fi, f, hi, hsl⟩ := hS9 sl hk
  have hlay := hts _ (hin _ (u_in_lay hk))
  unfold u_lay at hlay
  rw [if_neg (by rw [hfin]; decide)] at hlay
  have hst := (u_facts hfc hkC (u_lays hts hin hk) hi).1
  have h6 := u_store hfc hkC hkind hlay hi hdp hn hfit
  refine W.putK S0.1 S0.2.1 (f := f) ⟨S0.2.2.2.1, hts _ hl, ⟨_, _, _, hi⟩, hst⟩ (by rw [q2]; exact h6) q1 q3 (by rw [hsl]; exact k2_hasslot (q4 sl hk)) rfl rfl hdg fun H' e1 e2 e3 => ?_
  rw [hsl] at e1 ⊢
  have hl9 := (List.getElem?_eq_some_iff.mp he).1
  refine kk H' _ ⟨⟨fun k q hq => ?_, hD.set he, hS.put e2 e3 (hD.2 q0 _ he), hK, hA, hAB, hE⟩, fun k i hd hn => (m2 k i hd hn).kept (e3 _ (m5 k i hd hn q0 _ he)), m3, m4, fun k i hd hn j x hx => ?_⟩
  · by_cases c : k = q0
    · subst c
      rw [List.getElem?_set_self hl9] at hq
      cases hq
      exact ⟨_, hc, t_OB.to (V := updV (vp_V fs) sl v) ⟨_, e1, q2, q3, t_set q4 hap hk v⟩ (fun j _ => vp_updV_set hlen v j)⟩
    · rw [List.getElem?_set_ne (Ne.symm c)] at hq
      exact (hP k q hq).kept (e3 _ (fun h9 => c (hD.1 k q0 q _ hq he h9)))
  · by_cases c : j = q0
    · subst c
      rw [List.getElem?_set_self hl9] at hx
      cases hx
      have h8 := m5 k i hd hn j _ he
      exact h8
    · rw [List.getElem?_set_ne (Ne.symm c)] at hx
      exact m5 k i hd hn j x hx
end CP
/-- a method that answers nothing, under which the row of session gi may grow -/
def qGv (l : Launch) (y : MethodName) (b : ByteArray) (maxL fr lo gi B0 e0 : Nat) (D : va_G) (Y : Nat → ClassId) (ad : qAd) (z : Nat → Nat) (av : List Value) (σ : qS) (fv : Option qS) : Prop :=
  ∀ (sz : Nat) (r0 : qS), fv = some r0 → Met l y (qWs y b maxL none) (qRx fr lo (r0.2 3 gi - σ.2 3 gi) (2 * (r0.2 3 gi - σ.2 3 gi))) (va_Pc av (qPy B0 e0 D Y (aw ad z) σ sz)) (va_Qv (S := (Nat → Nat) × qS) (fun u => fv = some u.2) (fun u t => qB D (cL Y) (qT Y) (qA (cL Y) (aw ad z) σ sz) (aw ad u.1) u.2 t) (qA (cL Y) (aw ad z) σ sz)) (r0.2 3 gi - σ.2 3 gi) (2 * (r0.2 3 gi - σ.2 3 gi)) (qA (cL Y) (aw ad z) σ sz)
theorem nm_some {α β : Type} {x : α} {k : α → Option β} {r : β} (h : nm x k = some r) : ∃ v, v = x ∧ k v = some r := ⟨x, rfl, h⟩
theorem ite_some {β : Type} {c : Prop} {inst : Decidable c} {a b : Option β} {r : β} (h : @ite _ c inst a b = some r) : (c ∧ a = some r) ∨ (¬ c ∧ b = some r) := by
  by_cases h9 : c
  · rw [if_pos h9] at h; exact Or.inl ⟨h9, h⟩
  · rw [if_neg h9] at h; exact Or.inr ⟨h9, h⟩
theorem gr_C {a b c d : Nat} (hN : d ≤ b) (h : a + b ≤ c + d) : a ≤ c := by omega
theorem gr_S {a b c d : Nat} (hN : d ≤ b) (h : a + 2 * b ≤ c + 2 * d) : a ≤ c := by omega
theorem nm_keep {β : Type} {σ : qS} {k i j : Nat} {v : Int32} {kf : qS → Option β} {r0 : β} (hf : nm (qI σ k i j v) kf = some r0) : nm (qI σ k i j v) (fun s => @ite _ (s.2 = σ.2) (Classical.propDecidable _) (kf s) none) = some r0 := by
  show (@ite _ ((qI σ k i j v).2 = σ.2) (Classical.propDecidable _) (kf (qI σ k i j v)) none) = some r0
  exact (if_pos (rfl : (qI σ k i j v).2 = σ.2)).trans hf
theorem inx_keep {β : Type} {σ : qS} {n k i j : Nat} {u v : Int32} {kf : qS → Option β} {r0 : β} (hf : inx n u (nm (qI σ k i j v) kf) = some r0) : inx n u (nm (qI σ k i j v) (fun s => @ite _ (s.2 = σ.2) (Classical.propDecidable _) (kf s) none)) = some r0 := by
  obtain ⟨h1, h2⟩ := inx_some hf
  unfold inx
  rw [if_pos (vp_in_iff.mp h1)]
  exact nm_keep h2
theorem bnd2_keep {α β : Type} {σ : qS} {fv : Option (α × qS)} (hs : ∀ v s, fv = some (v, s) → s.2 = σ.2) {kf : α → qS → Option β} {r0 : β} (hf : bnd2 fv kf = some r0) : bnd2 fv (fun v s => @ite _ (s.2 = σ.2) (Classical.propDecidable _) (kf v s) none) = some r0 := by
  obtain ⟨v, s, h1, h2⟩ := bnd2_some hf
  subst h1
  show (@ite _ (s.2 = σ.2) (Classical.propDecidable _) (kf v s) none) = some r0
  rw [if_pos (hs v s rfl)]
  exact h2
theorem keep_some {β : Type} {P : Prop} {x : Option β} {r0 : β} (hf : @ite _ P (Classical.propDecidable _) x none = some r0) : P ∧ x = some r0 := by
  by_cases h : P
  · rw [if_pos h] at hf; exact ⟨h, hf⟩
  · rw [if_neg h] at hf; cases hf
theorem gr_c {σ σ' : qS} {i a b c : Nat} (e9 : σ'.2 = σ.2) (h : a + b ≤ c + σ.2 3 i) : a + b ≤ c + σ'.2 3 i := by rw [e9]; exact h
theorem gr_s {σ σ' : qS} {i a b c : Nat} (e9 : σ'.2 = σ.2) (h : a + 2 * b ≤ c + 2 * σ.2 3 i) : a + 2 * b ≤ c + 2 * σ'.2 3 i := by rw [e9]; exact h
theorem gr_n {σ σ' : qS} {i b : Nat} (e9 : σ'.2 = σ.2) (h : σ.2 3 i ≤ b) : σ'.2 3 i ≤ b := by rw [e9]; exact h
/-- where the row may have grown, and may yet grow up to nr -/
def gAt (p : Program) (l : Launch) (e : Env) (fr lo C S : Nat) (s : State) (m : MethodId) (args : Array Value) (below : List Frame) (meth : Method) (c : Code) (Q : State → Prop) (D : va_G) (Y : Nat → ClassId) (A : Nat → Prop) (ad : qAd) (nL gi nr pc : Nat) (lv : (Nat → Nat) → List (Nat × Value)) (σ : qS) : Prop :=
  ∀ (z : Nat → Nat) (cells slots : Nat), σ.2 3 gi ≤ nr → cells + nr ≤ C + σ.2 3 gi → slots + 2 * nr ≤ S + 2 * σ.2 3 gi → qAt p l e (qRx fr lo C S) s m args below meth c Q D (cL Y) (qT Y) A (aw ad z) nL cells slots pc (lv z) [] σ
section GR
variable {p : Program} {l : Launch} {e : Env} {R : Room} {s : State} {m : MethodId} {args : Array Value} {below : List Frame} {meth : Method} {c : Code} {H : Heap} {locs : List Loc} {cells slots : Nat} {Q : State → Prop}
variable {cc : ByteArray} {pc nL : Nat} {ls : Array Slot} {rest : List Value} {own : String}
variable {D : va_G} {Y : Nat → ClassId} {A : Nat → Prop} {ad : qAd} {z : Nat → Nat} {σ : qS} {β : Type} {r0 : β} {B0 e0 : Nat}
theorem qy_blind {av : List Value} {sz : Nat} : FrameBlind (va_Pc av (qPy B0 e0 D Y ad σ sz)) := fun a U g mk q => ⟨q.1, (qx_blind (L := cL Y) (tys := qT Y) (σ := σ) (sz := sz) a U g mk ⟨q.1, q.2.1⟩).2, (show qE B0 e0 (U.calling g mk a) U.heap from qE.same (U := U) rfl q.2.2)⟩
theorem qy_pre (hw : qW D (cL Y) (qT Y) A s.heap s ad σ H locs) (hG : qG B0 s s.heap) (hE : qE B0 e0 s s.heap) (hAB : ∀ q, A q → B0 ≤ q) {av : List Value} {U : State} (hU : U.heap = H) (hW : s.WarmedH U.vm) : va_Pc av (qPy B0 e0 D Y ad σ H.size) av.toArray U :=
  ⟨rfl, (qx_pre (av := av) hw hG hAB hU hW).2, by
    rw [hU]
    exact hE.warm hW hw.2.2.1.1 (fun q hq hn => hw.2.2.1.2.1 q hq (fun ha => hn (hAB q ha)))⟩
theorem q_gcallv (S0 : CallFix p m c cc nL s args gws own) (hG : qG B0 s s.heap) (hE : qE B0 e0 s s.heap) (hAB : ∀ q, A q → B0 ≤ q) (hw : qW D (cL Y) (qT Y) A s.heap s (aw ad z) σ H locs) {y : MethodName} {C : String} {b2 : ByteArray} {maxL2 fr2 lo2 gi nr Cb Sb n : Nat} {As : List Value} {fv : Option qS} {k i ci : Nat} {fs : List Value}
    (hM : qGv l y b2 maxL2 fr2 lo2 gi B0 e0 D Y ad z (.ref (aw ad z k i) :: As) σ fv) (hy : qY y C b2 maxL2 none n) {idx : Nat} (hl : Cond.methodLink own idx y ∈ gws) (hR : fr2 + 1 ≤ R.frames ∧ 8 + (maxL2 + 11) + lo2 ≤ R.locals) (hd : qd (cL Y) σ k i) (he : qc (cL Y) (aw ad z) σ k i = .inr (ci, fs)) {q : vw_C} (hc : vwCl[ci]? = some q) (hq : q.1 = C)
    (hn : As.length = n) (hl2 : ls.size = nL) (hcat : (rest.map fun v => v.category).sum ≤ 8) (hdg : decode cc pc = .ok (.invokevirtual idx, 3)) {st0 : List Value} (hst : st0 = As.reverse ++ .ref (aw ad z k i) :: rest)
    {kf : qS → Option β} (hf : bnd fv kf = some r0) (hm1 : ∀ s1, fv = some s1 → σ.2 3 gi ≤ s1.2 3 gi) (hm2 : ∀ s1, kf s1 = some r0 → s1.2 3 gi ≤ nr) (hCb : Cb ≤ R.cells) (hSb : Sb ≤ R.slots) (hC : cells + nr ≤ Cb + σ.2 3 gi) (hS : slots + 2 * nr ≤ Sb + 2 * σ.2 3 gi)
    (kk : ∀ (z' : Nat → Nat) (σ' : qS) (H1 : Heap) (locs1 : List Loc) (cells1 slots1 : Nat), qW D (cL Y) (qT Y) A s.heap s (aw ad z') σ' H1 locs1 → fv = some σ' → kf σ' = some r0 → σ'.2 3 gi ≤ nr → cells1 + nr ≤ Cb + σ'.2 3 gi → slots1 + 2 * nr ≤ Sb + 2 * σ'.2 3 gi → W p l e R s m args below meth c H1 locs1 cells1 slots1 Q (F0 m (pc + 3) ls rest)) : W p l e R s m args below meth c H locs cells slots Q (F0 m pc ls st0) := by
  obtain ⟨σ1, h1, h2⟩ := bnd_some hf
  have g1 := hm1 σ1 h1
  have g2 := hm2 σ1 h2
  subst hq
  refine va_callv (va_runV (As := As) (rest := rest) S0 (hM H.size _ h1) (cwV n S0.2.2.2.2 (gws_V hy hl) rfl rfl rfl hy.2 hR) ⟨qy_blind, va_recv hw.2.2.2.1 (hw.one hd he) hc (q0 := 0) rfl, fun U hU hW => qy_pre hw hG hE hAB hU hW⟩ rfl hn hl2 hst (lv_room hcat) hdg ⟨by omega, by omega⟩) hw.2.2.1 (fun q _ h => q_sub hw q h) (q_sub hw) (fun u t H1 locs1 ht hvm hp hB hz hk hS1 => ?_)
  cases h1.symm.trans hp
  exact kk _ _ H1 locs1 _ _ (q_back hw ht hvm hB hS1) h1 h2 g2 (by omega) (by omega)
theorem q_ogv {y : MethodName} {b : ByteArray} {maxL fr lo gi : Nat} {av : List Value} {fv : Option qS} (hy : plainName y.cls = true) (hlen : (lg_sl av).length ≤ maxL) (own : String) (ho : y.cls = own) (hm : ∀ r0, fv = some r0 → σ.2 3 gi ≤ r0.2 3 gi)
    (body : ∀ (p : Program) (e : Env) (s : State) (m : MethodId) (below : List Frame) (meth : Method) (c : Code) (A : Nat → Prop) (Q : State → Prop) (r0 : qS) (nr C S : Nat), CallFix p m c b maxL s av.toArray gws own → fv = some r0 → r0.2 3 gi = nr → qW D (cL Y) (qT Y) A s.heap s (aw ad z) σ s.heap [] → qG B0 s s.heap → (∀ q, A q → B0 ≤ q) → qE B0 e0 s s.heap → σ.2 3 gi ≤ nr → 0 + nr ≤ C + σ.2 3 gi → 0 + 2 * nr ≤ S + 2 * σ.2 3 gi →
      (∀ {pc : Nat} {ls : Array Slot} {H : Heap} {locs : List Loc} {z' : Nat → Nat} {σ' : qS} {cells slots : Nat}, cells + nr ≤ C + σ'.2 3 gi → slots + 2 * nr ≤ S + 2 * σ'.2 3 gi → decode b pc = .ok (.return_, 1) → qW D (cL Y) (qT Y) A s.heap s (aw ad z') σ' H locs → some σ' = some r0 → W p l e (qRx fr lo C S) s m av.toArray below meth c H locs cells slots Q (F0 m pc ls [])) →
      ∀ ls : Array Slot, lv_has ls maxL (lv_args 0 av) → W p l e (qRx fr lo C S) s m av.toArray below meth c s.heap [] 0 0 Q (F0 m 0 ls [])) : qGv l y b maxL fr lo gi B0 e0 D Y ad z av σ fv := by
  intro sz r0 hf
  have hm0 := hm r0 hf
  refine Met.ofW (cc := b) (maxL := maxL) (ret := none) hy rfl ?_
  intro p e s m args below meth c s₁ B hml hv
  obtain ⟨rfl, ⟨⟨hsz, hV, hK⟩, hB0, hG⟩, hE⟩ := hv
  subst hsz
  have hts := atoms_spec (ws := qWs y b maxL none) B.pre
  have hown : s.vm.findClass y.cls = some m.cls := findClass_of_methodNamed B.named
  rw [ho] at hown
  have S0 : CallFix p m c b maxL s av.toArray gws own := ⟨B.exec, B.bytes, hml, hown, fun w h => hts w (List.mem_cons_of_mem _ h)⟩
  have hw : qW D (cL Y) (qT Y) (qA (cL Y) (aw ad z) σ s.heap.size) s.heap s (aw ad z) σ s.heap [] := ⟨hV, fun k i h => Or.inl ⟨k, i, h, rfl⟩, va_S.rf, hK, fun q h => Or.inr h⟩
  have hAB : ∀ q, qA (cL Y) (aw ad z) σ s.heap.size q → B0 ≤ q := fun q h => by
    rcases h with ⟨k, i, hd, rfl⟩ | h
    · exact hB0 k i hd
    · exact Nat.le_trans hG.2.2.2.2 h
  have hl := lv_entry av (n := maxL) hlen
  rw [lg_entry_eq]
  generalize (lg_sl av ++ List.replicate (maxL - (lg_sl av).length) Slot.unset).toArray = ls at hl ⊢
  refine body p e s m below meth c _ _ r0 (r0.2 3 gi) (r0.2 3 gi - σ.2 3 gi) (2 * (r0.2 3 gi - σ.2 3 gi)) S0 hf rfl hw hG hAB hE hm0 (by omega) (by omega) ?_ ls hl
  intro pc ls H locs z' σ' cells slots h1 h2 hd hw' h
  have e9 : σ'.2 3 gi = r0.2 3 gi := by cases h; rfl
  rw [e9] at h1 h2
  refine W.widen (k := r0.2 3 gi - σ.2 3 gi) (n := 2 * (r0.2 3 gi - σ.2 3 gi)) (by omega) (by omega) ?_
  exact W.vret S0.1 S0.2.1 B.returns (fun t ht hW => ⟨⟨(z', σ'), rfl, hf.trans h.symm, ⟨by rw [ht]; exact hw'.1, hw'.2.1, va_K.moved hW.alike hw'.2.2.2.1⟩⟩, hw'.2.2.1.F ht⟩) hw'.2.2.1.2.2 hd (hlocks := B.notSynchronized)
end GR
/-- the array of row i, of twice its length -/
def growR (σ : qS) (i : Nat) : qS := (fun k j => if k = 58 ∧ j = i then (fun q => if q < σ.2 3 i then σ.1 58 i q else 0) else σ.1 k j, fun k j => if k = 3 ∧ j = i then 2 * σ.2 3 i else σ.2 k j)
def fX4_makeRoom (F : Nat) (i0 : Nat) (σ : qS) : Option qS :=
  gnl i0 (σ.2 0 0) (gnl (σ.2 3 i0) 8193 (gnl 0 (σ.2 3 i0) (if σ.1 55 i0 1 ≤ 0 then (if nI 8192 ≤ nI (σ.2 3 i0) then some σ else some (growR σ i0)) else (if (σ.1 55 i0 1).toNatClampNeg + (σ.1 55 i0 2 - σ.1 55 i0 1).toNatClampNeg ≤ σ.2 3 i0 then (if σ.1 55 i0 2 - σ.1 55 i0 1 < 0 then none else nm (qF σ 58 i0 (va_cpy (σ.1 58 i0) (σ.1 58 i0) (σ.1 55 i0 1).toNatClampNeg 0 (σ.1 55 i0 2 - σ.1 55 i0 1).toNatClampNeg)) fun s1 => nm (qI s1 55 i0 2 (s1.1 55 i0 2 - s1.1 55 i0 1)) fun s2 => nm (qI s2 55 i0 1 0) fun s3 => some s3) else none))))
theorem gk_fX4_makeRoom {F i0 : Nat} {σ r : qS} (h : fX4_makeRoom F i0 σ = some r) : σ.2 3 i0 ≤ r.2 3 i0 := by
  unfold fX4_makeRoom at h
  obtain ⟨-, h⟩ := gnl_some h
  obtain ⟨-, h⟩ := gnl_some h
  obtain ⟨-, h⟩ := gnl_some h
  split at h
  · split at h
    · cases h; exact Nat.le_refl _
    · cases h
      show σ.2 3 i0 ≤ (if 3 = 3 ∧ i0 = i0 then 2 * σ.2 3 i0 else σ.2 3 i0)
      rw [if_pos ⟨rfl, rfl⟩]
      omega
  · split at h
    · split at h
      · cases h
      · cases h; exact Nat.le_refl _
    · cases h
theorem qyX4_makeRoom : qY yX4_makeRoom RX4 cX4_makeRoom 1 none 0 := ⟨⟨kw_1005, kp_36, kw_19, kw_1006⟩, rfl, by decide, by decide, by decide +kernel⟩
theorem cCe_row {Y : Nat → ClassId} (f : Nat → Int32) {N N' : Nat → Nat → Nat} {ad ad' : qAd} {k i : Nat} (hd : i < cNum N k) (hA : ∀ k j, k ≠ 58 → ad' k j = ad k j) (hA2 : k = 55 → ad' 58 i = ad 58 i) (hN : ∀ k j, k ≠ 3 → N' k j = N k j) (hN2 : k = 58 → N' 3 i = N 3 i) : cCe Y f N' ad' k i = cCe Y f N ad k i := by
  have a0 := fun i => hA 0 i (by decide)
  have a1 := fun i => hA 1 i (by decide)
  have a2 := fun i => hA 2 i (by decide)
  have a3 := fun i => hA 3 i (by decide)
  have a4 := fun i => hA 4 i (by decide)
  have a5 := fun i => hA 5 i (by decide)
  have a6 := fun i => hA 6 i (by decide)
  have a7 := fun i => hA 7 i (by decide)
  have a8 := fun i => hA 8 i (by decide)
  have a9 := fun i => hA 9 i (by decide)
  have a10 := fun i => hA 10 i (by decide)
  have a11 := fun i => hA 11 i (by decide)
  have a12 := fun i => hA 12 i (by decide)
  have a13 := fun i => hA 13 i (by decide)
  have a14 := fun i => hA 14 i (by decide)
  have a15 := fun i => hA 15 i (by decide)
  have a16 := fun i => hA 16 i (by decide)
  have a17 := fun i => hA 17 i (by decide)
  have a18 := fun i => hA 18 i (by decide)
  have a19 := fun i => hA 19 i (by decide)
  have a30 := fun i => hA 30 i (by decide)
  have a31 := fun i => hA 31 i (by decide)
  have a32 := fun i => hA 32 i (by decide)
  have a33 := fun i => hA 33 i (by decide)
  have a34 := fun i => hA 34 i (by decide)
  have a35 := fun i => hA 35 i (by decide)
  have a36 := fun i => hA 36 i (by decide)
  have a37 := fun i => hA 37 i (by decide)
  have a38 := fun i => hA 38 i (by decide)
  have a39 := fun i => hA 39 i (by decide)
  have a50 := fun i => hA 50 i (by decide)
  have a51 := fun i => hA 51 i (by decide)
  have a52 := fun i => hA 52 i (by decide)
  have a53 := fun i => hA 53 i (by decide)
  have a54 := fun i => hA 54 i (by decide)
  have a55 := fun i => hA 55 i (by decide)
  have a56 := fun i => hA 56 i (by decide)
  have a57 := fun i => hA 57 i (by decide)
  have n0 := fun i => hN 0 i (by decide)
  have n1 := fun i => hN 1 i (by decide)
  have n2 := fun i => hN 2 i (by decide)
  rcases cDom hd with h | h | h
  · obtain rfl | rfl | rfl | rfl | rfl | rfl | rfl | rfl | rfl | rfl | rfl | rfl | rfl | rfl | rfl | rfl | rfl | rfl | rfl | rfl : k = 0 ∨ k = 1 ∨ k = 2 ∨ k = 3 ∨ k = 4 ∨ k = 5 ∨ k = 6 ∨ k = 7 ∨ k = 8 ∨ k = 9 ∨ k = 10 ∨ k = 11 ∨ k = 12 ∨ k = 13 ∨ k = 14 ∨ k = 15 ∨ k = 16 ∨ k = 17 ∨ k = 18 ∨ k = 19 := by omega
    all_goals (unfold cCe; simp only [a0, a1, a2, a3, a4, a5, a6, a7, a8, a9, a10, a11, a12, a13, a14, a15, a16, a17, a18, a19, a30, a31, a32, a33, a34, a35, a36, a37, a38, a39, a50, a51, a52, a53, a54, a55, a56, a57, n0, n1, n2, hA2, hN2, reduceIte, Nat.reduceEqDiff])
  · obtain rfl | rfl | rfl | rfl | rfl | rfl | rfl | rfl | rfl | rfl : k = 30 ∨ k = 31 ∨ k = 32 ∨ k = 33 ∨ k = 34 ∨ k = 35 ∨ k = 36 ∨ k = 37 ∨ k = 38 ∨ k = 39 := by omega
    all_goals (unfold cCe; simp only [a0, a1, a2, a3, a4, a5, a6, a7, a8, a9, a10, a11, a12, a13, a14, a15, a16, a17, a18, a19, a30, a31, a32, a33, a34, a35, a36, a37, a38, a39, a50, a51, a52, a53, a54, a55, a56, a57, n0, n1, n2, hA2, hN2, reduceIte, Nat.reduceEqDiff])
  · obtain rfl | rfl | rfl | rfl | rfl | rfl | rfl | rfl | rfl : k = 50 ∨ k = 51 ∨ k = 52 ∨ k = 53 ∨ k = 54 ∨ k = 55 ∨ k = 56 ∨ k = 57 ∨ k = 58 := by omega
    all_goals (unfold cCe; simp only [a0, a1, a2, a3, a4, a5, a6, a7, a8, a9, a10, a11, a12, a13, a14, a15, a16, a17, a18, a19, a30, a31, a32, a33, a34, a35, a36, a37, a38, a39, a50, a51, a52, a53, a54, a55, a56, a57, n0, n1, n2, hA2, hN2, reduceIte, Nat.reduceEqDiff])
theorem growR_out {s : State} {H : Heap} {locs : List Loc} {D : va_G} {Y : Nat → ClassId} {A : Nat → Prop} {B0 e0 : Nat} {ad : qAd} {z : Nat → Nat} {σ : qS} {q i0 : Nat} {w1 : Nat × va_E}
    (hm : qM B0 e0 D Y A s (aw ad z) σ [(55, i0), (58, i0)] [(aw ad z 55 i0, .inr (5, [.ref q, .int (σ.1 55 i0 1), .int (σ.1 55 i0 2)])), w1, (q, .inl (Y 0, 2 * σ.2 3 i0, .inl (fun j => if j < σ.2 3 i0 then σ.1 58 i0 j else 0)))] H locs) :
    qW D (cL Y) (qT Y) A s.heap s (aw ad (fun j => if j = i0 then q else z j)) (growR σ i0) H locs := by
  have e58 : aw ad (fun j => if j = i0 then q else z j) 58 i0 = q := by
    show (if i0 = i0 then q else z i0) = q
    exact if_pos rfl
  have eN : (growR σ i0).2 3 i0 = 2 * σ.2 3 i0 := by
    show (if 3 = 3 ∧ i0 = i0 then 2 * σ.2 3 i0 else σ.2 3 i0) = _
    exact if_pos ⟨rfl, rfl⟩
  have eN9 : ∀ k j, k ≠ 3 → (growR σ i0).2 k j = σ.2 k j := fun k j h => by
    show (if k = 3 ∧ j = i0 then 2 * σ.2 3 i0 else σ.2 k j) = _
    exact if_neg (fun h9 => h h9.1)
  have hdd : ∀ {k i}, qd (cL Y) (growR σ i0) k i → qd (cL Y) σ k i := fun {k i} h => by
    have h9 : i < cNum (growR σ i0).2 k := h
    have e9 : cNum (growR σ i0).2 k = cNum σ.2 k := by
      unfold cNum
      simp only [eN9 0 _ (by decide), eN9 1 _ (by decide)]
    rw [e9] at h9
    exact h9
  refine m_out hm (fun k i => if k = 55 ∧ i = i0 then some 0 else if k = 58 ∧ i = i0 then some 2 else none) (fun k i j hd h => ?_) (fun k i hd h => ?_) (fun k i k' i' j h h' => ?_)
  · by_cases c1 : k = 55 ∧ i = i0
    · obtain ⟨rfl, rfl⟩ := c1
      rw [if_pos ⟨rfl, rfl⟩] at h
      cases h
      refine ⟨_, rfl, fun h9 => ?_⟩
      have e9 : qc (cL Y) (aw ad (fun j => if j = i then q else z j)) (growR σ i) 55 i = .inr (5, [.ref q, .int (σ.1 55 i 1), .int (σ.1 55 i 2)]) := by
        show (.inr (5, [Value.ref (aw ad (fun j => if j = i then q else z j) 58 i), .int ((growR σ i).1 55 i 1), .int ((growR σ i).1 55 i 2)]) : va_E) = _
        rw [e58]
        have e8 : (growR σ i).1 55 i = σ.1 55 i := rfl
        rw [e8]
      rw [e9]
      exact h9
    · rw [if_neg c1] at h
      by_cases c2 : k = 58 ∧ i = i0
      · obtain ⟨rfl, rfl⟩ := c2
        rw [if_pos ⟨rfl, rfl⟩] at h
        cases h
        refine ⟨_, by rw [e58]; rfl, fun h9 => ?_⟩
        have e9 : qc (cL Y) (aw ad (fun j => if j = i then q else z j)) (growR σ i) 58 i = .inl (Y 0, 2 * σ.2 3 i, .inl (fun j => if j < σ.2 3 i then σ.1 58 i j else 0)) := by
          show (.inl (Y 0, (growR σ i).2 3 i, .inl ((growR σ i).1 58 i)) : va_E) = _
          rw [eN]
          have e8 : (growR σ i).1 58 i = (fun q => if q < σ.2 3 i then σ.1 58 i q else 0) := if_pos ⟨rfl, rfl⟩
          rw [e8]
        rw [e9]
        exact h9
      · rw [if_neg c2] at h
        cases h
  · have c1 : ¬ (k = 55 ∧ i = i0) := fun c => by rw [if_pos c] at h; cases h
    rw [if_neg c1] at h
    have c2 : ¬ (k = 58 ∧ i = i0) := fun c => by rw [if_pos c] at h; cases h
    have ha : aw ad (fun j => if j = i0 then q else z j) k i = aw ad z k i := by
      by_cases c : k = 58
      · subst c
        show (if i = i0 then q else z i) = z i
        exact if_neg (fun h9 => c2 ⟨rfl, h9⟩)
      · rw [aw_ne c, aw_ne c]
    refine ⟨hdd hd, fun hk => ?_, ha, fun h9 => ?_⟩
    · rcases List.mem_cons.mp hk with h8 | h8
      · exact c1 ⟨congrArg Prod.fst h8, congrArg Prod.snd h8⟩
      · rw [List.mem_singleton] at h8
        exact c2 ⟨congrArg Prod.fst h8, congrArg Prod.snd h8⟩
    · have e9 : qc (cL Y) (aw ad (fun j => if j = i0 then q else z j)) (growR σ i0) k i = qc (cL Y) (aw ad z) σ k i := by
        have e8 : (growR σ i0).1 k i = σ.1 k i := if_neg c2
        show cCe Y ((growR σ i0).1 k i) (growR σ i0).2 _ k i = cCe Y (σ.1 k i) σ.2 _ k i
        rw [e8]
        refine cCe_row _ (hdd hd) (fun k j h => by rw [aw_ne h, aw_ne h]) (fun c => ?_) eN9 (fun c => ?_)
        · show (if i = i0 then q else z i) = z i
          exact if_neg (fun h9 => c1 ⟨c, h9⟩)
        · show (if 3 = 3 ∧ i = i0 then 2 * σ.2 3 i0 else σ.2 3 i) = _
          exact if_neg (fun h9 => c2 ⟨c, h9.2⟩)
      rw [e9]
      exact h9
  · split at h
    · split at h'
      · omega
      · split at h'
        · cases h; cases h'
        · cases h'
    · split at h
      · split at h'
        · cases h; cases h'
        · split at h'
          · omega
          · cases h'
      · cases h
set_option maxRecDepth 100000 in
set_option maxHeartbeats 4000000 in
theorem wX4_makeRoom (l : Launch) (D : va_G) (Y : Nat → ClassId) (ad : qAd) (z : Nat → Nat) (B0 e0 F i0 : Nat) (σ : qS) : qGv l yX4_makeRoom cX4_makeRoom 1 2 90 i0 B0 e0 D Y ad z [.ref (aw ad z 55 i0)] σ (fX4_makeRoom F i0 σ) := by
  refine q_ogv (by decide) (Nat.le_of_ble_eq_true rfl) "Leasehall$Row" rfl (fun r0 h => gk_fX4_makeRoom h) (fun p e s m below meth c A Q r0 nr C S S0 hf hnr hw hG hAB hE hN hC hS hret ls hl => ?_)
  replace hl : lv_has ls 1 [(0, .ref (aw ad z 55 i0))] := hl
  unfold fX4_makeRoom at hf
  obtain ⟨hd, hf⟩ := gnl_some hf
  obtain ⟨h8, hf⟩ := gnl_some hf
  obtain ⟨h0, hf⟩ := gnl_some hf
  refine lv_aload_n S0.1 S0.2.1 dX4_makeRoom_0 rfl (lv_at hl 0 rfl) ?_
  refine gX4_first S0 hw hd kw_458 dX4_makeRoom_1 (β := Int32) (kf := some) (r0 := σ.1 55 i0 1) rfl (fun v1 hv => ?_)
  cases hv
  refine lv_if_le (tgt := 53) S0.1 S0.2.1 dX4_makeRoom_4 (by decide) (fun c1 => ?_) (fun c1 => ?_)
  · replace hf := q_pos c1 hf
    refine lv_aload_n S0.1 S0.2.1 dX4_makeRoom_53 rfl (lv_at hl 0 rfl) ?_
    refine gX4_told S0 hw hd kw_457 dX4_makeRoom_54 ?_
    refine q_alen (k := 58) (i := i0) S0 hw hd (t0 := 0) rfl rfl dX4_makeRoom_57 ?_
    refine lv_sipush (v := 8192) S0.1 S0.2.1 dX4_makeRoom_58 (by decide) ?_
    refine lv_icmp_ge (tgt := 82) S0.1 S0.2.1 dX4_makeRoom_61 (by decide) (fun c2 => ?_) (fun c2 => ?_)
    · replace hf := q_pos (show nI 8192 ≤ nI (σ.2 3 i0) from c2) hf
      exact hret hC hS dX4_makeRoom_82 hw hf
    · replace hf := q_neg (show ¬ nI 8192 ≤ nI (σ.2 3 i0) from c2) hf
      have hlt : σ.2 3 i0 < 8192 := Decidable.byContradiction fun h => c2 (show nI 8192 ≤ nI (σ.2 3 i0) from nI_le (Nat.le_of_not_lt h) (by omega))
      have hg : (growR σ i0).2 3 i0 = 2 * σ.2 3 i0 := by
        show (if 3 = 3 ∧ i0 = i0 then 2 * σ.2 3 i0 else σ.2 3 i0) = _
        exact if_pos ⟨rfl, rfl⟩
      have hr : nr = 2 * σ.2 3 i0 := by
        rw [← hnr, ← hg, Option.some.inj hf]
      have r1 : 0 + 1 ≤ C := by omega
      have r2 : 0 + 2 * σ.2 3 i0 ≤ S := by omega
      refine lv_aload_n S0.1 S0.2.1 dX4_makeRoom_64 rfl (lv_at hl 0 rfl) ?_
      refine lv_aload_n S0.1 S0.2.1 dX4_makeRoom_65 rfl (lv_at hl 0 rfl) ?_
      refine gX4_told S0 hw hd kw_457 dX4_makeRoom_66 ?_
      refine lv_iconst (v := 2) S0.1 S0.2.1 dX4_makeRoom_69 (by decide) ?_
      refine lv_aload_n S0.1 S0.2.1 dX4_makeRoom_70 rfl (lv_at hl 0 rfl) ?_
      refine gX4_told S0 hw hd kw_457 dX4_makeRoom_71 ?_
      refine q_alen (k := 58) (i := i0) S0 hw hd (t0 := 0) rfl rfl dX4_makeRoom_74 ?_
      refine lv_imul S0.1 S0.2.1 dX4_makeRoom_75 ?_
      have e2 : (2 : Int32) * nI (σ.2 3 i0) = nI (2 * σ.2 3 i0) := (Int32.ofNat_mul 2 _).symm
      show W p l e _ s m _ below meth c _ _ _ _ _ (F0 m _ ls [.int (2 * nI (σ.2 3 i0)), .ref (aw ad z 58 i0), .ref (aw ad z 55 i0)])
      rw [e2]
      have hm := m_of hw hAB hE
      replace hm := m_cut hm (k := 58) (i := i0) hd (by simp)
      replace hm := m_cut hm (k := 55) (i := i0) hd (by simp)
      replace hm : qM B0 e0 D Y A s (aw ad z) σ [(55, i0), (58, i0)] [(aw ad z 55 i0, .inr (5, [.ref (aw ad z 58 i0), .int (σ.1 55 i0 1), .int (σ.1 55 i0 2)])), (aw ad z 58 i0, .inl (Y 0, σ.2 3 i0, .inl (σ.1 58 i0)))] _ _ := hm
      refine m_callc S0 hm (As := [.ref (aw ad z 58 i0), .int (nI (2 * σ.2 3 i0))]) (rest := [.ref (aw ad z 55 i0)]) (wr := [(aw ad z 55 i0, .inr (5, [.ref (aw ad z 58 i0), .int (σ.1 55 i0 1), .int (σ.1 55 i0 2)]))]) [1] [0] (kJ7_copyOf l D Y B0 e0 (aw ad z 58 i0) (σ.2 3 i0) (σ.1 58 i0) h0 hlt) qsJ7_copyOf kw_1008 ⟨Nat.le_of_ble_eq_true rfl, Nat.le_of_ble_eq_true rfl⟩ rfl rfl rfl rfl rfl (by decide) hl.1 (Nat.le_of_ble_eq_true rfl) dX4_makeRoom_76 ⟨r1, r2⟩ rfl (fun a H locs hm => ?_)
      replace hm : qM B0 e0 D Y A s (aw ad z) σ [(55, i0), (58, i0)] [(aw ad z 55 i0, .inr (5, [.ref (aw ad z 58 i0), .int (σ.1 55 i0 1), .int (σ.1 55 i0 2)])), (aw ad z 58 i0, .inl (Y 0, σ.2 3 i0, .inl (σ.1 58 i0))), (a 0, .inl (Y 0, 2 * σ.2 3 i0, .inl (fun j => if j < σ.2 3 i0 then σ.1 58 i0 j else 0)))] _ _ := hm
      refine m_put S0 hm (C := RX4) (T := TX4) (N := 3) (ci := 5) 0 rfl rfl inX4 tyX4 tyX4_ok nmX4 0 (by decide) kw_457 rfl (ty := .array .int) (tyX4_ok 0 (by decide)) rfl rfl (Nat.le_of_ble_eq_true rfl) dX4_makeRoom_79 (fun H locs hm => ?_)
      exact hret (z' := fun j => if j = i0 then a 0 else z j) (σ' := growR σ i0) (by rw [hg]; omega) (by rw [hg]; omega) dX4_makeRoom_82 (growR_out hm) hf
  · replace hf := q_neg c1 hf
    by_cases g1 : (σ.1 55 i0 1).toNatClampNeg + (σ.1 55 i0 2 - σ.1 55 i0 1).toNatClampNeg ≤ σ.2 3 i0
    · replace hf := q_pos g1 hf
      by_cases g2 : σ.1 55 i0 2 - σ.1 55 i0 1 < 0
      · replace hf := q_pos g2 hf
        cases hf
      · replace hf := q_neg g2 hf
        obtain ⟨s1, es1, hf⟩ := nm_some hf
        subst es1
        refine lv_aload_n S0.1 S0.2.1 dX4_makeRoom_7 rfl (lv_at hl 0 rfl) ?_
        refine gX4_told S0 hw hd kw_457 dX4_makeRoom_8 ?_
        refine lv_aload_n S0.1 S0.2.1 dX4_makeRoom_11 rfl (lv_at hl 0 rfl) ?_
        refine gX4_first S0 hw hd kw_458 dX4_makeRoom_12 (β := Int32) (kf := some) (r0 := σ.1 55 i0 1) rfl (fun v1 hv => ?_)
        cases hv
        refine lv_aload_n S0.1 S0.2.1 dX4_makeRoom_15 rfl (lv_at hl 0 rfl) ?_
        refine gX4_told S0 hw hd kw_457 dX4_makeRoom_16 ?_
        refine lv_iconst (v := 0) S0.1 S0.2.1 dX4_makeRoom_19 (by decide) ?_
        refine lv_aload_n S0.1 S0.2.1 dX4_makeRoom_20 rfl (lv_at hl 0 rfl) ?_
        refine gX4_end S0 hw hd kw_459 dX4_makeRoom_21 (β := Int32) (kf := some) (r0 := σ.1 55 i0 2) rfl (fun v1 hv => ?_)
        cases hv
        refine lv_aload_n S0.1 S0.2.1 dX4_makeRoom_24 rfl (lv_at hl 0 rfl) ?_
        refine gX4_first S0 hw hd kw_458 dX4_makeRoom_25 (β := Int32) (kf := some) (r0 := σ.1 55 i0 1) rfl (fun v1 hv => ?_)
        cases hv
        refine lv_isub S0.1 S0.2.1 dX4_makeRoom_28 ?_
        refine q_selfcopy S0 hw (k := 58) (i := i0) hd (t0 := 0) (fun _ => rfl) rfl kw_1007 ⟨Nat.le_of_ble_eq_true rfl, Nat.le_of_ble_eq_true rfl⟩ hl.1 (Nat.le_of_ble_eq_true rfl) (fun h => c1 (Int32.le_of_lt h)) g2 g1 dX4_makeRoom_29 (fun H locs hw => ?_)
        refine lv_aload_n S0.1 S0.2.1 dX4_makeRoom_32 rfl (lv_at hl 0 rfl) ?_
        refine lv_dup S0.1 S0.2.1 dX4_makeRoom_33 rfl ?_
        refine gX4_end S0 hw hd kw_459 dX4_makeRoom_34 (β := Int32) (kf := some) rfl (fun v1 hv => ?_)
        cases hv
        refine lv_aload_n S0.1 S0.2.1 dX4_makeRoom_37 rfl (lv_at hl 0 rfl) ?_
        refine gX4_first S0 hw hd kw_458 dX4_makeRoom_38 (β := Int32) (kf := some) rfl (fun v1 hv => ?_)
        cases hv
        refine lv_isub S0.1 S0.2.1 dX4_makeRoom_41 ?_
        refine pX4_end S0 hw hd kw_459 dX4_makeRoom_42 (nm_keep hf) (fun s2 H locs hw hf => ?_)
        obtain ⟨e9, hf⟩ := keep_some hf
        have hd2 : i0 < s2.2 0 0 := by rw [e9]; exact hd
        replace hC := gr_c e9 (show _ + _ ≤ _ + (qF _ _ _ _).2 3 i0 from hC)
        replace hS := gr_s e9 (show _ + _ ≤ _ + 2 * (qF _ _ _ _).2 3 i0 from hS)
        refine lv_aload_n S0.1 S0.2.1 dX4_makeRoom_45 rfl (lv_at hl 0 rfl) ?_
        refine lv_iconst (v := 0) S0.1 S0.2.1 dX4_makeRoom_46 (by decide) ?_
        refine pX4_first S0 hw hd2 kw_458 dX4_makeRoom_47 (nm_keep hf) (fun s3 H locs hw hf => ?_)
        obtain ⟨e8, hf⟩ := keep_some hf
        refine lv_goto (tgt := 82) S0.1 S0.2.1 dX4_makeRoom_50 (by decide) ?_
        exact hret (gr_c e8 hC) (gr_s e8 hS) dX4_makeRoom_82 hw hf
    · replace hf := q_neg g1 hf
      cases hf

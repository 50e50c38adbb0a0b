/-! THE WORLD WITH SOME OF IT CUT OUT, AND A LIST OF CELLS BESIDE -/
def qM (B0 e0 : Nat) (D : va_G) (Y : Nat → ClassId) (A : Nat → Prop) (s : State) (ad : qAd) (σ : qS) (K : List (Nat × Nat)) (ws : va_W) (H : Heap) (locs : List Loc) : Prop :=
  lX B0 e0 D Y A s ws H locs ∧ (∀ k i, qd (cL Y) σ k i → (k, i) ∉ K → va_at D vwCl (ad k i, qc (cL Y) ad σ k i) H) ∧ (∀ k i k' i', qd (cL Y) σ k i → qd (cL Y) σ k' i' → ad k i = ad k' i' → k = k' ∧ i = i') ∧ (∀ k i, qd (cL Y) σ k i → A (ad k i)) ∧ (∀ k i, qd (cL Y) σ k i → (k, i) ∉ K → ∀ (j : Nat) (x : Nat × va_E), ws[j]? = some x → ad k i ≠ x.1)
section MX
variable {p : Program} {l : Launch} {e : Env} {R : Room} {s : State} {m : MethodId} {args : Array Value} {below : List Frame} {meth : Method} {c : Code} {H : Heap} {locs : List Loc} {cells slots : Nat} {Q : State → Prop}
variable {cc : ByteArray} {pc nL : Nat} {ls : Array Slot} {rest : List Value} {own : String}
variable {D : va_G} {Y : Nat → ClassId} {A : Nat → Prop} {ws : va_W} {B0 e0 : Nat} {ad : qAd} {σ : qS} {K : List (Nat × Nat)}
theorem m_of (hw : qW D (cL Y) (qT Y) A s.heap s ad σ H locs) (hAB : ∀ q, A q → B0 ≤ q) (hE : qE B0 e0 s s.heap) : qM B0 e0 D Y A s ad σ [] [] H locs := by
  obtain ⟨hV, hA, hS, hK, hf⟩ := hw
  refine ⟨⟨fun k q h => by simp at h, ⟨fun i j p q h => by simp at h, fun k q h => by simp at h⟩, hS, hK, hf, hAB, hE⟩, fun k i hd _ => hV.1 k i hd, hV.2, hA, fun k i hd _ j x h => by simp at h⟩
theorem m_cut (hm : qM B0 e0 D Y A s ad σ K ws H locs) {k i : Nat} (hd : qd (cL Y) σ k i) (hn : (k, i) ∉ K) : qM B0 e0 D Y A s ad σ ((k, i) :: K) ((ad k i, qc (cL Y) ad σ k i) :: ws) H locs := by
  obtain ⟨⟨hP, hD, hS, hK, hA, hAB, hE⟩, m2, m3, m4, m5⟩ := hm
  refine ⟨⟨fun j q h => ?_, ⟨fun a b p q h1 h2 h3 => ?_, fun j q h => ?_⟩, hS, hK, hA, hAB, hE⟩, fun k' i' hd' hn' => m2 k' i' hd' (fun h => hn' (List.mem_cons_of_mem _ h)), m3, m4, fun k' i' hd' hn' j x h => ?_⟩
  · cases j with
    | zero => cases Option.some.inj h; exact m2 k i hd hn
    | succ j => exact hP j q h
  · cases a with
    | zero =>
      cases b with
      | zero => rfl
      | succ b => cases Option.some.inj h1; exact absurd h3 (m5 k i hd hn b q h2)
    | succ a =>
      cases b with
      | zero => cases Option.some.inj h2; exact absurd h3.symm (m5 k i hd hn a p h1)
      | succ b => exact congrArg _ (hD.1 a b p q h1 h2 h3)
  · cases j with
    | zero => cases Option.some.inj h; exact m4 k i hd
    | succ j => exact hD.2 j q h
  · cases j with
    | zero =>
      cases Option.some.inj h
      intro he
      obtain ⟨rfl, rfl⟩ := m3 k' i' k i hd' hd he
      exact hn' List.mem_cons_self
    | succ j => exact m5 k' i' hd' (fun h => hn' (List.mem_cons_of_mem _ h)) j x h
theorem m_get (S0 : CallFix p m c cc nL s args gws own) (hm : qM B0 e0 D Y A s ad σ K ws H locs) {k i ci : Nat} {fs : List Value} (hd : qd (cL Y) σ k i) (hn : (k, i) ∉ K) (he : qc (cL Y) ad σ k i = .inr (ci, fs)) {C : String} {T : u_T} {N : Nat} (hc : vwCl[ci]? = some (C, T, N)) (hin : ∀ w ∈ u_ws C T N, w ∈ gws) (sl : Nat) (hk : sl < N)
    {idx : Nat} (hl : Cond.fieldLink own idx (T sl).1 (T sl).2.1 (T sl).2.2.1 ∈ gws) {v : Value} (hv : fs[sl]? = some v) (hdg : decode cc pc = .ok (.getfield idx, 3))
    (kk : W p l e R s m args below meth c H locs cells slots Q (F0 m (pc + 3) ls (v :: rest))) : W p l e R s m args below meth c H locs cells slots Q (F0 m pc ls (.ref (ad k i) :: rest)) :=
  va_get S0.1 S0.2.1 S0.2.2.2.2 hin S0.2.2.2.1 hm.1.2.2.2.1 (ws := [(ad k i, .inr (ci, fs))]) (H := H) (fun j q h => by
    cases j with
    | zero => cases Option.some.inj h; have h1 := hm.2.1 k i hd hn; rw [he] at h1; exact h1
    | succ j => simp at h) 0 rfl hc sl hk (S0.2.2.2.2 _ hl) (fun _ h => h) hv hdg kk
theorem m_new (S0 : CallFix p m c cc nL s args gws own) (hm : qM B0 e0 D Y A s ad σ K ws H locs) {C : String} {T : u_T} {N ci index : Nat} (hin : ∀ w ∈ u_ws C T N, w ∈ gws) (ty : Nat → FieldType) (hty : ∀ k, k < N → parseFieldDescriptor (T k).2.2.1 = some (ty k)) (hcl : Cond.classLink own index C ∈ gws) (hinst : Cond.instantiable C N ∈ gws) (hini : Cond.initialized C ∈ gws) (hc : vwCl[ci]? = some (C, T, N)) {fs : List Value} (hfs : ∀ j, j < N → defaultValue (ty j) = vp_V fs j) (hcells : cells + 1 ≤ R.cells ∧ slots + N ≤ R.slots) (hdg : decode cc pc = .ok (.new index, 3))
    (kk : ∀ (q : Nat) (H1 : Heap), qM B0 e0 D Y A s ad σ K (ws ++ [(q, .inr (ci, fs))]) H1 locs → W p l e R s m args below meth c H1 locs (cells + 1) (slots + N) Q (F0 m (pc + 3) ls (.ref q :: rest))) : W p l e R s m args below meth c H locs cells slots Q (F0 m pc ls rest) := by
  obtain ⟨⟨hP, hD, hS, hK, hA, hAB, hE⟩, m2, m3, m4, m5⟩ := hm
  have hts := S0.2.2.2.2
  have hKn := hK.1 ci _ hc
  refine W.newcK S0.1 S0.2.1 S0.2.2.2.1 (hts _ hcl) (hts _ hinst) (hts _ hini) rfl hdg hcells.1 hcells.2 hKn.2.1 rfl fun H1 kC hkC e1 z1 o1 => ?_
  have hk : ∀ (k : Nat) (x : Nat × va_E), ws[k]? = some x → H1[x.1]? = H[x.1]? := fun k x hx => o1 x.1 ((hP k x hx).lt)
  refine kk H.size H1 ⟨⟨(hP.kept hk).app (fun k x hx => ?_), hD.push hP rfl (hA _ hS.1), ⟨Nat.le_trans hS.1 (by omega), fun x h1 h2 => (o1 x (Nat.lt_of_lt_of_le h1 hS.1)).trans (hS.2.1 x h1 h2), hS.2.2⟩, hK, hA, hAB, hE⟩, fun k i hd hn => (m2 k i hd hn).kept (o1 _ (m2 k i hd hn).lt), m3, m4, fun k i hd hn j x hx => ?_⟩
  · have hz : k < 1 := (List.getElem?_eq_some_iff.mp hx).1
    rw [show k = 0 by omega] at hx
    cases hx
    exact ⟨_, hc, (u_born ty hts hin hKn hkC e1 hty).to hfs⟩
  · by_cases h9 : j < ws.length
    · rw [List.getElem?_append_left h9] at hx
      exact m5 k i hd hn j x hx
    · rw [List.getElem?_append_right (Nat.le_of_not_lt h9)] at hx
      have hz := (List.getElem?_eq_some_iff.mp hx).1
      rw [show j - ws.length = 0 by simp at hz; omega] at hx
      cases hx
      exact Nat.ne_of_lt (m2 k i hd hn).lt
theorem m_kept (hm : qM B0 e0 D Y A s ad σ K ws H locs) {wc wr w1 : va_W} {H1 : Heap} {isC isR : List Nat} (hC : isC.map (fun i => ws[i]?) = wc.map some) (hRr : isR.map (fun i => ws[i]?) = wr.map some) (hk : ∀ q : Nat, q < H.size → ¬ va_A wc H.size q → H1[q]? = H[q]?) (hD1 : va_D (va_A wc H.size) w1) :
    (∀ k i, qd (cL Y) σ k i → (k, i) ∉ K → va_at D vwCl (ad k i, qc (cL Y) ad σ k i) H1) ∧ (∀ k i, qd (cL Y) σ k i → (k, i) ∉ K → ∀ (j : Nat) (x : Nat × va_E), (wr ++ w1)[j]? = some x → ad k i ≠ x.1) := by
  obtain ⟨-, m2, -, -, m5⟩ := hm
  have at' : ∀ {is : List Nat} {w : va_W}, is.map (fun i => ws[i]?) = w.map some → ∀ (k : Nat) (q : Nat × va_E), w[k]? = some q → ∃ i : Nat, ws[i]? = some q := by
    intro is w hs k q hq
    have h1 : (is.map (fun i => ws[i]?))[k]? = some (some q) := by rw [hs, List.getElem?_map, hq]; rfl
    rw [List.getElem?_map] at h1
    cases hi : is[k]? with
    | none => rw [hi] at h1; cases h1
    | some i => rw [hi] at h1; exact ⟨i, Option.some.inj h1⟩
  have hnot : ∀ k i, qd (cL Y) σ k i → (k, i) ∉ K → ¬ va_A wc H.size (ad k i) := by
    intro k i hd hn h
    rcases h with ⟨j, e9, h⟩ | h
    · obtain ⟨i9, h9⟩ := at' hC j _ h
      exact m5 k i hd hn i9 _ h9 rfl
    · exact absurd (m2 k i hd hn).lt (Nat.not_lt.mpr h)
  refine ⟨fun k i hd hn => (m2 k i hd hn).kept (hk _ (m2 k i hd hn).lt (hnot k i hd hn)), fun k i hd hn j x hx => ?_⟩
  by_cases h9 : j < wr.length
  · rw [List.getElem?_append_left h9] at hx
    obtain ⟨i9, h8⟩ := at' hRr j _ hx
    exact m5 k i hd hn i9 x h8
  · rw [List.getElem?_append_right (Nat.le_of_not_lt h9)] at hx
    intro he
    exact hnot k i hd hn (he ▸ hD1.2 _ x hx)
theorem m_call (S0 : CallFix p m c cc nL s args gws own) (hm : qM B0 e0 D Y A s ad σ K ws H locs) {y : MethodName} {b2 : ByteArray} {maxL2 fr2 lo2 mc ms n b : Nat} {As : List Value} {wc wr : va_W} {wsf : (Nat → Nat) → va_W} (isC isR : List Nat)
    (hM : qK l y b2 maxL2 fr2 lo2 mc ms B0 e0 D Y (.ref b :: As) wc wsf) (hy : lY y b2 maxL2 n) {idx : Nat} (hl : Cond.methodLink own idx y ∈ gws) (hR : fr2 + 1 ≤ R.frames ∧ 8 + (maxL2 + 11) + lo2 ≤ R.locals) (hn : As.length = n) (hC : isC.map (fun i => ws[i]?) = wc.map some) (hRr : isR.map (fun i => ws[i]?) = wr.map some) (hnC : va_nd isC = true) (hnR : va_nd isR = true) (hdis : ∀ i ∈ isR, i ∉ isC)
    (hl2 : ls.size = nL) (hcat : (rest.map fun v => v.category).sum ≤ 8) (hdg : decode cc pc = .ok (.invokespecial idx, 3)) (hroom : cells + mc ≤ R.cells ∧ slots + ms ≤ R.slots) {st0 : List Value} (hst : st0 = As.reverse ++ .ref b :: rest)
    (kk : ∀ (a : Nat → Nat) (H1 : Heap) (locs1 : List Loc), qM B0 e0 D Y A s ad σ K (wr ++ wsf a) H1 locs1 → W p l e R s m args below meth c H1 locs1 (cells + mc) (slots + ms) Q (F0 m (pc + 3) ls rest)) : W p l e R s m args below meth c H locs cells slots Q (F0 m pc ls st0) := by
  have hm0 := hm
  obtain ⟨⟨hP, hD, hS, hK, hA, hAB, hE⟩, m2, m3, m4, m5⟩ := hm
  have hPc : va_P D vwCl wc H := hP.by (fun k => isC.getD k 0) (fun k q hk => by
    have h1 : (isC.map (fun i => ws[i]?))[k]? = some (some q) := by rw [hC, List.getElem?_map, hk]; rfl
    rw [List.getElem?_map] at h1
    cases hi : isC[k]? with
    | none => rw [hi] at h1; cases h1
    | some i =>
      rw [hi] at h1
      rw [List.getD_eq_getElem?_getD, hi]
      exact Option.some.inj h1)
  have hDc := hD.sub (ws' := wc) isC hnC hC
  have hF := va_free (wc := wc) hD hS hA isC hC
  refine va_callv (va_runI (As := As) (rest := rest) S0 (hM H.size) (cwI n S0.2.2.2.2 (gws_good0 hy.1.2.2) rfl rfl rfl (S0.2.2.2.2 _ hy.1.2.1) (S0.2.2.2.2 _ hl) (S0.2.2.2.2 _ hy.1.1) hy.2.1 hy.2.2 hR) ⟨l_blind, fun U hU hW => ⟨rfl, by rw [hU], by rw [hU]; exact hPc, va_K.moved hW.alike hK, hDc.weaken (fun _ _ _ h => hAB _ h), by rw [hU]; exact hE.warm hW hS.1 (fun q hq hn => hS.2.1 q hq (fun ha => hn (hAB q ha)))⟩⟩ rfl hn hl2 hst (lv_room hcat) hdg hroom) hS (fun q _ h => hF q h) hF (fun u t H1 locs1 ht hvm _ hB hz hk hS => ?_)
  obtain ⟨hP1, hK1, hD1⟩ := hB
  rw [ht] at hP1
  obtain ⟨hP2, hD2⟩ := va_join (wr := wr) (w1 := wsf u) hP hD isC isR hC hRr hnR hdis hk hF hP1 hD1
  obtain ⟨m2', m5'⟩ := m_kept hm0 hC hRr hk hD1
  exact kk u H1 locs1 ⟨⟨hP2, hD2, hS, hK, hA, hAB, hE⟩, m2', m3, m4, m5'⟩
theorem m_callVi (S0 : CallFix p m c cc nL s args gws own) (hm : qM B0 e0 D Y A s ad σ K ws H locs) {y : MethodName} {C : String} {b2 : ByteArray} {maxL2 fr2 lo2 mc ms n b ci : Nat} {ret2 : Option FieldType} {fs : List Value} {As : List Value} {wc wr : va_W} {wsf : (Nat → Nat) → va_W} (isC isR : List Nat)
    (hM : qKi l y b2 maxL2 ret2 fr2 lo2 mc ms B0 e0 D Y (.ref b :: As) wc wsf) (hy : qY y C b2 maxL2 ret2 n) {idx : Nat} (hl : Cond.methodLink own idx y ∈ gws) (hR : fr2 + 1 ≤ R.frames ∧ 8 + (maxL2 + 11) + lo2 ≤ R.locals) (q0 : Nat) (he : ws[q0]? = some (b, .inr (ci, fs))) {q : vw_C} (hc : vwCl[ci]? = some q) (hq : q.1 = C) (hn : As.length = n) (hC : isC.map (fun i => ws[i]?) = wc.map some) (hRr : isR.map (fun i => ws[i]?) = wr.map some) (hnC : va_nd isC = true) (hnR : va_nd isR = true) (hdis : ∀ i ∈ isR, i ∉ isC)
    (hl2 : ls.size = nL) (hcat : (rest.map fun v => v.category).sum ≤ 8) (hdg : decode cc pc = .ok (.invokevirtual idx, 3)) (hroom : cells + mc ≤ R.cells ∧ slots + ms ≤ R.slots) {st0 : List Value} (hst : st0 = As.reverse ++ .ref b :: rest)
    (kk : ∀ (a : Nat → Nat) (r : Int32) (H1 : Heap) (locs1 : List Loc), qM B0 e0 D Y A s ad σ K (wr ++ wsf a) H1 locs1 → W p l e R s m args below meth c H1 locs1 (cells + mc) (slots + ms) Q (F0 m (pc + 3) ls (.int r :: rest))) : W p l e R s m args below meth c H locs cells slots Q (F0 m pc ls st0) := by
  have hm0 := hm
  obtain ⟨⟨hP, hD, hS, hK, hA, hAB, hE⟩, m2, m3, m4, m5⟩ := hm
  subst hq
  have hPc : va_P D vwCl wc H := hP.by (fun k => isC.getD k 0) (fun k q hk => by
    have h1 : (isC.map (fun i => ws[i]?))[k]? = some (some q) := by rw [hC, List.getElem?_map, hk]; rfl
    rw [List.getElem?_map] at h1
    cases hi : isC[k]? with
    | none => rw [hi] at h1; cases h1
    | some i =>
      rw [hi] at h1
      rw [List.getD_eq_getElem?_getD, hi]
      exact Option.some.inj h1)
  have hDc := hD.sub (ws' := wc) isC hnC hC
  have hF := va_free (wc := wc) hD hS hA isC hC
  refine va_calli (va_runV (As := As) (rest := rest) S0 (hM H.size) (cwV n S0.2.2.2.2 (gws_V hy hl) rfl rfl rfl hy.2 hR) ⟨l_blind, va_recv hK hP hc he, fun U hU hW => ⟨rfl, by rw [hU], by rw [hU]; exact hPc, va_K.moved hW.alike hK, hDc.weaken (fun _ _ _ h => hAB _ h), by rw [hU]; exact hE.warm hW hS.1 (fun q hq hn => hS.2.1 q hq (fun ha => hn (hAB q ha)))⟩⟩ rfl hn hl2 hst (lv_room hcat) hdg hroom) hS (fun q _ h => hF q h) hF (fun r u t H1 locs1 ht hvm _ hB hz hk hS => ?_)
  obtain ⟨hP1, hK1, hD1⟩ := hB
  rw [ht] at hP1
  obtain ⟨hP2, hD2⟩ := va_join (wr := wr) (w1 := wsf u) hP hD isC isR hC hRr hnR hdis hk hF hP1 hD1
  obtain ⟨m2', m5'⟩ := m_kept hm0 hC hRr hk hD1
  exact kk u r H1 locs1 ⟨⟨hP2, hD2, hS, hK, hA, hAB, hE⟩, m2', m3, m4, m5'⟩
/-- back to a world: each component lies in the list, or stands as it stood -/
theorem m_out (hm : qM B0 e0 D Y A s ad σ K ws H locs) {ad' : qAd} {σ' : qS} (g : Nat → Nat → Option Nat) (hg1 : ∀ k i j, qd (cL Y) σ' k i → g k i = some j → ∃ e : va_E, ws[j]? = some (ad' k i, e) ∧ (va_at D vwCl (ad' k i, e) H → va_at D vwCl (ad' k i, qc (cL Y) ad' σ' k i) H)) (hg2 : ∀ k i, qd (cL Y) σ' k i → g k i = none → qd (cL Y) σ k i ∧ (k, i) ∉ K ∧ ad' k i = ad k i ∧ (va_at D vwCl (ad k i, qc (cL Y) ad σ k i) H → va_at D vwCl (ad k i, qc (cL Y) ad' σ' k i) H))
    (hg3 : ∀ k i k' i' j, g k i = some j → g k' i' = some j → k = k' ∧ i = i') : qW D (cL Y) (qT Y) A s.heap s ad' σ' H locs := by
  obtain ⟨⟨hP, hD, hS, hK, hA, hAB, hE⟩, m2, m3, m4, m5⟩ := hm
  refine ⟨⟨fun k i hd => ?_, fun k i k' i' hd hd' he => ?_⟩, fun k i hd => ?_, hS, hK, hA⟩
  · cases h : g k i with
    | some j =>
      obtain ⟨e9, h1, h2⟩ := hg1 k i j hd h
      exact h2 (hP j _ h1)
    | none =>
      obtain ⟨h1, h2, h3, h4⟩ := hg2 k i hd h
      rw [h3]
      exact h4 (m2 k i h1 h2)
  · cases h : g k i with
    | some j =>
      obtain ⟨e9, h1, -⟩ := hg1 k i j hd h
      cases h' : g k' i' with
      | some j' =>
        obtain ⟨e8, h1', -⟩ := hg1 k' i' j' hd' h'
        have e9 := hD.1 j j' _ _ h1 h1' he
        subst e9
        exact hg3 k i k' i' j h h'
      | none =>
        obtain ⟨h1', h2, h3, h4⟩ := hg2 k' i' hd' h'
        exact absurd (h3.symm.trans he.symm) (m5 k' i' h1' h2 j _ h1)
    | none =>
      obtain ⟨h1, h2, h3, h4⟩ := hg2 k i hd h
      cases h' : g k' i' with
      | some j' =>
        obtain ⟨e8, h1', -⟩ := hg1 k' i' j' hd' h'
        exact absurd (h3.symm.trans he) (m5 k i h1 h2 j' _ h1')
      | none =>
        obtain ⟨h1', h2', h3', h4'⟩ := hg2 k' i' hd' h'
        exact m3 k i k' i' h1 h1' (h3.symm.trans (he.trans h3'))
  · cases h : g k i with
    | some j =>
      obtain ⟨e9, h1, -⟩ := hg1 k i j hd h
      exact hD.2 j _ h1
    | none =>
      obtain ⟨h1, h2, h3, h4⟩ := hg2 k i hd h
      rw [h3]
      exact m4 k i h1
end MX

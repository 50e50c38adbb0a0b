/-! METHODS THAT MAKE: addresses change -/
/-- of a list that holds nothing the array is the one that all empty lists share -/
def qOk (e0 : Nat) (ad : qAd) (σ : qS) : Prop := (σ.2 0 0 = 0 → ad 17 0 = e0) ∧ (σ.2 1 0 = 0 → ad 19 0 = e0)
def qPy (B0 e0 : Nat) (D : va_G) (Y : Nat → ClassId) (ad : qAd) (σ : qS) (sz : Nat) (U : State) : Prop := qPx B0 D (cL Y) (qT Y) ad σ sz U ∧ qE B0 e0 U U.heap
def qYi (l : Launch) (y : MethodName) (b : ByteArray) (maxL : Nat) (ret : Option FieldType) (fr lo mc ms B0 e0 : Nat) (C : Nat → Prop) (D : va_G) (Y : Nat → ClassId) (ad : qAd) (av : List Value) (σ : qS) (fv : Option (Int32 × Nat × qS)) : Prop :=
  ∀ (sz : Nat) (r0 : Int32 × Nat × qS), fv = some r0 → qOk e0 ad σ → vx_Met l y (qWs y b maxL ret) (qRx fr lo mc ms) (va_Pc av (qPy B0 e0 D Y ad σ sz)) (va_Qi (S := qAd × qS) (fun r u => fv = some (r, 0, u.2) ∧ qOk e0 u.1 u.2 ∧ ∀ k i, ¬ C k → u.1 k i = ad k i) (fun u t => qB D (cL Y) (qT Y) (qA (cL Y) ad σ sz) u.1 u.2 t) (qA (cL Y) ad σ sz)) (qXC D (cL Y) (qT Y) ad (qA (cL Y) ad σ sz) fv) mc ms (qA (cL Y) ad σ sz)
section YB
variable {p : Program} {l : Launch} {e : Env} {R : Room} {s : State} {m : MethodId} {args : Array Value} {below : List Frame} {meth : Method} {c : Code} {H : Heap} {locs : List Loc} {cells slots : Nat} {Q : State → Prop}
variable {cc : ByteArray} {pc nL : Nat} {ls : Array Slot} {rest : List Value} {own : String}
variable {D : va_G} {A : Nat → Prop} {ad : qAd} {σ : qS} {β : Type} {B0 : Nat}
theorem q_oyi {e0 : Nat} {Y : Nat → ClassId} {C : Nat → Prop} (hst : l.stackTraces = false) {y : MethodName} {b : ByteArray} {maxL fr lo mc ms : Nat} {av : List Value} {fv : Option (Int32 × Nat × qS)} (hy : plainName y.cls = true) (hlen : (lg_sl av).length ≤ maxL) (hfl : 5 < fr ∧ 90 ≤ lo) (own : String) (ho : y.cls = own)
    (body : ∀ (p : Program) (e : Env) (s : State) (m : MethodId) (below : List Frame) (meth : Method) (c : Code) (A : Nat → Prop) (Q : State → Prop) (r0 : Int32 × Nat × qS), CallFix p m c b maxL s av.toArray gws own → fv = some r0 → qW D (cL Y) (qT Y) A s.heap s ad σ s.heap [] → qG B0 s s.heap → (∀ q, A q → B0 ≤ q) → qE B0 e0 s s.heap → qOk e0 ad σ →
      (∀ {pc : Nat} {ls : Array Slot} {H : Heap} {locs : List Loc} {v : Int32} {ad' : qAd} {σ' : qS}, decode b pc = .ok (.ireturn, 1) → qW D (cL Y) (qT Y) A s.heap s ad' σ' H locs → some (v, 0, σ') = some r0 → qOk e0 ad' σ' → (∀ k i, ¬ C k → ad' k i = ad k i) → W p l e (qRx fr lo mc ms) s m av.toArray below meth c H locs mc ms Q (F0 m pc ls [.int v])) →
      qHx p l e (qRx fr lo mc ms) s m av.toArray below meth c Q D (cL Y) (qT Y) A ad r0 →
      (∀ {pc : Nat} {ls : Array Slot} {H : Heap} {locs : List Loc} {rest : List Value} {cl sl ex ik is ic : Nat} {text : String} {r : Int32} {σ' : qS}, qThr own ex ik is ic text → ex ≠ 0 → qW D (cL Y) (qT Y) A s.heap s ad σ' H locs → some (r, ex, σ') = some r0 → qThD b pc ik is ic → ls.size = maxL → (rest.map fun v => v.category).sum ≤ 8 → cl + 1 ≤ mc ∧ sl + 6 ≤ ms → W p l e (qRx fr lo mc ms) s m av.toArray below meth c H locs cl sl Q (F0 m pc ls rest)) →
      ∀ ls : Array Slot, lv_has ls maxL (lv_args 0 av) → W p l e (qRx fr lo mc ms) s m av.toArray below meth c s.heap [] 0 0 Q (F0 m 0 ls [])) : qYi l y b maxL (some .int) fr lo mc ms B0 e0 C D Y ad av σ fv := by
  intro sz r0 hf hok
  refine vx_ofW (cc := b) (maxL := maxL) (ret := (some .int)) hy rfl ?_
  intro p e s m args below meth c s₁ B hml hout hv
  obtain ⟨rfl, ⟨⟨hsz, hV, hK⟩, hB0, hG⟩, hE⟩ := hv
  subst hsz
  have hts := atoms_spec (ws := qWs y b maxL (some .int)) B.pre
  have hown : s.vm.findClass y.cls = some m.cls := findClass_of_methodNamed B.named
  rw [ho] at hown
  have S0 : CallFix p m c b maxL s av.toArray gws own := ⟨B.exec, B.bytes, hml, hown, fun w h => hts w (List.mem_cons_of_mem _ h)⟩
  have hw : qW D (cL Y) (qT Y) (qA (cL Y) ad σ s.heap.size) s.heap s ad σ s.heap [] := ⟨hV, fun k i h => Or.inl ⟨k, i, h, rfl⟩, va_S.rf, hK, fun q h => Or.inr h⟩
  have hAB : ∀ q, qA (cL Y) ad σ s.heap.size q → B0 ≤ q := fun q h => by
    rcases h with ⟨k, i, hd, rfl⟩ | h
    · exact hB0 k i hd
    · exact Nat.le_trans hG.2.2.2.2 h
  have hl := lv_entry av (n := maxL) hlen
  rw [lg_entry_eq]
  generalize (lg_sl av ++ List.replicate (maxL - (lg_sl av).length) Slot.unset).toArray = ls at hl ⊢
  refine body p e s m below meth c _ _ r0 S0 hf hw hG hAB hE hok ?_ ?_ ?_ ls hl
  · exact fun hd hw' h hok' hC => vx_ret (W.iret S0.1 S0.2.1 B.returns (fun t ht hW => ⟨⟨_, (_, _), rfl, ⟨hf.trans h.symm, hok', hC⟩, ⟨by rw [ht]; exact hw'.1, hw'.2.1, va_K.moved hW.alike hw'.2.2.2.1⟩⟩, hw'.2.2.1.F ht⟩) hw'.2.2.1.2.2 hd (hlocks := B.notSynchronized))
  · intro pc ls H locs rest cl sl q9 ce ex r σ' hw' h hne hce hcv hcl h1 h2
    exact vx_out (fun x hx => (hout x hx).elim) B.notSynchronized hce hcv hcl (fun t ht hvm => ⟨(ex, σ'), ⟨r, hf.trans h.symm⟩, ⟨rfl, hne, ⟨by rw [ht]; exact hw'.1, hw'.2.1, va_K.moved hvm hw'.2.2.2.1⟩⟩, hw'.2.2.1.F ht⟩) hw'.2.2.1.2.2 h1 h2
  · intro pc ls H locs rest cl sl ex ik is ic text r σ' ht hne hw' h hd hz hcat hm
    exact q_throw hst S0 hG hAB B.notSynchronized hout hw' (hf.trans h.symm) hne ht hd hz hcat hfl hm hm
end YB

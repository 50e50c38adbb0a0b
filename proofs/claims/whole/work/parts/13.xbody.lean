/-! THROWS, AND THE BODIES OF METHODS THAT THROW -/
def qThr (own : String) (ex ik is ic : Nat) (text : String) : Prop := Cond.classLink own ik (exN ex) ∈ gws ∧ Cond.initialized (exN ex) ∈ gws ∧ (own, is, text) ∈ strs ∧ (∀ w ∈ vx_atS own ic (exN ex) exNames, w ∈ gws ∨ w ∈ xws) ∧ (∀ w ∈ Cond.classLink own ik (exN ex) :: Cond.initialized (exN ex) :: vx_atS own ic (exN ex) exNames, vx_ot w = true) ∧ Bundle.fit (exN ex) = true
def qThD (b : ByteArray) (pc ik is ic : Nat) : Prop := decode b pc = .ok (.new ik, 3) ∧ decode b (pc + 3) = .ok (.dup, 1) ∧ ((decode b (pc + 4) = .ok (.ldc is, 2) ∧ decode b (pc + 6) = .ok (.invokespecial ic, 3) ∧ decode b (pc + 9) = .ok (.athrow, 1)) ∨ (decode b (pc + 4) = .ok (.ldc_w is, 3) ∧ decode b (pc + 7) = .ok (.invokespecial ic, 3) ∧ decode b (pc + 10) = .ok (.athrow, 1)))
theorem exNames_fit : ∀ n ∈ exNames, Bundle.fit n = true := by decide +kernel
theorem qt1_112 : qThr "Leasehall" 1 110 112 114 "no such person" := ⟨kw_334, kw_15, List.mem_of_getElem? (i := 0) rfl, xat1, xgo1, by decide +kernel⟩
theorem qt2_112 : qThr "Leasehall" 2 121 112 125 "no such person" := ⟨kw_407, kw_16, List.mem_of_getElem? (i := 0) rfl, xat2, xgo2, by decide +kernel⟩
theorem qt3_112 : qThr "Leasehall" 3 130 112 134 "no such person" := ⟨kw_427, kw_17, List.mem_of_getElem? (i := 0) rfl, xat3, xgo3, by decide +kernel⟩
theorem qt1_396 : qThr "Leasehall" 1 110 396 114 "no such server" := ⟨kw_334, kw_15, List.mem_of_getElem? (i := 1) rfl, xat1, xgo1, by decide +kernel⟩
theorem qt2_396 : qThr "Leasehall" 2 121 396 125 "no such server" := ⟨kw_407, kw_16, List.mem_of_getElem? (i := 1) rfl, xat2, xgo2, by decide +kernel⟩
theorem qt3_396 : qThr "Leasehall" 3 130 396 134 "no such server" := ⟨kw_427, kw_17, List.mem_of_getElem? (i := 1) rfl, xat3, xgo3, by decide +kernel⟩
theorem qt1_123 : qThr "Leasehall" 1 110 123 114 "patience is out of range" := ⟨kw_334, kw_15, List.mem_of_getElem? (i := 2) rfl, xat1, xgo1, by decide +kernel⟩
theorem qt2_123 : qThr "Leasehall" 2 121 123 125 "patience is out of range" := ⟨kw_407, kw_16, List.mem_of_getElem? (i := 2) rfl, xat2, xgo2, by decide +kernel⟩
theorem qt3_123 : qThr "Leasehall" 3 130 123 134 "patience is out of range" := ⟨kw_427, kw_17, List.mem_of_getElem? (i := 2) rfl, xat3, xgo3, by decide +kernel⟩
theorem qt1_132 : qThr "Leasehall" 1 110 132 114 "10 sessions were opened" := ⟨kw_334, kw_15, List.mem_of_getElem? (i := 3) rfl, xat1, xgo1, by decide +kernel⟩
theorem qt2_132 : qThr "Leasehall" 2 121 132 125 "10 sessions were opened" := ⟨kw_407, kw_16, List.mem_of_getElem? (i := 3) rfl, xat2, xgo2, by decide +kernel⟩
theorem qt3_132 : qThr "Leasehall" 3 130 132 134 "10 sessions were opened" := ⟨kw_427, kw_17, List.mem_of_getElem? (i := 3) rfl, xat3, xgo3, by decide +kernel⟩
theorem qt1_394 : qThr "Leasehall" 1 110 394 114 "no such session" := ⟨kw_334, kw_15, List.mem_of_getElem? (i := 4) rfl, xat1, xgo1, by decide +kernel⟩
theorem qt2_394 : qThr "Leasehall" 2 121 394 125 "no such session" := ⟨kw_407, kw_16, List.mem_of_getElem? (i := 4) rfl, xat2, xgo2, by decide +kernel⟩
theorem qt3_394 : qThr "Leasehall" 3 130 394 134 "no such session" := ⟨kw_427, kw_17, List.mem_of_getElem? (i := 4) rfl, xat3, xgo3, by decide +kernel⟩
theorem qt1_400 : qThr "Leasehall" 1 110 400 114 "the session has ended" := ⟨kw_334, kw_15, List.mem_of_getElem? (i := 5) rfl, xat1, xgo1, by decide +kernel⟩
theorem qt2_400 : qThr "Leasehall" 2 121 400 125 "the session has ended" := ⟨kw_407, kw_16, List.mem_of_getElem? (i := 5) rfl, xat2, xgo2, by decide +kernel⟩
theorem qt3_400 : qThr "Leasehall" 3 130 400 134 "the session has ended" := ⟨kw_427, kw_17, List.mem_of_getElem? (i := 5) rfl, xat3, xgo3, by decide +kernel⟩
theorem qt1_173 : qThr "Leasehall" 1 110 173 114 "most is out of range" := ⟨kw_334, kw_15, List.mem_of_getElem? (i := 6) rfl, xat1, xgo1, by decide +kernel⟩
theorem qt2_173 : qThr "Leasehall" 2 121 173 125 "most is out of range" := ⟨kw_407, kw_16, List.mem_of_getElem? (i := 6) rfl, xat2, xgo2, by decide +kernel⟩
theorem qt3_173 : qThr "Leasehall" 3 130 173 134 "most is out of range" := ⟨kw_427, kw_17, List.mem_of_getElem? (i := 6) rfl, xat3, xgo3, by decide +kernel⟩
theorem qt1_175 : qThr "Leasehall" 1 110 175 114 "time is out of range" := ⟨kw_334, kw_15, List.mem_of_getElem? (i := 7) rfl, xat1, xgo1, by decide +kernel⟩
theorem qt2_175 : qThr "Leasehall" 2 121 175 125 "time is out of range" := ⟨kw_407, kw_16, List.mem_of_getElem? (i := 7) rfl, xat2, xgo2, by decide +kernel⟩
theorem qt3_175 : qThr "Leasehall" 3 130 175 134 "time is out of range" := ⟨kw_427, kw_17, List.mem_of_getElem? (i := 7) rfl, xat3, xgo3, by decide +kernel⟩
theorem qt1_183 : qThr "Leasehall" 1 110 183 114 "10 leases were made" := ⟨kw_334, kw_15, List.mem_of_getElem? (i := 8) rfl, xat1, xgo1, by decide +kernel⟩
theorem qt2_183 : qThr "Leasehall" 2 121 183 125 "10 leases were made" := ⟨kw_407, kw_16, List.mem_of_getElem? (i := 8) rfl, xat2, xgo2, by decide +kernel⟩
theorem qt3_183 : qThr "Leasehall" 3 130 183 134 "10 leases were made" := ⟨kw_427, kw_17, List.mem_of_getElem? (i := 8) rfl, xat3, xgo3, by decide +kernel⟩
theorem qt1_398 : qThr "Leasehall" 1 110 398 114 "no such lease" := ⟨kw_334, kw_15, List.mem_of_getElem? (i := 9) rfl, xat1, xgo1, by decide +kernel⟩
theorem qt2_398 : qThr "Leasehall" 2 121 398 125 "no such lease" := ⟨kw_407, kw_16, List.mem_of_getElem? (i := 9) rfl, xat2, xgo2, by decide +kernel⟩
theorem qt3_398 : qThr "Leasehall" 3 130 398 134 "no such lease" := ⟨kw_427, kw_17, List.mem_of_getElem? (i := 9) rfl, xat3, xgo3, by decide +kernel⟩
theorem qt1_197 : qThr "Leasehall" 1 110 197 114 "the lease has ended" := ⟨kw_334, kw_15, List.mem_of_getElem? (i := 10) rfl, xat1, xgo1, by decide +kernel⟩
theorem qt2_197 : qThr "Leasehall" 2 121 197 125 "the lease has ended" := ⟨kw_407, kw_16, List.mem_of_getElem? (i := 10) rfl, xat2, xgo2, by decide +kernel⟩
theorem qt3_197 : qThr "Leasehall" 3 130 197 134 "the lease has ended" := ⟨kw_427, kw_17, List.mem_of_getElem? (i := 10) rfl, xat3, xgo3, by decide +kernel⟩
theorem qt1_404 : qThr "Leasehall" 1 110 404 114 "name is out of range" := ⟨kw_334, kw_15, List.mem_of_getElem? (i := 11) rfl, xat1, xgo1, by decide +kernel⟩
theorem qt2_404 : qThr "Leasehall" 2 121 404 125 "name is out of range" := ⟨kw_407, kw_16, List.mem_of_getElem? (i := 11) rfl, xat2, xgo2, by decide +kernel⟩
theorem qt3_404 : qThr "Leasehall" 3 130 404 134 "name is out of range" := ⟨kw_427, kw_17, List.mem_of_getElem? (i := 11) rfl, xat3, xgo3, by decide +kernel⟩
theorem qt1_406 : qThr "Leasehall" 1 110 406 114 "value is out of range" := ⟨kw_334, kw_15, List.mem_of_getElem? (i := 12) rfl, xat1, xgo1, by decide +kernel⟩
theorem qt2_406 : qThr "Leasehall" 2 121 406 125 "value is out of range" := ⟨kw_407, kw_16, List.mem_of_getElem? (i := 12) rfl, xat2, xgo2, by decide +kernel⟩
theorem qt3_406 : qThr "Leasehall" 3 130 406 134 "value is out of range" := ⟨kw_427, kw_17, List.mem_of_getElem? (i := 12) rfl, xat3, xgo3, by decide +kernel⟩
theorem qt1_213 : qThr "Leasehall" 1 110 213 114 "kind is out of range" := ⟨kw_334, kw_15, List.mem_of_getElem? (i := 13) rfl, xat1, xgo1, by decide +kernel⟩
theorem qt2_213 : qThr "Leasehall" 2 121 213 125 "kind is out of range" := ⟨kw_407, kw_16, List.mem_of_getElem? (i := 13) rfl, xat2, xgo2, by decide +kernel⟩
theorem qt3_213 : qThr "Leasehall" 3 130 213 134 "kind is out of range" := ⟨kw_427, kw_17, List.mem_of_getElem? (i := 13) rfl, xat3, xgo3, by decide +kernel⟩
theorem qt1_412 : qThr "Leasehall" 1 110 412 114 "6 acts are gathered" := ⟨kw_334, kw_15, List.mem_of_getElem? (i := 14) rfl, xat1, xgo1, by decide +kernel⟩
theorem qt2_412 : qThr "Leasehall" 2 121 412 125 "6 acts are gathered" := ⟨kw_407, kw_16, List.mem_of_getElem? (i := 14) rfl, xat2, xgo2, by decide +kernel⟩
theorem qt3_412 : qThr "Leasehall" 3 130 412 134 "6 acts are gathered" := ⟨kw_427, kw_17, List.mem_of_getElem? (i := 14) rfl, xat3, xgo3, by decide +kernel⟩
theorem qt1_233 : qThr "Leasehall" 1 110 233 114 "rights are out of range" := ⟨kw_334, kw_15, List.mem_of_getElem? (i := 15) rfl, xat1, xgo1, by decide +kernel⟩
theorem qt2_233 : qThr "Leasehall" 2 121 233 125 "rights are out of range" := ⟨kw_407, kw_16, List.mem_of_getElem? (i := 15) rfl, xat2, xgo2, by decide +kernel⟩
theorem qt3_233 : qThr "Leasehall" 3 130 233 134 "rights are out of range" := ⟨kw_427, kw_17, List.mem_of_getElem? (i := 15) rfl, xat3, xgo3, by decide +kernel⟩
theorem qt1_402 : qThr "Leasehall" 1 110 402 114 "the session gathers" := ⟨kw_334, kw_15, List.mem_of_getElem? (i := 16) rfl, xat1, xgo1, by decide +kernel⟩
theorem qt2_402 : qThr "Leasehall" 2 121 402 125 "the session gathers" := ⟨kw_407, kw_16, List.mem_of_getElem? (i := 16) rfl, xat2, xgo2, by decide +kernel⟩
theorem qt3_402 : qThr "Leasehall" 3 130 402 134 "the session gathers" := ⟨kw_427, kw_17, List.mem_of_getElem? (i := 16) rfl, xat3, xgo3, by decide +kernel⟩
theorem qt1_247 : qThr "Leasehall" 1 110 247 114 "the session does not gather" := ⟨kw_334, kw_15, List.mem_of_getElem? (i := 17) rfl, xat1, xgo1, by decide +kernel⟩
theorem qt2_247 : qThr "Leasehall" 2 121 247 125 "the session does not gather" := ⟨kw_407, kw_16, List.mem_of_getElem? (i := 17) rfl, xat2, xgo2, by decide +kernel⟩
theorem qt3_247 : qThr "Leasehall" 3 130 247 134 "the session does not gather" := ⟨kw_427, kw_17, List.mem_of_getElem? (i := 17) rfl, xat3, xgo3, by decide +kernel⟩
theorem qt1_262 : qThr "Leasehall" 1 110 262 114 "place is below 0" := ⟨kw_334, kw_15, List.mem_of_getElem? (i := 18) rfl, xat1, xgo1, by decide +kernel⟩
theorem qt2_262 : qThr "Leasehall" 2 121 262 125 "place is below 0" := ⟨kw_407, kw_16, List.mem_of_getElem? (i := 18) rfl, xat2, xgo2, by decide +kernel⟩
theorem qt3_262 : qThr "Leasehall" 3 130 262 134 "place is below 0" := ⟨kw_427, kw_17, List.mem_of_getElem? (i := 18) rfl, xat3, xgo3, by decide +kernel⟩
theorem qt1_275 : qThr "Leasehall" 1 110 275 114 "what is out of range" := ⟨kw_334, kw_15, List.mem_of_getElem? (i := 19) rfl, xat1, xgo1, by decide +kernel⟩
theorem qt2_275 : qThr "Leasehall" 2 121 275 125 "what is out of range" := ⟨kw_407, kw_16, List.mem_of_getElem? (i := 19) rfl, xat2, xgo2, by decide +kernel⟩
theorem qt3_275 : qThr "Leasehall" 3 130 275 134 "what is out of range" := ⟨kw_427, kw_17, List.mem_of_getElem? (i := 19) rfl, xat3, xgo3, by decide +kernel⟩
theorem qt1_299 : qThr "Leasehall" 1 110 299 114 "the session has 8 watches" := ⟨kw_334, kw_15, List.mem_of_getElem? (i := 20) rfl, xat1, xgo1, by decide +kernel⟩
theorem qt2_299 : qThr "Leasehall" 2 121 299 125 "the session has 8 watches" := ⟨kw_407, kw_16, List.mem_of_getElem? (i := 20) rfl, xat2, xgo2, by decide +kernel⟩
theorem qt3_299 : qThr "Leasehall" 3 130 299 134 "the session has 8 watches" := ⟨kw_427, kw_17, List.mem_of_getElem? (i := 20) rfl, xat3, xgo3, by decide +kernel⟩
theorem qt1_329 : qThr "Leasehall" 1 110 329 114 "many is out of range" := ⟨kw_334, kw_15, List.mem_of_getElem? (i := 21) rfl, xat1, xgo1, by decide +kernel⟩
theorem qt2_329 : qThr "Leasehall" 2 121 329 125 "many is out of range" := ⟨kw_407, kw_16, List.mem_of_getElem? (i := 21) rfl, xat2, xgo2, by decide +kernel⟩
theorem qt3_329 : qThr "Leasehall" 3 130 329 134 "many is out of range" := ⟨kw_427, kw_17, List.mem_of_getElem? (i := 21) rfl, xat3, xgo3, by decide +kernel⟩
theorem qt1_344 : qThr "Leasehall" 1 110 344 114 "fence is out of range" := ⟨kw_334, kw_15, List.mem_of_getElem? (i := 22) rfl, xat1, xgo1, by decide +kernel⟩
theorem qt2_344 : qThr "Leasehall" 2 121 344 125 "fence is out of range" := ⟨kw_407, kw_16, List.mem_of_getElem? (i := 22) rfl, xat2, xgo2, by decide +kernel⟩
theorem qt3_344 : qThr "Leasehall" 3 130 344 134 "fence is out of range" := ⟨kw_427, kw_17, List.mem_of_getElem? (i := 22) rfl, xat3, xgo3, by decide +kernel⟩
theorem qt1_408 : qThr "Leasehall" 1 110 408 114 "change is out of range" := ⟨kw_334, kw_15, List.mem_of_getElem? (i := 23) rfl, xat1, xgo1, by decide +kernel⟩
theorem qt2_408 : qThr "Leasehall" 2 121 408 125 "change is out of range" := ⟨kw_407, kw_16, List.mem_of_getElem? (i := 23) rfl, xat2, xgo2, by decide +kernel⟩
theorem qt3_408 : qThr "Leasehall" 3 130 408 134 "change is out of range" := ⟨kw_427, kw_17, List.mem_of_getElem? (i := 23) rfl, xat3, xgo3, by decide +kernel⟩
theorem qt1_410 : qThr "Leasehall" 1 110 410 114 "the change is compacted" := ⟨kw_334, kw_15, List.mem_of_getElem? (i := 24) rfl, xat1, xgo1, by decide +kernel⟩
theorem qt2_410 : qThr "Leasehall" 2 121 410 125 "the change is compacted" := ⟨kw_407, kw_16, List.mem_of_getElem? (i := 24) rfl, xat2, xgo2, by decide +kernel⟩
theorem qt3_410 : qThr "Leasehall" 3 130 410 134 "the change is compacted" := ⟨kw_427, kw_17, List.mem_of_getElem? (i := 24) rfl, xat3, xgo3, by decide +kernel⟩
theorem qt1_381 : qThr "Leasehall" 1 110 381 114 "no snapshot was kept" := ⟨kw_334, kw_15, List.mem_of_getElem? (i := 25) rfl, xat1, xgo1, by decide +kernel⟩
theorem qt2_381 : qThr "Leasehall" 2 121 381 125 "no snapshot was kept" := ⟨kw_407, kw_16, List.mem_of_getElem? (i := 25) rfl, xat2, xgo2, by decide +kernel⟩
theorem qt3_381 : qThr "Leasehall" 3 130 381 134 "no snapshot was kept" := ⟨kw_427, kw_17, List.mem_of_getElem? (i := 25) rfl, xat3, xgo3, by decide +kernel⟩
section QT
variable {p : Program} {l : Launch} {e : Env} {R : Room} {s : State} {m : MethodId} {args : Array Value} {below : List Frame} {meth : Method} {c : Code} {H : Heap} {locs : List Loc} {cells slots : Nat} {Q : State → Prop}
variable {cc : ByteArray} {pc nL : Nat} {ls : Array Slot} {rest : List Value} {own : String}
variable {D : va_G} {L : qLay} {tys : List (ClassId × FieldType)} {A : Nat → Prop} {ad : qAd} {σ : qS} {β : Type} {B0 : Nat}
theorem q_throw (hst : l.stackTraces = false) (S0 : CallFix p m c cc nL s args gws own) (hG : qG B0 s s.heap) (hAB : ∀ q, A q → B0 ≤ q) (hlk : meth.locks = false) (hout : ∀ x ∈ c.exceptionTable.toList, False) (hw : qW D L tys A s.heap s ad σ H locs) {α : Type} {fv : Option (α × Nat × qS)} {r : α} {ex : Nat} (hf : fv = some (r, ex, σ)) (hex : ex ≠ 0) {Qc : Array Value → State → Outcome → State → Prop} {ik is ic : Nat} {text : String} (ht : qThr own ex ik is ic text) {cl sl mc ms : Nat} (hd : qThD cc pc ik is ic) (hz : ls.size = nL) (hcat : (rest.map fun v => v.category).sum ≤ 8) (hR : 5 < R.frames ∧ 90 ≤ R.locals) (hRc : cl + 1 ≤ R.cells ∧ sl + 6 ≤ R.slots) (hm : cl + 1 ≤ mc ∧ sl + 6 ≤ ms) :
    W p l e R s m args below meth c H locs cl sl (vx_MQ below Qc (qXC D L tys ad A fv) args s mc ms A) (F0 m pc ls rest) := by
  obtain ⟨t1, t2, t3, t4, t5, t6⟩ := ht
  obtain ⟨d0, d3, d4⟩ := hd
  obtain ⟨g1, g2, g3, g4, g5⟩ := hG
  obtain ⟨sa, hsa⟩ := g4 _ t3
  have hts := S0.2.2.2.2
  have hat : ∀ w ∈ vx_atS own ic (exN ex) exNames, w.before args s = true := fun w hw => by
    rcases t4 w hw with h | h
    · exact hts w h
    · exact va_tabs (u := s) (U := s) (xws_ot h).1 rfl (g3 w h)
  have hno : ∀ pc', ∀ x ∈ c.exceptionTable.toList, covers x pc' = false := fun _ x hx => (hout x hx).elim
  have hx : ∀ t : State, s.vm.Alike t.vm → H.size ≤ t.heap.size → (∀ q : Nat, q < H.size → t.heap[q]? = H[q]?) → qXC D L tys ad A fv (exN ex) s t := fun t hvm hz hk =>
    ⟨(ex, σ), ⟨r, hf⟩, ⟨rfl, hex, ⟨⟨fun k i hd => (hw.1.1 k i hd).kept (hk _ (hw.1.1 k i hd).lt), hw.1.2⟩, hw.2.1, va_K.moved hvm hw.2.2.2.1⟩⟩, Nat.le_trans hw.2.2.1.1 hz, fun q hq hn => (hk q (Nat.lt_of_lt_of_le hq hw.2.2.1.1)).trans (hw.2.2.1.2.1 q hq hn)⟩
  have hRl : (rest.map fun v => v.category).sum + (13 * (exNames.length + 1) + 43) ≤ R.locals := Nat.le_trans (Nat.add_le_add_right hcat _) hR.2
  rcases d4 with ⟨d4, d6, d9⟩ | ⟨d4, d6, d9⟩
  · exact vx_throwS S0.1 S0.2.1 hst S0.2.2.2.1 t6 exNames_fit (hts _ t1) (hts _ t2) hsa hat t5 (g1.narrow hAB) (g2.narrow hAB) hw.2.2.1 (hz.trans S0.2.2.1.symm) d0 d3 d4 d6 d9 (hno _) hR.1 hRl hRc.1 hRc.2 hlk hx hw.2.2.1.2.2 hm.1 hm.2
  · exact vx_throwSW S0.1 S0.2.1 hst S0.2.2.2.1 t6 exNames_fit (hts _ t1) (hts _ t2) hsa hat t5 (g1.narrow hAB) (g2.narrow hAB) hw.2.2.1 (hz.trans S0.2.2.1.symm) d0 d3 d4 d6 d9 (hno _) hR.1 hRl hRc.1 hRc.2 hlk hx hw.2.2.1.2.2 hm.1 hm.2
theorem q_oxi (hst : l.stackTraces = false) {y : MethodName} {b : ByteArray} {maxL fr lo mc ms : Nat} {av : List Value} {fv : Option (Int32 × Nat × qS)} (hy : plainName y.cls = true) (hlen : (lg_sl av).length ≤ maxL) (hfl : 5 < fr ∧ 90 ≤ lo) (own : String) (ho : y.cls = own)
    (body : ∀ (p : Program) (e : Env) (s : State) (m : MethodId) (below : List Frame) (meth : Method) (c : Code) (A : Nat → Prop) (Q : State → Prop) (r0 : Int32 × Nat × qS), CallFix p m c b maxL s av.toArray gws own → fv = some r0 → qW D L tys A s.heap s ad σ s.heap [] → qG B0 s s.heap → (∀ q, A q → B0 ≤ q) →
      (∀ {pc : Nat} {ls : Array Slot} {H : Heap} {locs : List Loc} {v : Int32} {σ' : qS}, decode b pc = .ok (.ireturn, 1) → qW D L tys A s.heap s ad σ' H locs → some (v, 0, σ') = some r0 → W p l e (qRx fr lo mc ms) s m av.toArray below meth c H locs mc ms Q (F0 m pc ls [.int v])) →
      qHx p l e (qRx fr lo mc ms) s m av.toArray below meth c Q D L tys A ad r0 →
      (∀ {pc : Nat} {ls : Array Slot} {H : Heap} {locs : List Loc} {rest : List Value} {cl sl ex ik is ic : Nat} {text : String} {r : Int32} {σ' : qS}, qThr own ex ik is ic text → ex ≠ 0 → qW D L tys A s.heap s ad σ' H locs → some (r, ex, σ') = some r0 → qThD b pc ik is ic → ls.size = maxL → (rest.map fun v => v.category).sum ≤ 8 → cl + 1 ≤ mc ∧ sl + 6 ≤ ms → W p l e (qRx fr lo mc ms) s m av.toArray below meth c H locs cl sl Q (F0 m pc ls rest)) →
      ∀ ls : Array Slot, lv_has ls maxL (lv_args 0 av) → W p l e (qRx fr lo mc ms) s m av.toArray below meth c s.heap [] 0 0 Q (F0 m 0 ls [])) : qXi l y b maxL (some .int) fr lo mc ms B0 D L tys ad av σ fv := by
  intro sz r0 hf
  refine vx_ofW (cc := b) (maxL := maxL) (ret := (some .int)) hy rfl ?_
  intro p e s m args below meth c s₁ B hml hout hv
  obtain ⟨rfl, ⟨hsz, hV, hK⟩, hB0, hG⟩ := hv
  subst hsz
  have hts := atoms_spec (ws := qWs y b maxL (some .int)) B.pre
  have hown : s.vm.findClass y.cls = some m.cls := findClass_of_methodNamed B.named
  rw [ho] at hown
  have S0 : CallFix p m c b maxL s av.toArray gws own := ⟨B.exec, B.bytes, hml, hown, fun w h => hts w (List.mem_cons_of_mem _ h)⟩
  have hw : qW D L tys (qA L ad σ s.heap.size) s.heap s ad σ s.heap [] := ⟨hV, fun k i h => Or.inl ⟨k, i, h, rfl⟩, va_S.rf, hK, fun q h => Or.inr h⟩
  have hAB : ∀ q, qA L ad σ s.heap.size q → B0 ≤ q := fun q h => by
    rcases h with ⟨k, i, hd, rfl⟩ | h
    · exact hB0 k i hd
    · exact Nat.le_trans hG.2.2.2.2 h
  have hl := lv_entry av (n := maxL) hlen
  rw [lg_entry_eq]
  generalize (lg_sl av ++ List.replicate (maxL - (lg_sl av).length) Slot.unset).toArray = ls at hl ⊢
  refine body p e s m below meth c _ _ r0 S0 hf hw hG hAB ?_ ?_ ?_ ls hl
  · exact fun hd hw' h => vx_ret (W.iret S0.1 S0.2.1 B.returns (fun t ht hW => ⟨⟨_, _, rfl, hf.trans h.symm, ⟨by rw [ht]; exact hw'.1, hw'.2.1, va_K.moved hW.alike hw'.2.2.2.1⟩⟩, hw'.2.2.1.F ht⟩) hw'.2.2.1.2.2 hd (hlocks := B.notSynchronized))
  · intro pc ls H locs rest cl sl q9 ce ex r σ' hw' h hne hce hcv hcl h1 h2
    exact vx_out (fun x hx => (hout x hx).elim) B.notSynchronized hce hcv hcl (fun t ht hvm => ⟨(ex, σ'), ⟨r, hf.trans h.symm⟩, ⟨rfl, hne, ⟨by rw [ht]; exact hw'.1, hw'.2.1, va_K.moved hvm hw'.2.2.2.1⟩⟩, hw'.2.2.1.F ht⟩) hw'.2.2.1.2.2 h1 h2
  · intro pc ls H locs rest cl sl ex ik is ic text r σ' ht hne hw' h hd hz hcat hm
    exact q_throw hst S0 hG hAB B.notSynchronized hout hw' (hf.trans h.symm) hne ht hd hz hcat hfl hm hm
theorem q_oxz (hst : l.stackTraces = false) {y : MethodName} {b : ByteArray} {maxL fr lo mc ms : Nat} {av : List Value} {fv : Option (Int32 × Nat × qS)} (hy : plainName y.cls = true) (hlen : (lg_sl av).length ≤ maxL) (hfl : 5 < fr ∧ 90 ≤ lo) (own : String) (ho : y.cls = own)
    (body : ∀ (p : Program) (e : Env) (s : State) (m : MethodId) (below : List Frame) (meth : Method) (c : Code) (A : Nat → Prop) (Q : State → Prop) (r0 : Int32 × Nat × qS), CallFix p m c b maxL s av.toArray gws own → fv = some r0 → qW D L tys A s.heap s ad σ s.heap [] → qG B0 s s.heap → (∀ q, A q → B0 ≤ q) →
      (∀ {pc : Nat} {ls : Array Slot} {H : Heap} {locs : List Loc} {v : Int32} {σ' : qS}, decode b pc = .ok (.ireturn, 1) → qW D L tys A s.heap s ad σ' H locs → gbl v (some (v, 0, σ')) = some r0 → W p l e (qRx fr lo mc ms) s m av.toArray below meth c H locs mc ms Q (F0 m pc ls [.int v])) →
      qHx p l e (qRx fr lo mc ms) s m av.toArray below meth c Q D L tys A ad r0 →
      (∀ {pc : Nat} {ls : Array Slot} {H : Heap} {locs : List Loc} {rest : List Value} {cl sl ex ik is ic : Nat} {text : String} {r : Int32} {σ' : qS}, qThr own ex ik is ic text → ex ≠ 0 → qW D L tys A s.heap s ad σ' H locs → some (r, ex, σ') = some r0 → qThD b pc ik is ic → ls.size = maxL → (rest.map fun v => v.category).sum ≤ 8 → cl + 1 ≤ mc ∧ sl + 6 ≤ ms → W p l e (qRx fr lo mc ms) s m av.toArray below meth c H locs cl sl Q (F0 m pc ls rest)) →
      ∀ ls : Array Slot, lv_has ls maxL (lv_args 0 av) → W p l e (qRx fr lo mc ms) s m av.toArray below meth c s.heap [] 0 0 Q (F0 m 0 ls [])) : qXi l y b maxL (some .boolean) fr lo mc ms B0 D L tys ad av σ fv := by
  intro sz r0 hf
  refine vx_ofW (cc := b) (maxL := maxL) (ret := (some .boolean)) hy rfl ?_
  intro p e s m args below meth c s₁ B hml hout hv
  obtain ⟨rfl, ⟨hsz, hV, hK⟩, hB0, hG⟩ := hv
  subst hsz
  have hts := atoms_spec (ws := qWs y b maxL (some .boolean)) B.pre
  have hown : s.vm.findClass y.cls = some m.cls := findClass_of_methodNamed B.named
  rw [ho] at hown
  have S0 : CallFix p m c b maxL s av.toArray gws own := ⟨B.exec, B.bytes, hml, hown, fun w h => hts w (List.mem_cons_of_mem _ h)⟩
  have hw : qW D L tys (qA L ad σ s.heap.size) s.heap s ad σ s.heap [] := ⟨hV, fun k i h => Or.inl ⟨k, i, h, rfl⟩, va_S.rf, hK, fun q h => Or.inr h⟩
  have hAB : ∀ q, qA L ad σ s.heap.size q → B0 ≤ q := fun q h => by
    rcases h with ⟨k, i, hd, rfl⟩ | h
    · exact hB0 k i hd
    · exact Nat.le_trans hG.2.2.2.2 h
  have hl := lv_entry av (n := maxL) hlen
  rw [lg_entry_eq]
  generalize (lg_sl av ++ List.replicate (maxL - (lg_sl av).length) Slot.unset).toArray = ls at hl ⊢
  refine body p e s m below meth c _ _ r0 S0 hf hw hG hAB ?_ ?_ ?_ ls hl
  · intro pc ls H locs v σ' hd hw' h
    obtain ⟨hv, h⟩ := gbl_some h
    exact vx_ret (W.zret S0.1 S0.2.1 B.returns (by rcases hv with rfl | rfl <;> rfl) (fun t ht hW => ⟨⟨_, _, rfl, hf.trans h.symm, ⟨by rw [ht]; exact hw'.1, hw'.2.1, va_K.moved hW.alike hw'.2.2.2.1⟩⟩, hw'.2.2.1.F ht⟩) hw'.2.2.1.2.2 hd (hlocks := B.notSynchronized))
  · intro pc ls H locs rest cl sl q9 ce ex r σ' hw' h hne hce hcv hcl h1 h2
    exact vx_out (fun x hx => (hout x hx).elim) B.notSynchronized hce hcv hcl (fun t ht hvm => ⟨(ex, σ'), ⟨r, hf.trans h.symm⟩, ⟨rfl, hne, ⟨by rw [ht]; exact hw'.1, hw'.2.1, va_K.moved hvm hw'.2.2.2.1⟩⟩, hw'.2.2.1.F ht⟩) hw'.2.2.1.2.2 h1 h2
  · intro pc ls H locs rest cl sl ex ik is ic text r σ' ht hne hw' h hd hz hcat hm
    exact q_throw hst S0 hG hAB B.notSynchronized hout hw' (hf.trans h.symm) hne ht hd hz hcat hfl hm hm
theorem q_oxv (hst : l.stackTraces = false) {y : MethodName} {b : ByteArray} {maxL fr lo mc ms : Nat} {av : List Value} {fv : Option (Int32 × Nat × qS)} (hy : plainName y.cls = true) (hlen : (lg_sl av).length ≤ maxL) (hfl : 5 < fr ∧ 90 ≤ lo) (own : String) (ho : y.cls = own)
    (body : ∀ (p : Program) (e : Env) (s : State) (m : MethodId) (below : List Frame) (meth : Method) (c : Code) (A : Nat → Prop) (Q : State → Prop) (r0 : Int32 × Nat × qS), CallFix p m c b maxL s av.toArray gws own → fv = some r0 → qW D L tys A s.heap s ad σ s.heap [] → qG B0 s s.heap → (∀ q, A q → B0 ≤ q) →
      (∀ {pc : Nat} {ls : Array Slot} {H : Heap} {locs : List Loc} {v : Int32} {σ' : qS}, decode b pc = .ok (.return_, 1) → qW D L tys A s.heap s ad σ' H locs → some (v, 0, σ') = some r0 → W p l e (qRx fr lo mc ms) s m av.toArray below meth c H locs mc ms Q (F0 m pc ls [])) →
      qHx p l e (qRx fr lo mc ms) s m av.toArray below meth c Q D L tys A ad r0 →
      (∀ {pc : Nat} {ls : Array Slot} {H : Heap} {locs : List Loc} {rest : List Value} {cl sl ex ik is ic : Nat} {text : String} {r : Int32} {σ' : qS}, qThr own ex ik is ic text → ex ≠ 0 → qW D L tys A s.heap s ad σ' H locs → some (r, ex, σ') = some r0 → qThD b pc ik is ic → ls.size = maxL → (rest.map fun v => v.category).sum ≤ 8 → cl + 1 ≤ mc ∧ sl + 6 ≤ ms → W p l e (qRx fr lo mc ms) s m av.toArray below meth c H locs cl sl Q (F0 m pc ls rest)) →
      ∀ ls : Array Slot, lv_has ls maxL (lv_args 0 av) → W p l e (qRx fr lo mc ms) s m av.toArray below meth c s.heap [] 0 0 Q (F0 m 0 ls [])) : qXv l y b maxL none fr lo mc ms B0 D L tys ad av σ fv := by
  intro sz r0 hf
  refine vx_ofW (cc := b) (maxL := maxL) (ret := none) hy rfl ?_
  intro p e s m args below meth c s₁ B hml hout hv
  obtain ⟨rfl, ⟨hsz, hV, hK⟩, hB0, hG⟩ := hv
  subst hsz
  have hts := atoms_spec (ws := qWs y b maxL none) B.pre
  have hown : s.vm.findClass y.cls = some m.cls := findClass_of_methodNamed B.named
  rw [ho] at hown
  have S0 : CallFix p m c b maxL s av.toArray gws own := ⟨B.exec, B.bytes, hml, hown, fun w h => hts w (List.mem_cons_of_mem _ h)⟩
  have hw : qW D L tys (qA L ad σ s.heap.size) s.heap s ad σ s.heap [] := ⟨hV, fun k i h => Or.inl ⟨k, i, h, rfl⟩, va_S.rf, hK, fun q h => Or.inr h⟩
  have hAB : ∀ q, qA L ad σ s.heap.size q → B0 ≤ q := fun q h => by
    rcases h with ⟨k, i, hd, rfl⟩ | h
    · exact hB0 k i hd
    · exact Nat.le_trans hG.2.2.2.2 h
  have hl := lv_entry av (n := maxL) hlen
  rw [lg_entry_eq]
  generalize (lg_sl av ++ List.replicate (maxL - (lg_sl av).length) Slot.unset).toArray = ls at hl ⊢
  refine body p e s m below meth c _ _ r0 S0 hf hw hG hAB ?_ ?_ ?_ ls hl
  · exact fun hd hw' h => vx_ret (W.vret S0.1 S0.2.1 B.returns (fun t ht hW => ⟨⟨_, rfl, ⟨_, hf.trans h.symm⟩, ⟨by rw [ht]; exact hw'.1, hw'.2.1, va_K.moved hW.alike hw'.2.2.2.1⟩⟩, hw'.2.2.1.F ht⟩) hw'.2.2.1.2.2 hd (hlocks := B.notSynchronized))
  · intro pc ls H locs rest cl sl q9 ce ex r σ' hw' h hne hce hcv hcl h1 h2
    exact vx_out (fun x hx => (hout x hx).elim) B.notSynchronized hce hcv hcl (fun t ht hvm => ⟨(ex, σ'), ⟨r, hf.trans h.symm⟩, ⟨rfl, hne, ⟨by rw [ht]; exact hw'.1, hw'.2.1, va_K.moved hvm hw'.2.2.2.1⟩⟩, hw'.2.2.1.F ht⟩) hw'.2.2.1.2.2 h1 h2
  · intro pc ls H locs rest cl sl ex ik is ic text r σ' ht hne hw' h hd hz hcat hm
    exact q_throw hst S0 hG hAB B.notSynchronized hout hw' (hf.trans h.symm) hne ht hd hz hcat hfl hm hm
theorem q_oxr (hst : l.stackTraces = false) {y : MethodName} {b : ByteArray} {maxL fr lo mc ms kr : Nat} {C : String} {av : List Value} {fv : Option (Nat × Nat × qS)} (hy : plainName y.cls = true) (hlen : (lg_sl av).length ≤ maxL) (hfl : 5 < fr ∧ 90 ≤ lo) (own : String) (ho : y.cls = own)
    (body : ∀ (p : Program) (e : Env) (s : State) (m : MethodId) (below : List Frame) (meth : Method) (c : Code) (A : Nat → Prop) (Q : State → Prop) (r0 : Nat × Nat × qS), CallFix p m c b maxL s av.toArray gws own → fv = some r0 → qW D L tys A s.heap s ad σ s.heap [] → qG B0 s s.heap → (∀ q, A q → B0 ≤ q) →
      (∀ {pc : Nat} {ls : Array Slot} {H : Heap} {locs : List Loc} {v : Nat} {σ' : qS}, decode b pc = .ok (.areturn, 1) → qW D L tys A s.heap s ad σ' H locs → some (v, 0, σ') = some r0 → W p l e (qRx fr lo mc ms) s m av.toArray below meth c H locs mc ms Q (F0 m pc ls [.ref (ad kr v)])) →
      qHx p l e (qRx fr lo mc ms) s m av.toArray below meth c Q D L tys A ad r0 →
      (∀ {pc : Nat} {ls : Array Slot} {H : Heap} {locs : List Loc} {rest : List Value} {cl sl ex ik is ic : Nat} {text : String} {r : Nat} {σ' : qS}, qThr own ex ik is ic text → ex ≠ 0 → qW D L tys A s.heap s ad σ' H locs → some (r, ex, σ') = some r0 → qThD b pc ik is ic → ls.size = maxL → (rest.map fun v => v.category).sum ≤ 8 → cl + 1 ≤ mc ∧ sl + 6 ≤ ms → W p l e (qRx fr lo mc ms) s m av.toArray below meth c H locs cl sl Q (F0 m pc ls rest)) →
      ∀ ls : Array Slot, lv_has ls maxL (lv_args 0 av) → W p l e (qRx fr lo mc ms) s m av.toArray below meth c s.heap [] 0 0 Q (F0 m 0 ls [])) : qXr l y b maxL (some (.object C)) fr lo mc ms kr B0 D L tys ad av σ fv := by
  intro sz r0 hf
  refine vx_ofW (cc := b) (maxL := maxL) (ret := (some (.object C))) hy rfl ?_
  intro p e s m args below meth c s₁ B hml hout hv
  obtain ⟨rfl, ⟨hsz, hV, hK⟩, hB0, hG⟩ := hv
  subst hsz
  have hts := atoms_spec (ws := qWs y b maxL (some (.object C))) B.pre
  have hown : s.vm.findClass y.cls = some m.cls := findClass_of_methodNamed B.named
  rw [ho] at hown
  have S0 : CallFix p m c b maxL s av.toArray gws own := ⟨B.exec, B.bytes, hml, hown, fun w h => hts w (List.mem_cons_of_mem _ h)⟩
  have hw : qW D L tys (qA L ad σ s.heap.size) s.heap s ad σ s.heap [] := ⟨hV, fun k i h => Or.inl ⟨k, i, h, rfl⟩, va_S.rf, hK, fun q h => Or.inr h⟩
  have hAB : ∀ q, qA L ad σ s.heap.size q → B0 ≤ q := fun q h => by
    rcases h with ⟨k, i, hd, rfl⟩ | h
    · exact hB0 k i hd
    · exact Nat.le_trans hG.2.2.2.2 h
  have hl := lv_entry av (n := maxL) hlen
  rw [lg_entry_eq]
  generalize (lg_sl av ++ List.replicate (maxL - (lg_sl av).length) Slot.unset).toArray = ls at hl ⊢
  refine body p e s m below meth c _ _ r0 S0 hf hw hG hAB ?_ ?_ ?_ ls hl
  · exact fun hd hw' h => vx_ret (W.aret S0.1 S0.2.1 B.returns (Or.inl ⟨_, rfl⟩) (Or.inr ⟨_, rfl⟩) (fun t ht hW => ⟨⟨(_, _), _, rfl, hf.trans h.symm, rfl, ⟨by rw [ht]; exact hw'.1, hw'.2.1, va_K.moved hW.alike hw'.2.2.2.1⟩⟩, hw'.2.2.1.F ht⟩) hw'.2.2.1.2.2 hd (hlocks := B.notSynchronized))
  · intro pc ls H locs rest cl sl q9 ce ex r σ' hw' h hne hce hcv hcl h1 h2
    exact vx_out (fun x hx => (hout x hx).elim) B.notSynchronized hce hcv hcl (fun t ht hvm => ⟨(ex, σ'), ⟨r, hf.trans h.symm⟩, ⟨rfl, hne, ⟨by rw [ht]; exact hw'.1, hw'.2.1, va_K.moved hvm hw'.2.2.2.1⟩⟩, hw'.2.2.1.F ht⟩) hw'.2.2.1.2.2 h1 h2
  · intro pc ls H locs rest cl sl ex ik is ic text r σ' ht hne hw' h hd hz hcat hm
    exact q_throw hst S0 hG hAB B.notSynchronized hout hw' (hf.trans h.symm) hne ht hd hz hcat hfl hm hm
end QT

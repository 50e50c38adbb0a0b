/-! THE LAW'S CASES -/
def lA (s : State) : Nat → Prop := fun q => s.heap.size ≤ q
/-- one call of both -/
def lC (F : Nat) (I : Nat → qS → qS → Prop) (Φ : qS → Nat) (cod : Nat → Int32) (n : Nat) (σ : qS) (fc : Option (Int32 × Nat × qS)) (fm : Option (Int32 × qS)) (gr : qS → Nat) : Prop := ∃ v ex σ' w σm', fc = some (v, ex, σ') ∧ fm = some (w, σm') ∧ fX9_thrown F σm' = some (cod ex, σm') ∧ (cod ex = 0 → ex = 0 ∧ v = w) ∧ I (n + 1) σ' σm' ∧ gr σ' + Φ σ ≤ Φ σ'
def lCv (F : Nat) (I : Nat → qS → qS → Prop) (Φ : qS → Nat) (cod : Nat → Int32) (n : Nat) (σ : qS) (fc : Option (Int32 × Nat × qS)) (fm : Option qS) : Prop := ∃ v ex σ' σm', fc = some (v, ex, σ') ∧ fm = some σm' ∧ fX9_thrown F σm' = some (cod ex, σm') ∧ I (n + 1) σ' σm' ∧ Φ σ ≤ Φ σ'
def lCd (I : Nat → qS → qS → Prop) (Φ : qS → Nat) (n : Nat) (σ : qS) (fc fm : Option (Int32 × qS)) : Prop := ∃ v σ' σm', fc = some (v, σ') ∧ fm = some (v, σm') ∧ I (n + 1) σ' σm' ∧ Φ σ ≤ Φ σ'
def lCw (I : Nat → qS → qS → Prop) (Φ : qS → Nat) (n : Nat) (σ : qS) (fc fm : Option qS) : Prop := ∃ σ' σm', fc = some σ' ∧ fm = some σm' ∧ I (n + 1) σ' σm' ∧ Φ σ ≤ Φ σ'
/-- where the loop stands after a call more -/
def lNext (p : Program) (l : Launch) (e : Env) (s : State) (m : MethodId) (b : Nat) (below : List Frame) (meth : Method) (c : Code) (Q : State → Prop) (D : va_G) (Y : Nat → ClassId) (am : qAd) (x0 o e0 : Nat) (I : Nat → qS → qS → Prop) (Φ : qS → Nat) (n k pc : Nat) : Prop :=
  ∀ (ad : qAd) (σ σm : qS) (g : Nat → Int64) (H : Heap) (locs : List Loc) (ls : Array Slot) (cells slots : Nat), lW D Y (lA s) s ad σ am σm o g H locs → ad 0 0 = x0 → qOk e0 ad σ → I k σ σm → cells ≤ 126 + 20 * k + Φ σ → slots ≤ 544257 + 130 * k + 2 * Φ σ → lv_has ls 7 [(0, .ref b), (1, .ref x0), (2, .ref (am 0 0)), (3, .ref o), (4, .int (nI (8 * n)))] → W p l e room_1 s m #[.ref b] below meth c H locs cells slots Q (F0 m pc ls [])
theorem qyX9_thrown : qY yX9_thrown RX9 cX9_thrown 1 (some .int) 0 := ⟨⟨kw_1324, kw_1325, kw_11, kw_1326⟩, rfl, by decide, by decide, by decide +kernel⟩
theorem qyX9_open : qY yX9_open RX9 cX9_open 4 (some .int) 3 := ⟨⟨kw_1328, kw_1329, kw_11, kw_1330⟩, rfl, by decide, by decide, by decide +kernel⟩
def cI_open (F : Nat) (I : Nat → qS → qS → Prop) (Φ : qS → Nat) : Prop := ∀ (n : Nat) (σ σm : qS) (p1 : Int32) (p2 : Int32) (p3 : Int32), n < 512 → I n σ σm → lC F I Φ (fun e => if e = 0 then 0 else if e = 1 then 1 else if e = 2 then 2 else if e = 3 then 3 else 0) n σ (fX8_open F p1 p2 p3 σ) (fX9_open F p1 p2 p3 σm) (fun _ => 0)
def cI_close (F : Nat) (I : Nat → qS → qS → Prop) (Φ : qS → Nat) : Prop := ∀ (n : Nat) (σ σm : qS) (p1 : Int32), n < 512 → I n σ σm → lC F I Φ (fun e => if e = 0 then 0 else if e = 1 then 1 else if e = 3 then 2 else 0) n σ (fX8_close F p1 σ) (fX9_close F p1 σm) (fun _ => 0)
def cI_ping (F : Nat) (I : Nat → qS → qS → Prop) (Φ : qS → Nat) : Prop := ∀ (n : Nat) (σ σm : qS) (p1 : Int32), n < 512 → I n σ σm → lC F I Φ (fun e => if e = 0 then 0 else if e = 1 then 1 else if e = 3 then 2 else 0) n σ (fX8_ping F p1 σ) (fX9_ping F p1 σm) (fun _ => 0)
def cI_move (F : Nat) (I : Nat → qS → qS → Prop) (Φ : qS → Nat) : Prop := ∀ (n : Nat) (σ σm : qS) (p1 : Int32) (p2 : Int32), n < 512 → I n σ σm → lC F I Φ (fun e => if e = 0 then 0 else if e = 1 then 1 else if e = 3 then 2 else 0) n σ (fX8_move F p1 p2 σ) (fX9_move F p1 p2 σm) (fun _ => 0)
def cI_sync (F : Nat) (I : Nat → qS → qS → Prop) (Φ : qS → Nat) : Prop := ∀ (n : Nat) (σ σm : qS) (p1 : Int32), n < 512 → I n σ σm → lC F I Φ (fun e => if e = 0 then 0 else if e = 1 then 1 else if e = 3 then 2 else 0) n σ (fX8_sync F p1 σ) (fX9_sync F p1 σm) (fun _ => 0)
def cI_follow (F : Nat) (I : Nat → qS → qS → Prop) (Φ : qS → Nat) : Prop := ∀ (n : Nat) (σ σm : qS) (p1 : Int32) (p2 : Int32), n < 512 → I n σ σm → lC F I Φ (fun e => if e = 0 then 0 else if e = 1 then 1 else if e = 2 then 2 else 0) n σ (fX8_follow F p1 p2 σ) (fX9_follow F p1 p2 σm) (fun _ => 0)
def cI_pass (F : Nat) (I : Nat → qS → qS → Prop) (Φ : qS → Nat) : Prop := ∀ (n : Nat) (σ σm : qS) (p1 : Int32), n < 512 → I n σ σm → lC F I Φ (fun e => if e = 0 then 0 else if e = 2 then 1 else 0) n σ (fX8_pass F p1 σ) (fX9_pass F p1 σm) (fun _ => 0)
def cI_lease (F : Nat) (I : Nat → qS → qS → Prop) (Φ : qS → Nat) : Prop := ∀ (n : Nat) (σ σm : qS) (p1 : Int32), n < 512 → I n σ σm → lC F I Φ (fun e => if e = 0 then 0 else if e = 2 then 1 else if e = 3 then 2 else 0) n σ (fX8_lease F p1 σ) (fX9_lease F p1 σm) (fun _ => 0)
def cI_renew (F : Nat) (I : Nat → qS → qS → Prop) (Φ : qS → Nat) : Prop := ∀ (n : Nat) (σ σm : qS) (p1 : Int32), n < 512 → I n σ σm → lC F I Φ (fun e => if e = 0 then 0 else if e = 1 then 1 else if e = 3 then 2 else 0) n σ (fX8_renew F p1 σ) (fX9_renew F p1 σm) (fun _ => 0)
def cI_make (F : Nat) (I : Nat → qS → qS → Prop) (Φ : qS → Nat) : Prop := ∀ (n : Nat) (σ σm : qS) (p1 : Int32) (p2 : Int32) (p3 : Int32) (p4 : Int32) (p5 : Int32) (p6 : Int32) (p7 : Int32), n < 512 → I n σ σm → (p4 = 0 ∨ p4 = 1) → lC F I Φ (fun e => if e = 0 then 0 else if e = 1 then 1 else if e = 2 then 2 else if e = 3 then 3 else 0) n σ (fX8_make F p1 p2 p3 p4 p5 p6 p7 σ) (fX9_make F p1 p2 p3 p4 p5 p6 p7 σm) (fun _ => 0)
def cI_set (F : Nat) (I : Nat → qS → qS → Prop) (Φ : qS → Nat) : Prop := ∀ (n : Nat) (σ σm : qS) (p1 : Int32) (p2 : Int32) (p3 : Int32) (p4 : Int32), n < 512 → I n σ σm → lC F I Φ (fun e => if e = 0 then 0 else if e = 1 then 1 else if e = 2 then 2 else if e = 3 then 3 else 0) n σ (fX8_set F p1 p2 p3 p4 σ) (fX9_set F p1 p2 p3 p4 σm) (fun _ => 0)
def cI_delete (F : Nat) (I : Nat → qS → qS → Prop) (Φ : qS → Nat) : Prop := ∀ (n : Nat) (σ σm : qS) (p1 : Int32) (p2 : Int32) (p3 : Int32), n < 512 → I n σ σm → lC F I Φ (fun e => if e = 0 then 0 else if e = 1 then 1 else if e = 3 then 2 else 0) n σ (fX8_delete F p1 p2 p3 σ) (fX9_delete F p1 p2 p3 σm) (fun _ => 0)
def cI_rights (F : Nat) (I : Nat → qS → qS → Prop) (Φ : qS → Nat) : Prop := ∀ (n : Nat) (σ σm : qS) (p1 : Int32) (p2 : Int32) (p3 : Int32) (p4 : Int32) (p5 : Int32), n < 512 → I n σ σm → (p5 = 0 ∨ p5 = 1) → lC F I Φ (fun e => if e = 0 then 0 else if e = 1 then 1 else if e = 2 then 2 else if e = 3 then 3 else 0) n σ (fX8_rights F p1 p2 p3 p4 p5 σ) (fX9_rights F p1 p2 p3 p4 p5 σm) (fun _ => 0)
def cI_check (F : Nat) (I : Nat → qS → qS → Prop) (Φ : qS → Nat) : Prop := ∀ (n : Nat) (σ σm : qS) (p1 : Int32) (p2 : Int32) (p3 : Int32), n < 512 → I n σ σm → lC F I Φ (fun e => if e = 0 then 0 else if e = 1 then 1 else if e = 3 then 2 else 0) n σ (fX8_check F p1 p2 p3 σ) (fX9_check F p1 p2 p3 σm) (fun _ => 0)
def cI_gather (F : Nat) (I : Nat → qS → qS → Prop) (Φ : qS → Nat) : Prop := ∀ (n : Nat) (σ σm : qS) (p1 : Int32), n < 512 → I n σ σm → lCv F I Φ (fun e => if e = 0 then 0 else if e = 1 then 1 else if e = 3 then 2 else 0) n σ (fX8_gather F p1 σ) (fX9_gather F p1 σm)
def cI_done (F : Nat) (I : Nat → qS → qS → Prop) (Φ : qS → Nat) : Prop := ∀ (n : Nat) (σ σm : qS) (p1 : Int32), n < 512 → I n σ σm → lC F I Φ (fun e => if e = 0 then 0 else if e = 1 then 1 else if e = 3 then 2 else 0) n σ (fX8_done F p1 σ) (fX9_done F p1 σm) (fun _ => 0)
def cI_answer (F : Nat) (I : Nat → qS → qS → Prop) (Φ : qS → Nat) : Prop := ∀ (n : Nat) (σ σm : qS) (p1 : Int32) (p2 : Int32), n < 512 → I n σ σm → lC F I Φ (fun e => if e = 0 then 0 else if e = 1 then 1 else 0) n σ (fX8_answer F p1 p2 σ) (fX9_answer F p1 p2 σm) (fun _ => 0)
def cI_lose (F : Nat) (I : Nat → qS → qS → Prop) (Φ : qS → Nat) : Prop := ∀ (n : Nat) (σ σm : qS) (p1 : Int32), n < 512 → I n σ σm → (p1 = 0 ∨ p1 = 1) → lCw I Φ n σ (fX8_lose F p1 σ) (fX9_lose F p1 σm)
def cI_quota (F : Nat) (I : Nat → qS → qS → Prop) (Φ : qS → Nat) : Prop := ∀ (n : Nat) (σ σm : qS) (p1 : Int32) (p2 : Int32), n < 512 → I n σ σm → lC F I Φ (fun e => if e = 0 then 0 else if e = 2 then 1 else 0) n σ (fX8_quota F p1 p2 σ) (fX9_quota F p1 p2 σm) (fun _ => 0)
def cI_read (F : Nat) (I : Nat → qS → qS → Prop) (Φ : qS → Nat) : Prop := ∀ (n : Nat) (σ σm : qS) (p1 : Int32) (p2 : Int32) (p3 : Int32), n < 512 → I n σ σm → lC F I Φ (fun e => if e = 0 then 0 else if e = 1 then 1 else if e = 2 then 2 else if e = 3 then 3 else 0) n σ (fX8_read F p1 p2 p3 σ) (fX9_read F p1 p2 p3 σm) (fun _ => 0)
def cI_child (F : Nat) (I : Nat → qS → qS → Prop) (Φ : qS → Nat) : Prop := ∀ (n : Nat) (σ σm : qS) (p1 : Int32) (p2 : Int32) (p3 : Int32), n < 512 → I n σ σm → lC F I Φ (fun e => if e = 0 then 0 else if e = 1 then 1 else if e = 3 then 2 else 0) n σ (fX8_child F p1 p2 p3 σ) (fX9_child F p1 p2 p3 σm) (fun _ => 0)
def cI_watch (F : Nat) (I : Nat → qS → qS → Prop) (Φ : qS → Nat) : Prop := ∀ (n : Nat) (σ σm : qS) (p1 : Int32) (p2 : Int32) (p3 : Int32), n < 512 → I n σ σm → lC F I Φ (fun e => if e = 0 then 0 else if e = 1 then 1 else if e = 2 then 2 else if e = 3 then 3 else 0) n σ (fX8_watch F p1 p2 p3 σ) (fX9_watch F p1 p2 p3 σm) (fun s9 => s9.2 3 p1.toNatClampNeg - σ.2 3 p1.toNatClampNeg)
def cI_hear (F : Nat) (I : Nat → qS → qS → Prop) (Φ : qS → Nat) : Prop := ∀ (n : Nat) (σ σm : qS) (p1 : Int32), n < 512 → I n σ σm → lC F I Φ (fun e => if e = 0 then 0 else if e = 1 then 1 else if e = 3 then 2 else 0) n σ (fX8_hear F p1 σ) (fX9_hear F p1 σm) (fun s9 => s9.2 3 p1.toNatClampNeg - σ.2 3 p1.toNatClampNeg)
def cI_want (F : Nat) (I : Nat → qS → qS → Prop) (Φ : qS → Nat) : Prop := ∀ (n : Nat) (σ σm : qS) (p1 : Int32) (p2 : Int32) (p3 : Int32), n < 512 → I n σ σm → (p3 = 0 ∨ p3 = 1) → lC F I Φ (fun e => if e = 0 then 0 else if e = 1 then 1 else if e = 3 then 2 else 0) n σ (fX8_want F p1 p2 p3 σ) (fX9_want F p1 p2 p3 σm) (fun _ => 0)
def cI_has (F : Nat) (I : Nat → qS → qS → Prop) (Φ : qS → Nat) : Prop := ∀ (n : Nat) (σ σm : qS) (p1 : Int32) (p2 : Int32), n < 512 → I n σ σm → lC F I Φ (fun e => if e = 0 then 0 else if e = 1 then 1 else if e = 3 then 2 else 0) n σ (fX8_has F p1 p2 σ) (fX9_has F p1 p2 σm) (fun _ => 0)
def cI_giveUp (F : Nat) (I : Nat → qS → qS → Prop) (Φ : qS → Nat) : Prop := ∀ (n : Nat) (σ σm : qS) (p1 : Int32) (p2 : Int32), n < 512 → I n σ σm → lC F I Φ (fun e => if e = 0 then 0 else if e = 1 then 1 else if e = 3 then 2 else 0) n σ (fX8_giveUp F p1 p2 σ) (fX9_giveUp F p1 p2 σm) (fun _ => 0)
def cI_believers (F : Nat) (I : Nat → qS → qS → Prop) (Φ : qS → Nat) : Prop := ∀ (n : Nat) (σ σm : qS) (p1 : Int32), n < 512 → I n σ σm → lCd I Φ n σ (fX8_believers F p1 σ) (fX9_believers F p1 σm)
def cI_isOpen (F : Nat) (I : Nat → qS → qS → Prop) (Φ : qS → Nat) : Prop := ∀ (n : Nat) (σ σm : qS) (p1 : Int32) (p2 : Int32) (p3 : Int32), n < 512 → I n σ σm → lC F I Φ (fun e => if e = 0 then 0 else if e = 1 then 1 else if e = 2 then 2 else if e = 3 then 3 else 0) n σ (fX8_isOpen F p1 p2 p3 σ) (fX9_isOpen F p1 p2 p3 σm) (fun _ => 0)
def cI_takeFirst (F : Nat) (I : Nat → qS → qS → Prop) (Φ : qS → Nat) : Prop := ∀ (n : Nat) (σ σm : qS) (p1 : Int32) (p2 : Int32), n < 512 → I n σ σm → lC F I Φ (fun e => if e = 0 then 0 else if e = 1 then 1 else if e = 3 then 2 else 0) n σ (fX8_takeFirst F p1 p2 σ) (fX9_takeFirst F p1 p2 σm) (fun _ => 0)
def cI_store (F : Nat) (I : Nat → qS → qS → Prop) (Φ : qS → Nat) : Prop := ∀ (n : Nat) (σ σm : qS) (p1 : Int32) (p2 : Int32), n < 512 → I n σ σm → lC F I Φ (fun e => if e = 0 then 0 else if e = 2 then 1 else 0) n σ (fX8_store F p1 p2 σ) (fX9_store F p1 p2 σm) (fun _ => 0)
def cI_stored (F : Nat) (I : Nat → qS → qS → Prop) (Φ : qS → Nat) : Prop := ∀ (n : Nat) (σ σm : qS), n < 512 → I n σ σm → lCd I Φ n σ (fX8_stored F σ) (fX9_stored F σm)
def cI_valueAt (F : Nat) (I : Nat → qS → qS → Prop) (Φ : qS → Nat) : Prop := ∀ (n : Nat) (σ σm : qS) (p1 : Int32) (p2 : Int32), n < 512 → I n σ σm → lC F I Φ (fun e => if e = 0 then 0 else if e = 2 then 1 else if e = 3 then 2 else 0) n σ (fX8_valueAt F p1 p2 σ) (fX9_valueAt F p1 p2 σm) (fun _ => 0)
def cI_changedAt (F : Nat) (I : Nat → qS → qS → Prop) (Φ : qS → Nat) : Prop := ∀ (n : Nat) (σ σm : qS) (p1 : Int32) (p2 : Int32) (p3 : Int32), n < 512 → I n σ σm → lC F I Φ (fun e => if e = 0 then 0 else if e = 1 then 1 else if e = 2 then 2 else if e = 3 then 3 else 0) n σ (fX8_changedAt F p1 p2 p3 σ) (fX9_changedAt F p1 p2 p3 σm) (fun _ => 0)
def cI_compact (F : Nat) (I : Nat → qS → qS → Prop) (Φ : qS → Nat) : Prop := ∀ (n : Nat) (σ σm : qS) (p1 : Int32), n < 512 → I n σ σm → lC F I Φ (fun e => if e = 0 then 0 else if e = 2 then 1 else 0) n σ (fX8_compact F p1 σ) (fX9_compact F p1 σm) (fun _ => 0)
def cI_snapshot (F : Nat) (I : Nat → qS → qS → Prop) (Φ : qS → Nat) : Prop := ∀ (n : Nat) (σ σm : qS), n < 512 → I n σ σm → lCd I Φ n σ (fX8_snapshot F σ) (fX9_snapshot F σm)
def cI_restore (F : Nat) (I : Nat → qS → qS → Prop) (Φ : qS → Nat) : Prop := ∀ (n : Nat) (σ σm : qS), n < 512 → I n σ σm → lC F I Φ (fun e => if e = 0 then 0 else if e = 3 then 1 else 0) n σ (fX8_restore F σ) (fX9_restore F σm) (fun _ => 0)
def cI_changes (F : Nat) (I : Nat → qS → qS → Prop) (Φ : qS → Nat) : Prop := ∀ (n : Nat) (σ σm : qS), n < 512 → I n σ σm → lCd I Φ n σ (fX8_changes F σ) (fX9_changes F σm)
set_option maxRecDepth 100000 in
set_option maxHeartbeats 4000000 in
theorem wLaw_open {p : Program} {l : Launch} {e : Env} {s : State} {m : MethodId} {below : List Frame} {meth : Method} {c : Code} {Q : State → Prop} {D : va_G} {Y : Nat → ClassId} {am : qAd} {b L : Nat} {xs : Nat → Int32} {x0 o e0 F n : Nat} {I : Nat → qS → qS → Prop} {Φ : qS → Nat} (S0 : CallFix p m c cL_law 7 s #[.ref b] gws "LeasehallLaw") (hst : l.stackTraces = false) (hX : va_X b L xs s s.heap) (hbl : b < s.heap.size) (hL : L ≤ 4096) (hG : qG s.heap.size s s.heap) (hE : qE s.heap.size e0 s s.heap) (hNc : qNc s) (hΦ : ∀ n σ σm, I n σ σm → Φ σ ≤ 90000) (hc : cI_open F I Φ) (hn : 8 * n + 8 ≤ L) (next : lNext p l e s m b below meth c Q D Y am x0 o e0 I Φ n (n + 1) 2620) : lNext p l e s m b below meth c Q D Y am x0 o e0 I Φ n n 204 := by
  intro ad σ σm g H locs ls cells slots hw h0 hok hI hcl hsl hl
  have hbA : ¬ lA s b := Nat.not_le.mpr hbl
  have hAB : ∀ q, lA s q → s.heap.size ≤ q := fun _ h => h
  have hn5 : n < 512 := by omega
  obtain ⟨v, ex, σ9, w, σm9, f1, f2, f3, f4, f5, f6⟩ := hc n σ σm (xs (8 * n + 1)) (xs (8 * n + 2)) (xs (8 * n + 3)) hn5 hI
  have hΦ9 := hΦ _ _ _ f5
  replace f6 : 0 + Φ σ ≤ Φ σ9 := f6
  subst h0
  refine lv_aload_n S0.1 S0.2.1 dL_law_204 rfl (lv_at hl 1 rfl) ?_
  refine lv_aload_n S0.1 S0.2.1 dL_law_205 rfl (lv_at hl 0 rfl) ?_
  refine lv_iload S0.1 S0.2.1 dL_law_206 (lv_at hl 4 rfl) ?_
  refine lv_iconst (v := 1) S0.1 S0.2.1 dL_law_208 (by decide) ?_
  refine l_sld S0 hX hbl hbA hL hw.1.1.2.2.1 (k := 1) rfl (by omega) dL_law_209 dL_law_210 ?_
  refine lv_aload_n S0.1 S0.2.1 dL_law_211 rfl (lv_at hl 0 rfl) ?_
  refine lv_iload S0.1 S0.2.1 dL_law_212 (lv_at hl 4 rfl) ?_
  refine lv_iconst (v := 2) S0.1 S0.2.1 dL_law_214 (by decide) ?_
  refine l_sld S0 hX hbl hbA hL hw.1.1.2.2.1 (k := 2) rfl (by omega) dL_law_215 dL_law_216 ?_
  refine lv_aload_n S0.1 S0.2.1 dL_law_217 rfl (lv_at hl 0 rfl) ?_
  refine lv_iload S0.1 S0.2.1 dL_law_218 (lv_at hl 4 rfl) ?_
  refine lv_iconst (v := 3) S0.1 S0.2.1 dL_law_220 (by decide) ?_
  refine l_sld S0 hX hbl hbA hL hw.1.1.2.2.1 (k := 3) rfl (by omega) dL_law_221 dL_law_222 ?_
  refine lv_aload_n S0.1 S0.2.1 dL_law_223 rfl (lv_at hl 3 rfl) ?_
  refine l_wrap (n := 5) S0 hG hE hNc hAB hok hw (As := [.ref (ad 0 0), .int (xs (8 * n + 1)), .int (xs (8 * n + 2)), .int (xs (8 * n + 3)), .ref o]) (rest := []) (wL_open l hst D Y ad o g s.heap.size e0 F (xs (8 * n + 1)) (xs (8 * n + 2)) (xs (8 * n + 3)) σ) kw_326 kw_324 kw_325 kw_0 ⟨by decide, by decide, by decide +kernel⟩ ⟨Nat.le_of_ble_eq_true rfl, Nat.le_of_ble_eq_true rfl⟩ f1 rfl hl.1 (Nat.le_of_ble_eq_true rfl) dL_law_224 ⟨show cells + 15 ≤ 601024 by omega, show slots + 124 ≤ 7293034 by omega⟩ rfl (fun ad9 H locs hw1 h00 hok => ?_)
  replace h00 : ad9 0 0 = ad 0 0 := h00
  refine lv_istore (lv' := [(5, .int ((fun e => if e = 0 then 0 else if e = 1 then 1 else if e = 2 then 2 else if e = 3 then 3 else 0) ex)), (0, .ref b), (1, .ref (ad 0 0)), (2, .ref (am 0 0)), (3, .ref o), (4, .int (nI (8 * n)))]) S0.1 S0.2.1 dL_law_227 hl (by decide) rfl (fun ls hl => ?_)
  refine lv_aload_n S0.1 S0.2.1 dL_law_229 rfl (lv_at hl 3 rfl) ?_
  refine lv_aload_n S0.1 S0.2.1 dL_law_230 rfl (lv_at hl 1 rfl) ?_
  refine lv_iload S0.1 S0.2.1 dL_law_231 (lv_at hl 5 rfl) ?_
  refine lv_iconst (v := 1) S0.1 S0.2.1 dL_law_233 (by decide) ?_
  refine l_sld S0 hX hbl hbA hL hw1.1.1.2.2.1 (k := 1) rfl (by omega) dL_law_234 dL_law_235 ?_
  refine lv_aload_n S0.1 S0.2.1 dL_law_236 rfl (lv_at hl 1 rfl) ?_
  refine lv_iload S0.1 S0.2.1 dL_law_237 (lv_at hl 5 rfl) ?_
  refine lv_iconst (v := 2) S0.1 S0.2.1 dL_law_239 (by decide) ?_
  refine l_sld S0 hX hbl hbA hL hw1.1.1.2.2.1 (k := 2) rfl (by omega) dL_law_240 dL_law_241 ?_
  refine lv_aload_n S0.1 S0.2.1 dL_law_242 rfl (lv_at hl 1 rfl) ?_
  refine lv_iload S0.1 S0.2.1 dL_law_243 (lv_at hl 5 rfl) ?_
  refine lv_iconst (v := 3) S0.1 S0.2.1 dL_law_245 (by decide) ?_
  refine l_sld S0 hX hbl hbA hL hw1.1.1.2.2.1 (k := 3) rfl (by omega) dL_law_246 dL_law_247 ?_
  refine l_refi S0 hw1 (As := [.int (xs (8 * n + 1)), .int (xs (8 * n + 2)), .int (xs (8 * n + 3))]) (rest := []) (wX9_open l D Y am F (xs (8 * n + 1)) (xs (8 * n + 2)) (xs (8 * n + 3)) σm) qyX9_open kw_1327 ⟨Nat.le_of_ble_eq_true rfl, Nat.le_of_ble_eq_true rfl⟩ f2 rfl hl.1 (Nat.le_of_ble_eq_true rfl) dL_law_248 ⟨show cells + 15 ≤ 601024 by omega, show slots + 124 ≤ 7293034 by omega⟩ rfl (fun H locs hw2 => ?_)
  refine lv_istore (lv' := [(6, .int w), (5, .int ((fun e => if e = 0 then 0 else if e = 1 then 1 else if e = 2 then 2 else if e = 3 then 3 else 0) ex)), (0, .ref b), (1, .ref (ad 0 0)), (2, .ref (am 0 0)), (3, .ref o), (4, .int (nI (8 * n)))]) S0.1 S0.2.1 dL_law_251 hl (by decide) rfl (fun ls hl => ?_)
  refine lv_aload_n S0.1 S0.2.1 dL_law_253 rfl (lv_at hl 4 rfl) ?_
  refine l_refi S0 hw2 (As := []) (rest := []) (wX9_thrown l D Y am F σm9) qyX9_thrown kw_1323 ⟨Nat.le_of_ble_eq_true rfl, Nat.le_of_ble_eq_true rfl⟩ f3 rfl hl.1 (Nat.le_of_ble_eq_true rfl) dL_law_254 ⟨show cells + 15 ≤ 601024 by omega, show slots + 124 ≤ 7293034 by omega⟩ rfl (fun H locs hw3 => ?_)
  refine lv_iload S0.1 S0.2.1 dL_law_257 (lv_at hl 1 rfl) ?_
  refine lv_icmp_eq (tgt := 264) S0.1 S0.2.1 dL_law_259 (by decide) (fun c1 => ?_) (fun c1 => absurd rfl c1)
  refine lv_iload S0.1 S0.2.1 dL_law_264 (lv_at hl 1 rfl) ?_
  refine lv_if_ne (tgt := 281) S0.1 S0.2.1 dL_law_266 (by decide) (fun c2 => ?_) (fun c2 => ?_)
  · refine lv_goto (tgt := 2620) S0.1 S0.2.1 dL_law_281 (by decide) ?_
    exact next ad9 σ9 σm9 _ _ _ ls _ _ hw3 h00 hok f5 (show cells + 15 ≤ 126 + 20 * (n + 1) + Φ σ9 by omega) (show slots + 124 ≤ 544257 + 130 * (n + 1) + 2 * Φ σ9 by omega) (lv_sub hl [2, 3, 4, 5, 6] rfl)
  · obtain ⟨rfl, rfl⟩ := f4 (Decidable.not_not.mp (fun h => h c2))
    refine lv_aload_n S0.1 S0.2.1 dL_law_269 rfl (lv_at hl 5 rfl) ?_
    refine lv_iconst (v := 0) S0.1 S0.2.1 dL_law_270 (by decide) ?_
    refine l_out0 S0 hw3 dL_law_271 ?_
    refine lv_iload S0.1 S0.2.1 dL_law_272 (lv_at hl 0 rfl) ?_
    refine lv_i2l (v := v.toInt64) S0.1 S0.2.1 dL_law_274 rfl ?_
    refine l_lcmp0 S0 (x := v.toInt64) dL_law_275 ?_
    refine lv_if_eq (tgt := 281) S0.1 S0.2.1 dL_law_276 (by decide) (fun c3 => ?_) (fun c3 => absurd rfl c3)
    refine lv_goto (tgt := 2620) S0.1 S0.2.1 dL_law_281 (by decide) ?_
    exact next ad9 σ9 σm9 _ _ _ ls _ _ hw3 h00 hok f5 (show cells + 15 ≤ 126 + 20 * (n + 1) + Φ σ9 by omega) (show slots + 124 ≤ 544257 + 130 * (n + 1) + 2 * Φ σ9 by omega) (lv_sub hl [2, 3, 4, 5, 6] rfl)
theorem qyX9_close : qY yX9_close RX9 cX9_close 3 (some .int) 1 := ⟨⟨kw_1340, kw_1341, kw_11, kw_1342⟩, rfl, by decide, by decide, by decide +kernel⟩
set_option maxRecDepth 100000 in
set_option maxHeartbeats 4000000 in
theorem wLaw_close {p : Program} {l : Launch} {e : Env} {s : State} {m : MethodId} {below : List Frame} {meth : Method} {c : Code} {Q : State → Prop} {D : va_G} {Y : Nat → ClassId} {am : qAd} {b L : Nat} {xs : Nat → Int32} {x0 o e0 F n : Nat} {I : Nat → qS → qS → Prop} {Φ : qS → Nat} (S0 : CallFix p m c cL_law 7 s #[.ref b] gws "LeasehallLaw") (hst : l.stackTraces = false) (hX : va_X b L xs s s.heap) (hbl : b < s.heap.size) (hL : L ≤ 4096) (hG : qG s.heap.size s s.heap) (hE : qE s.heap.size e0 s s.heap) (hNc : qNc s) (hΦ : ∀ n σ σm, I n σ σm → Φ σ ≤ 90000) (hc : cI_close F I Φ) (hn : 8 * n + 8 ≤ L) (next : lNext p l e s m b below meth c Q D Y am x0 o e0 I Φ n (n + 1) 2620) : lNext p l e s m b below meth c Q D Y am x0 o e0 I Φ n n 284 := by
  intro ad σ σm g H locs ls cells slots hw h0 hok hI hcl hsl hl
  have hbA : ¬ lA s b := Nat.not_le.mpr hbl
  have hAB : ∀ q, lA s q → s.heap.size ≤ q := fun _ h => h
  have hn5 : n < 512 := by omega
  obtain ⟨v, ex, σ9, w, σm9, f1, f2, f3, f4, f5, f6⟩ := hc n σ σm (xs (8 * n + 1)) hn5 hI
  have hΦ9 := hΦ _ _ _ f5
  replace f6 : 0 + Φ σ ≤ Φ σ9 := f6
  subst h0
  refine lv_aload_n S0.1 S0.2.1 dL_law_284 rfl (lv_at hl 1 rfl) ?_
  refine lv_aload_n S0.1 S0.2.1 dL_law_285 rfl (lv_at hl 0 rfl) ?_
  refine lv_iload S0.1 S0.2.1 dL_law_286 (lv_at hl 4 rfl) ?_
  refine lv_iconst (v := 1) S0.1 S0.2.1 dL_law_288 (by decide) ?_
  refine l_sld S0 hX hbl hbA hL hw.1.1.2.2.1 (k := 1) rfl (by omega) dL_law_289 dL_law_290 ?_
  refine lv_aload_n S0.1 S0.2.1 dL_law_291 rfl (lv_at hl 3 rfl) ?_
  refine l_wrap (n := 3) S0 hG hE hNc hAB hok hw (As := [.ref (ad 0 0), .int (xs (8 * n + 1)), .ref o]) (rest := []) (wL_close l hst D Y ad o g s.heap.size e0 F (xs (8 * n + 1)) σ) kw_594 kw_592 kw_593 kw_0 ⟨by decide, by decide, by decide +kernel⟩ ⟨Nat.le_of_ble_eq_true rfl, Nat.le_of_ble_eq_true rfl⟩ f1 rfl hl.1 (Nat.le_of_ble_eq_true rfl) dL_law_292 ⟨show cells + 2 ≤ 601024 by omega, show slots + 12 ≤ 7293034 by omega⟩ rfl (fun ad9 H locs hw1 h00 hok => ?_)
  replace h00 : ad9 0 0 = ad 0 0 := h00
  refine lv_istore (lv' := [(5, .int ((fun e => if e = 0 then 0 else if e = 1 then 1 else if e = 3 then 2 else 0) ex)), (0, .ref b), (1, .ref (ad 0 0)), (2, .ref (am 0 0)), (3, .ref o), (4, .int (nI (8 * n)))]) S0.1 S0.2.1 dL_law_295 hl (by decide) rfl (fun ls hl => ?_)
  refine lv_aload_n S0.1 S0.2.1 dL_law_297 rfl (lv_at hl 3 rfl) ?_
  refine lv_aload_n S0.1 S0.2.1 dL_law_298 rfl (lv_at hl 1 rfl) ?_
  refine lv_iload S0.1 S0.2.1 dL_law_299 (lv_at hl 5 rfl) ?_
  refine lv_iconst (v := 1) S0.1 S0.2.1 dL_law_301 (by decide) ?_
  refine l_sld S0 hX hbl hbA hL hw1.1.1.2.2.1 (k := 1) rfl (by omega) dL_law_302 dL_law_303 ?_
  refine l_refi S0 hw1 (As := [.int (xs (8 * n + 1))]) (rest := []) (wX9_close l D Y am F (xs (8 * n + 1)) σm) qyX9_close kw_1339 ⟨Nat.le_of_ble_eq_true rfl, Nat.le_of_ble_eq_true rfl⟩ f2 rfl hl.1 (Nat.le_of_ble_eq_true rfl) dL_law_304 ⟨show cells + 2 ≤ 601024 by omega, show slots + 12 ≤ 7293034 by omega⟩ rfl (fun H locs hw2 => ?_)
  refine lv_istore (lv' := [(6, .int w), (5, .int ((fun e => if e = 0 then 0 else if e = 1 then 1 else if e = 3 then 2 else 0) ex)), (0, .ref b), (1, .ref (ad 0 0)), (2, .ref (am 0 0)), (3, .ref o), (4, .int (nI (8 * n)))]) S0.1 S0.2.1 dL_law_307 hl (by decide) rfl (fun ls hl => ?_)
  refine lv_aload_n S0.1 S0.2.1 dL_law_309 rfl (lv_at hl 4 rfl) ?_
  refine l_refi S0 hw2 (As := []) (rest := []) (wX9_thrown l D Y am F σm9) qyX9_thrown kw_1323 ⟨Nat.le_of_ble_eq_true rfl, Nat.le_of_ble_eq_true rfl⟩ f3 rfl hl.1 (Nat.le_of_ble_eq_true rfl) dL_law_310 ⟨show cells + 2 ≤ 601024 by omega, show slots + 12 ≤ 7293034 by omega⟩ rfl (fun H locs hw3 => ?_)
  refine lv_iload S0.1 S0.2.1 dL_law_313 (lv_at hl 1 rfl) ?_
  refine lv_icmp_eq (tgt := 320) S0.1 S0.2.1 dL_law_315 (by decide) (fun c1 => ?_) (fun c1 => absurd rfl c1)
  refine lv_iload S0.1 S0.2.1 dL_law_320 (lv_at hl 1 rfl) ?_
  refine lv_if_ne (tgt := 337) S0.1 S0.2.1 dL_law_322 (by decide) (fun c2 => ?_) (fun c2 => ?_)
  · refine lv_goto (tgt := 2620) S0.1 S0.2.1 dL_law_337 (by decide) ?_
    exact next ad9 σ9 σm9 _ _ _ ls _ _ hw3 h00 hok f5 (show cells + 2 ≤ 126 + 20 * (n + 1) + Φ σ9 by omega) (show slots + 12 ≤ 544257 + 130 * (n + 1) + 2 * Φ σ9 by omega) (lv_sub hl [2, 3, 4, 5, 6] rfl)
  · obtain ⟨rfl, rfl⟩ := f4 (Decidable.not_not.mp (fun h => h c2))
    refine lv_aload_n S0.1 S0.2.1 dL_law_325 rfl (lv_at hl 5 rfl) ?_
    refine lv_iconst (v := 0) S0.1 S0.2.1 dL_law_326 (by decide) ?_
    refine l_out0 S0 hw3 dL_law_327 ?_
    refine lv_iload S0.1 S0.2.1 dL_law_328 (lv_at hl 0 rfl) ?_
    refine lv_i2l (v := v.toInt64) S0.1 S0.2.1 dL_law_330 rfl ?_
    refine l_lcmp0 S0 (x := v.toInt64) dL_law_331 ?_
    refine lv_if_eq (tgt := 337) S0.1 S0.2.1 dL_law_332 (by decide) (fun c3 => ?_) (fun c3 => absurd rfl c3)
    refine lv_goto (tgt := 2620) S0.1 S0.2.1 dL_law_337 (by decide) ?_
    exact next ad9 σ9 σm9 _ _ _ ls _ _ hw3 h00 hok f5 (show cells + 2 ≤ 126 + 20 * (n + 1) + Φ σ9 by omega) (show slots + 12 ≤ 544257 + 130 * (n + 1) + 2 * Φ σ9 by omega) (lv_sub hl [2, 3, 4, 5, 6] rfl)
theorem qyX9_ping : qY yX9_ping RX9 cX9_ping 2 (some .int) 1 := ⟨⟨kw_1412, kw_1413, kw_11, kw_1414⟩, rfl, by decide, by decide, by decide +kernel⟩
set_option maxRecDepth 100000 in
set_option maxHeartbeats 4000000 in
theorem wLaw_ping {p : Program} {l : Launch} {e : Env} {s : State} {m : MethodId} {below : List Frame} {meth : Method} {c : Code} {Q : State → Prop} {D : va_G} {Y : Nat → ClassId} {am : qAd} {b L : Nat} {xs : Nat → Int32} {x0 o e0 F n : Nat} {I : Nat → qS → qS → Prop} {Φ : qS → Nat} (S0 : CallFix p m c cL_law 7 s #[.ref b] gws "LeasehallLaw") (hst : l.stackTraces = false) (hX : va_X b L xs s s.heap) (hbl : b < s.heap.size) (hL : L ≤ 4096) (hG : qG s.heap.size s s.heap) (hE : qE s.heap.size e0 s s.heap) (hNc : qNc s) (hΦ : ∀ n σ σm, I n σ σm → Φ σ ≤ 90000) (hc : cI_ping F I Φ) (hn : 8 * n + 8 ≤ L) (next : lNext p l e s m b below meth c Q D Y am x0 o e0 I Φ n (n + 1) 2620) : lNext p l e s m b below meth c Q D Y am x0 o e0 I Φ n n 340 := by
  intro ad σ σm g H locs ls cells slots hw h0 hok hI hcl hsl hl
  have hbA : ¬ lA s b := Nat.not_le.mpr hbl
  have hAB : ∀ q, lA s q → s.heap.size ≤ q := fun _ h => h
  have hn5 : n < 512 := by omega
  obtain ⟨v, ex, σ9, w, σm9, f1, f2, f3, f4, f5, f6⟩ := hc n σ σm (xs (8 * n + 1)) hn5 hI
  have hΦ9 := hΦ _ _ _ f5
  replace f6 : 0 + Φ σ ≤ Φ σ9 := f6
  subst h0
  refine lv_aload_n S0.1 S0.2.1 dL_law_340 rfl (lv_at hl 1 rfl) ?_
  refine lv_aload_n S0.1 S0.2.1 dL_law_341 rfl (lv_at hl 0 rfl) ?_
  refine lv_iload S0.1 S0.2.1 dL_law_342 (lv_at hl 4 rfl) ?_
  refine lv_iconst (v := 1) S0.1 S0.2.1 dL_law_344 (by decide) ?_
  refine l_sld S0 hX hbl hbA hL hw.1.1.2.2.1 (k := 1) rfl (by omega) dL_law_345 dL_law_346 ?_
  refine lv_aload_n S0.1 S0.2.1 dL_law_347 rfl (lv_at hl 3 rfl) ?_
  refine l_wrap (n := 3) S0 hG hE hNc hAB hok hw (As := [.ref (ad 0 0), .int (xs (8 * n + 1)), .ref o]) (rest := []) (wL_ping l hst D Y ad o g s.heap.size e0 F (xs (8 * n + 1)) σ) kw_677 kw_675 kw_676 kw_0 ⟨by decide, by decide, by decide +kernel⟩ ⟨Nat.le_of_ble_eq_true rfl, Nat.le_of_ble_eq_true rfl⟩ f1 rfl hl.1 (Nat.le_of_ble_eq_true rfl) dL_law_348 ⟨show cells + 2 ≤ 601024 by omega, show slots + 12 ≤ 7293034 by omega⟩ rfl (fun ad9 H locs hw1 h00 hok => ?_)
  replace h00 : ad9 0 0 = ad 0 0 := h00
  refine lv_istore (lv' := [(5, .int ((fun e => if e = 0 then 0 else if e = 1 then 1 else if e = 3 then 2 else 0) ex)), (0, .ref b), (1, .ref (ad 0 0)), (2, .ref (am 0 0)), (3, .ref o), (4, .int (nI (8 * n)))]) S0.1 S0.2.1 dL_law_351 hl (by decide) rfl (fun ls hl => ?_)
  refine lv_aload_n S0.1 S0.2.1 dL_law_353 rfl (lv_at hl 3 rfl) ?_
  refine lv_aload_n S0.1 S0.2.1 dL_law_354 rfl (lv_at hl 1 rfl) ?_
  refine lv_iload S0.1 S0.2.1 dL_law_355 (lv_at hl 5 rfl) ?_
  refine lv_iconst (v := 1) S0.1 S0.2.1 dL_law_357 (by decide) ?_
  refine l_sld S0 hX hbl hbA hL hw1.1.1.2.2.1 (k := 1) rfl (by omega) dL_law_358 dL_law_359 ?_
  refine l_refi S0 hw1 (As := [.int (xs (8 * n + 1))]) (rest := []) (wX9_ping l D Y am F (xs (8 * n + 1)) σm) qyX9_ping kw_1411 ⟨Nat.le_of_ble_eq_true rfl, Nat.le_of_ble_eq_true rfl⟩ f2 rfl hl.1 (Nat.le_of_ble_eq_true rfl) dL_law_360 ⟨show cells + 2 ≤ 601024 by omega, show slots + 12 ≤ 7293034 by omega⟩ rfl (fun H locs hw2 => ?_)
  refine lv_istore (lv' := [(6, .int w), (5, .int ((fun e => if e = 0 then 0 else if e = 1 then 1 else if e = 3 then 2 else 0) ex)), (0, .ref b), (1, .ref (ad 0 0)), (2, .ref (am 0 0)), (3, .ref o), (4, .int (nI (8 * n)))]) S0.1 S0.2.1 dL_law_363 hl (by decide) rfl (fun ls hl => ?_)
  refine lv_aload_n S0.1 S0.2.1 dL_law_365 rfl (lv_at hl 4 rfl) ?_
  refine l_refi S0 hw2 (As := []) (rest := []) (wX9_thrown l D Y am F σm9) qyX9_thrown kw_1323 ⟨Nat.le_of_ble_eq_true rfl, Nat.le_of_ble_eq_true rfl⟩ f3 rfl hl.1 (Nat.le_of_ble_eq_true rfl) dL_law_366 ⟨show cells + 2 ≤ 601024 by omega, show slots + 12 ≤ 7293034 by omega⟩ rfl (fun H locs hw3 => ?_)
  refine lv_iload S0.1 S0.2.1 dL_law_369 (lv_at hl 1 rfl) ?_
  refine lv_icmp_eq (tgt := 376) S0.1 S0.2.1 dL_law_371 (by decide) (fun c1 => ?_) (fun c1 => absurd rfl c1)
  refine lv_iload S0.1 S0.2.1 dL_law_376 (lv_at hl 1 rfl) ?_
  refine lv_if_ne (tgt := 393) S0.1 S0.2.1 dL_law_378 (by decide) (fun c2 => ?_) (fun c2 => ?_)
  · refine lv_goto (tgt := 2620) S0.1 S0.2.1 dL_law_393 (by decide) ?_
    exact next ad9 σ9 σm9 _ _ _ ls _ _ hw3 h00 hok f5 (show cells + 2 ≤ 126 + 20 * (n + 1) + Φ σ9 by omega) (show slots + 12 ≤ 544257 + 130 * (n + 1) + 2 * Φ σ9 by omega) (lv_sub hl [2, 3, 4, 5, 6] rfl)
  · obtain ⟨rfl, rfl⟩ := f4 (Decidable.not_not.mp (fun h => h c2))
    refine lv_aload_n S0.1 S0.2.1 dL_law_381 rfl (lv_at hl 5 rfl) ?_
    refine lv_iconst (v := 0) S0.1 S0.2.1 dL_law_382 (by decide) ?_
    refine l_out0 S0 hw3 dL_law_383 ?_
    refine lv_iload S0.1 S0.2.1 dL_law_384 (lv_at hl 0 rfl) ?_
    refine lv_i2l (v := v.toInt64) S0.1 S0.2.1 dL_law_386 rfl ?_
    refine l_lcmp0 S0 (x := v.toInt64) dL_law_387 ?_
    refine lv_if_eq (tgt := 393) S0.1 S0.2.1 dL_law_388 (by decide) (fun c3 => ?_) (fun c3 => absurd rfl c3)
    refine lv_goto (tgt := 2620) S0.1 S0.2.1 dL_law_393 (by decide) ?_
    exact next ad9 σ9 σm9 _ _ _ ls _ _ hw3 h00 hok f5 (show cells + 2 ≤ 126 + 20 * (n + 1) + Φ σ9 by omega) (show slots + 12 ≤ 544257 + 130 * (n + 1) + 2 * Φ σ9 by omega) (lv_sub hl [2, 3, 4, 5, 6] rfl)
theorem qyX9_move : qY yX9_move RX9 cX9_move 5 (some .boolean) 2 := ⟨⟨kw_1420, kw_1421, kw_11, kw_1422⟩, rfl, by decide, by decide, by decide +kernel⟩
set_option maxRecDepth 100000 in
set_option maxHeartbeats 4000000 in
theorem wLaw_move {p : Program} {l : Launch} {e : Env} {s : State} {m : MethodId} {below : List Frame} {meth : Method} {c : Code} {Q : State → Prop} {D : va_G} {Y : Nat → ClassId} {am : qAd} {b L : Nat} {xs : Nat → Int32} {x0 o e0 F n : Nat} {I : Nat → qS → qS → Prop} {Φ : qS → Nat} (S0 : CallFix p m c cL_law 7 s #[.ref b] gws "LeasehallLaw") (hst : l.stackTraces = false) (hX : va_X b L xs s s.heap) (hbl : b < s.heap.size) (hL : L ≤ 4096) (hG : qG s.heap.size s s.heap) (hE : qE s.heap.size e0 s s.heap) (hNc : qNc s) (hΦ : ∀ n σ σm, I n σ σm → Φ σ ≤ 90000) (hc : cI_move F I Φ) (hn : 8 * n + 8 ≤ L) (next : lNext p l e s m b below meth c Q D Y am x0 o e0 I Φ n (n + 1) 2620) : lNext p l e s m b below meth c Q D Y am x0 o e0 I Φ n n 396 := by
  intro ad σ σm g H locs ls cells slots hw h0 hok hI hcl hsl hl
  have hbA : ¬ lA s b := Nat.not_le.mpr hbl
  have hAB : ∀ q, lA s q → s.heap.size ≤ q := fun _ h => h
  have hn5 : n < 512 := by omega
  obtain ⟨v, ex, σ9, w, σm9, f1, f2, f3, f4, f5, f6⟩ := hc n σ σm (xs (8 * n + 1)) (xs (8 * n + 2)) hn5 hI
  have hΦ9 := hΦ _ _ _ f5
  replace f6 : 0 + Φ σ ≤ Φ σ9 := f6
  subst h0
  refine lv_aload_n S0.1 S0.2.1 dL_law_396 rfl (lv_at hl 1 rfl) ?_
  refine lv_aload_n S0.1 S0.2.1 dL_law_397 rfl (lv_at hl 0 rfl) ?_
  refine lv_iload S0.1 S0.2.1 dL_law_398 (lv_at hl 4 rfl) ?_
  refine lv_iconst (v := 1) S0.1 S0.2.1 dL_law_400 (by decide) ?_
  refine l_sld S0 hX hbl hbA hL hw.1.1.2.2.1 (k := 1) rfl (by omega) dL_law_401 dL_law_402 ?_
  refine lv_aload_n S0.1 S0.2.1 dL_law_403 rfl (lv_at hl 0 rfl) ?_
  refine lv_iload S0.1 S0.2.1 dL_law_404 (lv_at hl 4 rfl) ?_
  refine lv_iconst (v := 2) S0.1 S0.2.1 dL_law_406 (by decide) ?_
  refine l_sld S0 hX hbl hbA hL hw.1.1.2.2.1 (k := 2) rfl (by omega) dL_law_407 dL_law_408 ?_
  refine lv_aload_n S0.1 S0.2.1 dL_law_409 rfl (lv_at hl 3 rfl) ?_
  refine l_wrap (n := 4) S0 hG hE hNc hAB hok hw (As := [.ref (ad 0 0), .int (xs (8 * n + 1)), .int (xs (8 * n + 2)), .ref o]) (rest := []) (wL_move l hst D Y ad o g s.heap.size e0 F (xs (8 * n + 1)) (xs (8 * n + 2)) σ) kw_688 kw_686 kw_687 kw_0 ⟨by decide, by decide, by decide +kernel⟩ ⟨Nat.le_of_ble_eq_true rfl, Nat.le_of_ble_eq_true rfl⟩ f1 rfl hl.1 (Nat.le_of_ble_eq_true rfl) dL_law_410 ⟨show cells + 3 ≤ 601024 by omega, show slots + 18 ≤ 7293034 by omega⟩ rfl (fun ad9 H locs hw1 h00 hok => ?_)
  replace h00 : ad9 0 0 = ad 0 0 := h00
  refine lv_istore (lv' := [(5, .int ((fun e => if e = 0 then 0 else if e = 1 then 1 else if e = 3 then 2 else 0) ex)), (0, .ref b), (1, .ref (ad 0 0)), (2, .ref (am 0 0)), (3, .ref o), (4, .int (nI (8 * n)))]) S0.1 S0.2.1 dL_law_413 hl (by decide) rfl (fun ls hl => ?_)
  refine lv_aload_n S0.1 S0.2.1 dL_law_415 rfl (lv_at hl 3 rfl) ?_
  refine lv_aload_n S0.1 S0.2.1 dL_law_416 rfl (lv_at hl 1 rfl) ?_
  refine lv_iload S0.1 S0.2.1 dL_law_417 (lv_at hl 5 rfl) ?_
  refine lv_iconst (v := 1) S0.1 S0.2.1 dL_law_419 (by decide) ?_
  refine l_sld S0 hX hbl hbA hL hw1.1.1.2.2.1 (k := 1) rfl (by omega) dL_law_420 dL_law_421 ?_
  refine lv_aload_n S0.1 S0.2.1 dL_law_422 rfl (lv_at hl 1 rfl) ?_
  refine lv_iload S0.1 S0.2.1 dL_law_423 (lv_at hl 5 rfl) ?_
  refine lv_iconst (v := 2) S0.1 S0.2.1 dL_law_425 (by decide) ?_
  refine l_sld S0 hX hbl hbA hL hw1.1.1.2.2.1 (k := 2) rfl (by omega) dL_law_426 dL_law_427 ?_
  refine l_refi S0 hw1 (As := [.int (xs (8 * n + 1)), .int (xs (8 * n + 2))]) (rest := []) (wX9_move l D Y am F (xs (8 * n + 1)) (xs (8 * n + 2)) σm) qyX9_move kw_1419 ⟨Nat.le_of_ble_eq_true rfl, Nat.le_of_ble_eq_true rfl⟩ f2 rfl hl.1 (Nat.le_of_ble_eq_true rfl) dL_law_428 ⟨show cells + 3 ≤ 601024 by omega, show slots + 18 ≤ 7293034 by omega⟩ rfl (fun H locs hw2 => ?_)
  refine lv_istore (lv' := [(6, .int w), (5, .int ((fun e => if e = 0 then 0 else if e = 1 then 1 else if e = 3 then 2 else 0) ex)), (0, .ref b), (1, .ref (ad 0 0)), (2, .ref (am 0 0)), (3, .ref o), (4, .int (nI (8 * n)))]) S0.1 S0.2.1 dL_law_431 hl (by decide) rfl (fun ls hl => ?_)
  refine lv_aload_n S0.1 S0.2.1 dL_law_433 rfl (lv_at hl 4 rfl) ?_
  refine l_refi S0 hw2 (As := []) (rest := []) (wX9_thrown l D Y am F σm9) qyX9_thrown kw_1323 ⟨Nat.le_of_ble_eq_true rfl, Nat.le_of_ble_eq_true rfl⟩ f3 rfl hl.1 (Nat.le_of_ble_eq_true rfl) dL_law_434 ⟨show cells + 3 ≤ 601024 by omega, show slots + 18 ≤ 7293034 by omega⟩ rfl (fun H locs hw3 => ?_)
  refine lv_iload S0.1 S0.2.1 dL_law_437 (lv_at hl 1 rfl) ?_
  refine lv_icmp_eq (tgt := 444) S0.1 S0.2.1 dL_law_439 (by decide) (fun c1 => ?_) (fun c1 => absurd rfl c1)
  refine lv_iload S0.1 S0.2.1 dL_law_444 (lv_at hl 1 rfl) ?_
  refine lv_if_ne (tgt := 468) S0.1 S0.2.1 dL_law_446 (by decide) (fun c2 => ?_) (fun c2 => ?_)
  · refine lv_goto (tgt := 2620) S0.1 S0.2.1 dL_law_468 (by decide) ?_
    exact next ad9 σ9 σm9 _ _ _ ls _ _ hw3 h00 hok f5 (show cells + 3 ≤ 126 + 20 * (n + 1) + Φ σ9 by omega) (show slots + 18 ≤ 544257 + 130 * (n + 1) + 2 * Φ σ9 by omega) (lv_sub hl [2, 3, 4, 5, 6] rfl)
  · obtain ⟨rfl, rfl⟩ := f4 (Decidable.not_not.mp (fun h => h c2))
    refine lv_aload_n S0.1 S0.2.1 dL_law_449 rfl (lv_at hl 5 rfl) ?_
    refine lv_iconst (v := 0) S0.1 S0.2.1 dL_law_450 (by decide) ?_
    refine l_out0 S0 hw3 dL_law_451 ?_
    refine lv_iload S0.1 S0.2.1 dL_law_452 (lv_at hl 0 rfl) ?_
    refine l_boolL S0 (t := 461) dL_law_454 dL_law_457 dL_law_458 dL_law_461 rfl ?_
    refine l_lcmp0 S0 (x := (if v = 0 then 0 else 1)) dL_law_462 ?_
    refine lv_if_eq (tgt := 468) S0.1 S0.2.1 dL_law_463 (by decide) (fun c3 => ?_) (fun c3 => absurd rfl c3)
    refine lv_goto (tgt := 2620) S0.1 S0.2.1 dL_law_468 (by decide) ?_
    exact next ad9 σ9 σm9 _ _ _ ls _ _ hw3 h00 hok f5 (show cells + 3 ≤ 126 + 20 * (n + 1) + Φ σ9 by omega) (show slots + 18 ≤ 544257 + 130 * (n + 1) + 2 * Φ σ9 by omega) (lv_sub hl [2, 3, 4, 5, 6] rfl)
theorem qyX9_sync : qY yX9_sync RX9 cX9_sync 3 (some .int) 1 := ⟨⟨kw_1424, kw_1425, kw_11, kw_1426⟩, rfl, by decide, by decide, by decide +kernel⟩
set_option maxRecDepth 100000 in
set_option maxHeartbeats 4000000 in
theorem wLaw_sync {p : Program} {l : Launch} {e : Env} {s : State} {m : MethodId} {below : List Frame} {meth : Method} {c : Code} {Q : State → Prop} {D : va_G} {Y : Nat → ClassId} {am : qAd} {b L : Nat} {xs : Nat → Int32} {x0 o e0 F n : Nat} {I : Nat → qS → qS → Prop} {Φ : qS → Nat} (S0 : CallFix p m c cL_law 7 s #[.ref b] gws "LeasehallLaw") (hst : l.stackTraces = false) (hX : va_X b L xs s s.heap) (hbl : b < s.heap.size) (hL : L ≤ 4096) (hG : qG s.heap.size s s.heap) (hE : qE s.heap.size e0 s s.heap) (hNc : qNc s) (hΦ : ∀ n σ σm, I n σ σm → Φ σ ≤ 90000) (hc : cI_sync F I Φ) (hn : 8 * n + 8 ≤ L) (next : lNext p l e s m b below meth c Q D Y am x0 o e0 I Φ n (n + 1) 2620) : lNext p l e s m b below meth c Q D Y am x0 o e0 I Φ n n 471 := by
  intro ad σ σm g H locs ls cells slots hw h0 hok hI hcl hsl hl
  have hbA : ¬ lA s b := Nat.not_le.mpr hbl
  have hAB : ∀ q, lA s q → s.heap.size ≤ q := fun _ h => h
  have hn5 : n < 512 := by omega
  obtain ⟨v, ex, σ9, w, σm9, f1, f2, f3, f4, f5, f6⟩ := hc n σ σm (xs (8 * n + 1)) hn5 hI
  have hΦ9 := hΦ _ _ _ f5
  replace f6 : 0 + Φ σ ≤ Φ σ9 := f6
  subst h0
  refine lv_aload_n S0.1 S0.2.1 dL_law_471 rfl (lv_at hl 1 rfl) ?_
  refine lv_aload_n S0.1 S0.2.1 dL_law_472 rfl (lv_at hl 0 rfl) ?_
  refine lv_iload S0.1 S0.2.1 dL_law_473 (lv_at hl 4 rfl) ?_
  refine lv_iconst (v := 1) S0.1 S0.2.1 dL_law_475 (by decide) ?_
  refine l_sld S0 hX hbl hbA hL hw.1.1.2.2.1 (k := 1) rfl (by omega) dL_law_476 dL_law_477 ?_
  refine lv_aload_n S0.1 S0.2.1 dL_law_478 rfl (lv_at hl 3 rfl) ?_
  refine l_wrap (n := 3) S0 hG hE hNc hAB hok hw (As := [.ref (ad 0 0), .int (xs (8 * n + 1)), .ref o]) (rest := []) (wL_sync l hst D Y ad o g s.heap.size e0 F (xs (8 * n + 1)) σ) kw_695 kw_693 kw_694 kw_0 ⟨by decide, by decide, by decide +kernel⟩ ⟨Nat.le_of_ble_eq_true rfl, Nat.le_of_ble_eq_true rfl⟩ f1 rfl hl.1 (Nat.le_of_ble_eq_true rfl) dL_law_479 ⟨show cells + 2 ≤ 601024 by omega, show slots + 12 ≤ 7293034 by omega⟩ rfl (fun ad9 H locs hw1 h00 hok => ?_)
  replace h00 : ad9 0 0 = ad 0 0 := h00
  refine lv_istore (lv' := [(5, .int ((fun e => if e = 0 then 0 else if e = 1 then 1 else if e = 3 then 2 else 0) ex)), (0, .ref b), (1, .ref (ad 0 0)), (2, .ref (am 0 0)), (3, .ref o), (4, .int (nI (8 * n)))]) S0.1 S0.2.1 dL_law_482 hl (by decide) rfl (fun ls hl => ?_)
  refine lv_aload_n S0.1 S0.2.1 dL_law_484 rfl (lv_at hl 3 rfl) ?_
  refine lv_aload_n S0.1 S0.2.1 dL_law_485 rfl (lv_at hl 1 rfl) ?_
  refine lv_iload S0.1 S0.2.1 dL_law_486 (lv_at hl 5 rfl) ?_
  refine lv_iconst (v := 1) S0.1 S0.2.1 dL_law_488 (by decide) ?_
  refine l_sld S0 hX hbl hbA hL hw1.1.1.2.2.1 (k := 1) rfl (by omega) dL_law_489 dL_law_490 ?_
  refine l_refi S0 hw1 (As := [.int (xs (8 * n + 1))]) (rest := []) (wX9_sync l D Y am F (xs (8 * n + 1)) σm) qyX9_sync kw_1423 ⟨Nat.le_of_ble_eq_true rfl, Nat.le_of_ble_eq_true rfl⟩ f2 rfl hl.1 (Nat.le_of_ble_eq_true rfl) dL_law_491 ⟨show cells + 2 ≤ 601024 by omega, show slots + 12 ≤ 7293034 by omega⟩ rfl (fun H locs hw2 => ?_)
  refine lv_istore (lv' := [(6, .int w), (5, .int ((fun e => if e = 0 then 0 else if e = 1 then 1 else if e = 3 then 2 else 0) ex)), (0, .ref b), (1, .ref (ad 0 0)), (2, .ref (am 0 0)), (3, .ref o), (4, .int (nI (8 * n)))]) S0.1 S0.2.1 dL_law_494 hl (by decide) rfl (fun ls hl => ?_)
  refine lv_aload_n S0.1 S0.2.1 dL_law_496 rfl (lv_at hl 4 rfl) ?_
  refine l_refi S0 hw2 (As := []) (rest := []) (wX9_thrown l D Y am F σm9) qyX9_thrown kw_1323 ⟨Nat.le_of_ble_eq_true rfl, Nat.le_of_ble_eq_true rfl⟩ f3 rfl hl.1 (Nat.le_of_ble_eq_true rfl) dL_law_497 ⟨show cells + 2 ≤ 601024 by omega, show slots + 12 ≤ 7293034 by omega⟩ rfl (fun H locs hw3 => ?_)
  refine lv_iload S0.1 S0.2.1 dL_law_500 (lv_at hl 1 rfl) ?_
  refine lv_icmp_eq (tgt := 507) S0.1 S0.2.1 dL_law_502 (by decide) (fun c1 => ?_) (fun c1 => absurd rfl c1)
  refine lv_iload S0.1 S0.2.1 dL_law_507 (lv_at hl 1 rfl) ?_
  refine lv_if_ne (tgt := 524) S0.1 S0.2.1 dL_law_509 (by decide) (fun c2 => ?_) (fun c2 => ?_)
  · refine lv_goto (tgt := 2620) S0.1 S0.2.1 dL_law_524 (by decide) ?_
    exact next ad9 σ9 σm9 _ _ _ ls _ _ hw3 h00 hok f5 (show cells + 2 ≤ 126 + 20 * (n + 1) + Φ σ9 by omega) (show slots + 12 ≤ 544257 + 130 * (n + 1) + 2 * Φ σ9 by omega) (lv_sub hl [2, 3, 4, 5, 6] rfl)
  · obtain ⟨rfl, rfl⟩ := f4 (Decidable.not_not.mp (fun h => h c2))
    refine lv_aload_n S0.1 S0.2.1 dL_law_512 rfl (lv_at hl 5 rfl) ?_
    refine lv_iconst (v := 0) S0.1 S0.2.1 dL_law_513 (by decide) ?_
    refine l_out0 S0 hw3 dL_law_514 ?_
    refine lv_iload S0.1 S0.2.1 dL_law_515 (lv_at hl 0 rfl) ?_
    refine lv_i2l (v := v.toInt64) S0.1 S0.2.1 dL_law_517 rfl ?_
    refine l_lcmp0 S0 (x := v.toInt64) dL_law_518 ?_
    refine lv_if_eq (tgt := 524) S0.1 S0.2.1 dL_law_519 (by decide) (fun c3 => ?_) (fun c3 => absurd rfl c3)
    refine lv_goto (tgt := 2620) S0.1 S0.2.1 dL_law_524 (by decide) ?_
    exact next ad9 σ9 σm9 _ _ _ ls _ _ hw3 h00 hok f5 (show cells + 2 ≤ 126 + 20 * (n + 1) + Φ σ9 by omega) (show slots + 12 ≤ 544257 + 130 * (n + 1) + 2 * Φ σ9 by omega) (lv_sub hl [2, 3, 4, 5, 6] rfl)
theorem qyX9_follow : qY yX9_follow RX9 cX9_follow 5 (some .int) 2 := ⟨⟨kw_1428, kw_1429, kw_11, kw_1430⟩, rfl, by decide, by decide, by decide +kernel⟩
set_option maxRecDepth 100000 in
set_option maxHeartbeats 4000000 in
theorem wLaw_follow {p : Program} {l : Launch} {e : Env} {s : State} {m : MethodId} {below : List Frame} {meth : Method} {c : Code} {Q : State → Prop} {D : va_G} {Y : Nat → ClassId} {am : qAd} {b L : Nat} {xs : Nat → Int32} {x0 o e0 F n : Nat} {I : Nat → qS → qS → Prop} {Φ : qS → Nat} (S0 : CallFix p m c cL_law 7 s #[.ref b] gws "LeasehallLaw") (hst : l.stackTraces = false) (hX : va_X b L xs s s.heap) (hbl : b < s.heap.size) (hL : L ≤ 4096) (hG : qG s.heap.size s s.heap) (hE : qE s.heap.size e0 s s.heap) (hNc : qNc s) (hΦ : ∀ n σ σm, I n σ σm → Φ σ ≤ 90000) (hc : cI_follow F I Φ) (hn : 8 * n + 8 ≤ L) (next : lNext p l e s m b below meth c Q D Y am x0 o e0 I Φ n (n + 1) 2620) : lNext p l e s m b below meth c Q D Y am x0 o e0 I Φ n n 527 := by
  intro ad σ σm g H locs ls cells slots hw h0 hok hI hcl hsl hl
  have hbA : ¬ lA s b := Nat.not_le.mpr hbl
  have hAB : ∀ q, lA s q → s.heap.size ≤ q := fun _ h => h
  have hn5 : n < 512 := by omega
  obtain ⟨v, ex, σ9, w, σm9, f1, f2, f3, f4, f5, f6⟩ := hc n σ σm (xs (8 * n + 1)) (xs (8 * n + 2)) hn5 hI
  have hΦ9 := hΦ _ _ _ f5
  replace f6 : 0 + Φ σ ≤ Φ σ9 := f6
  subst h0
  refine lv_aload_n S0.1 S0.2.1 dL_law_527 rfl (lv_at hl 1 rfl) ?_
  refine lv_aload_n S0.1 S0.2.1 dL_law_528 rfl (lv_at hl 0 rfl) ?_
  refine lv_iload S0.1 S0.2.1 dL_law_529 (lv_at hl 4 rfl) ?_
  refine lv_iconst (v := 1) S0.1 S0.2.1 dL_law_531 (by decide) ?_
  refine l_sld S0 hX hbl hbA hL hw.1.1.2.2.1 (k := 1) rfl (by omega) dL_law_532 dL_law_533 ?_
  refine lv_aload_n S0.1 S0.2.1 dL_law_534 rfl (lv_at hl 0 rfl) ?_
  refine lv_iload S0.1 S0.2.1 dL_law_535 (lv_at hl 4 rfl) ?_
  refine lv_iconst (v := 2) S0.1 S0.2.1 dL_law_537 (by decide) ?_
  refine l_sld S0 hX hbl hbA hL hw.1.1.2.2.1 (k := 2) rfl (by omega) dL_law_538 dL_law_539 ?_
  refine lv_aload_n S0.1 S0.2.1 dL_law_540 rfl (lv_at hl 3 rfl) ?_
  refine l_wrap (n := 4) S0 hG hE hNc hAB hok hw (As := [.ref (ad 0 0), .int (xs (8 * n + 1)), .int (xs (8 * n + 2)), .ref o]) (rest := []) (wL_follow l hst D Y ad o g s.heap.size e0 F (xs (8 * n + 1)) (xs (8 * n + 2)) σ) kw_707 kw_705 kw_706 kw_0 ⟨by decide, by decide, by decide +kernel⟩ ⟨Nat.le_of_ble_eq_true rfl, Nat.le_of_ble_eq_true rfl⟩ f1 rfl hl.1 (Nat.le_of_ble_eq_true rfl) dL_law_541 ⟨show cells + 2 ≤ 601024 by omega, show slots + 12 ≤ 7293034 by omega⟩ rfl (fun ad9 H locs hw1 h00 hok => ?_)
  replace h00 : ad9 0 0 = ad 0 0 := h00
  refine lv_istore (lv' := [(5, .int ((fun e => if e = 0 then 0 else if e = 1 then 1 else if e = 2 then 2 else 0) ex)), (0, .ref b), (1, .ref (ad 0 0)), (2, .ref (am 0 0)), (3, .ref o), (4, .int (nI (8 * n)))]) S0.1 S0.2.1 dL_law_544 hl (by decide) rfl (fun ls hl => ?_)
  refine lv_aload_n S0.1 S0.2.1 dL_law_546 rfl (lv_at hl 3 rfl) ?_
  refine lv_aload_n S0.1 S0.2.1 dL_law_547 rfl (lv_at hl 1 rfl) ?_
  refine lv_iload S0.1 S0.2.1 dL_law_548 (lv_at hl 5 rfl) ?_
  refine lv_iconst (v := 1) S0.1 S0.2.1 dL_law_550 (by decide) ?_
  refine l_sld S0 hX hbl hbA hL hw1.1.1.2.2.1 (k := 1) rfl (by omega) dL_law_551 dL_law_552 ?_
  refine lv_aload_n S0.1 S0.2.1 dL_law_553 rfl (lv_at hl 1 rfl) ?_
  refine lv_iload S0.1 S0.2.1 dL_law_554 (lv_at hl 5 rfl) ?_
  refine lv_iconst (v := 2) S0.1 S0.2.1 dL_law_556 (by decide) ?_
  refine l_sld S0 hX hbl hbA hL hw1.1.1.2.2.1 (k := 2) rfl (by omega) dL_law_557 dL_law_558 ?_
  refine l_refi S0 hw1 (As := [.int (xs (8 * n + 1)), .int (xs (8 * n + 2))]) (rest := []) (wX9_follow l D Y am F (xs (8 * n + 1)) (xs (8 * n + 2)) σm) qyX9_follow kw_1427 ⟨Nat.le_of_ble_eq_true rfl, Nat.le_of_ble_eq_true rfl⟩ f2 rfl hl.1 (Nat.le_of_ble_eq_true rfl) dL_law_559 ⟨show cells + 2 ≤ 601024 by omega, show slots + 12 ≤ 7293034 by omega⟩ rfl (fun H locs hw2 => ?_)
  refine lv_istore (lv' := [(6, .int w), (5, .int ((fun e => if e = 0 then 0 else if e = 1 then 1 else if e = 2 then 2 else 0) ex)), (0, .ref b), (1, .ref (ad 0 0)), (2, .ref (am 0 0)), (3, .ref o), (4, .int (nI (8 * n)))]) S0.1 S0.2.1 dL_law_562 hl (by decide) rfl (fun ls hl => ?_)
  refine lv_aload_n S0.1 S0.2.1 dL_law_564 rfl (lv_at hl 4 rfl) ?_
  refine l_refi S0 hw2 (As := []) (rest := []) (wX9_thrown l D Y am F σm9) qyX9_thrown kw_1323 ⟨Nat.le_of_ble_eq_true rfl, Nat.le_of_ble_eq_true rfl⟩ f3 rfl hl.1 (Nat.le_of_ble_eq_true rfl) dL_law_565 ⟨show cells + 2 ≤ 601024 by omega, show slots + 12 ≤ 7293034 by omega⟩ rfl (fun H locs hw3 => ?_)
  refine lv_iload S0.1 S0.2.1 dL_law_568 (lv_at hl 1 rfl) ?_
  refine lv_icmp_eq (tgt := 575) S0.1 S0.2.1 dL_law_570 (by decide) (fun c1 => ?_) (fun c1 => absurd rfl c1)
  refine lv_iload S0.1 S0.2.1 dL_law_575 (lv_at hl 1 rfl) ?_
  refine lv_if_ne (tgt := 592) S0.1 S0.2.1 dL_law_577 (by decide) (fun c2 => ?_) (fun c2 => ?_)
  · refine lv_goto (tgt := 2620) S0.1 S0.2.1 dL_law_592 (by decide) ?_
    exact next ad9 σ9 σm9 _ _ _ ls _ _ hw3 h00 hok f5 (show cells + 2 ≤ 126 + 20 * (n + 1) + Φ σ9 by omega) (show slots + 12 ≤ 544257 + 130 * (n + 1) + 2 * Φ σ9 by omega) (lv_sub hl [2, 3, 4, 5, 6] rfl)
  · obtain ⟨rfl, rfl⟩ := f4 (Decidable.not_not.mp (fun h => h c2))
    refine lv_aload_n S0.1 S0.2.1 dL_law_580 rfl (lv_at hl 5 rfl) ?_
    refine lv_iconst (v := 0) S0.1 S0.2.1 dL_law_581 (by decide) ?_
    refine l_out0 S0 hw3 dL_law_582 ?_
    refine lv_iload S0.1 S0.2.1 dL_law_583 (lv_at hl 0 rfl) ?_
    refine lv_i2l (v := v.toInt64) S0.1 S0.2.1 dL_law_585 rfl ?_
    refine l_lcmp0 S0 (x := v.toInt64) dL_law_586 ?_
    refine lv_if_eq (tgt := 592) S0.1 S0.2.1 dL_law_587 (by decide) (fun c3 => ?_) (fun c3 => absurd rfl c3)
    refine lv_goto (tgt := 2620) S0.1 S0.2.1 dL_law_592 (by decide) ?_
    exact next ad9 σ9 σm9 _ _ _ ls _ _ hw3 h00 hok f5 (show cells + 2 ≤ 126 + 20 * (n + 1) + Φ σ9 by omega) (show slots + 12 ≤ 544257 + 130 * (n + 1) + 2 * Φ σ9 by omega) (lv_sub hl [2, 3, 4, 5, 6] rfl)
theorem qyX9_pass : qY yX9_pass RX9 cX9_pass 5 (some .int) 1 := ⟨⟨kw_1432, kw_1433, kw_11, kw_1434⟩, rfl, by decide, by decide, by decide +kernel⟩
set_option maxRecDepth 100000 in
set_option maxHeartbeats 4000000 in
theorem wLaw_pass {p : Program} {l : Launch} {e : Env} {s : State} {m : MethodId} {below : List Frame} {meth : Method} {c : Code} {Q : State → Prop} {D : va_G} {Y : Nat → ClassId} {am : qAd} {b L : Nat} {xs : Nat → Int32} {x0 o e0 F n : Nat} {I : Nat → qS → qS → Prop} {Φ : qS → Nat} (S0 : CallFix p m c cL_law 7 s #[.ref b] gws "LeasehallLaw") (hst : l.stackTraces = false) (hX : va_X b L xs s s.heap) (hbl : b < s.heap.size) (hL : L ≤ 4096) (hG : qG s.heap.size s s.heap) (hE : qE s.heap.size e0 s s.heap) (hNc : qNc s) (hΦ : ∀ n σ σm, I n σ σm → Φ σ ≤ 90000) (hc : cI_pass F I Φ) (hn : 8 * n + 8 ≤ L) (next : lNext p l e s m b below meth c Q D Y am x0 o e0 I Φ n (n + 1) 2620) : lNext p l e s m b below meth c Q D Y am x0 o e0 I Φ n n 595 := by
  intro ad σ σm g H locs ls cells slots hw h0 hok hI hcl hsl hl
  have hbA : ¬ lA s b := Nat.not_le.mpr hbl
  have hAB : ∀ q, lA s q → s.heap.size ≤ q := fun _ h => h
  have hn5 : n < 512 := by omega
  obtain ⟨v, ex, σ9, w, σm9, f1, f2, f3, f4, f5, f6⟩ := hc n σ σm (xs (8 * n + 1)) hn5 hI
  have hΦ9 := hΦ _ _ _ f5
  replace f6 : 0 + Φ σ ≤ Φ σ9 := f6
  subst h0
  refine lv_aload_n S0.1 S0.2.1 dL_law_595 rfl (lv_at hl 1 rfl) ?_
  refine lv_aload_n S0.1 S0.2.1 dL_law_596 rfl (lv_at hl 0 rfl) ?_
  refine lv_iload S0.1 S0.2.1 dL_law_597 (lv_at hl 4 rfl) ?_
  refine lv_iconst (v := 1) S0.1 S0.2.1 dL_law_599 (by decide) ?_
  refine l_sld S0 hX hbl hbA hL hw.1.1.2.2.1 (k := 1) rfl (by omega) dL_law_600 dL_law_601 ?_
  refine lv_aload_n S0.1 S0.2.1 dL_law_602 rfl (lv_at hl 3 rfl) ?_
  refine l_wrap (n := 3) S0 hG hE hNc hAB hok hw (As := [.ref (ad 0 0), .int (xs (8 * n + 1)), .ref o]) (rest := []) (wL_pass l hst D Y ad o g s.heap.size e0 F (xs (8 * n + 1)) σ) kw_715 kw_713 kw_714 kw_0 ⟨by decide, by decide, by decide +kernel⟩ ⟨Nat.le_of_ble_eq_true rfl, Nat.le_of_ble_eq_true rfl⟩ f1 rfl hl.1 (Nat.le_of_ble_eq_true rfl) dL_law_603 ⟨show cells + 1 ≤ 601024 by omega, show slots + 6 ≤ 7293034 by omega⟩ rfl (fun ad9 H locs hw1 h00 hok => ?_)
  replace h00 : ad9 0 0 = ad 0 0 := h00
  refine lv_istore (lv' := [(5, .int ((fun e => if e = 0 then 0 else if e = 2 then 1 else 0) ex)), (0, .ref b), (1, .ref (ad 0 0)), (2, .ref (am 0 0)), (3, .ref o), (4, .int (nI (8 * n)))]) S0.1 S0.2.1 dL_law_606 hl (by decide) rfl (fun ls hl => ?_)
  refine lv_aload_n S0.1 S0.2.1 dL_law_608 rfl (lv_at hl 3 rfl) ?_
  refine lv_aload_n S0.1 S0.2.1 dL_law_609 rfl (lv_at hl 1 rfl) ?_
  refine lv_iload S0.1 S0.2.1 dL_law_610 (lv_at hl 5 rfl) ?_
  refine lv_iconst (v := 1) S0.1 S0.2.1 dL_law_612 (by decide) ?_
  refine l_sld S0 hX hbl hbA hL hw1.1.1.2.2.1 (k := 1) rfl (by omega) dL_law_613 dL_law_614 ?_
  refine l_refi S0 hw1 (As := [.int (xs (8 * n + 1))]) (rest := []) (wX9_pass l D Y am F (xs (8 * n + 1)) σm) qyX9_pass kw_1431 ⟨Nat.le_of_ble_eq_true rfl, Nat.le_of_ble_eq_true rfl⟩ f2 rfl hl.1 (Nat.le_of_ble_eq_true rfl) dL_law_615 ⟨show cells + 1 ≤ 601024 by omega, show slots + 6 ≤ 7293034 by omega⟩ rfl (fun H locs hw2 => ?_)
  refine lv_istore (lv' := [(6, .int w), (5, .int ((fun e => if e = 0 then 0 else if e = 2 then 1 else 0) ex)), (0, .ref b), (1, .ref (ad 0 0)), (2, .ref (am 0 0)), (3, .ref o), (4, .int (nI (8 * n)))]) S0.1 S0.2.1 dL_law_618 hl (by decide) rfl (fun ls hl => ?_)
  refine lv_aload_n S0.1 S0.2.1 dL_law_620 rfl (lv_at hl 4 rfl) ?_
  refine l_refi S0 hw2 (As := []) (rest := []) (wX9_thrown l D Y am F σm9) qyX9_thrown kw_1323 ⟨Nat.le_of_ble_eq_true rfl, Nat.le_of_ble_eq_true rfl⟩ f3 rfl hl.1 (Nat.le_of_ble_eq_true rfl) dL_law_621 ⟨show cells + 1 ≤ 601024 by omega, show slots + 6 ≤ 7293034 by omega⟩ rfl (fun H locs hw3 => ?_)
  refine lv_iload S0.1 S0.2.1 dL_law_624 (lv_at hl 1 rfl) ?_
  refine lv_icmp_eq (tgt := 631) S0.1 S0.2.1 dL_law_626 (by decide) (fun c1 => ?_) (fun c1 => absurd rfl c1)
  refine lv_iload S0.1 S0.2.1 dL_law_631 (lv_at hl 1 rfl) ?_
  refine lv_if_ne (tgt := 648) S0.1 S0.2.1 dL_law_633 (by decide) (fun c2 => ?_) (fun c2 => ?_)
  · refine lv_goto (tgt := 2620) S0.1 S0.2.1 dL_law_648 (by decide) ?_
    exact next ad9 σ9 σm9 _ _ _ ls _ _ hw3 h00 hok f5 (show cells + 1 ≤ 126 + 20 * (n + 1) + Φ σ9 by omega) (show slots + 6 ≤ 544257 + 130 * (n + 1) + 2 * Φ σ9 by omega) (lv_sub hl [2, 3, 4, 5, 6] rfl)
  · obtain ⟨rfl, rfl⟩ := f4 (Decidable.not_not.mp (fun h => h c2))
    refine lv_aload_n S0.1 S0.2.1 dL_law_636 rfl (lv_at hl 5 rfl) ?_
    refine lv_iconst (v := 0) S0.1 S0.2.1 dL_law_637 (by decide) ?_
    refine l_out0 S0 hw3 dL_law_638 ?_
    refine lv_iload S0.1 S0.2.1 dL_law_639 (lv_at hl 0 rfl) ?_
    refine lv_i2l (v := v.toInt64) S0.1 S0.2.1 dL_law_641 rfl ?_
    refine l_lcmp0 S0 (x := v.toInt64) dL_law_642 ?_
    refine lv_if_eq (tgt := 648) S0.1 S0.2.1 dL_law_643 (by decide) (fun c3 => ?_) (fun c3 => absurd rfl c3)
    refine lv_goto (tgt := 2620) S0.1 S0.2.1 dL_law_648 (by decide) ?_
    exact next ad9 σ9 σm9 _ _ _ ls _ _ hw3 h00 hok f5 (show cells + 1 ≤ 126 + 20 * (n + 1) + Φ σ9 by omega) (show slots + 6 ≤ 544257 + 130 * (n + 1) + 2 * Φ σ9 by omega) (lv_sub hl [2, 3, 4, 5, 6] rfl)
theorem qyX9_lease : qY yX9_lease RX9 cX9_lease 2 (some .int) 1 := ⟨⟨kw_1436, kw_1437, kw_11, kw_1438⟩, rfl, by decide, by decide, by decide +kernel⟩
set_option maxRecDepth 100000 in
set_option maxHeartbeats 4000000 in
theorem wLaw_lease {p : Program} {l : Launch} {e : Env} {s : State} {m : MethodId} {below : List Frame} {meth : Method} {c : Code} {Q : State → Prop} {D : va_G} {Y : Nat → ClassId} {am : qAd} {b L : Nat} {xs : Nat → Int32} {x0 o e0 F n : Nat} {I : Nat → qS → qS → Prop} {Φ : qS → Nat} (S0 : CallFix p m c cL_law 7 s #[.ref b] gws "LeasehallLaw") (hst : l.stackTraces = false) (hX : va_X b L xs s s.heap) (hbl : b < s.heap.size) (hL : L ≤ 4096) (hG : qG s.heap.size s s.heap) (hE : qE s.heap.size e0 s s.heap) (hNc : qNc s) (hΦ : ∀ n σ σm, I n σ σm → Φ σ ≤ 90000) (hc : cI_lease F I Φ) (hn : 8 * n + 8 ≤ L) (next : lNext p l e s m b below meth c Q D Y am x0 o e0 I Φ n (n + 1) 2620) : lNext p l e s m b below meth c Q D Y am x0 o e0 I Φ n n 651 := by
  intro ad σ σm g H locs ls cells slots hw h0 hok hI hcl hsl hl
  have hbA : ¬ lA s b := Nat.not_le.mpr hbl
  have hAB : ∀ q, lA s q → s.heap.size ≤ q := fun _ h => h
  have hn5 : n < 512 := by omega
  obtain ⟨v, ex, σ9, w, σm9, f1, f2, f3, f4, f5, f6⟩ := hc n σ σm (xs (8 * n + 1)) hn5 hI
  have hΦ9 := hΦ _ _ _ f5
  replace f6 : 0 + Φ σ ≤ Φ σ9 := f6
  subst h0
  refine lv_aload_n S0.1 S0.2.1 dL_law_651 rfl (lv_at hl 1 rfl) ?_
  refine lv_aload_n S0.1 S0.2.1 dL_law_652 rfl (lv_at hl 0 rfl) ?_
  refine lv_iload S0.1 S0.2.1 dL_law_653 (lv_at hl 4 rfl) ?_
  refine lv_iconst (v := 1) S0.1 S0.2.1 dL_law_655 (by decide) ?_
  refine l_sld S0 hX hbl hbA hL hw.1.1.2.2.1 (k := 1) rfl (by omega) dL_law_656 dL_law_657 ?_
  refine lv_aload_n S0.1 S0.2.1 dL_law_658 rfl (lv_at hl 3 rfl) ?_
  refine l_wrap (n := 3) S0 hG hE hNc hAB hok hw (As := [.ref (ad 0 0), .int (xs (8 * n + 1)), .ref o]) (rest := []) (wL_lease l hst D Y ad o g s.heap.size e0 F (xs (8 * n + 1)) σ) kw_732 kw_730 kw_731 kw_0 ⟨by decide, by decide, by decide +kernel⟩ ⟨Nat.le_of_ble_eq_true rfl, Nat.le_of_ble_eq_true rfl⟩ f1 rfl hl.1 (Nat.le_of_ble_eq_true rfl) dL_law_659 ⟨show cells + 2 ≤ 601024 by omega, show slots + 13 ≤ 7293034 by omega⟩ rfl (fun ad9 H locs hw1 h00 hok => ?_)
  replace h00 : ad9 0 0 = ad 0 0 := h00
  refine lv_istore (lv' := [(5, .int ((fun e => if e = 0 then 0 else if e = 2 then 1 else if e = 3 then 2 else 0) ex)), (0, .ref b), (1, .ref (ad 0 0)), (2, .ref (am 0 0)), (3, .ref o), (4, .int (nI (8 * n)))]) S0.1 S0.2.1 dL_law_662 hl (by decide) rfl (fun ls hl => ?_)
  refine lv_aload_n S0.1 S0.2.1 dL_law_664 rfl (lv_at hl 3 rfl) ?_
  refine lv_aload_n S0.1 S0.2.1 dL_law_665 rfl (lv_at hl 1 rfl) ?_
  refine lv_iload S0.1 S0.2.1 dL_law_666 (lv_at hl 5 rfl) ?_
  refine lv_iconst (v := 1) S0.1 S0.2.1 dL_law_668 (by decide) ?_
  refine l_sld S0 hX hbl hbA hL hw1.1.1.2.2.1 (k := 1) rfl (by omega) dL_law_669 dL_law_670 ?_
  refine l_refi S0 hw1 (As := [.int (xs (8 * n + 1))]) (rest := []) (wX9_lease l D Y am F (xs (8 * n + 1)) σm) qyX9_lease kw_1435 ⟨Nat.le_of_ble_eq_true rfl, Nat.le_of_ble_eq_true rfl⟩ f2 rfl hl.1 (Nat.le_of_ble_eq_true rfl) dL_law_671 ⟨show cells + 2 ≤ 601024 by omega, show slots + 13 ≤ 7293034 by omega⟩ rfl (fun H locs hw2 => ?_)
  refine lv_istore (lv' := [(6, .int w), (5, .int ((fun e => if e = 0 then 0 else if e = 2 then 1 else if e = 3 then 2 else 0) ex)), (0, .ref b), (1, .ref (ad 0 0)), (2, .ref (am 0 0)), (3, .ref o), (4, .int (nI (8 * n)))]) S0.1 S0.2.1 dL_law_674 hl (by decide) rfl (fun ls hl => ?_)
  refine lv_aload_n S0.1 S0.2.1 dL_law_676 rfl (lv_at hl 4 rfl) ?_
  refine l_refi S0 hw2 (As := []) (rest := []) (wX9_thrown l D Y am F σm9) qyX9_thrown kw_1323 ⟨Nat.le_of_ble_eq_true rfl, Nat.le_of_ble_eq_true rfl⟩ f3 rfl hl.1 (Nat.le_of_ble_eq_true rfl) dL_law_677 ⟨show cells + 2 ≤ 601024 by omega, show slots + 13 ≤ 7293034 by omega⟩ rfl (fun H locs hw3 => ?_)
  refine lv_iload S0.1 S0.2.1 dL_law_680 (lv_at hl 1 rfl) ?_
  refine lv_icmp_eq (tgt := 687) S0.1 S0.2.1 dL_law_682 (by decide) (fun c1 => ?_) (fun c1 => absurd rfl c1)
  refine lv_iload S0.1 S0.2.1 dL_law_687 (lv_at hl 1 rfl) ?_
  refine lv_if_ne (tgt := 704) S0.1 S0.2.1 dL_law_689 (by decide) (fun c2 => ?_) (fun c2 => ?_)
  · refine lv_goto (tgt := 2620) S0.1 S0.2.1 dL_law_704 (by decide) ?_
    exact next ad9 σ9 σm9 _ _ _ ls _ _ hw3 h00 hok f5 (show cells + 2 ≤ 126 + 20 * (n + 1) + Φ σ9 by omega) (show slots + 13 ≤ 544257 + 130 * (n + 1) + 2 * Φ σ9 by omega) (lv_sub hl [2, 3, 4, 5, 6] rfl)
  · obtain ⟨rfl, rfl⟩ := f4 (Decidable.not_not.mp (fun h => h c2))
    refine lv_aload_n S0.1 S0.2.1 dL_law_692 rfl (lv_at hl 5 rfl) ?_
    refine lv_iconst (v := 0) S0.1 S0.2.1 dL_law_693 (by decide) ?_
    refine l_out0 S0 hw3 dL_law_694 ?_
    refine lv_iload S0.1 S0.2.1 dL_law_695 (lv_at hl 0 rfl) ?_
    refine lv_i2l (v := v.toInt64) S0.1 S0.2.1 dL_law_697 rfl ?_
    refine l_lcmp0 S0 (x := v.toInt64) dL_law_698 ?_
    refine lv_if_eq (tgt := 704) S0.1 S0.2.1 dL_law_699 (by decide) (fun c3 => ?_) (fun c3 => absurd rfl c3)
    refine lv_goto (tgt := 2620) S0.1 S0.2.1 dL_law_704 (by decide) ?_
    exact next ad9 σ9 σm9 _ _ _ ls _ _ hw3 h00 hok f5 (show cells + 2 ≤ 126 + 20 * (n + 1) + Φ σ9 by omega) (show slots + 13 ≤ 544257 + 130 * (n + 1) + 2 * Φ σ9 by omega) (lv_sub hl [2, 3, 4, 5, 6] rfl)
theorem qyX9_renew : qY yX9_renew RX9 cX9_renew 2 (some .int) 1 := ⟨⟨kw_1440, kw_1441, kw_11, kw_1442⟩, rfl, by decide, by decide, by decide +kernel⟩
set_option maxRecDepth 100000 in
set_option maxHeartbeats 4000000 in
theorem wLaw_renew {p : Program} {l : Launch} {e : Env} {s : State} {m : MethodId} {below : List Frame} {meth : Method} {c : Code} {Q : State → Prop} {D : va_G} {Y : Nat → ClassId} {am : qAd} {b L : Nat} {xs : Nat → Int32} {x0 o e0 F n : Nat} {I : Nat → qS → qS → Prop} {Φ : qS → Nat} (S0 : CallFix p m c cL_law 7 s #[.ref b] gws "LeasehallLaw") (hst : l.stackTraces = false) (hX : va_X b L xs s s.heap) (hbl : b < s.heap.size) (hL : L ≤ 4096) (hG : qG s.heap.size s s.heap) (hE : qE s.heap.size e0 s s.heap) (hNc : qNc s) (hΦ : ∀ n σ σm, I n σ σm → Φ σ ≤ 90000) (hc : cI_renew F I Φ) (hn : 8 * n + 8 ≤ L) (next : lNext p l e s m b below meth c Q D Y am x0 o e0 I Φ n (n + 1) 2620) : lNext p l e s m b below meth c Q D Y am x0 o e0 I Φ n n 707 := by
  intro ad σ σm g H locs ls cells slots hw h0 hok hI hcl hsl hl
  have hbA : ¬ lA s b := Nat.not_le.mpr hbl
  have hAB : ∀ q, lA s q → s.heap.size ≤ q := fun _ h => h
  have hn5 : n < 512 := by omega
  obtain ⟨v, ex, σ9, w, σm9, f1, f2, f3, f4, f5, f6⟩ := hc n σ σm (xs (8 * n + 1)) hn5 hI
  have hΦ9 := hΦ _ _ _ f5
  replace f6 : 0 + Φ σ ≤ Φ σ9 := f6
  subst h0
  refine lv_aload_n S0.1 S0.2.1 dL_law_707 rfl (lv_at hl 1 rfl) ?_
  refine lv_aload_n S0.1 S0.2.1 dL_law_708 rfl (lv_at hl 0 rfl) ?_
  refine lv_iload S0.1 S0.2.1 dL_law_709 (lv_at hl 4 rfl) ?_
  refine lv_iconst (v := 1) S0.1 S0.2.1 dL_law_711 (by decide) ?_
  refine l_sld S0 hX hbl hbA hL hw.1.1.2.2.1 (k := 1) rfl (by omega) dL_law_712 dL_law_713 ?_
  refine lv_aload_n S0.1 S0.2.1 dL_law_714 rfl (lv_at hl 3 rfl) ?_
  refine l_wrap (n := 3) S0 hG hE hNc hAB hok hw (As := [.ref (ad 0 0), .int (xs (8 * n + 1)), .ref o]) (rest := []) (wL_renew l hst D Y ad o g s.heap.size e0 F (xs (8 * n + 1)) σ) kw_758 kw_756 kw_757 kw_0 ⟨by decide, by decide, by decide +kernel⟩ ⟨Nat.le_of_ble_eq_true rfl, Nat.le_of_ble_eq_true rfl⟩ f1 rfl hl.1 (Nat.le_of_ble_eq_true rfl) dL_law_715 ⟨show cells + 2 ≤ 601024 by omega, show slots + 12 ≤ 7293034 by omega⟩ rfl (fun ad9 H locs hw1 h00 hok => ?_)
  replace h00 : ad9 0 0 = ad 0 0 := h00
  refine lv_istore (lv' := [(5, .int ((fun e => if e = 0 then 0 else if e = 1 then 1 else if e = 3 then 2 else 0) ex)), (0, .ref b), (1, .ref (ad 0 0)), (2, .ref (am 0 0)), (3, .ref o), (4, .int (nI (8 * n)))]) S0.1 S0.2.1 dL_law_718 hl (by decide) rfl (fun ls hl => ?_)
  refine lv_aload_n S0.1 S0.2.1 dL_law_720 rfl (lv_at hl 3 rfl) ?_
  refine lv_aload_n S0.1 S0.2.1 dL_law_721 rfl (lv_at hl 1 rfl) ?_
  refine lv_iload S0.1 S0.2.1 dL_law_722 (lv_at hl 5 rfl) ?_
  refine lv_iconst (v := 1) S0.1 S0.2.1 dL_law_724 (by decide) ?_
  refine l_sld S0 hX hbl hbA hL hw1.1.1.2.2.1 (k := 1) rfl (by omega) dL_law_725 dL_law_726 ?_
  refine l_refi S0 hw1 (As := [.int (xs (8 * n + 1))]) (rest := []) (wX9_renew l D Y am F (xs (8 * n + 1)) σm) qyX9_renew kw_1439 ⟨Nat.le_of_ble_eq_true rfl, Nat.le_of_ble_eq_true rfl⟩ f2 rfl hl.1 (Nat.le_of_ble_eq_true rfl) dL_law_727 ⟨show cells + 2 ≤ 601024 by omega, show slots + 12 ≤ 7293034 by omega⟩ rfl (fun H locs hw2 => ?_)
  refine lv_istore (lv' := [(6, .int w), (5, .int ((fun e => if e = 0 then 0 else if e = 1 then 1 else if e = 3 then 2 else 0) ex)), (0, .ref b), (1, .ref (ad 0 0)), (2, .ref (am 0 0)), (3, .ref o), (4, .int (nI (8 * n)))]) S0.1 S0.2.1 dL_law_730 hl (by decide) rfl (fun ls hl => ?_)
  refine lv_aload_n S0.1 S0.2.1 dL_law_732 rfl (lv_at hl 4 rfl) ?_
  refine l_refi S0 hw2 (As := []) (rest := []) (wX9_thrown l D Y am F σm9) qyX9_thrown kw_1323 ⟨Nat.le_of_ble_eq_true rfl, Nat.le_of_ble_eq_true rfl⟩ f3 rfl hl.1 (Nat.le_of_ble_eq_true rfl) dL_law_733 ⟨show cells + 2 ≤ 601024 by omega, show slots + 12 ≤ 7293034 by omega⟩ rfl (fun H locs hw3 => ?_)
  refine lv_iload S0.1 S0.2.1 dL_law_736 (lv_at hl 1 rfl) ?_
  refine lv_icmp_eq (tgt := 743) S0.1 S0.2.1 dL_law_738 (by decide) (fun c1 => ?_) (fun c1 => absurd rfl c1)
  refine lv_iload S0.1 S0.2.1 dL_law_743 (lv_at hl 1 rfl) ?_
  refine lv_if_ne (tgt := 760) S0.1 S0.2.1 dL_law_745 (by decide) (fun c2 => ?_) (fun c2 => ?_)
  · refine lv_goto (tgt := 2620) S0.1 S0.2.1 dL_law_760 (by decide) ?_
    exact next ad9 σ9 σm9 _ _ _ ls _ _ hw3 h00 hok f5 (show cells + 2 ≤ 126 + 20 * (n + 1) + Φ σ9 by omega) (show slots + 12 ≤ 544257 + 130 * (n + 1) + 2 * Φ σ9 by omega) (lv_sub hl [2, 3, 4, 5, 6] rfl)
  · obtain ⟨rfl, rfl⟩ := f4 (Decidable.not_not.mp (fun h => h c2))
    refine lv_aload_n S0.1 S0.2.1 dL_law_748 rfl (lv_at hl 5 rfl) ?_
    refine lv_iconst (v := 0) S0.1 S0.2.1 dL_law_749 (by decide) ?_
    refine l_out0 S0 hw3 dL_law_750 ?_
    refine lv_iload S0.1 S0.2.1 dL_law_751 (lv_at hl 0 rfl) ?_
    refine lv_i2l (v := v.toInt64) S0.1 S0.2.1 dL_law_753 rfl ?_
    refine l_lcmp0 S0 (x := v.toInt64) dL_law_754 ?_
    refine lv_if_eq (tgt := 760) S0.1 S0.2.1 dL_law_755 (by decide) (fun c3 => ?_) (fun c3 => absurd rfl c3)
    refine lv_goto (tgt := 2620) S0.1 S0.2.1 dL_law_760 (by decide) ?_
    exact next ad9 σ9 σm9 _ _ _ ls _ _ hw3 h00 hok f5 (show cells + 2 ≤ 126 + 20 * (n + 1) + Φ σ9 by omega) (show slots + 12 ≤ 544257 + 130 * (n + 1) + 2 * Φ σ9 by omega) (lv_sub hl [2, 3, 4, 5, 6] rfl)
theorem qyX9_make : qY yX9_make RX9 cX9_make 10 (some .int) 7 := ⟨⟨kw_1444, kw_1445, kw_11, kw_1446⟩, rfl, by decide, by decide, by decide +kernel⟩
set_option maxRecDepth 100000 in
set_option maxHeartbeats 4000000 in
theorem wLaw_make {p : Program} {l : Launch} {e : Env} {s : State} {m : MethodId} {below : List Frame} {meth : Method} {c : Code} {Q : State → Prop} {D : va_G} {Y : Nat → ClassId} {am : qAd} {b L : Nat} {xs : Nat → Int32} {x0 o e0 F n : Nat} {I : Nat → qS → qS → Prop} {Φ : qS → Nat} (S0 : CallFix p m c cL_law 7 s #[.ref b] gws "LeasehallLaw") (hst : l.stackTraces = false) (hX : va_X b L xs s s.heap) (hbl : b < s.heap.size) (hL : L ≤ 4096) (hG : qG s.heap.size s s.heap) (hE : qE s.heap.size e0 s s.heap) (hNc : qNc s) (hΦ : ∀ n σ σm, I n σ σm → Φ σ ≤ 90000) (hc : cI_make F I Φ) (hn : 8 * n + 8 ≤ L) (next : lNext p l e s m b below meth c Q D Y am x0 o e0 I Φ n (n + 1) 2620) : lNext p l e s m b below meth c Q D Y am x0 o e0 I Φ n n 763 := by
  intro ad σ σm g H locs ls cells slots hw h0 hok hI hcl hsl hl
  have hbA : ¬ lA s b := Nat.not_le.mpr hbl
  have hAB : ∀ q, lA s q → s.heap.size ≤ q := fun _ h => h
  have hn5 : n < 512 := by omega
  obtain ⟨v, ex, σ9, w, σm9, f1, f2, f3, f4, f5, f6⟩ := hc n σ σm (xs (8 * n + 1)) (xs (8 * n + 2)) (xs (8 * n + 3)) (if xs (8 * n + 4) = 0 then 0 else 1) (xs (8 * n + 5)) (xs (8 * n + 6)) (xs (8 * n + 7)) hn5 hI (by by_cases c9 : xs (8 * n + 4) = 0 <;> simp [c9])
  have hΦ9 := hΦ _ _ _ f5
  replace f6 : 0 + Φ σ ≤ Φ σ9 := f6
  subst h0
  refine lv_aload_n S0.1 S0.2.1 dL_law_763 rfl (lv_at hl 1 rfl) ?_
  refine lv_aload_n S0.1 S0.2.1 dL_law_764 rfl (lv_at hl 0 rfl) ?_
  refine lv_iload S0.1 S0.2.1 dL_law_765 (lv_at hl 4 rfl) ?_
  refine lv_iconst (v := 1) S0.1 S0.2.1 dL_law_767 (by decide) ?_
  refine l_sld S0 hX hbl hbA hL hw.1.1.2.2.1 (k := 1) rfl (by omega) dL_law_768 dL_law_769 ?_
  refine lv_aload_n S0.1 S0.2.1 dL_law_770 rfl (lv_at hl 0 rfl) ?_
  refine lv_iload S0.1 S0.2.1 dL_law_771 (lv_at hl 4 rfl) ?_
  refine lv_iconst (v := 2) S0.1 S0.2.1 dL_law_773 (by decide) ?_
  refine l_sld S0 hX hbl hbA hL hw.1.1.2.2.1 (k := 2) rfl (by omega) dL_law_774 dL_law_775 ?_
  refine lv_aload_n S0.1 S0.2.1 dL_law_776 rfl (lv_at hl 0 rfl) ?_
  refine lv_iload S0.1 S0.2.1 dL_law_777 (lv_at hl 4 rfl) ?_
  refine lv_iconst (v := 3) S0.1 S0.2.1 dL_law_779 (by decide) ?_
  refine l_sld S0 hX hbl hbA hL hw.1.1.2.2.1 (k := 3) rfl (by omega) dL_law_780 dL_law_781 ?_
  refine lv_aload_n S0.1 S0.2.1 dL_law_782 rfl (lv_at hl 0 rfl) ?_
  refine lv_iload S0.1 S0.2.1 dL_law_783 (lv_at hl 4 rfl) ?_
  refine lv_iconst (v := 4) S0.1 S0.2.1 dL_law_785 (by decide) ?_
  refine l_sld S0 hX hbl hbA hL hw.1.1.2.2.1 (k := 4) rfl (by omega) dL_law_786 dL_law_787 ?_
  refine l_bool S0 (t := 795) dL_law_788 dL_law_791 dL_law_792 dL_law_795 rfl ?_
  refine lv_aload_n S0.1 S0.2.1 dL_law_796 rfl (lv_at hl 0 rfl) ?_
  refine lv_iload S0.1 S0.2.1 dL_law_797 (lv_at hl 4 rfl) ?_
  refine lv_iconst (v := 5) S0.1 S0.2.1 dL_law_799 (by decide) ?_
  refine l_sld S0 hX hbl hbA hL hw.1.1.2.2.1 (k := 5) rfl (by omega) dL_law_800 dL_law_801 ?_
  refine lv_aload_n S0.1 S0.2.1 dL_law_802 rfl (lv_at hl 0 rfl) ?_
  refine lv_iload S0.1 S0.2.1 dL_law_803 (lv_at hl 4 rfl) ?_
  refine lv_bipush (v := 6) S0.1 S0.2.1 dL_law_805 (by decide) ?_
  refine l_sld S0 hX hbl hbA hL hw.1.1.2.2.1 (k := 6) rfl (by omega) dL_law_807 dL_law_808 ?_
  refine lv_aload_n S0.1 S0.2.1 dL_law_809 rfl (lv_at hl 0 rfl) ?_
  refine lv_iload S0.1 S0.2.1 dL_law_810 (lv_at hl 4 rfl) ?_
  refine lv_bipush (v := 7) S0.1 S0.2.1 dL_law_812 (by decide) ?_
  refine l_sld S0 hX hbl hbA hL hw.1.1.2.2.1 (k := 7) rfl (by omega) dL_law_814 dL_law_815 ?_
  refine lv_aload_n S0.1 S0.2.1 dL_law_816 rfl (lv_at hl 3 rfl) ?_
  refine l_wrap (n := 9) S0 hG hE hNc hAB hok hw (As := [.ref (ad 0 0), .int (xs (8 * n + 1)), .int (xs (8 * n + 2)), .int (xs (8 * n + 3)), .int (if xs (8 * n + 4) = 0 then 0 else 1), .int (xs (8 * n + 5)), .int (xs (8 * n + 6)), .int (xs (8 * n + 7)), .ref o]) (rest := []) (wL_make l hst D Y ad o g s.heap.size e0 F (xs (8 * n + 1)) (xs (8 * n + 2)) (xs (8 * n + 3)) (if xs (8 * n + 4) = 0 then 0 else 1) (xs (8 * n + 5)) (xs (8 * n + 6)) (xs (8 * n + 7)) σ) kw_771 kw_769 kw_770 kw_0 ⟨by decide, by decide, by decide +kernel⟩ ⟨Nat.le_of_ble_eq_true rfl, Nat.le_of_ble_eq_true rfl⟩ f1 rfl hl.1 (Nat.le_of_ble_eq_true rfl) dL_law_817 ⟨show cells + 7 ≤ 601024 by omega, show slots + 42 ≤ 7293034 by omega⟩ rfl (fun ad9 H locs hw1 h00 hok => ?_)
  replace h00 : ad9 0 0 = ad 0 0 := h00
  refine lv_istore (lv' := [(5, .int ((fun e => if e = 0 then 0 else if e = 1 then 1 else if e = 2 then 2 else if e = 3 then 3 else 0) ex)), (0, .ref b), (1, .ref (ad 0 0)), (2, .ref (am 0 0)), (3, .ref o), (4, .int (nI (8 * n)))]) S0.1 S0.2.1 dL_law_820 hl (by decide) rfl (fun ls hl => ?_)
  refine lv_aload_n S0.1 S0.2.1 dL_law_822 rfl (lv_at hl 3 rfl) ?_
  refine lv_aload_n S0.1 S0.2.1 dL_law_823 rfl (lv_at hl 1 rfl) ?_
  refine lv_iload S0.1 S0.2.1 dL_law_824 (lv_at hl 5 rfl) ?_
  refine lv_iconst (v := 1) S0.1 S0.2.1 dL_law_826 (by decide) ?_
  refine l_sld S0 hX hbl hbA hL hw1.1.1.2.2.1 (k := 1) rfl (by omega) dL_law_827 dL_law_828 ?_
  refine lv_aload_n S0.1 S0.2.1 dL_law_829 rfl (lv_at hl 1 rfl) ?_
  refine lv_iload S0.1 S0.2.1 dL_law_830 (lv_at hl 5 rfl) ?_
  refine lv_iconst (v := 2) S0.1 S0.2.1 dL_law_832 (by decide) ?_
  refine l_sld S0 hX hbl hbA hL hw1.1.1.2.2.1 (k := 2) rfl (by omega) dL_law_833 dL_law_834 ?_
  refine lv_aload_n S0.1 S0.2.1 dL_law_835 rfl (lv_at hl 1 rfl) ?_
  refine lv_iload S0.1 S0.2.1 dL_law_836 (lv_at hl 5 rfl) ?_
  refine lv_iconst (v := 3) S0.1 S0.2.1 dL_law_838 (by decide) ?_
  refine l_sld S0 hX hbl hbA hL hw1.1.1.2.2.1 (k := 3) rfl (by omega) dL_law_839 dL_law_840 ?_
  refine lv_aload_n S0.1 S0.2.1 dL_law_841 rfl (lv_at hl 1 rfl) ?_
  refine lv_iload S0.1 S0.2.1 dL_law_842 (lv_at hl 5 rfl) ?_
  refine lv_iconst (v := 4) S0.1 S0.2.1 dL_law_844 (by decide) ?_
  refine l_sld S0 hX hbl hbA hL hw1.1.1.2.2.1 (k := 4) rfl (by omega) dL_law_845 dL_law_846 ?_
  refine l_bool S0 (t := 854) dL_law_847 dL_law_850 dL_law_851 dL_law_854 rfl ?_
  refine lv_aload_n S0.1 S0.2.1 dL_law_855 rfl (lv_at hl 1 rfl) ?_
  refine lv_iload S0.1 S0.2.1 dL_law_856 (lv_at hl 5 rfl) ?_
  refine lv_iconst (v := 5) S0.1 S0.2.1 dL_law_858 (by decide) ?_
  refine l_sld S0 hX hbl hbA hL hw1.1.1.2.2.1 (k := 5) rfl (by omega) dL_law_859 dL_law_860 ?_
  refine lv_aload_n S0.1 S0.2.1 dL_law_861 rfl (lv_at hl 1 rfl) ?_
  refine lv_iload S0.1 S0.2.1 dL_law_862 (lv_at hl 5 rfl) ?_
  refine lv_bipush (v := 6) S0.1 S0.2.1 dL_law_864 (by decide) ?_
  refine l_sld S0 hX hbl hbA hL hw1.1.1.2.2.1 (k := 6) rfl (by omega) dL_law_866 dL_law_867 ?_
  refine lv_aload_n S0.1 S0.2.1 dL_law_868 rfl (lv_at hl 1 rfl) ?_
  refine lv_iload S0.1 S0.2.1 dL_law_869 (lv_at hl 5 rfl) ?_
  refine lv_bipush (v := 7) S0.1 S0.2.1 dL_law_871 (by decide) ?_
  refine l_sld S0 hX hbl hbA hL hw1.1.1.2.2.1 (k := 7) rfl (by omega) dL_law_873 dL_law_874 ?_
  refine l_refi S0 hw1 (As := [.int (xs (8 * n + 1)), .int (xs (8 * n + 2)), .int (xs (8 * n + 3)), .int (if xs (8 * n + 4) = 0 then 0 else 1), .int (xs (8 * n + 5)), .int (xs (8 * n + 6)), .int (xs (8 * n + 7))]) (rest := []) (wX9_make l D Y am F (xs (8 * n + 1)) (xs (8 * n + 2)) (xs (8 * n + 3)) (if xs (8 * n + 4) = 0 then 0 else 1) (xs (8 * n + 5)) (xs (8 * n + 6)) (xs (8 * n + 7)) σm) qyX9_make kw_1443 ⟨Nat.le_of_ble_eq_true rfl, Nat.le_of_ble_eq_true rfl⟩ f2 rfl hl.1 (Nat.le_of_ble_eq_true rfl) dL_law_875 ⟨show cells + 7 ≤ 601024 by omega, show slots + 42 ≤ 7293034 by omega⟩ rfl (fun H locs hw2 => ?_)
  refine lv_istore (lv' := [(6, .int w), (5, .int ((fun e => if e = 0 then 0 else if e = 1 then 1 else if e = 2 then 2 else if e = 3 then 3 else 0) ex)), (0, .ref b), (1, .ref (ad 0 0)), (2, .ref (am 0 0)), (3, .ref o), (4, .int (nI (8 * n)))]) S0.1 S0.2.1 dL_law_878 hl (by decide) rfl (fun ls hl => ?_)
  refine lv_aload_n S0.1 S0.2.1 dL_law_880 rfl (lv_at hl 4 rfl) ?_
  refine l_refi S0 hw2 (As := []) (rest := []) (wX9_thrown l D Y am F σm9) qyX9_thrown kw_1323 ⟨Nat.le_of_ble_eq_true rfl, Nat.le_of_ble_eq_true rfl⟩ f3 rfl hl.1 (Nat.le_of_ble_eq_true rfl) dL_law_881 ⟨show cells + 7 ≤ 601024 by omega, show slots + 42 ≤ 7293034 by omega⟩ rfl (fun H locs hw3 => ?_)
  refine lv_iload S0.1 S0.2.1 dL_law_884 (lv_at hl 1 rfl) ?_
  refine lv_icmp_eq (tgt := 891) S0.1 S0.2.1 dL_law_886 (by decide) (fun c1 => ?_) (fun c1 => absurd rfl c1)
  refine lv_iload S0.1 S0.2.1 dL_law_891 (lv_at hl 1 rfl) ?_
  refine lv_if_ne (tgt := 908) S0.1 S0.2.1 dL_law_893 (by decide) (fun c2 => ?_) (fun c2 => ?_)
  · refine lv_goto (tgt := 2620) S0.1 S0.2.1 dL_law_908 (by decide) ?_
    exact next ad9 σ9 σm9 _ _ _ ls _ _ hw3 h00 hok f5 (show cells + 7 ≤ 126 + 20 * (n + 1) + Φ σ9 by omega) (show slots + 42 ≤ 544257 + 130 * (n + 1) + 2 * Φ σ9 by omega) (lv_sub hl [2, 3, 4, 5, 6] rfl)
  · obtain ⟨rfl, rfl⟩ := f4 (Decidable.not_not.mp (fun h => h c2))
    refine lv_aload_n S0.1 S0.2.1 dL_law_896 rfl (lv_at hl 5 rfl) ?_
    refine lv_iconst (v := 0) S0.1 S0.2.1 dL_law_897 (by decide) ?_
    refine l_out0 S0 hw3 dL_law_898 ?_
    refine lv_iload S0.1 S0.2.1 dL_law_899 (lv_at hl 0 rfl) ?_
    refine lv_i2l (v := v.toInt64) S0.1 S0.2.1 dL_law_901 rfl ?_
    refine l_lcmp0 S0 (x := v.toInt64) dL_law_902 ?_
    refine lv_if_eq (tgt := 908) S0.1 S0.2.1 dL_law_903 (by decide) (fun c3 => ?_) (fun c3 => absurd rfl c3)
    refine lv_goto (tgt := 2620) S0.1 S0.2.1 dL_law_908 (by decide) ?_
    exact next ad9 σ9 σm9 _ _ _ ls _ _ hw3 h00 hok f5 (show cells + 7 ≤ 126 + 20 * (n + 1) + Φ σ9 by omega) (show slots + 42 ≤ 544257 + 130 * (n + 1) + 2 * Φ σ9 by omega) (lv_sub hl [2, 3, 4, 5, 6] rfl)
theorem qyX9_set : qY yX9_set RX9 cX9_set 5 (some .int) 4 := ⟨⟨kw_1508, kw_1509, kw_11, kw_1510⟩, rfl, by decide, by decide, by decide +kernel⟩
set_option maxRecDepth 100000 in
set_option maxHeartbeats 4000000 in
theorem wLaw_set {p : Program} {l : Launch} {e : Env} {s : State} {m : MethodId} {below : List Frame} {meth : Method} {c : Code} {Q : State → Prop} {D : va_G} {Y : Nat → ClassId} {am : qAd} {b L : Nat} {xs : Nat → Int32} {x0 o e0 F n : Nat} {I : Nat → qS → qS → Prop} {Φ : qS → Nat} (S0 : CallFix p m c cL_law 7 s #[.ref b] gws "LeasehallLaw") (hst : l.stackTraces = false) (hX : va_X b L xs s s.heap) (hbl : b < s.heap.size) (hL : L ≤ 4096) (hG : qG s.heap.size s s.heap) (hE : qE s.heap.size e0 s s.heap) (hNc : qNc s) (hΦ : ∀ n σ σm, I n σ σm → Φ σ ≤ 90000) (hc : cI_set F I Φ) (hn : 8 * n + 8 ≤ L) (next : lNext p l e s m b below meth c Q D Y am x0 o e0 I Φ n (n + 1) 2620) : lNext p l e s m b below meth c Q D Y am x0 o e0 I Φ n n 911 := by
  intro ad σ σm g H locs ls cells slots hw h0 hok hI hcl hsl hl
  have hbA : ¬ lA s b := Nat.not_le.mpr hbl
  have hAB : ∀ q, lA s q → s.heap.size ≤ q := fun _ h => h
  have hn5 : n < 512 := by omega
  obtain ⟨v, ex, σ9, w, σm9, f1, f2, f3, f4, f5, f6⟩ := hc n σ σm (xs (8 * n + 1)) (xs (8 * n + 2)) (xs (8 * n + 3)) (xs (8 * n + 4)) hn5 hI
  have hΦ9 := hΦ _ _ _ f5
  replace f6 : 0 + Φ σ ≤ Φ σ9 := f6
  subst h0
  refine lv_aload_n S0.1 S0.2.1 dL_law_911 rfl (lv_at hl 1 rfl) ?_
  refine lv_aload_n S0.1 S0.2.1 dL_law_912 rfl (lv_at hl 0 rfl) ?_
  refine lv_iload S0.1 S0.2.1 dL_law_913 (lv_at hl 4 rfl) ?_
  refine lv_iconst (v := 1) S0.1 S0.2.1 dL_law_915 (by decide) ?_
  refine l_sld S0 hX hbl hbA hL hw.1.1.2.2.1 (k := 1) rfl (by omega) dL_law_916 dL_law_917 ?_
  refine lv_aload_n S0.1 S0.2.1 dL_law_918 rfl (lv_at hl 0 rfl) ?_
  refine lv_iload S0.1 S0.2.1 dL_law_919 (lv_at hl 4 rfl) ?_
  refine lv_iconst (v := 2) S0.1 S0.2.1 dL_law_921 (by decide) ?_
  refine l_sld S0 hX hbl hbA hL hw.1.1.2.2.1 (k := 2) rfl (by omega) dL_law_922 dL_law_923 ?_
  refine lv_aload_n S0.1 S0.2.1 dL_law_924 rfl (lv_at hl 0 rfl) ?_
  refine lv_iload S0.1 S0.2.1 dL_law_925 (lv_at hl 4 rfl) ?_
  refine lv_iconst (v := 3) S0.1 S0.2.1 dL_law_927 (by decide) ?_
  refine l_sld S0 hX hbl hbA hL hw.1.1.2.2.1 (k := 3) rfl (by omega) dL_law_928 dL_law_929 ?_
  refine lv_aload_n S0.1 S0.2.1 dL_law_930 rfl (lv_at hl 0 rfl) ?_
  refine lv_iload S0.1 S0.2.1 dL_law_931 (lv_at hl 4 rfl) ?_
  refine lv_iconst (v := 4) S0.1 S0.2.1 dL_law_933 (by decide) ?_
  refine l_sld S0 hX hbl hbA hL hw.1.1.2.2.1 (k := 4) rfl (by omega) dL_law_934 dL_law_935 ?_
  refine lv_aload_n S0.1 S0.2.1 dL_law_936 rfl (lv_at hl 3 rfl) ?_
  refine l_wrap (n := 6) S0 hG hE hNc hAB hok hw (As := [.ref (ad 0 0), .int (xs (8 * n + 1)), .int (xs (8 * n + 2)), .int (xs (8 * n + 3)), .int (xs (8 * n + 4)), .ref o]) (rest := []) (wL_set l hst D Y ad o g s.heap.size e0 F (xs (8 * n + 1)) (xs (8 * n + 2)) (xs (8 * n + 3)) (xs (8 * n + 4)) σ) kw_879 kw_877 kw_878 kw_0 ⟨by decide, by decide, by decide +kernel⟩ ⟨Nat.le_of_ble_eq_true rfl, Nat.le_of_ble_eq_true rfl⟩ f1 rfl hl.1 (Nat.le_of_ble_eq_true rfl) dL_law_937 ⟨show cells + 4 ≤ 601024 by omega, show slots + 24 ≤ 7293034 by omega⟩ rfl (fun ad9 H locs hw1 h00 hok => ?_)
  replace h00 : ad9 0 0 = ad 0 0 := h00
  refine lv_istore (lv' := [(5, .int ((fun e => if e = 0 then 0 else if e = 1 then 1 else if e = 2 then 2 else if e = 3 then 3 else 0) ex)), (0, .ref b), (1, .ref (ad 0 0)), (2, .ref (am 0 0)), (3, .ref o), (4, .int (nI (8 * n)))]) S0.1 S0.2.1 dL_law_940 hl (by decide) rfl (fun ls hl => ?_)
  refine lv_aload_n S0.1 S0.2.1 dL_law_942 rfl (lv_at hl 3 rfl) ?_
  refine lv_aload_n S0.1 S0.2.1 dL_law_943 rfl (lv_at hl 1 rfl) ?_
  refine lv_iload S0.1 S0.2.1 dL_law_944 (lv_at hl 5 rfl) ?_
  refine lv_iconst (v := 1) S0.1 S0.2.1 dL_law_946 (by decide) ?_
  refine l_sld S0 hX hbl hbA hL hw1.1.1.2.2.1 (k := 1) rfl (by omega) dL_law_947 dL_law_948 ?_
  refine lv_aload_n S0.1 S0.2.1 dL_law_949 rfl (lv_at hl 1 rfl) ?_
  refine lv_iload S0.1 S0.2.1 dL_law_950 (lv_at hl 5 rfl) ?_
  refine lv_iconst (v := 2) S0.1 S0.2.1 dL_law_952 (by decide) ?_
  refine l_sld S0 hX hbl hbA hL hw1.1.1.2.2.1 (k := 2) rfl (by omega) dL_law_953 dL_law_954 ?_
  refine lv_aload_n S0.1 S0.2.1 dL_law_955 rfl (lv_at hl 1 rfl) ?_
  refine lv_iload S0.1 S0.2.1 dL_law_956 (lv_at hl 5 rfl) ?_
  refine lv_iconst (v := 3) S0.1 S0.2.1 dL_law_958 (by decide) ?_
  refine l_sld S0 hX hbl hbA hL hw1.1.1.2.2.1 (k := 3) rfl (by omega) dL_law_959 dL_law_960 ?_
  refine lv_aload_n S0.1 S0.2.1 dL_law_961 rfl (lv_at hl 1 rfl) ?_
  refine lv_iload S0.1 S0.2.1 dL_law_962 (lv_at hl 5 rfl) ?_
  refine lv_iconst (v := 4) S0.1 S0.2.1 dL_law_964 (by decide) ?_
  refine l_sld S0 hX hbl hbA hL hw1.1.1.2.2.1 (k := 4) rfl (by omega) dL_law_965 dL_law_966 ?_
  refine l_refi S0 hw1 (As := [.int (xs (8 * n + 1)), .int (xs (8 * n + 2)), .int (xs (8 * n + 3)), .int (xs (8 * n + 4))]) (rest := []) (wX9_set l D Y am F (xs (8 * n + 1)) (xs (8 * n + 2)) (xs (8 * n + 3)) (xs (8 * n + 4)) σm) qyX9_set kw_1507 ⟨Nat.le_of_ble_eq_true rfl, Nat.le_of_ble_eq_true rfl⟩ f2 rfl hl.1 (Nat.le_of_ble_eq_true rfl) dL_law_967 ⟨show cells + 4 ≤ 601024 by omega, show slots + 24 ≤ 7293034 by omega⟩ rfl (fun H locs hw2 => ?_)
  refine lv_istore (lv' := [(6, .int w), (5, .int ((fun e => if e = 0 then 0 else if e = 1 then 1 else if e = 2 then 2 else if e = 3 then 3 else 0) ex)), (0, .ref b), (1, .ref (ad 0 0)), (2, .ref (am 0 0)), (3, .ref o), (4, .int (nI (8 * n)))]) S0.1 S0.2.1 dL_law_970 hl (by decide) rfl (fun ls hl => ?_)
  refine lv_aload_n S0.1 S0.2.1 dL_law_972 rfl (lv_at hl 4 rfl) ?_
  refine l_refi S0 hw2 (As := []) (rest := []) (wX9_thrown l D Y am F σm9) qyX9_thrown kw_1323 ⟨Nat.le_of_ble_eq_true rfl, Nat.le_of_ble_eq_true rfl⟩ f3 rfl hl.1 (Nat.le_of_ble_eq_true rfl) dL_law_973 ⟨show cells + 4 ≤ 601024 by omega, show slots + 24 ≤ 7293034 by omega⟩ rfl (fun H locs hw3 => ?_)
  refine lv_iload S0.1 S0.2.1 dL_law_976 (lv_at hl 1 rfl) ?_
  refine lv_icmp_eq (tgt := 983) S0.1 S0.2.1 dL_law_978 (by decide) (fun c1 => ?_) (fun c1 => absurd rfl c1)
  refine lv_iload S0.1 S0.2.1 dL_law_983 (lv_at hl 1 rfl) ?_
  refine lv_if_ne (tgt := 1000) S0.1 S0.2.1 dL_law_985 (by decide) (fun c2 => ?_) (fun c2 => ?_)
  · refine lv_goto (tgt := 2620) S0.1 S0.2.1 dL_law_1000 (by decide) ?_
    exact next ad9 σ9 σm9 _ _ _ ls _ _ hw3 h00 hok f5 (show cells + 4 ≤ 126 + 20 * (n + 1) + Φ σ9 by omega) (show slots + 24 ≤ 544257 + 130 * (n + 1) + 2 * Φ σ9 by omega) (lv_sub hl [2, 3, 4, 5, 6] rfl)
  · obtain ⟨rfl, rfl⟩ := f4 (Decidable.not_not.mp (fun h => h c2))
    refine lv_aload_n S0.1 S0.2.1 dL_law_988 rfl (lv_at hl 5 rfl) ?_
    refine lv_iconst (v := 0) S0.1 S0.2.1 dL_law_989 (by decide) ?_
    refine l_out0 S0 hw3 dL_law_990 ?_
    refine lv_iload S0.1 S0.2.1 dL_law_991 (lv_at hl 0 rfl) ?_
    refine lv_i2l (v := v.toInt64) S0.1 S0.2.1 dL_law_993 rfl ?_
    refine l_lcmp0 S0 (x := v.toInt64) dL_law_994 ?_
    refine lv_if_eq (tgt := 1000) S0.1 S0.2.1 dL_law_995 (by decide) (fun c3 => ?_) (fun c3 => absurd rfl c3)
    refine lv_goto (tgt := 2620) S0.1 S0.2.1 dL_law_1000 (by decide) ?_
    exact next ad9 σ9 σm9 _ _ _ ls _ _ hw3 h00 hok f5 (show cells + 4 ≤ 126 + 20 * (n + 1) + Φ σ9 by omega) (show slots + 24 ≤ 544257 + 130 * (n + 1) + 2 * Φ σ9 by omega) (lv_sub hl [2, 3, 4, 5, 6] rfl)
theorem qyX9_delete : qY yX9_delete RX9 cX9_delete 4 (some .int) 3 := ⟨⟨kw_1512, kw_1513, kw_11, kw_1514⟩, rfl, by decide, by decide, by decide +kernel⟩
set_option maxRecDepth 100000 in
set_option maxHeartbeats 4000000 in
theorem wLaw_delete {p : Program} {l : Launch} {e : Env} {s : State} {m : MethodId} {below : List Frame} {meth : Method} {c : Code} {Q : State → Prop} {D : va_G} {Y : Nat → ClassId} {am : qAd} {b L : Nat} {xs : Nat → Int32} {x0 o e0 F n : Nat} {I : Nat → qS → qS → Prop} {Φ : qS → Nat} (S0 : CallFix p m c cL_law 7 s #[.ref b] gws "LeasehallLaw") (hst : l.stackTraces = false) (hX : va_X b L xs s s.heap) (hbl : b < s.heap.size) (hL : L ≤ 4096) (hG : qG s.heap.size s s.heap) (hE : qE s.heap.size e0 s s.heap) (hNc : qNc s) (hΦ : ∀ n σ σm, I n σ σm → Φ σ ≤ 90000) (hc : cI_delete F I Φ) (hn : 8 * n + 8 ≤ L) (next : lNext p l e s m b below meth c Q D Y am x0 o e0 I Φ n (n + 1) 2620) : lNext p l e s m b below meth c Q D Y am x0 o e0 I Φ n n 1003 := by
  intro ad σ σm g H locs ls cells slots hw h0 hok hI hcl hsl hl
  have hbA : ¬ lA s b := Nat.not_le.mpr hbl
  have hAB : ∀ q, lA s q → s.heap.size ≤ q := fun _ h => h
  have hn5 : n < 512 := by omega
  obtain ⟨v, ex, σ9, w, σm9, f1, f2, f3, f4, f5, f6⟩ := hc n σ σm (xs (8 * n + 1)) (xs (8 * n + 2)) (xs (8 * n + 3)) hn5 hI
  have hΦ9 := hΦ _ _ _ f5
  replace f6 : 0 + Φ σ ≤ Φ σ9 := f6
  subst h0
  refine lv_aload_n S0.1 S0.2.1 dL_law_1003 rfl (lv_at hl 1 rfl) ?_
  refine lv_aload_n S0.1 S0.2.1 dL_law_1004 rfl (lv_at hl 0 rfl) ?_
  refine lv_iload S0.1 S0.2.1 dL_law_1005 (lv_at hl 4 rfl) ?_
  refine lv_iconst (v := 1) S0.1 S0.2.1 dL_law_1007 (by decide) ?_
  refine l_sld S0 hX hbl hbA hL hw.1.1.2.2.1 (k := 1) rfl (by omega) dL_law_1008 dL_law_1009 ?_
  refine lv_aload_n S0.1 S0.2.1 dL_law_1010 rfl (lv_at hl 0 rfl) ?_
  refine lv_iload S0.1 S0.2.1 dL_law_1011 (lv_at hl 4 rfl) ?_
  refine lv_iconst (v := 2) S0.1 S0.2.1 dL_law_1013 (by decide) ?_
  refine l_sld S0 hX hbl hbA hL hw.1.1.2.2.1 (k := 2) rfl (by omega) dL_law_1014 dL_law_1015 ?_
  refine lv_aload_n S0.1 S0.2.1 dL_law_1016 rfl (lv_at hl 0 rfl) ?_
  refine lv_iload S0.1 S0.2.1 dL_law_1017 (lv_at hl 4 rfl) ?_
  refine lv_iconst (v := 3) S0.1 S0.2.1 dL_law_1019 (by decide) ?_
  refine l_sld S0 hX hbl hbA hL hw.1.1.2.2.1 (k := 3) rfl (by omega) dL_law_1020 dL_law_1021 ?_
  refine lv_aload_n S0.1 S0.2.1 dL_law_1022 rfl (lv_at hl 3 rfl) ?_
  refine l_wrap (n := 5) S0 hG hE hNc hAB hok hw (As := [.ref (ad 0 0), .int (xs (8 * n + 1)), .int (xs (8 * n + 2)), .int (xs (8 * n + 3)), .ref o]) (rest := []) (wL_delete l hst D Y ad o g s.heap.size e0 F (xs (8 * n + 1)) (xs (8 * n + 2)) (xs (8 * n + 3)) σ) kw_887 kw_885 kw_886 kw_0 ⟨by decide, by decide, by decide +kernel⟩ ⟨Nat.le_of_ble_eq_true rfl, Nat.le_of_ble_eq_true rfl⟩ f1 rfl hl.1 (Nat.le_of_ble_eq_true rfl) dL_law_1023 ⟨show cells + 3 ≤ 601024 by omega, show slots + 18 ≤ 7293034 by omega⟩ rfl (fun ad9 H locs hw1 h00 hok => ?_)
  replace h00 : ad9 0 0 = ad 0 0 := h00
  refine lv_istore (lv' := [(5, .int ((fun e => if e = 0 then 0 else if e = 1 then 1 else if e = 3 then 2 else 0) ex)), (0, .ref b), (1, .ref (ad 0 0)), (2, .ref (am 0 0)), (3, .ref o), (4, .int (nI (8 * n)))]) S0.1 S0.2.1 dL_law_1026 hl (by decide) rfl (fun ls hl => ?_)
  refine lv_aload_n S0.1 S0.2.1 dL_law_1028 rfl (lv_at hl 3 rfl) ?_
  refine lv_aload_n S0.1 S0.2.1 dL_law_1029 rfl (lv_at hl 1 rfl) ?_
  refine lv_iload S0.1 S0.2.1 dL_law_1030 (lv_at hl 5 rfl) ?_
  refine lv_iconst (v := 1) S0.1 S0.2.1 dL_law_1032 (by decide) ?_
  refine l_sld S0 hX hbl hbA hL hw1.1.1.2.2.1 (k := 1) rfl (by omega) dL_law_1033 dL_law_1034 ?_
  refine lv_aload_n S0.1 S0.2.1 dL_law_1035 rfl (lv_at hl 1 rfl) ?_
  refine lv_iload S0.1 S0.2.1 dL_law_1036 (lv_at hl 5 rfl) ?_
  refine lv_iconst (v := 2) S0.1 S0.2.1 dL_law_1038 (by decide) ?_
  refine l_sld S0 hX hbl hbA hL hw1.1.1.2.2.1 (k := 2) rfl (by omega) dL_law_1039 dL_law_1040 ?_
  refine lv_aload_n S0.1 S0.2.1 dL_law_1041 rfl (lv_at hl 1 rfl) ?_
  refine lv_iload S0.1 S0.2.1 dL_law_1042 (lv_at hl 5 rfl) ?_
  refine lv_iconst (v := 3) S0.1 S0.2.1 dL_law_1044 (by decide) ?_
  refine l_sld S0 hX hbl hbA hL hw1.1.1.2.2.1 (k := 3) rfl (by omega) dL_law_1045 dL_law_1046 ?_
  refine l_refi S0 hw1 (As := [.int (xs (8 * n + 1)), .int (xs (8 * n + 2)), .int (xs (8 * n + 3))]) (rest := []) (wX9_delete l D Y am F (xs (8 * n + 1)) (xs (8 * n + 2)) (xs (8 * n + 3)) σm) qyX9_delete kw_1511 ⟨Nat.le_of_ble_eq_true rfl, Nat.le_of_ble_eq_true rfl⟩ f2 rfl hl.1 (Nat.le_of_ble_eq_true rfl) dL_law_1047 ⟨show cells + 3 ≤ 601024 by omega, show slots + 18 ≤ 7293034 by omega⟩ rfl (fun H locs hw2 => ?_)
  refine lv_istore (lv' := [(6, .int w), (5, .int ((fun e => if e = 0 then 0 else if e = 1 then 1 else if e = 3 then 2 else 0) ex)), (0, .ref b), (1, .ref (ad 0 0)), (2, .ref (am 0 0)), (3, .ref o), (4, .int (nI (8 * n)))]) S0.1 S0.2.1 dL_law_1050 hl (by decide) rfl (fun ls hl => ?_)
  refine lv_aload_n S0.1 S0.2.1 dL_law_1052 rfl (lv_at hl 4 rfl) ?_
  refine l_refi S0 hw2 (As := []) (rest := []) (wX9_thrown l D Y am F σm9) qyX9_thrown kw_1323 ⟨Nat.le_of_ble_eq_true rfl, Nat.le_of_ble_eq_true rfl⟩ f3 rfl hl.1 (Nat.le_of_ble_eq_true rfl) dL_law_1053 ⟨show cells + 3 ≤ 601024 by omega, show slots + 18 ≤ 7293034 by omega⟩ rfl (fun H locs hw3 => ?_)
  refine lv_iload S0.1 S0.2.1 dL_law_1056 (lv_at hl 1 rfl) ?_
  refine lv_icmp_eq (tgt := 1063) S0.1 S0.2.1 dL_law_1058 (by decide) (fun c1 => ?_) (fun c1 => absurd rfl c1)
  refine lv_iload S0.1 S0.2.1 dL_law_1063 (lv_at hl 1 rfl) ?_
  refine lv_if_ne (tgt := 1080) S0.1 S0.2.1 dL_law_1065 (by decide) (fun c2 => ?_) (fun c2 => ?_)
  · refine lv_goto (tgt := 2620) S0.1 S0.2.1 dL_law_1080 (by decide) ?_
    exact next ad9 σ9 σm9 _ _ _ ls _ _ hw3 h00 hok f5 (show cells + 3 ≤ 126 + 20 * (n + 1) + Φ σ9 by omega) (show slots + 18 ≤ 544257 + 130 * (n + 1) + 2 * Φ σ9 by omega) (lv_sub hl [2, 3, 4, 5, 6] rfl)
  · obtain ⟨rfl, rfl⟩ := f4 (Decidable.not_not.mp (fun h => h c2))
    refine lv_aload_n S0.1 S0.2.1 dL_law_1068 rfl (lv_at hl 5 rfl) ?_
    refine lv_iconst (v := 0) S0.1 S0.2.1 dL_law_1069 (by decide) ?_
    refine l_out0 S0 hw3 dL_law_1070 ?_
    refine lv_iload S0.1 S0.2.1 dL_law_1071 (lv_at hl 0 rfl) ?_
    refine lv_i2l (v := v.toInt64) S0.1 S0.2.1 dL_law_1073 rfl ?_
    refine l_lcmp0 S0 (x := v.toInt64) dL_law_1074 ?_
    refine lv_if_eq (tgt := 1080) S0.1 S0.2.1 dL_law_1075 (by decide) (fun c3 => ?_) (fun c3 => absurd rfl c3)
    refine lv_goto (tgt := 2620) S0.1 S0.2.1 dL_law_1080 (by decide) ?_
    exact next ad9 σ9 σm9 _ _ _ ls _ _ hw3 h00 hok f5 (show cells + 3 ≤ 126 + 20 * (n + 1) + Φ σ9 by omega) (show slots + 18 ≤ 544257 + 130 * (n + 1) + 2 * Φ σ9 by omega) (lv_sub hl [2, 3, 4, 5, 6] rfl)
theorem qyX9_rights : qY yX9_rights RX9 cX9_rights 7 (some .int) 5 := ⟨⟨kw_1516, kw_1517, kw_11, kw_1518⟩, rfl, by decide, by decide, by decide +kernel⟩
set_option maxRecDepth 100000 in
set_option maxHeartbeats 4000000 in
theorem wLaw_rights {p : Program} {l : Launch} {e : Env} {s : State} {m : MethodId} {below : List Frame} {meth : Method} {c : Code} {Q : State → Prop} {D : va_G} {Y : Nat → ClassId} {am : qAd} {b L : Nat} {xs : Nat → Int32} {x0 o e0 F n : Nat} {I : Nat → qS → qS → Prop} {Φ : qS → Nat} (S0 : CallFix p m c cL_law 7 s #[.ref b] gws "LeasehallLaw") (hst : l.stackTraces = false) (hX : va_X b L xs s s.heap) (hbl : b < s.heap.size) (hL : L ≤ 4096) (hG : qG s.heap.size s s.heap) (hE : qE s.heap.size e0 s s.heap) (hNc : qNc s) (hΦ : ∀ n σ σm, I n σ σm → Φ σ ≤ 90000) (hc : cI_rights F I Φ) (hn : 8 * n + 8 ≤ L) (next : lNext p l e s m b below meth c Q D Y am x0 o e0 I Φ n (n + 1) 2620) : lNext p l e s m b below meth c Q D Y am x0 o e0 I Φ n n 1083 := by
  intro ad σ σm g H locs ls cells slots hw h0 hok hI hcl hsl hl
  have hbA : ¬ lA s b := Nat.not_le.mpr hbl
  have hAB : ∀ q, lA s q → s.heap.size ≤ q := fun _ h => h
  have hn5 : n < 512 := by omega
  obtain ⟨v, ex, σ9, w, σm9, f1, f2, f3, f4, f5, f6⟩ := hc n σ σm (xs (8 * n + 1)) (xs (8 * n + 2)) (xs (8 * n + 3)) (xs (8 * n + 4)) (if xs (8 * n + 5) = 0 then 0 else 1) hn5 hI (by by_cases c9 : xs (8 * n + 5) = 0 <;> simp [c9])
  have hΦ9 := hΦ _ _ _ f5
  replace f6 : 0 + Φ σ ≤ Φ σ9 := f6
  subst h0
  refine lv_aload_n S0.1 S0.2.1 dL_law_1083 rfl (lv_at hl 1 rfl) ?_
  refine lv_aload_n S0.1 S0.2.1 dL_law_1084 rfl (lv_at hl 0 rfl) ?_
  refine lv_iload S0.1 S0.2.1 dL_law_1085 (lv_at hl 4 rfl) ?_
  refine lv_iconst (v := 1) S0.1 S0.2.1 dL_law_1087 (by decide) ?_
  refine l_sld S0 hX hbl hbA hL hw.1.1.2.2.1 (k := 1) rfl (by omega) dL_law_1088 dL_law_1089 ?_
  refine lv_aload_n S0.1 S0.2.1 dL_law_1090 rfl (lv_at hl 0 rfl) ?_
  refine lv_iload S0.1 S0.2.1 dL_law_1091 (lv_at hl 4 rfl) ?_
  refine lv_iconst (v := 2) S0.1 S0.2.1 dL_law_1093 (by decide) ?_
  refine l_sld S0 hX hbl hbA hL hw.1.1.2.2.1 (k := 2) rfl (by omega) dL_law_1094 dL_law_1095 ?_
  refine lv_aload_n S0.1 S0.2.1 dL_law_1096 rfl (lv_at hl 0 rfl) ?_
  refine lv_iload S0.1 S0.2.1 dL_law_1097 (lv_at hl 4 rfl) ?_
  refine lv_iconst (v := 3) S0.1 S0.2.1 dL_law_1099 (by decide) ?_
  refine l_sld S0 hX hbl hbA hL hw.1.1.2.2.1 (k := 3) rfl (by omega) dL_law_1100 dL_law_1101 ?_
  refine lv_aload_n S0.1 S0.2.1 dL_law_1102 rfl (lv_at hl 0 rfl) ?_
  refine lv_iload S0.1 S0.2.1 dL_law_1103 (lv_at hl 4 rfl) ?_
  refine lv_iconst (v := 4) S0.1 S0.2.1 dL_law_1105 (by decide) ?_
  refine l_sld S0 hX hbl hbA hL hw.1.1.2.2.1 (k := 4) rfl (by omega) dL_law_1106 dL_law_1107 ?_
  refine lv_aload_n S0.1 S0.2.1 dL_law_1108 rfl (lv_at hl 0 rfl) ?_
  refine lv_iload S0.1 S0.2.1 dL_law_1109 (lv_at hl 4 rfl) ?_
  refine lv_iconst (v := 5) S0.1 S0.2.1 dL_law_1111 (by decide) ?_
  refine l_sld S0 hX hbl hbA hL hw.1.1.2.2.1 (k := 5) rfl (by omega) dL_law_1112 dL_law_1113 ?_
  refine l_bool S0 (t := 1121) dL_law_1114 dL_law_1117 dL_law_1118 dL_law_1121 rfl ?_
  refine lv_aload_n S0.1 S0.2.1 dL_law_1122 rfl (lv_at hl 3 rfl) ?_
  refine l_wrap (n := 7) S0 hG hE hNc hAB hok hw (As := [.ref (ad 0 0), .int (xs (8 * n + 1)), .int (xs (8 * n + 2)), .int (xs (8 * n + 3)), .int (xs (8 * n + 4)), .int (if xs (8 * n + 5) = 0 then 0 else 1), .ref o]) (rest := []) (wL_rights l hst D Y ad o g s.heap.size e0 F (xs (8 * n + 1)) (xs (8 * n + 2)) (xs (8 * n + 3)) (xs (8 * n + 4)) (if xs (8 * n + 5) = 0 then 0 else 1) σ) kw_894 kw_892 kw_893 kw_0 ⟨by decide, by decide, by decide +kernel⟩ ⟨Nat.le_of_ble_eq_true rfl, Nat.le_of_ble_eq_true rfl⟩ f1 rfl hl.1 (Nat.le_of_ble_eq_true rfl) dL_law_1123 ⟨show cells + 3 ≤ 601024 by omega, show slots + 18 ≤ 7293034 by omega⟩ rfl (fun ad9 H locs hw1 h00 hok => ?_)
  replace h00 : ad9 0 0 = ad 0 0 := h00
  refine lv_istore (lv' := [(5, .int ((fun e => if e = 0 then 0 else if e = 1 then 1 else if e = 2 then 2 else if e = 3 then 3 else 0) ex)), (0, .ref b), (1, .ref (ad 0 0)), (2, .ref (am 0 0)), (3, .ref o), (4, .int (nI (8 * n)))]) S0.1 S0.2.1 dL_law_1126 hl (by decide) rfl (fun ls hl => ?_)
  refine lv_aload_n S0.1 S0.2.1 dL_law_1128 rfl (lv_at hl 3 rfl) ?_
  refine lv_aload_n S0.1 S0.2.1 dL_law_1129 rfl (lv_at hl 1 rfl) ?_
  refine lv_iload S0.1 S0.2.1 dL_law_1130 (lv_at hl 5 rfl) ?_
  refine lv_iconst (v := 1) S0.1 S0.2.1 dL_law_1132 (by decide) ?_
  refine l_sld S0 hX hbl hbA hL hw1.1.1.2.2.1 (k := 1) rfl (by omega) dL_law_1133 dL_law_1134 ?_
  refine lv_aload_n S0.1 S0.2.1 dL_law_1135 rfl (lv_at hl 1 rfl) ?_
  refine lv_iload S0.1 S0.2.1 dL_law_1136 (lv_at hl 5 rfl) ?_
  refine lv_iconst (v := 2) S0.1 S0.2.1 dL_law_1138 (by decide) ?_
  refine l_sld S0 hX hbl hbA hL hw1.1.1.2.2.1 (k := 2) rfl (by omega) dL_law_1139 dL_law_1140 ?_
  refine lv_aload_n S0.1 S0.2.1 dL_law_1141 rfl (lv_at hl 1 rfl) ?_
  refine lv_iload S0.1 S0.2.1 dL_law_1142 (lv_at hl 5 rfl) ?_
  refine lv_iconst (v := 3) S0.1 S0.2.1 dL_law_1144 (by decide) ?_
  refine l_sld S0 hX hbl hbA hL hw1.1.1.2.2.1 (k := 3) rfl (by omega) dL_law_1145 dL_law_1146 ?_
  refine lv_aload_n S0.1 S0.2.1 dL_law_1147 rfl (lv_at hl 1 rfl) ?_
  refine lv_iload S0.1 S0.2.1 dL_law_1148 (lv_at hl 5 rfl) ?_
  refine lv_iconst (v := 4) S0.1 S0.2.1 dL_law_1150 (by decide) ?_
  refine l_sld S0 hX hbl hbA hL hw1.1.1.2.2.1 (k := 4) rfl (by omega) dL_law_1151 dL_law_1152 ?_
  refine lv_aload_n S0.1 S0.2.1 dL_law_1153 rfl (lv_at hl 1 rfl) ?_
  refine lv_iload S0.1 S0.2.1 dL_law_1154 (lv_at hl 5 rfl) ?_
  refine lv_iconst (v := 5) S0.1 S0.2.1 dL_law_1156 (by decide) ?_
  refine l_sld S0 hX hbl hbA hL hw1.1.1.2.2.1 (k := 5) rfl (by omega) dL_law_1157 dL_law_1158 ?_
  refine l_bool S0 (t := 1166) dL_law_1159 dL_law_1162 dL_law_1163 dL_law_1166 rfl ?_
  refine l_refi S0 hw1 (As := [.int (xs (8 * n + 1)), .int (xs (8 * n + 2)), .int (xs (8 * n + 3)), .int (xs (8 * n + 4)), .int (if xs (8 * n + 5) = 0 then 0 else 1)]) (rest := []) (wX9_rights l D Y am F (xs (8 * n + 1)) (xs (8 * n + 2)) (xs (8 * n + 3)) (xs (8 * n + 4)) (if xs (8 * n + 5) = 0 then 0 else 1) σm) qyX9_rights kw_1515 ⟨Nat.le_of_ble_eq_true rfl, Nat.le_of_ble_eq_true rfl⟩ f2 rfl hl.1 (Nat.le_of_ble_eq_true rfl) dL_law_1167 ⟨show cells + 3 ≤ 601024 by omega, show slots + 18 ≤ 7293034 by omega⟩ rfl (fun H locs hw2 => ?_)
  refine lv_istore (lv' := [(6, .int w), (5, .int ((fun e => if e = 0 then 0 else if e = 1 then 1 else if e = 2 then 2 else if e = 3 then 3 else 0) ex)), (0, .ref b), (1, .ref (ad 0 0)), (2, .ref (am 0 0)), (3, .ref o), (4, .int (nI (8 * n)))]) S0.1 S0.2.1 dL_law_1170 hl (by decide) rfl (fun ls hl => ?_)
  refine lv_aload_n S0.1 S0.2.1 dL_law_1172 rfl (lv_at hl 4 rfl) ?_
  refine l_refi S0 hw2 (As := []) (rest := []) (wX9_thrown l D Y am F σm9) qyX9_thrown kw_1323 ⟨Nat.le_of_ble_eq_true rfl, Nat.le_of_ble_eq_true rfl⟩ f3 rfl hl.1 (Nat.le_of_ble_eq_true rfl) dL_law_1173 ⟨show cells + 3 ≤ 601024 by omega, show slots + 18 ≤ 7293034 by omega⟩ rfl (fun H locs hw3 => ?_)
  refine lv_iload S0.1 S0.2.1 dL_law_1176 (lv_at hl 1 rfl) ?_
  refine lv_icmp_eq (tgt := 1183) S0.1 S0.2.1 dL_law_1178 (by decide) (fun c1 => ?_) (fun c1 => absurd rfl c1)
  refine lv_iload S0.1 S0.2.1 dL_law_1183 (lv_at hl 1 rfl) ?_
  refine lv_if_ne (tgt := 1200) S0.1 S0.2.1 dL_law_1185 (by decide) (fun c2 => ?_) (fun c2 => ?_)
  · refine lv_goto (tgt := 2620) S0.1 S0.2.1 dL_law_1200 (by decide) ?_
    exact next ad9 σ9 σm9 _ _ _ ls _ _ hw3 h00 hok f5 (show cells + 3 ≤ 126 + 20 * (n + 1) + Φ σ9 by omega) (show slots + 18 ≤ 544257 + 130 * (n + 1) + 2 * Φ σ9 by omega) (lv_sub hl [2, 3, 4, 5, 6] rfl)
  · obtain ⟨rfl, rfl⟩ := f4 (Decidable.not_not.mp (fun h => h c2))
    refine lv_aload_n S0.1 S0.2.1 dL_law_1188 rfl (lv_at hl 5 rfl) ?_
    refine lv_iconst (v := 0) S0.1 S0.2.1 dL_law_1189 (by decide) ?_
    refine l_out0 S0 hw3 dL_law_1190 ?_
    refine lv_iload S0.1 S0.2.1 dL_law_1191 (lv_at hl 0 rfl) ?_
    refine lv_i2l (v := v.toInt64) S0.1 S0.2.1 dL_law_1193 rfl ?_
    refine l_lcmp0 S0 (x := v.toInt64) dL_law_1194 ?_
    refine lv_if_eq (tgt := 1200) S0.1 S0.2.1 dL_law_1195 (by decide) (fun c3 => ?_) (fun c3 => absurd rfl c3)
    refine lv_goto (tgt := 2620) S0.1 S0.2.1 dL_law_1200 (by decide) ?_
    exact next ad9 σ9 σm9 _ _ _ ls _ _ hw3 h00 hok f5 (show cells + 3 ≤ 126 + 20 * (n + 1) + Φ σ9 by omega) (show slots + 18 ≤ 544257 + 130 * (n + 1) + 2 * Φ σ9 by omega) (lv_sub hl [2, 3, 4, 5, 6] rfl)
theorem qyX9_check : qY yX9_check RX9 cX9_check 4 (some .int) 3 := ⟨⟨kw_1520, kw_1521, kw_11, kw_1522⟩, rfl, by decide, by decide, by decide +kernel⟩
set_option maxRecDepth 100000 in
set_option maxHeartbeats 4000000 in
theorem wLaw_check {p : Program} {l : Launch} {e : Env} {s : State} {m : MethodId} {below : List Frame} {meth : Method} {c : Code} {Q : State → Prop} {D : va_G} {Y : Nat → ClassId} {am : qAd} {b L : Nat} {xs : Nat → Int32} {x0 o e0 F n : Nat} {I : Nat → qS → qS → Prop} {Φ : qS → Nat} (S0 : CallFix p m c cL_law 7 s #[.ref b] gws "LeasehallLaw") (hst : l.stackTraces = false) (hX : va_X b L xs s s.heap) (hbl : b < s.heap.size) (hL : L ≤ 4096) (hG : qG s.heap.size s s.heap) (hE : qE s.heap.size e0 s s.heap) (hNc : qNc s) (hΦ : ∀ n σ σm, I n σ σm → Φ σ ≤ 90000) (hc : cI_check F I Φ) (hn : 8 * n + 8 ≤ L) (next : lNext p l e s m b below meth c Q D Y am x0 o e0 I Φ n (n + 1) 2620) : lNext p l e s m b below meth c Q D Y am x0 o e0 I Φ n n 1203 := by
  intro ad σ σm g H locs ls cells slots hw h0 hok hI hcl hsl hl
  have hbA : ¬ lA s b := Nat.not_le.mpr hbl
  have hAB : ∀ q, lA s q → s.heap.size ≤ q := fun _ h => h
  have hn5 : n < 512 := by omega
  obtain ⟨v, ex, σ9, w, σm9, f1, f2, f3, f4, f5, f6⟩ := hc n σ σm (xs (8 * n + 1)) (xs (8 * n + 2)) (xs (8 * n + 3)) hn5 hI
  have hΦ9 := hΦ _ _ _ f5
  replace f6 : 0 + Φ σ ≤ Φ σ9 := f6
  subst h0
  refine lv_aload_n S0.1 S0.2.1 dL_law_1203 rfl (lv_at hl 1 rfl) ?_
  refine lv_aload_n S0.1 S0.2.1 dL_law_1204 rfl (lv_at hl 0 rfl) ?_
  refine lv_iload S0.1 S0.2.1 dL_law_1205 (lv_at hl 4 rfl) ?_
  refine lv_iconst (v := 1) S0.1 S0.2.1 dL_law_1207 (by decide) ?_
  refine l_sld S0 hX hbl hbA hL hw.1.1.2.2.1 (k := 1) rfl (by omega) dL_law_1208 dL_law_1209 ?_
  refine lv_aload_n S0.1 S0.2.1 dL_law_1210 rfl (lv_at hl 0 rfl) ?_
  refine lv_iload S0.1 S0.2.1 dL_law_1211 (lv_at hl 4 rfl) ?_
  refine lv_iconst (v := 2) S0.1 S0.2.1 dL_law_1213 (by decide) ?_
  refine l_sld S0 hX hbl hbA hL hw.1.1.2.2.1 (k := 2) rfl (by omega) dL_law_1214 dL_law_1215 ?_
  refine lv_aload_n S0.1 S0.2.1 dL_law_1216 rfl (lv_at hl 0 rfl) ?_
  refine lv_iload S0.1 S0.2.1 dL_law_1217 (lv_at hl 4 rfl) ?_
  refine lv_iconst (v := 3) S0.1 S0.2.1 dL_law_1219 (by decide) ?_
  refine l_sld S0 hX hbl hbA hL hw.1.1.2.2.1 (k := 3) rfl (by omega) dL_law_1220 dL_law_1221 ?_
  refine lv_aload_n S0.1 S0.2.1 dL_law_1222 rfl (lv_at hl 3 rfl) ?_
  refine l_wrap (n := 5) S0 hG hE hNc hAB hok hw (As := [.ref (ad 0 0), .int (xs (8 * n + 1)), .int (xs (8 * n + 2)), .int (xs (8 * n + 3)), .ref o]) (rest := []) (wL_check l hst D Y ad o g s.heap.size e0 F (xs (8 * n + 1)) (xs (8 * n + 2)) (xs (8 * n + 3)) σ) kw_902 kw_900 kw_901 kw_0 ⟨by decide, by decide, by decide +kernel⟩ ⟨Nat.le_of_ble_eq_true rfl, Nat.le_of_ble_eq_true rfl⟩ f1 rfl hl.1 (Nat.le_of_ble_eq_true rfl) dL_law_1223 ⟨show cells + 3 ≤ 601024 by omega, show slots + 18 ≤ 7293034 by omega⟩ rfl (fun ad9 H locs hw1 h00 hok => ?_)
  replace h00 : ad9 0 0 = ad 0 0 := h00
  refine lv_istore (lv' := [(5, .int ((fun e => if e = 0 then 0 else if e = 1 then 1 else if e = 3 then 2 else 0) ex)), (0, .ref b), (1, .ref (ad 0 0)), (2, .ref (am 0 0)), (3, .ref o), (4, .int (nI (8 * n)))]) S0.1 S0.2.1 dL_law_1226 hl (by decide) rfl (fun ls hl => ?_)
  refine lv_aload_n S0.1 S0.2.1 dL_law_1228 rfl (lv_at hl 3 rfl) ?_
  refine lv_aload_n S0.1 S0.2.1 dL_law_1229 rfl (lv_at hl 1 rfl) ?_
  refine lv_iload S0.1 S0.2.1 dL_law_1230 (lv_at hl 5 rfl) ?_
  refine lv_iconst (v := 1) S0.1 S0.2.1 dL_law_1232 (by decide) ?_
  refine l_sld S0 hX hbl hbA hL hw1.1.1.2.2.1 (k := 1) rfl (by omega) dL_law_1233 dL_law_1234 ?_
  refine lv_aload_n S0.1 S0.2.1 dL_law_1235 rfl (lv_at hl 1 rfl) ?_
  refine lv_iload S0.1 S0.2.1 dL_law_1236 (lv_at hl 5 rfl) ?_
  refine lv_iconst (v := 2) S0.1 S0.2.1 dL_law_1238 (by decide) ?_
  refine l_sld S0 hX hbl hbA hL hw1.1.1.2.2.1 (k := 2) rfl (by omega) dL_law_1239 dL_law_1240 ?_
  refine lv_aload_n S0.1 S0.2.1 dL_law_1241 rfl (lv_at hl 1 rfl) ?_
  refine lv_iload S0.1 S0.2.1 dL_law_1242 (lv_at hl 5 rfl) ?_
  refine lv_iconst (v := 3) S0.1 S0.2.1 dL_law_1244 (by decide) ?_
  refine l_sld S0 hX hbl hbA hL hw1.1.1.2.2.1 (k := 3) rfl (by omega) dL_law_1245 dL_law_1246 ?_
  refine l_refi S0 hw1 (As := [.int (xs (8 * n + 1)), .int (xs (8 * n + 2)), .int (xs (8 * n + 3))]) (rest := []) (wX9_check l D Y am F (xs (8 * n + 1)) (xs (8 * n + 2)) (xs (8 * n + 3)) σm) qyX9_check kw_1519 ⟨Nat.le_of_ble_eq_true rfl, Nat.le_of_ble_eq_true rfl⟩ f2 rfl hl.1 (Nat.le_of_ble_eq_true rfl) dL_law_1247 ⟨show cells + 3 ≤ 601024 by omega, show slots + 18 ≤ 7293034 by omega⟩ rfl (fun H locs hw2 => ?_)
  refine lv_istore (lv' := [(6, .int w), (5, .int ((fun e => if e = 0 then 0 else if e = 1 then 1 else if e = 3 then 2 else 0) ex)), (0, .ref b), (1, .ref (ad 0 0)), (2, .ref (am 0 0)), (3, .ref o), (4, .int (nI (8 * n)))]) S0.1 S0.2.1 dL_law_1250 hl (by decide) rfl (fun ls hl => ?_)
  refine lv_aload_n S0.1 S0.2.1 dL_law_1252 rfl (lv_at hl 4 rfl) ?_
  refine l_refi S0 hw2 (As := []) (rest := []) (wX9_thrown l D Y am F σm9) qyX9_thrown kw_1323 ⟨Nat.le_of_ble_eq_true rfl, Nat.le_of_ble_eq_true rfl⟩ f3 rfl hl.1 (Nat.le_of_ble_eq_true rfl) dL_law_1253 ⟨show cells + 3 ≤ 601024 by omega, show slots + 18 ≤ 7293034 by omega⟩ rfl (fun H locs hw3 => ?_)
  refine lv_iload S0.1 S0.2.1 dL_law_1256 (lv_at hl 1 rfl) ?_
  refine lv_icmp_eq (tgt := 1263) S0.1 S0.2.1 dL_law_1258 (by decide) (fun c1 => ?_) (fun c1 => absurd rfl c1)
  refine lv_iload S0.1 S0.2.1 dL_law_1263 (lv_at hl 1 rfl) ?_
  refine lv_if_ne (tgt := 1280) S0.1 S0.2.1 dL_law_1265 (by decide) (fun c2 => ?_) (fun c2 => ?_)
  · refine lv_goto (tgt := 2620) S0.1 S0.2.1 dL_law_1280 (by decide) ?_
    exact next ad9 σ9 σm9 _ _ _ ls _ _ hw3 h00 hok f5 (show cells + 3 ≤ 126 + 20 * (n + 1) + Φ σ9 by omega) (show slots + 18 ≤ 544257 + 130 * (n + 1) + 2 * Φ σ9 by omega) (lv_sub hl [2, 3, 4, 5, 6] rfl)
  · obtain ⟨rfl, rfl⟩ := f4 (Decidable.not_not.mp (fun h => h c2))
    refine lv_aload_n S0.1 S0.2.1 dL_law_1268 rfl (lv_at hl 5 rfl) ?_
    refine lv_iconst (v := 0) S0.1 S0.2.1 dL_law_1269 (by decide) ?_
    refine l_out0 S0 hw3 dL_law_1270 ?_
    refine lv_iload S0.1 S0.2.1 dL_law_1271 (lv_at hl 0 rfl) ?_
    refine lv_i2l (v := v.toInt64) S0.1 S0.2.1 dL_law_1273 rfl ?_
    refine l_lcmp0 S0 (x := v.toInt64) dL_law_1274 ?_
    refine lv_if_eq (tgt := 1280) S0.1 S0.2.1 dL_law_1275 (by decide) (fun c3 => ?_) (fun c3 => absurd rfl c3)
    refine lv_goto (tgt := 2620) S0.1 S0.2.1 dL_law_1280 (by decide) ?_
    exact next ad9 σ9 σm9 _ _ _ ls _ _ hw3 h00 hok f5 (show cells + 3 ≤ 126 + 20 * (n + 1) + Φ σ9 by omega) (show slots + 18 ≤ 544257 + 130 * (n + 1) + 2 * Φ σ9 by omega) (lv_sub hl [2, 3, 4, 5, 6] rfl)
theorem qyX9_gather : qY yX9_gather RX9 cX9_gather 2 none 1 := ⟨⟨kw_1524, kw_1525, kw_11, kw_1526⟩, rfl, by decide, by decide, by decide +kernel⟩
set_option maxRecDepth 100000 in
set_option maxHeartbeats 4000000 in
theorem wLaw_gather {p : Program} {l : Launch} {e : Env} {s : State} {m : MethodId} {below : List Frame} {meth : Method} {c : Code} {Q : State → Prop} {D : va_G} {Y : Nat → ClassId} {am : qAd} {b L : Nat} {xs : Nat → Int32} {x0 o e0 F n : Nat} {I : Nat → qS → qS → Prop} {Φ : qS → Nat} (S0 : CallFix p m c cL_law 7 s #[.ref b] gws "LeasehallLaw") (hst : l.stackTraces = false) (hX : va_X b L xs s s.heap) (hbl : b < s.heap.size) (hL : L ≤ 4096) (hG : qG s.heap.size s s.heap) (hE : qE s.heap.size e0 s s.heap) (hNc : qNc s) (hΦ : ∀ n σ σm, I n σ σm → Φ σ ≤ 90000) (hc : cI_gather F I Φ) (hn : 8 * n + 8 ≤ L) (next : lNext p l e s m b below meth c Q D Y am x0 o e0 I Φ n (n + 1) 2620) : lNext p l e s m b below meth c Q D Y am x0 o e0 I Φ n n 1283 := by
  intro ad σ σm g H locs ls cells slots hw h0 hok hI hcl hsl hl
  have hbA : ¬ lA s b := Nat.not_le.mpr hbl
  have hAB : ∀ q, lA s q → s.heap.size ≤ q := fun _ h => h
  have hn5 : n < 512 := by omega
  obtain ⟨v, ex, σ9, σm9, f1, f2, f3, f5, f6⟩ := hc n σ σm (xs (8 * n + 1)) hn5 hI
  have hΦ9 := hΦ _ _ _ f5
  subst h0
  refine lv_aload_n S0.1 S0.2.1 dL_law_1283 rfl (lv_at hl 1 rfl) ?_
  refine lv_aload_n S0.1 S0.2.1 dL_law_1284 rfl (lv_at hl 0 rfl) ?_
  refine lv_iload S0.1 S0.2.1 dL_law_1285 (lv_at hl 4 rfl) ?_
  refine lv_iconst (v := 1) S0.1 S0.2.1 dL_law_1287 (by decide) ?_
  refine l_sld S0 hX hbl hbA hL hw.1.1.2.2.1 (k := 1) rfl (by omega) dL_law_1288 dL_law_1289 ?_
  refine l_wrap (n := 2) S0 hG hE hNc hAB hok hw (As := [.ref (ad 0 0), .int (xs (8 * n + 1))]) (rest := []) (wL_gather l hst D Y ad o g s.heap.size e0 F (xs (8 * n + 1)) σ) kw_909 kw_907 kw_908 kw_0 ⟨by decide, by decide, by decide +kernel⟩ ⟨Nat.le_of_ble_eq_true rfl, Nat.le_of_ble_eq_true rfl⟩ f1 rfl hl.1 (Nat.le_of_ble_eq_true rfl) dL_law_1290 ⟨show cells + 3 ≤ 601024 by omega, show slots + 18 ≤ 7293034 by omega⟩ rfl (fun ad9 H locs hw1 h00 hok => ?_)
  replace h00 : ad9 0 0 = ad 0 0 := h00
  refine lv_istore (lv' := [(5, .int ((fun e => if e = 0 then 0 else if e = 1 then 1 else if e = 3 then 2 else 0) ex)), (0, .ref b), (1, .ref (ad 0 0)), (2, .ref (am 0 0)), (3, .ref o), (4, .int (nI (8 * n)))]) S0.1 S0.2.1 dL_law_1293 hl (by decide) rfl (fun ls hl => ?_)
  refine lv_aload_n S0.1 S0.2.1 dL_law_1295 rfl (lv_at hl 3 rfl) ?_
  refine lv_aload_n S0.1 S0.2.1 dL_law_1296 rfl (lv_at hl 1 rfl) ?_
  refine lv_iload S0.1 S0.2.1 dL_law_1297 (lv_at hl 5 rfl) ?_
  refine lv_iconst (v := 1) S0.1 S0.2.1 dL_law_1299 (by decide) ?_
  refine l_sld S0 hX hbl hbA hL hw1.1.1.2.2.1 (k := 1) rfl (by omega) dL_law_1300 dL_law_1301 ?_
  refine l_refv S0 hw1 (As := [.int (xs (8 * n + 1))]) (rest := []) (wX9_gather l D Y am F (xs (8 * n + 1)) σm) qyX9_gather kw_1523 ⟨Nat.le_of_ble_eq_true rfl, Nat.le_of_ble_eq_true rfl⟩ f2 rfl hl.1 (Nat.le_of_ble_eq_true rfl) dL_law_1302 ⟨show cells + 3 ≤ 601024 by omega, show slots + 18 ≤ 7293034 by omega⟩ rfl (fun H locs hw2 => ?_)
  refine lv_aload_n S0.1 S0.2.1 dL_law_1305 rfl (lv_at hl 3 rfl) ?_
  refine l_refi S0 hw2 (As := []) (rest := []) (wX9_thrown l D Y am F σm9) qyX9_thrown kw_1323 ⟨Nat.le_of_ble_eq_true rfl, Nat.le_of_ble_eq_true rfl⟩ f3 rfl hl.1 (Nat.le_of_ble_eq_true rfl) dL_law_1306 ⟨show cells + 3 ≤ 601024 by omega, show slots + 18 ≤ 7293034 by omega⟩ rfl (fun H locs hw3 => ?_)
  refine lv_iload S0.1 S0.2.1 dL_law_1309 (lv_at hl 0 rfl) ?_
  refine lv_icmp_eq (tgt := 1316) S0.1 S0.2.1 dL_law_1311 (by decide) (fun c1 => ?_) (fun c1 => absurd rfl c1)
  refine lv_goto (tgt := 2620) S0.1 S0.2.1 dL_law_1316 (by decide) ?_
  exact next ad9 σ9 σm9 _ _ _ ls _ _ hw3 h00 hok f5 (show cells + 3 ≤ 126 + 20 * (n + 1) + Φ σ9 by omega) (show slots + 18 ≤ 544257 + 130 * (n + 1) + 2 * Φ σ9 by omega) (lv_sub hl [1, 2, 3, 4, 5] rfl)
theorem qyX9_done : qY yX9_done RX9 cX9_done 6 (some .int) 1 := ⟨⟨kw_1528, kw_1529, kw_11, kw_1530⟩, rfl, by decide, by decide, by decide +kernel⟩
set_option maxRecDepth 100000 in
set_option maxHeartbeats 4000000 in
theorem wLaw_done {p : Program} {l : Launch} {e : Env} {s : State} {m : MethodId} {below : List Frame} {meth : Method} {c : Code} {Q : State → Prop} {D : va_G} {Y : Nat → ClassId} {am : qAd} {b L : Nat} {xs : Nat → Int32} {x0 o e0 F n : Nat} {I : Nat → qS → qS → Prop} {Φ : qS → Nat} (S0 : CallFix p m c cL_law 7 s #[.ref b] gws "LeasehallLaw") (hst : l.stackTraces = false) (hX : va_X b L xs s s.heap) (hbl : b < s.heap.size) (hL : L ≤ 4096) (hG : qG s.heap.size s s.heap) (hE : qE s.heap.size e0 s s.heap) (hNc : qNc s) (hΦ : ∀ n σ σm, I n σ σm → Φ σ ≤ 90000) (hc : cI_done F I Φ) (hn : 8 * n + 8 ≤ L) (next : lNext p l e s m b below meth c Q D Y am x0 o e0 I Φ n (n + 1) 2620) : lNext p l e s m b below meth c Q D Y am x0 o e0 I Φ n n 1319 := by
  intro ad σ σm g H locs ls cells slots hw h0 hok hI hcl hsl hl
  have hbA : ¬ lA s b := Nat.not_le.mpr hbl
  have hAB : ∀ q, lA s q → s.heap.size ≤ q := fun _ h => h
  have hn5 : n < 512 := by omega
  obtain ⟨v, ex, σ9, w, σm9, f1, f2, f3, f4, f5, f6⟩ := hc n σ σm (xs (8 * n + 1)) hn5 hI
  have hΦ9 := hΦ _ _ _ f5
  replace f6 : 0 + Φ σ ≤ Φ σ9 := f6
  subst h0
  refine lv_aload_n S0.1 S0.2.1 dL_law_1319 rfl (lv_at hl 1 rfl) ?_
  refine lv_aload_n S0.1 S0.2.1 dL_law_1320 rfl (lv_at hl 0 rfl) ?_
  refine lv_iload S0.1 S0.2.1 dL_law_1321 (lv_at hl 4 rfl) ?_
  refine lv_iconst (v := 1) S0.1 S0.2.1 dL_law_1323 (by decide) ?_
  refine l_sld S0 hX hbl hbA hL hw.1.1.2.2.1 (k := 1) rfl (by omega) dL_law_1324 dL_law_1325 ?_
  refine lv_aload_n S0.1 S0.2.1 dL_law_1326 rfl (lv_at hl 3 rfl) ?_
  refine l_wrap (n := 3) S0 hG hE hNc hAB hok hw (As := [.ref (ad 0 0), .int (xs (8 * n + 1)), .ref o]) (rest := []) (wL_done l hst D Y ad o g s.heap.size e0 F (xs (8 * n + 1)) σ) kw_920 kw_918 kw_919 kw_0 ⟨by decide, by decide, by decide +kernel⟩ ⟨Nat.le_of_ble_eq_true rfl, Nat.le_of_ble_eq_true rfl⟩ f1 rfl hl.1 (Nat.le_of_ble_eq_true rfl) dL_law_1327 ⟨show cells + 3 ≤ 601024 by omega, show slots + 18 ≤ 7293034 by omega⟩ rfl (fun ad9 H locs hw1 h00 hok => ?_)
  replace h00 : ad9 0 0 = ad 0 0 := h00
  refine lv_istore (lv' := [(5, .int ((fun e => if e = 0 then 0 else if e = 1 then 1 else if e = 3 then 2 else 0) ex)), (0, .ref b), (1, .ref (ad 0 0)), (2, .ref (am 0 0)), (3, .ref o), (4, .int (nI (8 * n)))]) S0.1 S0.2.1 dL_law_1330 hl (by decide) rfl (fun ls hl => ?_)
  refine lv_aload_n S0.1 S0.2.1 dL_law_1332 rfl (lv_at hl 3 rfl) ?_
  refine lv_aload_n S0.1 S0.2.1 dL_law_1333 rfl (lv_at hl 1 rfl) ?_
  refine lv_iload S0.1 S0.2.1 dL_law_1334 (lv_at hl 5 rfl) ?_
  refine lv_iconst (v := 1) S0.1 S0.2.1 dL_law_1336 (by decide) ?_
  refine l_sld S0 hX hbl hbA hL hw1.1.1.2.2.1 (k := 1) rfl (by omega) dL_law_1337 dL_law_1338 ?_
  refine l_refi S0 hw1 (As := [.int (xs (8 * n + 1))]) (rest := []) (wX9_done l D Y am F (xs (8 * n + 1)) σm) qyX9_done kw_1527 ⟨Nat.le_of_ble_eq_true rfl, Nat.le_of_ble_eq_true rfl⟩ f2 rfl hl.1 (Nat.le_of_ble_eq_true rfl) dL_law_1339 ⟨show cells + 3 ≤ 601024 by omega, show slots + 18 ≤ 7293034 by omega⟩ rfl (fun H locs hw2 => ?_)
  refine lv_istore (lv' := [(6, .int w), (5, .int ((fun e => if e = 0 then 0 else if e = 1 then 1 else if e = 3 then 2 else 0) ex)), (0, .ref b), (1, .ref (ad 0 0)), (2, .ref (am 0 0)), (3, .ref o), (4, .int (nI (8 * n)))]) S0.1 S0.2.1 dL_law_1342 hl (by decide) rfl (fun ls hl => ?_)
  refine lv_aload_n S0.1 S0.2.1 dL_law_1344 rfl (lv_at hl 4 rfl) ?_
  refine l_refi S0 hw2 (As := []) (rest := []) (wX9_thrown l D Y am F σm9) qyX9_thrown kw_1323 ⟨Nat.le_of_ble_eq_true rfl, Nat.le_of_ble_eq_true rfl⟩ f3 rfl hl.1 (Nat.le_of_ble_eq_true rfl) dL_law_1345 ⟨show cells + 3 ≤ 601024 by omega, show slots + 18 ≤ 7293034 by omega⟩ rfl (fun H locs hw3 => ?_)
  refine lv_iload S0.1 S0.2.1 dL_law_1348 (lv_at hl 1 rfl) ?_
  refine lv_icmp_eq (tgt := 1355) S0.1 S0.2.1 dL_law_1350 (by decide) (fun c1 => ?_) (fun c1 => absurd rfl c1)
  refine lv_iload S0.1 S0.2.1 dL_law_1355 (lv_at hl 1 rfl) ?_
  refine lv_if_ne (tgt := 1372) S0.1 S0.2.1 dL_law_1357 (by decide) (fun c2 => ?_) (fun c2 => ?_)
  · refine lv_goto (tgt := 2620) S0.1 S0.2.1 dL_law_1372 (by decide) ?_
    exact next ad9 σ9 σm9 _ _ _ ls _ _ hw3 h00 hok f5 (show cells + 3 ≤ 126 + 20 * (n + 1) + Φ σ9 by omega) (show slots + 18 ≤ 544257 + 130 * (n + 1) + 2 * Φ σ9 by omega) (lv_sub hl [2, 3, 4, 5, 6] rfl)
  · obtain ⟨rfl, rfl⟩ := f4 (Decidable.not_not.mp (fun h => h c2))
    refine lv_aload_n S0.1 S0.2.1 dL_law_1360 rfl (lv_at hl 5 rfl) ?_
    refine lv_iconst (v := 0) S0.1 S0.2.1 dL_law_1361 (by decide) ?_
    refine l_out0 S0 hw3 dL_law_1362 ?_
    refine lv_iload S0.1 S0.2.1 dL_law_1363 (lv_at hl 0 rfl) ?_
    refine lv_i2l (v := v.toInt64) S0.1 S0.2.1 dL_law_1365 rfl ?_
    refine l_lcmp0 S0 (x := v.toInt64) dL_law_1366 ?_
    refine lv_if_eq (tgt := 1372) S0.1 S0.2.1 dL_law_1367 (by decide) (fun c3 => ?_) (fun c3 => absurd rfl c3)
    refine lv_goto (tgt := 2620) S0.1 S0.2.1 dL_law_1372 (by decide) ?_
    exact next ad9 σ9 σm9 _ _ _ ls _ _ hw3 h00 hok f5 (show cells + 3 ≤ 126 + 20 * (n + 1) + Φ σ9 by omega) (show slots + 18 ≤ 544257 + 130 * (n + 1) + 2 * Φ σ9 by omega) (lv_sub hl [2, 3, 4, 5, 6] rfl)
theorem qyX9_answer : qY yX9_answer RX9 cX9_answer 3 (some .int) 2 := ⟨⟨kw_1532, kw_1533, kw_11, kw_1534⟩, rfl, by decide, by decide, by decide +kernel⟩
set_option maxRecDepth 100000 in
set_option maxHeartbeats 4000000 in
theorem wLaw_answer {p : Program} {l : Launch} {e : Env} {s : State} {m : MethodId} {below : List Frame} {meth : Method} {c : Code} {Q : State → Prop} {D : va_G} {Y : Nat → ClassId} {am : qAd} {b L : Nat} {xs : Nat → Int32} {x0 o e0 F n : Nat} {I : Nat → qS → qS → Prop} {Φ : qS → Nat} (S0 : CallFix p m c cL_law 7 s #[.ref b] gws "LeasehallLaw") (hst : l.stackTraces = false) (hX : va_X b L xs s s.heap) (hbl : b < s.heap.size) (hL : L ≤ 4096) (hG : qG s.heap.size s s.heap) (hE : qE s.heap.size e0 s s.heap) (hNc : qNc s) (hΦ : ∀ n σ σm, I n σ σm → Φ σ ≤ 90000) (hc : cI_answer F I Φ) (hn : 8 * n + 8 ≤ L) (next : lNext p l e s m b below meth c Q D Y am x0 o e0 I Φ n (n + 1) 2620) : lNext p l e s m b below meth c Q D Y am x0 o e0 I Φ n n 1375 := by
  intro ad σ σm g H locs ls cells slots hw h0 hok hI hcl hsl hl
  have hbA : ¬ lA s b := Nat.not_le.mpr hbl
  have hAB : ∀ q, lA s q → s.heap.size ≤ q := fun _ h => h
  have hn5 : n < 512 := by omega
  obtain ⟨v, ex, σ9, w, σm9, f1, f2, f3, f4, f5, f6⟩ := hc n σ σm (xs (8 * n + 1)) (xs (8 * n + 2)) hn5 hI
  have hΦ9 := hΦ _ _ _ f5
  replace f6 : 0 + Φ σ ≤ Φ σ9 := f6
  subst h0
  refine lv_aload_n S0.1 S0.2.1 dL_law_1375 rfl (lv_at hl 1 rfl) ?_
  refine lv_aload_n S0.1 S0.2.1 dL_law_1376 rfl (lv_at hl 0 rfl) ?_
  refine lv_iload S0.1 S0.2.1 dL_law_1377 (lv_at hl 4 rfl) ?_
  refine lv_iconst (v := 1) S0.1 S0.2.1 dL_law_1379 (by decide) ?_
  refine l_sld S0 hX hbl hbA hL hw.1.1.2.2.1 (k := 1) rfl (by omega) dL_law_1380 dL_law_1381 ?_
  refine lv_aload_n S0.1 S0.2.1 dL_law_1382 rfl (lv_at hl 0 rfl) ?_
  refine lv_iload S0.1 S0.2.1 dL_law_1383 (lv_at hl 4 rfl) ?_
  refine lv_iconst (v := 2) S0.1 S0.2.1 dL_law_1385 (by decide) ?_
  refine l_sld S0 hX hbl hbA hL hw.1.1.2.2.1 (k := 2) rfl (by omega) dL_law_1386 dL_law_1387 ?_
  refine lv_aload_n S0.1 S0.2.1 dL_law_1388 rfl (lv_at hl 3 rfl) ?_
  refine l_wrap (n := 4) S0 hG hE hNc hAB hok hw (As := [.ref (ad 0 0), .int (xs (8 * n + 1)), .int (xs (8 * n + 2)), .ref o]) (rest := []) (wL_answer l hst D Y ad o g s.heap.size e0 F (xs (8 * n + 1)) (xs (8 * n + 2)) σ) kw_932 kw_930 kw_931 kw_0 ⟨by decide, by decide, by decide +kernel⟩ ⟨Nat.le_of_ble_eq_true rfl, Nat.le_of_ble_eq_true rfl⟩ f1 rfl hl.1 (Nat.le_of_ble_eq_true rfl) dL_law_1389 ⟨show cells + 2 ≤ 601024 by omega, show slots + 12 ≤ 7293034 by omega⟩ rfl (fun ad9 H locs hw1 h00 hok => ?_)
  replace h00 : ad9 0 0 = ad 0 0 := h00
  refine lv_istore (lv' := [(5, .int ((fun e => if e = 0 then 0 else if e = 1 then 1 else 0) ex)), (0, .ref b), (1, .ref (ad 0 0)), (2, .ref (am 0 0)), (3, .ref o), (4, .int (nI (8 * n)))]) S0.1 S0.2.1 dL_law_1392 hl (by decide) rfl (fun ls hl => ?_)
  refine lv_aload_n S0.1 S0.2.1 dL_law_1394 rfl (lv_at hl 3 rfl) ?_
  refine lv_aload_n S0.1 S0.2.1 dL_law_1395 rfl (lv_at hl 1 rfl) ?_
  refine lv_iload S0.1 S0.2.1 dL_law_1396 (lv_at hl 5 rfl) ?_
  refine lv_iconst (v := 1) S0.1 S0.2.1 dL_law_1398 (by decide) ?_
  refine l_sld S0 hX hbl hbA hL hw1.1.1.2.2.1 (k := 1) rfl (by omega) dL_law_1399 dL_law_1400 ?_
  refine lv_aload_n S0.1 S0.2.1 dL_law_1401 rfl (lv_at hl 1 rfl) ?_
  refine lv_iload S0.1 S0.2.1 dL_law_1402 (lv_at hl 5 rfl) ?_
  refine lv_iconst (v := 2) S0.1 S0.2.1 dL_law_1404 (by decide) ?_
  refine l_sld S0 hX hbl hbA hL hw1.1.1.2.2.1 (k := 2) rfl (by omega) dL_law_1405 dL_law_1406 ?_
  refine l_refi S0 hw1 (As := [.int (xs (8 * n + 1)), .int (xs (8 * n + 2))]) (rest := []) (wX9_answer l D Y am F (xs (8 * n + 1)) (xs (8 * n + 2)) σm) qyX9_answer kw_1531 ⟨Nat.le_of_ble_eq_true rfl, Nat.le_of_ble_eq_true rfl⟩ f2 rfl hl.1 (Nat.le_of_ble_eq_true rfl) dL_law_1407 ⟨show cells + 2 ≤ 601024 by omega, show slots + 12 ≤ 7293034 by omega⟩ rfl (fun H locs hw2 => ?_)
  refine lv_istore (lv' := [(6, .int w), (5, .int ((fun e => if e = 0 then 0 else if e = 1 then 1 else 0) ex)), (0, .ref b), (1, .ref (ad 0 0)), (2, .ref (am 0 0)), (3, .ref o), (4, .int (nI (8 * n)))]) S0.1 S0.2.1 dL_law_1410 hl (by decide) rfl (fun ls hl => ?_)
  refine lv_aload_n S0.1 S0.2.1 dL_law_1412 rfl (lv_at hl 4 rfl) ?_
  refine l_refi S0 hw2 (As := []) (rest := []) (wX9_thrown l D Y am F σm9) qyX9_thrown kw_1323 ⟨Nat.le_of_ble_eq_true rfl, Nat.le_of_ble_eq_true rfl⟩ f3 rfl hl.1 (Nat.le_of_ble_eq_true rfl) dL_law_1413 ⟨show cells + 2 ≤ 601024 by omega, show slots + 12 ≤ 7293034 by omega⟩ rfl (fun H locs hw3 => ?_)
  refine lv_iload S0.1 S0.2.1 dL_law_1416 (lv_at hl 1 rfl) ?_
  refine lv_icmp_eq (tgt := 1423) S0.1 S0.2.1 dL_law_1418 (by decide) (fun c1 => ?_) (fun c1 => absurd rfl c1)
  refine lv_iload S0.1 S0.2.1 dL_law_1423 (lv_at hl 1 rfl) ?_
  refine lv_if_ne (tgt := 1440) S0.1 S0.2.1 dL_law_1425 (by decide) (fun c2 => ?_) (fun c2 => ?_)
  · refine lv_goto (tgt := 2620) S0.1 S0.2.1 dL_law_1440 (by decide) ?_
    exact next ad9 σ9 σm9 _ _ _ ls _ _ hw3 h00 hok f5 (show cells + 2 ≤ 126 + 20 * (n + 1) + Φ σ9 by omega) (show slots + 12 ≤ 544257 + 130 * (n + 1) + 2 * Φ σ9 by omega) (lv_sub hl [2, 3, 4, 5, 6] rfl)
  · obtain ⟨rfl, rfl⟩ := f4 (Decidable.not_not.mp (fun h => h c2))
    refine lv_aload_n S0.1 S0.2.1 dL_law_1428 rfl (lv_at hl 5 rfl) ?_
    refine lv_iconst (v := 0) S0.1 S0.2.1 dL_law_1429 (by decide) ?_
    refine l_out0 S0 hw3 dL_law_1430 ?_
    refine lv_iload S0.1 S0.2.1 dL_law_1431 (lv_at hl 0 rfl) ?_
    refine lv_i2l (v := v.toInt64) S0.1 S0.2.1 dL_law_1433 rfl ?_
    refine l_lcmp0 S0 (x := v.toInt64) dL_law_1434 ?_
    refine lv_if_eq (tgt := 1440) S0.1 S0.2.1 dL_law_1435 (by decide) (fun c3 => ?_) (fun c3 => absurd rfl c3)
    refine lv_goto (tgt := 2620) S0.1 S0.2.1 dL_law_1440 (by decide) ?_
    exact next ad9 σ9 σm9 _ _ _ ls _ _ hw3 h00 hok f5 (show cells + 2 ≤ 126 + 20 * (n + 1) + Φ σ9 by omega) (show slots + 12 ≤ 544257 + 130 * (n + 1) + 2 * Φ σ9 by omega) (lv_sub hl [2, 3, 4, 5, 6] rfl)
theorem qyX9_lose : qY yX9_lose RX9 cX9_lose 2 none 1 := ⟨⟨kw_1536, kw_1537, kw_11, kw_1538⟩, rfl, by decide, by decide, by decide +kernel⟩
theorem qyX8_lose : qY yX8_lose RX8 cX8_lose 2 none 1 := ⟨⟨kw_289, kw_290, kw_1, kw_291⟩, rfl, by decide, by decide, by decide +kernel⟩
set_option maxRecDepth 100000 in
set_option maxHeartbeats 4000000 in
theorem wLaw_lose {p : Program} {l : Launch} {e : Env} {s : State} {m : MethodId} {below : List Frame} {meth : Method} {c : Code} {Q : State → Prop} {D : va_G} {Y : Nat → ClassId} {am : qAd} {b L : Nat} {xs : Nat → Int32} {x0 o e0 F n : Nat} {I : Nat → qS → qS → Prop} {Φ : qS → Nat} (S0 : CallFix p m c cL_law 7 s #[.ref b] gws "LeasehallLaw") (hst : l.stackTraces = false) (hX : va_X b L xs s s.heap) (hbl : b < s.heap.size) (hL : L ≤ 4096) (hG : qG s.heap.size s s.heap) (hE : qE s.heap.size e0 s s.heap) (hNc : qNc s) (hΦ : ∀ n σ σm, I n σ σm → Φ σ ≤ 90000) (hc : cI_lose F I Φ) (hn : 8 * n + 8 ≤ L) (next : lNext p l e s m b below meth c Q D Y am x0 o e0 I Φ n (n + 1) 2620) : lNext p l e s m b below meth c Q D Y am x0 o e0 I Φ n n 1443 := by
  intro ad σ σm g H locs ls cells slots hw h0 hok hI hcl hsl hl
  have hbA : ¬ lA s b := Nat.not_le.mpr hbl
  have hAB : ∀ q, lA s q → s.heap.size ≤ q := fun _ h => h
  have hn5 : n < 512 := by omega
  obtain ⟨σ9, σm9, f1, f2, f5, f6⟩ := hc n σ σm (if xs (8 * n + 1) = 0 then 0 else 1) hn5 hI (by by_cases c9 : xs (8 * n + 1) = 0 <;> simp [c9])
  have hΦ9 := hΦ _ _ _ f5
  subst h0
  refine lv_aload_n S0.1 S0.2.1 dL_law_1443 rfl (lv_at hl 1 rfl) ?_
  refine lv_aload_n S0.1 S0.2.1 dL_law_1444 rfl (lv_at hl 0 rfl) ?_
  refine lv_iload S0.1 S0.2.1 dL_law_1445 (lv_at hl 4 rfl) ?_
  refine lv_iconst (v := 1) S0.1 S0.2.1 dL_law_1447 (by decide) ?_
  refine l_sld S0 hX hbl hbA hL hw.1.1.2.2.1 (k := 1) rfl (by omega) dL_law_1448 dL_law_1449 ?_
  refine l_bool S0 (t := 1457) dL_law_1450 dL_law_1453 dL_law_1454 dL_law_1457 rfl ?_
  refine l_clsv S0 hw (As := [.int (if xs (8 * n + 1) = 0 then 0 else 1)]) (rest := []) (wX8_lose l D Y ad F (if xs (8 * n + 1) = 0 then 0 else 1) σ) qyX8_lose kw_288 ⟨Nat.le_of_ble_eq_true rfl, Nat.le_of_ble_eq_true rfl⟩ f1 rfl hl.1 (Nat.le_of_ble_eq_true rfl) dL_law_1458 ⟨show cells ≤ 601024 by omega, show slots ≤ 7293034 by omega⟩ rfl (fun H locs hw1 => ?_)
  refine lv_aload_n S0.1 S0.2.1 dL_law_1461 rfl (lv_at hl 2 rfl) ?_
  refine lv_aload_n S0.1 S0.2.1 dL_law_1462 rfl (lv_at hl 0 rfl) ?_
  refine lv_iload S0.1 S0.2.1 dL_law_1463 (lv_at hl 4 rfl) ?_
  refine lv_iconst (v := 1) S0.1 S0.2.1 dL_law_1465 (by decide) ?_
  refine l_sld S0 hX hbl hbA hL hw1.1.1.2.2.1 (k := 1) rfl (by omega) dL_law_1466 dL_law_1467 ?_
  refine l_bool S0 (t := 1475) dL_law_1468 dL_law_1471 dL_law_1472 dL_law_1475 rfl ?_
  refine l_refv S0 hw1 (As := [.int (if xs (8 * n + 1) = 0 then 0 else 1)]) (rest := []) (wX9_lose l D Y am F (if xs (8 * n + 1) = 0 then 0 else 1) σm) qyX9_lose kw_1535 ⟨Nat.le_of_ble_eq_true rfl, Nat.le_of_ble_eq_true rfl⟩ f2 rfl hl.1 (Nat.le_of_ble_eq_true rfl) dL_law_1476 ⟨show cells ≤ 601024 by omega, show slots ≤ 7293034 by omega⟩ rfl (fun H locs hw2 => ?_)
  refine lv_goto (tgt := 2620) S0.1 S0.2.1 dL_law_1479 (by decide) ?_
  exact next ad σ9 σm9 g _ _ ls cells slots hw2 rfl (hok.same (gn_fX8_lose f1)) f5 (by omega) (by omega) (lv_sub hl [0, 1, 2, 3, 4] rfl)

/-! THE LIST'S CONSTRUCTOR; filling an array of a list of cells -/
theorem lyJxa1e45 : lY yJxa1e45_init_da8c8 cJxa1e45_init_da8c8 1 0 := ⟨⟨kw_151, kw_5, kw_152⟩, rfl, by decide, by decide, by decide +kernel⟩
theorem lyJxc12de : lY yJxc12de_init_da8c8 cJxc12de_init_da8c8 1 0 := ⟨⟨kw_148, kw_6, kw_149⟩, rfl, by decide, by decide, by decide +kernel⟩
theorem lyJx4a65c : lY yJx4a65c_init_da8c8 cJx4a65c_init_da8c8 1 0 := ⟨⟨kw_145, kw_7, kw_146⟩, rfl, by decide, by decide, by decide +kernel⟩
set_option maxRecDepth 100000 in
theorem kJxa1e45_init (l : Launch) (D : va_G) (Y : Nat → ClassId) (B0 e0 h0 : Nat) (ws : va_W) : qK l yJxa1e45_init_da8c8 cJxa1e45_init_da8c8 1 1 20 0 0 B0 e0 D Y [.ref h0] ws (fun _ => ws) := by
  refine l_of (by decide) rfl (Nat.le_of_ble_eq_true rfl) "java/util/AbstractCollection" rfl (fun p e s m below meth c A Q S0 hin hx hret ls hl => ?_)
  replace hl : lv_has ls 1 [(0, .ref h0)] := hl
  refine lv_aload_n S0.1 S0.2.1 dJxa1e45_init_da8c8_0 rfl (lv_at hl 0 rfl) ?_
  refine l_obj S0 kw_153 hl.1 ⟨Nat.le_of_ble_eq_true rfl, Nat.le_of_ble_eq_true rfl⟩ (Nat.le_of_ble_eq_true rfl) dJxa1e45_init_da8c8_1 ?_
  exact hret (fun _ => 0) dJxa1e45_init_da8c8_4 hx
set_option maxRecDepth 100000 in
theorem kJxc12de_init (l : Launch) (D : va_G) (Y : Nat → ClassId) (B0 e0 h0 : Nat) (x : Int32) (v1 v2 : Value) : qK l yJxc12de_init_da8c8 cJxc12de_init_da8c8 1 2 40 0 0 B0 e0 D Y [.ref h0] [(h0, .inr (0, [.int x, v1, v2]))] (fun _ => [(h0, .inr (0, [.int 0, v1, v2]))]) := by
  refine l_of (by decide) rfl (Nat.le_of_ble_eq_true rfl) "java/util/AbstractList" rfl (fun p e s m below meth c A Q S0 hin hx hret ls hl => ?_)
  replace hl : lv_has ls 1 [(0, .ref h0)] := hl
  refine lv_aload_n S0.1 S0.2.1 dJxc12de_init_da8c8_0 rfl (lv_at hl 0 rfl) ?_
  refine l_call S0 hx (As := []) (rest := []) (wr := []) [0] [] (kJxa1e45_init l D Y B0 e0 h0 [(h0, .inr (0, [.int x, v1, v2]))]) lyJxa1e45 kw_150 ⟨Nat.le_of_ble_eq_true rfl, Nat.le_of_ble_eq_true rfl⟩ rfl rfl rfl rfl rfl (by decide) hl.1 (Nat.le_of_ble_eq_true rfl) dJxc12de_init_da8c8_1 ⟨Nat.le_of_ble_eq_true rfl, Nat.le_of_ble_eq_true rfl⟩ rfl (fun a1 H locs hx => ?_)
  replace hx : lX B0 e0 D Y A s [(h0, .inr (0, [.int x, v1, v2]))] _ _ := hx
  refine lv_aload_n S0.1 S0.2.1 dJxc12de_init_da8c8_4 rfl (lv_at hl 0 rfl) ?_
  refine lv_iconst (v := 0) S0.1 S0.2.1 dJxc12de_init_da8c8_5 (by decide) ?_
  refine l_put S0 hx hin (C := RJx4a65c) (T := TJx4a65c) (N := 3) 0 rfl rfl inJx4a65c tyJx4a65c tyJx4a65c_ok nmJx4a65c 0 (by decide) kw_158 rfl (ty := .int) rfl rfl rfl (Nat.le_of_ble_eq_true rfl) dJxc12de_init_da8c8_6 (fun H locs hx => ?_)
  exact hret (fun _ => 0) dJxc12de_init_da8c8_9 hx
set_option maxRecDepth 100000 in
theorem kJx4a65c_init (l : Launch) (D : va_G) (Y : Nat → ClassId) (B0 e0 h0 : Nat) : qK l yJx4a65c_init_da8c8 cJx4a65c_init_da8c8 1 3 60 0 0 B0 e0 D Y [.ref h0] [(h0, .inr (0, [.int 0, .null, .int 0]))] (fun _ => [(h0, .inr (0, [.int 0, .ref e0, .int 0]))]) := by
  refine l_of (by decide) rfl (Nat.le_of_ble_eq_true rfl) "java/util/ArrayList" rfl (fun p e s m below meth c A Q S0 hin hx hret ls hl => ?_)
  replace hl : lv_has ls 1 [(0, .ref h0)] := hl
  refine lv_aload_n S0.1 S0.2.1 dJx4a65c_init_da8c8_0 rfl (lv_at hl 0 rfl) ?_
  refine l_call S0 hx (As := []) (rest := []) (wr := []) [0] [] (kJxc12de_init l D Y B0 e0 h0 0 .null (.int 0)) lyJxc12de kw_147 ⟨Nat.le_of_ble_eq_true rfl, Nat.le_of_ble_eq_true rfl⟩ rfl rfl rfl rfl rfl (by decide) hl.1 (Nat.le_of_ble_eq_true rfl) dJx4a65c_init_da8c8_1 ⟨Nat.le_of_ble_eq_true rfl, Nat.le_of_ble_eq_true rfl⟩ rfl (fun a1 H locs hx => ?_)
  replace hx : lX B0 e0 D Y A s [(h0, .inr (0, [.int 0, .null, .int 0]))] _ _ := hx
  refine lv_aload_n S0.1 S0.2.1 dJx4a65c_init_da8c8_4 rfl (lv_at hl 0 rfl) ?_
  refine va_gets S0.1 S0.2.1 (hx.2.2.2.2.2.2.2.2.1.narrow hx.2.2.2.2.2.1) hx.2.2.1 S0.2.2.2.1 (S0.2.2.2.2 _ kw_154) (fun _ h => h) dJx4a65c_init_da8c8_5 ?_
  refine l_put S0 hx hin (C := RJx4a65c) (T := TJx4a65c) (N := 3) 0 rfl rfl inJx4a65c tyJx4a65c tyJx4a65c_ok nmJx4a65c 1 (by decide) kw_156 rfl (ty := .array (.object "java/lang/Object")) (tyJx4a65c_ok 1 (by decide)) rfl rfl (Nat.le_of_ble_eq_true rfl) dJx4a65c_init_da8c8_8 (fun H locs hx => ?_)
  exact hret (fun _ => 0) dJx4a65c_init_da8c8_11 hx
section LF
variable {p : Program} {l : Launch} {e : Env} {R : Room} {s : State} {m : MethodId} {args : Array Value} {below : List Frame} {meth : Method} {c : Code} {H : Heap} {locs : List Loc} {cells slots : Nat} {Q : State → Prop}
variable {cc : ByteArray} {pc nL : Nat} {ls : Array Slot} {rest : List Value} {own : String}
variable {D : va_G} {Y : Nat → ClassId} {A : Nat → Prop} {ws : va_W} {B0 e0 : Nat}
def fL (Y : Nat → ClassId) (n : Nat) : qLay := (fun _ k => if k = 0 then 1 else 0, fun f _ _ _ _ => .inl (Y 0, n, .inl f))
theorem l_fill (S0 : CallFix p m c cc nL s args gws own) (hx : lX B0 e0 D Y A s ws H locs) {a n : Nat} (q0 : Nat) {f : Nat → Int32} (he : ws[q0]? = some (a, .inl (Y 0, n, .inl f))) (hn : n < 2 ^ 31) {idx : Nat} (hl : Cond.methodLink own idx yJ7_fill_53178 ∈ gws) (hR : 1 ≤ R.frames ∧ 23 ≤ R.locals)
    (hl2 : ls.size = nL) (hcat : (rest.map fun v => v.category).sum ≤ 8) (hdg : decode cc pc = .ok (.invokestatic idx, 3)) (hroom : cells ≤ R.cells ∧ slots ≤ R.slots) {v : Int32}
    (kk : ∀ (H1 : Heap) (locs1 : List Loc), lX B0 e0 D Y A s (ws.set q0 (a, .inl (Y 0, n, .inl (fun j => if j < n then v else f j)))) H1 locs1 → W p l e R s m args below meth c H1 locs1 cells slots Q (F0 m (pc + 3) ls rest)) : W p l e R s m args below meth c H locs cells slots Q (F0 m pc ls (.int v :: .ref a :: rest)) := by
  obtain ⟨hP, hD, hS, hK, hA, hAB, hE⟩ := hx
  have hd0 : ∀ {σ : qS} {k i : Nat}, qd (fL Y n) σ k i → k = 0 ∧ i = 0 := fun {σ k i} h => by
    have h9 : i < (if k = 0 then 1 else 0) := h
    by_cases c : k = 0
    · rw [if_pos c] at h9; exact ⟨c, by omega⟩
    · rw [if_neg c] at h9; exact absurd h9 (Nat.not_lt_zero i)
  have hw : qW D (fL Y n) (qT Y) A s.heap s (fun _ _ => a) (fun _ _ => f, fun _ _ => 0) H locs := by
    refine ⟨⟨fun k i h => ?_, fun k i k' i' h h' _ => ?_⟩, fun k i h => hD.2 q0 _ he, hS, hK, hA⟩
    · exact hP q0 _ he
    · obtain ⟨rfl, rfl⟩ := hd0 h
      obtain ⟨rfl, rfl⟩ := hd0 h'
      exact ⟨rfl, rfl⟩
  refine va_callv (va_runS (As := [.ref a, .int v]) (rest := rest) S0 (wJ7_fill l D (fL Y n) (qT Y) (fun _ _ => a) (fun _ _ => f, fun _ _ => 0) (k := 0) (i := 0) (n := n) (t0 := 0) Nat.zero_lt_one (fun _ => rfl) rfl hn v H.size _ rfl) (q_CB S0 qsJ7_fill hl hR) ⟨q_blind, fun U hU hW => ⟨rfl, by rw [hU], by rw [hU]; exact hw.1, va_K.moved hW.alike hK⟩⟩ rfl rfl hl2 rfl (lv_room hcat) hdg hroom) hS (fun q _ h => q_sub hw q h) (q_sub hw) (fun u t H1 locs1 ht hvm hp hB hz hk hS1 => ?_)
  cases hp
  have h1 := hB.1.1 0 0 Nat.zero_lt_one
  rw [ht] at h1
  have hl9 := (List.getElem?_eq_some_iff.mp he).1
  refine kk H1 locs1 ⟨fun k q hq => ?_, hD.set he, hS1, hK, hA, hAB, hE⟩
  by_cases c : k = q0
  · subst c
    rw [List.getElem?_set_self hl9] at hq
    cases hq
    exact h1
  · rw [List.getElem?_set_ne (Ne.symm c)] at hq
    have hlt := (hP k q hq).lt
    refine (hP k q hq).kept (hk _ hlt (fun h => ?_))
    rcases h with ⟨k9, i9, -, h9⟩ | h9
    · exact c (hD.1 k q0 q _ hq he h9.symm)
    · omega
end LF
theorem kcM : Cond.constant "LeasehallModel" 58 (90000 : Int32) ∈ gws := kt5 186 rfl rfl
theorem kcN : Cond.constant "LeasehallModel" 119 (80000 : Int32) ∈ gws := kt5 187 rfl rfl

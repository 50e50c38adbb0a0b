/-! PURE: make, in both -/
/-- what has to be in range -/
def mkG (x3 x4 x5 x6 : Int32) : Prop := (x4 = 0 → ¬ x3 < 0 ∧ ¬ 99 < x3) ∧ (¬ x5 < -1000 ∧ ¬ 1000 < x5) ∧ (¬ x6 < 0 ∧ ¬ 3 < x6)
section MA
variable {F : Nat}
theorem e_mk9 {m : qS} {x1 x2 x3 x4 x5 x6 x7 : Int32} : ∃ t0, fX9_make F x1 x2 x3 x4 x5 x6 x7 m = fX9_make_47 F x1 x2 x3 x4 x5 x6 x7 t0 m ∧ ((t0 = 1 ∧ mkG x3 x4 x5 x6) ∨ (t0 = 0 ∧ ¬ mkG x3 x4 x5 x6)) := by
  have k16 : ∃ t0, fX9_make_16 F x1 x2 x3 x4 x5 x6 x7 m = fX9_make_47 F x1 x2 x3 x4 x5 x6 x7 t0 m ∧ ((t0 = 1 ∧ (¬ x5 < -1000 ∧ ¬ 1000 < x5) ∧ (¬ x6 < 0 ∧ ¬ 3 < x6)) ∨ (t0 = 0 ∧ ¬ ((¬ x5 < -1000 ∧ ¬ 1000 < x5) ∧ (¬ x6 < 0 ∧ ¬ 3 < x6)))) := by
    unfold fX9_make_16 fX9_make_46
    rw [e_in, bnd2_s]
    by_cases c5 : ¬ x5 < -1000 ∧ ¬ 1000 < x5
    · rw [b2_t c5, if_neg (show ¬ (1 : Int32) = 0 by decide), e_in, bnd2_s]
      by_cases c6 : ¬ x6 < 0 ∧ ¬ 3 < x6
      · rw [b2_t c6, if_neg (show ¬ (1 : Int32) = 0 by decide)]
        exact ⟨1, rfl, Or.inl ⟨rfl, c5, c6⟩⟩
      · rw [b2_f c6, if_pos rfl]
        exact ⟨0, rfl, Or.inr ⟨rfl, fun q => c6 q.2⟩⟩
    · rw [b2_f c5, if_pos rfl]
      exact ⟨0, rfl, Or.inr ⟨rfl, fun q => c5 q.1⟩⟩
  obtain ⟨t0, t1, t2⟩ := k16
  unfold fX9_make mkG
  by_cases c4 : x4 = 0
  · rw [if_pos c4, e_in, bnd2_s]
    by_cases c3 : ¬ x3 < 0 ∧ ¬ 99 < x3
    · rw [b2_t c3, if_neg (show ¬ (1 : Int32) = 0 by decide)]
      rcases t2 with ⟨q1, q2⟩ | ⟨q1, q2⟩
      · exact ⟨t0, t1, Or.inl ⟨q1, fun _ => c3, q2⟩⟩
      · exact ⟨t0, t1, Or.inr ⟨q1, fun q => q2 q.2⟩⟩
    · rw [b2_f c3, if_pos rfl]
      exact ⟨0, rfl, Or.inr ⟨rfl, fun q => c3 (q.1 c4)⟩⟩
  · rw [if_neg c4]
    rcases t2 with ⟨q1, q2⟩ | ⟨q1, q2⟩
    · exact ⟨t0, t1, Or.inl ⟨q1, fun q => absurd q c4, q2⟩⟩
    · exact ⟨t0, t1, Or.inr ⟨q1, fun q => q2 q.2⟩⟩
/-- the class's checks of what is in range -/
theorem e_mk8 {σ : qS} {x3 x4 x5 x6 : Int32} {k : qS → Option (Int32 × Nat × qS)} : (mkG x3 x4 x5 x6 → bnd3 (fX8_mustBeName F x3 x4 σ) (fun _ s3 => bnd3 (fX8_mustBeValue F x5 s3) (fun _ s4 => bnd2 (fX8_isWithin F x6 0 3 s4) fun v6 s5 => (if v6 = 0 then (some (0, 2, s5)) else k s5)) (fun e s => some (0, e, s))) (fun e s => some (0, e, s)) = k σ) ∧ (¬ mkG x3 x4 x5 x6 → bnd3 (fX8_mustBeName F x3 x4 σ) (fun _ s3 => bnd3 (fX8_mustBeValue F x5 s3) (fun _ s4 => bnd2 (fX8_isWithin F x6 0 3 s4) fun v6 s5 => (if v6 = 0 then (some (0, 2, s5)) else k s5)) (fun e s => some (0, e, s))) (fun e s => some (0, e, s)) = some (0, 2, σ)) := by
  have hname : ((x4 = 0 → ¬ x3 < 0 ∧ ¬ 99 < x3) → fX8_mustBeName F x3 x4 σ = some (0, 0, σ)) ∧ (¬ (x4 = 0 → ¬ x3 < 0 ∧ ¬ 99 < x3) → fX8_mustBeName F x3 x4 σ = some (0, 2, σ)) := by
    unfold fX8_mustBeName fX8_mustBeName_25
    by_cases c4 : x4 = 0
    · rw [if_pos c4, e_isWithin, bnd2_s]
      by_cases c3 : ¬ x3 < 0 ∧ ¬ 99 < x3
      · rw [b2_t c3, if_neg (show ¬ (1 : Int32) = 0 by decide)]
        exact ⟨fun _ => rfl, fun q => absurd (fun _ => c3) q⟩
      · rw [b2_f c3, if_pos rfl]
        exact ⟨fun q => absurd (q c4) c3, fun _ => rfl⟩
    · rw [if_neg c4]
      exact ⟨fun _ => rfl, fun q => absurd (fun w => absurd w c4) q⟩
  unfold mkG
  by_cases cn : x4 = 0 → ¬ x3 < 0 ∧ ¬ 99 < x3
  · rw [hname.1 cn, bnd3_s0]
    unfold fX8_mustBeValue
    rw [e_isWithin, bnd2_s]
    by_cases c5 : ¬ x5 < -1000 ∧ ¬ 1000 < x5
    · rw [b2_t c5, if_neg (show ¬ (1 : Int32) = 0 by decide), bnd3_s0, e_isWithin, bnd2_s]
      by_cases c6 : ¬ x6 < 0 ∧ ¬ 3 < x6
      · rw [b2_t c6, if_neg (show ¬ (1 : Int32) = 0 by decide)]
        exact ⟨fun _ => rfl, fun q => absurd ⟨cn, c5, c6⟩ q⟩
      · rw [b2_f c6, if_pos rfl]
        exact ⟨fun q => absurd q.2.2 c6, fun _ => rfl⟩
    · rw [b2_f c5, if_pos rfl, bnd3_se (by decide)]
      exact ⟨fun q => absurd q.2.1 c5, fun _ => rfl⟩
  · rw [hname.2 cn, bnd3_se (by decide)]
    exact ⟨fun q => absurd q.1 cn, fun _ => rfl⟩
theorem c_make (hF : 100000 ≤ F) : cI_make F kI phi := by
  intro n σ m p up nm9 nb vl kd ls hn h hnb
  obtain ⟨h48, h10, hZ⟩ := kI_Z h
  obtain ⟨T, Y, y1, y2, y3, y4, y5, y6, y7⟩ := kI_T h
  obtain ⟨t0, eM, ht0⟩ := e_mk9 (F := F) (m := m) (x1 := p) (x2 := up) (x3 := nm9) (x4 := nb) (x5 := vl) (x6 := kd) (x7 := ls)
  rw [eM]
  unfold fX8_make fX9_make_47
  have thr : ∀ (σ' m' : qS) (u : Int32) (e : Nat) (c : Int32), (e = 1 ∧ c = 1) ∨ (e = 2 ∧ c = 2) ∨ (e = 3 ∧ c = 3) → kI n σ' m' → σ'.2 = σ.2 → lC F kI phi (fun e => if e = 0 then 0 else if e = 1 then 1 else if e = 2 then 2 else if e = 3 then 3 else 0) n σ (some (u, e, σ')) (fX9_make_126 F p up nm9 nb vl kd ls c m') (fun _ => 0) := fun σ' m' u e c hec hk hN => by
    unfold fX9_make_126 fX9_make_165
    rcases hec with ⟨rfl, rfl⟩ | ⟨rfl, rfl⟩ | ⟨rfl, rfl⟩
    all_goals
      rw [e_h1 (by decide), bnd2_s, if_neg (show ¬ (1 : Int32) = 0 by decide)]
      exact lC_t rfl (by decide) hk (by omega) hN rfl
  by_cases hp : ∃ z, z < σ.2 0 0 ∧ p = nI z
  · obtain ⟨z, hz, rfl⟩ := hp
    have hz10 : z < 10 := by omega
    rw [e_known1 hz h10, bnd3_s0, e_ses1 h48 hz h10, bnd2_s, if_neg (show ¬ (1 : Int32) = 0 by decide)]
    by_cases hG : mkG nm9 nb vl kd
    · have ht1 : t0 = 1 := by
        rcases ht0 with q | q
        · exact q.1
        · exact absurd hG q.2
      rw [e_mk8.1 hG, ht1, if_neg (show ¬ (1 : Int32) = 0 by decide)]
      -- all checks but the last are through
      have go : ∀ a, fX8_nextAct F z σ = some (a, 0, lsC σ z) → m.1 135 0 z = 0 → fX9_does F (nI z) (qI m 0 0 57 0) = some (lsM m z) → kI n (lsC σ z) (lsM m z) → ((a = 0 ∧ m.1 136 0 z = 0) ∨ ∃ g, g < 6 ∧ a = 1 + 6 * z + g ∧ m.1 136 0 z = 1 ∧ m.1 137 0 z = nI g ∧ σ.1 50 z 12 = nI g) → lC F kI phi (fun e => if e = 0 then 0 else if e = 1 then 1 else if e = 2 then 2 else if e = 3 then 3 else 0) n σ (fX8_make_85 F (nI z) up nm9 nb vl kd ls z σ) (fX9_make_126 F (nI z) up nm9 nb vl kd ls 0 m) (fun _ => 0) := fun a w1 w3 w4 w5 w6 => by
        have key : ∀ (t : Int32) (b : Bool), (b = true → t = 1000) → (b = false → t = nm9 ∧ ∃ x, x < 100 ∧ nm9 = nI x) → lC F kI phi (fun e => if e = 0 then 0 else if e = 1 then 1 else if e = 2 then 2 else if e = 3 then 3 else 0) n σ (fX8_make_108 F (nI z) vl kd ls z a a up t (lsC σ z)) (fX9_make_156 F vl kd ls (nI z) 0 up nm9 (if b = true then 1 else 0) (qI m 0 0 57 0)) (fun _ => 0) := fun t b hb1 hb0 => by
          have ha := a_lt (n := n) hz w6
          obtain ⟨s, r1, r2, ⟨r3, r4, r5, r6, r8⟩, r7⟩ := e_toMake (F := F) (σ := lsC σ z) (a := a) (up := up) (nm9 := t) (vl := vl) (kd := kd) ha
          have ha2 : a < 1 + 6 * s.2 0 0 := by rw [r2]; exact ha
          have fin : ∀ hd : Int32, (kd = 1 → hd = nI z) → (kd = 2 → hd = ls) → lC F kI phi (fun e => if e = 0 then 0 else if e = 1 then 1 else if e = 2 then 2 else if e = 3 then 3 else 0) n σ (fX8_make_129 F z a a hd s) (fX9_make_156 F vl kd ls (nI z) 0 up nm9 (if b = true then 1 else 0) (qI m 0 0 57 0)) (fun _ => 0) := fun hd h1 h2 => by
            obtain ⟨u, σ', m', e1, e2, e3, e4, e5⟩ := pr_do (F := F) (a := a) (σ2 := qI s 56 a 6 hd) (w := 0) (x1 := up) (x2 := nm9) (x3 := if b = true then 1 else 0) (x4 := vl) (x5 := kd) (x6 := ls) w5 hn hz w3 w4 w6 r2 (fun f j q w => by rw [qI_ap, if_neg (by omega)]; exact r7 f j q (by omega)) (Or.inl ⟨rfl, by rw [qI_ap, if_neg (by omega)]; exact r3, by rw [qI_ap, if_neg (by omega)]; exact r4, by rw [qI_ap, if_neg (by omega)]; exact r6, by rw [qI_ap, if_neg (by omega)]; exact r8, b, rfl, (fun w => by rw [qI_ap, if_neg (by omega), r5]; exact hb1 w), (fun w => by rw [qI_ap, if_neg (by omega), r5]; exact hb0 w), (fun w => by rw [qI_ap, if_pos ⟨rfl, rfl, rfl⟩]; exact h1 w), (fun w => by rw [qI_ap, if_pos ⟨rfl, rfl, rfl⟩]; exact h2 w)⟩) hF
            unfold fX8_make_129 fX9_make_156 fX9_make_165
            rw [gnl_pos ha2, nm_x, e1, bnd2_s, e2, bnd2_s]
            exact lC_o rfl e3 e5 (by rw [phi_N e4]; omega)
          unfold fX8_make_108
          rw [gnl_pos ha, r1, bnd_s]
          by_cases c2 : kd = 2
          · rw [if_pos c2]
            exact fin ls (fun w => by rw [c2] at w; exact absurd w (by decide)) (fun _ => rfl)
          · rw [if_neg c2]
            exact fin (nI z) (fun _ => rfl) (fun w => absurd w c2)
        unfold fX8_make_85 fX9_make_126
        rw [w1, bnd3_s0, e_h0, bnd2_s, if_pos rfl]
        rcases hnb with rfl | rfl
        · rw [if_pos rfl, if_pos rfl]
          obtain ⟨x, -, x1, x2⟩ := (in_rng (a := 0) (b := 99) (by decide) (by decide)).mpr (hG.1 rfl)
          exact key nm9 false (fun w => by cases w) (fun _ => ⟨rfl, x, by omega, x2⟩)
        · rw [if_neg (show ¬ (1 : Int32) = 0 by decide), if_neg (show ¬ (1 : Int32) = 0 by decide)]
          exact key 1000 true (fun _ => rfl) (fun w => by cases w)
      unfold fX9_make_96 fX9_make_121 fX9_make_125
      by_cases c2 : kd = 2
      · rw [if_pos c2, if_pos c2]
        repeat rw [nm_x]
        rw [y6, e_in, bnd2_s]
        by_cases hl : ∃ l, l < Y ∧ ls = nI l
        · rw [b2_t ((e_range y5).mp hl), if_neg (show ¬ (1 : Int32) = 0 by decide)]
          obtain ⟨l, hl, rfl⟩ := hl
          obtain ⟨t, r, l1, l2, l3, l4, l5, l6, l7, l8, l9⟩ := y7 l hl
          have hl' : l < σ.2 1 0 := by rw [y4]; exact hl
          have hl10 : l < 10 := by omega
          rw [e_kLease1 hl' (by omega), bnd3_s0]
          rcases nx (F := F) h (by omega) hz (by omega) with ⟨s1, m1, w1, w2, w3, w4, w5⟩ | ⟨a, w0, w1, w2, w3, w4, w5, w6⟩
          · rw [w2, bnd2_s, if_neg (show ¬ (1 : Int32) = 0 by decide)]
            rcases w5 with w5 | ⟨w5, rfl, rfl⟩
            · rw [w5, bnd3_se (by decide)]
              exact thr _ _ _ 3 3 (Or.inr (Or.inr ⟨rfl, rfl⟩)) w3 w4
            · rw [w5, bnd3_s0, gnl_pos hl', nm_x]
              by_cases c8 : s1.1 57 l 2 = 0
              · rw [if_pos c8]
                unfold fX8_make_85
                rw [w1, bnd3_se (by decide)]
                exact thr _ _ _ 3 3 (Or.inr (Or.inr ⟨rfl, rfl⟩)) w3 w4
              · rw [if_neg c8]
                exact thr _ _ _ 3 3 (Or.inr (Or.inr ⟨rfl, rfl⟩)) w3 w4
          · rw [w0, bnd3_s0, gnl_pos hl', nm_x, w2, bnd2_s, if_pos rfl, if_pos c2, ldi_nI hl10 (by decide), l8]
            rcases l9 with l9 | l9
            · rw [l9, if_pos rfl, if_neg (show ¬ (0 : Int32) = 1 by decide)]
              exact go a w1 w3 w4 w5 w6
            · rw [l9, if_neg (show ¬ (1 : Int32) = 0 by decide), if_pos rfl]
              exact thr _ _ _ 3 3 (Or.inr (Or.inr ⟨rfl, rfl⟩)) h rfl
        · rw [b2_f (fun q => hl ((e_range y5).mpr q)), if_pos rfl, e_kLease0 (by omega) (by rw [y4]; exact hl), bnd3_se (by decide)]
          exact thr _ _ _ 1 1 (Or.inl ⟨rfl, rfl⟩) h rfl
      · rw [if_neg c2, if_neg c2]
        rcases nx (F := F) h (by omega) hz (by omega) with ⟨s1, m1, w1, w2, w3, w4, w5⟩ | ⟨a, w0, w1, w2, w3, w4, w5, w6⟩
        · rw [w2, bnd2_s, if_neg (show ¬ (1 : Int32) = 0 by decide)]
          rcases w5 with w5 | ⟨w5, rfl, rfl⟩
          · rw [w5, bnd3_se (by decide)]
            exact thr _ _ _ 3 3 (Or.inr (Or.inr ⟨rfl, rfl⟩)) w3 w4
          · rw [w5, bnd3_s0]
            unfold fX8_make_85
            rw [w1, bnd3_se (by decide)]
            exact thr _ _ _ 3 3 (Or.inr (Or.inr ⟨rfl, rfl⟩)) w3 w4
        · rw [w0, bnd3_s0, w2, bnd2_s, if_pos rfl, if_neg c2]
          exact go a w1 w3 w4 w5 w6
    · have ht1 : t0 = 0 := by
        rcases ht0 with q | q
        · exact absurd q.2 hG
        · exact q.1
      rw [e_mk8.2 hG, ht1, if_pos rfl]
      exact thr _ _ _ 2 2 (Or.inr (Or.inl ⟨rfl, rfl⟩)) h rfl
  · rw [e_known0 h10 hp, bnd3_se (by decide), e_ses0 h48 h10 hp, bnd2_s, if_pos rfl]
    exact thr _ _ _ 1 1 (Or.inl ⟨rfl, rfl⟩) h rfl
end MA

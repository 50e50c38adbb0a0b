/-! PURE: the calls that tell acts, in both -/
section AK
variable {F : Nat}
theorem a_lt {n z a : Nat} {σ : qS} {P : Prop} {Q : Nat → Prop} (hz : z < σ.2 0 0) (h : (a = 0 ∧ P) ∨ ∃ g, g < 6 ∧ a = 1 + 6 * z + g ∧ Q g) : a < 1 + 6 * (lsC σ z).2 0 0 := by
  show a < 1 + 6 * σ.2 0 0
  rcases h with ⟨rfl, -⟩ | ⟨g, g1, rfl, -⟩ <;> omega
theorem c_set (hF : 100000 ≤ F) : cI_set F kI phi := by
  intro n σ m p x v w hn h
  obtain ⟨h48, h10, hZ⟩ := kI_Z h
  unfold fX8_set fX9_set fX8_mustBeValue
  have thr : ∀ (σ' m' : qS) (u : Int32) (e : Nat) (c : Int32), (e = 1 ∧ c = 1) ∨ (e = 2 ∧ c = 2) ∨ (e = 3 ∧ c = 3) → kI n σ' m' → σ'.2 = σ.2 → lC F kI phi (fun e => if e = 0 then 0 else if e = 1 then 1 else if e = 2 then 2 else if e = 3 then 3 else 0) n σ (some (u, e, σ')) (fX9_set_44 F p x v w c m') (fun _ => 0) := fun σ' m' u e c hec hk hN => by
    unfold fX9_set_44 fX9_set_67
    rcases hec with ⟨rfl, rfl⟩ | ⟨rfl, rfl⟩ | ⟨rfl, rfl⟩
    all_goals
      rw [e_h1 (by decide), bnd2_s, if_neg (show ¬ (1 : Int32) = 0 by decide)]
      exact lC_t rfl (by decide) hk (by omega) hN rfl
  by_cases hp : ∃ z, z < σ.2 0 0 ∧ p = nI z
  · obtain ⟨z, hz, rfl⟩ := hp
    rw [e_known1 hz h10, bnd3_s0, e_ses1 h48 hz h10, bnd2_s, if_neg (show ¬ (1 : Int32) = 0 by decide), e_isWithin, bnd2_s, e_in, bnd2_s]
    by_cases c1 : ¬ v < -1000 ∧ ¬ 1000 < v
    · rw [b2_t c1, if_neg (show ¬ (1 : Int32) = 0 by decide), if_neg (show ¬ (1 : Int32) = 0 by decide), bnd3_s0]
      rcases nx (F := F) h (by omega) hz (by omega) with ⟨s1, m1, w1, w2, w3, w4, -⟩ | ⟨a, -, w1, w2, w3, w4, w5, w6⟩
      · rw [w1, bnd3_se (by decide), w2, bnd2_s, if_neg (show ¬ (1 : Int32) = 0 by decide)]
        exact thr _ _ _ 3 3 (Or.inr (Or.inr ⟨rfl, rfl⟩)) w3 w4
      · obtain ⟨s, t1, t2, ⟨t3, t4, t5, t6⟩, t7⟩ := e_toDo (F := F) (σ := lsC σ z) (k := 1) (nd := x) (nb := v) (vr := w) (a_lt (n := n) hz w6)
        obtain ⟨u, σ', m', d1, d2, d3, d4, d5⟩ := pr_do (F := F) (w := 1) (x1 := x) (x2 := v) (x3 := w) (x4 := 0) (x5 := 0) (x6 := 0) w5 hn hz w3 w4 w6 t2 (fun f j q w => t7 f j q (by omega)) (Or.inr (Or.inl ⟨rfl, t3, t4, t5, t6⟩)) hF
        unfold fX9_set_44 fX9_set_67
        rw [w1, bnd3_s0, gnl_pos (a_lt (n := n) hz w6), t1, bnd_s, d1, bnd2_s, w2, bnd2_s, if_pos rfl, e_h0, bnd2_s, if_pos rfl, d2, bnd2_s]
        exact lC_o rfl d3 d5 (by rw [phi_N d4]; omega)
    · rw [b2_f c1, if_pos rfl, if_pos rfl, bnd3_se (by decide)]
      exact thr _ _ _ 2 2 (Or.inr (Or.inl ⟨rfl, rfl⟩)) h rfl
  · rw [e_known0 h10 hp, bnd3_se (by decide), e_ses0 h48 h10 hp, bnd2_s, if_pos rfl]
    exact thr _ _ _ 1 1 (Or.inl ⟨rfl, rfl⟩) h rfl
theorem c_delete (hF : 100000 ≤ F) : cI_delete F kI phi := by
  intro n σ m p x w hn h
  obtain ⟨h48, h10, hZ⟩ := kI_Z h
  unfold fX8_delete fX9_delete
  have thr : ∀ (σ' m' : qS) (u : Int32) (e : Nat) (c : Int32), (e = 1 ∧ c = 1) ∨ (e = 3 ∧ c = 2) → kI n σ' m' → σ'.2 = σ.2 → lC F kI phi (fun e => if e = 0 then 0 else if e = 1 then 1 else if e = 3 then 2 else 0) n σ (some (u, e, σ')) (fX9_delete_26 F p x w c m') (fun _ => 0) := fun σ' m' u e c hec hk hN => by
    unfold fX9_delete_26 fX9_delete_48
    rcases hec with ⟨rfl, rfl⟩ | ⟨rfl, rfl⟩
    all_goals
      rw [e_h1 (by decide), bnd2_s, if_neg (show ¬ (1 : Int32) = 0 by decide)]
      exact lC_t rfl (by decide) hk (by omega) hN rfl
  by_cases hp : ∃ z, z < σ.2 0 0 ∧ p = nI z
  · obtain ⟨z, hz, rfl⟩ := hp
    rw [e_known1 hz h10, bnd3_s0, e_ses1 h48 hz h10, bnd2_s, if_neg (show ¬ (1 : Int32) = 0 by decide)]
    rcases nx (F := F) h (by omega) hz (by omega) with ⟨s1, m1, w1, w2, w3, w4, -⟩ | ⟨a, -, w1, w2, w3, w4, w5, w6⟩
    · rw [w1, bnd3_se (by decide), w2, bnd2_s, if_neg (show ¬ (1 : Int32) = 0 by decide)]
      exact thr _ _ _ 3 2 (Or.inr ⟨rfl, rfl⟩) w3 w4
    · obtain ⟨s, t1, t2, ⟨t3, t4, t5, t6⟩, t7⟩ := e_toDo (F := F) (σ := lsC σ z) (k := 2) (nd := x) (nb := 0) (vr := w) (a_lt (n := n) hz w6)
      obtain ⟨u, σ', m', d1, d2, d3, d4, d5⟩ := pr_do (F := F) (w := 2) (x1 := x) (x2 := w) (x3 := 0) (x4 := 0) (x5 := 0) (x6 := 0) w5 hn hz w3 w4 w6 t2 (fun f j q w => t7 f j q (by omega)) (Or.inr (Or.inr (Or.inl ⟨rfl, t3, t4, t6⟩))) hF
      unfold fX9_delete_26 fX9_delete_48
      rw [w1, bnd3_s0, gnl_pos (a_lt (n := n) hz w6), t1, bnd_s, d1, bnd2_s, w2, bnd2_s, if_pos rfl, e_h0, bnd2_s, if_pos rfl, d2, bnd2_s]
      exact lC_o rfl d3 d5 (by rw [phi_N d4]; omega)
  · rw [e_known0 h10 hp, bnd3_se (by decide), e_ses0 h48 h10 hp, bnd2_s, if_pos rfl]
    exact thr _ _ _ 1 1 (Or.inl ⟨rfl, rfl⟩) h rfl
theorem c_check (hF : 100000 ≤ F) : cI_check F kI phi := by
  intro n σ m p x w hn h
  obtain ⟨h48, h10, hZ⟩ := kI_Z h
  unfold fX8_check fX9_check
  have thr : ∀ (σ' m' : qS) (u : Int32) (e : Nat) (c : Int32), (e = 1 ∧ c = 1) ∨ (e = 3 ∧ c = 2) → kI n σ' m' → σ'.2 = σ.2 → lC F kI phi (fun e => if e = 0 then 0 else if e = 1 then 1 else if e = 3 then 2 else 0) n σ (some (u, e, σ')) (fX9_check_26 F p x w c m') (fun _ => 0) := fun σ' m' u e c hec hk hN => by
    unfold fX9_check_26 fX9_check_48
    rcases hec with ⟨rfl, rfl⟩ | ⟨rfl, rfl⟩
    all_goals
      rw [e_h1 (by decide), bnd2_s, if_neg (show ¬ (1 : Int32) = 0 by decide)]
      exact lC_t rfl (by decide) hk (by omega) hN rfl
  by_cases hp : ∃ z, z < σ.2 0 0 ∧ p = nI z
  · obtain ⟨z, hz, rfl⟩ := hp
    rw [e_known1 hz h10, bnd3_s0, e_ses1 h48 hz h10, bnd2_s, if_neg (show ¬ (1 : Int32) = 0 by decide)]
    rcases nx (F := F) h (by omega) hz (by omega) with ⟨s1, m1, w1, w2, w3, w4, -⟩ | ⟨a, -, w1, w2, w3, w4, w5, w6⟩
    · rw [w1, bnd3_se (by decide), w2, bnd2_s, if_neg (show ¬ (1 : Int32) = 0 by decide)]
      exact thr _ _ _ 3 2 (Or.inr ⟨rfl, rfl⟩) w3 w4
    · obtain ⟨s, t1, t2, ⟨t3, t4, t5, t6⟩, t7⟩ := e_toDo (F := F) (σ := lsC σ z) (k := 5) (nd := x) (nb := 0) (vr := w) (a_lt (n := n) hz w6)
      obtain ⟨u, σ', m', d1, d2, d3, d4, d5⟩ := pr_do (F := F) (w := 4) (x1 := x) (x2 := w) (x3 := 0) (x4 := 0) (x5 := 0) (x6 := 0) w5 hn hz w3 w4 w6 t2 (fun f j q w => t7 f j q (by omega)) (Or.inr (Or.inr (Or.inr (Or.inr ⟨rfl, t3, t4, t6⟩)))) hF
      unfold fX9_check_26 fX9_check_48
      rw [w1, bnd3_s0, gnl_pos (a_lt (n := n) hz w6), t1, bnd_s, d1, bnd2_s, w2, bnd2_s, if_pos rfl, e_h0, bnd2_s, if_pos rfl, d2, bnd2_s]
      exact lC_o rfl d3 d5 (by rw [phi_N d4]; omega)
  · rw [e_known0 h10 hp, bnd3_se (by decide), e_ses0 h48 h10 hp, bnd2_s, if_pos rfl]
    exact thr _ _ _ 1 1 (Or.inl ⟨rfl, rfl⟩) h rfl
theorem c_rights (hF : 100000 ≤ F) : cI_rights F kI phi := by
  intro n σ m p x r w b hn h hb
  obtain ⟨h48, h10, hZ⟩ := kI_Z h
  unfold fX8_rights fX9_rights fX8_rights_28 fX9_rights_27
  have thr : ∀ (σ' m' : qS) (u : Int32) (e : Nat) (c : Int32), (e = 1 ∧ c = 1) ∨ (e = 2 ∧ c = 2) ∨ (e = 3 ∧ c = 3) → kI n σ' m' → σ'.2 = σ.2 → lC F kI phi (fun e => if e = 0 then 0 else if e = 1 then 1 else if e = 2 then 2 else if e = 3 then 3 else 0) n σ (some (u, e, σ')) (fX9_rights_65 F p x r w b c m') (fun _ => 0) := fun σ' m' u e c hec hk hN => by
    unfold fX9_rights_65 fX9_rights_97
    rcases hec with ⟨rfl, rfl⟩ | ⟨rfl, rfl⟩ | ⟨rfl, rfl⟩
    all_goals
      rw [e_h1 (by decide), bnd2_s, if_neg (show ¬ (1 : Int32) = 0 by decide)]
      exact lC_t rfl (by decide) hk (by omega) hN rfl
  unfold fX9_rights_28
  by_cases hp : ∃ z, z < σ.2 0 0 ∧ p = nI z
  · obtain ⟨z, hz, rfl⟩ := hp
    rw [e_known1 hz h10, bnd3_s0, e_isWithin, bnd2_s, e_in, bnd2_s]
    by_cases c1 : ¬ r < 0 ∧ ¬ 15 < r
    · rw [b2_t c1, if_neg (show ¬ (1 : Int32) = 0 by decide), if_neg (show ¬ (1 : Int32) = 0 by decide), e_isWithin, bnd2_s, e_in, bnd2_s]
      by_cases c2 : ¬ w < 0 ∧ ¬ 15 < w
      · obtain ⟨rx, -, rx1, rfl⟩ := (in_rng (a := 0) (b := 15) (by decide) (by decide)).mpr c1
        obtain ⟨ry, -, ry1, rfl⟩ := (in_rng (a := 0) (b := 15) (by decide) (by decide)).mpr c2
        rw [b2_t c2, if_neg (show ¬ (1 : Int32) = 0 by decide), if_neg (show ¬ (1 : Int32) = 0 by decide), e_ses1 h48 hz h10, bnd2_s, if_neg (show ¬ (1 : Int32) = 0 by decide), if_neg (show ¬ (1 : Int32) = 0 by decide)]
        rcases nx (F := F) h (by omega) hz (by omega) with ⟨s1, m1, w1, w2, w3, w4, -⟩ | ⟨a, -, w1, w2, w3, w4, w5, w6⟩
        · rw [w1, bnd3_se (by decide), w2, bnd2_s, if_neg (show ¬ (1 : Int32) = 0 by decide)]
          exact thr _ _ _ 3 3 (Or.inr (Or.inr ⟨rfl, rfl⟩)) w3 w4
        · have key : ∀ kd : Nat, (kd = 3 ∨ kd = 4) → lC F kI phi (fun e => if e = 0 then 0 else if e = 1 then 1 else if e = 2 then 2 else if e = 3 then 3 else 0) n σ (fX8_rights_58 F x (nI rx) (nI ry) z a a (nI kd) (lsC σ z)) (fX9_rights_92 F (nI z) 3 x (nI rx) (nI ry) (if kd = 4 then 1 else 0) (qI m 0 0 57 0)) (fun _ => 0) := fun kd hkd => by
            obtain ⟨s, t1, t2, ⟨t3, t4, t5, t6⟩, t7⟩ := e_toDo (F := F) (σ := lsC σ z) (k := nI kd) (nd := x) (nb := nI (rx + 16 * ry)) (vr := -1) (a_lt (n := n) hz w6)
            obtain ⟨u, σ', m', d1, d2, d3, d4, d5⟩ := pr_do (F := F) (w := 3) (x1 := x) (x2 := nI rx) (x3 := nI ry) (x4 := if kd = 4 then 1 else 0) (x5 := 0) (x6 := 0) w5 hn hz w3 w4 w6 t2 (fun f j q w => t7 f j q (by omega)) (Or.inr (Or.inr (Or.inr (Or.inl ⟨rfl, kd, hkd, t3, t4, rfl, rx, ry, by omega, by omega, rfl, rfl, t5⟩)))) hF
            unfold fX8_rights_58 fX9_rights_92 fX9_rights_97
            repeat rw [nm_x]
            rw [show nI rx + 16 * nI ry = nI (rx + 16 * ry) from by rw [show (16 : Int32) = nI 16 from rfl, nI_mul, nI_add], gnl_pos (a_lt (n := n) hz w6), t1, bnd_s, d1, bnd2_s, d2, bnd2_s]
            exact lC_o rfl d3 d5 (by rw [phi_N d4]; omega)
          unfold fX9_rights_65
          rw [w1, bnd3_s0, w2, bnd2_s, if_pos rfl, e_h0, bnd2_s, if_pos rfl]
          rcases hb with rfl | rfl
          · rw [if_pos rfl, if_pos rfl]
            exact key 3 (Or.inl rfl)
          · rw [if_neg (show ¬ (1 : Int32) = 0 by decide), if_neg (show ¬ (1 : Int32) = 0 by decide)]
            exact key 4 (Or.inr rfl)
      · rw [b2_f c2, if_pos rfl, if_pos rfl, e_ses1 h48 hz h10, bnd2_s, if_neg (show ¬ (1 : Int32) = 0 by decide), if_pos rfl]
        exact thr _ _ _ 2 2 (Or.inr (Or.inl ⟨rfl, rfl⟩)) h rfl
    · rw [b2_f c1, if_pos rfl, if_pos rfl, e_ses1 h48 hz h10, bnd2_s, if_neg (show ¬ (1 : Int32) = 0 by decide), if_pos rfl]
      exact thr _ _ _ 2 2 (Or.inr (Or.inl ⟨rfl, rfl⟩)) h rfl
  · have t0 := thr σ m 0 1 1 (Or.inl ⟨rfl, rfl⟩) h rfl
    rw [e_known0 h10 hp, bnd3_se (by decide), e_in, bnd2_s]
    by_cases c1 : ¬ r < 0 ∧ ¬ 15 < r
    · rw [b2_t c1, if_neg (show ¬ (1 : Int32) = 0 by decide), e_in, bnd2_s]
      by_cases c2 : ¬ w < 0 ∧ ¬ 15 < w
      · rw [b2_t c2, if_neg (show ¬ (1 : Int32) = 0 by decide), e_ses0 h48 h10 hp, bnd2_s, if_pos rfl]
        exact t0
      · rw [b2_f c2, if_pos rfl, e_ses0 h48 h10 hp, bnd2_s, if_pos rfl]
        exact t0
    · rw [b2_f c1, if_pos rfl, e_ses0 h48 h10 hp, bnd2_s, if_pos rfl]
      exact t0
theorem c_want (hF : 100000 ≤ F) : cI_want F kI phi := by
  intro n σ m p x b hn h hb
  obtain ⟨h48, h10, hZ⟩ := kI_Z h
  unfold fX8_want fX9_want fX9_want_31
  have thr : ∀ (σ' m' : qS) (u : Int32) (e : Nat) (c : Int32), (e = 1 ∧ c = 1) ∨ (e = 3 ∧ c = 2) → kI n σ' m' → σ'.2 = σ.2 → lC F kI phi (fun e => if e = 0 then 0 else if e = 1 then 1 else if e = 3 then 2 else 0) n σ (some (u, e, σ')) (fX9_want_36 F p x b c m') (fun _ => 0) := fun σ' m' u e c hec hk hN => by
    unfold fX9_want_36 fX9_want_66
    rcases hec with ⟨rfl, rfl⟩ | ⟨rfl, rfl⟩
    all_goals
      rw [e_h1 (by decide), bnd2_s, if_neg (show ¬ (1 : Int32) = 0 by decide)]
      exact lC_t rfl (by decide) hk (by omega) hN rfl
  by_cases hp : ∃ z, z < σ.2 0 0 ∧ p = nI z
  · obtain ⟨z, hz, rfl⟩ := hp
    have hz10 : z < 10 := by omega
    rw [e_known1 hz h10, bnd3_s0, e_ses1 h48 hz h10, bnd2_s, if_neg (show ¬ (1 : Int32) = 0 by decide)]
    rcases wk (F := F) h (by omega) hz (by omega) with ⟨s1, m1, w1, w2, w3, w4, w5⟩ | ⟨w1, w2, w3, w4, w5, w6, w7, w8⟩
    · rw [w1, bnd3_se (by decide), w3, bnd2_s, if_neg (show ¬ (1 : Int32) = 0 by decide)]
      exact thr _ _ _ 3 2 (Or.inr ⟨rfl, rfl⟩) w4 w5
    · obtain ⟨⟨q1, q2, q3, q4, q5, q6⟩, b2, b3, b4⟩ := hZ z hz
      rw [w1, bnd3_s0, w3, bnd2_s, if_pos rfl, ldi_nI hz10 (by decide)]
      unfold fX8_mustNotGather
      rw [gnl_pos hz, nm_x, b3 w4]
      by_cases d : m.1 136 0 z = 1
      · rw [d, if_neg (show ¬ (1 : Int32) = 0 by decide), if_pos rfl, bnd3_se (by decide)]
        exact thr _ _ _ 3 2 (Or.inr ⟨rfl, rfl⟩) h rfl
      · have d0 : m.1 136 0 z = 0 := by rcases b4 with q | q; exact q; exact absurd q.1 d
        rw [d0, if_pos rfl, if_neg (show ¬ (0 : Int32) = 1 by decide), bnd3_s0, nm_x, gnl_pos hz, nm_x, show qI σ 50 z 9 (σ.1 0 0 14) = lsC σ z from rfl]
        unfold fX9_want_36
        rw [e_h0, bnd2_s, if_pos rfl]
        have key : ∀ b : Int32, lC F kI phi (fun e => if e = 0 then 0 else if e = 1 then 1 else if e = 3 then 2 else 0) n σ (fX8_want_44 F (nI z) z 0 x 1000 b (lsC σ z)) (fX9_want_61 F (nI z) 0 x 0 1 b (qI m 0 0 57 0)) (fun _ => 0) := fun b => by
          have ha : 0 < 1 + 6 * (lsC σ z).2 0 0 := by omega
          obtain ⟨s, t1, t2, ⟨t3, t4, t5, t6, t8⟩, t7⟩ := e_toMake (F := F) (σ := lsC σ z) (up := x) (nm9 := 1000) (vl := b) (kd := 1) ha
          obtain ⟨u, σ', m', e1, e2, e3, e4, e5⟩ := pr_do (F := F) (a := 0) (σ2 := qI s 56 0 6 (nI z)) (w := 0) (x1 := x) (x2 := 0) (x3 := 1) (x4 := b) (x5 := 1) (x6 := -1) w6 hn hz w4 w5 (Or.inl ⟨rfl, d0⟩) t2 (fun f j q w => by rw [qI_ap, if_neg (by omega)]; exact t7 f j q (by omega)) (Or.inl ⟨rfl, by rw [qI_ap, if_neg (by omega)]; exact t3, by rw [qI_ap, if_neg (by omega)]; exact t4, by rw [qI_ap, if_neg (by omega)]; exact t6, by rw [qI_ap, if_neg (by omega)]; exact t8, true, rfl, (fun _ => by rw [qI_ap, if_neg (by omega)]; exact t5), (fun w => by cases w), (fun _ => by rw [qI_ap, if_pos ⟨rfl, rfl, rfl⟩]), fun w => absurd w (by decide)⟩) hF
          unfold fX8_want_44 fX9_want_61 fX9_want_66
          rw [gnl_pos ha, t1, bnd_s, nm_x, e1, bnd2_s, e2, bnd2_s]
          exact lC_o rfl e3 e5 (by rw [phi_N e4]; omega)
        rcases hb with rfl | rfl
        · rw [if_pos rfl, if_pos rfl]
          exact key 0
        · rw [if_neg (show ¬ (1 : Int32) = 0 by decide), if_neg (show ¬ (1 : Int32) = 0 by decide)]
          exact key 1
  · rw [e_known0 h10 hp, bnd3_se (by decide), e_ses0 h48 h10 hp, bnd2_s, if_pos rfl]
    exact thr _ _ _ 1 1 (Or.inl ⟨rfl, rfl⟩) h rfl
end AK

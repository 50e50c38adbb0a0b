/-! PURE: a session hears of a step -/
def frH (s s' : qS) (z : Nat) : Prop := (∀ k j, ¬ (k = 3 ∧ j = z) → s'.2 k j = s.2 k j) ∧ s.2 3 z ≤ s'.2 3 z ∧ (∀ f j, ¬ ((f = 50 ∨ f = 53 ∨ f = 54 ∨ f = 55 ∨ f = 58) ∧ j = z) → s'.1 f j = s.1 f j) ∧ ∀ q, q ≠ 10 → q ≠ 11 → s'.1 50 z q = s.1 50 z q
theorem frH_rf {s : qS} {z : Nat} : frH s s z := ⟨fun _ _ _ => rfl, Nat.le_refl _, fun _ _ _ => rfl, fun _ _ _ => rfl⟩
theorem frH_tr {a b c : qS} {z : Nat} (h : frH a b z) (g : frH b c z) : frH a c z := ⟨fun k j q => (g.1 k j q).trans (h.1 k j q), Nat.le_trans h.2.1 g.2.1, fun f j q => (g.2.2.1 f j q).trans (h.2.2.1 f j q), fun q q1 q2 => (g.2.2.2 q q1 q2).trans (h.2.2.2 q q1 q2)⟩
theorem frR_frH {a b : qS} {z : Nat} (h : frR a b z) : frH a b z := ⟨h.1, h.2.1, fun f j q => h.2.2 f j (fun g => q ⟨by omega, g.2⟩), fun q _ _ => by rw [h.2.2 50 z (by omega)]⟩
theorem fir_congr {s σ : qS} {kd n : Nat} (h : s.1 2 = σ.1 2) : fir s kd n = fir σ kd n := by
  funext w
  have ep : parN s = parN σ := by
    funext q
    unfold parN
    rw [h]
  unfold fir
  rw [ep, h]
/-- all watched nodes are numbers of nodes -/
def wOk (W : List (Int32 × Int32)) : Prop := ∀ w, w ∈ W → ∃ a, a < 80 ∧ w.1 = nI a
section HO
variable {F : Nat}
theorem e_hearOf_l {σ : qS} {z kd nn M : Nat} (hkd : kd ≤ 2) (hn8 : nn < 80) (hnM : nn < M) (hw : wfB σ (fun k => k < M)) (hF : 100 ≤ F) {c : Nat} (hc : c ≤ 8) : ∀ (d i n x : Nat) (s : qS) (T : List Int32), i + d = c → x ≤ i → d < n → z < s.2 0 0 → s.1 2 = σ.1 2 → s.1 50 z 11 = nI c → wOk (wl (s.1 53 z) (s.1 54 z) i d) → rowL s z T → T.length + d ≤ 8192 →
    ∃ s', fX6_hearOf_6 F z n (nI kd) (nI nn) (nI x) (nI i) s = some s' ∧ frH s s' z ∧ s'.1 50 z 10 = s.1 50 z 10 ∧ rowL s' z (T ++ hrT σ kd nn (wl (s.1 53 z) (s.1 54 z) i d)) ∧ ∃ c', c' ≤ c ∧ s'.1 50 z 11 = nI c' ∧ wl (s'.1 53 z) (s'.1 54 z) 0 c' = wl (s.1 53 z) (s.1 54 z) 0 x ++ hrW σ kd nn (wl (s.1 53 z) (s.1 54 z) i d) := by
  intro d
  induction d with
  | zero =>
    intro i n x s T hi hx hn hz h2 h11 hW hT hl
    obtain ⟨n, rfl⟩ : ∃ m, n = m + 1 := ⟨n - 1, by omega⟩
    rw [fX6_hearOf_6, gnl_pos hz]
    unfold fX6_hearOf_104
    simp only [nm_x]
    rw [h11, if_pos ((nI_le' (by omega) (by omega)).mpr (by omega)), gnl_pos hz]
    refine ⟨_, rfl, ⟨fun _ _ _ => rfl, Nat.le_refl _, fun f j h => ?_, fun q _ h => ?_⟩, ?_, ?_, x, by omega, ?_, ?_⟩
    · funext q
      rw [qI_ap, if_neg (fun g => h ⟨by omega, g.2.1⟩)]
    · rw [qI_ap, if_neg (fun g => h g.2.2)]
    · rw [qI_ap, if_neg (by omega)]
    · show rowL _ z (T ++ [])
      rw [List.append_nil]
      obtain ⟨a, b, k, g1, g2, g3, g4, g5, g6, g7⟩ := hT
      exact ⟨a, b, k, by rw [qI_ap, if_neg (by omega), g1], by rw [qI_ap, if_neg (by omega), g2], g3, g4, g5, g6, by rw [qI_k (by decide)]; exact g7⟩
    · rw [qI_ap, if_pos ⟨rfl, rfl, rfl⟩]
    · show wl _ _ 0 x = wl _ _ 0 x ++ []
      rw [List.append_nil, qI_k (by decide), qI_k (by decide)]
  | succ d ih =>
    intro i n x s T hi hx hn hz h2 h11 hW hT hl
    obtain ⟨n, rfl⟩ : ∃ m, n = m + 1 := ⟨n - 1, by omega⟩
    have hi8 : i < 8 := by omega
    have i8 : 8 ≤ 2 ^ 31 := by decide
    obtain ⟨a, ha, hae⟩ := hW (s.1 53 z i, s.1 54 z i) (List.mem_cons_self ..)
    have hws : wfB s (fun k => k < M) := ⟨by rw [h2]; exact hw.1, fun k g1 g2 g3 => by rw [h2]; exact hw.2 k g1 g2 g3⟩
    have ef : fir s kd nn = fir σ kd nn := fir_congr h2
    rw [fX6_hearOf_6, gnl_pos hz]
    simp only [nm_x]
    rw [h11, if_neg (fun h => by have := (nI_le' (by omega) (by omega)).mp h; omega), if_neg (show ¬ (8 : Int32) ≤ nI i from fun h => by have := (nI_le' (a := 8) (by omega) (by omega)).mp h; omega), gnl_pos hz, e_watchesFor hz hi8 hkd hn8 hnM hws hF hae ha, bnd2_s, ef]
    -- the watch stays
    have keep : ∀ (s1 : qS) (T1 : List Int32), frR s s1 z → rowL s1 z T1 → T1.length + d ≤ 8192 → ∃ s', fX6_hearOf_67 F z (fX6_hearOf_6 F z n) (nI kd) (nI nn) (nI x) (nI i) s1 = some s' ∧ frH s s' z ∧ s'.1 50 z 10 = s.1 50 z 10 ∧ rowL s' z (T1 ++ hrT σ kd nn (wl (s.1 53 z) (s.1 54 z) (i + 1) d)) ∧ ∃ c', c' ≤ c ∧ s'.1 50 z 11 = nI c' ∧ wl (s'.1 53 z) (s'.1 54 z) 0 c' = (wl (s.1 53 z) (s.1 54 z) 0 x ++ [(s.1 53 z i, s.1 54 z i)]) ++ hrW σ kd nn (wl (s.1 53 z) (s.1 54 z) (i + 1) d) := by
      intro s1 T1 hf hT1 hl1
      have hz1 : z < s1.2 0 0 := by rw [hf.1 0 0 (by omega)]; exact hz
      have q53 : s1.1 53 z = s.1 53 z := hf.2.2 53 z (by omega)
      have q54 : s1.1 54 z = s.1 54 z := hf.2.2 54 z (by omega)
      have q50 : s1.1 50 z = s.1 50 z := hf.2.2 50 z (by omega)
      unfold fX6_hearOf_67 fX6_hearOf_98
      have e54 : (qI s1 53 z x (s.1 53 z i)).1 54 z i = s.1 54 z i := by rw [qI_ap, if_neg (by omega), q54]
      have eN : (qI s1 53 z x (s.1 53 z i)).2 = s1.2 := rfl
      simp only [gnl_pos hz1, ldi_nI hi8 i8, inx_nI (show x < 8 by omega) i8, ix_nI (show x < 2 ^ 31 by omega), nm_x, nI_1, q53, e54, eN]
      have g53 : (qI (qI s1 53 z x (s.1 53 z i)) 54 z x (s.1 54 z i)).1 53 z = upd (s.1 53 z) x (s.1 53 z i) := by rw [qI_k (by decide), qI_at, q53]
      have g54 : (qI (qI s1 53 z x (s.1 53 z i)) 54 z x (s.1 54 z i)).1 54 z = upd (s.1 54 z) x (s.1 54 z i) := by rw [qI_at, qI_k (by decide), q54]
      have w1 : wl ((qI (qI s1 53 z x (s.1 53 z i)) 54 z x (s.1 54 z i)).1 53 z) ((qI (qI s1 53 z x (s.1 53 z i)) 54 z x (s.1 54 z i)).1 54 z) (i + 1) d = wl (s.1 53 z) (s.1 54 z) (i + 1) d := wl_congr (fun j hj => by
        rw [g53, g54, upd_ne (by omega), upd_ne (by omega)]
        exact ⟨rfl, rfl⟩)
      have w0 : wl ((qI (qI s1 53 z x (s.1 53 z i)) 54 z x (s.1 54 z i)).1 53 z) ((qI (qI s1 53 z x (s.1 53 z i)) 54 z x (s.1 54 z i)).1 54 z) 0 (x + 1) = wl (s.1 53 z) (s.1 54 z) 0 x ++ [(s.1 53 z i, s.1 54 z i)] := by
        rw [wl_snoc, g53, g54, Nat.zero_add, upd_at, upd_at]
        congr 1
        exact wl_congr (fun j hj => by rw [upd_ne (by omega), upd_ne (by omega)]; exact ⟨rfl, rfl⟩)
      have hf2 : frH s (qI (qI s1 53 z x (s.1 53 z i)) 54 z x (s.1 54 z i)) z := by
        refine frH_tr (frR_frH hf) ⟨fun _ _ _ => rfl, Nat.le_refl _, fun f j h => ?_, fun q _ _ => ?_⟩
        · funext q
          rw [qI_ap, if_neg (fun g => h ⟨by omega, g.2.1⟩), qI_ap, if_neg (fun g => h ⟨by omega, g.2.1⟩)]
        · rw [qI_ap, if_neg (by omega), qI_ap, if_neg (by omega)]
      obtain ⟨s', k1, k2, k3, k4, c', k5, k6, k7⟩ := ih (i + 1) n (x + 1) (qI (qI s1 53 z x (s.1 53 z i)) 54 z x (s.1 54 z i)) T1 (by omega) (by omega) (by omega) hz1 (by funext j; rw [hf2.2.2.1 2 j (by omega), h2]) (by rw [qI_ap, if_neg (by omega), qI_ap, if_neg (by omega), q50]; exact h11) (by rw [w1]; exact fun w hw9 => hW w (List.mem_cons_of_mem _ hw9)) (by
        obtain ⟨a, b, k, g1, g2, g3, g4, g5, g6, g7⟩ := hT1
        exact ⟨a, b, k, by rw [qI_ap, if_neg (by omega), qI_ap, if_neg (by omega), g1], by rw [qI_ap, if_neg (by omega), qI_ap, if_neg (by omega), g2], g3, g4, g5, g6, by rw [qI_k (by decide), qI_k (by decide)]; exact g7⟩) hl1
      rw [w1] at k4 k7
      rw [w0] at k7
      exact ⟨s', k1, frH_tr hf2 k2, k3.trans (by rw [qI_ap, if_neg (by omega), qI_ap, if_neg (by omega), q50]), k4, c', k5, k6, k7⟩
    -- the watch goes
    have drop : ∀ (s1 : qS) (T1 : List Int32), frR s s1 z → rowL s1 z T1 → T1.length + d ≤ 8192 → ∃ s', fX6_hearOf_98 F z (fX6_hearOf_6 F z n) (nI kd) (nI nn) (nI x) (nI i) s1 = some s' ∧ frH s s' z ∧ s'.1 50 z 10 = s.1 50 z 10 ∧ rowL s' z (T1 ++ hrT σ kd nn (wl (s.1 53 z) (s.1 54 z) (i + 1) d)) ∧ ∃ c', c' ≤ c ∧ s'.1 50 z 11 = nI c' ∧ wl (s'.1 53 z) (s'.1 54 z) 0 c' = wl (s.1 53 z) (s.1 54 z) 0 x ++ hrW σ kd nn (wl (s.1 53 z) (s.1 54 z) (i + 1) d) := by
      intro s1 T1 hf hT1 hl1
      have hz1 : z < s1.2 0 0 := by rw [hf.1 0 0 (by omega)]; exact hz
      have q53 : s1.1 53 z = s.1 53 z := hf.2.2 53 z (by omega)
      have q54 : s1.1 54 z = s.1 54 z := hf.2.2 54 z (by omega)
      have q50 : s1.1 50 z = s.1 50 z := hf.2.2 50 z (by omega)
      unfold fX6_hearOf_98
      simp only [nm_x, nI_1]
      obtain ⟨s', k1, k2, k3, k4, c', k5, k6, k7⟩ := ih (i + 1) n x s1 T1 (by omega) (by omega) (by omega) hz1 (by funext j; rw [hf.2.2 2 j (by omega), h2]) (by rw [q50]; exact h11) (by rw [q53, q54]; exact fun w hw9 => hW w (List.mem_cons_of_mem _ hw9)) hT1 hl1
      rw [q53, q54] at k4 k7
      exact ⟨s', k1, frH_tr (frR_frH hf) k2, k3.trans (by rw [q50]), k4, c', k5, k6, k7⟩
    have hT0 : hrT σ kd nn (wl (s.1 53 z) (s.1 54 z) i (d + 1)) = (if fir σ kd nn (s.1 53 z i, s.1 54 z i) = true then [nI (10 * nn + kd)] else []) ++ hrT σ kd nn (wl (s.1 53 z) (s.1 54 z) (i + 1) d) := by
      unfold hrT
      show List.map _ (List.filter _ (_ :: _)) = _
      rw [List.filter_cons]
      by_cases c9 : fir σ kd nn (s.1 53 z i, s.1 54 z i) = true
      · rw [if_pos c9, if_pos c9]; rfl
      · rw [if_neg c9, if_neg c9]; rfl
    have hW0 : hrW σ kd nn (wl (s.1 53 z) (s.1 54 z) i (d + 1)) = (if (!fir σ kd nn (s.1 53 z i, s.1 54 z i) || s.1 54 z i == 2) = true then [(s.1 53 z i, s.1 54 z i)] else []) ++ hrW σ kd nn (wl (s.1 53 z) (s.1 54 z) (i + 1) d) := by
      unfold hrW
      show List.filter _ (_ :: _) = _
      rw [List.filter_cons]
      by_cases c9 : (!fir σ kd nn (s.1 53 z i, s.1 54 z i) || s.1 54 z i == 2) = true
      · rw [if_pos c9, if_pos c9]; rfl
      · rw [if_neg c9, if_neg c9]; rfl
    rw [hT0, hW0]
    by_cases c9 : fir σ kd nn (s.1 53 z i, s.1 54 z i) = true
    · rw [if_pos c9, if_pos c9, if_neg (by decide), gnl_pos hz, gnl_pos hz]
      have ev : 10 * nI nn + nI kd = nI (10 * nn + kd) := by rw [show (10 : Int32) = nI 10 from rfl, nI_mul, nI_add]
      obtain ⟨s1, k1, k2, k3⟩ := e_rowAdd (F := F) (x := nI (10 * nn + kd)) hz hT (by omega)
      rw [ev, k1, bnd_s]
      unfold fX6_hearOf_51
      have hz1 : z < s1.2 0 0 := by rw [k3.1 0 0 (by omega)]; exact hz
      rw [if_neg (by decide), gnl_pos hz1, gnl_pos hz1, ldi_nI hi8 i8, k3.2.2 54 z (by omega)]
      by_cases c8 : s.1 54 z i = 2
      · rw [if_pos c8, if_pos (by rw [c8]; exact Bool.or_true _), ← List.append_assoc, ← List.append_assoc]
        exact keep s1 _ k3 k2 (by rw [List.length_append]; show T.length + 1 + d ≤ 8192; omega)
      · rw [if_neg c8, if_neg (by rw [c9]; simp [c8]), ← List.append_assoc]
        exact drop s1 _ k3 k2 (by rw [List.length_append]; show T.length + 1 + d ≤ 8192; omega)
    · rw [if_neg c9, if_neg c9, if_pos rfl]
      unfold fX6_hearOf_51
      rw [if_pos rfl, if_pos (by rw [Bool.eq_false_iff.mpr c9]; rfl), ← List.append_assoc, ← List.append_assoc, List.append_nil]
      exact keep s T ⟨fun _ _ _ => rfl, Nat.le_refl _, fun _ _ _ => rfl⟩ hT (by omega)
end HO

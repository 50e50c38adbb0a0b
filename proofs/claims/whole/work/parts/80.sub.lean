/-! PURE: an act alone, and what is behind it, in both -/
section N6
variable {F : Nat}
theorem nn6_150 {M0 L M S : Nat} {σ m σ' : qS} {C : Nat → qS} {π : Nat → Nat} {z a u : Nat} {nm9 v : Int32} (hF : 200 ≤ F) (hk : kA σ m C π M S) (ha : a < 1 + 6 * σ.2 0 0) (hL : σ.1 0 0 15 = nI L) (hS9 : S < 999) (hM8 : M < 80) (hu : u < M) (hup : σ.1 56 a 1 = nI u) (e : fX8_tryMake_150 F z a (nI M) nm9 σ = some (v, σ')) : ∀ k, k < 80 → σ'.1 6 0 k = σ.1 6 0 k ∨ σ'.1 6 0 k = nI (L + 1) := by
  unfold fX8_tryMake_150 at e
  simp only [nm_x] at e
  obtain ⟨σ1, r1, r2⟩ := e_birth (F := F) (nm := nm9) (ch := σ.1 0 0 15 + 1) hk.2.1.1 hM8 ha
  have o1 : ∀ f k, (f < 2 ∨ 6 < f) → f ≠ 1 → σ1.1 f 0 k = σ.1 f 0 k := fun f k w1 w2 => by rw [r2.2, if_neg (by omega), if_neg (by omega), if_neg (by omega), if_neg (by omega), if_neg (by omega), if_neg (by omega)]
  have e2 : σ1.1 2 0 M = nI u := by rw [r2.2, if_pos ⟨rfl, rfl, rfl⟩, hup]
  obtain ⟨σ2, t1, t2⟩ := e_record (F := F) (σ := σ1) (S := S) (L := L) (kd := 0) (n := M) (v := σ1.1 56 a 3) (by rw [o1 9 4 (by omega) (by omega)]; exact hk.1.1) (by omega) (by rw [o1 0 15 (by omega) (by omega)]; exact hL) (by omega) hM8 (by omega) (fun _ => ⟨u, hu, e2⟩) (fun q => by omega)
  rw [r1, bnd_s, r2.1, gnl_pos ha] at e
  rw [show (0 : Int32) = nI 0 from rfl] at e
  rw [t1, bnd_s] at e
  cases e
  intro k hk8
  rw [rcS_o t2 (by omega), r2.2, if_neg (by omega), if_neg (by omega), if_neg (by omega), if_neg (by omega)]
  by_cases c : k = M
  · rw [if_pos ⟨rfl, c, rfl⟩, hL]
    exact Or.inr (nI_1 L)
  · rw [if_neg (by omega), if_neg (by omega)]
    exact Or.inl rfl
theorem nn6_76 {L M S : Nat} {σ m σ' : qS} {C : Nat → qS} {π : Nat → Nat} {z a u : Nat} {t0 v : Int32} (hF : 200 ≤ F) (hk : kA σ m C π M S) (ha : a < 1 + 6 * σ.2 0 0) (hL : σ.1 0 0 15 = nI L) (hS9 : S < 999) (hu : u < 80) (hh : σ.1 31 0 u ≠ 0) (hup : σ.1 56 a 1 = nI u) (e : fX8_tryMake_76 F z a (nI u) t0 σ = some (v, σ')) : ∀ k, k < 80 → σ'.1 6 0 k = σ.1 6 0 k ∨ σ'.1 6 0 k = nI (L + 1) := by
  unfold fX8_tryMake_76 at e
  obtain ⟨g0, g1⟩ := kA_here hk
  have hhC : (C S).1 31 0 u ≠ 0 := by rw [← (kA_31 hk hu).1]; exact hh
  have huM : u < M := gdT_M g0 hu hhC
  have hM8 : M ≤ 80 := hk.2.1.2.2.2.2.1
  have hwσ : wfT σ 0 := wfT_cp g1 hk.2.2.1 (gdT_wf g0) (fun k k1 k2 => gdT_M g0 k1 k2)
  rw [e_isHeld hu, bnd2_s] at e
  by_cases d1 : isHd σ u
  · rw [b2_t d1, if_neg (show ¬ (1 : Int32) = 0 by decide)] at e
    cases e
    exact fun k _ => Or.inl rfl
  · obtain ⟨v1, σ2, t1, t2, t3⟩ := e_isQuotaUsed (F := F) hwσ hk.2.1.2.2.1.1 (by omega) hu hh
    rw [b2_f d1, if_pos rfl, t1, bnd2_s] at e
    have es : ∀ f, f ≠ 38 → f ≠ 39 → σ2.1 f 0 = σ.1 f 0 := fun f h1 h2 => t2.2 f 0 h1 h2
    have e6 : ∀ k, σ2.1 6 0 k = σ.1 6 0 k := fun k => by rw [es 6 (by decide) (by decide)]
    by_cases d3 : v1 = 0
    · rw [if_pos d3] at e
      repeat rw [nm_x] at e
      have hk2 := kA_sq hk t2
      rw [hk2.2.1.1] at e
      by_cases d4 : M < 80
      · rw [if_pos (show nI M < 80 from (nI_lt' (by omega) (by decide)).mpr d4), t2.1, gnl_pos ha, ldi_nI hu i80'] at e
        have tl := fun (nm9 : Int32) (e : fX8_tryMake_150 F z a (nI M) nm9 σ2 = some (v, σ')) => nn6_150 (L := L) (u := u) (M0 := 0) hF hk2 (by rw [t2.1]; exact ha) (by rw [t2.2 0 0 (by decide) (by decide)]; exact hL) hS9 d4 huM (by rw [t2.2 56 a (by decide) (by decide)]; exact hup) e
        by_cases d5 : t0 = 0
        · rw [if_pos d5] at e
          repeat rw [nm_x] at e
          intro k k8
          have := tl _ e k k8
          rw [e6] at this
          exact this
        · rw [if_neg d5] at e
          repeat rw [nm_x] at e
          intro k k8
          have := tl _ e k k8
          rw [e6] at this
          exact this
      · rw [if_neg (show ¬ nI M < 80 from fun q => d4 ((nI_lt' (by omega) (by decide)).mp q))] at e
        cases e
        exact fun k _ => Or.inl (e6 k)
    · rw [if_neg d3] at e
      cases e
      exact fun k _ => Or.inl (e6 k)
theorem nn6_make {L M S : Nat} {σ m σ' : qS} {C : Nat → qS} {π : Nat → Nat} {z a p : Nat} {v : Int32} (hF : 200 ≤ F) (hk : kA σ m C π M S) (hz : z < σ.2 0 0) (ha : a < 1 + 6 * σ.2 0 0) (hp : σ.1 50 z 1 = nI p) (hL : σ.1 0 0 15 = nI L) (hS9 : S < 999) (e : fX8_tryMake F z a σ = some (v, σ')) : ∀ k, k < 80 → σ'.1 6 0 k = σ.1 6 0 k ∨ σ'.1 6 0 k = nI (L + 1) := by
  have tl : ∀ u, u < 80 → σ.1 31 0 u ≠ 0 → σ.1 56 a 1 = nI u → ∀ t0, fX8_tryMake_76 F z a (nI u) t0 σ = some (v, σ') → ∀ k, k < 80 → σ'.1 6 0 k = σ.1 6 0 k ∨ σ'.1 6 0 k = nI (L + 1) := fun u hu hh hup t0 e => nn6_76 hF hk ha hL hS9 hu hh hup e
  unfold fX8_tryMake at e
  simp only [nm_x, gnl_pos ha] at e
  rw [e_holds (by decide), bnd2_s] at e
  by_cases c1 : hlds σ 0 (σ.1 56 a 1)
  · obtain ⟨u, hu, eu, hh⟩ := hl_ex c1
    rw [b2_t c1, if_neg (show ¬ (1 : Int32) = 0 by decide), eu, gnl_pos hz, hp, e_mayWrite (by decide) hu, bnd2_s] at e
    by_cases c2 : bit1 (σ.1 36 0 u) (4 + nI p)
    · rw [b2_t c2, if_neg (show ¬ (1 : Int32) = 0 by decide)] at e
      simp only [gnl_pos ha] at e
      unfold fX8_tryMake_51 at e
      by_cases c3 : σ.1 56 a 2 = 1000
      · rw [if_pos c3, if_neg (show ¬ (1 : Int32) = 0 by decide)] at e
        exact tl u hu hh eu _ e
      · obtain ⟨v1, t1, t2⟩ := e_hasChildNamed (F := F) (σ := σ) (i := 0) (p := nI u) (q := σ.1 56 a 2) (by omega) (by decide)
        rw [if_neg c3, if_pos rfl, gnl_pos ha] at e
        rw [nm_x, t1, bnd2_s] at e
        rcases ite_some e with ⟨-, e⟩ | ⟨-, e⟩
        · exact tl u hu hh eu _ e
        · cases e
          exact fun k _ => Or.inl rfl
    · rw [b2_f c2, if_pos rfl] at e
      cases e
      exact fun k _ => Or.inl rfl
  · rw [b2_f c1, if_pos rfl] at e
    cases e
    exact fun k _ => Or.inl rfl
theorem nn6_act {L M : Nat} {σ m σ' : qS} {C : Nat → qS} {π : Nat → Nat} {S z a p : Nat} {w x1 x2 x3 x4 x5 x6 v : Int32} (hF : 200 ≤ F) (h : kA σ m C π M S) (hz : z < σ.2 0 0) (ha : a < 1 + 6 * σ.2 0 0) (hp : σ.1 50 z 1 = nI p) (hp4 : p < 4) (hL : σ.1 0 0 15 = nI L) (hL9 : L + 1 < 2 ^ 31) (h27 : m.1 0 0 27 = nI (L + 1)) (hS9 : S + nH (C S) ≤ 998) (hR9 : π S + 80 ≤ 89999) (hR8 : π S + nH (C S) ≤ 89999) (hr : actR σ z a w x1 x2 x3 x4 x5 x6) (h6 : nn6 σ) (e : fX8_perform F z a σ = some (v, σ')) : nn6 σ' := by
  have key : ∀ k, k < 80 → σ'.1 6 0 k = σ.1 6 0 k ∨ σ'.1 6 0 k = nI (L + 1) := by
    unfold fX8_perform fX8_perform_72 at e
    simp only [nm_x, gnl_pos ha, bnd2_id] at e
    rcases hr with ⟨rfl, e0, e1, e3, e5, nb, eb, n1, n0, hh1, hh2⟩ | ⟨rfl, e0, e1, e2, e3⟩ | ⟨rfl, e0, e1, e2⟩ | ⟨rfl, kd, hk, e0, e1, e4, x, y, hx, hy, e2, e3, e6⟩ | ⟨rfl, e0, e1, e2⟩
    · rw [e0, if_pos rfl] at e
      exact nn6_make hF h hz ha hp hL (by omega) e
    · rw [e0, if_neg (by decide), if_pos rfl] at e
      obtain ⟨v', σ2, m2, C2, π2, S2, q1, q2, q3, q4⟩ := pr_set (F := F) (M0 := 80) (by omega) h hz ha hp hp4 hL hL9 h27 (by omega) (by omega)
      rw [q1] at e
      cases e
      exact fun k k8 => Or.inl (q3.2.1.2 6 0 k (by omega) (by omega) (by omega) (by omega) (by omega) (by omega) (by omega))
    · rw [e0, if_neg (by decide), if_neg (by decide), if_pos rfl] at e
      obtain ⟨v', σ2, m2, C2, π2, S2, q1, q2, q3, q4⟩ := pr_delete (F := F) (M0 := 80) hF h hz ha hp hp4 hL hL9 h27 (by omega) (by omega)
      rw [q1] at e
      cases e
      exact fun k k8 => Or.inl (q3.2.1.2 6 0 k (by omega) (by omega) (by omega) (by omega) (by omega) (by omega) (by omega))
    · have hc : (if σ.1 56 a 0 = 0 then fX8_tryMake F z a σ else if σ.1 56 a 0 = 1 then fX8_trySet F z a σ else if σ.1 56 a 0 = 2 then fX8_tryDelete F z a σ else if σ.1 56 a 0 = 3 then fX8_tryRights F z a σ else if σ.1 56 a 0 = 4 then fX8_tryRights F z a σ else if σ.1 56 a 0 = 5 then fX8_tryCheck F z a σ else fX8_tryRights F z a σ) = fX8_tryRights F z a σ := by
        rw [e0]
        obtain rfl | rfl := hk
        · rw [if_neg (by decide), if_neg (by decide), if_neg (by decide), if_pos (by decide)]
        · rw [if_neg (by decide), if_neg (by decide), if_neg (by decide), if_neg (by decide), if_pos (by decide)]
      rw [hc] at e
      obtain ⟨v', σ2, m2, C2, π2, S2, q1, q2, q3, q4⟩ := pr_rights (F := F) (M0 := 80) (by omega) h hz ha hp hp4 hL hL9 h27 (by omega) (by omega) hk e0 hx hy e6
      rw [q1] at e
      cases e
      exact fun k k8 => Or.inl (q3.2.1.2 6 0 k (by omega) (by omega) (by omega) (by omega) (by omega) (by omega) (by omega))
    · rw [e0, if_neg (by decide), if_neg (by decide), if_neg (by decide), if_neg (by decide), if_neg (by decide), if_pos rfl] at e
      obtain ⟨v', q1, q2⟩ := pr_check (F := F) (M0 := 80) (L := L) (by omega) h hz ha hp hp4 (show π S < 2 ^ 31 by omega)
      rw [q1] at e
      cases e
      exact fun k k8 => Or.inl rfl
  intro k k8
  rcases key k k8 with q | q
  · rw [q]; exact h6 k k8
  · exact ⟨L + 1, hL9, q⟩
end N6
theorem fr_one {σ σ1 σ2 : qS} {M S : Nat} (a9 : bgS σ σ1) (x2 : frB σ1 σ2 S M) : frU σ σ2 ∧ frB6 σ σ2 M :=
  ⟨⟨x2.1.trans a9.1, fun f j k w => by rw [x2.2 f j k (by omega) (by omega) (by omega) (by omega) (by omega) (by omega) (by omega), a9.2, if_neg (by omega), if_neg (by omega)]⟩, fun f k w1 w2 w3 => by rw [x2.2 f 0 k (by omega) (by omega) (by omega) (by omega) (by omega) (by omega) (by omega), a9.2, if_neg (by omega), if_neg (by omega)]⟩
theorem fr_two {m m1 m2 : qS} {M R Z : Nat} (a10 : bgM m m1) (x3 : frD m1 m2 R M) : frV m m2 R Z ∧ (∀ q, q ≠ 7 → q ≠ 18 → q ≠ 19 → q ≠ 25 → q ≠ 27 → m2.1 0 0 q = m.1 0 0 q) :=
  ⟨fun f q w => by rw [x3.2 f 0 q (by omega) (by omega) (by omega) (by omega) (by omega), a10.2, if_neg (by omega), if_neg (by omega), if_neg (by omega), if_neg (by omega), if_neg (by omega)], fun q w1 w2 w3 w4 w5 => by rw [x3.2 0 0 q (by omega) (by omega) (by omega) (by omega) (by omega), a10.2, if_neg (by omega), if_neg (by omega), if_neg (by omega), if_neg (by omega), if_neg (by omega)]⟩
theorem fr_st {σ σ' : qS} (h : stF σ σ') : frU σ σ' ∧ ∀ f k, 2 ≤ f → f ≤ 6 → σ'.1 f 0 k = σ.1 f 0 k :=
  ⟨⟨h.1, fun f j k w => h.2 f j k (by omega) (by omega) (by omega) (by omega) (by omega) (by omega) (by omega)⟩, fun f k w1 w2 => h.2 f 0 k (by omega) (by omega) (by omega) (by omega) (by omega) (by omega) (by omega)⟩
theorem fr_stM {m m' : qS} {R Z : Nat} (h : stM m m' Z) : frV m m' R Z := fun f q w => h.2 f 0 q (by omega)
/-- what the reference does with an act that isn't gathered -/
def aTl (F : Nat) (z w x1 x2 x3 x4 x5 x6 : Int32) (s1 : qS) : Option (Int32 × qS) := bnd (fX9_begin F s1) fun s4 => bnd2 (fX9_acts F z w x1 x2 x3 x4 x5 x6 s4) fun v6 s5 => if 0 ≤ v6 then (bnd2 (fX9_settles F z s5) fun v9 s8 => (if v9 = 0 then (fX9_act_164 F v6 s8) else (fX9_act_164 F ((-9)) s8))) else some (v6, s5)
section PS
variable {F : Nat}
theorem pr_sub {n z a : Nat} {σ m : qS} {w x1 x2 x3 x4 x5 x6 : Int32} (h : kI n σ m) (hn : n < 512) (hz : z < σ.2 0 0) (hl : m.1 135 0 z = 0) (hg : m.1 136 0 z = 0) (ha : a < 1 + 6 * σ.2 0 0) (hr : actR σ z a w x1 x2 x3 x4 x5 x6) (hF : 100000 ≤ F) : ∃ v σ' m', fX8_submit F z a σ = some (v, σ') ∧ aTl F (nI z) w x1 x2 x3 x4 x5 x6 m = some (v, m') ∧ kI (n + 1) σ' m' ∧ σ'.2 = σ.2 ∧ m'.1 0 0 57 = m.1 0 0 57 := by
  obtain ⟨C, π, M, S, L, Z, Y, T, cmp, hk, hR, hlo, h6, hK, hP, hcL, hT, hLn, hS, hp⟩ := h
  have hZ := hR.1.1
  have hZ10 := hR.1.2.1
  obtain ⟨hza, hzb, hzc⟩ := hR.2.1 z (by omega)
  obtain ⟨p, p4, p1, p2⟩ := hza.2.1
  have hM80 : M ≤ 80 := hk.1.2.1.2.2.2.2.1
  have h0S : π 0 ≤ π S := kLog_mono hk.1.1 (Nat.zero_le _) (Nat.le_refl _)
  obtain ⟨v, σ1, m1, σ2, m2, C', π', M', S', a1, a2, a3, a4, a5, a6, a7, a8, a9, a10, a11⟩ := pr_one (F := F) (a := a) (p := p) hk (by omega) (by omega) hZ10 (by omega) hZ (by omega) hl (by rw [← hZ]; exact ha) p1 p4 p2 hr hF
  have hx := a8
  obtain ⟨y1, y2, y3, y4, y5, y6, y7, y8, y9, y10⟩ := hx
  obtain ⟨u1, u2⟩ := fr_one a9 y2
  obtain ⟨v1, v2⟩ := fr_two (Z := Z) a10 y3
  have o1 : ∀ f j k, f ≠ 0 → ¬ (31 ≤ f ∧ f ≤ 37 ∧ j = 3) → σ1.1 f j k = σ.1 f j k := fun f j k w1 w2 => by rw [a9.2, if_neg (by omega), if_neg (by omega)]
  have h61 : nn6 σ1 := fun k k8 => by rw [o1 6 0 k (by omega) (by omega)]; exact h6 k k8
  have hL1 : σ1.1 0 0 15 = nI L := by rw [a9.2, if_neg (by omega), if_neg (by omega)]; exact hk.2.2.2.2.2.2.2.2.1
  have h27 : m1.1 0 0 27 = nI (L + 1) := by rw [← y3.2 0 0 27 (by omega) (by omega) (by omega) (by omega) (by omega)]; exact a11
  have hkA1 : kA σ1 m1 C π M S := by
    obtain ⟨s1, n1, b1, b2, b3, -⟩ := kD_begin (F := F) hk (by omega) (by omega)
    rw [a1] at b1; cases b1
    rw [a2] at b2; cases b2
    exact b3.1
  have h62 : nn6 σ2 := nn6_act (F := F) (L := L) (m := m1) (p := p) (by omega) hkA1 (by rw [a9.1]; exact hz) (by rw [a9.1]; exact ha) (by rw [o1 50 z 1 (by omega) (by omega)]; exact p1) p4 hL1 (by omega) h27 (by have := nH_le (c := C S); omega) (by omega) (by have := nH_le (c := C S); omega) (actR_fr hr (by funext q; exact o1 56 a q (by omega) (by omega))) h61 a3
  have h0' : π' 0 = π 0 := (y6 0 (Nat.zero_le _)).2
  have ht0 : tEq (C' 0) 0 (C 0) 0 := (y6 0 (Nat.zero_le _)).1
  have eSS := (y6 S (Nat.le_refl _)).2
  have eHS := nH_tEq (y6 S (Nat.le_refl _)).1
  have hM80' : M' ≤ 80 := a5.1.2.1.2.2.2.2.1
  have hmo : π' S ≤ π' S' := kLog_mono a5.1.1 y4 (Nat.le_refl _)
  have hlo2 : kLo σ2 m2 := by
    unfold kLo
    rw [y2.2 0 0 17 (by omega) (by omega) (by omega) (by omega) (by omega) (by omega) (by omega), a9.2, if_neg (by omega), if_neg (by omega), v2 54 (by omega) (by omega) (by omega) (by omega) (by omega)]
    exact hlo
  unfold fX8_submit aTl
  have e14 : σ.1 50 z 14 = 0 := by rw [hzc.1 hl, hg]
  rw [gnl_pos hz]
  repeat rw [nm_x]
  rw [e14, if_pos rfl, a1, a2, bnd_s, bnd_s, a3, a4, bnd2_s, bnd2_s]
  by_cases cv : 0 ≤ v
  · rw [if_pos cv, if_pos cv]
    obtain ⟨t, r, σ3, m3, M3, S3, L3, b1, b2, b3, b4, b5, b6, b7, b8, b9⟩ := pr_settle (F := F) (z := z) a5 (by omega) (by omega) hZ10 a6 (fun k k8 => by
      obtain ⟨y, z1, z2⟩ := (hk.1.2.2.2.2 k k8).2
      exact ⟨y, by omega, by rw [(y6 S (Nat.le_refl _)).1 33 k (by decide) (by decide) k8]; exact z2⟩) (fun k k8 kM => by
      rw [y2.2 14 0 k (by omega) (by omega) (by omega) (by omega) (by omega) (by omega) (by omega), o1 14 0 k (by omega) (by omega)]
      exact (hk.2.2.2.2.2.2.2.1 k k8).2 kM) a11 (by omega) (by rw [u1.1]; exact hZ) (by omega) (by rw [v1 135 z (by omega)]; exact hl) hlo2 hF
    obtain ⟨c1, c2⟩ := fr_st b8
    have c3 := fr_stM (R := π S) b9
    have fin : kI (n + 1) σ3 m3 := kI_of (n := n) hR hK hP h0S hcL b4 (frU_tr u1 c1) (frV_tr v1 c3 (Nat.le_refl _)) (fun f k k1 k2 k3 => by rw [c2 f k k1 k2]; exact u2 f k k1 k2 k3) (fun k k8 => by rw [c2 6 k (by decide) (by decide)]; exact h62 k k8) (by rcases b5 with q | q <;> omega) h0' ht0 (by
      rcases b5 with q | q
      · rw [q.2.1]; omega
      · rw [q.2.1]; omega) (Or.inl ⟨b6, b7⟩) (by rcases b5 with q | q <;> omega) (by omega) (by rcases b5 with q | q <;> omega) (by
      rcases b5 with q | q
      · rw [q.2.1]; omega
      · rw [q.2.1]; omega) (by
      rcases b5 with q | q
      · rw [q.2.1]; omega
      · rw [q.2.1]; omega)
    have e2 : σ3.2 = σ.2 := (frU_tr u1 c1).1
    have e57 : m3.1 0 0 57 = m.1 0 0 57 := by rw [b9.2 0 0 57 (by omega), v2 57 (by omega) (by omega) (by omega) (by omega) (by omega)]
    rw [b1, b2, bnd2_s, bnd2_s]
    rcases b3 with ⟨q1, q2⟩ | ⟨q1, q2⟩
    · rw [q1, q2, if_neg (by decide), if_pos rfl]
      exact ⟨v, σ3, m3, rfl, rfl, fin, e2, e57⟩
    · rw [q1, q2, if_pos rfl, if_neg (by decide)]
      exact ⟨-9, σ3, m3, rfl, rfl, fin, e2, e57⟩
  · rw [if_neg cv, if_neg cv]
    obtain ⟨rfl, rfl⟩ := a7 (by
      have := Int32.not_le.mp cv
      exact this)
    exact ⟨v, σ2, m2, rfl, rfl, kI_of (n := n) hR hK hP h0S hcL a5 u1 v1 u2 h62 (Nat.le_refl _) h0' ht0 (by omega) hlo2 (Nat.le_refl _) (by omega) (by omega) (by omega) (by omega), u1.1, v2 57 (by omega) (by omega) (by omega) (by omega) (by omega)⟩
end PS

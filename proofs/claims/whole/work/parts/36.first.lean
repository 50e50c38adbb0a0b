/-! THE FIRST WORLDS -/
def cI0 (k : Nat) : Nat → Int32 := if k = 0 then (fun j => if j = 13 then 1 else 0) else if k = 1 then (fun j => if j = 5 then 1 else 0) else if k = 2 then (upd (fun _ => 0) (0 : Int32).toNatClampNeg (-100)) else if k = 3 then (upd (fun _ => 0) (0 : Int32).toNatClampNeg (-100)) else if k = 8 then (fun j => 0) else if k = 9 then (fun j => 0) else if k = 14 then (fun j => if j < 80 then 80 else (fun _ => 0) j) else if k = 16 then (fun j => 0) else if k = 18 then (fun j => 0) else if k = 30 then (fun j => 0) else if k = 31 then (upd (fun _ => 0) (0 : Int32).toNatClampNeg 1) else if k = 36 then (upd (fun _ => 0) (0 : Int32).toNatClampNeg 255) else if k = 56 then (fun j => if j = 0 then 5 else if j = 1 then (-100) else if j = 4 then (-1) else if j = 6 then (-100) else 0) else fun _ => 0
def σc0 : qS := (fun k _ => cI0 k, fun _ _ => 0)
def gT0 (i : Nat) : Nat := if i = 0 then 8 else if i = 1 then 59 else if i = 2 then 70 else if i = 3 then 18 else if i = 4 then 28 else 43
def gC0 (k i : Nat) : Nat := if k = 0 then 0 else if k = 1 then 1 else if k = 2 then 2 else if k = 3 then 3 else if k = 4 then 4 else if k = 5 then 5 else if k = 6 then 6 else if k = 7 then 7 else if k = 9 then 38 else if k = 10 then 39 else if k = 11 then 40 else if k = 12 then 41 else if k = 13 then 42 else if k = 14 then 56 else if k = 15 then 57 else if k = 16 then 53 else if k = 18 then 54 else if k = 8 then (if i = 0 then 58 else if i = 1 then 69 else 80) else if k = 56 then 55 else gT0 i + (k - 30)
def aC0 (h0 e0 : Nat) (a : Nat → Nat) : qAd := fun k i => if k = 17 then e0 else if k = 19 then e0 else if k = 0 then h0 else if k = 1 then a 0 else if k = 2 then a 1 else if k = 3 then a 2 else if k = 4 then a 3 else if k = 5 then a 4 else if k = 6 then a 5 else if k = 7 then a 6 else if k = 9 then a 37 else if k = 10 then a 38 else if k = 11 then a 39 else if k = 12 then a 40 else if k = 13 then a 41 else if k = 14 then a 55 else if k = 15 then a 56 else if k = 16 then a 52 else if k = 18 then a 53 else if k = 8 then (if i = 0 then a 57 else if i = 1 then a 58 else a 69) else if k = 56 then a 54 else a ((if i = 0 then 7 else if i = 1 then 59 else if i = 2 then 70 else if i = 3 then 17 else if i = 4 then 27 else 42) + (k - 30))
def mI0 (k : Nat) : Nat → Int32 := if k = 0 then (fun j => if j = 7 then 1 else 0) else if k = 100 then (upd (fun _ => 0) (0 : Int32).toNatClampNeg (-100)) else if k = 101 then (upd (fun _ => 0) (0 : Int32).toNatClampNeg (-100)) else if k = 106 then (fun j => if j < 80 then -1 else 0) else if k = 108 then (upd (upd (upd (fun _ => 0) (0 : Int32).toNatClampNeg 1) (80 : Int32).toNatClampNeg 1) (160 : Int32).toNatClampNeg 1) else if k = 113 then (upd (upd (upd (fun _ => 0) (0 : Int32).toNatClampNeg 15) (80 : Int32).toNatClampNeg 15) (160 : Int32).toNatClampNeg 15) else if k = 114 then (upd (upd (upd (fun _ => 0) (0 : Int32).toNatClampNeg 15) (80 : Int32).toNatClampNeg 15) (160 : Int32).toNatClampNeg 15) else fun _ => 0
def σm0 : qS := (fun k _ => mI0 k, fun _ _ => 0)
def gM0 (k : Nat) : Nat := if k = 0 then 0 else if k = 100 then 1 else if k = 101 then 2 else if k = 102 then 3 else if k = 103 then 4 else if k = 104 then 5 else if k = 105 then 6 else if k = 106 then 7 else if k = 108 then 8 else if k = 109 then 9 else if k = 110 then 10 else if k = 111 then 11 else if k = 112 then 12 else if k = 113 then 13 else if k = 114 then 14 else if k = 115 then 15 else if k = 116 then 16 else if k = 120 then 17 else if k = 121 then 18 else if k = 122 then 19 else if k = 123 then 20 else if k = 124 then 21 else if k = 129 then 22 else if k = 130 then 23 else if k = 131 then 24 else if k = 132 then 25 else if k = 133 then 26 else if k = 134 then 27 else if k = 135 then 28 else if k = 136 then 29 else if k = 137 then 30 else if k = 138 then 31 else if k = 139 then 32 else if k = 140 then 33 else if k = 141 then 34 else if k = 142 then 35 else if k = 143 then 36 else if k = 144 then 37 else if k = 145 then 38 else if k = 146 then 39 else if k = 147 then 40 else if k = 149 then 41 else if k = 150 then 42 else 43
def aM0 (h0 : Nat) (a : Nat → Nat) : qAd := fun k _ => if k = 0 then h0 else a (gM0 k - 1)
theorem mElim {Y : Nat → ClassId} {P : Nat → Nat → Prop} (h0 : P 0 0) (h100 : P 100 0) (h101 : P 101 0) (h102 : P 102 0) (h103 : P 103 0) (h104 : P 104 0) (h105 : P 105 0) (h106 : P 106 0) (h108 : P 108 0) (h109 : P 109 0) (h110 : P 110 0) (h111 : P 111 0) (h112 : P 112 0) (h113 : P 113 0) (h114 : P 114 0) (h115 : P 115 0) (h116 : P 116 0) (h120 : P 120 0) (h121 : P 121 0) (h122 : P 122 0) (h123 : P 123 0) (h124 : P 124 0) (h129 : P 129 0) (h130 : P 130 0) (h131 : P 131 0) (h132 : P 132 0) (h133 : P 133 0) (h134 : P 134 0) (h135 : P 135 0) (h136 : P 136 0) (h137 : P 137 0) (h138 : P 138 0) (h139 : P 139 0) (h140 : P 140 0) (h141 : P 141 0) (h142 : P 142 0) (h143 : P 143 0) (h144 : P 144 0) (h145 : P 145 0) (h146 : P 146 0) (h147 : P 147 0) (h149 : P 149 0) (h150 : P 150 0) (h151 : P 151 0) {k i : Nat} (hd : qd (mL Y) σm0 k i) : P k i := by
  replace hd : i < (if k = 0 then 1 else if mAr k = 0 then 0 else 1) := hd
  by_cases c0 : k = 0
  · rw [if_pos c0] at hd; obtain rfl : i = 0 := by omega
    subst c0; exact h0
  rw [if_neg c0] at hd
  by_cases cz : mAr k = 0
  · rw [if_pos cz] at hd; exact absurd hd (Nat.not_lt_zero i)
  rw [if_neg cz] at hd
  obtain rfl : i = 0 := by omega
  by_cases c100 : k = 100
  · subst c100; exact h100
  by_cases c101 : k = 101
  · subst c101; exact h101
  by_cases c102 : k = 102
  · subst c102; exact h102
  by_cases c103 : k = 103
  · subst c103; exact h103
  by_cases c104 : k = 104
  · subst c104; exact h104
  by_cases c105 : k = 105
  · subst c105; exact h105
  by_cases c106 : k = 106
  · subst c106; exact h106
  by_cases c108 : k = 108
  · subst c108; exact h108
  by_cases c109 : k = 109
  · subst c109; exact h109
  by_cases c110 : k = 110
  · subst c110; exact h110
  by_cases c111 : k = 111
  · subst c111; exact h111
  by_cases c112 : k = 112
  · subst c112; exact h112
  by_cases c113 : k = 113
  · subst c113; exact h113
  by_cases c114 : k = 114
  · subst c114; exact h114
  by_cases c115 : k = 115
  · subst c115; exact h115
  by_cases c116 : k = 116
  · subst c116; exact h116
  by_cases c120 : k = 120
  · subst c120; exact h120
  by_cases c121 : k = 121
  · subst c121; exact h121
  by_cases c122 : k = 122
  · subst c122; exact h122
  by_cases c123 : k = 123
  · subst c123; exact h123
  by_cases c124 : k = 124
  · subst c124; exact h124
  by_cases c129 : k = 129
  · subst c129; exact h129
  by_cases c130 : k = 130
  · subst c130; exact h130
  by_cases c131 : k = 131
  · subst c131; exact h131
  by_cases c132 : k = 132
  · subst c132; exact h132
  by_cases c133 : k = 133
  · subst c133; exact h133
  by_cases c134 : k = 134
  · subst c134; exact h134
  by_cases c135 : k = 135
  · subst c135; exact h135
  by_cases c136 : k = 136
  · subst c136; exact h136
  by_cases c137 : k = 137
  · subst c137; exact h137
  by_cases c138 : k = 138
  · subst c138; exact h138
  by_cases c139 : k = 139
  · subst c139; exact h139
  by_cases c140 : k = 140
  · subst c140; exact h140
  by_cases c141 : k = 141
  · subst c141; exact h141
  by_cases c142 : k = 142
  · subst c142; exact h142
  by_cases c143 : k = 143
  · subst c143; exact h143
  by_cases c144 : k = 144
  · subst c144; exact h144
  by_cases c145 : k = 145
  · subst c145; exact h145
  by_cases c146 : k = 146
  · subst c146; exact h146
  by_cases c147 : k = 147
  · subst c147; exact h147
  by_cases c149 : k = 149
  · subst c149; exact h149
  by_cases c150 : k = 150
  · subst c150; exact h150
  by_cases c151 : k = 151
  · subst c151; exact h151
  exact absurd (by unfold mAr; simp only [c100, c101, c102, c103, c104, c105, c106, c108, c109, c110, c111, c112, c113, c114, c115, c116, c120, c121, c122, c123, c124, c129, c130, c131, c132, c133, c134, c135, c136, c137, c138, c139, c140, c141, c142, c143, c144, c145, c146, c147, c149, c150, c151, if_false]) cz
theorem mPlace {Y : Nat → ClassId} {h0 : Nat} {a : Nat → Nat} {k i : Nat} (hd : qd (mL Y) σm0 k i) : (wsX9E Y h0 a)[gM0 k]? = some (aM0 h0 a k i, qc (mL Y) (aM0 h0 a) σm0 k i) := by
  refine mElim (Y := Y) (P := fun k i => (wsX9E Y h0 a)[gM0 k]? = some (aM0 h0 a k i, qc (mL Y) (aM0 h0 a) σm0 k i)) ?_ ?_ ?_ ?_ ?_ ?_ ?_ ?_ ?_ ?_ ?_ ?_ ?_ ?_ ?_ ?_ ?_ ?_ ?_ ?_ ?_ ?_ ?_ ?_ ?_ ?_ ?_ ?_ ?_ ?_ ?_ ?_ ?_ ?_ ?_ ?_ ?_ ?_ ?_ ?_ ?_ ?_ ?_ ?_ hd
  all_goals rfl
def gMi (j : Nat) : Nat := if j = 0 then 0 else if j = 1 then 100 else if j = 2 then 101 else if j = 3 then 102 else if j = 4 then 103 else if j = 5 then 104 else if j = 6 then 105 else if j = 7 then 106 else if j = 8 then 108 else if j = 9 then 109 else if j = 10 then 110 else if j = 11 then 111 else if j = 12 then 112 else if j = 13 then 113 else if j = 14 then 114 else if j = 15 then 115 else if j = 16 then 116 else if j = 17 then 120 else if j = 18 then 121 else if j = 19 then 122 else if j = 20 then 123 else if j = 21 then 124 else if j = 22 then 129 else if j = 23 then 130 else if j = 24 then 131 else if j = 25 then 132 else if j = 26 then 133 else if j = 27 then 134 else if j = 28 then 135 else if j = 29 then 136 else if j = 30 then 137 else if j = 31 then 138 else if j = 32 then 139 else if j = 33 then 140 else if j = 34 then 141 else if j = 35 then 142 else if j = 36 then 143 else if j = 37 then 144 else if j = 38 then 145 else if j = 39 then 146 else if j = 40 then 147 else if j = 41 then 149 else if j = 42 then 150 else if j = 43 then 151 else 0
theorem mBack {Y : Nat → ClassId} {k i : Nat} (hd : qd (mL Y) σm0 k i) : gMi (gM0 k) = k ∧ i = 0 ∧ gM0 k < 44 := by
  refine mElim (Y := Y) (P := fun k i => gMi (gM0 k) = k ∧ i = 0 ∧ gM0 k < 44) ?_ ?_ ?_ ?_ ?_ ?_ ?_ ?_ ?_ ?_ ?_ ?_ ?_ ?_ ?_ ?_ ?_ ?_ ?_ ?_ ?_ ?_ ?_ ?_ ?_ ?_ ?_ ?_ ?_ ?_ ?_ ?_ ?_ ?_ ?_ ?_ ?_ ?_ ?_ ?_ ?_ ?_ ?_ ?_ hd
  all_goals decide
theorem mInj {Y : Nat → ClassId} {k i k' i' : Nat} (hd : qd (mL Y) σm0 k i) (hd' : qd (mL Y) σm0 k' i') (h : gM0 k = gM0 k') : k = k' ∧ i = i' := by
  obtain ⟨h1, h2, -⟩ := mBack hd
  obtain ⟨h3, h4, -⟩ := mBack hd'
  exact ⟨by rw [← h1, h, h3], h2.trans h4.symm⟩
theorem cElim {Y : Nat → ClassId} {P : Nat → Nat → Prop} (h0_0 : P 0 0) (h1_0 : P 1 0) (h2_0 : P 2 0) (h3_0 : P 3 0) (h4_0 : P 4 0) (h5_0 : P 5 0) (h6_0 : P 6 0) (h7_0 : P 7 0) (h8_0 : P 8 0) (h8_1 : P 8 1) (h8_2 : P 8 2) (h9_0 : P 9 0) (h10_0 : P 10 0) (h11_0 : P 11 0) (h12_0 : P 12 0) (h13_0 : P 13 0) (h14_0 : P 14 0) (h15_0 : P 15 0) (h16_0 : P 16 0) (h18_0 : P 18 0) (h30_0 : P 30 0) (h30_1 : P 30 1) (h30_2 : P 30 2) (h30_3 : P 30 3) (h30_4 : P 30 4) (h30_5 : P 30 5) (h31_0 : P 31 0) (h31_1 : P 31 1) (h31_2 : P 31 2) (h31_3 : P 31 3) (h31_4 : P 31 4) (h31_5 : P 31 5) (h32_0 : P 32 0) (h32_1 : P 32 1) (h32_2 : P 32 2) (h32_3 : P 32 3) (h32_4 : P 32 4) (h32_5 : P 32 5) (h33_0 : P 33 0) (h33_1 : P 33 1) (h33_2 : P 33 2) (h33_3 : P 33 3) (h33_4 : P 33 4) (h33_5 : P 33 5) (h34_0 : P 34 0) (h34_1 : P 34 1) (h34_2 : P 34 2) (h34_3 : P 34 3) (h34_4 : P 34 4) (h34_5 : P 34 5) (h35_0 : P 35 0) (h35_1 : P 35 1) (h35_2 : P 35 2) (h35_3 : P 35 3) (h35_4 : P 35 4) (h35_5 : P 35 5) (h36_0 : P 36 0) (h36_1 : P 36 1) (h36_2 : P 36 2) (h36_3 : P 36 3) (h36_4 : P 36 4) (h36_5 : P 36 5) (h37_0 : P 37 0) (h37_1 : P 37 1) (h37_2 : P 37 2) (h37_3 : P 37 3) (h37_4 : P 37 4) (h37_5 : P 37 5) (h38_0 : P 38 0) (h38_1 : P 38 1) (h38_2 : P 38 2) (h38_3 : P 38 3) (h38_4 : P 38 4) (h38_5 : P 38 5) (h39_0 : P 39 0) (h39_1 : P 39 1) (h39_2 : P 39 2) (h39_3 : P 39 3) (h39_4 : P 39 4) (h39_5 : P 39 5) (h56_0 : P 56 0) {k i : Nat} (hd : qd (cL Y) σc0 k i) : P k i := by
  have hd9 : i < cNum (fun _ _ => 0) k := hd
  rcases cDom hd9 with h | h | h
  · obtain rfl | rfl | rfl | rfl | rfl | rfl | rfl | rfl | rfl | rfl | rfl | rfl | rfl | rfl | rfl | rfl | rfl | rfl | rfl | rfl : k = 0 ∨ k = 1 ∨ k = 2 ∨ k = 3 ∨ k = 4 ∨ k = 5 ∨ k = 6 ∨ k = 7 ∨ k = 8 ∨ k = 9 ∨ k = 10 ∨ k = 11 ∨ k = 12 ∨ k = 13 ∨ k = 14 ∨ k = 15 ∨ k = 16 ∨ k = 17 ∨ k = 18 ∨ k = 19 := by omega
    · obtain rfl : i = 0 := Nat.lt_one_iff.mp (show i < 1 from hd9)
      exact h0_0
    · obtain rfl : i = 0 := Nat.lt_one_iff.mp (show i < 1 from hd9)
      exact h1_0
    · obtain rfl : i = 0 := Nat.lt_one_iff.mp (show i < 1 from hd9)
      exact h2_0
    · obtain rfl : i = 0 := Nat.lt_one_iff.mp (show i < 1 from hd9)
      exact h3_0
    · obtain rfl : i = 0 := Nat.lt_one_iff.mp (show i < 1 from hd9)
      exact h4_0
    · obtain rfl : i = 0 := Nat.lt_one_iff.mp (show i < 1 from hd9)
      exact h5_0
    · obtain rfl : i = 0 := Nat.lt_one_iff.mp (show i < 1 from hd9)
      exact h6_0
    · obtain rfl : i = 0 := Nat.lt_one_iff.mp (show i < 1 from hd9)
      exact h7_0
    · have h9 : i < 3 := hd9
      obtain rfl | rfl | rfl : i = 0 ∨ i = 1 ∨ i = 2 := by clear hd hd9 h; omega
      · exact h8_0
      · exact h8_1
      · exact h8_2
    · obtain rfl : i = 0 := Nat.lt_one_iff.mp (show i < 1 from hd9)
      exact h9_0
    · obtain rfl : i = 0 := Nat.lt_one_iff.mp (show i < 1 from hd9)
      exact h10_0
    · obtain rfl : i = 0 := Nat.lt_one_iff.mp (show i < 1 from hd9)
      exact h11_0
    · obtain rfl : i = 0 := Nat.lt_one_iff.mp (show i < 1 from hd9)
      exact h12_0
    · obtain rfl : i = 0 := Nat.lt_one_iff.mp (show i < 1 from hd9)
      exact h13_0
    · obtain rfl : i = 0 := Nat.lt_one_iff.mp (show i < 1 from hd9)
      exact h14_0
    · obtain rfl : i = 0 := Nat.lt_one_iff.mp (show i < 1 from hd9)
      exact h15_0
    · obtain rfl : i = 0 := Nat.lt_one_iff.mp (show i < 1 from hd9)
      exact h16_0
    · exact absurd (show i < 0 from hd9) (Nat.not_lt_zero i)
    · obtain rfl : i = 0 := Nat.lt_one_iff.mp (show i < 1 from hd9)
      exact h18_0
    · exact absurd (show i < 0 from hd9) (Nat.not_lt_zero i)
  · obtain rfl | rfl | rfl | rfl | rfl | rfl | rfl | rfl | rfl | rfl : k = 30 ∨ k = 31 ∨ k = 32 ∨ k = 33 ∨ k = 34 ∨ k = 35 ∨ k = 36 ∨ k = 37 ∨ k = 38 ∨ k = 39 := by omega
    · have h9 : i < 6 := hd9
      obtain rfl | rfl | rfl | rfl | rfl | rfl : i = 0 ∨ i = 1 ∨ i = 2 ∨ i = 3 ∨ i = 4 ∨ i = 5 := by clear hd hd9 h; omega
      · exact h30_0
      · exact h30_1
      · exact h30_2
      · exact h30_3
      · exact h30_4
      · exact h30_5
    · have h9 : i < 6 := hd9
      obtain rfl | rfl | rfl | rfl | rfl | rfl : i = 0 ∨ i = 1 ∨ i = 2 ∨ i = 3 ∨ i = 4 ∨ i = 5 := by clear hd hd9 h; omega
      · exact h31_0
      · exact h31_1
      · exact h31_2
      · exact h31_3
      · exact h31_4
      · exact h31_5
    · have h9 : i < 6 := hd9
      obtain rfl | rfl | rfl | rfl | rfl | rfl : i = 0 ∨ i = 1 ∨ i = 2 ∨ i = 3 ∨ i = 4 ∨ i = 5 := by clear hd hd9 h; omega
      · exact h32_0
      · exact h32_1
      · exact h32_2
      · exact h32_3
      · exact h32_4
      · exact h32_5
    · have h9 : i < 6 := hd9
      obtain rfl | rfl | rfl | rfl | rfl | rfl : i = 0 ∨ i = 1 ∨ i = 2 ∨ i = 3 ∨ i = 4 ∨ i = 5 := by clear hd hd9 h; omega
      · exact h33_0
      · exact h33_1
      · exact h33_2
      · exact h33_3
      · exact h33_4
      · exact h33_5
    · have h9 : i < 6 := hd9
      obtain rfl | rfl | rfl | rfl | rfl | rfl : i = 0 ∨ i = 1 ∨ i = 2 ∨ i = 3 ∨ i = 4 ∨ i = 5 := by clear hd hd9 h; omega
      · exact h34_0
      · exact h34_1
      · exact h34_2
      · exact h34_3
      · exact h34_4
      · exact h34_5
    · have h9 : i < 6 := hd9
      obtain rfl | rfl | rfl | rfl | rfl | rfl : i = 0 ∨ i = 1 ∨ i = 2 ∨ i = 3 ∨ i = 4 ∨ i = 5 := by clear hd hd9 h; omega
      · exact h35_0
      · exact h35_1
      · exact h35_2
      · exact h35_3
      · exact h35_4
      · exact h35_5
    · have h9 : i < 6 := hd9
      obtain rfl | rfl | rfl | rfl | rfl | rfl : i = 0 ∨ i = 1 ∨ i = 2 ∨ i = 3 ∨ i = 4 ∨ i = 5 := by clear hd hd9 h; omega
      · exact h36_0
      · exact h36_1
      · exact h36_2
      · exact h36_3
      · exact h36_4
      · exact h36_5
    · have h9 : i < 6 := hd9
      obtain rfl | rfl | rfl | rfl | rfl | rfl : i = 0 ∨ i = 1 ∨ i = 2 ∨ i = 3 ∨ i = 4 ∨ i = 5 := by clear hd hd9 h; omega
      · exact h37_0
      · exact h37_1
      · exact h37_2
      · exact h37_3
      · exact h37_4
      · exact h37_5
    · have h9 : i < 6 := hd9
      obtain rfl | rfl | rfl | rfl | rfl | rfl : i = 0 ∨ i = 1 ∨ i = 2 ∨ i = 3 ∨ i = 4 ∨ i = 5 := by clear hd hd9 h; omega
      · exact h38_0
      · exact h38_1
      · exact h38_2
      · exact h38_3
      · exact h38_4
      · exact h38_5
    · have h9 : i < 6 := hd9
      obtain rfl | rfl | rfl | rfl | rfl | rfl : i = 0 ∨ i = 1 ∨ i = 2 ∨ i = 3 ∨ i = 4 ∨ i = 5 := by clear hd hd9 h; omega
      · exact h39_0
      · exact h39_1
      · exact h39_2
      · exact h39_3
      · exact h39_4
      · exact h39_5
  · obtain rfl | rfl | rfl | rfl | rfl | rfl | rfl | rfl | rfl : k = 50 ∨ k = 51 ∨ k = 52 ∨ k = 53 ∨ k = 54 ∨ k = 55 ∨ k = 56 ∨ k = 57 ∨ k = 58 := by omega
    · exact absurd (show i < 0 from hd9) (Nat.not_lt_zero i)
    · exact absurd (show i < 0 from hd9) (Nat.not_lt_zero i)
    · exact absurd (show i < 0 from hd9) (Nat.not_lt_zero i)
    · exact absurd (show i < 0 from hd9) (Nat.not_lt_zero i)
    · exact absurd (show i < 0 from hd9) (Nat.not_lt_zero i)
    · exact absurd (show i < 0 from hd9) (Nat.not_lt_zero i)
    · obtain rfl : i = 0 := Nat.lt_one_iff.mp (show i < 1 from hd9)
      exact h56_0
    · exact absurd (show i < 0 from hd9) (Nat.not_lt_zero i)
    · exact absurd (show i < 0 from hd9) (Nat.not_lt_zero i)
theorem cPlace {Y : Nat → ClassId} {D : va_G} {H : Heap} {h0 e0 : Nat} {a : Nat → Nat} {k i : Nat} (hd : qd (cL Y) σc0 k i) : ∃ e9 : va_E, (wsX8E Y h0 e0 a)[gC0 k i]? = some (aC0 h0 e0 a k i, e9) ∧ (va_at D vwCl (aC0 h0 e0 a k i, e9) H → va_at D vwCl (aC0 h0 e0 a k i, qc (cL Y) (aC0 h0 e0 a) σc0 k i) H) := by
  refine cElim (Y := Y) (P := fun k i => ∃ e9 : va_E, (wsX8E Y h0 e0 a)[gC0 k i]? = some (aC0 h0 e0 a k i, e9) ∧ (va_at D vwCl (aC0 h0 e0 a k i, e9) H → va_at D vwCl (aC0 h0 e0 a k i, qc (cL Y) (aC0 h0 e0 a) σc0 k i) H)) ?_ ?_ ?_ ?_ ?_ ?_ ?_ ?_ ?_ ?_ ?_ ?_ ?_ ?_ ?_ ?_ ?_ ?_ ?_ ?_ ?_ ?_ ?_ ?_ ?_ ?_ ?_ ?_ ?_ ?_ ?_ ?_ ?_ ?_ ?_ ?_ ?_ ?_ ?_ ?_ ?_ ?_ ?_ ?_ ?_ ?_ ?_ ?_ ?_ ?_ ?_ ?_ ?_ ?_ ?_ ?_ ?_ ?_ ?_ ?_ ?_ ?_ ?_ ?_ ?_ ?_ ?_ ?_ ?_ ?_ ?_ ?_ ?_ ?_ ?_ ?_ ?_ ?_ ?_ ?_ ?_ hd
  · exact ⟨_, rfl, fun h9 => h9⟩
  · exact ⟨_, rfl, fun h9 => h9⟩
  · exact ⟨_, rfl, fun h9 => h9⟩
  · exact ⟨_, rfl, fun h9 => h9⟩
  · exact ⟨_, rfl, fun h9 => h9⟩
  · exact ⟨_, rfl, fun h9 => h9⟩
  · exact ⟨_, rfl, fun h9 => h9⟩
  · exact ⟨_, rfl, fun h9 => at_arr (fun j hj => by rcases (by omega : j = 0 ∨ j = 1 ∨ j = 2) with rfl | rfl | rfl <;> rfl) h9⟩
  · exact ⟨_, rfl, fun h9 => h9⟩
  · exact ⟨_, rfl, fun h9 => h9⟩
  · exact ⟨_, rfl, fun h9 => h9⟩
  · exact ⟨_, rfl, fun h9 => h9⟩
  · exact ⟨_, rfl, fun h9 => h9⟩
  · exact ⟨_, rfl, fun h9 => h9⟩
  · exact ⟨_, rfl, fun h9 => h9⟩
  · exact ⟨_, rfl, fun h9 => h9⟩
  · exact ⟨_, rfl, fun h9 => h9⟩
  · exact ⟨_, rfl, fun h9 => h9⟩
  · exact ⟨_, rfl, fun h9 => h9⟩
  · exact ⟨_, rfl, fun h9 => h9⟩
  · exact ⟨_, rfl, fun h9 => h9⟩
  · exact ⟨_, rfl, fun h9 => h9⟩
  · exact ⟨_, rfl, fun h9 => h9⟩
  · exact ⟨_, rfl, fun h9 => h9⟩
  · exact ⟨_, rfl, fun h9 => h9⟩
  · exact ⟨_, rfl, fun h9 => h9⟩
  · exact ⟨_, rfl, fun h9 => h9⟩
  · exact ⟨_, rfl, fun h9 => h9⟩
  · exact ⟨_, rfl, fun h9 => h9⟩
  · exact ⟨_, rfl, fun h9 => h9⟩
  · exact ⟨_, rfl, fun h9 => h9⟩
  · exact ⟨_, rfl, fun h9 => h9⟩
  · exact ⟨_, rfl, fun h9 => h9⟩
  · exact ⟨_, rfl, fun h9 => h9⟩
  · exact ⟨_, rfl, fun h9 => h9⟩
  · exact ⟨_, rfl, fun h9 => h9⟩
  · exact ⟨_, rfl, fun h9 => h9⟩
  · exact ⟨_, rfl, fun h9 => h9⟩
  · exact ⟨_, rfl, fun h9 => h9⟩
  · exact ⟨_, rfl, fun h9 => h9⟩
  · exact ⟨_, rfl, fun h9 => h9⟩
  · exact ⟨_, rfl, fun h9 => h9⟩
  · exact ⟨_, rfl, fun h9 => h9⟩
  · exact ⟨_, rfl, fun h9 => h9⟩
  · exact ⟨_, rfl, fun h9 => h9⟩
  · exact ⟨_, rfl, fun h9 => h9⟩
  · exact ⟨_, rfl, fun h9 => h9⟩
  · exact ⟨_, rfl, fun h9 => h9⟩
  · exact ⟨_, rfl, fun h9 => h9⟩
  · exact ⟨_, rfl, fun h9 => h9⟩
  · exact ⟨_, rfl, fun h9 => h9⟩
  · exact ⟨_, rfl, fun h9 => h9⟩
  · exact ⟨_, rfl, fun h9 => h9⟩
  · exact ⟨_, rfl, fun h9 => h9⟩
  · exact ⟨_, rfl, fun h9 => h9⟩
  · exact ⟨_, rfl, fun h9 => h9⟩
  · exact ⟨_, rfl, fun h9 => h9⟩
  · exact ⟨_, rfl, fun h9 => h9⟩
  · exact ⟨_, rfl, fun h9 => h9⟩
  · exact ⟨_, rfl, fun h9 => h9⟩
  · exact ⟨_, rfl, fun h9 => h9⟩
  · exact ⟨_, rfl, fun h9 => h9⟩
  · exact ⟨_, rfl, fun h9 => h9⟩
  · exact ⟨_, rfl, fun h9 => h9⟩
  · exact ⟨_, rfl, fun h9 => h9⟩
  · exact ⟨_, rfl, fun h9 => h9⟩
  · exact ⟨_, rfl, fun h9 => h9⟩
  · exact ⟨_, rfl, fun h9 => h9⟩
  · exact ⟨_, rfl, fun h9 => h9⟩
  · exact ⟨_, rfl, fun h9 => h9⟩
  · exact ⟨_, rfl, fun h9 => h9⟩
  · exact ⟨_, rfl, fun h9 => h9⟩
  · exact ⟨_, rfl, fun h9 => h9⟩
  · exact ⟨_, rfl, fun h9 => h9⟩
  · exact ⟨_, rfl, fun h9 => h9⟩
  · exact ⟨_, rfl, fun h9 => h9⟩
  · exact ⟨_, rfl, fun h9 => h9⟩
  · exact ⟨_, rfl, fun h9 => h9⟩
  · exact ⟨_, rfl, fun h9 => h9⟩
  · exact ⟨_, rfl, fun h9 => h9⟩
  · exact ⟨_, rfl, fun h9 => h9⟩
def gCi (j : Nat) : Nat × Nat := if j = 0 then (0, 0) else if j = 1 then (1, 0) else if j = 2 then (2, 0) else if j = 3 then (3, 0) else if j = 4 then (4, 0) else if j = 5 then (5, 0) else if j = 6 then (6, 0) else if j = 7 then (7, 0) else if j = 58 then (8, 0) else if j = 69 then (8, 1) else if j = 80 then (8, 2) else if j = 38 then (9, 0) else if j = 39 then (10, 0) else if j = 40 then (11, 0) else if j = 41 then (12, 0) else if j = 42 then (13, 0) else if j = 56 then (14, 0) else if j = 57 then (15, 0) else if j = 53 then (16, 0) else if j = 54 then (18, 0) else if j = 8 then (30, 0) else if j = 59 then (30, 1) else if j = 70 then (30, 2) else if j = 18 then (30, 3) else if j = 28 then (30, 4) else if j = 43 then (30, 5) else if j = 9 then (31, 0) else if j = 60 then (31, 1) else if j = 71 then (31, 2) else if j = 19 then (31, 3) else if j = 29 then (31, 4) else if j = 44 then (31, 5) else if j = 10 then (32, 0) else if j = 61 then (32, 1) else if j = 72 then (32, 2) else if j = 20 then (32, 3) else if j = 30 then (32, 4) else if j = 45 then (32, 5) else if j = 11 then (33, 0) else if j = 62 then (33, 1) else if j = 73 then (33, 2) else if j = 21 then (33, 3) else if j = 31 then (33, 4) else if j = 46 then (33, 5) else if j = 12 then (34, 0) else if j = 63 then (34, 1) else if j = 74 then (34, 2) else if j = 22 then (34, 3) else if j = 32 then (34, 4) else if j = 47 then (34, 5) else if j = 13 then (35, 0) else if j = 64 then (35, 1) else if j = 75 then (35, 2) else if j = 23 then (35, 3) else if j = 33 then (35, 4) else if j = 48 then (35, 5) else if j = 14 then (36, 0) else if j = 65 then (36, 1) else if j = 76 then (36, 2) else if j = 24 then (36, 3) else if j = 34 then (36, 4) else if j = 49 then (36, 5) else if j = 15 then (37, 0) else if j = 66 then (37, 1) else if j = 77 then (37, 2) else if j = 25 then (37, 3) else if j = 35 then (37, 4) else if j = 50 then (37, 5) else if j = 16 then (38, 0) else if j = 67 then (38, 1) else if j = 78 then (38, 2) else if j = 26 then (38, 3) else if j = 36 then (38, 4) else if j = 51 then (38, 5) else if j = 17 then (39, 0) else if j = 68 then (39, 1) else if j = 79 then (39, 2) else if j = 27 then (39, 3) else if j = 37 then (39, 4) else if j = 52 then (39, 5) else if j = 55 then (56, 0) else (0, 0)
theorem cBack {Y : Nat → ClassId} {k i : Nat} (hd : qd (cL Y) σc0 k i) : gCi (gC0 k i) = (k, i) ∧ gC0 k i < 81 := by
  refine cElim (Y := Y) (P := fun k i => gCi (gC0 k i) = (k, i) ∧ gC0 k i < 81) ?_ ?_ ?_ ?_ ?_ ?_ ?_ ?_ ?_ ?_ ?_ ?_ ?_ ?_ ?_ ?_ ?_ ?_ ?_ ?_ ?_ ?_ ?_ ?_ ?_ ?_ ?_ ?_ ?_ ?_ ?_ ?_ ?_ ?_ ?_ ?_ ?_ ?_ ?_ ?_ ?_ ?_ ?_ ?_ ?_ ?_ ?_ ?_ ?_ ?_ ?_ ?_ ?_ ?_ ?_ ?_ ?_ ?_ ?_ ?_ ?_ ?_ ?_ ?_ ?_ ?_ ?_ ?_ ?_ ?_ ?_ ?_ ?_ ?_ ?_ ?_ ?_ ?_ ?_ ?_ ?_ hd
  all_goals decide
theorem cInj {Y : Nat → ClassId} {k i k' i' : Nat} (hd : qd (cL Y) σc0 k i) (hd' : qd (cL Y) σc0 k' i') (h : gC0 k i = gC0 k' i') : k = k' ∧ i = i' := by
  have h9 := (cBack hd).1.symm.trans ((congrArg gCi h).trans (cBack hd').1)
  exact ⟨congrArg Prod.fst h9, congrArg Prod.snd h9⟩
theorem lW_of {s : State} {H : Heap} {locs : List Loc} {D : va_G} {Y : Nat → ClassId} {B0 e0 : Nat} {ws : va_W} {ad am : qAd} {σ σm : qS} {o : Nat} {g : Nat → Int64} (hx : lX B0 e0 D Y (lA s) s ws H locs) (gc gm : Nat → Nat → Nat) (jo : Nat)
    (hc : ∀ k i, qd (cL Y) σ k i → ∃ e9 : va_E, ws[gc k i]? = some (ad k i, e9) ∧ (va_at D vwCl (ad k i, e9) H → va_at D vwCl (ad k i, qc (cL Y) ad σ k i) H)) (hm : ∀ k i, qd (mL Y) σm k i → ws[gm k i]? = some (am k i, qc (mL Y) am σm k i)) (ho : ws[jo]? = some (o, .inl (Y 5, 1, .inr (.inl g))))
    (ic : ∀ k i k' i', qd (cL Y) σ k i → qd (cL Y) σ k' i' → gc k i = gc k' i' → k = k' ∧ i = i') (im : ∀ k i k' i', qd (mL Y) σm k i → qd (mL Y) σm k' i' → gm k i = gm k' i' → k = k' ∧ i = i') (icm : ∀ k i k' i', qd (cL Y) σ k i → qd (mL Y) σm k' i' → gc k i ≠ gm k' i') (ico : ∀ k i, qd (cL Y) σ k i → gc k i ≠ jo) (imo : ∀ k i, qd (mL Y) σm k i → gm k i ≠ jo) : lW D Y (lA s) s ad σ am σm o g H locs := by
  obtain ⟨hP, hD, hS, hK, hA, hAB, hE⟩ := hx
  refine ⟨⟨⟨⟨fun k i hd => ?_, fun k i k' i' hd hd' h => ?_⟩, fun k i hd => ?_, hS, hK, hA⟩, hP _ _ ho, hD.2 _ _ ho, fun k i hd h => ?_⟩, ⟨fun k i hd => hP _ _ (hm k i hd), fun k i k' i' hd hd' h => ?_⟩, fun k i hd => ⟨hD.2 _ _ (hm k i hd), fun h => ?_⟩, fun k i k' i' hd hd' h => ?_⟩
  · obtain ⟨e9, h1, h2⟩ := hc k i hd
    exact h2 (hP _ _ h1)
  · obtain ⟨e9, h1, -⟩ := hc k i hd
    obtain ⟨e8, h2, -⟩ := hc k' i' hd'
    exact ic k i k' i' hd hd' (hD.1 _ _ _ _ h1 h2 h)
  · obtain ⟨e9, h1, -⟩ := hc k i hd
    exact hD.2 _ _ h1
  · obtain ⟨e9, h1, -⟩ := hc k i hd
    exact ico k i hd (hD.1 _ _ _ _ h1 ho h)
  · exact im k i k' i' hd hd' (hD.1 _ _ _ _ (hm k i hd) (hm k' i' hd') h)
  · exact imo k i hd (hD.1 _ _ _ _ (hm k i hd) ho h)
  · obtain ⟨e9, h1, -⟩ := hc k i hd
    exact icm k i k' i' hd hd' (hD.1 _ _ _ _ h1 (hm k' i' hd') h)

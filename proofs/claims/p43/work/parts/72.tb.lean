/-! the tokens of both sides -/
theorem pkX_or {T : Nat → Int} {q m : Nat} (hL : ltH T q m) (i : Nat) : (i < m ∧ pkX T q m i = T (q + i) - 96 ∧ 97 ≤ T (q + i) ∧ T (q + i) ≤ 122) ∨ (m ≤ i ∧ pkX T q m i = 0) := by
  unfold pkX
  split
  · rename_i h
    exact Or.inl ⟨h, rfl, hL i h⟩
  · exact Or.inr ⟨by omega, rfl⟩
theorem wq0 {T : Nat → Int} {q m : Nat} (hL : ltH T q m) : (437714944 : Int) = pk T q m → m ≤ 6 → mtW T q m 0 := by
  intro h hm
  unfold pk at h
  have y0 := pkX_bd hL 0
  have o0 := pkX_or hL 0
  have y1 := pkX_bd hL 1
  have o1 := pkX_or hL 1
  have y2 := pkX_bd hL 2
  have o2 := pkX_or hL 2
  have y3 := pkX_bd hL 3
  have o3 := pkX_or hL 3
  have y4 := pkX_bd hL 4
  have o4 := pkX_or hL 4
  have y5 := pkX_bd hL 5
  have o5 := pkX_or hL 5
  have d5 : pkX T q m 5 = 0 := by omega
  have d4 : pkX T q m 4 = 0 := by omega
  have d3 : pkX T q m 3 = 0 := by omega
  have d2 : pkX T q m 2 = 14 := by omega
  have d1 : pkX T q m 1 = 1 := by omega
  have d0 : pkX T q m 0 = 13 := by omega
  rw [d0] at o0
  rw [d1] at o1
  rw [d2] at o2
  rw [d3] at o3
  rw [d4] at o4
  rw [d5] at o5
  have e0 : T (q + 0) = T q := rfl
  rw [e0] at o0
  clear h y0 y1 y2 y3 y4 y5 d0 d1 d2 d3 d4 d5
  show m = 3 ∧ T q = 109 ∧ T (q + 1) = 97 ∧ T (q + 2) = 110
  refine ⟨?_, ?_, ?_, ?_⟩ <;> omega
theorem wr0 {T : Nat → Int} {q m : Nat} (h : mtW T q m 0) : pk T q m = 437714944 := by
  obtain ⟨hm, c0, c1, c2⟩ := h
  have x0 : pkX T q m 0 = 13 := by
    unfold pkX
    rw [if_pos (by omega), show T (q + 0) = T q from rfl, c0]
    rfl
  have x1 : pkX T q m 1 = 1 := by
    unfold pkX
    rw [if_pos (by omega), c1]
    rfl
  have x2 : pkX T q m 2 = 14 := by
    unfold pkX
    rw [if_pos (by omega), c2]
    rfl
  have x3 : pkX T q m 3 = 0 := by
    unfold pkX
    rw [if_neg (by omega)]
  have x4 : pkX T q m 4 = 0 := by
    unfold pkX
    rw [if_neg (by omega)]
  have x5 : pkX T q m 5 = 0 := by
    unfold pkX
    rw [if_neg (by omega)]
  unfold pk
  rw [x0, x1, x2, x3, x4, x5]
  rfl
theorem wq1 {T : Nat → Int} {q m : Nat} (hL : ltH T q m) : (247516768 : Int) = pk T q m → m ≤ 6 → mtW T q m 1 := by
  intro h hm
  unfold pk at h
  have y0 := pkX_bd hL 0
  have o0 := pkX_or hL 0
  have y1 := pkX_bd hL 1
  have o1 := pkX_or hL 1
  have y2 := pkX_bd hL 2
  have o2 := pkX_or hL 2
  have y3 := pkX_bd hL 3
  have o3 := pkX_or hL 3
  have y4 := pkX_bd hL 4
  have o4 := pkX_or hL 4
  have y5 := pkX_bd hL 5
  have o5 := pkX_or hL 5
  have d5 : pkX T q m 5 = 0 := by omega
  have d4 : pkX T q m 4 = 19 := by omega
  have d3 : pkX T q m 3 = 19 := by omega
  have d2 : pkX T q m 2 = 1 := by omega
  have d1 : pkX T q m 1 = 12 := by omega
  have d0 : pkX T q m 0 = 7 := by omega
  rw [d0] at o0
  rw [d1] at o1
  rw [d2] at o2
  rw [d3] at o3
  rw [d4] at o4
  rw [d5] at o5
  have e0 : T (q + 0) = T q := rfl
  rw [e0] at o0
  clear h y0 y1 y2 y3 y4 y5 d0 d1 d2 d3 d4 d5
  show m = 5 ∧ T q = 103 ∧ T (q + 1) = 108 ∧ T (q + 2) = 97 ∧ T (q + 3) = 115 ∧ T (q + 4) = 115
  refine ⟨?_, ?_, ?_, ?_, ?_, ?_⟩ <;> omega
theorem wr1 {T : Nat → Int} {q m : Nat} (h : mtW T q m 1) : pk T q m = 247516768 := by
  obtain ⟨hm, c0, c1, c2, c3, c4⟩ := h
  have x0 : pkX T q m 0 = 7 := by
    unfold pkX
    rw [if_pos (by omega), show T (q + 0) = T q from rfl, c0]
    rfl
  have x1 : pkX T q m 1 = 12 := by
    unfold pkX
    rw [if_pos (by omega), c1]
    rfl
  have x2 : pkX T q m 2 = 1 := by
    unfold pkX
    rw [if_pos (by omega), c2]
    rfl
  have x3 : pkX T q m 3 = 19 := by
    unfold pkX
    rw [if_pos (by omega), c3]
    rfl
  have x4 : pkX T q m 4 = 19 := by
    unfold pkX
    rw [if_pos (by omega), c4]
    rfl
  have x5 : pkX T q m 5 = 0 := by
    unfold pkX
    rw [if_neg (by omega)]
  unfold pk
  rw [x0, x1, x2, x3, x4, x5]
  rfl
theorem wq2 {T : Nat → Int} {q m : Nat} (hL : ltH T q m) : (693712896 : Int) = pk T q m → m ≤ 6 → mtW T q m 2 := by
  intro h hm
  unfold pk at h
  have y0 := pkX_bd hL 0
  have o0 := pkX_or hL 0
  have y1 := pkX_bd hL 1
  have o1 := pkX_or hL 1
  have y2 := pkX_bd hL 2
  have o2 := pkX_or hL 2
  have y3 := pkX_bd hL 3
  have o3 := pkX_or hL 3
  have y4 := pkX_bd hL 4
  have o4 := pkX_or hL 4
  have y5 := pkX_bd hL 5
  have o5 := pkX_or hL 5
  have d5 : pkX T q m 5 = 0 := by omega
  have d4 : pkX T q m 4 = 0 := by omega
  have d3 : pkX T q m 3 = 14 := by omega
  have d2 : pkX T q m 2 = 18 := by omega
  have d1 : pkX T q m 1 = 21 := by omega
  have d0 : pkX T q m 0 = 20 := by omega
  rw [d0] at o0
  rw [d1] at o1
  rw [d2] at o2
  rw [d3] at o3
  rw [d4] at o4
  rw [d5] at o5
  have e0 : T (q + 0) = T q := rfl
  rw [e0] at o0
  clear h y0 y1 y2 y3 y4 y5 d0 d1 d2 d3 d4 d5
  show m = 4 ∧ T q = 116 ∧ T (q + 1) = 117 ∧ T (q + 2) = 114 ∧ T (q + 3) = 110
  refine ⟨?_, ?_, ?_, ?_, ?_⟩ <;> omega
theorem wr2 {T : Nat → Int} {q m : Nat} (h : mtW T q m 2) : pk T q m = 693712896 := by
  obtain ⟨hm, c0, c1, c2, c3⟩ := h
  have x0 : pkX T q m 0 = 20 := by
    unfold pkX
    rw [if_pos (by omega), show T (q + 0) = T q from rfl, c0]
    rfl
  have x1 : pkX T q m 1 = 21 := by
    unfold pkX
    rw [if_pos (by omega), c1]
    rfl
  have x2 : pkX T q m 2 = 18 := by
    unfold pkX
    rw [if_pos (by omega), c2]
    rfl
  have x3 : pkX T q m 3 = 14 := by
    unfold pkX
    rw [if_pos (by omega), c3]
    rfl
  have x4 : pkX T q m 4 = 0 := by
    unfold pkX
    rw [if_neg (by omega)]
  have x5 : pkX T q m 5 = 0 := by
    unfold pkX
    rw [if_neg (by omega)]
  unfold pk
  rw [x0, x1, x2, x3, x4, x5]
  rfl
theorem wq3 {T : Nat → Int} {q m : Nat} (hL : ltH T q m) : (538738688 : Int) = pk T q m → m ≤ 6 → mtW T q m 3 := by
  intro h hm
  unfold pk at h
  have y0 := pkX_bd hL 0
  have o0 := pkX_or hL 0
  have y1 := pkX_bd hL 1
  have o1 := pkX_or hL 1
  have y2 := pkX_bd hL 2
  have o2 := pkX_or hL 2
  have y3 := pkX_bd hL 3
  have o3 := pkX_or hL 3
  have y4 := pkX_bd hL 4
  have o4 := pkX_or hL 4
  have y5 := pkX_bd hL 5
  have o5 := pkX_or hL 5
  have d5 : pkX T q m 5 = 0 := by omega
  have d4 : pkX T q m 4 = 0 := by omega
  have d3 : pkX T q m 3 = 0 := by omega
  have d2 : pkX T q m 2 = 25 := by omega
  have d1 : pkX T q m 1 = 1 := by omega
  have d0 : pkX T q m 0 = 16 := by omega
  rw [d0] at o0
  rw [d1] at o1
  rw [d2] at o2
  rw [d3] at o3
  rw [d4] at o4
  rw [d5] at o5
  have e0 : T (q + 0) = T q := rfl
  rw [e0] at o0
  clear h y0 y1 y2 y3 y4 y5 d0 d1 d2 d3 d4 d5
  show m = 3 ∧ T q = 112 ∧ T (q + 1) = 97 ∧ T (q + 2) = 121
  refine ⟨?_, ?_, ?_, ?_⟩ <;> omega
theorem wr3 {T : Nat → Int} {q m : Nat} (h : mtW T q m 3) : pk T q m = 538738688 := by
  obtain ⟨hm, c0, c1, c2⟩ := h
  have x0 : pkX T q m 0 = 16 := by
    unfold pkX
    rw [if_pos (by omega), show T (q + 0) = T q from rfl, c0]
    rfl
  have x1 : pkX T q m 1 = 1 := by
    unfold pkX
    rw [if_pos (by omega), c1]
    rfl
  have x2 : pkX T q m 2 = 25 := by
    unfold pkX
    rw [if_pos (by omega), c2]
    rfl
  have x3 : pkX T q m 3 = 0 := by
    unfold pkX
    rw [if_neg (by omega)]
  have x4 : pkX T q m 4 = 0 := by
    unfold pkX
    rw [if_neg (by omega)]
  have x5 : pkX T q m 5 = 0 := by
    unfold pkX
    rw [if_neg (by omega)]
  unfold pk
  rw [x0, x1, x2, x3, x4, x5]
  rfl
theorem wq4 {T : Nat → Int} {q m : Nat} (hL : ltH T q m) : (647157920 : Int) = pk T q m → m ≤ 6 → mtW T q m 4 := by
  intro h hm
  unfold pk at h
  have y0 := pkX_bd hL 0
  have o0 := pkX_or hL 0
  have y1 := pkX_bd hL 1
  have o1 := pkX_or hL 1
  have y2 := pkX_bd hL 2
  have o2 := pkX_or hL 2
  have y3 := pkX_bd hL 3
  have o3 := pkX_or hL 3
  have y4 := pkX_bd hL 4
  have o4 := pkX_or hL 4
  have y5 := pkX_bd hL 5
  have o5 := pkX_or hL 5
  have d5 : pkX T q m 5 = 0 := by omega
  have d4 : pkX T q m 4 = 5 := by omega
  have d3 : pkX T q m 3 = 22 := by omega
  have d2 : pkX T q m 2 = 5 := by omega
  have d1 : pkX T q m 1 = 9 := by omega
  have d0 : pkX T q m 0 = 19 := by omega
  rw [d0] at o0
  rw [d1] at o1
  rw [d2] at o2
  rw [d3] at o3
  rw [d4] at o4
  rw [d5] at o5
  have e0 : T (q + 0) = T q := rfl
  rw [e0] at o0
  clear h y0 y1 y2 y3 y4 y5 d0 d1 d2 d3 d4 d5
  show m = 5 ∧ T q = 115 ∧ T (q + 1) = 105 ∧ T (q + 2) = 101 ∧ T (q + 3) = 118 ∧ T (q + 4) = 101
  refine ⟨?_, ?_, ?_, ?_, ?_, ?_⟩ <;> omega
theorem wr4 {T : Nat → Int} {q m : Nat} (h : mtW T q m 4) : pk T q m = 647157920 := by
  obtain ⟨hm, c0, c1, c2, c3, c4⟩ := h
  have x0 : pkX T q m 0 = 19 := by
    unfold pkX
    rw [if_pos (by omega), show T (q + 0) = T q from rfl, c0]
    rfl
  have x1 : pkX T q m 1 = 9 := by
    unfold pkX
    rw [if_pos (by omega), c1]
    rfl
  have x2 : pkX T q m 2 = 5 := by
    unfold pkX
    rw [if_pos (by omega), c2]
    rfl
  have x3 : pkX T q m 3 = 22 := by
    unfold pkX
    rw [if_pos (by omega), c3]
    rfl
  have x4 : pkX T q m 4 = 5 := by
    unfold pkX
    rw [if_pos (by omega), c4]
    rfl
  have x5 : pkX T q m 5 = 0 := by
    unfold pkX
    rw [if_neg (by omega)]
  unfold pk
  rw [x0, x1, x2, x3, x4, x5]
  rfl
theorem wq5 {T : Nat → Int} {q m : Nat} (hL : ltH T q m) : (135708672 : Int) = pk T q m → m ≤ 6 → mtW T q m 5 := by
  intro h hm
  unfold pk at h
  have y0 := pkX_bd hL 0
  have o0 := pkX_or hL 0
  have y1 := pkX_bd hL 1
  have o1 := pkX_or hL 1
  have y2 := pkX_bd hL 2
  have o2 := pkX_or hL 2
  have y3 := pkX_bd hL 3
  have o3 := pkX_or hL 3
  have y4 := pkX_bd hL 4
  have o4 := pkX_or hL 4
  have y5 := pkX_bd hL 5
  have o5 := pkX_or hL 5
  have d5 : pkX T q m 5 = 0 := by omega
  have d4 : pkX T q m 4 = 0 := by omega
  have d3 : pkX T q m 3 = 16 := by omega
  have d2 : pkX T q m 2 = 13 := by omega
  have d1 : pkX T q m 1 = 1 := by omega
  have d0 : pkX T q m 0 = 4 := by omega
  rw [d0] at o0
  rw [d1] at o1
  rw [d2] at o2
  rw [d3] at o3
  rw [d4] at o4
  rw [d5] at o5
  have e0 : T (q + 0) = T q := rfl
  rw [e0] at o0
  clear h y0 y1 y2 y3 y4 y5 d0 d1 d2 d3 d4 d5
  show m = 4 ∧ T q = 100 ∧ T (q + 1) = 97 ∧ T (q + 2) = 109 ∧ T (q + 3) = 112
  refine ⟨?_, ?_, ?_, ?_, ?_⟩ <;> omega
theorem wr5 {T : Nat → Int} {q m : Nat} (h : mtW T q m 5) : pk T q m = 135708672 := by
  obtain ⟨hm, c0, c1, c2, c3⟩ := h
  have x0 : pkX T q m 0 = 4 := by
    unfold pkX
    rw [if_pos (by omega), show T (q + 0) = T q from rfl, c0]
    rfl
  have x1 : pkX T q m 1 = 1 := by
    unfold pkX
    rw [if_pos (by omega), c1]
    rfl
  have x2 : pkX T q m 2 = 13 := by
    unfold pkX
    rw [if_pos (by omega), c2]
    rfl
  have x3 : pkX T q m 3 = 16 := by
    unfold pkX
    rw [if_pos (by omega), c3]
    rfl
  have x4 : pkX T q m 4 = 0 := by
    unfold pkX
    rw [if_neg (by omega)]
  have x5 : pkX T q m 5 = 0 := by
    unfold pkX
    rw [if_neg (by omega)]
  unfold pk
  rw [x0, x1, x2, x3, x4, x5]
  rfl
theorem wq6 {T : Nat → Int} {q m : Nat} (hL : ltH T q m) : (642945024 : Int) = pk T q m → m ≤ 6 → mtW T q m 6 := by
  intro h hm
  unfold pk at h
  have y0 := pkX_bd hL 0
  have o0 := pkX_or hL 0
  have y1 := pkX_bd hL 1
  have o1 := pkX_or hL 1
  have y2 := pkX_bd hL 2
  have o2 := pkX_or hL 2
  have y3 := pkX_bd hL 3
  have o3 := pkX_or hL 3
  have y4 := pkX_bd hL 4
  have o4 := pkX_or hL 4
  have y5 := pkX_bd hL 5
  have o5 := pkX_or hL 5
  have d5 : pkX T q m 5 = 0 := by omega
  have d4 : pkX T q m 4 = 0 := by omega
  have d3 : pkX T q m 3 = 4 := by omega
  have d2 : pkX T q m 2 = 5 := by omega
  have d1 : pkX T q m 1 = 5 := by omega
  have d0 : pkX T q m 0 = 19 := by omega
  rw [d0] at o0
  rw [d1] at o1
  rw [d2] at o2
  rw [d3] at o3
  rw [d4] at o4
  rw [d5] at o5
  have e0 : T (q + 0) = T q := rfl
  rw [e0] at o0
  clear h y0 y1 y2 y3 y4 y5 d0 d1 d2 d3 d4 d5
  show m = 4 ∧ T q = 115 ∧ T (q + 1) = 101 ∧ T (q + 2) = 101 ∧ T (q + 3) = 100
  refine ⟨?_, ?_, ?_, ?_, ?_⟩ <;> omega
theorem wr6 {T : Nat → Int} {q m : Nat} (h : mtW T q m 6) : pk T q m = 642945024 := by
  obtain ⟨hm, c0, c1, c2, c3⟩ := h
  have x0 : pkX T q m 0 = 19 := by
    unfold pkX
    rw [if_pos (by omega), show T (q + 0) = T q from rfl, c0]
    rfl
  have x1 : pkX T q m 1 = 5 := by
    unfold pkX
    rw [if_pos (by omega), c1]
    rfl
  have x2 : pkX T q m 2 = 5 := by
    unfold pkX
    rw [if_pos (by omega), c2]
    rfl
  have x3 : pkX T q m 3 = 4 := by
    unfold pkX
    rw [if_pos (by omega), c3]
    rfl
  have x4 : pkX T q m 4 = 0 := by
    unfold pkX
    rw [if_neg (by omega)]
  have x5 : pkX T q m 5 = 0 := by
    unfold pkX
    rw [if_neg (by omega)]
  unfold pk
  rw [x0, x1, x2, x3, x4, x5]
  rfl
theorem wq7 {T : Nat → Int} {q m : Nat} (hL : ltH T q m) : (404455424 : Int) = pk T q m → m ≤ 6 → mtW T q m 7 := by
  intro h hm
  unfold pk at h
  have y0 := pkX_bd hL 0
  have o0 := pkX_or hL 0
  have y1 := pkX_bd hL 1
  have o1 := pkX_or hL 1
  have y2 := pkX_bd hL 2
  have o2 := pkX_or hL 2
  have y3 := pkX_bd hL 3
  have o3 := pkX_or hL 3
  have y4 := pkX_bd hL 4
  have o4 := pkX_or hL 4
  have y5 := pkX_bd hL 5
  have o5 := pkX_or hL 5
  have d5 : pkX T q m 5 = 0 := by omega
  have d4 : pkX T q m 4 = 0 := by omega
  have d3 : pkX T q m 3 = 0 := by omega
  have d2 : pkX T q m 2 = 23 := by omega
  have d1 : pkX T q m 1 = 1 := by omega
  have d0 : pkX T q m 0 = 12 := by omega
  rw [d0] at o0
  rw [d1] at o1
  rw [d2] at o2
  rw [d3] at o3
  rw [d4] at o4
  rw [d5] at o5
  have e0 : T (q + 0) = T q := rfl
  rw [e0] at o0
  clear h y0 y1 y2 y3 y4 y5 d0 d1 d2 d3 d4 d5
  show m = 3 ∧ T q = 108 ∧ T (q + 1) = 97 ∧ T (q + 2) = 119
  refine ⟨?_, ?_, ?_, ?_⟩ <;> omega
theorem wr7 {T : Nat → Int} {q m : Nat} (h : mtW T q m 7) : pk T q m = 404455424 := by
  obtain ⟨hm, c0, c1, c2⟩ := h
  have x0 : pkX T q m 0 = 12 := by
    unfold pkX
    rw [if_pos (by omega), show T (q + 0) = T q from rfl, c0]
    rfl
  have x1 : pkX T q m 1 = 1 := by
    unfold pkX
    rw [if_pos (by omega), c1]
    rfl
  have x2 : pkX T q m 2 = 23 := by
    unfold pkX
    rw [if_pos (by omega), c2]
    rfl
  have x3 : pkX T q m 3 = 0 := by
    unfold pkX
    rw [if_neg (by omega)]
  have x4 : pkX T q m 4 = 0 := by
    unfold pkX
    rw [if_neg (by omega)]
  have x5 : pkX T q m 5 = 0 := by
    unfold pkX
    rw [if_neg (by omega)]
  unfold pk
  rw [x0, x1, x2, x3, x4, x5]
  rfl
theorem wq8 {T : Nat → Int} {q m : Nat} (hL : ltH T q m) : (214424576 : Int) = pk T q m → m ≤ 6 → mtW T q m 8 := by
  intro h hm
  unfold pk at h
  have y0 := pkX_bd hL 0
  have o0 := pkX_or hL 0
  have y1 := pkX_bd hL 1
  have o1 := pkX_or hL 1
  have y2 := pkX_bd hL 2
  have o2 := pkX_or hL 2
  have y3 := pkX_bd hL 3
  have o3 := pkX_or hL 3
  have y4 := pkX_bd hL 4
  have o4 := pkX_or hL 4
  have y5 := pkX_bd hL 5
  have o5 := pkX_or hL 5
  have d5 : pkX T q m 5 = 0 := by omega
  have d4 : pkX T q m 4 = 0 := by omega
  have d3 : pkX T q m 3 = 23 := by omega
  have d2 : pkX T q m 2 = 15 := by omega
  have d1 : pkX T q m 1 = 12 := by omega
  have d0 : pkX T q m 0 = 6 := by omega
  rw [d0] at o0
  rw [d1] at o1
  rw [d2] at o2
  rw [d3] at o3
  rw [d4] at o4
  rw [d5] at o5
  have e0 : T (q + 0) = T q := rfl
  rw [e0] at o0
  clear h y0 y1 y2 y3 y4 y5 d0 d1 d2 d3 d4 d5
  show m = 4 ∧ T q = 102 ∧ T (q + 1) = 108 ∧ T (q + 2) = 111 ∧ T (q + 3) = 119
  refine ⟨?_, ?_, ?_, ?_, ?_⟩ <;> omega
theorem wr8 {T : Nat → Int} {q m : Nat} (h : mtW T q m 8) : pk T q m = 214424576 := by
  obtain ⟨hm, c0, c1, c2, c3⟩ := h
  have x0 : pkX T q m 0 = 6 := by
    unfold pkX
    rw [if_pos (by omega), show T (q + 0) = T q from rfl, c0]
    rfl
  have x1 : pkX T q m 1 = 12 := by
    unfold pkX
    rw [if_pos (by omega), c1]
    rfl
  have x2 : pkX T q m 2 = 15 := by
    unfold pkX
    rw [if_pos (by omega), c2]
    rfl
  have x3 : pkX T q m 3 = 23 := by
    unfold pkX
    rw [if_pos (by omega), c3]
    rfl
  have x4 : pkX T q m 4 = 0 := by
    unfold pkX
    rw [if_neg (by omega)]
  have x5 : pkX T q m 5 = 0 := by
    unfold pkX
    rw [if_neg (by omega)]
  unfold pk
  rw [x0, x1, x2, x3, x4, x5]
  rfl
theorem wq9 {T : Nat → Int} {q m : Nat} (hL : ltH T q m) : (672923648 : Int) = pk T q m → m ≤ 6 → mtW T q m 9 := by
  intro h hm
  unfold pk at h
  have y0 := pkX_bd hL 0
  have o0 := pkX_or hL 0
  have y1 := pkX_bd hL 1
  have o1 := pkX_or hL 1
  have y2 := pkX_bd hL 2
  have o2 := pkX_or hL 2
  have y3 := pkX_bd hL 3
  have o3 := pkX_or hL 3
  have y4 := pkX_bd hL 4
  have o4 := pkX_or hL 4
  have y5 := pkX_bd hL 5
  have o5 := pkX_or hL 5
  have d5 : pkX T q m 5 = 0 := by omega
  have d4 : pkX T q m 4 = 0 := by omega
  have d3 : pkX T q m 3 = 0 := by omega
  have d2 : pkX T q m 2 = 24 := by omega
  have d1 : pkX T q m 1 = 1 := by omega
  have d0 : pkX T q m 0 = 20 := by omega
  rw [d0] at o0
  rw [d1] at o1
  rw [d2] at o2
  rw [d3] at o3
  rw [d4] at o4
  rw [d5] at o5
  have e0 : T (q + 0) = T q := rfl
  rw [e0] at o0
  clear h y0 y1 y2 y3 y4 y5 d0 d1 d2 d3 d4 d5
  show m = 3 ∧ T q = 116 ∧ T (q + 1) = 97 ∧ T (q + 2) = 120
  refine ⟨?_, ?_, ?_, ?_⟩ <;> omega
theorem wr9 {T : Nat → Int} {q m : Nat} (h : mtW T q m 9) : pk T q m = 672923648 := by
  obtain ⟨hm, c0, c1, c2⟩ := h
  have x0 : pkX T q m 0 = 20 := by
    unfold pkX
    rw [if_pos (by omega), show T (q + 0) = T q from rfl, c0]
    rfl
  have x1 : pkX T q m 1 = 1 := by
    unfold pkX
    rw [if_pos (by omega), c1]
    rfl
  have x2 : pkX T q m 2 = 24 := by
    unfold pkX
    rw [if_pos (by omega), c2]
    rfl
  have x3 : pkX T q m 3 = 0 := by
    unfold pkX
    rw [if_neg (by omega)]
  have x4 : pkX T q m 4 = 0 := by
    unfold pkX
    rw [if_neg (by omega)]
  have x5 : pkX T q m 5 = 0 := by
    unfold pkX
    rw [if_neg (by omega)]
  unfold pk
  rw [x0, x1, x2, x3, x4, x5]
  rfl
theorem wq10 {T : Nat → Int} {q m : Nat} (hL : ltH T q m) : (781651968 : Int) = pk T q m → m ≤ 6 → mtW T q m 10 := by
  intro h hm
  unfold pk at h
  have y0 := pkX_bd hL 0
  have o0 := pkX_or hL 0
  have y1 := pkX_bd hL 1
  have o1 := pkX_or hL 1
  have y2 := pkX_bd hL 2
  have o2 := pkX_or hL 2
  have y3 := pkX_bd hL 3
  have o3 := pkX_or hL 3
  have y4 := pkX_bd hL 4
  have o4 := pkX_or hL 4
  have y5 := pkX_bd hL 5
  have o5 := pkX_or hL 5
  have d5 : pkX T q m 5 = 0 := by omega
  have d4 : pkX T q m 4 = 0 := by omega
  have d3 : pkX T q m 3 = 4 := by omega
  have d2 : pkX T q m 2 = 14 := by omega
  have d1 : pkX T q m 1 = 9 := by omega
  have d0 : pkX T q m 0 = 23 := by omega
  rw [d0] at o0
  rw [d1] at o1
  rw [d2] at o2
  rw [d3] at o3
  rw [d4] at o4
  rw [d5] at o5
  have e0 : T (q + 0) = T q := rfl
  rw [e0] at o0
  clear h y0 y1 y2 y3 y4 y5 d0 d1 d2 d3 d4 d5
  show m = 4 ∧ T q = 119 ∧ T (q + 1) = 105 ∧ T (q + 2) = 110 ∧ T (q + 3) = 100
  refine ⟨?_, ?_, ?_, ?_, ?_⟩ <;> omega
theorem wr10 {T : Nat → Int} {q m : Nat} (h : mtW T q m 10) : pk T q m = 781651968 := by
  obtain ⟨hm, c0, c1, c2, c3⟩ := h
  have x0 : pkX T q m 0 = 23 := by
    unfold pkX
    rw [if_pos (by omega), show T (q + 0) = T q from rfl, c0]
    rfl
  have x1 : pkX T q m 1 = 9 := by
    unfold pkX
    rw [if_pos (by omega), c1]
    rfl
  have x2 : pkX T q m 2 = 14 := by
    unfold pkX
    rw [if_pos (by omega), c2]
    rfl
  have x3 : pkX T q m 3 = 4 := by
    unfold pkX
    rw [if_pos (by omega), c3]
    rfl
  have x4 : pkX T q m 4 = 0 := by
    unfold pkX
    rw [if_neg (by omega)]
  have x5 : pkX T q m 5 = 0 := by
    unfold pkX
    rw [if_neg (by omega)]
  unfold pk
  rw [x0, x1, x2, x3, x4, x5]
  rfl
theorem wq11 {T : Nat → Int} {q m : Nat} (hL : ltH T q m) : (36165792 : Int) = pk T q m → m ≤ 6 → mtW T q m 14 := by
  intro h hm
  unfold pk at h
  have y0 := pkX_bd hL 0
  have o0 := pkX_or hL 0
  have y1 := pkX_bd hL 1
  have o1 := pkX_or hL 1
  have y2 := pkX_bd hL 2
  have o2 := pkX_or hL 2
  have y3 := pkX_bd hL 3
  have o3 := pkX_or hL 3
  have y4 := pkX_bd hL 4
  have o4 := pkX_or hL 4
  have y5 := pkX_bd hL 5
  have o5 := pkX_or hL 5
  have d5 : pkX T q m 5 = 0 := by omega
  have d4 : pkX T q m 4 = 5 := by omega
  have d3 : pkX T q m 3 = 22 := by omega
  have d2 : pkX T q m 2 = 15 := by omega
  have d1 : pkX T q m 1 = 2 := by omega
  have d0 : pkX T q m 0 = 1 := by omega
  rw [d0] at o0
  rw [d1] at o1
  rw [d2] at o2
  rw [d3] at o3
  rw [d4] at o4
  rw [d5] at o5
  have e0 : T (q + 0) = T q := rfl
  rw [e0] at o0
  clear h y0 y1 y2 y3 y4 y5 d0 d1 d2 d3 d4 d5
  show m = 5 ∧ T q = 97 ∧ T (q + 1) = 98 ∧ T (q + 2) = 111 ∧ T (q + 3) = 118 ∧ T (q + 4) = 101
  refine ⟨?_, ?_, ?_, ?_, ?_, ?_⟩ <;> omega
theorem wr11 {T : Nat → Int} {q m : Nat} (h : mtW T q m 14) : pk T q m = 36165792 := by
  obtain ⟨hm, c0, c1, c2, c3, c4⟩ := h
  have x0 : pkX T q m 0 = 1 := by
    unfold pkX
    rw [if_pos (by omega), show T (q + 0) = T q from rfl, c0]
    rfl
  have x1 : pkX T q m 1 = 2 := by
    unfold pkX
    rw [if_pos (by omega), c1]
    rfl
  have x2 : pkX T q m 2 = 15 := by
    unfold pkX
    rw [if_pos (by omega), c2]
    rfl
  have x3 : pkX T q m 3 = 22 := by
    unfold pkX
    rw [if_pos (by omega), c3]
    rfl
  have x4 : pkX T q m 4 = 5 := by
    unfold pkX
    rw [if_pos (by omega), c4]
    rfl
  have x5 : pkX T q m 5 = 0 := by
    unfold pkX
    rw [if_neg (by omega)]
  unfold pk
  rw [x0, x1, x2, x3, x4, x5]
  rfl
theorem wq12 {T : Nat → Int} {q m : Nat} (hL : ltH T q m) : (72761056 : Int) = pk T q m → m ≤ 6 → mtW T q m 15 := by
  intro h hm
  unfold pk at h
  have y0 := pkX_bd hL 0
  have o0 := pkX_or hL 0
  have y1 := pkX_bd hL 1
  have o1 := pkX_or hL 1
  have y2 := pkX_bd hL 2
  have o2 := pkX_or hL 2
  have y3 := pkX_bd hL 3
  have o3 := pkX_or hL 3
  have y4 := pkX_bd hL 4
  have o4 := pkX_or hL 4
  have y5 := pkX_bd hL 5
  have o5 := pkX_or hL 5
  have d5 : pkX T q m 5 = 0 := by omega
  have d4 : pkX T q m 4 = 23 := by omega
  have d3 : pkX T q m 3 = 15 := by omega
  have d2 : pkX T q m 2 = 12 := by omega
  have d1 : pkX T q m 1 = 5 := by omega
  have d0 : pkX T q m 0 = 2 := by omega
  rw [d0] at o0
  rw [d1] at o1
  rw [d2] at o2
  rw [d3] at o3
  rw [d4] at o4
  rw [d5] at o5
  have e0 : T (q + 0) = T q := rfl
  rw [e0] at o0
  clear h y0 y1 y2 y3 y4 y5 d0 d1 d2 d3 d4 d5
  show m = 5 ∧ T q = 98 ∧ T (q + 1) = 101 ∧ T (q + 2) = 108 ∧ T (q + 3) = 111 ∧ T (q + 4) = 119
  refine ⟨?_, ?_, ?_, ?_, ?_, ?_⟩ <;> omega
theorem wr12 {T : Nat → Int} {q m : Nat} (h : mtW T q m 15) : pk T q m = 72761056 := by
  obtain ⟨hm, c0, c1, c2, c3, c4⟩ := h
  have x0 : pkX T q m 0 = 2 := by
    unfold pkX
    rw [if_pos (by omega), show T (q + 0) = T q from rfl, c0]
    rfl
  have x1 : pkX T q m 1 = 5 := by
    unfold pkX
    rw [if_pos (by omega), c1]
    rfl
  have x2 : pkX T q m 2 = 12 := by
    unfold pkX
    rw [if_pos (by omega), c2]
    rfl
  have x3 : pkX T q m 3 = 15 := by
    unfold pkX
    rw [if_pos (by omega), c3]
    rfl
  have x4 : pkX T q m 4 = 23 := by
    unfold pkX
    rw [if_pos (by omega), c4]
    rfl
  have x5 : pkX T q m 5 = 0 := by
    unfold pkX
    rw [if_neg (by omega)]
  unfold pk
  rw [x0, x1, x2, x3, x4, x5]
  rfl
theorem wq13 {T : Nat → Int} {q m : Nat} (hL : ltH T q m) : (475114496 : Int) = pk T q m → m ≤ 6 → mtW T q m 16 := by
  intro h hm
  unfold pk at h
  have y0 := pkX_bd hL 0
  have o0 := pkX_or hL 0
  have y1 := pkX_bd hL 1
  have o1 := pkX_or hL 1
  have y2 := pkX_bd hL 2
  have o2 := pkX_or hL 2
  have y3 := pkX_bd hL 3
  have o3 := pkX_or hL 3
  have y4 := pkX_bd hL 4
  have o4 := pkX_or hL 4
  have y5 := pkX_bd hL 5
  have o5 := pkX_or hL 5
  have d5 : pkX T q m 5 = 0 := by omega
  have d4 : pkX T q m 4 = 0 := by omega
  have d3 : pkX T q m 3 = 11 := by omega
  have d2 : pkX T q m 2 = 3 := by omega
  have d1 : pkX T q m 1 = 5 := by omega
  have d0 : pkX T q m 0 = 14 := by omega
  rw [d0] at o0
  rw [d1] at o1
  rw [d2] at o2
  rw [d3] at o3
  rw [d4] at o4
  rw [d5] at o5
  have e0 : T (q + 0) = T q := rfl
  rw [e0] at o0
  clear h y0 y1 y2 y3 y4 y5 d0 d1 d2 d3 d4 d5
  show m = 4 ∧ T q = 110 ∧ T (q + 1) = 101 ∧ T (q + 2) = 99 ∧ T (q + 3) = 107
  refine ⟨?_, ?_, ?_, ?_, ?_⟩ <;> omega
theorem wr13 {T : Nat → Int} {q m : Nat} (h : mtW T q m 16) : pk T q m = 475114496 := by
  obtain ⟨hm, c0, c1, c2, c3⟩ := h
  have x0 : pkX T q m 0 = 14 := by
    unfold pkX
    rw [if_pos (by omega), show T (q + 0) = T q from rfl, c0]
    rfl
  have x1 : pkX T q m 1 = 5 := by
    unfold pkX
    rw [if_pos (by omega), c1]
    rfl
  have x2 : pkX T q m 2 = 3 := by
    unfold pkX
    rw [if_pos (by omega), c2]
    rfl
  have x3 : pkX T q m 3 = 11 := by
    unfold pkX
    rw [if_pos (by omega), c3]
    rfl
  have x4 : pkX T q m 4 = 0 := by
    unfold pkX
    rw [if_neg (by omega)]
  have x5 : pkX T q m 5 = 0 := by
    unfold pkX
    rw [if_neg (by omega)]
  unfold pk
  rw [x0, x1, x2, x3, x4, x5]
  rfl
theorem wq14 {T : Nat → Int} {q m : Nat} (hL : ltH T q m) : (116443749 : Int) = pk T q m → m ≤ 6 → mtW T q m 17 := by
  intro h hm
  unfold pk at h
  have y0 := pkX_bd hL 0
  have o0 := pkX_or hL 0
  have y1 := pkX_bd hL 1
  have o1 := pkX_or hL 1
  have y2 := pkX_bd hL 2
  have o2 := pkX_or hL 2
  have y3 := pkX_bd hL 3
  have o3 := pkX_or hL 3
  have y4 := pkX_bd hL 4
  have o4 := pkX_or hL 4
  have y5 := pkX_bd hL 5
  have o5 := pkX_or hL 5
  have d5 : pkX T q m 5 = 5 := by omega
  have d4 : pkX T q m 4 = 19 := by omega
  have d3 : pkX T q m 3 = 18 := by omega
  have d2 : pkX T q m 2 = 1 := by omega
  have d1 : pkX T q m 1 = 15 := by omega
  have d0 : pkX T q m 0 = 3 := by omega
  rw [d0] at o0
  rw [d1] at o1
  rw [d2] at o2
  rw [d3] at o3
  rw [d4] at o4
  rw [d5] at o5
  have e0 : T (q + 0) = T q := rfl
  rw [e0] at o0
  clear h y0 y1 y2 y3 y4 y5 d0 d1 d2 d3 d4 d5
  show m = 6 ∧ T q = 99 ∧ T (q + 1) = 111 ∧ T (q + 2) = 97 ∧ T (q + 3) = 114 ∧ T (q + 4) = 115 ∧ T (q + 5) = 101
  refine ⟨?_, ?_, ?_, ?_, ?_, ?_, ?_⟩ <;> omega
theorem wr14 {T : Nat → Int} {q m : Nat} (h : mtW T q m 17) : pk T q m = 116443749 := by
  obtain ⟨hm, c0, c1, c2, c3, c4, c5⟩ := h
  have x0 : pkX T q m 0 = 3 := by
    unfold pkX
    rw [if_pos (by omega), show T (q + 0) = T q from rfl, c0]
    rfl
  have x1 : pkX T q m 1 = 15 := by
    unfold pkX
    rw [if_pos (by omega), c1]
    rfl
  have x2 : pkX T q m 2 = 1 := by
    unfold pkX
    rw [if_pos (by omega), c2]
    rfl
  have x3 : pkX T q m 3 = 18 := by
    unfold pkX
    rw [if_pos (by omega), c3]
    rfl
  have x4 : pkX T q m 4 = 19 := by
    unfold pkX
    rw [if_pos (by omega), c4]
    rfl
  have x5 : pkX T q m 5 = 5 := by
    unfold pkX
    rw [if_pos (by omega), c5]
    rfl
  unfold pk
  rw [x0, x1, x2, x3, x4, x5]
  rfl
theorem wq15 {T : Nat → Int} {q m : Nat} (hL : ltH T q m) : (777650176 : Int) = pk T q m → m ≤ 6 → mtW T q m 18 := by
  intro h hm
  unfold pk at h
  have y0 := pkX_bd hL 0
  have o0 := pkX_or hL 0
  have y1 := pkX_bd hL 1
  have o1 := pkX_or hL 1
  have y2 := pkX_bd hL 2
  have o2 := pkX_or hL 2
  have y3 := pkX_bd hL 3
  have o3 := pkX_or hL 3
  have y4 := pkX_bd hL 4
  have o4 := pkX_or hL 4
  have y5 := pkX_bd hL 5
  have o5 := pkX_or hL 5
  have d5 : pkX T q m 5 = 0 := by omega
  have d4 : pkX T q m 4 = 0 := by omega
  have d3 : pkX T q m 3 = 0 := by omega
  have d2 : pkX T q m 2 = 20 := by omega
  have d1 : pkX T q m 1 = 5 := by omega
  have d0 : pkX T q m 0 = 23 := by omega
  rw [d0] at o0
  rw [d1] at o1
  rw [d2] at o2
  rw [d3] at o3
  rw [d4] at o4
  rw [d5] at o5
  have e0 : T (q + 0) = T q := rfl
  rw [e0] at o0
  clear h y0 y1 y2 y3 y4 y5 d0 d1 d2 d3 d4 d5
  show m = 3 ∧ T q = 119 ∧ T (q + 1) = 101 ∧ T (q + 2) = 116
  refine ⟨?_, ?_, ?_, ?_⟩ <;> omega
theorem wr15 {T : Nat → Int} {q m : Nat} (h : mtW T q m 18) : pk T q m = 777650176 := by
  obtain ⟨hm, c0, c1, c2⟩ := h
  have x0 : pkX T q m 0 = 23 := by
    unfold pkX
    rw [if_pos (by omega), show T (q + 0) = T q from rfl, c0]
    rfl
  have x1 : pkX T q m 1 = 5 := by
    unfold pkX
    rw [if_pos (by omega), c1]
    rfl
  have x2 : pkX T q m 2 = 20 := by
    unfold pkX
    rw [if_pos (by omega), c2]
    rfl
  have x3 : pkX T q m 3 = 0 := by
    unfold pkX
    rw [if_neg (by omega)]
  have x4 : pkX T q m 4 = 0 := by
    unfold pkX
    rw [if_neg (by omega)]
  have x5 : pkX T q m 5 = 0 := by
    unfold pkX
    rw [if_neg (by omega)]
  unfold pk
  rw [x0, x1, x2, x3, x4, x5]
  rfl
theorem wq16 {T : Nat → Int} {q m : Nat} (hL : ltH T q m) : (538218496 : Int) = pk T q m → m ≤ 6 → mtW T q m 19 := by
  intro h hm
  unfold pk at h
  have y0 := pkX_bd hL 0
  have o0 := pkX_or hL 0
  have y1 := pkX_bd hL 1
  have o1 := pkX_or hL 1
  have y2 := pkX_bd hL 2
  have o2 := pkX_or hL 2
  have y3 := pkX_bd hL 3
  have o3 := pkX_or hL 3
  have y4 := pkX_bd hL 4
  have o4 := pkX_or hL 4
  have y5 := pkX_bd hL 5
  have o5 := pkX_or hL 5
  have d5 : pkX T q m 5 = 0 := by omega
  have d4 : pkX T q m 4 = 0 := by omega
  have d3 : pkX T q m 3 = 4 := by omega
  have d2 : pkX T q m 2 = 9 := by omega
  have d1 : pkX T q m 1 = 1 := by omega
  have d0 : pkX T q m 0 = 16 := by omega
  rw [d0] at o0
  rw [d1] at o1
  rw [d2] at o2
  rw [d3] at o3
  rw [d4] at o4
  rw [d5] at o5
  have e0 : T (q + 0) = T q := rfl
  rw [e0] at o0
  clear h y0 y1 y2 y3 y4 y5 d0 d1 d2 d3 d4 d5
  show m = 4 ∧ T q = 112 ∧ T (q + 1) = 97 ∧ T (q + 2) = 105 ∧ T (q + 3) = 100
  refine ⟨?_, ?_, ?_, ?_, ?_⟩ <;> omega
theorem wr16 {T : Nat → Int} {q m : Nat} (h : mtW T q m 19) : pk T q m = 538218496 := by
  obtain ⟨hm, c0, c1, c2, c3⟩ := h
  have x0 : pkX T q m 0 = 16 := by
    unfold pkX
    rw [if_pos (by omega), show T (q + 0) = T q from rfl, c0]
    rfl
  have x1 : pkX T q m 1 = 1 := by
    unfold pkX
    rw [if_pos (by omega), c1]
    rfl
  have x2 : pkX T q m 2 = 9 := by
    unfold pkX
    rw [if_pos (by omega), c2]
    rfl
  have x3 : pkX T q m 3 = 4 := by
    unfold pkX
    rw [if_pos (by omega), c3]
    rfl
  have x4 : pkX T q m 4 = 0 := by
    unfold pkX
    rw [if_neg (by omega)]
  have x5 : pkX T q m 5 = 0 := by
    unfold pkX
    rw [if_neg (by omega)]
  unfold pk
  rw [x0, x1, x2, x3, x4, x5]
  rfl
theorem wq17 {T : Nat → Int} {q m : Nat} (hL : ltH T q m) : (446125701 : Int) = pk T q m → m ≤ 6 → mtW T q m 20 := by
  intro h hm
  unfold pk at h
  have y0 := pkX_bd hL 0
  have o0 := pkX_or hL 0
  have y1 := pkX_bd hL 1
  have o1 := pkX_or hL 1
  have y2 := pkX_bd hL 2
  have o2 := pkX_or hL 2
  have y3 := pkX_bd hL 3
  have o3 := pkX_or hL 3
  have y4 := pkX_bd hL 4
  have o4 := pkX_or hL 4
  have y5 := pkX_bd hL 5
  have o5 := pkX_or hL 5
  have d5 : pkX T q m 5 = 5 := by omega
  have d4 : pkX T q m 4 = 20 := by omega
  have d3 : pkX T q m 3 = 21 := by omega
  have d2 : pkX T q m 2 = 14 := by omega
  have d1 : pkX T q m 1 = 9 := by omega
  have d0 : pkX T q m 0 = 13 := by omega
  rw [d0] at o0
  rw [d1] at o1
  rw [d2] at o2
  rw [d3] at o3
  rw [d4] at o4
  rw [d5] at o5
  have e0 : T (q + 0) = T q := rfl
  rw [e0] at o0
  clear h y0 y1 y2 y3 y4 y5 d0 d1 d2 d3 d4 d5
  show m = 6 ∧ T q = 109 ∧ T (q + 1) = 105 ∧ T (q + 2) = 110 ∧ T (q + 3) = 117 ∧ T (q + 4) = 116 ∧ T (q + 5) = 101
  refine ⟨?_, ?_, ?_, ?_, ?_, ?_, ?_⟩ <;> omega
theorem wr17 {T : Nat → Int} {q m : Nat} (h : mtW T q m 20) : pk T q m = 446125701 := by
  obtain ⟨hm, c0, c1, c2, c3, c4, c5⟩ := h
  have x0 : pkX T q m 0 = 13 := by
    unfold pkX
    rw [if_pos (by omega), show T (q + 0) = T q from rfl, c0]
    rfl
  have x1 : pkX T q m 1 = 9 := by
    unfold pkX
    rw [if_pos (by omega), c1]
    rfl
  have x2 : pkX T q m 2 = 14 := by
    unfold pkX
    rw [if_pos (by omega), c2]
    rfl
  have x3 : pkX T q m 3 = 21 := by
    unfold pkX
    rw [if_pos (by omega), c3]
    rfl
  have x4 : pkX T q m 4 = 20 := by
    unfold pkX
    rw [if_pos (by omega), c4]
    rfl
  have x5 : pkX T q m 5 = 5 := by
    unfold pkX
    rw [if_pos (by omega), c5]
    rfl
  unfold pk
  rw [x0, x1, x2, x3, x4, x5]
  rfl
theorem wq18 {T : Nat → Int} {q m : Nat} (hL : ltH T q m) : (486146048 : Int) = pk T q m → m ≤ 6 → mtW T q m 13 := by
  intro h hm
  unfold pk at h
  have y0 := pkX_bd hL 0
  have o0 := pkX_or hL 0
  have y1 := pkX_bd hL 1
  have o1 := pkX_or hL 1
  have y2 := pkX_bd hL 2
  have o2 := pkX_or hL 2
  have y3 := pkX_bd hL 3
  have o3 := pkX_or hL 3
  have y4 := pkX_bd hL 4
  have o4 := pkX_or hL 4
  have y5 := pkX_bd hL 5
  have o5 := pkX_or hL 5
  have d5 : pkX T q m 5 = 0 := by omega
  have d4 : pkX T q m 4 = 0 := by omega
  have d3 : pkX T q m 3 = 0 := by omega
  have d2 : pkX T q m 2 = 20 := by omega
  have d1 : pkX T q m 1 = 15 := by omega
  have d0 : pkX T q m 0 = 14 := by omega
  rw [d0] at o0
  rw [d1] at o1
  rw [d2] at o2
  rw [d3] at o3
  rw [d4] at o4
  rw [d5] at o5
  have e0 : T (q + 0) = T q := rfl
  rw [e0] at o0
  clear h y0 y1 y2 y3 y4 y5 d0 d1 d2 d3 d4 d5
  show m = 3 ∧ T q = 110 ∧ T (q + 1) = 111 ∧ T (q + 2) = 116
  refine ⟨?_, ?_, ?_, ?_⟩ <;> omega
theorem wr18 {T : Nat → Int} {q m : Nat} (h : mtW T q m 13) : pk T q m = 486146048 := by
  obtain ⟨hm, c0, c1, c2⟩ := h
  have x0 : pkX T q m 0 = 14 := by
    unfold pkX
    rw [if_pos (by omega), show T (q + 0) = T q from rfl, c0]
    rfl
  have x1 : pkX T q m 1 = 15 := by
    unfold pkX
    rw [if_pos (by omega), c1]
    rfl
  have x2 : pkX T q m 2 = 20 := by
    unfold pkX
    rw [if_pos (by omega), c2]
    rfl
  have x3 : pkX T q m 3 = 0 := by
    unfold pkX
    rw [if_neg (by omega)]
  have x4 : pkX T q m 4 = 0 := by
    unfold pkX
    rw [if_neg (by omega)]
  have x5 : pkX T q m 5 = 0 := by
    unfold pkX
    rw [if_neg (by omega)]
  unfold pk
  rw [x0, x1, x2, x3, x4, x5]
  rfl
theorem wq19 {T : Nat → Int} {q m : Nat} (hL : ltH T q m) : (48365568 : Int) = pk T q m → m ≤ 6 → mtW T q m 11 := by
  intro h hm
  unfold pk at h
  have y0 := pkX_bd hL 0
  have o0 := pkX_or hL 0
  have y1 := pkX_bd hL 1
  have o1 := pkX_or hL 1
  have y2 := pkX_bd hL 2
  have o2 := pkX_or hL 2
  have y3 := pkX_bd hL 3
  have o3 := pkX_or hL 3
  have y4 := pkX_bd hL 4
  have o4 := pkX_or hL 4
  have y5 := pkX_bd hL 5
  have o5 := pkX_or hL 5
  have d5 : pkX T q m 5 = 0 := by omega
  have d4 : pkX T q m 4 = 0 := by omega
  have d3 : pkX T q m 3 = 0 := by omega
  have d2 : pkX T q m 2 = 4 := by omega
  have d1 : pkX T q m 1 = 14 := by omega
  have d0 : pkX T q m 0 = 1 := by omega
  rw [d0] at o0
  rw [d1] at o1
  rw [d2] at o2
  rw [d3] at o3
  rw [d4] at o4
  rw [d5] at o5
  have e0 : T (q + 0) = T q := rfl
  rw [e0] at o0
  clear h y0 y1 y2 y3 y4 y5 d0 d1 d2 d3 d4 d5
  show m = 3 ∧ T q = 97 ∧ T (q + 1) = 110 ∧ T (q + 2) = 100
  refine ⟨?_, ?_, ?_, ?_⟩ <;> omega
theorem wr19 {T : Nat → Int} {q m : Nat} (h : mtW T q m 11) : pk T q m = 48365568 := by
  obtain ⟨hm, c0, c1, c2⟩ := h
  have x0 : pkX T q m 0 = 1 := by
    unfold pkX
    rw [if_pos (by omega), show T (q + 0) = T q from rfl, c0]
    rfl
  have x1 : pkX T q m 1 = 14 := by
    unfold pkX
    rw [if_pos (by omega), c1]
    rfl
  have x2 : pkX T q m 2 = 4 := by
    unfold pkX
    rw [if_pos (by omega), c2]
    rfl
  have x3 : pkX T q m 3 = 0 := by
    unfold pkX
    rw [if_neg (by omega)]
  have x4 : pkX T q m 4 = 0 := by
    unfold pkX
    rw [if_neg (by omega)]
  have x5 : pkX T q m 5 = 0 := by
    unfold pkX
    rw [if_neg (by omega)]
  unfold pk
  rw [x0, x1, x2, x3, x4, x5]
  rfl
theorem wq20 {T : Nat → Int} {q m : Nat} (hL : ltH T q m) : (522190848 : Int) = pk T q m → m ≤ 6 → mtW T q m 12 := by
  intro h hm
  unfold pk at h
  have y0 := pkX_bd hL 0
  have o0 := pkX_or hL 0
  have y1 := pkX_bd hL 1
  have o1 := pkX_or hL 1
  have y2 := pkX_bd hL 2
  have o2 := pkX_or hL 2
  have y3 := pkX_bd hL 3
  have o3 := pkX_or hL 3
  have y4 := pkX_bd hL 4
  have o4 := pkX_or hL 4
  have y5 := pkX_bd hL 5
  have o5 := pkX_or hL 5
  have d5 : pkX T q m 5 = 0 := by omega
  have d4 : pkX T q m 4 = 0 := by omega
  have d3 : pkX T q m 3 = 0 := by omega
  have d2 : pkX T q m 2 = 0 := by omega
  have d1 : pkX T q m 1 = 18 := by omega
  have d0 : pkX T q m 0 = 15 := by omega
  rw [d0] at o0
  rw [d1] at o1
  rw [d2] at o2
  rw [d3] at o3
  rw [d4] at o4
  rw [d5] at o5
  have e0 : T (q + 0) = T q := rfl
  rw [e0] at o0
  clear h y0 y1 y2 y3 y4 y5 d0 d1 d2 d3 d4 d5
  show m = 2 ∧ T q = 111 ∧ T (q + 1) = 114
  refine ⟨?_, ?_, ?_⟩ <;> omega
theorem wr20 {T : Nat → Int} {q m : Nat} (h : mtW T q m 12) : pk T q m = 522190848 := by
  obtain ⟨hm, c0, c1⟩ := h
  have x0 : pkX T q m 0 = 15 := by
    unfold pkX
    rw [if_pos (by omega), show T (q + 0) = T q from rfl, c0]
    rfl
  have x1 : pkX T q m 1 = 18 := by
    unfold pkX
    rw [if_pos (by omega), c1]
    rfl
  have x2 : pkX T q m 2 = 0 := by
    unfold pkX
    rw [if_neg (by omega)]
  have x3 : pkX T q m 3 = 0 := by
    unfold pkX
    rw [if_neg (by omega)]
  have x4 : pkX T q m 4 = 0 := by
    unfold pkX
    rw [if_neg (by omega)]
  have x5 : pkX T q m 5 = 0 := by
    unfold pkX
    rw [if_neg (by omega)]
  unfold pk
  rw [x0, x1, x2, x3, x4, x5]
  rfl
def wKc : List Int := [10, 11, 12, 13, 14, 15, 16, 17, 18, 19, 20, 29, 30, 28, 21, 22, 23, 24, 25, 26, 27]
theorem cWk_of {T : Nat → Int} {q m kk : Nat} (hk : kk < 21) (h : mtW T q m kk) : cWk T q m = wKc.getD kk 0 := by
  match kk, hk, h with
  | 0, _, h =>
    have h6 : ¬ 6 < m := by
      have := h.1
      omega
    unfold cWk
    rw [if_neg h6, wr0 h]
    decide
  | 1, _, h =>
    have h6 : ¬ 6 < m := by
      have := h.1
      omega
    unfold cWk
    rw [if_neg h6, wr1 h]
    decide
  | 2, _, h =>
    have h6 : ¬ 6 < m := by
      have := h.1
      omega
    unfold cWk
    rw [if_neg h6, wr2 h]
    decide
  | 3, _, h =>
    have h6 : ¬ 6 < m := by
      have := h.1
      omega
    unfold cWk
    rw [if_neg h6, wr3 h]
    decide
  | 4, _, h =>
    have h6 : ¬ 6 < m := by
      have := h.1
      omega
    unfold cWk
    rw [if_neg h6, wr4 h]
    decide
  | 5, _, h =>
    have h6 : ¬ 6 < m := by
      have := h.1
      omega
    unfold cWk
    rw [if_neg h6, wr5 h]
    decide
  | 6, _, h =>
    have h6 : ¬ 6 < m := by
      have := h.1
      omega
    unfold cWk
    rw [if_neg h6, wr6 h]
    decide
  | 7, _, h =>
    have h6 : ¬ 6 < m := by
      have := h.1
      omega
    unfold cWk
    rw [if_neg h6, wr7 h]
    decide
  | 8, _, h =>
    have h6 : ¬ 6 < m := by
      have := h.1
      omega
    unfold cWk
    rw [if_neg h6, wr8 h]
    decide
  | 9, _, h =>
    have h6 : ¬ 6 < m := by
      have := h.1
      omega
    unfold cWk
    rw [if_neg h6, wr9 h]
    decide
  | 10, _, h =>
    have h6 : ¬ 6 < m := by
      have := h.1
      omega
    unfold cWk
    rw [if_neg h6, wr10 h]
    decide
  | 11, _, h =>
    have h6 : ¬ 6 < m := by
      have := h.1
      omega
    unfold cWk
    rw [if_neg h6, wr19 h]
    decide
  | 12, _, h =>
    have h6 : ¬ 6 < m := by
      have := h.1
      omega
    unfold cWk
    rw [if_neg h6, wr20 h]
    decide
  | 13, _, h =>
    have h6 : ¬ 6 < m := by
      have := h.1
      omega
    unfold cWk
    rw [if_neg h6, wr18 h]
    decide
  | 14, _, h =>
    have h6 : ¬ 6 < m := by
      have := h.1
      omega
    unfold cWk
    rw [if_neg h6, wr11 h]
    decide
  | 15, _, h =>
    have h6 : ¬ 6 < m := by
      have := h.1
      omega
    unfold cWk
    rw [if_neg h6, wr12 h]
    decide
  | 16, _, h =>
    have h6 : ¬ 6 < m := by
      have := h.1
      omega
    unfold cWk
    rw [if_neg h6, wr13 h]
    decide
  | 17, _, h =>
    have h6 : ¬ 6 < m := by
      have := h.1
      omega
    unfold cWk
    rw [if_neg h6, wr14 h]
    decide
  | 18, _, h =>
    have h6 : ¬ 6 < m := by
      have := h.1
      omega
    unfold cWk
    rw [if_neg h6, wr15 h]
    decide
  | 19, _, h =>
    have h6 : ¬ 6 < m := by
      have := h.1
      omega
    unfold cWk
    rw [if_neg h6, wr16 h]
    decide
  | 20, _, h =>
    have h6 : ¬ 6 < m := by
      have := h.1
      omega
    unfold cWk
    rw [if_neg h6, wr17 h]
    decide
  | kk + 21, hk, _ => exact absurd hk (by omega)
theorem cWk_no {T : Nat → Int} {q m : Nat} (hL : ltH T q m) (hm : m ≤ 6) (h : ∀ kk, kk < 21 → ¬ mtW T q m kk) : cWk T q m = 2 := by
  unfold cWk
  rw [if_neg (by omega)]
  have key : ∀ j, j < 21 → wC.getD j 0 ≠ pk T q m := fun j hj e => by
    match j, hj, e with
    | 0, _, e => exact h 0 (by decide) (wq0 hL e hm)
    | 1, _, e => exact h 1 (by decide) (wq1 hL e hm)
    | 2, _, e => exact h 2 (by decide) (wq2 hL e hm)
    | 3, _, e => exact h 3 (by decide) (wq3 hL e hm)
    | 4, _, e => exact h 4 (by decide) (wq4 hL e hm)
    | 5, _, e => exact h 5 (by decide) (wq5 hL e hm)
    | 6, _, e => exact h 6 (by decide) (wq6 hL e hm)
    | 7, _, e => exact h 7 (by decide) (wq7 hL e hm)
    | 8, _, e => exact h 8 (by decide) (wq8 hL e hm)
    | 9, _, e => exact h 9 (by decide) (wq9 hL e hm)
    | 10, _, e => exact h 10 (by decide) (wq10 hL e hm)
    | 11, _, e => exact h 14 (by decide) (wq11 hL e hm)
    | 12, _, e => exact h 15 (by decide) (wq12 hL e hm)
    | 13, _, e => exact h 16 (by decide) (wq13 hL e hm)
    | 14, _, e => exact h 17 (by decide) (wq14 hL e hm)
    | 15, _, e => exact h 18 (by decide) (wq15 hL e hm)
    | 16, _, e => exact h 19 (by decide) (wq16 hL e hm)
    | 17, _, e => exact h 20 (by decide) (wq17 hL e hm)
    | 18, _, e => exact h 13 (by decide) (wq18 hL e hm)
    | 19, _, e => exact h 11 (by decide) (wq19 hL e hm)
    | 20, _, e => exact h 12 (by decide) (wq20 hL e hm)
    | j + 21, hj, _ => exact absurd hj (by omega)
  have fd : ∀ k j, j + k = 21 → cFd (pk T q m) k j = 2 := by
    intro k
    induction k with
    | zero => exact fun j _ => rfl
    | succ k ih =>
      intro j hj
      simp only [cFd]
      rw [if_neg (key j (by omega))]
      exact ih (j + 1) (by omega)
  exact fd 21 0 rfl
/-- numbers: the same, or both beyond every bound -/
theorem nm_rel (T : Nat → Int) : ∀ k p a b, (a = b ∨ (99999 < a ∧ 99999 < b)) → 0 ≤ a → 0 ≤ b → (tNm T k p a = cNm T k p b ∨ (99999 < tNm T k p a ∧ 99999 < cNm T k p b))
  | 0, _, _, _, h, _, _ => h
  | k + 1, p, a, b, h, ha, hb => by
    simp only [tNm, cNm]
    split
    · rename_i hc
      refine nm_rel T k (p + 1) _ _ ?_ ?_ ?_
      · split <;> split <;> omega
      · split <;> omega
      · split <;> omega
    · exact h

theorem sfm {α : Type} {P : α → Prop} {a : α} {r : List α} (h1 : P a) (h2 : ∀ e ∈ r, P e) : ∀ e ∈ a :: r, P e := fun e h => by
  rcases List.mem_cons.mp h with h | h
  · rw [h]
    exact h1
  · exact h2 e h
theorem swMs_imp (m : sIm) : m ∈ swM.2.2.2.2.1 ↔ m ∈ swMs.2.2.2.2.1 ∨ m = (39, 39, 1, (0, 99), (0, 7), 96, 4) := by
  simp only [swM, swMs, List.mem_cons, List.not_mem_nil, or_false]
  constructor
  · rintro (h | h | h | h | h)
    · exact Or.inl (Or.inl h)
    · exact Or.inl (Or.inr (Or.inl h))
    · exact Or.inl (Or.inr (Or.inr (Or.inl h)))
    · exact Or.inl (Or.inr (Or.inr (Or.inr h)))
    · exact Or.inr h
  · rintro ((h | h | h | h) | h)
    · exact Or.inl h
    · exact Or.inr (Or.inl h)
    · exact Or.inr (Or.inr (Or.inl h))
    · exact Or.inr (Or.inr (Or.inr (Or.inl h)))
    · exact Or.inr (Or.inr (Or.inr (Or.inr h)))
/-- what is noted keeps what is told of what was SEEN -/
theorem nlift {l : Launch} {Γ : zG} {mi v : Nat} {ct : sCt} (hs : sCon l Γ swMs mi ct) (hmd : ct.2.2.2.2.1 = [(0, 76, 77), (39, 4 * v, 4 * v + 4)]) (hpost : ct.2.2.2.1 = ([(39, 4 * v + 1, (0, 7))], [], [], []) ∨ ct.2.2.2.1 = ([(39, 4 * v, (-1, -1))], [], [], [])) : sCon l Γ swM mi ct := by
  intro d hd args h ha hi hp
  have hi' : sInv swMs h := ⟨hi.1, hi.2.1, hi.2.2.1, fun m hm => hi.2.2.2 m ((swMs_imp m).mpr (Or.inl hm))⟩
  refine (hs d hd args h ha hi' hp).mono ?_
  rintro r h' ⟨h1, h2, h3, h4⟩
  refine ⟨h1, ⟨h2.1, h2.2.1, h2.2.2.1, fun m hm => ?_⟩, h3, h4⟩
  rcases (swMs_imp m).mp hm with hm | hm
  · exact h2.2.2.2 m hm
  · subst hm
    have h0 := hi.2.2.2 _ ((swMs_imp _).mpr (Or.inr rfl))
    intro i hlt hdv a1 a2
    have hlt : i < 96 := hlt
    have hdv : i % 4 = 0 := hdv
    have a1 : 0 ≤ (h'.2.1 39 i).toInt := a1
    have a2 : (h'.2.1 39 i).toInt ≤ 99 := a2
    show 0 ≤ (h'.2.1 39 (i + 1)).toInt ∧ (h'.2.1 39 (i + 1)).toInt ≤ 7
    by_cases hv : i = 4 * v
    · subst hv
      rcases hpost with hq | hq
      · rw [hq] at h4
        exact h4.1 _ List.mem_cons_self
      · rw [hq] at h4
        have h5 := h4.1 _ List.mem_cons_self
        have h5 : -1 ≤ (h'.2.1 39 (4 * v)).toInt ∧ (h'.2.1 39 (4 * v)).toInt ≤ -1 := h5
        omega
    · have hm0 : ∀ j, (j < 4 * v ∨ 4 * v + 4 ≤ j) → h'.2.1 39 j = h.2.1 39 j := fun j hj => by
        refine (h3 39 j ?_).1
        rw [hmd]
        simp only [smem, List.any_cons, List.any_nil, Bool.or_false]
        have e1 : ((0 : Nat) == 39) = false := rfl
        have e2 : ((39 : Nat) == 39) = true := rfl
        rw [e1, e2, Bool.false_and, Bool.false_or, Bool.true_and]
        rcases hj with hj | hj
        · have : decide (4 * v ≤ j) = false := decide_eq_false (by omega)
          rw [this, Bool.false_and]
        · have : decide (j < 4 * v + 4) = false := decide_eq_false (by omega)
          rw [this, Bool.and_false]
      rw [hm0 i (by omega)] at a1 a2
      rw [hm0 (i + 1) (by omega)]
      exact h0 i hlt hdv a1 a2

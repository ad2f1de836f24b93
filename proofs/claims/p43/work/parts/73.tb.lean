/-- a token as both sides tell it -/
def tkB (k w kc ls vl : Int) : Prop := (k = 0 ∧ kc = 0) ∨ (∃ kk : Nat, kk < 21 ∧ k = 1 ∧ w = (kk : Int) ∧ kc = wKc.getD kk 0) ∨ (k = 2 ∧ kc = 2 ∧ ls = w) ∨ (k = 3 ∧ kc = 3 ∧ (vl = w ∨ (99999 < w ∧ 99999 < vl))) ∨ (k = 4 ∧ ((w = 59 ∧ kc = 4) ∨ (w = 40 ∧ kc = 5) ∨ (w = 41 ∧ kc = 6) ∨ (w = 43 ∧ kc = 31) ∨ (w = 45 ∧ kc = 32) ∨ (w = 42 ∧ kc = 33) ∨ (w = 47 ∧ kc = 34) ∨ (w = 37 ∧ kc = 1))) ∨ (k = 5 ∧ 0 ≤ w ∧ w ≤ 5 ∧ kc = 35 + w) ∨ (k = 6 ∧ kc = 1)
theorem tok_agree {T : Nat → Int} {n q : Nat} {o9 k w kc ls vl : Int} {nx nx' : Nat} (h : tO T n q o9 k w nx) (g : cO T n q kc ls vl nx') : nx' = nx ∧ tkB k w kc ls vl := by
  rcases h with ⟨h1, h2, h3, h4⟩ | ⟨h1, h2, h3, h4⟩ | ⟨h1, h2, h3, h4, h5⟩ | ⟨h1, h2, h3, N, h4, h5, h6⟩
  · rcases g with ⟨g1, g2, g3⟩ | ⟨g1, _⟩ | ⟨g1, _⟩ | ⟨g1, _⟩
    · exact ⟨by omega, Or.inl ⟨h2, g2⟩⟩
    · omega
    · omega
    · omega
  · rcases g with ⟨g1, _⟩ | ⟨g1, g2, g3, g4, g5⟩ | ⟨g1, g2, _⟩ | ⟨g1, g2, _⟩
    · omega
    · have e : nx' = nx := by omega
      subst e
      have bw := tWd_bd T (n - q) q
      rw [← h3] at bw
      have hL : ltH T q (nx' - q) := fun i hi => bw.2.2 (q + i) (by omega) (by omega)
      refine ⟨rfl, ?_⟩
      rcases h4 with ⟨kk, a1, a2, a3, a4⟩ | ⟨hno, ⟨a1, a2, a3⟩ | ⟨a1, a2, a3⟩⟩
      · exact Or.inr (Or.inl ⟨kk, a1, a3, a4, by rw [g4]; exact cWk_of a1 a2⟩)
      · refine Or.inr (Or.inr (Or.inr (Or.inr (Or.inr (Or.inr ⟨a2, ?_⟩)))))
        rw [g4]
        unfold cWk
        rw [if_pos a1]
      · refine Or.inr (Or.inr (Or.inl ⟨a2, by rw [g4]; exact cWk_no hL a1 hno, ?_⟩))
        rw [g5, a3, show min (nx' - q) 6 = nx' - q from by omega]
    · omega
    · exact absurd h2 g2
  · rcases g with ⟨g1, _⟩ | ⟨g1, g2, _⟩ | ⟨g1, g2, g3, g4, g5⟩ | ⟨g1, g2, g3, _⟩
    · omega
    · omega
    · refine ⟨by omega, Or.inr (Or.inr (Or.inr (Or.inl ⟨h4, g4, ?_⟩)))⟩
      rw [h5, g5]
      rcases nm_rel T (n - q) q 0 0 (Or.inl rfl) (by decide) (by decide) with e | e
      · exact Or.inl e.symm
      · exact Or.inr e
    · exact absurd h2 g3
  · rcases g with ⟨g1, _⟩ | ⟨g1, g2, _⟩ | ⟨g1, g2, _⟩ | ⟨g1, g2, g3, N', g4, g5, g6⟩
    · omega
    · exact absurd g2 h2
    · exact absurd g2 h3
    · unfold sgRel at h4
      unfold csRel at g4
      unfold tkB
      generalize (if q + 1 < n then T (q + 1) else 0) = c2 at h4 g4
      rcases h4 with h4 | h4 | h4 | h4 | h4 | h4 | ⟨hc, h4⟩ | h4
      · exact ⟨by omega, Or.inr (Or.inr (Or.inr (Or.inr (Or.inr (Or.inl ⟨by omega, by omega, by omega, by omega⟩)))))⟩
      · exact ⟨by omega, Or.inr (Or.inr (Or.inr (Or.inr (Or.inr (Or.inl ⟨by omega, by omega, by omega, by omega⟩)))))⟩
      · exact ⟨by omega, Or.inr (Or.inr (Or.inr (Or.inr (Or.inr (Or.inl ⟨by omega, by omega, by omega, by omega⟩)))))⟩
      · exact ⟨by omega, Or.inr (Or.inr (Or.inr (Or.inr (Or.inr (Or.inl ⟨by omega, by omega, by omega, by omega⟩)))))⟩
      · exact ⟨by omega, Or.inr (Or.inr (Or.inr (Or.inr (Or.inr (Or.inl ⟨by omega, by omega, by omega, by omega⟩)))))⟩
      · exact ⟨by omega, Or.inr (Or.inr (Or.inr (Or.inr (Or.inr (Or.inl ⟨by omega, by omega, by omega, by omega⟩)))))⟩
      · rcases hc with hc | hc | hc | hc | hc | hc | hc | hc
        · exact ⟨by omega, Or.inr (Or.inr (Or.inr (Or.inr (Or.inl ⟨by omega, Or.inl ⟨by omega, by omega⟩⟩))))⟩
        · exact ⟨by omega, Or.inr (Or.inr (Or.inr (Or.inr (Or.inl ⟨by omega, Or.inr (Or.inl ⟨by omega, by omega⟩)⟩))))⟩
        · exact ⟨by omega, Or.inr (Or.inr (Or.inr (Or.inr (Or.inl ⟨by omega, Or.inr (Or.inr (Or.inl ⟨by omega, by omega⟩))⟩))))⟩
        · exact ⟨by omega, Or.inr (Or.inr (Or.inr (Or.inr (Or.inl ⟨by omega, Or.inr (Or.inr (Or.inr (Or.inl ⟨by omega, by omega⟩)))⟩))))⟩
        · exact ⟨by omega, Or.inr (Or.inr (Or.inr (Or.inr (Or.inl ⟨by omega, Or.inr (Or.inr (Or.inr (Or.inr (Or.inl ⟨by omega, by omega⟩))))⟩))))⟩
        · exact ⟨by omega, Or.inr (Or.inr (Or.inr (Or.inr (Or.inl ⟨by omega, Or.inr (Or.inr (Or.inr (Or.inr (Or.inr (Or.inl ⟨by omega, by omega⟩)))))⟩))))⟩
        · exact ⟨by omega, Or.inr (Or.inr (Or.inr (Or.inr (Or.inl ⟨by omega, Or.inr (Or.inr (Or.inr (Or.inr (Or.inr (Or.inr (Or.inl ⟨by omega, by omega⟩))))))⟩))))⟩
        · exact ⟨by omega, Or.inr (Or.inr (Or.inr (Or.inr (Or.inl ⟨by omega, Or.inr (Or.inr (Or.inr (Or.inr (Or.inr (Or.inr (Or.inr ⟨by omega, by omega⟩))))))⟩))))⟩
      · exact ⟨by omega, Or.inr (Or.inr (Or.inr (Or.inr (Or.inr (Or.inr ⟨by omega, by omega⟩)))))⟩

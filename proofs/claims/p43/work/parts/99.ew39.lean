/-! the bounds of the states stay, call by call -/
theorem SB.ex {n : Int} {s : zSt} (h : SB n s) : SB n s := h
theorem XB.le {S : zS} {n m : Int} {X : zSx} (h : XB S n X) (hn : n ≤ m) : XB S m X := ⟨⟨h.1.1.le hn, h.1.2⟩, ⟨h.2.1.1.le hn, h.2.1.2⟩, h.2.2.1, fun k hk => ⟨⟨(h.2.2.2 k hk).1.1.le hn, (h.2.2.2 k hk).1.2⟩, (h.2.2.2 k hk).2⟩⟩
theorem ZB.s {S : zS} {s : zSt} (h : ZB S s) {k g : Nat} {v : Int} (hg : (g < S 1 ∧ k < 5) ∨ 6 ≤ k) : ZB S (stS s k g v) := ⟨fun a ha h8 b hb => by
  rw [stS_n (by omega)]
  exact h.1 a ha h8 b hb, fun p hp => by
  rw [stS_n (by omega)]
  exact h.2 p hp⟩
theorem ZB.s5 {S : zS} {s : zSt} (h : ZB S s) {g : Nat} {v : Int} (hg : g < S 3) : ZB S (stS s 5 g v) := ⟨fun a ha h8 b hb => by
  rw [stS_n (by omega)]
  exact h.1 a ha h8 b hb, fun p hp => by
  rw [stS_n (by omega)]
  exact h.2 p hp⟩
theorem ZB.sw {S : zS} {s : zSt} (h : ZB S s) {g : Nat} (hg : g < S 1) : ZB S (swS s g) := (h.s (Or.inl ⟨hg, by decide⟩)).s (Or.inl ⟨hg, by decide⟩)
theorem ZB.co {S : zS} {s : zSt} (h : ZB S s) {f q : Nat} {z : Int} (hf : f < S 1) (hq : q < S 1) : ZB S (coS s f q z) := ((h.s (Or.inl ⟨hf, by decide⟩)).s (Or.inl ⟨hf, by decide⟩)).s (Or.inl ⟨hq, by decide⟩)
theorem itG_p {P : zSt → Prop} {f : zSt → Nat → zSt} {M : Nat} (hf : ∀ s r, r < M → P s → P (f s r)) : ∀ (k r : Nat) (s : zSt), r + k ≤ M → P s → P (itG f k r s)
  | 0, _, _, _, h => h
  | k + 1, r, s, hk, h => itG_p hf k (r + 1) _ (by omega) (hf s r (by omega) h)
theorem ZB.mn {N : zN} {S : zS} {o : Nat → Int} {s : zSt} (hT : TB N S) (h : ZB S s) : ZB S (mnt N S o s) := by
  have a1 : ZB S (mn1 N S o s) := by
    unfold mn1
    split
    · exact h
    · exact itG_p (M := S 2) (fun s r hr h => by
        unfold tnG
        split
        · have := hT.2.2.1 r hr
          exact h.sw (by omega)
        · exact h) _ _ _ (by omega) h
  have a2 : ZB S (itG (pyG N S o) (S 3) 0 (mn1 N S o s)) := itG_p (M := S 3) (fun s r hr h => by
    unfold pyG
    split
    · have := hT.2.2.2.1 r hr
      have hf : (N 9 r).toNat < S 1 := by omega
      have hq : (N 10 r).toNat < S 1 := by omega
      unfold py3 py2 py1
      exact ((((h.s5 hr).s (Or.inl ⟨hf, by decide⟩)).s (Or.inl ⟨hf, by decide⟩)).s (Or.inr (by decide))).s (Or.inl ⟨hq, by decide⟩)
    · exact h) _ _ _ (by omega) a1
  have a3 : ZB S (mn3 N S o (itG (pyG N S o) (S 3) 0 (mn1 N S o s))) := by
    unfold mn3
    split
    · exact a2
    · exact itG_p (M := S 1) (fun s r hr h => by
        unfold dpG
        split
        · exact h
        split
        · split
          · exact (h.s (Or.inr (by decide))).s (Or.inl ⟨hr, by decide⟩)
          · exact h.s (Or.inr (by decide))
        split
        · exact h.s (Or.inl ⟨hr, by decide⟩)
        · exact h) _ _ _ (by omega) a2
  have a4 : ZB S (itG (rnG N S o) (S 1) 0 (mn3 N S o (itG (pyG N S o) (S 3) 0 (mn1 N S o s)))) := itG_p (M := S 1) (fun s r hr h => by
    unfold rnG rnS
    exact ((h.s (Or.inl ⟨hr, by decide⟩)).s (Or.inl ⟨hr, by decide⟩)).s (Or.inl ⟨hr, by decide⟩)) _ _ _ (by omega) a3
  have a5 : ZB S (mn5 N S o (itG (rnG N S o) (S 1) 0 (mn3 N S o (itG (pyG N S o) (S 3) 0 (mn1 N S o s))))) := by
    unfold mn5
    split
    · exact itG_p (M := S 1) (fun s r hr h => by
        unfold wnG
        exact h.s (Or.inl ⟨hr, by decide⟩)) _ _ _ (by omega) a4
    · exact a4
  exact a5.s (Or.inr (by decide))
theorem ZB.mk {N : zN} {S : zS} {o : Nat → Int} (hT : TB N S) : ∀ (k : Nat) {s : zSt}, ZB S s → ZB S (mnK N S o k s)
  | 0, _, h => h
  | k + 1, _, h => ZB.mk hT k (h.mn hT)
theorem XB.pu {S : zS} {n m : Int} {X : zSx} {s' : zSt} (h : XB S n X) (hn : n ≤ m) (h1 : SB m s') (h2 : ZB S s') (h3 : ∀ a, a = 3 ∨ a = 5 ∨ a = 6 → s' a = X.1 a) : XB S m (puX X s') := by
  have hl := h.le hn
  unfold puX
  split
  · rename_i e
    refine ⟨⟨h1, h2⟩, hl.2.1, by show X.2.2.1 + 1 ≤ 20; omega, fun k hk => ?_⟩
    have hk : k < X.2.2.1 + 1 := hk
    show (SB m (if k = X.2.2.1 then X.1 else X.2.2.2 k) ∧ ZB S (if k = X.2.2.1 then X.1 else X.2.2.2 k)) ∧ ∀ a, a = 3 ∨ a = 5 ∨ a = 6 → (if k = X.2.2.1 then X.1 else X.2.2.2 k) a = s' a
    by_cases e1 : k = X.2.2.1
    · rw [if_pos e1]
      exact ⟨hl.1, fun a ha => (h3 a ha).symm⟩
    · rw [if_neg e1]
      have q := hl.2.2.2 k (by omega)
      exact ⟨q.1, fun a ha => (q.2 a ha).trans (h3 a ha).symm⟩
  · rename_i e
    have e20 : X.2.2.1 = 20 := by have := h.2.2.1; omega
    refine ⟨⟨h1, h2⟩, hl.2.1, Nat.le_refl _, fun k hk => ?_⟩
    have hk : k < 20 := hk
    show (SB m (if k = 19 then X.1 else X.2.2.2 (k + 1)) ∧ ZB S (if k = 19 then X.1 else X.2.2.2 (k + 1))) ∧ ∀ a, a = 3 ∨ a = 5 ∨ a = 6 → (if k = 19 then X.1 else X.2.2.2 (k + 1)) a = s' a
    by_cases e1 : k = 19
    · rw [if_pos e1]
      exact ⟨hl.1, fun a ha => (h3 a ha).symm⟩
    · rw [if_neg e1]
      have q := hl.2.2.2 (k + 1) (by omega)
      exact ⟨q.1, fun a ha => (q.2 a ha).trans (h3 a ha).symm⟩
theorem stS_a {s : zSt} {k g a : Nat} {v : Int} (h : a ≠ k) : stS s k g v a = s a := by
  funext b
  exact stS_n (by omega)
theorem XB.fl {N : zN} {S : zS} {n : Int} {X : zSx} (hT : TB N S) (h : XB S n X) (x : Int) : XB S n (flX S X x) := by
  unfold flX
  split
  · rename_i e
    have t := hT.1.2.1
    refine h.pu (by omega) (swS_b h.1.1 (by omega)) (h.1.2.sw (by omega)) (fun a ha => ?_)
    unfold swS
    rw [stS_a (by omega), stS_a (by omega)]
  · exact h
theorem XB.dy {N : zN} {S : zS} {n : Int} {X : zSx} (_hT : TB N S) (h : XB S n X) (x : Int) : XB S n (dyX S X x) := by
  unfold dyX
  split
  · rename_i e
    refine h.pu (by omega) (h.1.1.s2 (Or.inl rfl)) (h.1.2.s (Or.inl ⟨by omega, by decide⟩)) (fun a ha => stS_a (by omega))
  · exact h
theorem coS_b {n : Int} {s : zSt} (h : SB n s) {f q : Nat} {z : Int} (hf : f < 8) (hq : q < 8) (hfq : f ≠ q) (hz : 0 ≤ z ∧ z ≤ 999) (h1 : z ≤ s 1 f) (h2 : s 0 q + z ≤ 999) : SB (n + 999) (coS s f q z) := by
  have a := h.1 f hf
  have b := h.1 q hq
  unfold coS
  exact (((h.le (by omega)).s1 (by omega)).s4 (by omega)).s0 (by omega)
theorem XB.po {N : zN} {S : zS} {n : Int} {X : zSx} (hT : TB N S) (h : XB S n X) (x y z : Int) : XB S (n + 999) (poX S X x y z) := by
  unfold poX
  split
  · rename_i e
    have t := hT.1.2.1
    refine h.pu (by omega) (coS_b h.1.1 (by omega) (by omega) (by omega) (by omega) e.2.1 e.2.2) (h.1.2.co (by omega) (by omega)) (fun a ha => ?_)
    unfold coS
    rw [stS_a (by omega), stS_a (by omega), stS_a (by omega)]
  · exact h.le (by omega)
theorem XB.go {N : zN} {S : zS} {n : Int} {X : zSx} (hT : TB N S) (h : XB S n X) (x : Int) : XB S (n + 397800) (goX N S X x) := by
  unfold goX
  split
  · rename_i e
    have b := mnK_b hT oGo_b x.toNat h.1.1
    refine ⟨⟨b.le (by omega), h.1.2.mk hT _⟩, (h.le (by omega)).2.1, ?_, ?_⟩
    · show (if 1 ≤ x then 0 else X.2.2.1) ≤ 20
      have := h.2.2.1
      split <;> omega
    · intro k hk
      have hk : k < (if 1 ≤ x then 0 else X.2.2.1) := hk
      by_cases e1 : 1 ≤ x
      · rw [if_pos e1] at hk
        omega
      · rw [if_neg e1] at hk
        have e0 : x.toNat = 0 := by omega
        rw [e0]
        exact (h.le (by omega)).2.2.2 k hk
  · exact h.le (by omega)
theorem XB.un {S : zS} {n : Int} {X : zSx} (h : XB S n X) : XB S n (unX X) := by
  unfold unX
  split
  · exact h
  · rename_i e
    have q := h.2.2.2 (X.2.2.1 - 1) (by omega)
    refine ⟨q.1, h.2.1, by have := h.2.2.1; show X.2.2.1 - 1 ≤ 20; omega, fun k hk => ?_⟩
    have hk : k < X.2.2.1 - 1 := hk
    have r := h.2.2.2 k (by omega)
    exact ⟨r.1, fun a ha => (r.2 a ha).trans (q.2 a ha).symm⟩
theorem XB.ke {S : zS} {n : Int} {X : zSx} (h : XB S n X) : XB S n (keX X) := ⟨h.1, h.1, h.2.2⟩
theorem XB.ba {S : zS} {n : Int} {X : zSx} (h : XB S n X) (hi : Int) : XB S n (baX X hi) := by
  unfold baX
  split
  · exact ⟨h.2.1, h.2.1, Nat.zero_le _, fun k hk => absurd hk (Nat.not_lt_zero k)⟩
  · exact h
/-- what a text begins with -/
def bgX (N : zN) (S : zS) : zSx := (bgS N S, bgS N S, 0, fun _ => bgS N S)
theorem XB.bg {N : zN} {S : zS} (hT : TB N S) {n : Int} (hn : 0 ≤ n) : XB S n (bgX N S) := ⟨bgS_b hT hn, bgS_b hT hn, Nat.zero_le _, fun k hk => absurd hk (Nat.not_lt_zero k)⟩

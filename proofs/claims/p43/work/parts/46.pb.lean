/-! pieces of a body told by sums: every int of the start has a name V i (locals, then the stack, then places); at an end places, values and what is known are sums of these -/
/-- so many times the i-th .., a number -/
abbrev sLn : Type := List (Nat × Int) × Int
def lnv (V : Nat → Int) (e : sLn) : Int := (e.1.map (fun q => q.2 * V q.1)).sum + e.2
theorem sFR.snoc {n : Nat} {σ V : Nat → Int} {F : List sF} {f : sF} (h : sFR n σ V F) (hf : sR n σ f (V F.length)) : sFR n σ V (F ++ [f]) := by
  intro i g e
  rcases Nat.lt_or_ge i F.length with hlt | hge
  · rw [List.getElem?_append_left hlt] at e
    exact h i g e
  · rw [List.getElem?_append_right hge] at e
    have hlt := (List.getElem?_eq_some_iff.mp e).1
    have hi : i = F.length := by
      simp only [List.length_cons, List.length_nil] at hlt
      omega
    subst hi
    rw [Nat.sub_self] at e
    cases e
    exact hf
def sCn : sT → Nat
  | .inr (.inl _) => 0
  | _ => 1
def sCnS (L : List sT) : Nat := (L.map sCn).sum
def sCnL (L : List (Nat × sT)) : Nat := (L.map (fun q => sCn q.2)).sum
/-- locals, their ints named -/
def senV : List (Nat × sT) → sL → List sF → sK → (sL → List sF → sK → Bool) → Bool
  | [], l, F, k, C => C l F k
  | (j, .inl iv) :: r, l, F, k, C => snew k iv (fun f k' => senV r ((j, .inl f) :: l) (F ++ [f]) k' C)
  | (j, .inr (.inl q)) :: r, l, F, k, C => senV r ((j, .inr (.inl q)) :: l) F k C
  | (j, .inr (.inr iv)) :: r, l, F, k, C => snew k iv (fun f k' => senV r ((j, slong f) :: l) (F ++ [f]) k' C)
def sNmL (V : Nat → Int) (lo : zL) : List (Nat × sT) → Nat → Prop
  | [], _ => True
  | (j, .inl iv) :: r, i => (∃ x, zget lo j = some (.int x) ∧ x.toInt = V i ∧ iv.1 ≤ V i ∧ V i ≤ iv.2) ∧ sNmL V lo r (i + 1)
  | (j, .inr (.inl q)) :: r, i => zget lo j = some (.ref q) ∧ sNmL V lo r i
  | (j, .inr (.inr iv)) :: r, i => (∃ x, zget lo j = some (.long x) ∧ x.toInt = V i ∧ iv.1 ≤ V i ∧ V i ≤ iv.2) ∧ sNmL V lo r (i + 1)
theorem senV_ok {V : Nat → Int} {h : zH} {lo : zL} {C : sL → List sF → sK → Bool} : ∀ (L : List (Nat × sT)) (l : sL) (lo2 : zL) (F : List sF) (k : sK) (σ : Nat → Int), senV L l F k C = true → sKok k σ h → sLR k.1.length σ l lo2 → (∀ x ∈ lo2, zget lo x.1 = some x.2) → sFR k.1.length σ V F → sNmL V lo L F.length → ∃ l' F' k' σ' lo3, C l' F' k' = true ∧ sKok k' σ' h ∧ sX k.1.length σ k'.1.length σ' ∧ sLR k'.1.length σ' l' lo3 ∧ (∀ x ∈ lo3, zget lo x.1 = some x.2) ∧ sFR k'.1.length σ' V F' ∧ F'.length = F.length + sCnL L
  | [], l, lo2, F, k, σ, hc, hk, hl, hz, hF, _ => ⟨l, F, k, σ, lo2, hc, hk, sX.rf, hl, hz, hF, rfl⟩
  | (j, .inl iv) :: r, l, lo2, F, k, σ, hc, hk, hl, hz, hF, hN => by
    have hc : snew k iv (fun f k' => senV r ((j, .inl f) :: l) (F ++ [f]) k' C) = true := hc
    obtain ⟨⟨x, e1, ex, h1, h2⟩, hN⟩ := hN
    obtain ⟨f', k', σ', c, a, b, d⟩ := snew_ok hc hk h1 h2
    obtain ⟨l2, F2, k2, σ2, lo3, c2, a2, b2, d2, z2, g2, n2⟩ := senV_ok r ((j, .inl f') :: l) ((j, .int x) :: lo2) (F ++ [f']) k' σ' c a ⟨_, _, rfl, ⟨x, rfl, by rw [ex]; exact d⟩, hl.x b⟩ (fun y hy => by
      rcases List.mem_cons.mp hy with e | hy
      · subst e
        exact e1
      · exact hz y hy) ((hF.x b).snoc d) (by rw [List.length_append]; exact hN)
    refine ⟨l2, F2, k2, σ2, lo3, c2, a2, b.tr b2, d2, z2, g2, ?_⟩
    rw [n2, List.length_append]
    simp only [sCnL, List.map_cons, List.sum_cons, List.length_cons, List.length_nil, sCn]
    omega
  | (j, .inr (.inl q)) :: r, l, lo2, F, k, σ, hc, hk, hl, hz, hF, hN => by
    obtain ⟨e1, hN⟩ := hN
    obtain ⟨l2, F2, k2, σ2, lo3, c2, a2, b2, d2, z2, g2, n2⟩ := senV_ok r ((j, .inr (.inl q)) :: l) ((j, .ref q) :: lo2) F k σ hc hk ⟨_, _, rfl, rfl, hl⟩ (fun y hy => by
      rcases List.mem_cons.mp hy with e | hy
      · subst e
        exact e1
      · exact hz y hy) hF hN
    refine ⟨l2, F2, k2, σ2, lo3, c2, a2, b2, d2, z2, g2, ?_⟩
    rw [n2]
    simp only [sCnL, List.map_cons, List.sum_cons, sCn]
    omega
  | (j, .inr (.inr iv)) :: r, l, lo2, F, k, σ, hc, hk, hl, hz, hF, hN => by
    have hc : snew k iv (fun f k' => senV r ((j, slong f) :: l) (F ++ [f]) k' C) = true := hc
    obtain ⟨⟨x, e1, ex, h1, h2⟩, hN⟩ := hN
    obtain ⟨f', k', σ', c, a, b, d⟩ := snew_ok hc hk h1 h2
    obtain ⟨l2, F2, k2, σ2, lo3, c2, a2, b2, d2, z2, g2, n2⟩ := senV_ok r ((j, slong f') :: l) ((j, .long x) :: lo2) (F ++ [f']) k' σ' c a ⟨_, _, rfl, ⟨x, rfl, by rw [ex]; exact d⟩, hl.x b⟩ (fun y hy => by
      rcases List.mem_cons.mp hy with e | hy
      · subst e
        exact e1
      · exact hz y hy) ((hF.x b).snoc d) (by rw [List.length_append]; exact hN)
    refine ⟨l2, F2, k2, σ2, lo3, c2, a2, b.tr b2, d2, z2, g2, ?_⟩
    rw [n2, List.length_append]
    simp only [sCnL, List.map_cons, List.sum_cons, List.length_cons, List.length_nil, sCn]
    omega
/-- the stack, its ints named -/
def sentS : List sT → List sV → List sF → sK → (List sV → List sF → sK → Bool) → Bool
  | [], st, F, k, C => C st F k
  | .inl iv :: r, st, F, k, C => snew k iv (fun f k' => sentS r (st ++ [.inl f]) (F ++ [f]) k' C)
  | .inr (.inl q) :: r, st, F, k, C => sentS r (st ++ [.inr (.inl q)]) F k C
  | .inr (.inr iv) :: r, st, F, k, C => snew k iv (fun f k' => sentS r (st ++ [slong f]) (F ++ [f]) k' C)
def sNmS (V : Nat → Int) : List sT → List Value → Nat → Prop
  | [], vs, _ => vs = []
  | .inl iv :: r, vs, i => ∃ x t, vs = .int x :: t ∧ x.toInt = V i ∧ (iv.1 ≤ V i ∧ V i ≤ iv.2) ∧ sNmS V r t (i + 1)
  | .inr (.inl q) :: r, vs, i => ∃ t, vs = .ref q :: t ∧ sNmS V r t i
  | .inr (.inr iv) :: r, vs, i => ∃ x t, vs = .long x :: t ∧ x.toInt = V i ∧ (iv.1 ≤ V i ∧ V i ≤ iv.2) ∧ sNmS V r t (i + 1)
theorem sentS_ok {V : Nat → Int} {h : zH} {C : List sV → List sF → sK → Bool} : ∀ (L : List sT) (st : List sV) (sv vs : List Value) (F : List sF) (k : sK) (σ : Nat → Int), sentS L st F k C = true → sKok k σ h → sSR k.1.length σ st sv → sFR k.1.length σ V F → sNmS V L vs F.length → ∃ st' F' k' σ', C st' F' k' = true ∧ sKok k' σ' h ∧ sX k.1.length σ k'.1.length σ' ∧ sSR k'.1.length σ' st' (sv ++ vs) ∧ sFR k'.1.length σ' V F' ∧ F'.length = F.length + sCnS L
  | [], st, sv, vs, F, k, σ, hc, hk, hs, hF, hN => by
    have hN : vs = [] := hN
    subst hN
    exact ⟨st, F, k, σ, hc, hk, sX.rf, by rw [List.append_nil]; exact hs, hF, rfl⟩
  | .inl iv :: r, st, sv, vs, F, k, σ, hc, hk, hs, hF, hN => by
    have hc : snew k iv (fun f k' => sentS r (st ++ [.inl f]) (F ++ [f]) k' C) = true := hc
    obtain ⟨x, t, rfl, ex, ⟨h1, h2⟩, hN⟩ := hN
    obtain ⟨f', k', σ', c, a, b, d⟩ := snew_ok hc hk h1 h2
    obtain ⟨s2, F2, k2, σ2, c2, a2, b2, d2, g2, n2⟩ := sentS_ok r (st ++ [.inl f']) (sv ++ [.int x]) t (F ++ [f']) k' σ' c a (sSR.app (b := [.inl f']) (u := [.int x]) (hs.x b) ⟨.int x, [], rfl, ⟨x, rfl, by rw [ex]; exact d⟩, rfl⟩) ((hF.x b).snoc d) (by rw [List.length_append]; exact hN)
    refine ⟨s2, F2, k2, σ2, c2, a2, b.tr b2, by rw [List.append_assoc] at d2; exact d2, g2, ?_⟩
    rw [n2, List.length_append]
    simp only [sCnS, List.map_cons, List.sum_cons, List.length_cons, List.length_nil, sCn]
    omega
  | .inr (.inl q) :: r, st, sv, vs, F, k, σ, hc, hk, hs, hF, hN => by
    have hc : sentS r (st ++ [.inr (.inl q)]) F k C = true := hc
    obtain ⟨t, rfl, hN⟩ := hN
    obtain ⟨s2, F2, k2, σ2, c2, a2, b2, d2, g2, n2⟩ := sentS_ok r (st ++ [.inr (.inl q)]) (sv ++ [.ref q]) t F k σ hc hk (sSR.app (b := [.inr (.inl q)]) (u := [.ref q]) hs ⟨.ref q, [], rfl, rfl, rfl⟩) hF hN
    refine ⟨s2, F2, k2, σ2, c2, a2, b2, by rw [List.append_assoc] at d2; exact d2, g2, ?_⟩
    rw [n2]
    simp only [sCnS, List.map_cons, List.sum_cons, sCn]
    omega
  | .inr (.inr iv) :: r, st, sv, vs, F, k, σ, hc, hk, hs, hF, hN => by
    have hc : snew k iv (fun f k' => sentS r (st ++ [slong f]) (F ++ [f]) k' C) = true := hc
    obtain ⟨x, t, rfl, ex, ⟨h1, h2⟩, hN⟩ := hN
    obtain ⟨f', k', σ', c, a, b, d⟩ := snew_ok hc hk h1 h2
    obtain ⟨s2, F2, k2, σ2, c2, a2, b2, d2, g2, n2⟩ := sentS_ok r (st ++ [slong f']) (sv ++ [.long x]) t (F ++ [f']) k' σ' c a (sSR.app (b := [slong f']) (u := [.long x]) (hs.x b) ⟨.long x, [], rfl, ⟨x, rfl, by rw [ex]; exact d⟩, rfl⟩) ((hF.x b).snoc d) (by rw [List.length_append]; exact hN)
    refine ⟨s2, F2, k2, σ2, c2, a2, b.tr b2, by rw [List.append_assoc] at d2; exact d2, g2, ?_⟩
    rw [n2, List.length_append]
    simp only [sCnS, List.map_cons, List.sum_cons, List.length_cons, List.length_nil, sCn]
    omega
/-! sums of the names -/
theorem slv1_app (σ : Nat → Int) : ∀ a b : List (Nat × Int), slv1 σ (a ++ b) = slv1 σ a + slv1 σ b
  | [], b => by simp [slv1]
  | t :: a, b => by
    have ih := slv1_app σ a b
    simp only [slv1, List.cons_append, List.map_cons, List.sum_cons] at ih ⊢
    omega
/-- a symbol, told by older ones -/
def sxe (S : sSm) : Nat → Int → Nat → List (Nat × Int)
  | 0, c, s => [(s, c)]
  | n + 1, c, s => match S.find? (fun t => (t.2.2 == s && (decide (t.1 < s) && decide (t.2.1 < s))) || (t.2.1 == s && (decide (t.1 < s) && decide (t.2.2 < s)))) with
    | none => [(s, c)]
    | some t => if t.2.2 = s then sxe S n c t.1 ++ sxe S n c t.2.1 else sxe S n c t.2.2 ++ sxe S n (-c) t.1
theorem sxe_ok {σ : Nat → Int} {S : sSm} (hS : ∀ t ∈ S, σ t.2.2 = σ t.1 + σ t.2.1) : ∀ (n : Nat) (c : Int) (s : Nat), slv1 σ (sxe S n c s) = c * σ s
  | 0, c, s => by simp [sxe, slv1]
  | n + 1, c, s => by
    simp only [sxe]
    split
    · simp [slv1]
    · rename_i t e
      have h1 := hS t (List.mem_of_find?_eq_some e)
      have h2 := List.find?_some e
      simp only [Bool.or_eq_true, Bool.and_eq_true, beq_iff_eq] at h2
      split
      · rename_i e2
        rw [slv1_app, sxe_ok hS n, sxe_ok hS n, ← e2, h1, Int.mul_add]
      · rename_i e2
        have e3 : t.2.1 = s := by
          rcases h2 with h2 | h2
          · exact absurd h2.1 e2
          · exact h2.1
        rw [slv1_app, sxe_ok hS n, sxe_ok hS n, h1, ← e3, Int.mul_add, Int.neg_mul]
        omega
def sga : List (Nat × Int) → List (Nat × Int)
  | [] => []
  | t :: r => sacc (sga r) t.1 t.2
theorem sga_ok (σ : Nat → Int) : ∀ L, slv1 σ (sga L) = slv1 σ L
  | [] => rfl
  | t :: r => by
    have ih := sga_ok σ r
    simp only [sga]
    rw [sacc_ok, ih]
    simp only [slv1, List.map_cons, List.sum_cons]
    omega
def sz0 (L : List (Nat × Int)) : Bool := (sga L).all (fun q => q.2 == 0)
theorem slv1_z {σ : Nat → Int} : ∀ {L : List (Nat × Int)}, L.all (fun q => q.2 == 0) = true → slv1 σ L = 0
  | [], _ => rfl
  | t :: r, h => by
    simp only [List.all_cons, Bool.and_eq_true, beq_iff_eq] at h
    have ih := slv1_z (σ := σ) h.2
    simp only [slv1, List.map_cons, List.sum_cons] at ih ⊢
    rw [h.1, Int.zero_mul]
    omega
theorem sz0_ok {σ : Nat → Int} {L : List (Nat × Int)} (h : sz0 L = true) : slv1 σ L = 0 := by
  rw [← sga_ok]
  exact slv1_z h
def sfx (S : sSm) (c : Int) (f : sF) : List (Nat × Int) × Int := match f.1 with
  | none => ([], c * f.2)
  | some s => (sxe S 20 c s, c * f.2)
theorem sfx_ok {σ : Nat → Int} {S : sSm} (hS : ∀ t ∈ S, σ t.2.2 = σ t.1 + σ t.2.1) (c : Int) (f : sF) : slv1 σ (sfx S c f).1 + (sfx S c f).2 = c * sval σ f := by
  obtain ⟨o, z⟩ := f
  cases o with
  | none =>
    show slv1 σ [] + c * z = c * z
    simp [slv1]
  | some s =>
    show slv1 σ (sxe S 20 c s) + c * z = c * (σ s + z)
    rw [sxe_ok hS, Int.mul_add]
def sxl (S : sSm) (F : List sF) : List (Nat × Int) → Option (List (Nat × Int) × Int)
  | [] => some ([], 0)
  | t :: r => match F[t.1]?, sxl S F r with
    | some f, some p => some ((sfx S t.2 f).1 ++ p.1, (sfx S t.2 f).2 + p.2)
    | _, _ => none
theorem sxl_ok {n : Nat} {σ V : Nat → Int} {S : sSm} {F : List sF} (hS : ∀ t ∈ S, σ t.2.2 = σ t.1 + σ t.2.1) (hF : sFR n σ V F) : ∀ (L : List (Nat × Int)) (p : List (Nat × Int) × Int), sxl S F L = some p → slv1 σ p.1 + p.2 = (L.map (fun q => q.2 * V q.1)).sum
  | [], p, h => by
    cases h
    rfl
  | t :: r, p, h => by
    simp only [sxl] at h
    split at h
    · rename_i f p' e1 e2
      cases h
      have ih := sxl_ok hS hF r p' e2
      have h1 := sfx_ok hS t.2 f
      have h2 := (hF _ _ e1).2
      rw [← h2] at h1
      simp only [List.map_cons, List.sum_cons]
      rw [slv1_app]
      omega
    · cases h
def seqB (k : sK) (F : List sF) (f : sF) (e : sLn) : Bool := match sxl k.2.1.2 F e.1 with
  | some p => sz0 (p.1 ++ (sfx k.2.1.2 (-1) f).1) && decide (p.2 + (sfx k.2.1.2 (-1) f).2 + e.2 = 0)
  | none => false
theorem seqB_ok {n : Nat} {k : sK} {σ V : Nat → Int} {F : List sF} {h : zH} {f : sF} {e : sLn} (hc : seqB k F f e = true) (hk : sKok k σ h) (hF : sFR n σ V F) : sval σ f = lnv V e := by
  have hS : ∀ t ∈ k.2.1.2, σ t.2.2 = σ t.1 + σ t.2.1 := fun t ht => (hk.2.1.2 t ht).2.2.2
  unfold seqB at hc
  split at hc
  · rename_i p ep
    simp only [Bool.and_eq_true, decide_eq_true_eq] at hc
    have h1 := sxl_ok hS hF e.1 p ep
    have h2 := sfx_ok hS (-1) f
    have h3 := sz0_ok (σ := σ) hc.1
    rw [slv1_app] at h3
    have h4 : lnv V e = (e.1.map (fun q => q.2 * V q.1)).sum + e.2 := rfl
    omega
  · cases hc
/-- at least 0 -/
def sgeB (k : sK) (F : List sF) (e : sLn) : Bool := match sxl k.2.1.2 F e.1 with
  | some p => (match sup k (sga (p.1.map (fun q => (q.1, -q.2)))) with
      | some u => decide (u ≤ p.2 + e.2)
      | none => false) || (k.2.1.1.any (fun t => decide (0 ≤ t.2.2 + p.2 + e.2) && sz0 (p.1 ++ (sxe k.2.1.2 20 (-1) t.1 ++ sxe k.2.1.2 20 1 t.2.1))) || (List.range k.1.length).any (fun s => match k.1[s]? with
      | some iv => (decide (0 ≤ iv.1 + p.2 + e.2) && sz0 (p.1 ++ sxe k.2.1.2 20 (-1) s)) || (decide (0 ≤ p.2 + e.2 - iv.2) && sz0 (p.1 ++ sxe k.2.1.2 20 1 s))
      | none => false))
  | none => false
theorem slv1_neg (σ : Nat → Int) : ∀ L : List (Nat × Int), slv1 σ (L.map (fun q => (q.1, -q.2))) = -slv1 σ L
  | [] => rfl
  | t :: r => by
    have ih := slv1_neg σ r
    simp only [slv1, List.map_cons, List.sum_cons] at ih ⊢
    rw [ih, Int.neg_mul]
    omega
theorem sgeB_ok {n : Nat} {k : sK} {σ V : Nat → Int} {F : List sF} {h : zH} {e : sLn} (hc : sgeB k F e = true) (hk : sKok k σ h) (hF : sFR n σ V F) : 0 ≤ lnv V e := by
  have hS : ∀ t ∈ k.2.1.2, σ t.2.2 = σ t.1 + σ t.2.1 := fun t ht => (hk.2.1.2 t ht).2.2.2
  have h4 : lnv V e = (e.1.map (fun q => q.2 * V q.1)).sum + e.2 := rfl
  unfold sgeB at hc
  split at hc
  · rename_i p ep
    have h1 := sxl_ok hS hF e.1 p ep
    rw [Bool.or_eq_true, Bool.or_eq_true] at hc
    rcases hc with hc | hc | hc
    · split at hc
      · rename_i u eu
        have h2 := sup_ok hk _ u eu
        rw [sga_ok, slv1_neg] at h2
        have h3 := of_decide_eq_true hc
        omega
      · cases hc
    · obtain ⟨t, ht, hc⟩ := List.any_eq_true.mp hc
      simp only [Bool.and_eq_true, decide_eq_true_eq] at hc
      have h2 := (hk.2.1.1 t ht).2.2
      have h3 := sz0_ok (σ := σ) hc.2
      rw [slv1_app, slv1_app, sxe_ok hS, sxe_ok hS] at h3
      omega
    · obtain ⟨s, hs, hc⟩ := List.any_eq_true.mp hc
      split at hc
      · rename_i iv ev
        have h2 := hk.1 s iv ev
        simp only [Bool.or_eq_true, Bool.and_eq_true, decide_eq_true_eq] at hc
        rcases hc with hc | hc
        · have h3 := sz0_ok (σ := σ) hc.2
          rw [slv1_app, sxe_ok hS] at h3
          omega
        · have h3 := sz0_ok (σ := σ) hc.2
          rw [slv1_app, sxe_ok hS] at h3
          omega
      · cases hc
  · cases hc
/-- places, stack, locals as sums; what is at least 0 -/
abbrev sEf : Type := List (Nat × (Option Nat × Int) × sLn) × List (Nat × sLn) × List (Nat × sLn) × List sLn
def svf : sV → Option sF
  | .inl f => some f
  | .inr (.inr (.inr f)) => some f
  | _ => none
def vI : Value → Int
  | .int x => x.toInt
  | .long x => x.toInt
  | _ => 0
theorem svf_ok {n : Nat} {σ : Nat → Int} : ∀ {a : sV} {v : Value} {f : sF}, svf a = some f → sVR n σ a v → vI v = sval σ f
  | .inl f, v, f', e, ⟨x, ev, hx⟩ => by
    cases e
    rw [ev]
    exact hx.2
  | .inr (.inl _), _, _, e, _ => by cases e
  | .inr (.inr (.inl _)), _, _, e, _ => by cases e
  | .inr (.inr (.inr f)), v, f', e, ⟨x, ev, hx⟩ => by
    cases e
    rw [ev]
    exact hx.2
def sEfB (F : List sF) (l : sL) (st : List sV) (k : sK) (x : sEf) : Bool :=
  x.1.all (fun t => match sPix F t.2.1 with
    | some ix => (match slook k.2.2.1 t.1 ix with
      | some f => seqB k F f t.2.2
      | none => false)
    | none => false) && (x.2.1.all (fun t => match st[t.1]? with
    | some a => (match svf a with
      | some f => seqB k F f t.2
      | none => false)
    | none => false) && (x.2.2.1.all (fun t => match slget l t.1 with
    | some a => (match svf a with
      | some f => seqB k F f t.2
      | none => false)
    | none => false) && x.2.2.2.all (sgeB k F)))
def sEfP (V : Nat → Int) (lo : zL) (st : List Value) (h : zH) (x : sEf) : Prop := (∀ t ∈ x.1, (h.2.1 t.1 (sPv V t.2.1).toNat).toInt = lnv V t.2.2) ∧ (∀ t ∈ x.2.1, ∃ v, st[t.1]? = some v ∧ vI v = lnv V t.2) ∧ (∀ t ∈ x.2.2.1, ∃ v, zget lo t.1 = some v ∧ vI v = lnv V t.2) ∧ ∀ e ∈ x.2.2.2, 0 ≤ lnv V e
theorem sEfB_ok {n : Nat} {k : sK} {σ V : Nat → Int} {F : List sF} {l : sL} {st : List sV} {x : sEf} {lo : zL} {sv : List Value} {h : zH} (hc : sEfB F l st k x = true) (hk : sKok k σ h) (hl : sLR k.1.length σ l lo) (hs : sSR k.1.length σ st sv) (hF : sFR n σ V F) : sEfP V lo sv h x := by
  simp only [sEfB, Bool.and_eq_true] at hc
  obtain ⟨c1, c2, c3, c4⟩ := hc
  refine ⟨fun t ht => ?_, fun t ht => ?_, fun t ht => ?_, fun e he => sgeB_ok (List.all_eq_true.mp c4 e he) hk hF⟩
  · have h1 := List.all_eq_true.mp c1 t ht
    split at h1
    · rename_i ix ei
      split at h1
      · rename_i f ef
        obtain ⟨i1, i2⟩ := sPix_ok hF ei
        obtain ⟨b1, b2, b3⟩ := hk.2.2.1 _ (slook_mem ef)
        have b3 : (h.2.1 t.1 (sval σ ix).toNat).toInt = sval σ f := b3
        rw [← i2, b3]
        exact seqB_ok h1 hk hF
      · cases h1
    · cases h1
  · have h1 := List.all_eq_true.mp c2 t ht
    split at h1
    · rename_i a ea
      split at h1
      · rename_i f ef
        obtain ⟨v, e1, e2⟩ := sSR.at hs ea
        exact ⟨v, e1, (svf_ok ef e2).trans (seqB_ok h1 hk hF)⟩
      · cases h1
    · cases h1
  · have h1 := List.all_eq_true.mp c3 t ht
    split at h1
    · rename_i a ea
      split at h1
      · rename_i f ef
        obtain ⟨v, e1, e2⟩ := slget_ok hl ea
        exact ⟨v, e1, (svf_ok ef e2).trans (seqB_ok h1 hk hF)⟩
      · cases h1
    · cases h1
/-- an end: pc, stack, locals, what holds, sums -/
abbrev sEv : Type := Nat × List sT × List (Nat × sT) × sAs × sEf
/-- a return: the answer is the stack -/
abbrev sRv : Type := Option sT × sAs × sEf
def sEvB (w : sW) (F : List sF) (pc : Nat) (l : sL) (st : List sV) (k : sK) (e : sEv) : Bool := e.1 == pc && (sfitL k e.2.1 st && (e.2.2.1.all (fun q => match slget l q.1 with
      | some a => sfit k q.2 a
      | none => false) && (schA w k e.2.2.2.1 && sEfB F l st k e.2.2.2.2)))
def sEvP (V : Nat → Int) (e : sEv) (lo : zL) (st : List Value) (h : zH) : Prop := sTL e.2.1 st ∧ (∀ q ∈ e.2.2.1, ∃ v, zget lo q.1 = some v ∧ sTok q.2 v) ∧ sAok e.2.2.2.1 h ∧ sEfP V lo st h e.2.2.2.2
def sRvB (w : sW) (F : List sF) (r : Option sV) (k : sK) (e : sRv) : Bool := schA w k e.2.1 && (sEfB F [] r.toList k e.2.2 && (match e.1, r with
  | none, none => true
  | some t, some a => sfit k t a
  | _, _ => false))
def sRvP (V : Nat → Int) (e : sRv) (r : Option Value) (h : zH) : Prop := sTO e.1 r ∧ sAok e.2.1 h ∧ sEfP V [] r.toList h e.2.2
def spdB (w : sW) (T : Nat → List sCt) (md : sM) (n dep : Nat) (M : zM) (L0 : List (Nat × sT)) (S0 : List sT) (A0 : sAs) (P0 : List sP0) (pc : Nat) (ends : List sEv) (rets : List sRv) : Bool :=
  senV L0 [] [] ([], ([], []), [], [], none) (fun l F k => sentS S0 [] F k (fun st F k => saA A0 k (fun k => saF P0 F k (fun F k => sit w md M (srn w T md n dep) (fun r k => rets.any (sRvB w F r k)) (fun p => ends.any (fun e => e.1 == p)) [] (fun pc l st k => ends.any (sEvB w F pc l st k)) n pc l st k))))
theorem spd_ok {l : Launch} {Γ : zG} {w : sW} {T : Nat → List sCt} {md : sM} {n dep d : Nat} {M : zM} {L0 : List (Nat × sT)} {S0 : List sT} {A0 : sAs} {P0 : List sP0} {pc : Nat} {ends : List sEv} {rets : List sRv} {Kp : Option Value → zH → Prop} {QF : List Frame → Array Value → State → State → Prop} (V : Nat → Int)
    (hb : spdB w T md n dep M L0 S0 A0 P0 pc ends rets = true) (hT : ∀ mi, ∀ c ∈ T mi, c.2.2.2.2.2 ≤ dep → sCon l Γ w mi c) (hck : zckB M = true)
    (hQ : ∀ below args s t, MQ below (zQ Γ false Kp) args s M.1.2.2.2.2.1 M.1.2.2.2.2.2 (zA Γ) t → QF below args s t) (hd : dep ≤ d) {lo : zL} {st : List Value} {h : zH}
    (hL : sNmL V lo L0 0) (hS : sNmS V S0 st (sCnL L0)) (hA : sAok A0 h) (hP : sPok V h P0 (sCnL L0 + sCnS S0)) (hi : sInv w h)
    (hE : ∀ e ∈ ends, ∀ lo' st' h', sEvP V e lo' st' h' → sInv w h' → sMd md h h' → zX l Γ false (d + 1) M.1 QF 0 0 e.1 lo' st' h')
    (hR : ∀ e ∈ rets, ∀ r h', sRvP V e r h' → sInv w h' → sMd md h h' → Kp r h') : zX l Γ false (d + 1) M.1 QF 0 0 pc lo st h := by
  unfold spdB at hb
  obtain ⟨l1, F1, k1, σ1, lo3, c1, a1, b1, d1, z1, g1, n1⟩ := senV_ok (V := V) (h := h) (lo := lo) L0 [] [] [] ([], ([], []), [], [], none) (fun _ => 0) hb (sk0 h _) rfl (fun x hx => (nomatch hx)) (fun i f e => by cases e) hL
  have n1 : F1.length = sCnL L0 := by
    rw [n1]
    exact Nat.zero_add _
  obtain ⟨s2, F2, k2, σ2, c2, a2, b2, d2, g2, n2⟩ := sentS_ok (V := V) S0 [] [] st F1 k1 σ1 c1 a1 rfl g1 (by rw [n1]; exact hS)
  obtain ⟨k3, σ3, c3, a3, b3⟩ := saA_ok c2 a2 hA
  obtain ⟨F, k4, σ4, c4, a4, b4, d4⟩ := saF_ok (V := V) P0 F2 k3 σ3 c3 a3 (g2.x b3) (by rw [n2, n1]; exact hP)
  have e1 := ((d1.x b2).x b3).x b4
  have e2 := (d2.x b3).x b4
  refine zX_sub (lo2 := lo3) (fun x hx => zget_mem _ _ _ (z1 x hx)) ?_
  refine sit_ok (h0 := h) (n0 := k4.1.length) (σ0 := σ4) (QF := QF) (Kp := Kp) (spl := []) hck hQ (srn_ok hT dep d (Nat.le_refl _) hd) ?_ ?_ n pc l1 _ k4 c4 σ4 lo3 st h ⟨a4, e1, e2, hi, sMd.rf, sX.rf⟩
  · intro r k hc σ r' h' hk hr hi' hm hx
    obtain ⟨e, he, hc⟩ := List.any_eq_true.mp hc
    simp only [sRvB, Bool.and_eq_true] at hc
    obtain ⟨h1, h2, h3⟩ := hc
    refine hR e he r' h' ⟨?_, schA_ok h1 hk hi', sEfB_ok (lo := []) h2 hk rfl hr.tl (d4.x hx)⟩ hi' hm
    obtain ⟨res, _⟩ := e
    cases res with
    | none =>
      cases r with
      | none => exact hr
      | some a => cases h3
    | some t =>
      cases r with
      | none => cases h3
      | some a =>
        obtain ⟨v, e, hv⟩ := hr
        exact ⟨v, e, sfit_ok hk h3 hv⟩
  · intro pc' l0 st1 k hcut hS' σ l' st' h' hr
    obtain ⟨e, he, hc⟩ := List.any_eq_true.mp hS'
    simp only [sEvB, Bool.and_eq_true, beq_iff_eq] at hc
    obtain ⟨h1, h2, h3, h4, h5⟩ := hc
    obtain ⟨r1, r2, r3, r4, r5, r6⟩ := hr
    subst h1
    refine hE e he l' st' h' ⟨sfitL_ok r1 h2 r3, fun q hq => ?_, schA_ok h4 r1 r4, sEfB_ok h5 r1 r2 r3 (d4.x r6)⟩ r4 r5
    have h7 := List.all_eq_true.mp h3 q hq
    split at h7
    · rename_i a ea
      obtain ⟨v, e3, e4⟩ := slget_ok r2 ea
      exact ⟨v, e3, sfit_ok r1 h7 e4⟩
    · cases h7
/-- a further piece of a method's body -/
def speB (w : sW) (T : Nat → List sCt) (md : sM) (n dep mi : Nat) (L0 : List (Nat × sT)) (S0 : List sT) (A0 : sAs) (P0 : List sP0) (pc : Nat) (ends : List sEv) (rets : List sRv) : Bool := decide ((zCodes.get mi).1 = mi) && spdB w T md n dep (zhd mi, (zCodes.get mi).2) L0 S0 A0 P0 pc ends rets
theorem spe_ok {l : Launch} {Γ : zG} {w : sW} {T : Nat → List sCt} {md : sM} {n dep d mi pc : Nat} {L0 : List (Nat × sT)} {S0 : List sT} {A0 : sAs} {P0 : List sP0} {ends : List sEv} {rets : List sRv} {Kp : Option Value → zH → Prop} (V : Nat → Int)
    (hb : speB w T md n dep mi L0 S0 A0 P0 pc ends rets = true) (hT : ∀ mi, ∀ c ∈ T mi, c.2.2.2.2.2 ≤ dep → sCon l Γ w mi c) (hd : dep ≤ d) {lo : zL} {st : List Value} {h : zH}
    (hL : sNmL V lo L0 0) (hS : sNmS V S0 st (sCnL L0)) (hA : sAok A0 h) (hP : sPok V h P0 (sCnL L0 + sCnS S0)) (hi : sInv w h)
    (hE : ∀ e ∈ ends, ∀ lo' st' h', sEvP V e lo' st' h' → sInv w h' → sMd md h h' → zX l Γ false (d + 1) (zhd mi) (zMQ' Γ false (zhd mi) Kp) 0 0 e.1 lo' st' h')
    (hR : ∀ e ∈ rets, ∀ r h', sRvP V e r h' → sInv w h' → sMd md h h' → Kp r h') : zX l Γ false (d + 1) (zhd mi) (zMQ' Γ false (zhd mi) Kp) 0 0 pc lo st h := by
  simp only [speB, Bool.and_eq_true, decide_eq_true_eq] at hb
  obtain ⟨c1, c3⟩ := hb
  obtain ⟨q1, q2⟩ := zallP_get _ zCodes_ok mi
  rw [c1] at q1 q2
  exact spd_ok (M := (zhd mi, (zCodes.get mi).2)) (Kp := Kp) V c3 hT q1 (fun _ _ _ _ h => h) hd hL hS hA hP hi hE hR
/-- a whole method: its locals are its arguments -/
def spfB (w : sW) (T : Nat → List sCt) (md : sM) (n dep mi : Nat) (as : List sT) (A0 : sAs) (P0 : List sP0) (ends : List sEv) (rets : List sRv) : Bool := decide ((zCodes.get mi).1 = mi) && (decide (sslen as ≤ (zhd mi).2.2.1) && spdB w T md n dep (zhd mi, (zCodes.get mi).2) (sslot 0 as) [] A0 P0 0 ends rets)
theorem spf_ok {l : Launch} {Γ : zG} {w : sW} {T : Nat → List sCt} {md : sM} {n dep d mi : Nat} {as : List sT} {A0 : sAs} {P0 : List sP0} {ends : List sEv} {rets : List sRv} {Kp : Option Value → zH → Prop} (V : Nat → Int)
    (hb : spfB w T md n dep mi as A0 P0 ends rets = true) (hT : ∀ mi, ∀ c ∈ T mi, c.2.2.2.2.2 ≤ dep → sCon l Γ w mi c) (hd : dep ≤ d) {args : List Value} {h : zH}
    (ha : sTL as args) (hL : sNmL V (lv_args 0 args) (sslot 0 as) 0) (hA : sAok A0 h) (hP : sPok V h P0 (sCnL (sslot 0 as))) (hi : sInv w h)
    (hE : ∀ e ∈ ends, ∀ lo' st' h', sEvP V e lo' st' h' → sInv w h' → sMd md h h' → zX l Γ false (d + 1) (zhd mi) (zMQ' Γ false (zhd mi) Kp) 0 0 e.1 lo' st' h')
    (hR : ∀ e ∈ rets, ∀ r h', sRvP V e r h' → sInv w h' → sMd md h h' → Kp r h') : zSem l Γ false (d + 1) (zhd mi) args h Kp := by
  simp only [spfB, Bool.and_eq_true, decide_eq_true_eq] at hb
  obtain ⟨c1, c2, c3⟩ := hb
  obtain ⟨q1, q2⟩ := zallP_get _ zCodes_ok mi
  rw [c1] at q1 q2
  refine zbody q2 (by rw [sslen_ok as args ha]; exact c2) ?_
  exact spd_ok (M := (zhd mi, (zCodes.get mi).2)) (Kp := Kp) V c3 hT q1 (fun _ _ _ _ h => h) hd hL rfl hA hP hi hE hR

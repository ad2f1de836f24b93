/-- assume f ≤ g: what is known then; none: it can't be -/
def sasm (k : sK) (f g : sF) : Option sK := match f.1, g.1 with
  | none, none => if f.2 ≤ g.2 then some k else none
  | some a, none => (match k.1[a]? with
    | some iv => if iv.1 ≤ g.2 - f.2 then some (k.1.set a (iv.1, min iv.2 (g.2 - f.2)), k.2) else none
    | none => none)
  | none, some b => (match k.1[b]? with
    | some iv => if f.2 - g.2 ≤ iv.2 then some (k.1.set b (max iv.1 (f.2 - g.2), iv.2), k.2) else none
    | none => none)
  | some a, some b => if a = b then (if f.2 ≤ g.2 then some k else none) else (match k.1[a]?, k.1[b]? with
    | some iva, some ivb => if iva.1 ≤ ivb.2 - (f.2 - g.2) ∧ (k.2.1.any (fun t => t.1 == a && t.2.1 == b && decide (-(f.2 - g.2) < t.2.2))) = false then
        some ((k.1.set a (iva.1, min iva.2 (ivb.2 - (f.2 - g.2)))).set b (max ivb.1 (iva.1 + (f.2 - g.2)), ivb.2), (b, a, f.2 - g.2) :: k.2.1, k.2.2) else none
    | _, _ => none)
theorem sset_ok {k : sK} {σ : Nat → Int} {h : zH} (hk : sKok k σ h) {a : Nat} {iv : Int × Int} (h1 : iv.1 ≤ σ a) (h2 : σ a ≤ iv.2) : sKok (k.1.set a iv, k.2) σ h := by
  obtain ⟨a1, a2, a3⟩ := hk
  refine ⟨fun i jv hi => ?_, fun t ht => ?_, fun t ht => ?_⟩
  · by_cases e : i = a
    · subst e
      have hi : (k.1.set i iv)[i]? = some jv := hi
      have hlt : i < (k.1.set i iv).length := (List.getElem?_eq_some_iff.mp hi).1
      rw [List.length_set] at hlt
      rw [List.getElem?_set_self hlt] at hi
      cases hi
      exact ⟨h1, h2⟩
    · have hi : (k.1.set a iv)[i]? = some jv := hi
      rw [List.getElem?_set_ne (Ne.symm e)] at hi
      exact a1 i jv hi
  · have := a2 t ht
    rw [show ((k.1.set a iv, k.2) : sK).1.length = k.1.length from List.length_set]
    exact this
  · have := a3 t ht
    rw [show ((k.1.set a iv, k.2) : sK).1.length = k.1.length from List.length_set]
    exact this
theorem sasm_ok {k : sK} {σ : Nat → Int} {h : zH} {f g : sF} (hk : sKok k σ h) (hf : swf k.1.length f) (hg : swf k.1.length g) (hle : sval σ f ≤ sval σ g) : ∃ k', sasm k f g = some k' ∧ sKok k' σ h ∧ k'.1.length = k.1.length := by
  obtain ⟨f1, f2⟩ := f
  obtain ⟨g1, g2⟩ := g
  cases f1 with
  | none =>
    cases g1 with
    | none =>
      have hle : f2 ≤ g2 := hle
      exact ⟨k, by simp only [sasm]; rw [if_pos hle], hk, rfl⟩
    | some b =>
      have hb : b < k.1.length := hg
      have hle : f2 ≤ σ b + g2 := hle
      have e : k.1[b]? = some k.1[b] := List.getElem?_eq_getElem hb
      have h3 := hk.1 b _ e
      refine ⟨(k.1.set b (max k.1[b].1 (f2 - g2), k.1[b].2), k.2), by simp only [sasm, e]; rw [if_pos (by omega)], sset_ok hk ?_ h3.2, List.length_set⟩
      show max _ _ ≤ σ b
      omega
  | some a =>
    have ha : a < k.1.length := hf
    have ea : k.1[a]? = some k.1[a] := List.getElem?_eq_getElem ha
    have h3 := hk.1 a _ ea
    cases g1 with
    | none =>
      have hle : σ a + f2 ≤ g2 := hle
      refine ⟨(k.1.set a (k.1[a].1, min k.1[a].2 (g2 - f2)), k.2), by simp only [sasm, ea]; rw [if_pos (by omega)], sset_ok hk h3.1 ?_, List.length_set⟩
      show σ a ≤ min _ _
      omega
    | some b =>
      have hb : b < k.1.length := hg
      have eb : k.1[b]? = some k.1[b] := List.getElem?_eq_getElem hb
      have h4 := hk.1 b _ eb
      have hle : σ a + f2 ≤ σ b + g2 := hle
      by_cases hab : a = b
      · subst hab
        exact ⟨k, by show (if a = a then (if f2 ≤ g2 then some k else none) else _) = some k; rw [if_pos rfl, if_pos (by omega)], hk, rfl⟩
      · have hany : (k.2.1.any (fun t => t.1 == a && t.2.1 == b && decide (-(f2 - g2) < t.2.2))) = false := by
          rw [List.any_eq_false]
          intro t ht hc
          simp only [Bool.and_eq_true, beq_iff_eq, decide_eq_true_eq] at hc
          obtain ⟨⟨e1, e2⟩, e3⟩ := hc
          have h5 := (hk.2.1 t ht).2.2
          rw [e1, e2] at h5
          omega
        refine ⟨((k.1.set a (k.1[a].1, min k.1[a].2 (k.1[b].2 - (f2 - g2)))).set b (max k.1[b].1 (k.1[a].1 + (f2 - g2)), k.1[b].2), (b, a, f2 - g2) :: k.2.1, k.2.2), by simp only [sasm, ea, eb]; rw [if_neg hab, if_pos ⟨by omega, hany⟩], ?_, by simp⟩
        have s1 : sKok (k.1.set a (k.1[a].1, min k.1[a].2 (k.1[b].2 - (f2 - g2))), k.2) σ h := sset_ok hk h3.1 (by show σ a ≤ min _ _; omega)
        have s2 := sset_ok s1 (a := b) (iv := (max k.1[b].1 (k.1[a].1 + (f2 - g2)), k.1[b].2)) (by show max _ _ ≤ σ b; omega) h4.2
        obtain ⟨c1, c2, c3⟩ := s2
        refine ⟨c1, fun t ht => ?_, c3⟩
        rcases List.mem_cons.mp ht with e | ht
        · subst e
          refine ⟨by simpa using hb, by simpa using ha, ?_⟩
          show f2 - g2 ≤ σ b - σ a
          omega
        · exact c2 t ht
/-- assume f ≠ g -/
def sne (k : sK) (f g : sF) : Option sK := match f.1, g.1 with
  | none, none => if f.2 = g.2 then none else some k
  | some a, none => (match k.1[a]? with
    | some iv => if iv.1 = g.2 - f.2 then (if iv.2 = iv.1 then none else some (k.1.set a (iv.1 + 1, iv.2), k.2)) else if iv.2 = g.2 - f.2 then some (k.1.set a (iv.1, iv.2 - 1), k.2) else some k
    | none => some k)
  | _, _ => some k
theorem sne_ok {k : sK} {σ : Nat → Int} {h : zH} {f g : sF} (hk : sKok k σ h) (hne : sval σ f ≠ sval σ g) : ∃ k', sne k f g = some k' ∧ sKok k' σ h ∧ k'.1.length = k.1.length := by
  obtain ⟨f1, f2⟩ := f
  obtain ⟨g1, g2⟩ := g
  cases f1 with
  | none =>
    cases g1 with
    | none =>
      have hne : f2 ≠ g2 := hne
      exact ⟨k, by simp only [sne]; rw [if_neg hne], hk, rfl⟩
    | some b => exact ⟨k, rfl, hk, rfl⟩
  | some a =>
    cases g1 with
    | none =>
      have hne : σ a + f2 ≠ g2 := hne
      cases ea : k.1[a]? with
      | none => exact ⟨k, by simp only [sne, ea], hk, rfl⟩
      | some iv =>
        have h3 := hk.1 a _ ea
        by_cases e1 : iv.1 = g2 - f2
        · by_cases e2 : iv.2 = iv.1
          · exact absurd (by omega) hne
          · exact ⟨(k.1.set a (iv.1 + 1, iv.2), k.2), by simp only [sne, ea]; rw [if_pos e1, if_neg e2], sset_ok hk (by show iv.1 + 1 ≤ σ a; omega) h3.2, List.length_set⟩
        · by_cases e2 : iv.2 = g2 - f2
          · exact ⟨(k.1.set a (iv.1, iv.2 - 1), k.2), by simp only [sne, ea]; rw [if_neg e1, if_pos e2], sset_ok hk h3.1 (by show σ a ≤ iv.2 - 1; omega), List.length_set⟩
          · exact ⟨k, by simp only [sne, ea]; rw [if_neg e1, if_neg e2], hk, rfl⟩
    | some b => exact ⟨k, rfl, hk, rfl⟩
/-- differences: what is known of f - g -/
def sdlo (D : sD) (a b : Nat) (z : Int) : Int := D.foldl (fun m t => if t.1 = a ∧ t.2.1 = b ∧ m < t.2.2 then t.2.2 else m) z
theorem sdlo_ok {σ : Nat → Int} {a b : Nat} : ∀ (D : sD) (z : Int), (∀ t ∈ D, t.2.2 ≤ σ t.1 - σ t.2.1) → z ≤ σ a - σ b → sdlo D a b z ≤ σ a - σ b
  | [], _, _, h => h
  | t :: D, z, hD, h => by
    show sdlo D a b (if t.1 = a ∧ t.2.1 = b ∧ z < t.2.2 then t.2.2 else z) ≤ _
    refine sdlo_ok D _ (fun t' ht' => hD t' (List.mem_cons_of_mem _ ht')) ?_
    split
    · rename_i hc
      have h1 := hD t List.mem_cons_self
      rw [hc.1, hc.2.1] at h1
      exact h1
    · exact h
def ssub (k : sK) (f g : sF) (C : sF → sK → Bool) : Bool :=
  match g.1 with
  | none => if sin32 ((siv k f).1 - g.2, (siv k f).2 - g.2) = true then C (f.1, f.2 - g.2) k else snew k sFull C
  | some b => (match f.1 with
    | none => if sin32 (f.2 - (siv k g).2, f.2 - (siv k g).1) = true then snew k (f.2 - (siv k g).2, f.2 - (siv k g).1) C else snew k sFull C
    | some a => if a = b then (if sin32 (f.2 - g.2, f.2 - g.2) = true then C (none, f.2 - g.2) k else snew k sFull C) else
      if sin32 (sdlo k.2.1 a b ((siv k f).1 - f.2 - ((siv k g).2 - g.2)) + (f.2 - g.2), f.2 - g.2 - sdlo k.2.1 b a ((siv k g).1 - g.2 - ((siv k f).2 - f.2))) = true then
        snew k (sdlo k.2.1 a b ((siv k f).1 - f.2 - ((siv k g).2 - g.2)) + (f.2 - g.2), f.2 - g.2 - sdlo k.2.1 b a ((siv k g).1 - g.2 - ((siv k f).2 - f.2))) C else snew k sFull C)
theorem ssub_ok {k : sK} {σ : Nat → Int} {h : zH} {f g : sF} {C : sF → sK → Bool} {x y : Int32} (hc : ssub k f g C = true) (hk : sKok k σ h) (hf : sR k.1.length σ f x) (hg : sR k.1.length σ g y) : sO k σ h C (x - y) := by
  have a1 := siv_ok hk hf
  have a2 := siv_ok hk hg
  have key : ∀ lo hi : Int, sin32 (lo, hi) = true → lo ≤ x.toInt - y.toInt → x.toInt - y.toInt ≤ hi → (x - y).toInt = x.toInt - y.toInt := by
    intro lo hi h1 h2 h3
    rw [Int32.toInt_sub]
    exact sin32_bmod h1 h2 h3
  obtain ⟨f1, f2⟩ := f
  obtain ⟨g1, g2⟩ := g
  obtain ⟨wf1, ef⟩ := hf
  obtain ⟨wg1, eg⟩ := hg
  unfold ssub at hc
  cases g1 with
  | none =>
    have eg : y.toInt = g2 := eg
    simp only at hc
    split at hc
    · rename_i hin
      have e := key _ _ hin (by omega) (by omega)
      refine sO.same hc hk wf1 ?_
      rw [e, ef, eg]
      cases f1 with
      | none => rfl
      | some a =>
        show σ a + f2 - g2 = σ a + (f2 - g2)
        omega
    · exact snew_ok hc hk (sFull_ok _).1 (sFull_ok _).2
  | some b =>
    have eg : y.toInt = σ b + g2 := eg
    cases f1 with
    | none =>
      have ef : x.toInt = f2 := ef
      simp only at hc
      split at hc
      · rename_i hin
        have e := key _ _ hin (by omega) (by omega)
        exact snew_ok hc hk (by rw [e]; show f2 - _ ≤ _; omega) (by rw [e]; show _ ≤ f2 - _; omega)
      · exact snew_ok hc hk (sFull_ok _).1 (sFull_ok _).2
    | some a =>
      have ef : x.toInt = σ a + f2 := ef
      simp only at hc
      split at hc
      · rename_i hab
        subst hab
        split at hc
        · rename_i hin
          have e := key _ _ hin (by omega) (by omega)
          refine sO.same (f := (none, f2 - g2)) hc hk trivial ?_
          show (x - y).toInt = f2 - g2
          omega
        · exact snew_ok hc hk (sFull_ok _).1 (sFull_ok _).2
      · have d1 := sdlo_ok (σ := σ) (a := a) (b := b) k.2.1 ((siv k (some a, f2)).1 - f2 - ((siv k (some b, g2)).2 - g2)) (fun t ht => (hk.2.1 t ht).2.2) (by omega)
        have d2 := sdlo_ok (σ := σ) (a := b) (b := a) k.2.1 ((siv k (some b, g2)).1 - g2 - ((siv k (some a, f2)).2 - f2)) (fun t ht => (hk.2.1 t ht).2.2) (by omega)
        split at hc
        · rename_i hin
          have e := key _ _ hin (by omega) (by omega)
          exact snew_ok hc hk (by rw [e]; show _ + (f2 - g2) ≤ _; omega) (by rw [e]; show _ ≤ f2 - g2 - _; omega)
        · exact snew_ok hc hk (sFull_ok _).1 (sFull_ok _).2

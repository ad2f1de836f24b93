/-! the worlds behind the constructors -/
def sivB (iv : Int × Int) (x : Int32) : Bool := decide (iv.1 ≤ x.toInt) && decide (x.toInt ≤ iv.2)
def sinvC (w : sW) (h : zH) (q : Nat) : Bool := match w.1[q]? with
  | some (0, ci) => (List.range (zNF ci)).all (fun k => sivB (w.2.2.1 q k) (h.2.1 q k) && ((w.2.1 q k).isEmpty || (match h.2.2.2 q k with
    | some r => (w.2.1 q k).contains r
    | none => false)))
  | some (_, n) => (w.2.2.2.1 q).all (fun s => decide (s.1 ≤ n)) && (List.range n).all (fun k => sivB (sgAt (w.2.2.2.1 q) k) (h.2.1 q k))
  | none => true
theorem sgAt_hi : ∀ {S : sSg} {n k : Nat}, S.all (fun s => decide (s.1 ≤ n)) = true → n ≤ k → sgAt S k = sf32
  | [], _, _, _, _ => rfl
  | s :: r, n, k, h, hk => by
    simp only [List.all_cons, Bool.and_eq_true, decide_eq_true_eq] at h
    simp only [sgAt]
    rw [if_neg (by omega)]
    exact sgAt_hi h.2 hk
theorem sivB_ok {iv : Int × Int} {x : Int32} (h : sivB iv x = true) : iv.1 ≤ x.toInt ∧ x.toInt ≤ iv.2 := by
  simp only [sivB, Bool.and_eq_true, decide_eq_true_eq] at h
  exact h
theorem sinv_of {w : sW} {h : zH} (h1 : h.1 = w.1) (hb : (List.range w.1.length).all (sinvC w h) = true) (hO : ∀ q ci k, w.1[q]? = some (0, ci) → zNF ci ≤ k → w.2.2.1 q k = sf32) (hA : ∀ q k, w.2.1 q k ≠ [] → ∃ ci, w.1[q]? = some (0, ci) ∧ k < zNF ci) (hI : ∀ q, w.1.length ≤ q → w.2.2.2.1 q = []) (hm : ∀ m ∈ w.2.2.2.2.1, sImp m h) : sInv w h := by
  have hq : ∀ q s, w.1[q]? = some s → sinvC w h q = true := fun q s hs => List.all_eq_true.mp hb q (List.mem_range.mpr (List.getElem?_eq_some_iff.mp hs).1)
  refine ⟨h1, fun q k hne => ?_, fun q k => ?_, hm⟩
  · obtain ⟨ci, e, hk⟩ := hA q k hne
    have h2 := hq q _ e
    simp only [sinvC, e] at h2
    have h3 := List.all_eq_true.mp h2 k (List.mem_range.mpr hk)
    simp only [Bool.and_eq_true, Bool.or_eq_true, List.isEmpty_iff] at h3
    rcases h3.2 with h4 | h4
    · exact absurd h4 hne
    · split at h4
      · rename_i r er
        exact ⟨r, List.contains_iff_mem.mp h4, er⟩
      · cases h4
  · cases hs : w.1[q]? with
    | none =>
      have e : sIv w q k = sf32 := by
        unfold sIv
        rw [hs]
        show sgAt (w.2.2.2.1 q) k = sf32
        rw [hI q (List.getElem?_eq_none_iff.mp hs)]
        rfl
      rw [e]
      exact sf32_ok _
    | some s =>
      obtain ⟨t, n⟩ := s
      have h2 := hq q _ hs
      cases t with
      | zero =>
        rw [sIvO hs]
        by_cases hk : k < zNF n
        · simp only [sinvC, hs] at h2
          have h3 := List.all_eq_true.mp h2 k (List.mem_range.mpr hk)
          simp only [Bool.and_eq_true] at h3
          exact sivB_ok h3.1
        · rw [hO q n k hs (by omega)]
          exact sf32_ok _
      | succ t =>
        rw [sIvA hs (Nat.succ_ne_zero t)]
        simp only [sinvC, hs, Bool.and_eq_true] at h2
        by_cases hk : k < n
        · exact sivB_ok (List.all_eq_true.mp h2.2 k (List.mem_range.mpr hk))
        · rw [sgAt_hi h2.1 (by omega)]
          exact sf32_ok _
theorem zgetD {α : Type} {l : List α} {k : Nat} {d : α} (h : l.length ≤ k) : l.getD k d = d := by
  simp [List.getD, List.getElem?_eq_none h]
/-- rows no longer than the cells -/
def srowB (sh : List zSh) (A : Lean.RArray (List (List Nat))) (O : Lean.RArray (List (Int × Int))) : Bool := (List.range sh.length).all (fun q => match sh[q]? with
  | some (0, ci) => decide ((A.get q).length ≤ zNF ci) && decide ((O.get q).length ≤ zNF ci)
  | _ => (A.get q).isEmpty)
theorem srowC : srowB zshC swCA swCO = true := by decide +kernel
theorem srowM : srowB zshM swMA swMO = true := by decide +kernel
theorem srow_O {sh : List zSh} {A : Lean.RArray (List (List Nat))} {O : Lean.RArray (List (Int × Int))} (h : srowB sh A O = true) {q ci k : Nat} (hs : sh[q]? = some (0, ci)) (hk : zNF ci ≤ k) : (O.get q).getD k sf32 = sf32 := by
  have h1 := List.all_eq_true.mp h q (List.mem_range.mpr (List.getElem?_eq_some_iff.mp hs).1)
  simp only [hs, Bool.and_eq_true, decide_eq_true_eq] at h1
  exact zgetD (by omega)
theorem srow_A {sh : List zSh} {A : Lean.RArray (List (List Nat))} {O : Lean.RArray (List (Int × Int))} (h : srowB sh A O = true) {q k : Nat} (hne : (if q < sh.length then (A.get q).getD k [] else []) ≠ []) : ∃ ci, sh[q]? = some (0, ci) ∧ k < zNF ci := by
  by_cases hq : q < sh.length
  · rw [if_pos hq] at hne
    have h1 := List.all_eq_true.mp h q (List.mem_range.mpr hq)
    have hlt : k < (A.get q).length := by
      by_cases hk : k < (A.get q).length
      · exact hk
      · exact absurd (zgetD (by omega)) hne
    rw [List.getElem?_eq_getElem hq] at h1 ⊢
    split at h1
    · rename_i ci e
      simp only [Bool.and_eq_true, decide_eq_true_eq] at h1
      exact ⟨ci, e, by omega⟩
    · rw [List.isEmpty_iff.mp h1] at hlt
      exact absurd hlt (Nat.not_lt_zero _)
  · rw [if_neg hq] at hne
    exact absurd rfl hne
theorem sInvC0 : sInv swC zhC := by
  have hl : zshC.length = 98 := by decide
  refine sinv_of rfl (by decide +kernel) (fun q ci k hs hk => srow_O srowC hs hk) (fun q k hne => srow_A (O := swCO) srowC (by rw [hl]; exact hne)) (fun q hq => ?_) (fun m hm => by cases hm)
  show (if q < 98 then swCI.get q else []) = []
  exact if_neg (by have : 98 ≤ q := hq; omega)
def simpB (m : sIm) (h : zH) : Bool := (List.range m.2.2.2.2.2.1).all (fun i => !(decide (i % m.2.2.2.2.2.2 = 0) && (decide (m.2.2.2.1.1 ≤ (h.2.1 m.1 i).toInt) && decide ((h.2.1 m.1 i).toInt ≤ m.2.2.2.1.2))) || (decide (m.2.2.2.2.1.1 ≤ (h.2.1 m.2.1 (i + m.2.2.1)).toInt) && decide ((h.2.1 m.2.1 (i + m.2.2.1)).toInt ≤ m.2.2.2.2.1.2)))
theorem simpB_ok {m : sIm} {h : zH} (hb : simpB m h = true) : sImp m h := by
  intro i hi hd h1 h2
  have h3 := List.all_eq_true.mp hb i (List.mem_range.mpr hi)
  simp only [Bool.or_eq_true, Bool.and_eq_true, Bool.not_eq_true', Bool.and_eq_false_iff, decide_eq_true_eq, decide_eq_false_iff_not] at h3
  rcases h3 with h3 | h3
  · rcases h3 with h3 | h3 | h3
    · exact absurd hd h3
    · exact absurd h1 h3
    · exact absurd h2 h3
  · exact h3
theorem sInvM0 : sInv swM zhM := by
  have hl : zshM.length = 44 := by decide
  refine sinv_of rfl (by decide +kernel) (fun q ci k hs hk => srow_O srowM hs hk) (fun q k hne => srow_A (O := swMO) srowM (by rw [hl]; exact hne)) (fun q hq => ?_) (fun m hm => ?_)
  · show (if q < 44 then swMI.get q else []) = []
    exact if_neg (by have : 44 ≤ q := hq; omega)
  · have hb : swM.2.2.2.2.1.all (fun m => simpB m zhM) = true := by decide +kernel
    exact simpB_ok (List.all_eq_true.mp hb m hm)

/-! for the pieces that rel.py prints -/
theorem locI {lo : zL} {j : Nat} {iv : Int × Int} {V : Nat → Int} {e : sLn} (h1 : ∃ v, zget lo j = some v ∧ sTok (.inl iv) v) (h2 : ∃ v, zget lo j = some v ∧ vI v = lnv V e) : ∃ x : Int32, zget lo j = some (.int x) ∧ x.toInt = lnv V e := by
  obtain ⟨v, e1, x, rfl, -⟩ := h1
  obtain ⟨v2, e2, e3⟩ := h2
  rw [e1] at e2
  cases e2
  exact ⟨x, e1, e3⟩
theorem locR {lo : zL} {j q : Nat} (h1 : ∃ v, zget lo j = some v ∧ sTok (.inr (.inl q)) v) : zget lo j = some (.ref q) := by
  obtain ⟨v, e1, e2⟩ := h1
  rw [e1, show v = .ref q from e2]
theorem ansI {iv : Int × Int} {r : Option Value} {V : Nat → Int} {e : sLn} (h1 : sTO (some (.inl iv)) r) (h2 : ∃ v, r.toList[0]? = some v ∧ vI v = lnv V e) : ∃ x : Int32, r = some (.int x) ∧ x.toInt = lnv V e := by
  obtain ⟨v, rfl, x, rfl, -⟩ := h1
  obtain ⟨v2, e2, e3⟩ := h2
  cases e2
  exact ⟨x, rfl, e3⟩
def zI (lo : zL) (j : Nat) (v : Int) : Prop := ∃ x : Int32, zget lo j = some (.int x) ∧ x.toInt = v
def zJ (lo : zL) (j : Nat) (v : Int) : Prop := ∃ x : Int64, zget lo j = some (.long x) ∧ x.toInt = v
def pL (h : zH) (q j : Nat) : Int := (h.2.2.1 q j).toInt
theorem zIm {lo : zL} {j : Nat} {v a b : Int} (h : zI lo j v) (h1 : a ≤ v) (h2 : v ≤ b) : ∃ x : Int32, zget lo j = some (.int x) ∧ x.toInt = v ∧ a ≤ v ∧ v ≤ b := by
  obtain ⟨x, e1, e2⟩ := h
  exact ⟨x, e1, e2, h1, h2⟩
theorem zJm {lo : zL} {j : Nat} {v a b : Int} (h : zJ lo j v) (h1 : a ≤ v) (h2 : v ≤ b) : ∃ x : Int64, zget lo j = some (.long x) ∧ x.toInt = v ∧ a ≤ v ∧ v ≤ b := by
  obtain ⟨x, e1, e2⟩ := h
  exact ⟨x, e1, e2, h1, h2⟩
theorem zI_of {lo : zL} {j : Nat} {iv : Int × Int} {V : Nat → Int} {e : sLn} {b : Int} (h1 : ∃ v, zget lo j = some v ∧ sTok (.inl iv) v) (h2 : ∃ v, zget lo j = some v ∧ vI v = lnv V e) (eb : lnv V e = b) : zI lo j b := by
  obtain ⟨x, e1, e2⟩ := locI h1 h2
  exact ⟨x, e1, e2.trans eb⟩
theorem zJ_of {lo : zL} {j : Nat} {iv : Int × Int} {V : Nat → Int} {e : sLn} {b : Int} (h1 : ∃ v, zget lo j = some v ∧ sTok (.inr (.inr iv)) v) (h2 : ∃ v, zget lo j = some v ∧ vI v = lnv V e) (eb : lnv V e = b) : zJ lo j b := by
  obtain ⟨v, e1, x, rfl, -⟩ := h1
  obtain ⟨v2, e2, e3⟩ := h2
  rw [e1] at e2
  cases e2
  exact ⟨x, e1, e3.trans eb⟩
theorem ansJ {iv : Int × Int} {r : Option Value} {V : Nat → Int} {e : sLn} (h1 : sTO (some (.inr (.inr iv))) r) (h2 : ∃ v, r.toList[0]? = some v ∧ vI v = lnv V e) : ∃ x : Int64, r = some (.long x) ∧ x.toInt = lnv V e := by
  obtain ⟨v, rfl, x, rfl, -⟩ := h1
  obtain ⟨v2, e2, e3⟩ := h2
  cases e2
  exact ⟨x, rfl, e3⟩
theorem zall_r {n : Nat} {f : Nat → Bool} (h : (List.range n).all f = true) {k : Nat} (hk : k < n) : f k = true := List.all_eq_true.mp h k (List.mem_range.mpr hk)
theorem sgfn_c {c : Nat} {a b a' b' : Int} (h1 : a = a') (h2 : b = b') : sgfn c a b = sgfn c a' b' := by rw [h1, h2]

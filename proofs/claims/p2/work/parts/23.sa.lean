/-! A symbolic executor. An int is a symbol and a constant. Known: intervals of the symbols, differences of two, what places of the world hold. -/
abbrev sF : Type := Option Nat × Int
/-- an int, a cell of the world, a thing from outside, some long (true: not 0) -/
abbrev sV : Type := sF ⊕ (Nat ⊕ (Nat ⊕ Bool))
abbrev sE : Type := List (Int × Int)
abbrev sD : Type := List (Nat × Nat × Int)
abbrev sC : Type := List (Nat × sF × sF)
abbrev sK : Type := sE × sD × sC
abbrev sL : Type := List (Nat × sV)
def sval (σ : Nat → Int) (f : sF) : Int := match f.1 with
  | none => f.2
  | some n => σ n + f.2
def swf (n : Nat) (f : sF) : Prop := match f.1 with
  | none => True
  | some k => k < n
def sR (n : Nat) (σ : Nat → Int) (f : sF) (x : Int32) : Prop := swf n f ∧ x.toInt = sval σ f
def sVR (n : Nat) (σ : Nat → Int) : sV → Value → Prop
  | .inl f, v => ∃ x, v = .int x ∧ sR n σ f x
  | .inr (.inl q), v => v = .ref q
  | .inr (.inr (.inl j)), v => v = .retAddr j
  | .inr (.inr (.inr b)), v => ∃ x, v = .long x ∧ (b = true → x ≠ 0)
def sSR (n : Nat) (σ : Nat → Int) : List sV → List Value → Prop
  | [], l => l = []
  | a :: r, l => ∃ v t, l = v :: t ∧ sVR n σ a v ∧ sSR n σ r t
def sLR (n : Nat) (σ : Nat → Int) : sL → zL → Prop
  | [], l => l = []
  | a :: r, l => ∃ v t, l = (a.1, v) :: t ∧ sVR n σ a.2 v ∧ sLR n σ r t
/-- more symbols -/
def sX (n : Nat) (σ : Nat → Int) (n' : Nat) (σ' : Nat → Int) : Prop := n ≤ n' ∧ ∀ k, k < n → σ' k = σ k
def sKok (k : sK) (σ : Nat → Int) (h : zH) : Prop :=
  (∀ i iv, k.1[i]? = some iv → iv.1 ≤ σ i ∧ σ i ≤ iv.2) ∧ (∀ t ∈ k.2.1, t.1 < k.1.length ∧ t.2.1 < k.1.length ∧ t.2.2 ≤ σ t.1 - σ t.2.1) ∧
  (∀ t ∈ k.2.2, swf k.1.length t.2.1 ∧ swf k.1.length t.2.2 ∧ (h.2.1 t.1 (sval σ t.2.1).toNat).toInt = sval σ t.2.2)
theorem sX.rf {n : Nat} {σ : Nat → Int} : sX n σ n σ := ⟨Nat.le_refl _, fun _ _ => rfl⟩
theorem sX.tr {n n' n'' : Nat} {σ σ' σ'' : Nat → Int} (h1 : sX n σ n' σ') (h2 : sX n' σ' n'' σ'') : sX n σ n'' σ'' :=
  ⟨Nat.le_trans h1.1 h2.1, fun k hk => (h2.2 k (Nat.lt_of_lt_of_le hk h1.1)).trans (h1.2 k hk)⟩
theorem swf.x {n n' : Nat} {σ σ' : Nat → Int} {f : sF} (hx : sX n σ n' σ') (h : swf n f) : swf n' f ∧ sval σ' f = sval σ f := by
  obtain ⟨o, c⟩ := f
  cases o with
  | none => exact ⟨trivial, rfl⟩
  | some k =>
    have hk : k < n := h
    refine ⟨Nat.lt_of_lt_of_le hk hx.1, ?_⟩
    show σ' k + c = σ k + c
    rw [hx.2 k hk]
theorem sR.x {n n' : Nat} {σ σ' : Nat → Int} {f : sF} {x : Int32} (hx : sX n σ n' σ') (h : sR n σ f x) : sR n' σ' f x := by
  obtain ⟨h1, h2⟩ := h
  obtain ⟨g1, g2⟩ := h1.x hx
  exact ⟨g1, h2.trans g2.symm⟩
theorem sVR.x {n n' : Nat} {σ σ' : Nat → Int} (hx : sX n σ n' σ') : ∀ {a : sV} {v : Value}, sVR n σ a v → sVR n' σ' a v
  | .inl _, _, ⟨x, e, h⟩ => ⟨x, e, h.x hx⟩
  | .inr (.inl _), _, h => h
  | .inr (.inr (.inl _)), _, h => h
  | .inr (.inr (.inr _)), _, h => h
theorem sSR.x {n n' : Nat} {σ σ' : Nat → Int} (hx : sX n σ n' σ') : ∀ {a : List sV} {v : List Value}, sSR n σ a v → sSR n' σ' a v
  | [], _, h => h
  | _ :: _, _, ⟨v, t, e, h1, h2⟩ => ⟨v, t, e, h1.x hx, sSR.x hx h2⟩
theorem sLR.x {n n' : Nat} {σ σ' : Nat → Int} (hx : sX n σ n' σ') : ∀ {a : sL} {v : zL}, sLR n σ a v → sLR n' σ' a v
  | [], _, h => h
  | _ :: _, _, ⟨v, t, e, h1, h2⟩ => ⟨v, t, e, h1.x hx, sLR.x hx h2⟩
def sFull : Int × Int := (-2147483648, 2147483647)
def siv (k : sK) (f : sF) : Int × Int := match f.1 with
  | none => (f.2, f.2)
  | some n => (match k.1[n]? with
    | some iv => (iv.1 + f.2, iv.2 + f.2)
    | none => sFull)
theorem sFull_ok (x : Int32) : sFull.1 ≤ x.toInt ∧ x.toInt ≤ sFull.2 := by
  have h1 := Int32.le_toInt x
  have h2 := Int32.toInt_lt x
  constructor
  · show -2147483648 ≤ x.toInt
    omega
  · show x.toInt ≤ 2147483647
    omega
theorem siv_ok {k : sK} {σ : Nat → Int} {h : zH} {f : sF} {x : Int32} (hk : sKok k σ h) (hf : sR k.1.length σ f x) : (siv k f).1 ≤ x.toInt ∧ x.toInt ≤ (siv k f).2 := by
  obtain ⟨o, c⟩ := f
  obtain ⟨h1, h2⟩ := hf
  cases o with
  | none =>
    have h2 : x.toInt = c := h2
    show c ≤ x.toInt ∧ x.toInt ≤ c
    omega
  | some n =>
    have hn : n < k.1.length := h1
    have h2 : x.toInt = σ n + c := h2
    have e : k.1[n]? = some k.1[n] := List.getElem?_eq_getElem hn
    have h3 := hk.1 n _ e
    simp only [siv, e]
    omega
def sfr (k : sK) (iv : Int × Int) : sK := (k.1 ++ [iv], k.2)
theorem sfr_ok {k : sK} {σ : Nat → Int} {h : zH} (hk : sKok k σ h) (iv : Int × Int) (x : Int32) (h1 : iv.1 ≤ x.toInt) (h2 : x.toInt ≤ iv.2) :
    ∃ σ', sKok (sfr k iv) σ' h ∧ sX k.1.length σ (sfr k iv).1.length σ' ∧ sR (sfr k iv).1.length σ' (some k.1.length, 0) x := by
  have hl : (sfr k iv).1.length = k.1.length + 1 := by simp [sfr]
  refine ⟨fun n => if n = k.1.length then x.toInt else σ n, ?_⟩
  have hx : sX k.1.length σ (sfr k iv).1.length (fun n => if n = k.1.length then x.toInt else σ n) := ⟨by omega, fun n hn => if_neg (Nat.ne_of_lt hn)⟩
  obtain ⟨a1, a2, a3⟩ := hk
  refine ⟨⟨fun i jv hi => ?_, fun t ht => ?_, fun t ht => ?_⟩, hx, ?_, ?_⟩
  · by_cases hi2 : i < k.1.length
    · have e : (k.1 ++ [iv])[i]? = k.1[i]? := List.getElem?_append_left hi2
      have e2 : (k.1 ++ [iv])[i]? = some jv := hi
      rw [e] at e2
      have h3 := a1 i jv e2
      show jv.1 ≤ (if i = k.1.length then x.toInt else σ i) ∧ (if i = k.1.length then x.toInt else σ i) ≤ jv.2
      rw [if_neg (Nat.ne_of_lt hi2)]
      exact h3
    · have e2 : (k.1 ++ [iv])[i]? = some jv := hi
      rw [List.getElem?_append_right (by omega)] at e2
      have hz : i - k.1.length < 1 := (List.getElem?_eq_some_iff.mp e2).1
      have e3 : i = k.1.length := by omega
      subst e3
      rw [Nat.sub_self] at e2
      cases e2
      show iv.1 ≤ (if k.1.length = k.1.length then x.toInt else _) ∧ (if k.1.length = k.1.length then x.toInt else _) ≤ iv.2
      rw [if_pos rfl]
      exact ⟨h1, h2⟩
  · obtain ⟨b1, b2, b3⟩ := a2 t ht
    refine ⟨by omega, by omega, ?_⟩
    rw [hx.2 _ b1, hx.2 _ b2]
    exact b3
  · obtain ⟨b1, b2, b3⟩ := a3 t ht
    obtain ⟨c1, c2⟩ := b1.x hx
    obtain ⟨d1, d2⟩ := b2.x hx
    exact ⟨c1, d1, by rw [c2, d2]; exact b3⟩
  · show k.1.length < (sfr k iv).1.length
    omega
  · show x.toInt = (if k.1.length = k.1.length then x.toInt else _) + 0
    rw [if_pos rfl, Int.add_zero]
/-- what an operation gives: a new form, more known -/
def sO (k : sK) (σ : Nat → Int) (h : zH) (C : sF → sK → Bool) (z : Int32) : Prop := ∃ (f' : sF) (k' : sK) (σ' : Nat → Int), C f' k' = true ∧ sKok k' σ' h ∧ sX k.1.length σ k'.1.length σ' ∧ sR k'.1.length σ' f' z
def snew (k : sK) (iv : Int × Int) (C : sF → sK → Bool) : Bool := C (some k.1.length, 0) (sfr k iv)
theorem snew_ok {k : sK} {σ : Nat → Int} {h : zH} {iv : Int × Int} {C : sF → sK → Bool} {z : Int32} (hc : snew k iv C = true) (hk : sKok k σ h) (h1 : iv.1 ≤ z.toInt) (h2 : z.toInt ≤ iv.2) : sO k σ h C z := by
  obtain ⟨σ', a, b, c⟩ := sfr_ok hk iv z h1 h2
  exact ⟨_, _, σ', hc, a, b, c⟩
def sin32 (iv : Int × Int) : Bool := decide (-2147483648 ≤ iv.1) && decide (iv.2 ≤ 2147483647)
theorem sin32_bmod {iv : Int × Int} {x : Int} (h : sin32 iv = true) (h1 : iv.1 ≤ x) (h2 : x ≤ iv.2) : x.bmod (2 ^ 32) = x := by
  simp only [sin32, Bool.and_eq_true, decide_eq_true_eq] at h
  rw [Int.bmod_eq_of_le] <;> omega
/-- a form that holds the value already -/
theorem sO.same {k : sK} {σ : Nat → Int} {h : zH} {C : sF → sK → Bool} {z : Int32} {f : sF} (hc : C f k = true) (hk : sKok k σ h) (hw : swf k.1.length f) (hz : z.toInt = sval σ f) : sO k σ h C z := ⟨f, k, σ, hc, hk, sX.rf, hw, hz⟩
def sadd (k : sK) (f g : sF) (C : sF → sK → Bool) : Bool :=
  let iv := ((siv k f).1 + (siv k g).1, (siv k f).2 + (siv k g).2)
  if sin32 iv = true then (match f.1, g.1 with
    | none, b => C (b, f.2 + g.2) k
    | some a, none => C (some a, f.2 + g.2) k
    | some _, some _ => snew k iv C) else snew k sFull C
theorem sadd_ok {k : sK} {σ : Nat → Int} {h : zH} {f g : sF} {C : sF → sK → Bool} {x y : Int32} (hc : sadd k f g C = true) (hk : sKok k σ h) (hf : sR k.1.length σ f x) (hg : sR k.1.length σ g y) : sO k σ h C (x + y) := by
  have a1 := siv_ok hk hf
  have a2 := siv_ok hk hg
  unfold sadd at hc
  simp only at hc
  split at hc
  · rename_i hin
    have e : (x + y).toInt = x.toInt + y.toInt := by
      rw [Int32.toInt_add]
      exact sin32_bmod hin (by show (siv k f).1 + (siv k g).1 ≤ _; omega) (by show _ ≤ (siv k f).2 + (siv k g).2; omega)
    obtain ⟨f1, f2⟩ := f
    obtain ⟨g1, g2⟩ := g
    obtain ⟨wf1, ef⟩ := hf
    obtain ⟨wg1, eg⟩ := hg
    cases f1 with
    | none =>
      have ef : x.toInt = f2 := ef
      refine sO.same hc hk wg1 ?_
      rw [e, ef, eg]
      cases g1 with
      | none => rfl
      | some b =>
        show f2 + (σ b + g2) = σ b + (f2 + g2)
        omega
    | some a =>
      have ef : x.toInt = σ a + f2 := ef
      cases g1 with
      | none =>
        have eg : y.toInt = g2 := eg
        refine sO.same hc hk wf1 ?_
        show (x + y).toInt = σ a + (f2 + g2)
        omega
      | some b => exact snew_ok hc hk (by rw [e]; show (siv k _).1 + (siv k _).1 ≤ _; omega) (by rw [e]; show _ ≤ (siv k _).2 + (siv k _).2; omega)
  · exact snew_ok hc hk (sFull_ok _).1 (sFull_ok _).2

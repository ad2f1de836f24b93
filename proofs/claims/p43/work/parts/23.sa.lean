/-! A symbolic executor (the second). An int or a long is a symbol and a constant. Known: intervals of the symbols, differences of two, what places of the world hold, what references are. -/
abbrev sF : Type := Option Nat × Int
/-- an int, a cell of the world, a thing from outside, a long -/
abbrev sV : Type := sF ⊕ (Nat ⊕ (Nat ⊕ sF))
abbrev sE : Type := List (Int × Int)
abbrev sD : Type := List (Nat × Nat × Int)
/-- sums: the one, the other, their sum -/
abbrev sSm : Type := List (Nat × Nat × Nat)
abbrev sC : Type := List (Nat × sF × sF)
abbrev sQ : Type := List (Nat × Nat × Nat)
/-- what an operation gave (code, operands, result); code 9: two that are unlike -/
abbrev sGf : Type := Nat × sF × sF × sF
/-- the log (none: nothing is logged): operations, places of longs -/
abbrev sGl : Type := Option (List sGf × sC)
abbrev sK : Type := sE × (sD × sSm) × sC × sQ × sGl
abbrev sL : Type := List (Nat × sV)
def sval (σ : Nat → Int) (f : sF) : Int := match f.1 with
  | none => f.2
  | some n => σ n + f.2
def swf (n : Nat) (f : sF) : Prop := match f.1 with
  | none => True
  | some k => k < n
def sR (n : Nat) (σ : Nat → Int) (f : sF) (x : Int) : Prop := swf n f ∧ x = sval σ f
def sVR (n : Nat) (σ : Nat → Int) : sV → Value → Prop
  | .inl f, v => ∃ x, v = .int x ∧ sR n σ f x.toInt
  | .inr (.inl q), v => v = .ref q
  | .inr (.inr (.inl j)), v => v = .retAddr j
  | .inr (.inr (.inr f)), v => ∃ x, v = .long x ∧ sR n σ f x.toInt
def sSR (n : Nat) (σ : Nat → Int) : List sV → List Value → Prop
  | [], l => l = []
  | a :: r, l => ∃ v t, l = v :: t ∧ sVR n σ a v ∧ sSR n σ r t
def sLR (n : Nat) (σ : Nat → Int) : sL → zL → Prop
  | [], l => l = []
  | a :: r, l => ∃ v t, l = (a.1, v) :: t ∧ sVR n σ a.2 v ∧ sLR n σ r t
/-- more symbols -/
def sX (n : Nat) (σ : Nat → Int) (n' : Nat) (σ' : Nat → Int) : Prop := n ≤ n' ∧ ∀ k, k < n → σ' k = σ k
def sgfn (c : Nat) (a b : Int) : Int := match c with
  | 0 => (Int32.ofInt a ||| Int32.ofInt b).toInt
  | 1 => (Int32.ofInt a ^^^ Int32.ofInt b).toInt
  | 2 => (Int32.ofInt a &&& Int32.ofInt b).toInt
  | 3 => (Int32.ofInt a <<< (Int32.ofInt b &&& 31)).toInt
  | 4 => (Int32.ofInt a >>> (Int32.ofInt b &&& 31)).toInt
  | 5 => ((Int32.ofInt a).toUInt32 >>> ((Int32.ofInt b).toUInt32 &&& Int32.toUInt32 31)).toInt32.toInt
  | 6 => (Int32.ofInt a * Int32.ofInt b).toInt
  | 7 => (Int32.ofInt a / Int32.ofInt b).toInt
  | 8 => (Int32.ofInt a - Int32.ofInt a / Int32.ofInt b * Int32.ofInt b).toInt
  | 10 => (Int32.ofInt a).toInt8.toInt32.toInt
  | 11 => (Int64.ofInt a).toInt32.toInt
  | 12 => (Int64.ofInt a &&& Int64.ofInt b).toInt
  | 16 => (Int64.ofInt a * Int64.ofInt b).toInt
  | 17 => (Int64.ofInt a / Int64.ofInt b).toInt
  | 18 => (Int64.ofInt a - Int64.ofInt a / Int64.ofInt b * Int64.ofInt b).toInt
  | 19 => (Int64.ofInt a + Int64.ofInt b).toInt
  | 20 => (Int64.ofInt a - Int64.ofInt b).toInt
  | _ => 0
def sgT (n : Nat) (σ : Nat → Int) (t : sGf) : Prop := swf n t.2.1 ∧ swf n t.2.2.1 ∧ swf n t.2.2.2 ∧ (t.1 = 9 → sval σ t.2.1 ≠ sval σ t.2.2.1) ∧ (t.1 ≠ 9 → sval σ t.2.2.2 = sgfn t.1 (sval σ t.2.1) (sval σ t.2.2.1))
def sGk (n : Nat) (σ : Nat → Int) (h : zH) (G : sGl) : Prop := ∀ L, G = some L → (∀ t ∈ L.1, sgT n σ t) ∧ ∀ t ∈ L.2, swf n t.2.1 ∧ swf n t.2.2 ∧ (h.2.2.1 t.1 (sval σ t.2.1).toNat).toInt = sval σ t.2.2
def sKok (k : sK) (σ : Nat → Int) (h : zH) : Prop :=
  (∀ i iv, k.1[i]? = some iv → iv.1 ≤ σ i ∧ σ i ≤ iv.2) ∧ ((∀ t ∈ k.2.1.1, t.1 < k.1.length ∧ t.2.1 < k.1.length ∧ t.2.2 ≤ σ t.1 - σ t.2.1) ∧ ∀ t ∈ k.2.1.2, t.1 < k.1.length ∧ t.2.1 < k.1.length ∧ t.2.2 < k.1.length ∧ σ t.2.2 = σ t.1 + σ t.2.1) ∧
  (∀ t ∈ k.2.2.1, swf k.1.length t.2.1 ∧ swf k.1.length t.2.2 ∧ (h.2.1 t.1 (sval σ t.2.1).toNat).toInt = sval σ t.2.2) ∧ (∀ t ∈ k.2.2.2.1, h.2.2.2 t.1 t.2.1 = some t.2.2) ∧ sGk k.1.length σ h k.2.2.2.2
theorem sX.rf {n : Nat} {σ : Nat → Int} : sX n σ n σ := ⟨Nat.le_refl _, fun _ _ => rfl⟩
theorem sX.tr {n n' n'' : Nat} {σ σ' σ'' : Nat → Int} (h1 : sX n σ n' σ') (h2 : sX n' σ' n'' σ'') : sX n σ n'' σ'' :=
  ⟨Nat.le_trans h1.1 h2.1, fun k hk => (h2.2 k (Nat.lt_of_lt_of_le hk h1.1)).trans (h1.2 k hk)⟩
theorem swf.x {n n' : Nat} {σ σ' : Nat → Int} {f : sF} (hx : sX n σ n' σ') (h : swf n f) : swf n' f ∧ sval σ' f = sval σ f := by
  obtain ⟨o, c⟩ := f
  cases o with
  | none => exact ⟨trivial, rfl⟩
  | some k =>
    have hk : k < n := h
    refine ⟨Nat.lt_of_lt_of_le hk hx.1, ?_⟩
    show σ' k + c = σ k + c
    rw [hx.2 k hk]
theorem sgT.x {n n' : Nat} {σ σ' : Nat → Int} {t : sGf} (hx : sX n σ n' σ') (h : sgT n σ t) : sgT n' σ' t := by
  obtain ⟨h1, h2, h3, h4, h5⟩ := h
  obtain ⟨a1, a2⟩ := h1.x hx
  obtain ⟨b1, b2⟩ := h2.x hx
  obtain ⟨c1, c2⟩ := h3.x hx
  exact ⟨a1, b1, c1, by rw [a2, b2]; exact h4, by rw [a2, b2, c2]; exact h5⟩
theorem sGk.x {n n' : Nat} {σ σ' : Nat → Int} {h : zH} {G : sGl} (hx : sX n σ n' σ') (H : sGk n σ h G) : sGk n' σ' h G := fun L e => ⟨fun t ht => ((H L e).1 t ht).x hx, fun t ht => by
  obtain ⟨b1, b2, b3⟩ := (H L e).2 t ht
  obtain ⟨c1, c2⟩ := b1.x hx
  obtain ⟨d1, d2⟩ := b2.x hx
  exact ⟨c1, d1, by rw [c2, d2]; exact b3⟩⟩
theorem sGk.h {n : Nat} {σ : Nat → Int} {h h' : zH} {G : sGl} (e : h'.2.2.1 = h.2.2.1) (H : sGk n σ h G) : sGk n σ h' G := fun L eL => ⟨(H L eL).1, fun t ht => by
  rw [e]
  exact (H L eL).2 t ht⟩
theorem sR.x {n n' : Nat} {σ σ' : Nat → Int} {f : sF} {x : Int} (hx : sX n σ n' σ') (h : sR n σ f x) : sR n' σ' f x := by
  obtain ⟨h1, h2⟩ := h
  obtain ⟨g1, g2⟩ := h1.x hx
  exact ⟨g1, h2.trans g2.symm⟩
theorem sVR.x {n n' : Nat} {σ σ' : Nat → Int} (hx : sX n σ n' σ') : ∀ {a : sV} {v : Value}, sVR n σ a v → sVR n' σ' a v
  | .inl _, _, ⟨x, e, h⟩ => ⟨x, e, h.x hx⟩
  | .inr (.inl _), _, h => h
  | .inr (.inr (.inl _)), _, h => h
  | .inr (.inr (.inr _)), _, ⟨x, e, h⟩ => ⟨x, e, h.x hx⟩
theorem sSR.x {n n' : Nat} {σ σ' : Nat → Int} (hx : sX n σ n' σ') : ∀ {a : List sV} {v : List Value}, sSR n σ a v → sSR n' σ' a v
  | [], _, h => h
  | _ :: _, _, ⟨v, t, e, h1, h2⟩ => ⟨v, t, e, h1.x hx, sSR.x hx h2⟩
theorem sLR.x {n n' : Nat} {σ σ' : Nat → Int} (hx : sX n σ n' σ') : ∀ {a : sL} {v : zL}, sLR n σ a v → sLR n' σ' a v
  | [], _, h => h
  | _ :: _, _, ⟨v, t, e, h1, h2⟩ => ⟨v, t, e, h1.x hx, sLR.x hx h2⟩
def sf32 : Int × Int := (-2147483648, 2147483647)
def sf64 : Int × Int := (-9223372036854775808, 9223372036854775807)
theorem sf32_ok (x : Int32) : sf32.1 ≤ x.toInt ∧ x.toInt ≤ sf32.2 := by
  have h1 := Int32.le_toInt x
  have h2 := Int32.toInt_lt x
  constructor
  · show -2147483648 ≤ x.toInt
    omega
  · show x.toInt ≤ 2147483647
    omega
theorem sf64_ok (x : Int64) : sf64.1 ≤ x.toInt ∧ x.toInt ≤ sf64.2 := by
  have h1 := Int64.le_toInt x
  have h2 := Int64.toInt_lt x
  constructor
  · show -9223372036854775808 ≤ x.toInt
    omega
  · show x.toInt ≤ 9223372036854775807
    omega
def siv (k : sK) (f : sF) : Int × Int := match f.1 with
  | none => (f.2, f.2)
  | some n => (match k.1[n]? with
    | some iv => (iv.1 + f.2, iv.2 + f.2)
    | none => sf64)
theorem siv_ok {k : sK} {σ : Nat → Int} {h : zH} {f : sF} {x : Int} (hk : sKok k σ h) (hf : sR k.1.length σ f x) : (siv k f).1 ≤ x ∧ x ≤ (siv k f).2 := by
  obtain ⟨o, c⟩ := f
  obtain ⟨h1, h2⟩ := hf
  cases o with
  | none =>
    have h2 : x = c := h2
    show c ≤ x ∧ x ≤ c
    omega
  | some n =>
    have hn : n < k.1.length := h1
    have h2 : x = σ n + c := h2
    have e : k.1[n]? = some k.1[n] := List.getElem?_eq_getElem hn
    have h3 := hk.1 n _ e
    simp only [siv, e]
    omega
def sfr (k : sK) (iv : Int × Int) : sK := (k.1 ++ [iv], k.2)
theorem sfr_ok {k : sK} {σ : Nat → Int} {h : zH} (hk : sKok k σ h) (iv : Int × Int) (x : Int) (h1 : iv.1 ≤ x) (h2 : x ≤ iv.2) :
    ∃ σ', sKok (sfr k iv) σ' h ∧ sX k.1.length σ (sfr k iv).1.length σ' ∧ sR (sfr k iv).1.length σ' (some k.1.length, 0) x := by
  have hl : (sfr k iv).1.length = k.1.length + 1 := by simp [sfr]
  refine ⟨fun n => if n = k.1.length then x else σ n, ?_⟩
  have hx : sX k.1.length σ (sfr k iv).1.length (fun n => if n = k.1.length then x else σ n) := ⟨by omega, fun n hn => if_neg (Nat.ne_of_lt hn)⟩
  obtain ⟨a1, a2, a3, a4⟩ := hk
  refine ⟨⟨fun i jv hi => ?_, ⟨fun t ht => ?_, fun t ht => ?_⟩, fun t ht => ?_, a4.1, a4.2.x hx⟩, hx, ?_, ?_⟩
  · by_cases hi2 : i < k.1.length
    · have e : (k.1 ++ [iv])[i]? = k.1[i]? := List.getElem?_append_left hi2
      have e2 : (k.1 ++ [iv])[i]? = some jv := hi
      rw [e] at e2
      have h3 := a1 i jv e2
      show jv.1 ≤ (if i = k.1.length then x else σ i) ∧ (if i = k.1.length then x else σ i) ≤ jv.2
      rw [if_neg (Nat.ne_of_lt hi2)]
      exact h3
    · have e2 : (k.1 ++ [iv])[i]? = some jv := hi
      rw [List.getElem?_append_right (by omega)] at e2
      have hz : i - k.1.length < 1 := (List.getElem?_eq_some_iff.mp e2).1
      have e3 : i = k.1.length := by omega
      subst e3
      rw [Nat.sub_self] at e2
      cases e2
      show iv.1 ≤ (if k.1.length = k.1.length then x else _) ∧ (if k.1.length = k.1.length then x else _) ≤ iv.2
      rw [if_pos rfl]
      exact ⟨h1, h2⟩
  · obtain ⟨b1, b2, b3⟩ := a2.1 t ht
    refine ⟨by omega, by omega, ?_⟩
    rw [hx.2 _ b1, hx.2 _ b2]
    exact b3
  · obtain ⟨b1, b2, b3, b4⟩ := a2.2 t ht
    refine ⟨by omega, by omega, by omega, ?_⟩
    rw [hx.2 _ b1, hx.2 _ b2, hx.2 _ b3]
    exact b4
  · obtain ⟨b1, b2, b3⟩ := a3 t ht
    obtain ⟨c1, c2⟩ := b1.x hx
    obtain ⟨d1, d2⟩ := b2.x hx
    exact ⟨c1, d1, by rw [c2, d2]; exact b3⟩
  · show k.1.length < (sfr k iv).1.length
    omega
  · show x = (if k.1.length = k.1.length then x else _) + 0
    rw [if_pos rfl, Int.add_zero]
/-- what an operation gives: a new form, more known -/
def sO (k : sK) (σ : Nat → Int) (h : zH) (C : sF → sK → Bool) (z : Int) : Prop := ∃ (f' : sF) (k' : sK) (σ' : Nat → Int), C f' k' = true ∧ sKok k' σ' h ∧ sX k.1.length σ k'.1.length σ' ∧ sR k'.1.length σ' f' z
def snew (k : sK) (iv : Int × Int) (C : sF → sK → Bool) : Bool := if iv.1 = iv.2 then C (none, iv.1) k else C (some k.1.length, 0) (sfr k iv)
/-- a form that holds the value already -/
theorem sO.same {k : sK} {σ : Nat → Int} {h : zH} {C : sF → sK → Bool} {z : Int} {f : sF} (hc : C f k = true) (hk : sKok k σ h) (hw : sR k.1.length σ f z) : sO k σ h C z := ⟨f, k, σ, hc, hk, sX.rf, hw⟩
theorem snew_ok {k : sK} {σ : Nat → Int} {h : zH} {iv : Int × Int} {C : sF → sK → Bool} {z : Int} (hc : snew k iv C = true) (hk : sKok k σ h) (h1 : iv.1 ≤ z) (h2 : z ≤ iv.2) : sO k σ h C z := by
  unfold snew at hc
  split at hc
  · rename_i e
    exact sO.same hc hk ⟨trivial, by show z = iv.1; omega⟩
  · obtain ⟨σ', a, b, c⟩ := sfr_ok hk iv z h1 h2
    exact ⟨_, _, σ', hc, a, b, c⟩
/-- a number that is e if it is within fl -/
def sres (k : sK) (fl iv : Int × Int) (o : Option sF) (C : sF → sK → Bool) : Bool := if fl.1 ≤ iv.1 ∧ iv.2 ≤ fl.2 then (match o with
  | some f => C f k
  | none => snew k iv C) else snew k fl C
theorem sres_ok {k : sK} {σ : Nat → Int} {h : zH} {fl iv : Int × Int} {o : Option sF} {C : sF → sK → Bool} {e z : Int} (hc : sres k fl iv o C = true) (hk : sKok k σ h) (h1 : iv.1 ≤ e) (h2 : e ≤ iv.2) (ho : ∀ f, o = some f → sR k.1.length σ f e) (hz : fl.1 ≤ e → e ≤ fl.2 → z = e) (hf : fl.1 ≤ z ∧ z ≤ fl.2) : sO k σ h C z := by
  unfold sres at hc
  split at hc
  · rename_i hin
    have ez : z = e := hz (by omega) (by omega)
    subst ez
    cases o with
    | some f => exact sO.same hc hk (ho f rfl)
    | none => exact snew_ok hc hk h1 h2
  · exact snew_ok hc hk hf.1 hf.2
def ssm : sSm → Nat → Nat → Option Nat
  | [], _, _ => none
  | t :: r, a, b => if (t.1 = a ∧ t.2.1 = b) ∨ (t.1 = b ∧ t.2.1 = a) then some t.2.2 else ssm r a b
theorem ssm_ok : ∀ {L : sSm} {a b s : Nat}, ssm L a b = some s → ∃ t ∈ L, t.2.2 = s ∧ ((t.1 = a ∧ t.2.1 = b) ∨ (t.1 = b ∧ t.2.1 = a))
  | t :: r, a, b, s, h => by
    simp only [ssm] at h
    split at h
    · rename_i e
      cases h
      exact ⟨t, List.mem_cons_self, rfl, e⟩
    · obtain ⟨t', h1, h2⟩ := ssm_ok h
      exact ⟨t', List.mem_cons_of_mem _ h1, h2⟩
def sfrS (k : sK) (iv : Int × Int) (a b : Nat) : sK := (k.1 ++ [iv], (k.2.1.1, (a, b, k.1.length) :: k.2.1.2), k.2.2)
theorem sfrS_ok {k : sK} {σ : Nat → Int} {h : zH} (hk : sKok k σ h) {iv : Int × Int} {a b : Nat} (ha : a < k.1.length) (hb : b < k.1.length) (h1 : iv.1 ≤ σ a + σ b) (h2 : σ a + σ b ≤ iv.2) :
    ∃ σ', sKok (sfrS k iv a b) σ' h ∧ sX k.1.length σ (sfrS k iv a b).1.length σ' ∧ k.1.length < (sfrS k iv a b).1.length ∧ σ' k.1.length = σ a + σ b := by
  obtain ⟨σ', c1, c2, c3⟩ := sfr_ok hk iv _ h1 h2
  have e : σ' k.1.length = σ a + σ b := by
    have := c3.2
    have h9 : sval σ' (some k.1.length, 0) = σ' k.1.length + 0 := rfl
    omega
  refine ⟨σ', ⟨c1.1, ⟨c1.2.1.1, fun t ht => ?_⟩, c1.2.2⟩, c2, c3.1, e⟩
  rcases List.mem_cons.mp ht with e2 | ht
  · subst e2
    have hn : k.1.length < (sfrS k iv a b).1.length := c3.1
    refine ⟨Nat.lt_trans ha hn, Nat.lt_trans hb hn, hn, ?_⟩
    show σ' k.1.length = σ' a + σ' b
    rw [e, c2.2 a ha, c2.2 b hb]
  · exact c1.2.1.2 t ht
def sadd (fl : Int × Int) (k : sK) (f g : sF) (C : sF → sK → Bool) : Bool := match f.1, g.1 with
  | none, b => sres k fl ((siv k f).1 + (siv k g).1, (siv k f).2 + (siv k g).2) (some (b, f.2 + g.2)) C
  | some a, none => sres k fl ((siv k f).1 + (siv k g).1, (siv k f).2 + (siv k g).2) (some (some a, f.2 + g.2)) C
  | some a, some b => (match ssm k.2.1.2 a b with
    | some s => sres k fl (max ((siv k f).1 + (siv k g).1) (siv k (some s, f.2 + g.2)).1, min ((siv k f).2 + (siv k g).2) (siv k (some s, f.2 + g.2)).2) (some (some s, f.2 + g.2)) C
    | none => if (siv k f).1 + (siv k g).1 = (siv k f).2 + (siv k g).2 then sres k fl ((siv k f).1 + (siv k g).1, (siv k f).2 + (siv k g).2) none C else if fl.1 ≤ (siv k f).1 + (siv k g).1 ∧ (siv k f).2 + (siv k g).2 ≤ fl.2 then C (some k.1.length, f.2 + g.2) (sfrS k ((siv k f).1 - f.2 + ((siv k g).1 - g.2), (siv k f).2 - f.2 + ((siv k g).2 - g.2)) a b) else snew k fl C)
theorem sadd_ok {fl : Int × Int} {k : sK} {σ : Nat → Int} {h : zH} {f g : sF} {C : sF → sK → Bool} {x y z : Int} (hc : sadd fl k f g C = true) (hk : sKok k σ h) (hf : sR k.1.length σ f x) (hg : sR k.1.length σ g y) (hz : fl.1 ≤ x + y → x + y ≤ fl.2 → z = x + y) (hfl : fl.1 ≤ z ∧ z ≤ fl.2) : sO k σ h C z := by
  have a1 := siv_ok hk hf
  have a2 := siv_ok hk hg
  obtain ⟨f1, f2⟩ := f
  obtain ⟨g1, g2⟩ := g
  obtain ⟨wf1, ef⟩ := hf
  obtain ⟨wg1, eg⟩ := hg
  cases f1 with
  | none =>
    have ef : x = f2 := ef
    have hc : sres k fl ((siv k (none, f2)).1 + (siv k (g1, g2)).1, (siv k (none, f2)).2 + (siv k (g1, g2)).2) (some (g1, f2 + g2)) C = true := hc
    refine sres_ok hc hk (e := x + y) (by show _ + _ ≤ _; omega) (by show _ ≤ _ + _; omega) ?_ hz hfl
    intro f9 e9
    cases e9
    refine ⟨wg1, ?_⟩
    cases g1 with
    | none =>
      have eg : y = g2 := eg
      show x + y = f2 + g2
      omega
    | some b =>
      have eg : y = σ b + g2 := eg
      show x + y = σ b + (f2 + g2)
      omega
  | some a =>
    have ef : x = σ a + f2 := ef
    cases g1 with
    | none =>
      have eg : y = g2 := eg
      have hc : sres k fl ((siv k (some a, f2)).1 + (siv k (none, g2)).1, (siv k (some a, f2)).2 + (siv k (none, g2)).2) (some (some a, f2 + g2)) C = true := hc
      refine sres_ok hc hk (e := x + y) (by show _ + _ ≤ _; omega) (by show _ ≤ _ + _; omega) ?_ hz hfl
      intro f9 e9
      cases e9
      refine ⟨wf1, ?_⟩
      show x + y = σ a + (f2 + g2)
      omega
    | some b =>
      have eg : y = σ b + g2 := eg
      simp only [sadd] at hc
      split at hc
      · rename_i s es
        obtain ⟨t, t1, t2, t3⟩ := ssm_ok es
        obtain ⟨b1, b2, b3, b4⟩ := hk.2.1.2 t t1
        have e5 : σ s = σ a + σ b := by
          rw [← t2, b4]
          rcases t3 with ⟨u1, u2⟩ | ⟨u1, u2⟩
          · rw [u1, u2]
          · rw [u1, u2]
            omega
        have hs : sR k.1.length σ (some s, f2 + g2) (x + y) := by
          refine ⟨by rw [← t2]; exact b3, ?_⟩
          show x + y = σ s + (f2 + g2)
          omega
        have a3 := siv_ok hk hs
        refine sres_ok hc hk (e := x + y) ?_ ?_ (fun f9 e9 => by cases e9; exact hs) hz hfl
        · show max _ _ ≤ x + y
          omega
        · show x + y ≤ min _ _
          omega
      · split at hc
        · exact sres_ok hc hk (e := x + y) (by show _ + _ ≤ _; omega) (by show _ ≤ _ + _; omega) (fun f9 e9 => by cases e9) hz hfl
        · split at hc
          · rename_i hin
            obtain ⟨σ', c1, c2, c3, c4⟩ := sfrS_ok (a := a) (b := b) (iv := ((siv k (some a, f2)).1 - f2 + ((siv k (some b, g2)).1 - g2), (siv k (some a, f2)).2 - f2 + ((siv k (some b, g2)).2 - g2))) hk wf1 wg1 (by show _ + _ ≤ _; omega) (by show _ ≤ _ + _; omega)
            refine ⟨_, _, σ', hc, c1, c2, c3, ?_⟩
            have ez := hz (by omega) (by omega)
            show z = σ' k.1.length + (f2 + g2)
            omega
          · exact snew_ok hc hk hfl.1 hfl.2
/-- assume f ≤ g: what is known then; none: it can't be -/
def sasm (k : sK) (f g : sF) : Option sK := match f.1, g.1 with
  | none, none => if f.2 ≤ g.2 then some k else none
  | some a, none => (match k.1[a]? with
    | some iv => if iv.1 ≤ g.2 - f.2 then some (k.1.set a (iv.1, min iv.2 (g.2 - f.2)), k.2) else none
    | none => none)
  | none, some b => (match k.1[b]? with
    | some iv => if f.2 - g.2 ≤ iv.2 then some (k.1.set b (max iv.1 (f.2 - g.2), iv.2), k.2) else none
    | none => none)
  | some a, some b => if a = b then (if f.2 ≤ g.2 then some k else none) else (match k.1[a]?, k.1[b]? with
    | some iva, some ivb => if iva.1 ≤ ivb.2 - (f.2 - g.2) ∧ (k.2.1.1.any (fun t => t.1 == a && t.2.1 == b && decide (-(f.2 - g.2) < t.2.2))) = false then
        some ((k.1.set a (iva.1, min iva.2 (ivb.2 - (f.2 - g.2)))).set b (max ivb.1 (iva.1 + (f.2 - g.2)), ivb.2), ((b, a, f.2 - g.2) :: k.2.1.1, k.2.1.2), k.2.2) else none
    | _, _ => none)
theorem sset_ok {k : sK} {σ : Nat → Int} {h : zH} (hk : sKok k σ h) {a : Nat} {iv : Int × Int} (h1 : iv.1 ≤ σ a) (h2 : σ a ≤ iv.2) : sKok (k.1.set a iv, k.2) σ h := by
  obtain ⟨a1, a2, a3, a4⟩ := hk
  refine ⟨fun i jv hi => ?_, ⟨fun t ht => ?_, fun t ht => ?_⟩, fun t ht => ?_, a4.1, ?_⟩
  · by_cases e : i = a
    · subst e
      have hi : (k.1.set i iv)[i]? = some jv := hi
      have hlt : i < (k.1.set i iv).length := (List.getElem?_eq_some_iff.mp hi).1
      rw [List.length_set] at hlt
      rw [List.getElem?_set_self hlt] at hi
      cases hi
      exact ⟨h1, h2⟩
    · have hi : (k.1.set a iv)[i]? = some jv := hi
      rw [List.getElem?_set_ne (Ne.symm e)] at hi
      exact a1 i jv hi
  · have := a2.1 t ht
    rw [show ((k.1.set a iv, k.2) : sK).1.length = k.1.length from List.length_set]
    exact this
  · have := a2.2 t ht
    rw [show ((k.1.set a iv, k.2) : sK).1.length = k.1.length from List.length_set]
    exact this
  · have := a3 t ht
    rw [show ((k.1.set a iv, k.2) : sK).1.length = k.1.length from List.length_set]
    exact this
  · rw [show ((k.1.set a iv, k.2) : sK).1.length = k.1.length from List.length_set]
    exact a4.2
theorem sasm_ok {k : sK} {σ : Nat → Int} {h : zH} {f g : sF} (hk : sKok k σ h) (hf : swf k.1.length f) (hg : swf k.1.length g) (hle : sval σ f ≤ sval σ g) : ∃ k', sasm k f g = some k' ∧ sKok k' σ h ∧ k'.1.length = k.1.length := by
  obtain ⟨f1, f2⟩ := f
  obtain ⟨g1, g2⟩ := g
  cases f1 with
  | none =>
    cases g1 with
    | none =>
      have hle : f2 ≤ g2 := hle
      exact ⟨k, by simp only [sasm]; rw [if_pos hle], hk, rfl⟩
    | some b =>
      have hb : b < k.1.length := hg
      have hle : f2 ≤ σ b + g2 := hle
      have e : k.1[b]? = some k.1[b] := List.getElem?_eq_getElem hb
      have h3 := hk.1 b _ e
      refine ⟨(k.1.set b (max k.1[b].1 (f2 - g2), k.1[b].2), k.2), by simp only [sasm, e]; rw [if_pos (by omega)], sset_ok hk ?_ h3.2, List.length_set⟩
      show max _ _ ≤ σ b
      omega
  | some a =>
    have ha : a < k.1.length := hf
    have ea : k.1[a]? = some k.1[a] := List.getElem?_eq_getElem ha
    have h3 := hk.1 a _ ea
    cases g1 with
    | none =>
      have hle : σ a + f2 ≤ g2 := hle
      refine ⟨(k.1.set a (k.1[a].1, min k.1[a].2 (g2 - f2)), k.2), by simp only [sasm, ea]; rw [if_pos (by omega)], sset_ok hk h3.1 ?_, List.length_set⟩
      show σ a ≤ min _ _
      omega
    | some b =>
      have hb : b < k.1.length := hg
      have eb : k.1[b]? = some k.1[b] := List.getElem?_eq_getElem hb
      have h4 := hk.1 b _ eb
      have hle : σ a + f2 ≤ σ b + g2 := hle
      by_cases hab : a = b
      · subst hab
        exact ⟨k, by show (if a = a then (if f2 ≤ g2 then some k else none) else _) = some k; rw [if_pos rfl, if_pos (by omega)], hk, rfl⟩
      · have hany : (k.2.1.1.any (fun t => t.1 == a && t.2.1 == b && decide (-(f2 - g2) < t.2.2))) = false := by
          rw [List.any_eq_false]
          intro t ht hc
          simp only [Bool.and_eq_true, beq_iff_eq, decide_eq_true_eq] at hc
          obtain ⟨⟨e1, e2⟩, e3⟩ := hc
          have h5 := (hk.2.1.1 t ht).2.2
          rw [e1, e2] at h5
          omega
        refine ⟨((k.1.set a (k.1[a].1, min k.1[a].2 (k.1[b].2 - (f2 - g2)))).set b (max k.1[b].1 (k.1[a].1 + (f2 - g2)), k.1[b].2), ((b, a, f2 - g2) :: k.2.1.1, k.2.1.2), k.2.2), by simp only [sasm, ea, eb]; rw [if_neg hab, if_pos ⟨by omega, hany⟩], ?_, by simp⟩
        have s1 : sKok (k.1.set a (k.1[a].1, min k.1[a].2 (k.1[b].2 - (f2 - g2))), k.2) σ h := sset_ok hk h3.1 (by show σ a ≤ min _ _; omega)
        have s2 := sset_ok s1 (a := b) (iv := (max k.1[b].1 (k.1[a].1 + (f2 - g2)), k.1[b].2)) (by show max _ _ ≤ σ b; omega) h4.2
        obtain ⟨c1, c2, c3⟩ := s2
        refine ⟨c1, ⟨fun t ht => ?_, c2.2⟩, c3⟩
        rcases List.mem_cons.mp ht with e | ht
        · subst e
          refine ⟨by simpa using hb, by simpa using ha, ?_⟩
          show f2 - g2 ≤ σ b - σ a
          omega
        · exact c2.1 t ht
/-- assume f ≠ g -/
def sne (k : sK) (f g : sF) : Option sK := match f.1, g.1 with
  | none, none => if f.2 = g.2 then none else some k
  | some a, none => (match k.1[a]? with
    | some iv => if iv.1 = g.2 - f.2 then (if iv.2 = iv.1 then none else some (k.1.set a (iv.1 + 1, iv.2), k.2)) else if iv.2 = g.2 - f.2 then some (k.1.set a (iv.1, iv.2 - 1), k.2) else some k
    | none => some k)
  | some a, some b => (match k.2.1.1.any (fun t => t.1 == a && t.2.1 == b && decide (t.2.2 = g.2 - f.2)), k.2.1.1.any (fun t => t.1 == b && t.2.1 == a && decide (t.2.2 = f.2 - g.2)) with
    | true, true => none
    | true, false => some (k.1, ((a, b, g.2 - f.2 + 1) :: k.2.1.1, k.2.1.2), k.2.2)
    | false, true => some (k.1, ((b, a, f.2 - g.2 + 1) :: k.2.1.1, k.2.1.2), k.2.2)
    | false, false => some k)
  | _, _ => some k
theorem sne_any {k : sK} {σ : Nat → Int} {h : zH} (hk : sKok k σ h) {a b : Nat} {z : Int} (hc : k.2.1.1.any (fun t => t.1 == a && t.2.1 == b && decide (t.2.2 = z)) = true) : a < k.1.length ∧ b < k.1.length ∧ z ≤ σ a - σ b := by
  obtain ⟨t, ht, hc⟩ := List.any_eq_true.mp hc
  simp only [Bool.and_eq_true, beq_iff_eq, decide_eq_true_eq] at hc
  obtain ⟨⟨e1, e2⟩, e3⟩ := hc
  have h1 := hk.2.1.1 t ht
  rw [e1, e2, e3] at h1
  exact h1
theorem sne_ok {k : sK} {σ : Nat → Int} {h : zH} {f g : sF} (hk : sKok k σ h) (hne : sval σ f ≠ sval σ g) : ∃ k', sne k f g = some k' ∧ sKok k' σ h ∧ k'.1.length = k.1.length := by
  obtain ⟨f1, f2⟩ := f
  obtain ⟨g1, g2⟩ := g
  cases f1 with
  | none =>
    cases g1 with
    | none =>
      have hne : f2 ≠ g2 := hne
      exact ⟨k, by simp only [sne]; rw [if_neg hne], hk, rfl⟩
    | some b => exact ⟨k, rfl, hk, rfl⟩
  | some a =>
    cases g1 with
    | none =>
      have hne : σ a + f2 ≠ g2 := hne
      cases ea : k.1[a]? with
      | none => exact ⟨k, by simp only [sne, ea], hk, rfl⟩
      | some iv =>
        have h3 := hk.1 a _ ea
        by_cases e1 : iv.1 = g2 - f2
        · by_cases e2 : iv.2 = iv.1
          · exact absurd (by omega) hne
          · exact ⟨(k.1.set a (iv.1 + 1, iv.2), k.2), by simp only [sne, ea]; rw [if_pos e1, if_neg e2], sset_ok hk (by show iv.1 + 1 ≤ σ a; omega) h3.2, List.length_set⟩
        · by_cases e2 : iv.2 = g2 - f2
          · exact ⟨(k.1.set a (iv.1, iv.2 - 1), k.2), by simp only [sne, ea]; rw [if_neg e1, if_pos e2], sset_ok hk h3.1 (by show σ a ≤ iv.2 - 1; omega), List.length_set⟩
          · exact ⟨k, by simp only [sne, ea]; rw [if_neg e1, if_neg e2], hk, rfl⟩
    | some b =>
      have hne : σ a + f2 ≠ σ b + g2 := hne
      simp only [sne]
      split
      · rename_i e1 e2
        have h1 := (sne_any hk e1).2.2
        have h2 := (sne_any hk e2).2.2
        exact absurd (by omega) hne
      · rename_i e1 e2
        obtain ⟨w1, w2, w3⟩ := sne_any hk e1
        refine ⟨_, rfl, ⟨hk.1, ⟨fun t ht => ?_, hk.2.1.2⟩, hk.2.2⟩, rfl⟩
        rcases List.mem_cons.mp ht with e | ht
        · subst e
          exact ⟨w1, w2, by show g2 - f2 + 1 ≤ σ a - σ b; omega⟩
        · exact hk.2.1.1 t ht
      · rename_i e1 e2
        obtain ⟨w1, w2, w3⟩ := sne_any hk e2
        refine ⟨_, rfl, ⟨hk.1, ⟨fun t ht => ?_, hk.2.1.2⟩, hk.2.2⟩, rfl⟩
        rcases List.mem_cons.mp ht with e | ht
        · subst e
          exact ⟨w1, w2, by show f2 - g2 + 1 ≤ σ b - σ a; omega⟩
        · exact hk.2.1.1 t ht
      · exact ⟨k, rfl, hk, rfl⟩
/-- differences: what is known of f - g -/
def sdlo (D : sD) (a b : Nat) (z : Int) : Int := D.foldl (fun m t => if t.1 = a ∧ t.2.1 = b ∧ m < t.2.2 then t.2.2 else m) z
theorem sdlo_ok {σ : Nat → Int} {a b : Nat} : ∀ (D : sD) (z : Int), (∀ t ∈ D, t.2.2 ≤ σ t.1 - σ t.2.1) → z ≤ σ a - σ b → sdlo D a b z ≤ σ a - σ b
  | [], _, _, h => h
  | t :: D, z, hD, h => by
    show sdlo D a b (if t.1 = a ∧ t.2.1 = b ∧ z < t.2.2 then t.2.2 else z) ≤ _
    refine sdlo_ok D _ (fun t' ht' => hD t' (List.mem_cons_of_mem _ ht')) ?_
    split
    · rename_i hc
      have h1 := hD t List.mem_cons_self
      rw [hc.1, hc.2.1] at h1
      exact h1
    · exact h
/-! the log -/
def slg (k : sK) (c : Nat) (a b r : sF) : sK := match k.2.2.2.2 with
  | none => k
  | some L => (k.1, k.2.1, k.2.2.1, k.2.2.2.1, some ((c, a, b, r) :: L.1, L.2))
theorem slg_1 (k : sK) (c : Nat) (a b r : sF) : (slg k c a b r).1 = k.1 := by
  unfold slg
  split <;> rfl
theorem slg_ok {k : sK} {σ : Nat → Int} {h : zH} (hk : sKok k σ h) {c : Nat} {a b r : sF} (ht : sgT k.1.length σ (c, a, b, r)) : sKok (slg k c a b r) σ h := by
  unfold slg
  split
  · exact hk
  · rename_i L e
    refine ⟨hk.1, hk.2.1, hk.2.2.1, hk.2.2.2.1, fun L' e' => ?_⟩
    cases e'
    refine ⟨fun t h' => ?_, (hk.2.2.2.2 L e).2⟩
    rcases List.mem_cons.mp h' with e1 | h'
    · subst e1
      exact ht
    · exact (hk.2.2.2.2 L e).1 t h'
def sgfd : List sGf → Nat → sF → sF → Option sF
  | [], _, _, _ => none
  | t :: r, c, a, b => if t.1 = c ∧ t.2.1 = a ∧ t.2.2.1 = b then some t.2.2.2 else sgfd r c a b
theorem sgfd_mem : ∀ {L : List sGf} {c : Nat} {a b r : sF}, sgfd L c a b = some r → (c, a, b, r) ∈ L
  | t :: s, c, a, b, r, h => by
    simp only [sgfd] at h
    split at h
    · rename_i e
      cases h
      obtain ⟨t1, t2, t3, t4⟩ := t
      obtain ⟨e1, e2, e3⟩ := e
      have e1 : t1 = c := e1
      have e2 : t2 = a := e2
      have e3 : t3 = b := e3
      subst e1; subst e2; subst e3
      exact List.mem_cons_self
    · exact List.mem_cons_of_mem _ (sgfd_mem h)
/-- an operation's result goes on: as it was found before, or logged -/
def sopd (k : sK) (c : Nat) (a b : sF) (C : sF → sK → Bool) (f : sF) (k' : sK) : Bool := match k.2.2.2.2 with
  | none => C f k'
  | some L => (match sgfd L.1 c a b with
    | some r => C r k'
    | none => C f (slg k' c a b f))
theorem sO.opd {k : sK} {σ : Nat → Int} {h : zH} {c : Nat} {a b : sF} {C : sF → sK → Bool} {x y z : Int} (ho : sO k σ h (sopd k c a b C) z) (h9 : c ≠ 9) (hk : sKok k σ h) (ha : sR k.1.length σ a x) (hb : sR k.1.length σ b y) (hz : z = sgfn c x y) : sO k σ h C z := by
  obtain ⟨f', k', σ', c1, d1, d2, d3⟩ := ho
  unfold sopd at c1
  split at c1
  · exact ⟨f', k', σ', c1, d1, d2, d3⟩
  · rename_i L e
    split at c1
    · rename_i r er
      obtain ⟨-, -, b3, -, b5⟩ := (hk.2.2.2.2 L e).1 _ (sgfd_mem er)
      have b6 : sval σ r = sgfn c (sval σ a) (sval σ b) := b5 h9
      refine ⟨r, k', σ', c1, d1, d2, sR.x d2 ⟨b3, ?_⟩⟩
      rw [hz, ha.2, hb.2, b6]
    · obtain ⟨w1, w2⟩ := ha.1.x d2
      obtain ⟨v1, v2⟩ := hb.1.x d2
      refine ⟨f', _, σ', c1, slg_ok d1 ⟨w1, v1, d3.1, fun e9 => absurd e9 h9, fun _ => ?_⟩, ?_, ?_⟩
      · show sval σ' f' = sgfn c (sval σ' a) (sval σ' b)
        rw [w2, v2, ← d3.2, ← ha.2, ← hb.2, hz]
      · rw [slg_1]
        exact d2
      · rw [slg_1]
        exact d3
theorem sgfn0 (x y : Int32) : (x ||| y).toInt = sgfn 0 x.toInt y.toInt := by simp only [sgfn, Int32.ofInt_toInt]
theorem sgfn1 (x y : Int32) : (x ^^^ y).toInt = sgfn 1 x.toInt y.toInt := by simp only [sgfn, Int32.ofInt_toInt]
theorem sgfn2 (x y : Int32) : (x &&& y).toInt = sgfn 2 x.toInt y.toInt := by simp only [sgfn, Int32.ofInt_toInt]
theorem sgfn3 (x y : Int32) : (x <<< (y &&& 31)).toInt = sgfn 3 x.toInt y.toInt := by simp only [sgfn, Int32.ofInt_toInt]
theorem sgfn4 (x y : Int32) : (x >>> (y &&& 31)).toInt = sgfn 4 x.toInt y.toInt := by simp only [sgfn, Int32.ofInt_toInt]
theorem sgfn6 (x y : Int32) : (x * y).toInt = sgfn 6 x.toInt y.toInt := by simp only [sgfn, Int32.ofInt_toInt]
theorem sgfn7 (x y : Int32) : (x / y).toInt = sgfn 7 x.toInt y.toInt := by simp only [sgfn, Int32.ofInt_toInt]
theorem sgfn8 (x y : Int32) : (x - x / y * y).toInt = sgfn 8 x.toInt y.toInt := by simp only [sgfn, Int32.ofInt_toInt]
theorem sgfn5 (x y : Int32) : (x.toUInt32 >>> (y.toUInt32 &&& Int32.toUInt32 31)).toInt32.toInt = sgfn 5 x.toInt y.toInt := by simp only [sgfn, Int32.ofInt_toInt]
theorem sgfn10 (x : Int32) : x.toInt8.toInt32.toInt = sgfn 10 x.toInt 0 := by simp only [sgfn, Int32.ofInt_toInt]
theorem sgfn11 (x : Int64) : x.toInt32.toInt = sgfn 11 x.toInt 0 := by simp only [sgfn, Int64.ofInt_toInt]
theorem sgfn12 (x y : Int64) : (x &&& y).toInt = sgfn 12 x.toInt y.toInt := by simp only [sgfn, Int64.ofInt_toInt]
theorem sgfn16 (x y : Int64) : (x * y).toInt = sgfn 16 x.toInt y.toInt := by simp only [sgfn, Int64.ofInt_toInt]
theorem sgfn17 (x y : Int64) : (x / y).toInt = sgfn 17 x.toInt y.toInt := by simp only [sgfn, Int64.ofInt_toInt]
theorem sgfn18 (x y : Int64) : (x - x / y * y).toInt = sgfn 18 x.toInt y.toInt := by simp only [sgfn, Int64.ofInt_toInt]
theorem sgfn19 (x y : Int64) : (x + y).toInt = sgfn 19 x.toInt y.toInt := by simp only [sgfn, Int64.ofInt_toInt]
theorem sgfn20 (x y : Int64) : (x - y).toInt = sgfn 20 x.toInt y.toInt := by simp only [sgfn, Int64.ofInt_toInt]

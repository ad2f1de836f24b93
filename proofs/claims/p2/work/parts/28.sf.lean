def sbr (o : Option sK) (C : sK → Bool) : Bool := match o with
  | none => true
  | some k => C k
/-- what goes on in one branch -/
def sB (k : sK) (σ : Nat → Int) (h : zH) (C : sK → Bool) : Prop := ∃ k', C k' = true ∧ sKok k' σ h ∧ k'.1.length = k.1.length
def sifM (k : sK) (f g : sF) (T F : sK → Bool) : Bool := sbr (sasm k f g) T && sbr (sasm k g (f.1, f.2 - 1)) F
def sifL (k : sK) (f g : sF) (T F : sK → Bool) : Bool := sbr (sasm k (f.1, f.2 + 1) g) T && sbr (sasm k g f) F
def sifE (k : sK) (f g : sF) (T F : sK → Bool) : Bool := sbr (sasm k f g) (fun k' => sbr (sasm k' g f) T) && sbr (match f.1 with
  | none => sne k g f
  | some _ => sne k f g) F
theorem sval_c (σ : Nat → Int) (f : sF) (c : Int) : sval σ (f.1, f.2 + c) = sval σ f + c := by
  obtain ⟨o, d⟩ := f
  cases o with
  | none => rfl
  | some n =>
    show σ n + (d + c) = σ n + d + c
    omega
theorem sifM_ok {k : sK} {σ : Nat → Int} {h : zH} {f g : sF} {T F : sK → Bool} {x y : Int32} (hc : sifM k f g T F = true) (hk : sKok k σ h) (hf : sR k.1.length σ f x) (hg : sR k.1.length σ g y) : (x ≤ y → sB k σ h T) ∧ (¬ x ≤ y → sB k σ h F) := by
  simp only [sifM, Bool.and_eq_true] at hc
  obtain ⟨c1, c2⟩ := hc
  constructor
  · intro hle
    obtain ⟨k', e, hk', hl⟩ := sasm_ok hk hf.1 hg.1 (by rw [← hf.2, ← hg.2]; exact Int32.le_iff_toInt_le.mp hle)
    rw [e] at c1
    exact ⟨k', c1, hk', hl⟩
  · intro hle
    have h1 : sval σ g ≤ sval σ (f.1, f.2 - 1) := by
      have h2 : ¬ x.toInt ≤ y.toInt := fun h => hle (Int32.le_iff_toInt_le.mpr h)
      have h3 := sval_c σ f (-1)
      rw [show f.2 + -1 = f.2 - 1 by omega] at h3
      rw [h3, ← hf.2, ← hg.2]
      omega
    obtain ⟨k', e, hk', hl⟩ := sasm_ok hk hg.1 (f := g) (g := (f.1, f.2 - 1)) hf.1 h1
    rw [e] at c2
    exact ⟨k', c2, hk', hl⟩
theorem sifL_ok {k : sK} {σ : Nat → Int} {h : zH} {f g : sF} {T F : sK → Bool} {x y : Int32} (hc : sifL k f g T F = true) (hk : sKok k σ h) (hf : sR k.1.length σ f x) (hg : sR k.1.length σ g y) : (x < y → sB k σ h T) ∧ (¬ x < y → sB k σ h F) := by
  simp only [sifL, Bool.and_eq_true] at hc
  obtain ⟨c1, c2⟩ := hc
  constructor
  · intro hle
    have h1 : sval σ (f.1, f.2 + 1) ≤ sval σ g := by
      have h2 := Int32.lt_iff_toInt_lt.mp hle
      rw [sval_c, ← hf.2, ← hg.2]
      omega
    obtain ⟨k', e, hk', hl⟩ := sasm_ok hk (f := (f.1, f.2 + 1)) hf.1 hg.1 h1
    rw [e] at c1
    exact ⟨k', c1, hk', hl⟩
  · intro hle
    have h2 : ¬ x.toInt < y.toInt := fun h => hle (Int32.lt_iff_toInt_lt.mpr h)
    obtain ⟨k', e, hk', hl⟩ := sasm_ok hk hg.1 hf.1 (by rw [← hf.2, ← hg.2]; omega)
    rw [e] at c2
    exact ⟨k', c2, hk', hl⟩
theorem sifE_ok {k : sK} {σ : Nat → Int} {h : zH} {f g : sF} {T F : sK → Bool} {x y : Int32} (hc : sifE k f g T F = true) (hk : sKok k σ h) (hf : sR k.1.length σ f x) (hg : sR k.1.length σ g y) : (x = y → sB k σ h T) ∧ (¬ x = y → sB k σ h F) := by
  simp only [sifE, Bool.and_eq_true] at hc
  obtain ⟨c1, c2⟩ := hc
  constructor
  · intro he
    have e0 : sval σ f = sval σ g := by rw [← hf.2, ← hg.2, he]
    obtain ⟨k', e, hk', hl⟩ := sasm_ok hk hf.1 hg.1 (by omega)
    rw [e] at c1
    have c1 : sbr (sasm k' g f) T = true := c1
    obtain ⟨k'', e', hk'', hl'⟩ := sasm_ok hk' (f := g) (g := f) (by rw [hl]; exact hg.1) (by rw [hl]; exact hf.1) (by omega)
    rw [e'] at c1
    exact ⟨k'', c1, hk'', hl'.trans hl⟩
  · intro he
    have e0 : sval σ f ≠ sval σ g := by
      intro e
      apply he
      apply Int32.toInt_inj.mp
      rw [hf.2, hg.2, e]
    split at c2
    · obtain ⟨k', e, hk', hl⟩ := sne_ok hk (f := g) (g := f) (Ne.symm e0)
      rw [e] at c2
      exact ⟨k', c2, hk', hl⟩
    · obtain ⟨k', e, hk', hl⟩ := sne_ok hk e0
      rw [e] at c2
      exact ⟨k', c2, hk', hl⟩
/-- a switch -/
def ssw (k : sK) (f : sF) (C : Nat → sK → Bool) (d : Nat) : List Nat → Bool
  | v :: t :: r => sifE k f (none, (Int32.ofNat v).toInt) (C t) (fun k' => ssw k' f C d r)
  | _ => C d k
theorem ssw_ok {σ : Nat → Int} {h : zH} {f : sF} {x : Int32} {C : Nat → sK → Bool} {d : Nat} {Cp : Nat → Prop} {n : Nat} (hC : ∀ t k', C t k' = true → sKok k' σ h → k'.1.length = n → Cp t) : ∀ (r : List Nat) (k : sK), k.1.length = n → ssw k f C d r = true → sKok k σ h → sR k.1.length σ f x → zsw (ρ := Prop) Cp x d r
  | [], k, hn, hc, hk, _ => hC d k hc hk hn
  | [_], k, hn, hc, hk, _ => hC d k hc hk hn
  | v :: t :: r, k, hn, hc, hk, hf => by
    have hc : sifE k f (none, (Int32.ofNat v).toInt) (C t) (fun k' => ssw k' f C d r) = true := hc
    obtain ⟨h1, h2⟩ := sifE_ok (y := Int32.ofNat v) hc hk hf ⟨trivial, rfl⟩
    show if x = Int32.ofNat v then Cp t else zsw Cp x d r
    split
    · rename_i e
      obtain ⟨k', c, a, b⟩ := h1 e
      exact hC t k' c a (b.trans hn)
    · rename_i e
      obtain ⟨k', c, a, b⟩ := h2 e
      exact ssw_ok hC r k' (b.trans hn) c a (by rw [b]; exact hf)

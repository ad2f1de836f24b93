/-- at least so much more -/
def sdl (k : sK) (a b : Nat) : Int := if a = b then 0 else sdlo k.2.1.1 a b ((siv k (some a, 0)).1 - (siv k (some b, 0)).2)
theorem sdl_ok {k : sK} {σ : Nat → Int} {h : zH} (hk : sKok k σ h) {a b : Nat} (ha : a < k.1.length) (hb : b < k.1.length) : sdl k a b ≤ σ a - σ b := by
  unfold sdl
  split
  · rename_i e
    subst e
    omega
  · have h1 := siv_ok hk (f := (some a, 0)) (x := σ a) ⟨ha, by show σ a = σ a + 0; omega⟩
    have h2 := siv_ok hk (f := (some b, 0)) (x := σ b) ⟨hb, by show σ b = σ b + 0; omega⟩
    exact sdlo_ok k.2.1.1 _ (fun t ht => (hk.2.1.1 t ht).2.2) (by omega)
def sdls (k : sK) (a b : Nat) : sSm → Int → Int
  | [], z => z
  | t :: r, z => sdls k a b r (if t.2.2 = a then max z (max ((siv k (some t.1, 0)).1 + sdl k t.2.1 b) ((siv k (some t.2.1, 0)).1 + sdl k t.1 b)) else z)
theorem sdls_ok {k : sK} {σ : Nat → Int} {h : zH} (hk : sKok k σ h) {a b : Nat} (hb : b < k.1.length) : ∀ (L : sSm) (z : Int), (∀ t ∈ L, t ∈ k.2.1.2) → z ≤ σ a - σ b → sdls k a b L z ≤ σ a - σ b
  | [], _, _, h => h
  | t :: r, z, hL, hz => by
    simp only [sdls]
    refine sdls_ok hk hb r _ (fun t' ht' => hL t' (List.mem_cons_of_mem _ ht')) ?_
    split
    · rename_i e
      obtain ⟨b1, b2, b3, b4⟩ := hk.2.1.2 t (hL t List.mem_cons_self)
      rw [e] at b4
      have h1 := siv_ok hk (f := (some t.1, 0)) (x := σ t.1) ⟨b1, by show σ t.1 = σ t.1 + 0; omega⟩
      have h2 := siv_ok hk (f := (some t.2.1, 0)) (x := σ t.2.1) ⟨b2, by show σ t.2.1 = σ t.2.1 + 0; omega⟩
      have h3 := sdl_ok hk b2 hb
      have h4 := sdl_ok hk b1 hb
      omega
    · exact hz
/-- what is known of f - g -/
def ssbv (k : sK) (f g : sF) : Int × Int := match f.1, g.1 with
  | some a, some b => if a = b then (f.2 - g.2, f.2 - g.2) else (sdls k a b k.2.1.2 (sdl k a b) + (f.2 - g.2), f.2 - g.2 - sdl k b a)
  | _, _ => ((siv k f).1 - (siv k g).2, (siv k f).2 - (siv k g).1)
theorem ssbv_ok {k : sK} {σ : Nat → Int} {h : zH} {f g : sF} {x y : Int} (hk : sKok k σ h) (hf : sR k.1.length σ f x) (hg : sR k.1.length σ g y) : (ssbv k f g).1 ≤ x - y ∧ x - y ≤ (ssbv k f g).2 := by
  have a1 := siv_ok hk hf
  have a2 := siv_ok hk hg
  obtain ⟨f1, f2⟩ := f
  obtain ⟨g1, g2⟩ := g
  obtain ⟨wf1, ef⟩ := hf
  obtain ⟨wg1, eg⟩ := hg
  cases f1 with
  | none =>
    constructor
    · cases g1 <;> (show (siv k (none, f2)).1 - _ ≤ x - y; omega)
    · cases g1 <;> (show x - y ≤ (siv k (none, f2)).2 - _; omega)
  | some a =>
    have ef : x = σ a + f2 := ef
    cases g1 with
    | none =>
      constructor
      · show (siv k (some a, f2)).1 - _ ≤ x - y
        omega
      · show x - y ≤ (siv k (some a, f2)).2 - _
        omega
    | some b =>
      have eg : y = σ b + g2 := eg
      simp only [ssbv]
      split
      · rename_i hab
        subst hab
        constructor
        · show f2 - g2 ≤ x - y
          omega
        · show x - y ≤ f2 - g2
          omega
      · have d1 := sdls_ok hk wg1 k.2.1.2 (sdl k a b) (fun _ h => h) (sdl_ok hk wf1 wg1)
        have d2 := sdl_ok hk wg1 wf1
        constructor
        · show _ + (f2 - g2) ≤ x - y
          omega
        · show x - y ≤ f2 - g2 - _
          omega
def ssbo (f g : sF) : Option sF := match f.1, g.1 with
  | a, none => some (a, f.2 - g.2)
  | some a, some b => if a = b then some (none, f.2 - g.2) else none
  | none, some _ => none
def sfrT (k : sK) (iv : Int × Int) (a b : Nat) : sK := (k.1 ++ [iv], (k.2.1.1, (b, k.1.length, a) :: k.2.1.2), k.2.2)
theorem sfrT_ok {k : sK} {σ : Nat → Int} {h : zH} (hk : sKok k σ h) {iv : Int × Int} {a b : Nat} (ha : a < k.1.length) (hb : b < k.1.length) (h1 : iv.1 ≤ σ a - σ b) (h2 : σ a - σ b ≤ iv.2) :
    ∃ σ', sKok (sfrT k iv a b) σ' h ∧ sX k.1.length σ (sfrT k iv a b).1.length σ' ∧ k.1.length < (sfrT k iv a b).1.length ∧ σ' k.1.length = σ a - σ b := by
  obtain ⟨σ', c1, c2, c3⟩ := sfr_ok hk iv _ h1 h2
  have e : σ' k.1.length = σ a - σ b := by
    have := c3.2
    have h9 : sval σ' (some k.1.length, 0) = σ' k.1.length + 0 := rfl
    omega
  refine ⟨σ', ⟨c1.1, ⟨c1.2.1.1, fun t ht => ?_⟩, c1.2.2⟩, c2, c3.1, e⟩
  rcases List.mem_cons.mp ht with e2 | ht
  · subst e2
    have hn : k.1.length < (sfrT k iv a b).1.length := c3.1
    refine ⟨Nat.lt_trans hb hn, hn, Nat.lt_trans ha hn, ?_⟩
    show σ' a = σ' b + σ' k.1.length
    rw [e, c2.2 a ha, c2.2 b hb]
    omega
  · exact c1.2.1.2 t ht
def ssub (fl : Int × Int) (k : sK) (f g : sF) (C : sF → sK → Bool) : Bool := match f.1, g.1 with
  | some a, some b => if a ≠ b ∧ (ssbv k f g).1 ≠ (ssbv k f g).2 ∧ fl.1 ≤ (ssbv k f g).1 ∧ (ssbv k f g).2 ≤ fl.2 then C (some k.1.length, f.2 - g.2) (sfrT k ((ssbv k f g).1 - (f.2 - g.2), (ssbv k f g).2 - (f.2 - g.2)) a b) else sres k fl (ssbv k f g) (ssbo f g) C
  | _, _ => sres k fl (ssbv k f g) (ssbo f g) C
theorem ssub_ok {fl : Int × Int} {k : sK} {σ : Nat → Int} {h : zH} {f g : sF} {C : sF → sK → Bool} {x y z : Int} (hc : ssub fl k f g C = true) (hk : sKok k σ h) (hf : sR k.1.length σ f x) (hg : sR k.1.length σ g y) (hz : fl.1 ≤ x - y → x - y ≤ fl.2 → z = x - y) (hfl : fl.1 ≤ z ∧ z ≤ fl.2) : sO k σ h C z := by
  have hv := ssbv_ok hk hf hg
  have gen : sres k fl (ssbv k f g) (ssbo f g) C = true → sO k σ h C z := by
    intro hc
    refine sres_ok hc hk (e := x - y) hv.1 hv.2 ?_ hz hfl
    intro f9 e9
    obtain ⟨f1, f2⟩ := f
    obtain ⟨g1, g2⟩ := g
    obtain ⟨wf1, ef⟩ := hf
    obtain ⟨wg1, eg⟩ := hg
    cases g1 with
    | none =>
      have eg : y = g2 := eg
      cases f1 with
      | none =>
        have ef : x = f2 := ef
        cases e9
        exact ⟨trivial, by show x - y = f2 - g2; omega⟩
      | some a =>
        have ef : x = σ a + f2 := ef
        cases e9
        exact ⟨wf1, by show x - y = σ a + (f2 - g2); omega⟩
    | some b =>
      have eg : y = σ b + g2 := eg
      cases f1 with
      | none => cases e9
      | some a =>
        have ef : x = σ a + f2 := ef
        simp only [ssbo] at e9
        split at e9
        · rename_i hab
          subst hab
          cases e9
          exact ⟨trivial, by show x - y = f2 - g2; omega⟩
        · cases e9
  unfold ssub at hc
  split at hc
  · rename_i a b ea eb
    split at hc
    · rename_i hin
      obtain ⟨f1, f2⟩ := f
      obtain ⟨g1, g2⟩ := g
      have ea : f1 = some a := ea
      have eb : g1 = some b := eb
      subst ea
      subst eb
      have ef : x = σ a + f2 := hf.2
      have eg : y = σ b + g2 := hg.2
      obtain ⟨σ', c1, c2, c3, c4⟩ := sfrT_ok (a := a) (b := b) (iv := ((ssbv k (some a, f2) (some b, g2)).1 - (f2 - g2), (ssbv k (some a, f2) (some b, g2)).2 - (f2 - g2))) hk hf.1 hg.1 (by show _ - _ ≤ _; omega) (by show _ ≤ _ - _; omega)
      refine ⟨_, _, σ', hc, c1, c2, c3, ?_⟩
      have ez := hz (by omega) (by omega)
      show z = σ' k.1.length + (f2 - g2)
      omega
    · exact gen hc
  · exact gen hc
/-- c times what f is -/
def smulc (fl : Int × Int) (k : sK) (f : sF) (c : Int) (C : sF → sK → Bool) : Bool := if 0 ≤ c then sres k fl (c * (siv k f).1, c * (siv k f).2) none C else sres k fl (c * (siv k f).2, c * (siv k f).1) none C
theorem smulc_ok {fl : Int × Int} {k : sK} {σ : Nat → Int} {h : zH} {f : sF} {c : Int} {C : sF → sK → Bool} {x z : Int} (hc : smulc fl k f c C = true) (hk : sKok k σ h) (hf : sR k.1.length σ f x) (hz : fl.1 ≤ c * x → c * x ≤ fl.2 → z = c * x) (hfl : fl.1 ≤ z ∧ z ≤ fl.2) : sO k σ h C z := by
  have a1 := siv_ok hk hf
  unfold smulc at hc
  split at hc
  · rename_i h0
    exact sres_ok hc hk (e := c * x) (Int.mul_le_mul_of_nonneg_left a1.1 h0) (Int.mul_le_mul_of_nonneg_left a1.2 h0) (fun _ e => by cases e) hz hfl
  · rename_i h0
    exact sres_ok hc hk (e := c * x) (Int.mul_le_mul_of_nonpos_left (by omega) a1.2) (Int.mul_le_mul_of_nonpos_left (by omega) a1.1) (fun _ e => by cases e) hz hfl
def smul (fl : Int × Int) (k : sK) (f g : sF) (C : sF → sK → Bool) : Bool :=
  match f.1, g.1 with
  | none, _ => smulc fl k g f.2 C
  | some _, none => smulc fl k f g.2 C
  | some _, some _ => if 0 ≤ (siv k f).1 ∧ 0 ≤ (siv k g).1 then sres k fl (0, (siv k f).2 * (siv k g).2) none C else snew k fl C
theorem smul_ok {fl : Int × Int} {k : sK} {σ : Nat → Int} {h : zH} {f g : sF} {C : sF → sK → Bool} {x y z : Int} (hc : smul fl k f g C = true) (hk : sKok k σ h) (hf : sR k.1.length σ f x) (hg : sR k.1.length σ g y) (hz : fl.1 ≤ x * y → x * y ≤ fl.2 → z = x * y) (hfl : fl.1 ≤ z ∧ z ≤ fl.2) : sO k σ h C z := by
  have a1 := siv_ok hk hf
  have a2 := siv_ok hk hg
  unfold smul at hc
  split at hc
  · rename_i e1
    have ex : x = f.2 := by
      rw [hf.2]
      simp only [sval, e1]
    subst ex
    exact smulc_ok hc hk hg hz hfl
  · rename_i a e1 e2
    have ey : y = g.2 := by
      rw [hg.2]
      simp only [sval, e2]
    subst ey
    exact smulc_ok hc hk hf (fun p q => by rw [Int.mul_comm] at p q; rw [hz p q, Int.mul_comm]) hfl
  · split at hc
    · rename_i hb
      have m0 : 0 ≤ x * y := Int.mul_nonneg (by omega) (by omega)
      have m1 : x * y ≤ (siv k f).2 * (siv k g).2 := Int.mul_le_mul a1.2 a2.2 (by omega) (by omega)
      exact sres_ok hc hk (e := x * y) m0 m1 (fun _ e => by cases e) hz hfl
    · exact snew_ok hc hk hfl.1 hfl.2
theorem sand_r (x y : Int32) (h : 0 ≤ y.toInt) : 0 ≤ (x &&& y).toInt ∧ (x &&& y).toInt ≤ y.toInt := by
  have e : (x &&& y).toBitVec = x.toBitVec &&& y.toBitVec := rfl
  have hy : y.toBitVec.msb = false := by
    rw [BitVec.msb_eq_false_iff_two_mul_lt] <;> skip
    have h2 : y.toInt = y.toBitVec.toInt := rfl
    rw [h2, BitVec.toInt_eq_toNat_cond] at h
    split at h <;> omega
  have hz : (x &&& y).toBitVec.msb = false := by rw [e, BitVec.msb_and, hy, Bool.and_false]
  have t1 : y.toInt = (y.toBitVec.toNat : Int) := by
    show y.toBitVec.toInt = _
    rw [BitVec.toInt_eq_msb_cond, hy]; rfl
  have t2 : (x &&& y).toInt = ((x &&& y).toBitVec.toNat : Int) := by
    show (x &&& y).toBitVec.toInt = _
    rw [BitVec.toInt_eq_msb_cond, hz]; rfl
  have t3 : (x &&& y).toBitVec.toNat ≤ y.toBitVec.toNat := by
    rw [e, BitVec.toNat_and]
    exact Nat.and_le_right
  rw [t1, t2]
  omega
def sand (k : sK) (f g : sF) (C : sF → sK → Bool) : Bool :=
  if 0 ≤ (siv k g).1 then snew k (0, (siv k g).2) C else if 0 ≤ (siv k f).1 then snew k (0, (siv k f).2) C else snew k sf32 C
theorem sand_ok {k : sK} {σ : Nat → Int} {h : zH} {f g : sF} {C : sF → sK → Bool} {x y : Int32} (hc : sand k f g C = true) (hk : sKok k σ h) (hf : sR k.1.length σ f x.toInt) (hg : sR k.1.length σ g y.toInt) : sO k σ h C (x &&& y).toInt := by
  have a1 := siv_ok hk hf
  have a2 := siv_ok hk hg
  unfold sand at hc
  split at hc
  · have m := sand_r x y (by omega)
    exact snew_ok hc hk m.1 (by show _ ≤ (siv k g).2; omega)
  · split at hc
    · have m := sand_r y x (by omega)
      rw [show y &&& x = x &&& y from Int32.and_comm y x] at m
      exact snew_ok hc hk m.1 (by show _ ≤ (siv k f).2; omega)
    · exact snew_ok hc hk (sf32_ok _).1 (sf32_ok _).2
theorem stmod {a b : Int} (hb : 0 < b) : -b < a - a.tdiv b * b ∧ a - a.tdiv b * b < b ∧ (0 ≤ a → 0 ≤ a - a.tdiv b * b) ∧ (0 ≤ a → 0 ≤ a.tdiv b ∧ a.tdiv b ≤ a) ∧ (a ≤ 0 → a.tdiv b ≤ 0 ∧ a ≤ a.tdiv b) ∧ (0 ≤ a → 0 ≤ a.tdiv b * b ∧ a.tdiv b * b ≤ a) ∧ (a ≤ 0 → a.tdiv b * b ≤ 0 ∧ a ≤ a.tdiv b * b) := by
  have e := Int.mul_tdiv_add_tmod a b
  have e' : a - a.tdiv b * b = a.tmod b := by rw [Int.mul_comm]; omega
  have m1 : a.tmod b < b := Int.tmod_lt_of_pos a hb
  have m3 : 0 ≤ a → 0 ≤ a.tmod b := fun h => Int.tmod_nonneg b h
  have m2 : -b < a.tmod b := by
    by_cases h : 0 ≤ a
    · have := m3 h
      omega
    · have h3 := Int.tmod_lt_of_pos (-a) hb
      rw [Int.neg_tmod] at h3
      omega
  have m4 : a ≤ 0 → a.tmod b ≤ 0 := fun h => by
    have h3 := Int.tmod_nonneg b (show 0 ≤ -a by omega)
    rw [Int.neg_tmod] at h3
    omega
  have hq1 : 0 ≤ a → 0 ≤ a.tdiv b ∧ a.tdiv b ≤ a := by
    intro h
    have q0 : 0 ≤ a.tdiv b := Int.tdiv_nonneg h (by omega)
    refine ⟨q0, ?_⟩
    have := m3 h
    have h5 : a.tdiv b * 1 ≤ a.tdiv b * b := Int.mul_le_mul_of_nonneg_left (by omega) q0
    omega
  have hq2 : a ≤ 0 → a.tdiv b ≤ 0 ∧ a ≤ a.tdiv b := by
    intro h
    have q0 : 0 ≤ (-a).tdiv b := Int.tdiv_nonneg (by omega) (by omega)
    rw [Int.neg_tdiv] at q0
    refine ⟨by omega, ?_⟩
    have := m4 h
    have h5 : -(a.tdiv b) * 1 ≤ -(a.tdiv b) * b := Int.mul_le_mul_of_nonneg_left (by omega) (by omega)
    simp only [Int.neg_mul, Int.mul_one] at h5
    omega
  refine ⟨by omega, by omega, by rw [e']; exact m3, hq1, hq2, fun h => ?_, fun h => ?_⟩
  · have hp : 0 ≤ a.tdiv b * b := Int.mul_nonneg (hq1 h).1 (by omega)
    have := m3 h
    omega
  · have hp : 0 ≤ -(a.tdiv b) * b := Int.mul_nonneg (by have := hq2 h; omega) (by omega)
    simp only [Int.neg_mul] at hp
    have := m4 h
    omega
theorem sdiv32 (x y : Int32) (hy : 0 < y.toInt) : (x / y).toInt = x.toInt.tdiv y.toInt ∧ (x - x / y * y).toInt = x.toInt - x.toInt.tdiv y.toInt * y.toInt := by
  have h1 := Int32.le_toInt x
  have h2 := Int32.toInt_lt x
  have h3 := Int32.toInt_lt y
  obtain ⟨b1, b2, b3, b4, b5, b6, b7⟩ := stmod (a := x.toInt) hy
  have e1 : (x / y).toInt = x.toInt.tdiv y.toInt := by
    rw [Int32.toInt_div]
    rw [Int.bmod_eq_of_le] <;> omega
  have e2 : (x / y * y).toInt = x.toInt.tdiv y.toInt * y.toInt := by
    rw [Int32.toInt_mul, e1]
    rw [Int.bmod_eq_of_le] <;> omega
  refine ⟨e1, ?_⟩
  rw [Int32.toInt_sub, e2]
  rw [Int.bmod_eq_of_le] <;> omega
theorem sdiv64 (x y : Int64) (hy : 0 < y.toInt) : (x / y).toInt = x.toInt.tdiv y.toInt ∧ (x - x / y * y).toInt = x.toInt - x.toInt.tdiv y.toInt * y.toInt := by
  have h1 := Int64.le_toInt x
  have h2 := Int64.toInt_lt x
  have h3 := Int64.toInt_lt y
  obtain ⟨b1, b2, b3, b4, b5, b6, b7⟩ := stmod (a := x.toInt) hy
  have e1 : (x / y).toInt = x.toInt.tdiv y.toInt := by
    rw [Int64.toInt_div]
    rw [Int.bmod_eq_of_le] <;> omega
  have e2 : (x / y * y).toInt = x.toInt.tdiv y.toInt * y.toInt := by
    rw [Int64.toInt_mul, e1]
    rw [Int.bmod_eq_of_le] <;> omega
  refine ⟨e1, ?_⟩
  rw [Int64.toInt_sub, e2]
  rw [Int.bmod_eq_of_le] <;> omega
/-- a new number below g -/
def snewL (k : sK) (iv : Int × Int) (g : sF) (C : sF → sK → Bool) : Bool := match g.1 with
  | none => snew k iv C
  | some b => if iv.1 = iv.2 then C (none, iv.1) k else C (some k.1.length, 0) (k.1 ++ [iv], ((b, k.1.length, 1 - g.2) :: k.2.1.1, k.2.1.2), k.2.2)
theorem snewL_ok {k : sK} {σ : Nat → Int} {h : zH} {iv : Int × Int} {g : sF} {C : sF → sK → Bool} {y z : Int} (hc : snewL k iv g C = true) (hk : sKok k σ h) (h1 : iv.1 ≤ z) (h2 : z ≤ iv.2) (hg : sR k.1.length σ g y) (hlt : z < y) : sO k σ h C z := by
  unfold snewL at hc
  split at hc
  · exact snew_ok hc hk h1 h2
  · rename_i b eb
    split at hc
    · rename_i e
      exact sO.same hc hk ⟨trivial, by show z = iv.1; omega⟩
    · obtain ⟨σ', c1, c2, c3⟩ := sfr_ok hk iv z h1 h2
      have e : σ' k.1.length = z := by
        have := c3.2
        have h9 : sval σ' (some k.1.length, 0) = σ' k.1.length + 0 := rfl
        omega
      obtain ⟨g1, g2⟩ := g
      have eb : g1 = some b := eb
      subst eb
      have hb : b < k.1.length := hg.1
      have eg : y = σ b + g2 := hg.2
      refine ⟨_, _, σ', hc, ⟨c1.1, ⟨fun t ht => ?_, c1.2.1.2⟩, c1.2.2⟩, c2, c3⟩
      rcases List.mem_cons.mp ht with e2 | ht
      · subst e2
        refine ⟨Nat.lt_of_lt_of_le hb c2.1, c3.1, ?_⟩
        show 1 - g2 ≤ σ' b - σ' k.1.length
        rw [c2.2 b hb, e]
        omega
      · exact c1.2.1.1 t ht
def srem (fl : Int × Int) (k : sK) (f g : sF) (C : sF → sK → Bool) : Bool :=
  if 0 < (siv k g).1 then (if 0 ≤ (siv k f).1 then snewL k (0, (siv k g).2 - 1) g C else snew k (-((siv k g).2 - 1), (siv k g).2 - 1) C) else if (siv k g).2 < 0 then snew k fl C else false
theorem srem_ok {fl : Int × Int} {k : sK} {σ : Nat → Int} {h : zH} {f g : sF} {C : sF → sK → Bool} {x y z : Int} (hc : srem fl k f g C = true) (hk : sKok k σ h) (hf : sR k.1.length σ f x) (hg : sR k.1.length σ g y) (hz : 0 < y → z = x - x.tdiv y * y) (hfl : fl.1 ≤ z ∧ z ≤ fl.2) : y ≠ 0 ∧ sO k σ h C z := by
  have a1 := siv_ok hk hf
  have a2 := siv_ok hk hg
  unfold srem at hc
  split at hc
  · have hy : 0 < y := by omega
    obtain ⟨b1, b2, b3, b4, b5, b6, b7⟩ := stmod (a := x) hy
    have ez := hz hy
    refine ⟨by omega, ?_⟩
    split at hc
    · have := b3 (by omega)
      exact snewL_ok hc hk (by show 0 ≤ z; omega) (by show z ≤ (siv k g).2 - 1; omega) hg (by omega)
    · exact snew_ok hc hk (by show -((siv k g).2 - 1) ≤ z; omega) (by show z ≤ (siv k g).2 - 1; omega)
  · split at hc
    · exact ⟨by omega, snew_ok hc hk hfl.1 hfl.2⟩
    · cases hc
def sdiv (fl : Int × Int) (k : sK) (f g : sF) (C : sF → sK → Bool) : Bool :=
  if 0 < (siv k g).1 then (if 0 ≤ (siv k f).1 then snew k (0, (siv k f).2) C else snew k fl C) else if (siv k g).2 < 0 then snew k fl C else false
theorem sdiv_ok {fl : Int × Int} {k : sK} {σ : Nat → Int} {h : zH} {f g : sF} {C : sF → sK → Bool} {x y z : Int} (hc : sdiv fl k f g C = true) (hk : sKok k σ h) (hf : sR k.1.length σ f x) (hg : sR k.1.length σ g y) (hz : 0 < y → z = x.tdiv y) (hfl : fl.1 ≤ z ∧ z ≤ fl.2) : y ≠ 0 ∧ sO k σ h C z := by
  have a1 := siv_ok hk hf
  have a2 := siv_ok hk hg
  unfold sdiv at hc
  split at hc
  · have hy : 0 < y := by omega
    obtain ⟨b1, b2, b3, b4, b5, b6, b7⟩ := stmod (a := x) hy
    have ez := hz hy
    refine ⟨by omega, ?_⟩
    split at hc
    · have := b4 (by omega)
      exact snew_ok hc hk (by show 0 ≤ z; omega) (by show z ≤ (siv k f).2; omega)
    · exact snew_ok hc hk hfl.1 hfl.2
  · split at hc
    · exact ⟨by omega, snew_ok hc hk hfl.1 hfl.2⟩
    · cases hc
def sbr (o : Option sK) (C : sK → Bool) : Bool := match o with
  | none => true
  | some k => C k
/-- what goes on in one branch -/
def sB (k : sK) (σ : Nat → Int) (h : zH) (C : sK → Bool) : Prop := ∃ k', C k' = true ∧ sKok k' σ h ∧ k'.1.length = k.1.length
def sifM (k : sK) (f g : sF) (T F : sK → Bool) : Bool := sbr (sasm k f g) T && sbr (sasm k g (f.1, f.2 - 1)) F
def sifL (k : sK) (f g : sF) (T F : sK → Bool) : Bool := sbr (sasm k (f.1, f.2 + 1) g) T && sbr (sasm k g f) F
def sifE (k : sK) (f g : sF) (T F : sK → Bool) : Bool := sbr (sasm k f g) (fun k' => sbr (sasm k' g f) T) && sbr (match f.1 with
  | none => sne k g f
  | some _ => sne k f g) (fun k' => F (slg k' 9 f g (none, 0)))
/-- unlike: less or more -/
def sifU (k : sK) (f g : sF) (T F : sK → Bool) : Bool := sbr (sasm k f g) (fun k' => sbr (sasm k' g f) T) && (sbr (sasm k (f.1, f.2 + 1) g) F && sbr (sasm k (g.1, g.2 + 1) f) F)
theorem sval_c (σ : Nat → Int) (f : sF) (c : Int) : sval σ (f.1, f.2 + c) = sval σ f + c := by
  obtain ⟨o, d⟩ := f
  cases o with
  | none => rfl
  | some n =>
    show σ n + (d + c) = σ n + d + c
    omega
theorem sasm_B {k : sK} {σ : Nat → Int} {h : zH} {f g : sF} {T : sK → Bool} (hc : sbr (sasm k f g) T = true) (hk : sKok k σ h) (hf : swf k.1.length f) (hg : swf k.1.length g) (hle : sval σ f ≤ sval σ g) : sB k σ h T := by
  obtain ⟨k', e, hk', hl⟩ := sasm_ok hk hf hg hle
  rw [e] at hc
  exact ⟨k', hc, hk', hl⟩
theorem sasmE_B {k : sK} {σ : Nat → Int} {h : zH} {f g : sF} {T : sK → Bool} (hc : sbr (sasm k f g) (fun k' => sbr (sasm k' g f) T) = true) (hk : sKok k σ h) (hf : swf k.1.length f) (hg : swf k.1.length g) (he : sval σ f = sval σ g) : sB k σ h T := by
  obtain ⟨k', c, hk', hl⟩ := sasm_B hc hk hf hg (by omega)
  obtain ⟨k2, c2, hk2, hl2⟩ := sasm_B c hk' (by rw [hl]; exact hg) (by rw [hl]; exact hf) (by omega)
  exact ⟨k2, c2, hk2, hl2.trans hl⟩
theorem sifM_ok {k : sK} {σ : Nat → Int} {h : zH} {f g : sF} {T F : sK → Bool} {x y : Int} (hc : sifM k f g T F = true) (hk : sKok k σ h) (hf : sR k.1.length σ f x) (hg : sR k.1.length σ g y) : (x ≤ y → sB k σ h T) ∧ (¬ x ≤ y → sB k σ h F) := by
  simp only [sifM, Bool.and_eq_true] at hc
  obtain ⟨c1, c2⟩ := hc
  have e1 := hf.2
  have e2 := hg.2
  have h3 := sval_c σ f (-1)
  rw [show f.2 + -1 = f.2 - 1 by omega] at h3
  exact ⟨fun hle => sasm_B c1 hk hf.1 hg.1 (by omega), fun hle => sasm_B c2 hk hg.1 (g := (f.1, f.2 - 1)) hf.1 (by omega)⟩
theorem sifL_ok {k : sK} {σ : Nat → Int} {h : zH} {f g : sF} {T F : sK → Bool} {x y : Int} (hc : sifL k f g T F = true) (hk : sKok k σ h) (hf : sR k.1.length σ f x) (hg : sR k.1.length σ g y) : (x < y → sB k σ h T) ∧ (¬ x < y → sB k σ h F) := by
  simp only [sifL, Bool.and_eq_true] at hc
  obtain ⟨c1, c2⟩ := hc
  have e1 := hf.2
  have e2 := hg.2
  have h3 := sval_c σ f 1
  exact ⟨fun hle => sasm_B c1 hk (f := (f.1, f.2 + 1)) hf.1 hg.1 (by omega), fun hle => sasm_B c2 hk hg.1 hf.1 (by omega)⟩
theorem sifE_ok {k : sK} {σ : Nat → Int} {h : zH} {f g : sF} {T F : sK → Bool} {x y : Int} (hc : sifE k f g T F = true) (hk : sKok k σ h) (hf : sR k.1.length σ f x) (hg : sR k.1.length σ g y) : (x = y → sB k σ h T) ∧ (¬ x = y → sB k σ h F) := by
  simp only [sifE, Bool.and_eq_true] at hc
  obtain ⟨c1, c2⟩ := hc
  have e1 := hf.2
  have e2 := hg.2
  refine ⟨fun he => sasmE_B c1 hk hf.1 hg.1 (by omega), fun he => ?_⟩
  have e0 : sval σ f ≠ sval σ g := by omega
  have fin : ∀ k' : sK, F (slg k' 9 f g (none, 0)) = true → sKok k' σ h → k'.1.length = k.1.length → sB k σ h F := fun k' c hk' hl =>
    ⟨_, c, slg_ok hk' ⟨by rw [hl]; exact hf.1, by rw [hl]; exact hg.1, trivial, fun _ => e0, fun e9 => absurd rfl e9⟩, by rw [slg_1]; exact hl⟩
  split at c2
  · obtain ⟨k', e, hk', hl⟩ := sne_ok hk (f := g) (g := f) (Ne.symm e0)
    rw [e] at c2
    exact fin k' c2 hk' hl
  · obtain ⟨k', e, hk', hl⟩ := sne_ok hk e0
    rw [e] at c2
    exact fin k' c2 hk' hl
theorem sifU_ok {k : sK} {σ : Nat → Int} {h : zH} {f g : sF} {T F : sK → Bool} {x y : Int} (hc : sifU k f g T F = true) (hk : sKok k σ h) (hf : sR k.1.length σ f x) (hg : sR k.1.length σ g y) : (x = y → sB k σ h T) ∧ (¬ x = y → sB k σ h F) := by
  simp only [sifU, Bool.and_eq_true] at hc
  obtain ⟨c1, c2, c3⟩ := hc
  have e1 := hf.2
  have e2 := hg.2
  have h3 := sval_c σ f 1
  have h4 := sval_c σ g 1
  refine ⟨fun he => sasmE_B c1 hk hf.1 hg.1 (by omega), fun he => ?_⟩
  by_cases hlt : x < y
  · exact sasm_B c2 hk (f := (f.1, f.2 + 1)) hf.1 hg.1 (by omega)
  · exact sasm_B c3 hk (f := (g.1, g.2 + 1)) hg.1 hf.1 (by omega)
/-- a switch -/
def ssw (k : sK) (f : sF) (C : Nat → sK → Bool) (d : Nat) : List Nat → Bool
  | v :: t :: r => sifE k f (none, (Int32.ofNat v).toInt) (C t) (fun k' => ssw k' f C d r)
  | _ => C d k
theorem ssw_ok {σ : Nat → Int} {h : zH} {f : sF} {x : Int32} {C : Nat → sK → Bool} {d : Nat} {Cp : Nat → Prop} {n : Nat} (hC : ∀ t k', C t k' = true → sKok k' σ h → k'.1.length = n → Cp t) : ∀ (r : List Nat) (k : sK), k.1.length = n → ssw k f C d r = true → sKok k σ h → sR k.1.length σ f x.toInt → zsw (ρ := Prop) Cp x d r
  | [], k, hn, hc, hk, _ => hC d k hc hk hn
  | [_], k, hn, hc, hk, _ => hC d k hc hk hn
  | v :: t :: r, k, hn, hc, hk, hf => by
    have hc : sifE k f (none, (Int32.ofNat v).toInt) (C t) (fun k' => ssw k' f C d r) = true := hc
    obtain ⟨h1, h2⟩ := sifE_ok (y := (Int32.ofNat v).toInt) hc hk hf ⟨trivial, rfl⟩
    show if x = Int32.ofNat v then Cp t else zsw Cp x d r
    split
    · rename_i e
      obtain ⟨k', c, a, b⟩ := h1 (by rw [e])
      exact hC t k' c a (b.trans hn)
    · rename_i e
      obtain ⟨k', c, a, b⟩ := h2 (fun e9 => e (Int32.toInt_inj.mp e9))
      exact ssw_ok hC r k' (b.trans hn) c a (by rw [b]; exact hf)
/-- each value by itself -/
def sspl (C : sF → sK → Bool) (f : sF) : Nat → Int → sK → Bool
  | 0, _, k => C f k
  | n + 1, v, k => sifE k f (none, v) (C (none, v)) (sspl C f n (v + 1))
theorem sspl_ok {σ : Nat → Int} {h : zH} {f : sF} {x : Int} {C : sF → sK → Bool} : ∀ (n : Nat) (v : Int) (k : sK), sspl C f n v k = true → sKok k σ h → sR k.1.length σ f x → ∃ f' k', C f' k' = true ∧ sKok k' σ h ∧ k'.1.length = k.1.length ∧ sR k'.1.length σ f' x
  | 0, _, k, hc, hk, hf => ⟨f, k, hc, hk, rfl, hf⟩
  | n + 1, v, k, hc, hk, hf => by
    have hc : sifE k f (none, v) (C (none, v)) (sspl C f n (v + 1)) = true := hc
    obtain ⟨h1, h2⟩ := sifE_ok (y := v) hc hk hf ⟨trivial, rfl⟩
    by_cases e : x = v
    · obtain ⟨k', c, a, b⟩ := h1 e
      exact ⟨_, k', c, a, b, trivial, e⟩
    · obtain ⟨k', c, a, b⟩ := h2 e
      obtain ⟨f', k2, c2, a2, b2, d2⟩ := sspl_ok n (v + 1) k' c a (by rw [b]; exact hf)
      exact ⟨f', k2, c2, a2, b2.trans b, d2⟩

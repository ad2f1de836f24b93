theorem sdiv_b {a b : Int} (hb : 0 < b) (h1 : -2147483648 ≤ a) (h2 : a ≤ 2147483647) : -2147483648 ≤ a.tdiv b ∧ a.tdiv b ≤ 2147483647 ∧ -2147483648 ≤ a.tdiv b * b ∧ a.tdiv b * b ≤ 2147483647 ∧ -b < a - a.tdiv b * b ∧ a - a.tdiv b * b < b ∧ (0 ≤ a → 0 ≤ a - a.tdiv b * b) := by
  have e := Int.mul_tdiv_add_tmod a b
  have e' : a - a.tdiv b * b = a.tmod b := by rw [Int.mul_comm]; omega
  have m1 : a.tmod b < b := Int.tmod_lt_of_pos a hb
  have m3 : 0 ≤ a → 0 ≤ a.tmod b := fun h => Int.tmod_nonneg b h
  have m2 : -b < a.tmod b := by
    by_cases h : 0 ≤ a
    · have := m3 h
      omega
    · have h3 := Int.tmod_lt_of_pos (-a) hb
      rw [Int.neg_tmod] at h3
      omega
  have m4 : a ≤ 0 → a.tmod b ≤ 0 := fun h => by
    have h3 := Int.tmod_nonneg b (show 0 ≤ -a by omega)
    rw [Int.neg_tmod] at h3
    omega
  have hq : (0 ≤ a → 0 ≤ a.tdiv b ∧ a.tdiv b ≤ a) ∧ (a ≤ 0 → a.tdiv b ≤ 0 ∧ a ≤ a.tdiv b) := by
    constructor
    · intro h
      have q0 : 0 ≤ a.tdiv b := Int.tdiv_nonneg h (by omega)
      refine ⟨q0, ?_⟩
      have := m3 h
      have h5 : a.tdiv b * 1 ≤ a.tdiv b * b := Int.mul_le_mul_of_nonneg_left (by omega) q0
      omega
    · intro h
      have q0 : 0 ≤ (-a).tdiv b := Int.tdiv_nonneg (by omega) (by omega)
      rw [Int.neg_tdiv] at q0
      refine ⟨by omega, ?_⟩
      have := m4 h
      have h5 : -(a.tdiv b) * 1 ≤ -(a.tdiv b) * b := Int.mul_le_mul_of_nonneg_left (by omega) (by omega)
      simp only [Int.neg_mul, Int.mul_one] at h5
      omega
  rw [e']
  by_cases h : 0 ≤ a
  · have := hq.1 h
    have := m3 h
    have hp : 0 ≤ a.tdiv b * b := Int.mul_nonneg (hq.1 h).1 (by omega)
    refine ⟨by omega, by omega, by omega, by omega, m2, m1, m3⟩
  · have := hq.2 (by omega)
    have := m4 (by omega)
    have hp : 0 ≤ -(a.tdiv b) * b := Int.mul_nonneg (by omega) (by omega)
    simp only [Int.neg_mul] at hp
    refine ⟨by omega, by omega, by omega, by omega, m2, m1, m3⟩
theorem srem_v (x y : Int32) (hy : 0 < y.toInt) : -y.toInt < (x - x / y * y).toInt ∧ (x - x / y * y).toInt < y.toInt ∧ (0 ≤ x.toInt → 0 ≤ (x - x / y * y).toInt) := by
  have h1 := Int32.le_toInt x
  have h2 := Int32.toInt_lt x
  have h3 := Int32.toInt_lt y
  obtain ⟨b1, b2, b3, b4, b5, b6, b7⟩ := sdiv_b (a := x.toInt) hy (by omega) (by omega)
  have e1 : (x / y).toInt = x.toInt.tdiv y.toInt := by
    rw [Int32.toInt_div]
    rw [Int.bmod_eq_of_le] <;> omega
  have e2 : (x / y * y).toInt = x.toInt.tdiv y.toInt * y.toInt := by
    rw [Int32.toInt_mul, e1]
    rw [Int.bmod_eq_of_le] <;> omega
  have e3 : (x - x / y * y).toInt = x.toInt - x.toInt.tdiv y.toInt * y.toInt := by
    rw [Int32.toInt_sub, e2]
    rw [Int.bmod_eq_of_le] <;> omega
  rw [e3]
  exact ⟨b5, b6, b7⟩
def srem (k : sK) (f g : sF) (C : sF → sK → Bool) : Bool :=
  if 0 < (siv k g).1 then (if 0 ≤ (siv k f).1 then snew k (0, (siv k g).2 - 1) C else snew k (-((siv k g).2 - 1), (siv k g).2 - 1) C) else if (siv k g).2 < 0 then snew k sFull C else false
theorem srem_ok {k : sK} {σ : Nat → Int} {h : zH} {f g : sF} {C : sF → sK → Bool} {x y : Int32} (hc : srem k f g C = true) (hk : sKok k σ h) (hf : sR k.1.length σ f x) (hg : sR k.1.length σ g y) : ¬ y = 0 ∧ sO k σ h C (x - x / y * y) := by
  have a1 := siv_ok hk hf
  have a2 := siv_ok hk hg
  have z0 : (0 : Int32).toInt = 0 := by decide
  unfold srem at hc
  split at hc
  · have hy : 0 < y.toInt := by omega
    obtain ⟨b1, b2, b3⟩ := srem_v x y hy
    refine ⟨fun e => by rw [e, z0] at hy; omega, ?_⟩
    split at hc
    · exact snew_ok hc hk (b3 (by omega)) (by show _ ≤ (siv k g).2 - 1; omega)
    · exact snew_ok hc hk (by show -((siv k g).2 - 1) ≤ _; omega) (by show _ ≤ (siv k g).2 - 1; omega)
  · split at hc
    · refine ⟨fun e => ?_, snew_ok hc hk (sFull_ok _).1 (sFull_ok _).2⟩
      rw [e, z0] at a2
      omega
    · cases hc
def sdiv (k : sK) (f g : sF) (C : sF → sK → Bool) : Bool :=
  if 0 < (siv k g).1 then (if 0 ≤ (siv k f).1 then snew k (0, (siv k f).2) C else snew k sFull C) else if (siv k g).2 < 0 then snew k sFull C else false
theorem sdiv_ok {k : sK} {σ : Nat → Int} {h : zH} {f g : sF} {C : sF → sK → Bool} {x y : Int32} (hc : sdiv k f g C = true) (hk : sKok k σ h) (hf : sR k.1.length σ f x) (hg : sR k.1.length σ g y) : ¬ y = 0 ∧ sO k σ h C (x / y) := by
  have a1 := siv_ok hk hf
  have a2 := siv_ok hk hg
  have z0 : (0 : Int32).toInt = 0 := by decide
  have h1 := Int32.le_toInt x
  have h2 := Int32.toInt_lt x
  unfold sdiv at hc
  split at hc
  · have hy : 0 < y.toInt := by omega
    refine ⟨fun e => by rw [e, z0] at hy; omega, ?_⟩
    obtain ⟨b1, b2, b3, b4, b5, b6, b7⟩ := sdiv_b (a := x.toInt) hy (by omega) (by omega)
    have e1 : (x / y).toInt = x.toInt.tdiv y.toInt := by
      rw [Int32.toInt_div]
      rw [Int.bmod_eq_of_le] <;> omega
    split at hc
    · have q0 : 0 ≤ x.toInt.tdiv y.toInt := Int.tdiv_nonneg (by omega) (by omega)
      have h5 : x.toInt.tdiv y.toInt * 1 ≤ x.toInt.tdiv y.toInt * y.toInt := Int.mul_le_mul_of_nonneg_left (by omega) q0
      have := b7 (by omega)
      exact snew_ok hc hk (by rw [e1]; exact q0) (by rw [e1]; show _ ≤ (siv k f).2; omega)
    · exact snew_ok hc hk (sFull_ok _).1 (sFull_ok _).2
  · split at hc
    · refine ⟨fun e => ?_, snew_ok hc hk (sFull_ok _).1 (sFull_ok _).2⟩
      rw [e, z0] at a2
      omega
    · cases hc

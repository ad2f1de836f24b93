def scat : sV → Nat
  | .inr (.inr (.inr _)) => 2
  | _ => 1
theorem scat_ok {n : Nat} {σ : Nat → Int} : ∀ {a : sV} {v : Value}, sVR n σ a v → v.category = scat a
  | .inl _, _, ⟨_, e, _⟩ => by rw [e]; rfl
  | .inr (.inl _), _, e => by rw [show _ = _ from e]; rfl
  | .inr (.inr (.inl _)), _, e => by rw [show _ = _ from e]; rfl
  | .inr (.inr (.inr _)), _, ⟨_, e, _⟩ => by rw [e]; rfl
def slget : sL → Nat → Option sV
  | [], _ => none
  | q :: r, i => if q.1 = i then some q.2 else slget r i
theorem slget_ok {n : Nat} {σ : Nat → Int} {i : Nat} {a : sV} : ∀ {l : sL} {l' : zL}, sLR n σ l l' → slget l i = some a → ∃ v, zget l' i = some v ∧ sVR n σ a v
  | q :: r, _, ⟨v, t, e, h1, h2⟩, h => by
    subst e
    simp only [slget] at h
    simp only [zget]
    split at h
    · rename_i e
      cases h
      exact ⟨v, if_pos e, h1⟩
    · rename_i e
      obtain ⟨v', e1, e2⟩ := slget_ok h2 h
      exact ⟨v', by rw [if_neg e]; exact e1, e2⟩
def slset (l : sL) (i : Nat) (v : sV) : sL := (i, v) :: l.filter (fun q => !(q.1 == i) && !(q.1 + 1 == i && scat q.2 == 2))
def slset2 (l : sL) (i : Nat) (v : sV) : sL := (i, v) :: l.filter (fun q => !(q.1 == i) && (!(q.1 == i + 1) && !(q.1 + 1 == i && scat q.2 == 2)))
theorem sLR.fl {n : Nat} {σ : Nat → Int} {p : Nat × sV → Bool} {p' : Nat × Value → Bool} (hp : ∀ i a v, sVR n σ a v → p (i, a) = p' (i, v)) : ∀ {l : sL} {l' : zL}, sLR n σ l l' → sLR n σ (l.filter p) (l'.filter p')
  | [], _, h => by
    have h : _ = [] := h
    subst h
    exact rfl
  | a :: r, _, ⟨v, t, e, h1, h2⟩ => by
    subst e
    have ih := sLR.fl hp h2
    have e := hp a.1 a.2 v h1
    have e' : p a = p' (a.1, v) := e
    cases hb : p a with
    | true =>
      rw [List.filter_cons_of_pos hb, List.filter_cons_of_pos (by rw [← e']; exact hb)]
      exact ⟨v, _, rfl, h1, ih⟩
    | false =>
      rw [List.filter_cons_of_neg (by rw [hb]; decide), List.filter_cons_of_neg (by rw [← e', hb]; decide)]
      exact ih
theorem slset_ok {n : Nat} {σ : Nat → Int} {l : sL} {l' : zL} {i : Nat} {a : sV} {v : Value} (h : sLR n σ l l') (hv : sVR n σ a v) : sLR n σ (slset l i a) (zset l' i v) :=
  ⟨v, _, rfl, hv, sLR.fl (fun j b u hu => by simp only [scat_ok hu]) h⟩
theorem slset2_ok {n : Nat} {σ : Nat → Int} {l : sL} {l' : zL} {i : Nat} {a : sV} {v : Value} (h : sLR n σ l l') (hv : sVR n σ a v) : sLR n σ (slset2 l i a) (zset2 l' i v) :=
  ⟨v, _, rfl, hv, sLR.fl (fun j b u hu => by simp only [scat_ok hu]) h⟩
def smul (k : sK) (f g : sF) (C : sF → sK → Bool) : Bool :=
  match f.1, g.1 with
  | none, none => if sin32 (f.2 * g.2, f.2 * g.2) = true then C (none, f.2 * g.2) k else snew k sFull C
  | none, some _ => if 0 ≤ f.2 ∧ sin32 (f.2 * (siv k g).1, f.2 * (siv k g).2) = true then snew k (f.2 * (siv k g).1, f.2 * (siv k g).2) C else snew k sFull C
  | some _, none => if 0 ≤ g.2 ∧ sin32 (g.2 * (siv k f).1, g.2 * (siv k f).2) = true then snew k (g.2 * (siv k f).1, g.2 * (siv k f).2) C else snew k sFull C
  | some _, some _ => snew k sFull C
theorem smul_ok {k : sK} {σ : Nat → Int} {h : zH} {f g : sF} {C : sF → sK → Bool} {x y : Int32} (hc : smul k f g C = true) (hk : sKok k σ h) (hf : sR k.1.length σ f x) (hg : sR k.1.length σ g y) : sO k σ h C (x * y) := by
  have a1 := siv_ok hk hf
  have a2 := siv_ok hk hg
  have key : ∀ lo hi : Int, sin32 (lo, hi) = true → lo ≤ x.toInt * y.toInt → x.toInt * y.toInt ≤ hi → (x * y).toInt = x.toInt * y.toInt := by
    intro lo hi h1 h2 h3
    rw [Int32.toInt_mul]
    exact sin32_bmod h1 h2 h3
  obtain ⟨f1, f2⟩ := f
  obtain ⟨g1, g2⟩ := g
  obtain ⟨wf1, ef⟩ := hf
  obtain ⟨wg1, eg⟩ := hg
  unfold smul at hc
  cases f1 with
  | none =>
    have ef : x.toInt = f2 := ef
    cases g1 with
    | none =>
      have eg : y.toInt = g2 := eg
      simp only at hc
      split at hc
      · rename_i hin
        have e := key _ _ hin (by rw [ef, eg]; exact Int.le_refl _) (by rw [ef, eg]; exact Int.le_refl _)
        refine sO.same (f := (none, f2 * g2)) hc hk trivial ?_
        show (x * y).toInt = f2 * g2
        rw [e, ef, eg]
      · exact snew_ok hc hk (sFull_ok _).1 (sFull_ok _).2
    | some b =>
      simp only at hc
      split at hc
      · rename_i hin
        have m1 : f2 * (siv k (some b, g2)).1 ≤ x.toInt * y.toInt := by rw [ef]; exact Int.mul_le_mul_of_nonneg_left a2.1 hin.1
        have m2 : x.toInt * y.toInt ≤ f2 * (siv k (some b, g2)).2 := by rw [ef]; exact Int.mul_le_mul_of_nonneg_left a2.2 hin.1
        have e := key _ _ hin.2 m1 m2
        exact snew_ok hc hk (by rw [e]; exact m1) (by rw [e]; exact m2)
      · exact snew_ok hc hk (sFull_ok _).1 (sFull_ok _).2
  | some a =>
    cases g1 with
    | none =>
      have eg : y.toInt = g2 := eg
      simp only at hc
      split at hc
      · rename_i hin
        have m1 : g2 * (siv k (some a, f2)).1 ≤ x.toInt * y.toInt := by rw [eg, Int.mul_comm x.toInt]; exact Int.mul_le_mul_of_nonneg_left a1.1 hin.1
        have m2 : x.toInt * y.toInt ≤ g2 * (siv k (some a, f2)).2 := by rw [eg, Int.mul_comm x.toInt]; exact Int.mul_le_mul_of_nonneg_left a1.2 hin.1
        have e := key _ _ hin.2 m1 m2
        exact snew_ok hc hk (by rw [e]; exact m1) (by rw [e]; exact m2)
      · exact snew_ok hc hk (sFull_ok _).1 (sFull_ok _).2
    | some b => exact snew_ok hc hk (sFull_ok _).1 (sFull_ok _).2
theorem sand_r (x y : Int32) (h : 0 ≤ y.toInt) : 0 ≤ (x &&& y).toInt ∧ (x &&& y).toInt ≤ y.toInt := by
  have e : (x &&& y).toBitVec = x.toBitVec &&& y.toBitVec := rfl
  have hy : y.toBitVec.msb = false := by
    rw [BitVec.msb_eq_false_iff_two_mul_lt] <;> skip
    have h2 : y.toInt = y.toBitVec.toInt := rfl
    rw [h2, BitVec.toInt_eq_toNat_cond] at h
    split at h <;> omega
  have hz : (x &&& y).toBitVec.msb = false := by rw [e, BitVec.msb_and, hy, Bool.and_false]
  have t1 : y.toInt = (y.toBitVec.toNat : Int) := by
    show y.toBitVec.toInt = _
    rw [BitVec.toInt_eq_msb_cond, hy]; rfl
  have t2 : (x &&& y).toInt = ((x &&& y).toBitVec.toNat : Int) := by
    show (x &&& y).toBitVec.toInt = _
    rw [BitVec.toInt_eq_msb_cond, hz]; rfl
  have t3 : (x &&& y).toBitVec.toNat ≤ y.toBitVec.toNat := by
    rw [e, BitVec.toNat_and]
    exact Nat.and_le_right
  rw [t1, t2]
  omega
def sand (k : sK) (f g : sF) (C : sF → sK → Bool) : Bool :=
  if 0 ≤ (siv k g).1 then snew k (0, (siv k g).2) C else if 0 ≤ (siv k f).1 then snew k (0, (siv k f).2) C else snew k sFull C
theorem sand_ok {k : sK} {σ : Nat → Int} {h : zH} {f g : sF} {C : sF → sK → Bool} {x y : Int32} (hc : sand k f g C = true) (hk : sKok k σ h) (hf : sR k.1.length σ f x) (hg : sR k.1.length σ g y) : sO k σ h C (x &&& y) := by
  have a1 := siv_ok hk hf
  have a2 := siv_ok hk hg
  unfold sand at hc
  split at hc
  · have m := sand_r x y (by omega)
    exact snew_ok hc hk m.1 (by show _ ≤ (siv k g).2; omega)
  · split at hc
    · have m := sand_r y x (by omega)
      rw [show y &&& x = x &&& y from Int32.and_comm y x] at m
      exact snew_ok hc hk m.1 (by show _ ≤ (siv k f).2; omega)
    · exact snew_ok hc hk (sFull_ok _).1 (sFull_ok _).2

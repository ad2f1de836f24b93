/-- a world that keeps its shape: shapes, references, intervals of the fields of objects, of the elements of arrays -/
abbrev sW : Type := List zSh × (Nat → Nat → Option Nat) × (Nat → Nat → Int × Int) × (Nat → Int × Int)
def sIv (w : sW) (q k : Nat) : Int × Int := match w.1[q]? with
  | some (0, _) => w.2.2.1 q k
  | _ => w.2.2.2 q
def sInv (w : sW) (h : zH) : Prop := h.1 = w.1 ∧ h.2.2.2 = w.2.1 ∧ ∀ q k, (sIv w q k).1 ≤ (h.2.1 q k).toInt ∧ (h.2.1 q k).toInt ≤ (sIv w q k).2
/-- nothing but these cells is written -/
abbrev sM : Type := List (Nat × Option Nat)
def smem (md : sM) (q k : Nat) : Bool := md.any (fun t => t.1 == q && (match t.2 with
  | none => true
  | some j => j == k))
def smemA (md : sM) (q : Nat) : Bool := md.any (fun t => t.1 == q && t.2.isNone)
def smemQ (md : sM) (q : Nat) : Bool := md.any (fun t => t.1 == q)
theorem smemA_ok {md : sM} {q : Nat} (h : smemA md q = true) (k : Nat) : smem md q k = true := by
  obtain ⟨t, ht, hc⟩ := List.any_eq_true.mp h
  refine List.any_eq_true.mpr ⟨t, ht, ?_⟩
  simp only [Bool.and_eq_true] at hc ⊢
  refine ⟨hc.1, ?_⟩
  rw [Option.isNone_iff_eq_none.mp hc.2]
theorem smemQ_ok {md : sM} {q : Nat} (h : smemQ md q = false) (k : Nat) : smem md q k = false := by
  cases hb : smem md q k with
  | false => rfl
  | true =>
    obtain ⟨t, ht, hc⟩ := List.any_eq_true.mp hb
    simp only [Bool.and_eq_true] at hc
    have h2 : smemQ md q = true := List.any_eq_true.mpr ⟨t, ht, hc.1⟩
    rw [h2] at h
    cases h
def sMd (md : sM) (h0 h : zH) : Prop := ∀ q k, smem md q k = false → h.2.1 q k = h0.2.1 q k
theorem sMd.rf {md : sM} {h : zH} : sMd md h h := fun _ _ _ => rfl
theorem sMd.tr {md md' : sM} {h0 h1 h2 : zH} (a : sMd md h0 h1) (b : sMd md' h1 h2) (hs : ∀ q k, smem md' q k = true → smem md q k = true) : sMd md h0 h2 := fun q k hq => by
  cases hb : smem md' q k with
  | true =>
    rw [hs q k hb] at hq
    cases hq
  | false => exact (b q k hb).trans (a q k hq)
def sin (a b : Int × Int) : Bool := decide (b.1 ≤ a.1) && decide (a.2 ≤ b.2)
theorem sInv.set {w : sW} {h : zH} (hi : sInv w h) {q j : Nat} {x : Int32} (h1 : (sIv w q j).1 ≤ x.toInt) (h2 : x.toInt ≤ (sIv w q j).2) : sInv w (zsI h q j x) := by
  obtain ⟨a1, a2, a3⟩ := hi
  refine ⟨a1, a2, fun q' k' => ?_⟩
  show (sIv w q' k').1 ≤ (zu2 h.2.1 q j x q' k').toInt ∧ (zu2 h.2.1 q j x q' k').toInt ≤ (sIv w q' k').2
  by_cases e : q' = q
  · by_cases e2 : k' = j
    · subst e; subst e2
      simp only [zu2, if_true]
      exact ⟨h1, h2⟩
    · simp only [zu2, e, e2, if_true, if_false]
      rw [← e]
      exact a3 q' k'
  · rw [zu2_ne e]
    exact a3 q' k'
theorem sInv.setL {w : sW} {h : zH} (hi : sInv w h) {q j : Nat} {x : Int64} : sInv w (zsL h q j x) := hi
theorem sMd.set {md : sM} {h0 h : zH} (hm : sMd md h0 h) {q j : Nat} {x : Int32} (hq : smem md q j = true) : sMd md h0 (zsI h q j x) := fun q' k' hq' => by
  show zu2 h.2.1 q j x q' k' = _
  by_cases e : q' = q
  · by_cases e2 : k' = j
    · rw [e, e2, hq] at hq'
      cases hq'
    · simp only [zu2, e, e2, if_true, if_false]
      rw [← e]
      exact hm q' k' hq'
  · rw [zu2_ne e]
    exact hm q' k' hq'
theorem sMd.setL {md : sM} {h0 h : zH} (hm : sMd md h0 h) {q j : Nat} {x : Int64} : sMd md h0 (zsL h q j x) := hm
theorem sKok.setL {k : sK} {σ : Nat → Int} {h : zH} (hk : sKok k σ h) {q j : Nat} {x : Int64} : sKok k σ (zsL h q j x) := hk
/-- two places of one cell that are surely not the same -/
def sapart (a b : sF) : Bool := match a.1, b.1 with
  | none, none => decide (0 ≤ a.2) && decide (0 ≤ b.2) && decide (a.2 ≠ b.2)
  | _, _ => false
def swr (k : sK) (q : Nat) (ix v : sF) : sK := (k.1, k.2.1, (q, ix, v) :: k.2.2.filter (fun t => !(t.1 == q) || sapart t.2.1 ix))
def sdr (k : sK) (q : Nat) : sK := (k.1, k.2.1, k.2.2.filter (fun t => !(t.1 == q)))
theorem swr_ok {k : sK} {σ : Nat → Int} {h : zH} (hk : sKok k σ h) {q : Nat} {ix v : sF} {j x : Int32} (hj : sR k.1.length σ ix j) (hx : sR k.1.length σ v x) : sKok (swr k q ix v) σ (zsI h q j.toNatClampNeg x) := by
  obtain ⟨a1, a2, a3⟩ := hk
  refine ⟨a1, a2, fun t ht => ?_⟩
  have ej : j.toNatClampNeg = (sval σ ix).toNat := by
    show j.toInt.toNat = _
    rw [hj.2]
  rcases List.mem_cons.mp ht with e | ht
  · subst e
    refine ⟨hj.1, hx.1, ?_⟩
    show (zu2 h.2.1 q j.toNatClampNeg x q (sval σ ix).toNat).toInt = sval σ v
    rw [ej]
    simp only [zu2, if_true]
    exact hx.2
  · obtain ⟨ht, hc⟩ := List.mem_filter.mp ht
    obtain ⟨b1, b2, b3⟩ := a3 t ht
    refine ⟨b1, b2, ?_⟩
    show (zu2 h.2.1 q j.toNatClampNeg x t.1 (sval σ t.2.1).toNat).toInt = _
    by_cases e : t.1 = q
    · have hne : (sval σ t.2.1).toNat ≠ j.toNatClampNeg := by
        rw [ej]
        simp only [Bool.or_eq_true, Bool.not_eq_true', beq_eq_false_iff_ne, ne_eq] at hc
        rcases hc with hc | hc
        · exact absurd e hc
        · obtain ⟨q9, ⟨o1, c1⟩, v9⟩ := t
          obtain ⟨o2, c2⟩ := ix
          cases o1 with
          | some a => cases o2 <;> cases hc
          | none =>
            cases o2 with
            | some a => cases hc
            | none =>
              have hc : (decide (0 ≤ c1) && decide (0 ≤ c2) && decide (c1 ≠ c2)) = true := hc
              simp only [Bool.and_eq_true, decide_eq_true_eq] at hc
              show c1.toNat ≠ c2.toNat
              omega
      simp only [zu2, e, hne, if_true, if_false]
      rw [← e]
      exact b3
    · rw [zu2_ne e]
      exact b3
theorem sdr_ok {k : sK} {σ : Nat → Int} {h h' : zH} (hk : sKok k σ h) {q : Nat} (hh : ∀ a, a ≠ q → h'.2.1 a = h.2.1 a) : sKok (sdr k q) σ h' := by
  obtain ⟨a1, a2, a3⟩ := hk
  refine ⟨a1, a2, fun t ht => ?_⟩
  obtain ⟨ht, hc⟩ := List.mem_filter.mp ht
  obtain ⟨b1, b2, b3⟩ := a3 t ht
  have hne : t.1 ≠ q := by simpa using hc
  exact ⟨b1, b2, by rw [hh _ hne]; exact b3⟩
/-- after a call that writes these cells -/
def sca (k : sK) (md : sM) : sK := (k.1, k.2.1, k.2.2.filter (fun t => match t.2.1.1 with
  | none => !smem md t.1 t.2.1.2.toNat
  | some _ => !smemQ md t.1))
theorem sca_ok {k : sK} {σ : Nat → Int} {h h' : zH} (hk : sKok k σ h) {md : sM} (hm : sMd md h h') : sKok (sca k md) σ h' := by
  obtain ⟨a1, a2, a3⟩ := hk
  refine ⟨a1, a2, fun t ht => ?_⟩
  obtain ⟨ht, hc⟩ := List.mem_filter.mp ht
  obtain ⟨b1, b2, b3⟩ := a3 t ht
  refine ⟨b1, b2, ?_⟩
  have hne : smem md t.1 (sval σ t.2.1).toNat = false := by
    obtain ⟨q9, ⟨o1, c1⟩, v9⟩ := t
    cases o1 with
    | none =>
      have hc : (!smem md q9 c1.toNat) = true := hc
      show smem md q9 c1.toNat = false
      simpa using hc
    | some a =>
      have hc : (!smemQ md q9) = true := hc
      exact smemQ_ok (by simpa using hc) _
  rw [hm _ _ hne]
  exact b3
def slook (c : sC) (q : Nat) (ix : sF) : Option sF := match c with
  | [] => none
  | t :: r => if t.1 = q ∧ t.2.1 = ix then some t.2.2 else slook r q ix
theorem slook_mem : ∀ {c : sC} {q : Nat} {ix v : sF}, slook c q ix = some v → (q, ix, v) ∈ c
  | t :: r, q, ix, v, h => by
    simp only [slook] at h
    split at h
    · rename_i e
      cases h
      obtain ⟨a, b, d⟩ := t
      obtain ⟨e1, e2⟩ := e
      have e1 : a = q := e1
      have e2 : b = ix := e2
      subst e1; subst e2
      exact List.mem_cons_self
    · exact List.mem_cons_of_mem _ (slook_mem h)
/-- an int of the world is read -/
def srd (k : sK) (q : Nat) (ix : sF) (iv : Int × Int) (C : sF → sK → Bool) : Bool := match slook k.2.2 q ix with
  | some v => C v k
  | none => C (some k.1.length, 0) (k.1 ++ [iv], k.2.1, (q, ix, (some k.1.length, 0)) :: k.2.2)
theorem srd_ok {k : sK} {σ : Nat → Int} {h : zH} {q : Nat} {ix : sF} {iv : Int × Int} {C : sF → sK → Bool} {j : Int32} (hc : srd k q ix iv C = true) (hk : sKok k σ h) (hj : sR k.1.length σ ix j) (h1 : iv.1 ≤ (h.2.1 q j.toNatClampNeg).toInt) (h2 : (h.2.1 q j.toNatClampNeg).toInt ≤ iv.2) : sO k σ h C (h.2.1 q j.toNatClampNeg) := by
  have ej : j.toNatClampNeg = (sval σ ix).toNat := by
    show j.toInt.toNat = _
    rw [hj.2]
  unfold srd at hc
  split at hc
  · rename_i v hv
    obtain ⟨b1, b2, b3⟩ := hk.2.2 _ (slook_mem hv)
    refine sO.same hc hk b2 ?_
    rw [ej]
    exact b3
  · obtain ⟨σ', a, b, c⟩ := sfr_ok hk iv (h.2.1 q j.toNatClampNeg) h1 h2
    refine ⟨_, _, σ', hc, ⟨a.1, a.2.1, fun t ht => ?_⟩, b, c⟩
    rcases List.mem_cons.mp ht with e | ht
    · subst e
      obtain ⟨w1, w2⟩ := hj.1.x b
      refine ⟨w1, c.1, ?_⟩
      show (h.2.1 q (sval σ' ix).toNat).toInt = sval σ' (some k.1.length, 0)
      rw [w2, ← ej]
      exact c.2
    · exact a.2.2 t ht

/-- intervals by index: up to which, from, to -/
abbrev sSg : Type := List (Nat × Int × Int)
def sgAt : sSg → Nat → Int × Int
  | [], _ => (-2147483648, 2147483647)
  | s :: r, k => if k < s.1 then s.2 else sgAt r k
/-- all that there is from one index to another -/
def sgHu : sSg → Nat → Nat → Option (Int × Int)
  | [], _, _ => none
  | s :: r, a, b => if b < s.1 then (if a < s.1 then some s.2 else none) else if a < s.1 then (match sgHu r s.1 b with
    | some iv => some (min s.2.1 iv.1, max s.2.2 iv.2)
    | none => none) else sgHu r a b
theorem sgHu_ok : ∀ {S : sSg} {a b k : Nat} {iv : Int × Int}, sgHu S a b = some iv → a ≤ k → k ≤ b → iv.1 ≤ (sgAt S k).1 ∧ (sgAt S k).2 ≤ iv.2
  | s :: r, a, b, k, iv, h, h1, h2 => by
    simp only [sgHu] at h
    simp only [sgAt]
    split at h
    · rename_i e1
      split at h
      · cases h
        rw [if_pos (by omega)]
        omega
      · cases h
    · rename_i e1
      split at h
      · rename_i e2
        split at h
        · rename_i jv e3
          cases h
          show min s.2.1 jv.1 ≤ _ ∧ _ ≤ max s.2.2 jv.2
          split
          · omega
          · have := sgHu_ok e3 (show s.1 ≤ k by omega) h2
            omega
        · cases h
      · rename_i e2
        rw [if_neg (by omega)]
        exact sgHu_ok h h1 h2
/-- within all of them -/
def sgIn : sSg → Nat → Nat → Int × Int → Bool
  | [], _, _, _ => false
  | s :: r, a, b, v => if b < s.1 then decide (a < s.1) && (decide (s.2.1 ≤ v.1) && decide (v.2 ≤ s.2.2)) else if a < s.1 then decide (s.2.1 ≤ v.1) && (decide (v.2 ≤ s.2.2) && sgIn r s.1 b v) else sgIn r a b v
theorem sgIn_ok : ∀ {S : sSg} {a b k : Nat} {v : Int × Int}, sgIn S a b v = true → a ≤ k → k ≤ b → (sgAt S k).1 ≤ v.1 ∧ v.2 ≤ (sgAt S k).2
  | s :: r, a, b, k, v, h, h1, h2 => by
    simp only [sgIn] at h
    simp only [sgAt]
    split at h
    · simp only [Bool.and_eq_true, decide_eq_true_eq] at h
      rw [if_pos (by omega)]
      exact h.2
    · split at h
      · simp only [Bool.and_eq_true, decide_eq_true_eq] at h
        split
        · exact ⟨h.1, h.2.1⟩
        · exact sgIn_ok h.2.2 (by omega) h2
      · rw [if_neg (by omega)]
        exact sgIn_ok h h1 h2
/-- where this array's element is within .., that one's, so much further on, is within ..; for all indices below N that can be divided by s -/
abbrev sIm : Type := Nat × Nat × Nat × (Int × Int) × (Int × Int) × Nat × Nat
/-- a world that keeps its shape: shapes, what references may be, intervals of the fields of objects, of the elements of arrays, what follows from what, fields that are looked at value by value -/
abbrev sW : Type := List zSh × (Nat → Nat → List Nat) × (Nat → Nat → Int × Int) × (Nat → sSg) × List sIm × List (Nat × Nat)
def sIv (w : sW) (q k : Nat) : Int × Int := match w.1[q]? with
  | some (0, _) => w.2.2.1 q k
  | _ => sgAt (w.2.2.2.1 q) k
def sImp (m : sIm) (h : zH) : Prop := ∀ i, i < m.2.2.2.2.2.1 → i % m.2.2.2.2.2.2 = 0 → m.2.2.2.1.1 ≤ (h.2.1 m.1 i).toInt → (h.2.1 m.1 i).toInt ≤ m.2.2.2.1.2 → m.2.2.2.2.1.1 ≤ (h.2.1 m.2.1 (i + m.2.2.1)).toInt ∧ (h.2.1 m.2.1 (i + m.2.2.1)).toInt ≤ m.2.2.2.2.1.2
def sInv (w : sW) (h : zH) : Prop := h.1 = w.1 ∧ (∀ q k, w.2.1 q k ≠ [] → ∃ r, r ∈ w.2.1 q k ∧ h.2.2.2 q k = some r) ∧ (∀ q k, (sIv w q k).1 ≤ (h.2.1 q k).toInt ∧ (h.2.1 q k).toInt ≤ (sIv w q k).2) ∧ ∀ m ∈ w.2.2.2.2.1, sImp m h
/-- nothing is told of this cell, from this index on, by what follows from what -/
def sfree (w : sW) (q a : Nat) : Bool := w.2.2.2.2.1.all (fun m => (!(m.1 == q) || decide (m.2.2.2.2.2.1 ≤ a)) && (!(m.2.1 == q) || decide (m.2.2.2.2.2.1 + m.2.2.1 ≤ a)))
theorem sImp.kept {m : sIm} {h h' : zH} (e1 : ∀ i, i < m.2.2.2.2.2.1 → h'.2.1 m.1 i = h.2.1 m.1 i) (e2 : ∀ i, i < m.2.2.2.2.2.1 → h'.2.1 m.2.1 (i + m.2.2.1) = h.2.1 m.2.1 (i + m.2.2.1)) (hm : sImp m h) : sImp m h' := by
  intro i hi hd h1 h2
  rw [e1 i hi] at h1 h2
  rw [e2 i hi]
  exact hm i hi hd h1 h2
theorem sfree_ok {w : sW} {q a : Nat} (hf : sfree w q a = true) {h h' : zH} (hh : ∀ c j, c ≠ q ∨ j < a → h'.2.1 c j = h.2.1 c j) (hm : ∀ m ∈ w.2.2.2.2.1, sImp m h) : ∀ m ∈ w.2.2.2.2.1, sImp m h' := by
  intro m hmem
  have h1 := List.all_eq_true.mp hf m hmem
  simp only [Bool.and_eq_true, Bool.or_eq_true, Bool.not_eq_true', beq_eq_false_iff_ne, ne_eq, decide_eq_true_eq] at h1
  refine (hm m hmem).kept (fun i hi => hh _ _ ?_) (fun i hi => hh _ _ ?_)
  · rcases h1.1 with h2 | h2
    · exact Or.inl h2
    · exact Or.inr (by omega)
  · rcases h1.2 with h2 | h2
    · exact Or.inl h2
    · exact Or.inr (by omega)
/-- nothing but these cells is written: which, from which index, below which -/
abbrev sM : Type := List (Nat × Nat × Nat)
def smem (md : sM) (q k : Nat) : Bool := md.any (fun t => t.1 == q && (decide (t.2.1 ≤ k) && decide (k < t.2.2)))
def smemR (md : sM) (q a b : Nat) : Bool := md.any (fun t => t.1 == q && (decide (t.2.1 ≤ a) && decide (b < t.2.2)))
theorem smemR_ok {md : sM} {q a b k : Nat} (h : smemR md q a b = true) (h1 : a ≤ k) (h2 : k ≤ b) : smem md q k = true := by
  obtain ⟨t, ht, hc⟩ := List.any_eq_true.mp h
  refine List.any_eq_true.mpr ⟨t, ht, ?_⟩
  simp only [Bool.and_eq_true, decide_eq_true_eq] at hc ⊢
  exact ⟨hc.1, by omega, by omega⟩
/-- something of this may be written -/
def sovl (md : sM) (q : Nat) (iv : Int × Int) : Bool := md.any (fun t => t.1 == q && (decide ((t.2.1 : Int) ≤ iv.2) && decide (iv.1 < (t.2.2 : Int))))
theorem sovl_ok {md : sM} {q : Nat} {iv : Int × Int} {x : Int} (h : sovl md q iv = false) (h0 : 0 ≤ iv.1) (h1 : iv.1 ≤ x) (h2 : x ≤ iv.2) : smem md q x.toNat = false := by
  cases hb : smem md q x.toNat with
  | false => rfl
  | true =>
    obtain ⟨t, ht, hc⟩ := List.any_eq_true.mp hb
    simp only [Bool.and_eq_true, decide_eq_true_eq] at hc
    have h2 : sovl md q iv = true := List.any_eq_true.mpr ⟨t, ht, by
      simp only [Bool.and_eq_true, decide_eq_true_eq]
      exact ⟨hc.1, by omega, by omega⟩⟩
    rw [h2] at h
    cases h
def sMd (md : sM) (h0 h : zH) : Prop := ∀ q k, smem md q k = false → h.2.1 q k = h0.2.1 q k ∧ h.2.2.2 q k = h0.2.2.2 q k ∧ h.2.2.1 q k = h0.2.2.1 q k
theorem sMd.rf {md : sM} {h : zH} : sMd md h h := fun _ _ _ => ⟨rfl, rfl, rfl⟩
theorem sMd.tr {md md' : sM} {h0 h1 h2 : zH} (a : sMd md h0 h1) (b : sMd md' h1 h2) (hs : ∀ q k, smem md' q k = true → smem md q k = true) : sMd md h0 h2 := fun q k hq => by
  cases hb : smem md' q k with
  | true =>
    rw [hs q k hb] at hq
    cases hq
  | false => exact ⟨(b q k hb).1.trans (a q k hq).1, (b q k hb).2.1.trans (a q k hq).2.1, (b q k hb).2.2.trans (a q k hq).2.2⟩
def sin (a b : Int × Int) : Bool := decide (b.1 ≤ a.1) && decide (a.2 ≤ b.2)
theorem sin_ok {a b : Int × Int} {x : Int} (h : sin a b = true) (h1 : a.1 ≤ x) (h2 : x ≤ a.2) : b.1 ≤ x ∧ x ≤ b.2 := by
  simp only [sin, Bool.and_eq_true, decide_eq_true_eq] at h
  omega
theorem sInv.set {w : sW} {h : zH} (hi : sInv w h) {q j : Nat} {x : Int32} (h1 : (sIv w q j).1 ≤ x.toInt) (h2 : x.toInt ≤ (sIv w q j).2) {a : Nat} (hf : sfree w q a = true) (ha : a ≤ j) : sInv w (zsI h q j x) := by
  obtain ⟨a1, a2, a3, a4⟩ := hi
  refine ⟨a1, a2, fun q' k' => ?_, sfree_ok hf (h := h) (fun c i hc => by
    show zu2 h.2.1 q j x c i = h.2.1 c i
    rcases hc with hc | hc
    · exact zu2_ne hc i
    · simp only [zu2]
      split
      · rw [if_neg (by omega)]
      · rfl) a4⟩
  show (sIv w q' k').1 ≤ (zu2 h.2.1 q j x q' k').toInt ∧ (zu2 h.2.1 q j x q' k').toInt ≤ (sIv w q' k').2
  by_cases e : q' = q
  · by_cases e2 : k' = j
    · subst e; subst e2
      simp only [zu2, if_true]
      exact ⟨h1, h2⟩
    · simp only [zu2, e, e2, if_true, if_false]
      rw [← e]
      exact a3 q' k'
  · rw [zu2_ne e]
    exact a3 q' k'
theorem sInv.setL {w : sW} {h : zH} (hi : sInv w h) {q j : Nat} {x : Int64} : sInv w (zsL h q j x) := hi
theorem sInv.setP {w : sW} {h : zH} (hi : sInv w h) {q j r : Nat} (hr : r ∈ w.2.1 q j) : sInv w (zsP h q j (some r)) := by
  obtain ⟨a1, a2, a3, a4⟩ := hi
  refine ⟨a1, fun q' k' hne => ?_, a3, a4⟩
  show ∃ r', r' ∈ w.2.1 q' k' ∧ zu2 h.2.2.2 q j (some r) q' k' = some r'
  by_cases e : q' = q
  · by_cases e2 : k' = j
    · subst e; subst e2
      exact ⟨r, hr, by simp only [zu2, if_true]⟩
    · obtain ⟨r', b1, b2⟩ := a2 q' k' hne
      refine ⟨r', b1, ?_⟩
      simp only [zu2, e, e2, if_true, if_false]
      rw [← e]
      exact b2
  · obtain ⟨r', b1, b2⟩ := a2 q' k' hne
    exact ⟨r', b1, by rw [zu2_ne e]; exact b2⟩
theorem sMd.set {md : sM} {h0 h : zH} (hm : sMd md h0 h) {q j : Nat} {x : Int32} (hq : smem md q j = true) : sMd md h0 (zsI h q j x) := fun q' k' hq' => by
  refine ⟨?_, (hm q' k' hq').2⟩
  show zu2 h.2.1 q j x q' k' = _
  by_cases e : q' = q
  · by_cases e2 : k' = j
    · rw [e, e2, hq] at hq'
      cases hq'
    · simp only [zu2, e, e2, if_true, if_false]
      rw [← e]
      exact (hm q' k' hq').1
  · rw [zu2_ne e]
    exact (hm q' k' hq').1
theorem sMd.setP {md : sM} {h0 h : zH} (hm : sMd md h0 h) {q j : Nat} {x : Option Nat} (hq : smem md q j = true) : sMd md h0 (zsP h q j x) := fun q' k' hq' => by
  refine ⟨(hm q' k' hq').1, ?_, (hm q' k' hq').2.2⟩
  show zu2 h.2.2.2 q j x q' k' = _
  by_cases e : q' = q
  · by_cases e2 : k' = j
    · rw [e, e2, hq] at hq'
      cases hq'
    · simp only [zu2, e, e2, if_true, if_false]
      rw [← e]
      exact (hm q' k' hq').2.1
  · rw [zu2_ne e]
    exact (hm q' k' hq').2.1
theorem sMd.setL {md : sM} {h0 h : zH} (hm : sMd md h0 h) {q j : Nat} {x : Int64} (hq : smem md q j = true) : sMd md h0 (zsL h q j x) := fun q' k' hq' => by
  refine ⟨(hm q' k' hq').1, (hm q' k' hq').2.1, ?_⟩
  show zu2 h.2.2.1 q j x q' k' = _
  by_cases e : q' = q
  · by_cases e2 : k' = j
    · rw [e, e2, hq] at hq'
      cases hq'
    · simp only [zu2, e, e2, if_true, if_false]
      rw [← e]
      exact (hm q' k' hq').2.2
  · rw [zu2_ne e]
    exact (hm q' k' hq').2.2
/-- two places of one cell that are surely not the same -/
def sapart (k : sK) (a b : sF) : Bool := decide (0 ≤ (siv k a).1) && (decide (0 ≤ (siv k b).1) && (decide (a.1 = b.1 ∧ a.2 ≠ b.2) || (decide ((siv k a).2 < (siv k b).1) || decide ((siv k b).2 < (siv k a).1))))
theorem sapart_ok {k : sK} {σ : Nat → Int} {h : zH} (hk : sKok k σ h) {a b : sF} (ha : swf k.1.length a) (hb : swf k.1.length b) (hc : sapart k a b = true) : (sval σ a).toNat ≠ (sval σ b).toNat := by
  have a1 := siv_ok hk (x := sval σ a) ⟨ha, rfl⟩
  have b1 := siv_ok hk (x := sval σ b) ⟨hb, rfl⟩
  simp only [sapart, Bool.and_eq_true, Bool.or_eq_true, decide_eq_true_eq] at hc
  obtain ⟨c1, c2, c3⟩ := hc
  rcases c3 with c3 | c3 | c3
  · obtain ⟨o1, d1⟩ := a
    obtain ⟨o2, d2⟩ := b
    obtain ⟨e, hne⟩ := c3
    have e : o1 = o2 := e
    subst e
    have hne : d1 ≠ d2 := hne
    cases o1 with
    | none =>
      have e1 : sval σ (none, d1) = d1 := rfl
      have e2 : sval σ (none, d2) = d2 := rfl
      omega
    | some n =>
      have e1 : sval σ (some n, d1) = σ n + d1 := rfl
      have e2 : sval σ (some n, d2) = σ n + d2 := rfl
      omega
  · omega
  · omega
def swr (k : sK) (q : Nat) (ix v : sF) : sK := (k.1, k.2.1, (q, ix, v) :: ((k.2.2.1.filter (fun t => t.1 == q && sapart k t.2.1 ix)).take 30 ++ k.2.2.1.filter (fun t => !(t.1 == q))), k.2.2.2)
def sdr (k : sK) (q : Nat) : sK := (k.1, k.2.1, k.2.2.1.filter (fun t => !(t.1 == q)), k.2.2.2)
theorem swr_ok {k : sK} {σ : Nat → Int} {h : zH} (hk : sKok k σ h) {q j : Nat} {ix v : sF} {x : Int32} (hj : swf k.1.length ix) (ej : (sval σ ix).toNat = j) (hx : sR k.1.length σ v x.toInt) : sKok (swr k q ix v) σ (zsI h q j x) := by
  have hk0 := hk
  obtain ⟨a1, a2, a3, a4⟩ := hk
  refine ⟨a1, a2, fun t ht => ?_, a4⟩
  rcases List.mem_cons.mp ht with e | ht
  · subst e
    refine ⟨hj, hx.1, ?_⟩
    show (zu2 h.2.1 q j x q (sval σ ix).toNat).toInt = sval σ v
    rw [ej]
    simp only [zu2, if_true]
    exact hx.2
  · have ⟨ht, hc⟩ : t ∈ k.2.2.1 ∧ (!(t.1 == q) || sapart k t.2.1 ix) = true := by
      rcases List.mem_append.mp ht with ht | ht
      · obtain ⟨h1, h2⟩ := List.mem_filter.mp (List.mem_of_mem_take ht)
        simp only [Bool.and_eq_true] at h2
        exact ⟨h1, by rw [h2.2, Bool.or_true]⟩
      · obtain ⟨h1, h2⟩ := List.mem_filter.mp ht
        exact ⟨h1, by rw [h2, Bool.true_or]⟩
    obtain ⟨b1, b2, b3⟩ := a3 t ht
    refine ⟨b1, b2, ?_⟩
    show (zu2 h.2.1 q j x t.1 (sval σ t.2.1).toNat).toInt = _
    by_cases e : t.1 = q
    · have hne : (sval σ t.2.1).toNat ≠ j := by
        rw [← ej]
        simp only [Bool.or_eq_true, Bool.not_eq_true', beq_eq_false_iff_ne, ne_eq] at hc
        rcases hc with hc | hc
        · exact absurd e hc
        · exact sapart_ok hk0 b1 hj hc
      simp only [zu2, e, hne, if_true, if_false]
      rw [← e]
      exact b3
    · rw [zu2_ne e]
      exact b3
theorem sdr_ok {k : sK} {σ : Nat → Int} {h h' : zH} (hk : sKok k σ h) {q : Nat} (hh : ∀ a, a ≠ q → h'.2.1 a = h.2.1 a) (hp : h'.2.2.2 = h.2.2.2) (hl9 : h'.2.2.1 = h.2.2.1) : sKok (sdr k q) σ h' := by
  obtain ⟨a1, a2, a3, a4⟩ := hk
  refine ⟨a1, a2, fun t ht => ?_, by rw [hp]; exact a4.1, a4.2.h hl9⟩
  obtain ⟨ht, hc⟩ := List.mem_filter.mp ht
  obtain ⟨b1, b2, b3⟩ := a3 t ht
  have hne : t.1 ≠ q := by simpa using hc
  exact ⟨b1, b2, by rw [hh _ hne]; exact b3⟩
/-- a reference is written -/
def swp (k : sK) (q j r : Nat) : sK := (k.1, k.2.1, k.2.2.1, (q, j, r) :: k.2.2.2.1.filter (fun t => !(t.1 == q && t.2.1 == j)), k.2.2.2.2)
theorem swp_ok {k : sK} {σ : Nat → Int} {h : zH} (hk : sKok k σ h) {q j r : Nat} : sKok (swp k q j r) σ (zsP h q j (some r)) := by
  obtain ⟨a1, a2, a3, a4⟩ := hk
  refine ⟨a1, a2, a3, fun t ht => ?_, a4.2⟩
  show zu2 h.2.2.2 q j (some r) t.1 t.2.1 = some t.2.2
  rcases List.mem_cons.mp ht with e | ht
  · subst e
    simp only [zu2, if_true]
  · obtain ⟨ht, hc⟩ := List.mem_filter.mp ht
    simp only [Bool.not_eq_true', Bool.and_eq_false_iff, beq_eq_false_iff_ne, ne_eq] at hc
    have h4 := a4.1 t ht
    simp only [zu2]
    split
    · rename_i e1
      split
      · rename_i e2
        rcases hc with hc | hc
        · exact absurd e1 hc
        · exact absurd e2 hc
      · exact h4
    · exact h4
/-- after a call that writes these cells -/
def sca (k : sK) (md : sM) : sK := (k.1, k.2.1, k.2.2.1.filter (fun t => decide (0 ≤ (siv k t.2.1).1) && !sovl md t.1 (siv k t.2.1)), k.2.2.2.1.filter (fun t => !smem md t.1 t.2.1), (match k.2.2.2.2 with
  | none => none
  | some L => some (L.1, L.2.filter (fun t => decide (0 ≤ (siv k t.2.1).1) && !sovl md t.1 (siv k t.2.1)))))
theorem sca_ok {k : sK} {σ : Nat → Int} {h h' : zH} (hk : sKok k σ h) {md : sM} (hm : sMd md h h') : sKok (sca k md) σ h' := by
  have hk0 := hk
  obtain ⟨a1, a2, a3, a4⟩ := hk
  refine ⟨a1, a2, fun t ht => ?_, fun t ht => ?_, fun L eL => ?_⟩
  · obtain ⟨ht, hc⟩ := List.mem_filter.mp ht
    obtain ⟨b1, b2, b3⟩ := a3 t ht
    refine ⟨b1, b2, ?_⟩
    simp only [Bool.and_eq_true, decide_eq_true_eq, Bool.not_eq_true'] at hc
    have hv := siv_ok hk0 (f := t.2.1) (x := sval σ t.2.1) ⟨b1, rfl⟩
    have hne := sovl_ok hc.2 hc.1 hv.1 hv.2
    rw [(hm _ _ hne).1]
    exact b3
  · obtain ⟨ht, hc⟩ := List.mem_filter.mp ht
    have hne : smem md t.1 t.2.1 = false := by simpa using hc
    rw [(hm _ _ hne).2.1]
    exact a4.1 t ht
  · have eL : (match k.2.2.2.2 with
      | none => none
      | some L => some (L.1, L.2.filter (fun t => decide (0 ≤ (siv k t.2.1).1) && !sovl md t.1 (siv k t.2.1)))) = some L := eL
    split at eL
    · cases eL
    · rename_i L0 e0
      cases eL
      refine ⟨(a4.2 L0 e0).1, fun t ht => ?_⟩
      obtain ⟨ht, hc⟩ := List.mem_filter.mp ht
      obtain ⟨b1, b2, b3⟩ := (a4.2 L0 e0).2 t ht
      refine ⟨b1, b2, ?_⟩
      simp only [Bool.and_eq_true, decide_eq_true_eq, Bool.not_eq_true'] at hc
      have hv := siv_ok hk0 (f := t.2.1) (x := sval σ t.2.1) ⟨b1, rfl⟩
      have hne := sovl_ok hc.2 hc.1 hv.1 hv.2
      rw [(hm _ _ hne).2.2]
      exact b3
def slook (c : sC) (q : Nat) (ix : sF) : Option sF := match c with
  | [] => none
  | t :: r => if t.1 = q ∧ t.2.1 = ix then some t.2.2 else slook r q ix
theorem slook_mem : ∀ {c : sC} {q : Nat} {ix v : sF}, slook c q ix = some v → (q, ix, v) ∈ c
  | t :: r, q, ix, v, h => by
    simp only [slook] at h
    split at h
    · rename_i e
      cases h
      obtain ⟨a, b, d⟩ := t
      obtain ⟨e1, e2⟩ := e
      have e1 : a = q := e1
      have e2 : b = ix := e2
      subst e1; subst e2
      exact List.mem_cons_self
    · exact List.mem_cons_of_mem _ (slook_mem h)
/-- kept in mind -/
def skp (k : sK) (q : Nat) (ix v : sF) : sK := (k.1, k.2.1, (q, ix, v) :: ((k.2.2.1.filter (fun t => t.1 == q)).take 30 ++ k.2.2.1.filter (fun t => !(t.1 == q))), k.2.2.2)
theorem skp_ok {k : sK} {σ : Nat → Int} {h : zH} (hk : sKok k σ h) {q : Nat} {ix v : sF} (hi : swf k.1.length ix) (hv : sR k.1.length σ v (h.2.1 q (sval σ ix).toNat).toInt) : sKok (skp k q ix v) σ h := by
  obtain ⟨a1, a2, a3, a4⟩ := hk
  refine ⟨a1, a2, fun t ht => ?_, a4⟩
  rcases List.mem_cons.mp ht with e | ht
  · subst e
    exact ⟨hi, hv.1, hv.2⟩
  · rcases List.mem_append.mp ht with ht | ht
    · exact a3 t (List.mem_filter.mp (List.mem_of_mem_take ht)).1
    · exact a3 t (List.mem_filter.mp ht).1
/-- what follows for this element from what is known -/
def sirf (k : sK) (q : Nat) (f : sF) : List sIm → Int × Int → Int × Int
  | [], iv => iv
  | m :: r, iv => if m.2.1 = q then (match slook k.2.2.1 m.1 (f.1, f.2 - (m.2.2.1 : Int)) with
    | some v => if sin (siv k v) m.2.2.2.1 = true ∧ 0 ≤ (siv k (f.1, f.2 - (m.2.2.1 : Int))).1 ∧ (siv k (f.1, f.2 - (m.2.2.1 : Int))).2 < (m.2.2.2.2.2.1 : Int) ∧ (m.2.2.2.2.2.2 = 1 ∨ (f.1 = none ∧ (f.2 - (m.2.2.1 : Int)) % (m.2.2.2.2.2.2 : Int) = 0)) then sirf k q f r (max iv.1 m.2.2.2.2.1.1, min iv.2 m.2.2.2.2.1.2) else sirf k q f r iv
    | none => sirf k q f r iv) else sirf k q f r iv
theorem sirf_ok {k : sK} {σ : Nat → Int} {h : zH} (hk : sKok k σ h) {q : Nat} {f : sF} (hf : swf k.1.length f) (h0 : 0 ≤ sval σ f) : ∀ (L : List sIm) (iv : Int × Int), (∀ m ∈ L, sImp m h) → iv.1 ≤ (h.2.1 q (sval σ f).toNat).toInt ∧ (h.2.1 q (sval σ f).toNat).toInt ≤ iv.2 → (sirf k q f L iv).1 ≤ (h.2.1 q (sval σ f).toNat).toInt ∧ (h.2.1 q (sval σ f).toNat).toInt ≤ (sirf k q f L iv).2
  | [], _, _, hv => hv
  | m :: r, iv, hL, hv => by
    have ih := fun (jv : Int × Int) hj => sirf_ok (q := q) hk hf h0 r jv (fun m' hm' => hL m' (List.mem_cons_of_mem _ hm')) hj
    simp only [sirf]
    split
    · rename_i eq
      split
      · rename_i v ev
        split
        · rename_i hb
          obtain ⟨c1, c2, c3, c4⟩ := hb
          refine ih _ ?_
          obtain ⟨b1, b2, b3⟩ := hk.2.2.1 _ (slook_mem ev)
          have b3 : (h.2.1 m.1 (sval σ (f.1, f.2 - (m.2.2.1 : Int))).toNat).toInt = sval σ v := b3
          have hs := sval_c σ f (-(m.2.2.1 : Int))
          rw [show f.2 + -(m.2.2.1 : Int) = f.2 - (m.2.2.1 : Int) by omega] at hs
          have hg := siv_ok hk (f := (f.1, f.2 - (m.2.2.1 : Int))) (x := sval σ (f.1, f.2 - (m.2.2.1 : Int))) ⟨b1, rfl⟩
          have hvv := sin_ok c1 (siv_ok hk (f := v) (x := sval σ v) ⟨b2, rfl⟩).1 (siv_ok hk (f := v) (x := sval σ v) ⟨b2, rfl⟩).2
          rw [← b3] at hvv
          have hdiv : (sval σ (f.1, f.2 - (m.2.2.1 : Int))).toNat % m.2.2.2.2.2.2 = 0 := by
            rcases c4 with c4 | ⟨c4, c5⟩
            · rw [c4, Nat.mod_one]
            · have e9 : sval σ (f.1, f.2 - (m.2.2.1 : Int)) = f.2 - (m.2.2.1 : Int) := by
                simp only [sval, c4]
              rw [e9] at hg ⊢
              have hnn : ((f.2 - (m.2.2.1 : Int)).toNat : Int) = f.2 - (m.2.2.1 : Int) := Int.toNat_of_nonneg (by omega)
              have : (((f.2 - (m.2.2.1 : Int)).toNat % m.2.2.2.2.2.2 : Nat) : Int) = 0 := by
                rw [Int.natCast_emod, hnn]
                exact c5
              omega
          have hI := hL m List.mem_cons_self (sval σ (f.1, f.2 - (m.2.2.1 : Int))).toNat (by omega) hdiv hvv.1 hvv.2
          have e8 : (sval σ (f.1, f.2 - (m.2.2.1 : Int))).toNat + m.2.2.1 = (sval σ f).toNat := by omega
          rw [e8, eq] at hI
          show max _ _ ≤ _ ∧ _ ≤ min _ _
          omega
        · exact ih _ hv
      · exact ih _ hv
    · exact ih _ hv
/-- an int of the world is read -/
def srd (k : sK) (q : Nat) (ix : sF) (iv : Int × Int) (C : sF → sK → Bool) : Bool := match slook k.2.2.1 q ix with
  | some v => C v k
  | none => snew k iv (fun f k' => C f (skp k' q ix f))
theorem srd_ok {k : sK} {σ : Nat → Int} {h : zH} {q j : Nat} {ix : sF} {iv : Int × Int} {C : sF → sK → Bool} (hc : srd k q ix iv C = true) (hk : sKok k σ h) (hj : swf k.1.length ix) (ej : (sval σ ix).toNat = j) (h1 : iv.1 ≤ (h.2.1 q j).toInt ∧ (h.2.1 q j).toInt ≤ iv.2) : sO k σ h C (h.2.1 q j).toInt := by
  unfold srd at hc
  split at hc
  · rename_i v hv
    obtain ⟨b1, b2, b3⟩ := hk.2.2.1 _ (slook_mem hv)
    refine sO.same hc hk ⟨b2, ?_⟩
    rw [← ej]
    exact b3
  · obtain ⟨f', k', σ', c, a, b, d⟩ := snew_ok hc hk h1.1 h1.2
    obtain ⟨w1, w2⟩ := hj.x b
    refine ⟨f', _, σ', c, skp_ok a w1 ?_, b, d⟩
    rw [w2, ej]
    exact d
/-- a field is read -/
def sgf (w : sW) (k : sK) (q kk : Nat) (C : sF → sK → Bool) : Bool := srd k q (none, (kk : Int)) (w.2.2.1 q kk) (fun f k' => if w.2.2.2.2.2.contains (q, kk) = true then sspl (fun f' k2 => C f' (skp k2 q (none, (kk : Int)) f')) f ((siv k' f).2 - (siv k' f).1 + 1).toNat (siv k' f).1 k' else C f k')
theorem sgf_ok {w : sW} {k : sK} {σ : Nat → Int} {h : zH} {q kk : Nat} {C : sF → sK → Bool} (hc : sgf w k q kk C = true) (hk : sKok k σ h) (h1 : (w.2.2.1 q kk).1 ≤ (h.2.1 q kk).toInt ∧ (h.2.1 q kk).toInt ≤ (w.2.2.1 q kk).2) : sO k σ h C (h.2.1 q kk).toInt := by
  have ej : (sval σ (none, (kk : Int))).toNat = kk := by
    show ((kk : Int)).toNat = kk
    exact Int.toNat_natCast kk
  obtain ⟨f', k', σ', c, a, b, d⟩ := srd_ok hc hk (show swf k.1.length (none, (kk : Int)) from trivial) ej h1
  have c : (if w.2.2.2.2.2.contains (q, kk) = true then sspl (fun f' k2 => C f' (skp k2 q (none, (kk : Int)) f')) f' ((siv k' f').2 - (siv k' f').1 + 1).toNat (siv k' f').1 k' else C f' k') = true := c
  split at c
  · obtain ⟨f2, k2, c2, a2, b2, d2⟩ := sspl_ok _ _ _ c a d
    refine ⟨f2, _, σ', c2, skp_ok a2 trivial ?_, ?_, d2⟩
    · show sR k2.1.length σ' f2 (h.2.1 q ((kk : Int)).toNat).toInt
      rw [Int.toNat_natCast]
      exact d2
    · show sX k.1.length σ k2.1.length σ'
      rw [b2]
      exact b
  · exact ⟨f', k', σ', c, a, b, d⟩
/-- a reference is read -/
def slq : sQ → Nat → Nat → Option Nat
  | [], _, _ => none
  | t :: r, q, j => if t.1 = q ∧ t.2.1 = j then some t.2.2 else slq r q j
theorem slq_mem : ∀ {c : sQ} {q j r : Nat}, slq c q j = some r → (q, j, r) ∈ c
  | t :: s, q, j, r, h => by
    simp only [slq] at h
    split at h
    · rename_i e
      cases h
      obtain ⟨a, b, d⟩ := t
      obtain ⟨e1, e2⟩ := e
      have e1 : a = q := e1
      have e2 : b = j := e2
      subst e1; subst e2
      exact List.mem_cons_self
    · exact List.mem_cons_of_mem _ (slq_mem h)
def sgr (k : sK) (q j : Nat) (A : List Nat) (C : Nat → sK → Bool) : Bool := match slq k.2.2.2.1 q j with
  | some r => C r k
  | none => !A.isEmpty && A.all (fun r => C r (k.1, k.2.1, k.2.2.1, (q, j, r) :: k.2.2.2.1, k.2.2.2.2))
theorem sgr_ok {w : sW} {k : sK} {σ : Nat → Int} {h : zH} {q j : Nat} {C : Nat → sK → Bool} (hc : sgr k q j (w.2.1 q j) C = true) (hk : sKok k σ h) (hi : sInv w h) : ∃ r k', C r k' = true ∧ sKok k' σ h ∧ k'.1 = k.1 ∧ h.2.2.2 q j = some r := by
  unfold sgr at hc
  split at hc
  · rename_i r hr
    exact ⟨r, k, hc, hk, rfl, hk.2.2.2.1 _ (slq_mem hr)⟩
  · simp only [Bool.and_eq_true, Bool.not_eq_true', List.isEmpty_eq_false_iff] at hc
    obtain ⟨r, r1, r2⟩ := hi.2.1 q j hc.1
    have h1 := List.all_eq_true.mp hc.2 r r1
    refine ⟨r, _, h1, ⟨hk.1, hk.2.1, hk.2.2.1, fun t ht => ?_, hk.2.2.2.2⟩, rfl, r2⟩
    rcases List.mem_cons.mp ht with e | ht
    · subst e
      exact r2
    · exact hk.2.2.2.1 t ht
/-- a long is written -/
def swl (k : sK) (q : Nat) (ix v : sF) : sK := match k.2.2.2.2 with
  | none => k
  | some L => (k.1, k.2.1, k.2.2.1, k.2.2.2.1, some (L.1, (q, ix, v) :: ((L.2.filter (fun t => t.1 == q && sapart k t.2.1 ix)).take 70 ++ L.2.filter (fun t => !(t.1 == q)))))
theorem swl_1 (k : sK) (q : Nat) (ix v : sF) : (swl k q ix v).1 = k.1 := by
  unfold swl
  split <;> rfl
theorem swl_ok {k : sK} {σ : Nat → Int} {h : zH} (hk : sKok k σ h) {q j : Nat} {ix v : sF} {x : Int64} (hj : swf k.1.length ix) (ej : (sval σ ix).toNat = j) (hx : sR k.1.length σ v x.toInt) : sKok (swl k q ix v) σ (zsL h q j x) := by
  unfold swl
  split
  · rename_i e
    exact ⟨hk.1, hk.2.1, hk.2.2.1, hk.2.2.2.1, fun L e' => by rw [e] at e'; cases e'⟩
  · rename_i L e
    refine ⟨hk.1, hk.2.1, hk.2.2.1, hk.2.2.2.1, fun L' e' => ?_⟩
    cases e'
    refine ⟨(hk.2.2.2.2 L e).1, fun t ht => ?_⟩
    rcases List.mem_cons.mp ht with e1 | ht
    · subst e1
      refine ⟨hj, hx.1, ?_⟩
      show (zu2 h.2.2.1 q j x q (sval σ ix).toNat).toInt = sval σ v
      rw [ej]
      simp only [zu2, if_true]
      exact hx.2
    · have ⟨ht, hc⟩ : t ∈ L.2 ∧ (!(t.1 == q) || sapart k t.2.1 ix) = true := by
        rcases List.mem_append.mp ht with ht | ht
        · obtain ⟨h1, h2⟩ := List.mem_filter.mp (List.mem_of_mem_take ht)
          simp only [Bool.and_eq_true] at h2
          exact ⟨h1, by rw [h2.2, Bool.or_true]⟩
        · obtain ⟨h1, h2⟩ := List.mem_filter.mp ht
          exact ⟨h1, by rw [h2, Bool.true_or]⟩
      obtain ⟨b1, b2, b3⟩ := (hk.2.2.2.2 L e).2 t ht
      refine ⟨b1, b2, ?_⟩
      show (zu2 h.2.2.1 q j x t.1 (sval σ t.2.1).toNat).toInt = _
      by_cases e1 : t.1 = q
      · have hne : (sval σ t.2.1).toNat ≠ j := by
          rw [← ej]
          simp only [Bool.or_eq_true, Bool.not_eq_true', beq_eq_false_iff_ne, ne_eq] at hc
          rcases hc with hc | hc
          · exact absurd e1 hc
          · exact sapart_ok hk b1 hj hc
        simp only [zu2, e1, hne, if_true, if_false]
        rw [← e1]
        exact b3
      · rw [zu2_ne e1]
        exact b3
def skl (k : sK) (q : Nat) (ix v : sF) : sK := match k.2.2.2.2 with
  | none => k
  | some L => (k.1, k.2.1, k.2.2.1, k.2.2.2.1, some (L.1, (q, ix, v) :: L.2))
theorem skl_1 (k : sK) (q : Nat) (ix v : sF) : (skl k q ix v).1 = k.1 := by
  unfold skl
  split <;> rfl
theorem skl_ok {k : sK} {σ : Nat → Int} {h : zH} (hk : sKok k σ h) {q : Nat} {ix v : sF} (hi : swf k.1.length ix) (hv : sR k.1.length σ v (h.2.2.1 q (sval σ ix).toNat).toInt) : sKok (skl k q ix v) σ h := by
  unfold skl
  split
  · exact hk
  · rename_i L e
    refine ⟨hk.1, hk.2.1, hk.2.2.1, hk.2.2.2.1, fun L' e' => ?_⟩
    cases e'
    refine ⟨(hk.2.2.2.2 L e).1, fun t ht => ?_⟩
    rcases List.mem_cons.mp ht with e1 | ht
    · subst e1
      exact ⟨hi, hv.1, hv.2⟩
    · exact (hk.2.2.2.2 L e).2 t ht
/-- a long is read -/
def srdL (k : sK) (q : Nat) (ix : sF) (C : sF → sK → Bool) : Bool := match k.2.2.2.2 with
  | none => snew k sf64 C
  | some L => (match slook L.2 q ix with
    | some v => C v k
    | none => snew k sf64 (fun f k' => C f (skl k' q ix f)))
theorem srdL_ok {k : sK} {σ : Nat → Int} {h : zH} {q j : Nat} {ix : sF} {C : sF → sK → Bool} (hc : srdL k q ix C = true) (hk : sKok k σ h) (hj : swf k.1.length ix) (ej : (sval σ ix).toNat = j) : sO k σ h C (h.2.2.1 q j).toInt := by
  unfold srdL at hc
  split at hc
  · exact snew_ok hc hk (sf64_ok _).1 (sf64_ok _).2
  · rename_i L e
    split at hc
    · rename_i v hv
      obtain ⟨b1, b2, b3⟩ := (hk.2.2.2.2 L e).2 _ (slook_mem hv)
      refine sO.same hc hk ⟨b2, ?_⟩
      rw [← ej]
      exact b3
    · obtain ⟨f', k', σ', c, a, b, d⟩ := snew_ok hc hk (sf64_ok _).1 (sf64_ok _).2
      obtain ⟨w1, w2⟩ := hj.x b
      refine ⟨f', _, σ', c, skl_ok a w1 ?_, ?_, ?_⟩
      · rw [w2, ej]
        exact d
      · rw [skl_1]
        exact b
      · rw [skl_1]
        exact d
def scat : sV → Nat
  | .inr (.inr (.inr _)) => 2
  | _ => 1
theorem scat_ok {n : Nat} {σ : Nat → Int} : ∀ {a : sV} {v : Value}, sVR n σ a v → v.category = scat a
  | .inl _, _, ⟨_, e, _⟩ => by rw [e]; rfl
  | .inr (.inl _), _, e => by rw [show _ = _ from e]; rfl
  | .inr (.inr (.inl _)), _, e => by rw [show _ = _ from e]; rfl
  | .inr (.inr (.inr _)), _, ⟨_, e, _⟩ => by rw [e]; rfl
def slget : sL → Nat → Option sV
  | [], _ => none
  | q :: r, i => if q.1 = i then some q.2 else slget r i
theorem slget_ok {n : Nat} {σ : Nat → Int} {i : Nat} {a : sV} : ∀ {l : sL} {l' : zL}, sLR n σ l l' → slget l i = some a → ∃ v, zget l' i = some v ∧ sVR n σ a v
  | q :: r, _, ⟨v, t, e, h1, h2⟩, h => by
    subst e
    simp only [slget] at h
    simp only [zget]
    split at h
    · rename_i e
      cases h
      exact ⟨v, if_pos e, h1⟩
    · rename_i e
      obtain ⟨v', e1, e2⟩ := slget_ok h2 h
      exact ⟨v', by rw [if_neg e]; exact e1, e2⟩
def slset (l : sL) (i : Nat) (v : sV) : sL := (i, v) :: l.filter (fun q => !(q.1 == i) && !(q.1 + 1 == i && scat q.2 == 2))
def slset2 (l : sL) (i : Nat) (v : sV) : sL := (i, v) :: l.filter (fun q => !(q.1 == i) && (!(q.1 == i + 1) && !(q.1 + 1 == i && scat q.2 == 2)))
theorem sLR.fl {n : Nat} {σ : Nat → Int} {p : Nat × sV → Bool} {p' : Nat × Value → Bool} (hp : ∀ i a v, sVR n σ a v → p (i, a) = p' (i, v)) : ∀ {l : sL} {l' : zL}, sLR n σ l l' → sLR n σ (l.filter p) (l'.filter p')
  | [], _, h => by
    have h : _ = [] := h
    subst h
    exact rfl
  | a :: r, _, ⟨v, t, e, h1, h2⟩ => by
    subst e
    have ih := sLR.fl hp h2
    have e := hp a.1 a.2 v h1
    have e' : p a = p' (a.1, v) := e
    cases hb : p a with
    | true =>
      rw [List.filter_cons_of_pos hb, List.filter_cons_of_pos (by rw [← e']; exact hb)]
      exact ⟨v, _, rfl, h1, ih⟩
    | false =>
      rw [List.filter_cons_of_neg (by rw [hb]; decide), List.filter_cons_of_neg (by rw [← e', hb]; decide)]
      exact ih
theorem slset_ok {n : Nat} {σ : Nat → Int} {l : sL} {l' : zL} {i : Nat} {a : sV} {v : Value} (h : sLR n σ l l') (hv : sVR n σ a v) : sLR n σ (slset l i a) (zset l' i v) :=
  ⟨v, _, rfl, hv, sLR.fl (fun j b u hu => by simp only [scat_ok hu]) h⟩
theorem slset2_ok {n : Nat} {σ : Nat → Int} {l : sL} {l' : zL} {i : Nat} {a : sV} {v : Value} (h : sLR n σ l l') (hv : sVR n σ a v) : sLR n σ (slset2 l i a) (zset2 l' i v) :=
  ⟨v, _, rfl, hv, sLR.fl (fun j b u hu => by simp only [scat_ok hu]) h⟩
/-- the first entry of a local, told otherwise -/
def slrep : sL → Nat → sV → sL
  | [], _, _ => []
  | q :: r, i, a => if q.1 = i then (i, a) :: r else q :: slrep r i a
theorem slrep_ok {n : Nat} {σ : Nat → Int} {i : Nat} {a : sV} : ∀ {l : sL} {l' : zL}, sLR n σ l l' → (∀ v, zget l' i = some v → sVR n σ a v) → sLR n σ (slrep l i a) l'
  | [], _, h, _ => h
  | q :: r, _, ⟨v, t, e, h1, h2⟩, ha => by
    subst e
    simp only [slrep]
    split
    · rename_i e
      have hv := ha v (by simp only [zget]; rw [if_pos e])
      rw [← e]
      exact ⟨v, t, rfl, hv, h2⟩
    · rename_i e
      refine ⟨v, t, rfl, h1, slrep_ok h2 (fun u hu => ha u ?_)⟩
      simp only [zget]
      rw [if_neg e]
      exact hu
/-- an index: no more than differences and sums let it be -/
def sxd (k : sK) (a : Nat) : sD → Int → Int
  | [], z => z
  | t :: r, z => sxd k a r (if t.2.1 = a then min z ((siv k (some t.1, 0)).2 - t.2.2) else z)
theorem sxd_ok {k : sK} {σ : Nat → Int} {h : zH} (hk : sKok k σ h) {a : Nat} : ∀ (L : sD) (z : Int), (∀ t ∈ L, t ∈ k.2.1.1) → σ a ≤ z → σ a ≤ sxd k a L z
  | [], _, _, h => h
  | t :: r, z, hL, hz => by
    refine sxd_ok hk r _ (fun t' ht' => hL t' (List.mem_cons_of_mem _ ht')) ?_
    split
    · rename_i e
      obtain ⟨b1, b2, b3⟩ := hk.2.1.1 t (hL t List.mem_cons_self)
      rw [e] at b3
      have h1 := siv_ok hk (f := (some t.1, 0)) (x := σ t.1) ⟨b1, by show σ t.1 = σ t.1 + 0; omega⟩
      omega
    · exact hz
def sxs (k : sK) (a : Nat) : sSm → Int → Int
  | [], z => z
  | t :: r, z => sxs k a r (if t.1 = a then min z ((siv k (some t.2.2, 0)).2 - (siv k (some t.2.1, 0)).1) else if t.2.1 = a then min z ((siv k (some t.2.2, 0)).2 - (siv k (some t.1, 0)).1) else z)
theorem sxs_ok {k : sK} {σ : Nat → Int} {h : zH} (hk : sKok k σ h) {a : Nat} : ∀ (L : sSm) (z : Int), (∀ t ∈ L, t ∈ k.2.1.2) → σ a ≤ z → σ a ≤ sxs k a L z
  | [], _, _, h => h
  | t :: r, z, hL, hz => by
    refine sxs_ok hk r _ (fun t' ht' => hL t' (List.mem_cons_of_mem _ ht')) ?_
    obtain ⟨b1, b2, b3, b4⟩ := hk.2.1.2 t (hL t List.mem_cons_self)
    have h1 := siv_ok hk (f := (some t.1, 0)) (x := σ t.1) ⟨b1, by show σ t.1 = σ t.1 + 0; omega⟩
    have h2 := siv_ok hk (f := (some t.2.1, 0)) (x := σ t.2.1) ⟨b2, by show σ t.2.1 = σ t.2.1 + 0; omega⟩
    have h3 := siv_ok hk (f := (some t.2.2, 0)) (x := σ t.2.2) ⟨b3, by show σ t.2.2 = σ t.2.2 + 0; omega⟩
    split
    · rename_i e
      rw [e] at b4
      omega
    · split
      · rename_i e
        rw [e] at b4
        omega
      · exact hz
def six (k : sK) (f : sF) : Int × Int := match f.1 with
  | none => (f.2, f.2)
  | some a => ((siv k f).1, sxs k a k.2.1.2 (sxd k a k.2.1.1 ((siv k f).2 - f.2)) + f.2)
theorem six_ok {k : sK} {σ : Nat → Int} {h : zH} {f : sF} {x : Int} (hk : sKok k σ h) (hf : sR k.1.length σ f x) : (six k f).1 ≤ x ∧ x ≤ (six k f).2 := by
  have a := siv_ok hk hf
  obtain ⟨o, c⟩ := f
  cases o with
  | none => exact a
  | some n =>
    have e : x = σ n + c := hf.2
    have h2 := sxs_ok hk (a := n) k.2.1.2 _ (fun _ h => h) (sxd_ok hk (a := n) k.2.1.1 ((siv k (some n, c)).2 - c) (fun _ h => h) (by omega))
    refine ⟨a.1, ?_⟩
    show x ≤ sxs k n k.2.1.2 (sxd k n k.2.1.1 ((siv k (some n, c)).2 - c)) + c
    omega

/-- fields of objects, within -/
abbrev sFd : Type := List (Nat × Nat × (Int × Int))
/-- a place where a body is cut: its pc, what its locals are, a measure: so many times this local .. and a number; what fields are, so many times this field -/
abbrev sCut : Type := Nat × List (Nat × sT) × List (Nat × Int) × Int × sFd × List (Nat × Nat × Int)
def sinF : sFd → Nat → sE × sC
  | [], _ => ([], [])
  | (q, k, iv) :: r, n => (iv :: (sinF r (n + 1)).1, (q, (none, (k : Int)), (some n, 0)) :: (sinF r (n + 1)).2)
theorem sinF_ok {h : zH} : ∀ (F : sFd) (pre : sE) (σ0 : Nat → Int), (∀ i iv, pre[i]? = some iv → iv.1 ≤ σ0 i ∧ σ0 i ≤ iv.2) → (∀ t ∈ F, t.2.2.1 ≤ (h.2.1 t.1 t.2.1).toInt ∧ (h.2.1 t.1 t.2.1).toInt ≤ t.2.2.2) →
    ∃ σ : Nat → Int, (∀ i, i < pre.length → σ i = σ0 i) ∧ (∀ i iv, (pre ++ (sinF F pre.length).1)[i]? = some iv → iv.1 ≤ σ i ∧ σ i ≤ iv.2) ∧ (∀ t ∈ (sinF F pre.length).2, swf (pre ++ (sinF F pre.length).1).length t.2.1 ∧ swf (pre ++ (sinF F pre.length).1).length t.2.2 ∧ (h.2.1 t.1 (sval σ t.2.1).toNat).toInt = sval σ t.2.2)
  | [], pre, σ0, h0, _ => by
    refine ⟨σ0, fun _ _ => rfl, fun i iv hi => h0 i iv ?_, fun t ht => (nomatch ht)⟩
    have hi : (pre ++ [])[i]? = some iv := hi
    rw [List.append_nil] at hi
    exact hi
  | (q, k, iv) :: r, pre, σ0, h0, hF => by
    have hl : (pre ++ [iv]).length = pre.length + 1 := by simp
    obtain ⟨h1, h2⟩ := hF (q, k, iv) List.mem_cons_self
    obtain ⟨σ, a1, a2, a3⟩ := sinF_ok r (pre ++ [iv]) (fun i => if i = pre.length then (h.2.1 q k).toInt else σ0 i) (fun i jv hi => by
      by_cases hi2 : i < pre.length
      · rw [List.getElem?_append_left hi2] at hi
        simp only [if_neg (Nat.ne_of_lt hi2)]
        exact h0 i jv hi
      · rw [List.getElem?_append_right (by omega)] at hi
        have hz : i - pre.length < 1 := (List.getElem?_eq_some_iff.mp hi).1
        have e3 : i = pre.length := by omega
        subst e3
        rw [Nat.sub_self] at hi
        cases hi
        simp only [if_true]
        exact ⟨h1, h2⟩) (fun t ht => hF t (List.mem_cons_of_mem _ ht))
    rw [hl] at a1 a2 a3
    have eL : pre ++ (sinF ((q, k, iv) :: r) pre.length).1 = pre ++ [iv] ++ (sinF r (pre.length + 1)).1 := by
      show pre ++ iv :: (sinF r (pre.length + 1)).1 = _
      simp
    rw [eL]
    refine ⟨σ, fun i hi => ?_, a2, fun t ht => ?_⟩
    · rw [a1 i (by omega), if_neg (Nat.ne_of_lt hi)]
    · rcases List.mem_cons.mp ht with e | ht
      · subst e
        refine ⟨trivial, ?_, ?_⟩
        · show pre.length < (pre ++ [iv] ++ (sinF r (pre.length + 1)).1).length
          simp
        · show (h.2.1 q ((k : Int)).toNat).toInt = σ pre.length + 0
          rw [a1 pre.length (by omega), if_pos rfl, Int.add_zero, Int.toNat_natCast]
      · exact a3 t ht
def sini : List (Nat × sT) → Nat → sE × sL
  | [], _ => ([], [])
  | (j, .inl iv) :: r, n => (iv :: (sini r (n + 1)).1, (j, .inl (some n, 0)) :: (sini r (n + 1)).2)
  | (j, .inr (.inl q)) :: r, n => ((sini r n).1, (j, .inr (.inl q)) :: (sini r n).2)
  | (j, .inr (.inr _)) :: r, n => ((sini r n).1, (j, slong false) :: (sini r n).2)
def szip : List (Nat × sT) → List Value → zL
  | (j, _) :: r, v :: t => (j, v) :: szip r t
  | _, _ => []
theorem sini_ok : ∀ (L : List (Nat × sT)) (vals : List Value) (pre : sE) (σ0 : Nat → Int), (∀ i iv, pre[i]? = some iv → iv.1 ≤ σ0 i ∧ σ0 i ≤ iv.2) → sTL (L.map (fun q => q.2)) vals →
    ∃ σ : Nat → Int, (∀ i, i < pre.length → σ i = σ0 i) ∧ (∀ i iv, (pre ++ (sini L pre.length).1)[i]? = some iv → iv.1 ≤ σ i ∧ σ i ≤ iv.2) ∧ sLR (pre ++ (sini L pre.length).1).length σ (sini L pre.length).2 (szip L vals)
  | [], vals, pre, σ0, h0, _ => by
    refine ⟨σ0, fun _ _ => rfl, fun i iv hi => h0 i iv ?_, rfl⟩
    have hi : (pre ++ [])[i]? = some iv := hi
    rw [List.append_nil] at hi
    exact hi
  | (j, .inl iv) :: r, _, pre, σ0, h0, ⟨v, t, e, ⟨x, ex, h1, h2⟩, ht⟩ => by
    subst e
    subst ex
    have hl : (pre ++ [iv]).length = pre.length + 1 := by simp
    obtain ⟨σ, a1, a2, a3⟩ := sini_ok r t (pre ++ [iv]) (fun i => if i = pre.length then x.toInt else σ0 i) (fun i jv hi => by
      by_cases hi2 : i < pre.length
      · rw [List.getElem?_append_left hi2] at hi
        simp only [if_neg (Nat.ne_of_lt hi2)]
        exact h0 i jv hi
      · rw [List.getElem?_append_right (by omega)] at hi
        have hz : i - pre.length < 1 := (List.getElem?_eq_some_iff.mp hi).1
        have e3 : i = pre.length := by omega
        subst e3
        rw [Nat.sub_self] at hi
        cases hi
        simp only [if_true]
        exact ⟨h1, h2⟩) ht
    rw [hl] at a1 a2 a3
    have eL : pre ++ (sini ((j, .inl iv) :: r) pre.length).1 = pre ++ [iv] ++ (sini r (pre.length + 1)).1 := by
      show pre ++ iv :: (sini r (pre.length + 1)).1 = _
      simp
    rw [eL]
    refine ⟨σ, fun i hi => ?_, a2, ?_⟩
    · rw [a1 i (by omega), if_neg (Nat.ne_of_lt hi)]
    · refine ⟨_, _, rfl, ⟨x, rfl, ?_, ?_⟩, a3⟩
      · show pre.length < (pre ++ [iv] ++ (sini r (pre.length + 1)).1).length
        simp
      · show x.toInt = σ pre.length + 0
        rw [a1 pre.length (by omega), if_pos rfl, Int.add_zero]
  | (j, .inr (.inl q)) :: r, _, pre, σ0, h0, ⟨v, t, e, hv, ht⟩ => by
    subst e
    obtain ⟨σ, a1, a2, a3⟩ := sini_ok r t pre σ0 h0 ht
    exact ⟨σ, a1, a2, _, _, rfl, hv, a3⟩
  | (j, .inr (.inr _)) :: r, _, pre, σ0, h0, ⟨v, t, e, ⟨x, ex⟩, ht⟩ => by
    subst e
    obtain ⟨σ, a1, a2, a3⟩ := sini_ok r t pre σ0 h0 ht
    exact ⟨σ, a1, a2, _, _, rfl, ⟨x, ex, fun e => by cases e⟩, a3⟩
def szv (lo : zL) (j : Nat) : Int := match zget lo j with
  | some (.int x) => x.toInt
  | _ => 0
def smu (lo : zL) (cf : List (Nat × Int)) (c : Int) : Int := (cf.map (fun q => q.2 * szv lo q.1)).sum + c
/-- the measure's terms -/
def stm (l : sL) : List (Nat × Int) → Option (List (Int × sF))
  | [] => some []
  | (j, c) :: r => (match slget l j, stm l r with
    | some (.inl f), some L => some ((c, f) :: L)
    | _, _ => none)
theorem stm_ok {n : Nat} {σ : Nat → Int} {l : sL} {lo : zL} (hl : sLR n σ l lo) : ∀ (cf : List (Nat × Int)) (L : List (Int × sF)), stm l cf = some L → (∀ t ∈ L, swf n t.2) ∧ ssum σ L = (cf.map (fun q => q.2 * szv lo q.1)).sum
  | [], L, h => by
    cases h
    exact ⟨fun _ h => (nomatch h), rfl⟩
  | (j, c) :: r, L, h => by
    simp only [stm] at h
    split at h
    · rename_i f L' e1 e2
      cases h
      obtain ⟨w1, w2⟩ := stm_ok hl r L' e2
      obtain ⟨v, e3, x, rfl, hx⟩ := slget_ok hl e1
      refine ⟨fun t ht => ?_, ?_⟩
      · rcases List.mem_cons.mp ht with e | ht
        · subst e
          exact hx.1
        · exact w1 t ht
      · have ez : szv lo j = sval σ f := by
          simp only [szv, e3]
          exact hx.2
        simp only [ssum, List.map_cons, List.sum_cons] at w2 ⊢
        rw [w2, ez]
    · cases h
theorem ssum_app (σ : Nat → Int) (a b : List (Int × sF)) : ssum σ (a ++ b) = ssum σ a + ssum σ b := by simp [ssum]
theorem ssum_neg (σ : Nat → Int) : ∀ a : List (Int × sF), ssum σ (a.map (fun q => (-q.1, q.2))) = -ssum σ a
  | [] => rfl
  | t :: r => by
    have ih := ssum_neg σ r
    simp only [ssum, List.map_cons, List.sum_cons, Int.neg_mul] at ih ⊢
    omega
theorem ssum_x {n n' : Nat} {σ σ' : Nat → Int} (hx : sX n σ n' σ') : ∀ (a : List (Int × sF)), (∀ t ∈ a, swf n t.2) → ssum σ' a = ssum σ a
  | [], _ => rfl
  | t :: r, h => by
    have ih := ssum_x hx r (fun t ht => h t (List.mem_cons_of_mem _ ht))
    have h1 := ((h t List.mem_cons_self).x hx).2
    simp only [ssum, List.map_cons, List.sum_cons] at ih ⊢
    rw [ih, h1]
/-- terms of fields -/
def stmF (k : sK) : List (Nat × Nat × Int) → Option (List (Int × sF))
  | [] => some []
  | (q, j, c) :: r => (match slook k.2.2 q (none, (j : Int)), stmF k r with
    | some f, some L => some ((c, f) :: L)
    | _, _ => none)
def smuH (h : zH) (cf : List (Nat × Nat × Int)) : Int := (cf.map (fun q => q.2.2 * (h.2.1 q.1 q.2.1).toInt)).sum
theorem stmF_ok {k : sK} {σ : Nat → Int} {h : zH} (hk : sKok k σ h) : ∀ (cf : List (Nat × Nat × Int)) (L : List (Int × sF)), stmF k cf = some L → (∀ t ∈ L, swf k.1.length t.2) ∧ ssum σ L = smuH h cf
  | [], L, h => by
    cases h
    exact ⟨fun _ h => (nomatch h), rfl⟩
  | (q, j, c) :: r, L, h9 => by
    simp only [stmF] at h9
    split at h9
    · rename_i f L' e1 e2
      cases h9
      obtain ⟨w1, w2⟩ := stmF_ok hk r L' e2
      obtain ⟨b1, b2, b3⟩ := hk.2.2 _ (slook_mem e1)
      refine ⟨fun t ht => ?_, ?_⟩
      · rcases List.mem_cons.mp ht with e | ht
        · subst e
          exact b2
        · exact w1 t ht
      · have b3 : (h.2.1 q ((j : Int)).toNat).toInt = sval σ f := b3
        rw [Int.toNat_natCast] at b3
        simp only [ssum, smuH, List.map_cons, List.sum_cons] at w2 ⊢
        rw [w2, b3]
    · cases h9
/-- a cut is reached -/
def sS (w : sW) (cuts : List sCut) (cur : Option (List (Int × sF))) (pc : Nat) (l : sL) (st : List sV) (k : sK) : Bool := match cuts.find? (fun c => c.1 == pc) with
  | none => false
  | some c => st.isEmpty && (c.2.1.all (fun q => match slget l q.1 with
      | some a => sfit k q.2 a
      | none => false) && (c.2.2.2.2.1.all (fun t => match slook k.2.2 t.1 (none, (t.2.1 : Int)) with
      | some f => sin (siv k f) t.2.2
      | none => sin (sIv w t.1 t.2.1) t.2.2) && (match cur with
    | none => true
    | some m => (match stm l c.2.2.1, stmF k c.2.2.2.2.2 with
      | some L, some L2 => sle k ((c.2.2.2.1, (none, 1)) :: (L ++ (L2 ++ m.map (fun q => (-q.1, q.2))))) (-1)
      | _, _ => false))))
def sgood (c : sCut) (lo : zL) (h : zH) : Prop := (∀ q ∈ c.2.1, ∃ v, zget lo q.1 = some v ∧ sTok q.2 v) ∧ ∀ t ∈ c.2.2.2.2.1, t.2.2.1 ≤ (h.2.1 t.1 t.2.1).toInt ∧ (h.2.1 t.1 t.2.1).toInt ≤ t.2.2.2
def smuC (c : sCut) (lo : zL) (h : zH) : Int := smu lo c.2.2.1 c.2.2.2.1 + smuH h c.2.2.2.2.2
theorem sS_ok {w : sW} {cuts : List sCut} {cur : Option (List (Int × sF))} {pc : Nat} {l : sL} {st : List sV} {k : sK} (hc : sS w cuts cur pc l st k = true) {σ : Nat → Int} {lo : zL} {st' : List Value} {h : zH} (hk : sKok k σ h) (hl : sLR k.1.length σ l lo) (hs : sSR k.1.length σ st st') (hi : sInv w h) :
    ∃ c ∈ cuts, c.1 = pc ∧ st' = [] ∧ sgood c lo h ∧ ∀ m, cur = some m → smuC c lo h ≤ ssum σ m - 1 := by
  unfold sS at hc
  split at hc
  · cases hc
  · rename_i c e
    simp only [Bool.and_eq_true] at hc
    obtain ⟨c1, c2, c4, c3⟩ := hc
    refine ⟨c, List.mem_of_find?_eq_some e, ?_, ?_, ⟨fun q hq => ?_, fun t ht => ?_⟩, fun m hm => ?_⟩
    · have := List.find?_some e
      exact beq_iff_eq.mp this
    · have e2 : st = [] := List.isEmpty_iff.mp c1
      subst e2
      exact hs
    · have h1 := List.all_eq_true.mp c2 q hq
      split at h1
      · rename_i a ea
        obtain ⟨v, e3, e4⟩ := slget_ok hl ea
        exact ⟨v, e3, sfit_ok hk h1 e4⟩
      · cases h1
    · have h1 := List.all_eq_true.mp c4 t ht
      split at h1
      · rename_i f ef
        obtain ⟨b1, b2, b3⟩ := hk.2.2 _ (slook_mem ef)
        have b3 : (h.2.1 t.1 ((t.2.1 : Int)).toNat).toInt = sval σ f := b3
        rw [Int.toNat_natCast] at b3
        have hv := siv_ok (x := h.2.1 t.1 t.2.1) hk ⟨b2, b3⟩
        exact sin_ok h1 hv.1 hv.2
      · have hv := hi.2.2 t.1 t.2.1
        exact sin_ok h1 hv.1 hv.2
    · subst hm
      simp only at c3
      split at c3
      · rename_i L L2 eL eL2
        obtain ⟨w1, w2⟩ := stm_ok hl _ _ eL
        obtain ⟨w3, w4⟩ := stmF_ok hk _ _ eL2
        have h1 := sle_ok hk c3
        have e5 : ssum σ ((c.2.2.2.1, (none, 1)) :: (L ++ (L2 ++ m.map (fun q => (-q.1, q.2))))) = c.2.2.2.1 * 1 + (ssum σ L + (ssum σ L2 + -ssum σ m)) := by
          rw [← ssum_neg, ← ssum_app, ← ssum_app]
          rfl
        rw [e5, w2, w4] at h1
        unfold smuC smu
        omega
      · cases c3
theorem zX_sub {l : Launch} {Γ : zG} {al : Bool} {d : Nat} {M : zHd} {QF : List Frame → Array Value → State → State → Prop} {cs ss pc : Nat} {lo lo2 : zL} {st : List Value} {h : zH} (hs : ∀ x ∈ lo2, x ∈ lo) (hX : zX l Γ al d M QF cs ss pc lo2 st h) : zX l Γ al d M QF cs ss pc lo st h :=
  fun a b p e s m args below meth c hc H locs ls hl hr hS => hX a b p e s m args below meth c hc H locs ls ⟨hl.1, hl.2.1, fun q hq => by
    obtain ⟨x, hx, rfl⟩ := List.mem_map.mp hq
    exact hl.2.2 _ (List.mem_map.mpr ⟨x, hs x hx, rfl⟩)⟩ hr hS
theorem sgood_vals {lo : zL} : ∀ (L : List (Nat × sT)), (∀ q ∈ L, ∃ v, zget lo q.1 = some v ∧ sTok q.2 v) → ∃ vals, sTL (L.map (fun q => q.2)) vals ∧ ∀ x ∈ szip L vals, zget lo x.1 = some x.2
  | [], _ => ⟨[], rfl, fun _ h => (nomatch h)⟩
  | (j, t) :: r, h => by
    obtain ⟨v, e1, e2⟩ := h (j, t) List.mem_cons_self
    obtain ⟨vals, a1, a2⟩ := sgood_vals r (fun q hq => h q (List.mem_cons_of_mem _ hq))
    refine ⟨v :: vals, ⟨v, vals, rfl, e2, a1⟩, fun x hx => ?_⟩
    rcases List.mem_cons.mp hx with e | hx
    · subst e
      exact e1
    · exact a2 x hx
theorem szv_sub {lo lo2 : zL} (hs : ∀ x ∈ lo2, zget lo x.1 = some x.2) {j : Nat} {v : Value} (h : zget lo2 j = some v) : zget lo j = some v := hs (j, v) (zget_mem lo2 j v h)

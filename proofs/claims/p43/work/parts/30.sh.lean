/-- a place where a body is cut: its pc, what its locals are, what places hold; a measure: so many times this local .., a number, so many times this field; this local is that one and at least so much more -/
abbrev sCut : Type := Nat × List (Nat × sT) × sAs × List (Nat × Int) × Int × List (Nat × Nat × Int) × List (Nat × Nat × Int)
/-- locals as they are told -/
def sen : List (Nat × sT) → sL → sK → (sL → sK → Bool) → Bool
  | [], l, k, C => C l k
  | (j, .inl iv) :: r, l, k, C => snew k iv (fun f k' => sen r ((j, .inl f) :: l) k' C)
  | (j, .inr (.inl q)) :: r, l, k, C => sen r ((j, .inr (.inl q)) :: l) k C
  | (j, .inr (.inr iv)) :: r, l, k, C => snew k iv (fun f k' => sen r ((j, slong f) :: l) k' C)
theorem sen_ok {h : zH} {lo : zL} {C : sL → sK → Bool} : ∀ (L : List (Nat × sT)) (l : sL) (lo2 : zL) (k : sK) (σ : Nat → Int), sen L l k C = true → sKok k σ h → sLR k.1.length σ l lo2 → (∀ x ∈ lo2, zget lo x.1 = some x.2) → (∀ q ∈ L, ∃ v, zget lo q.1 = some v ∧ sTok q.2 v) → ∃ l' k' σ' lo3, C l' k' = true ∧ sKok k' σ' h ∧ sX k.1.length σ k'.1.length σ' ∧ sLR k'.1.length σ' l' lo3 ∧ ∀ x ∈ lo3, zget lo x.1 = some x.2
  | [], l, lo2, k, σ, hc, hk, hl, hz, _ => ⟨l, k, σ, lo2, hc, hk, sX.rf, hl, hz⟩
  | (j, .inl iv) :: r, l, lo2, k, σ, hc, hk, hl, hz, hL => by
    have hc : snew k iv (fun f k' => sen r ((j, .inl f) :: l) k' C) = true := hc
    obtain ⟨v, e1, x, rfl, h1, h2⟩ := hL _ List.mem_cons_self
    obtain ⟨f', k', σ', c, a, b, d⟩ := snew_ok hc hk h1 h2
    obtain ⟨l2, k2, σ2, lo3, c2, a2, b2, d2, z2⟩ := sen_ok r ((j, .inl f') :: l) ((j, .int x) :: lo2) k' σ' c a ⟨_, _, rfl, ⟨x, rfl, d⟩, hl.x b⟩ (fun y hy => by
      rcases List.mem_cons.mp hy with e | hy
      · subst e
        exact e1
      · exact hz y hy) (fun q hq => hL q (List.mem_cons_of_mem _ hq))
    exact ⟨l2, k2, σ2, lo3, c2, a2, b.tr b2, d2, z2⟩
  | (j, .inr (.inl q)) :: r, l, lo2, k, σ, hc, hk, hl, hz, hL => by
    obtain ⟨v, e1, e2⟩ := hL _ List.mem_cons_self
    have e2 : v = .ref q := e2
    subst e2
    exact sen_ok r ((j, .inr (.inl q)) :: l) ((j, .ref q) :: lo2) k σ hc hk ⟨_, _, rfl, rfl, hl⟩ (fun y hy => by
      rcases List.mem_cons.mp hy with e | hy
      · subst e
        exact e1
      · exact hz y hy) (fun q hq => hL q (List.mem_cons_of_mem _ hq))
  | (j, .inr (.inr iv)) :: r, l, lo2, k, σ, hc, hk, hl, hz, hL => by
    have hc : snew k iv (fun f k' => sen r ((j, slong f) :: l) k' C) = true := hc
    obtain ⟨v, e1, x, rfl, h1, h2⟩ := hL _ List.mem_cons_self
    obtain ⟨f', k', σ', c, a, b, d⟩ := snew_ok hc hk h1 h2
    obtain ⟨l2, k2, σ2, lo3, c2, a2, b2, d2, z2⟩ := sen_ok r ((j, slong f') :: l) ((j, .long x) :: lo2) k' σ' c a ⟨_, _, rfl, ⟨x, rfl, d⟩, hl.x b⟩ (fun y hy => by
      rcases List.mem_cons.mp hy with e | hy
      · subst e
        exact e1
      · exact hz y hy) (fun q hq => hL q (List.mem_cons_of_mem _ hq))
    exact ⟨l2, k2, σ2, lo3, c2, a2, b.tr b2, d2, z2⟩
def szv (lo : zL) (j : Nat) : Int := match zget lo j with
  | some (.int x) => x.toInt
  | some (.long x) => x.toInt
  | _ => 0
def smu (lo : zL) (cf : List (Nat × Int)) (c : Int) : Int := (cf.map (fun q => q.2 * szv lo q.1)).sum + c
/-- the measure's terms -/
def stm (l : sL) : List (Nat × Int) → Option (List (Int × sF))
  | [] => some []
  | (j, c) :: r => (match slget l j, stm l r with
    | some (.inl f), some L => some ((c, f) :: L)
    | some (.inr (.inr (.inr f))), some L => some ((c, f) :: L)
    | _, _ => none)
theorem stm_ok {n : Nat} {σ : Nat → Int} {l : sL} {lo2 lo : zL} (hl : sLR n σ l lo2) (hz : ∀ j v, zget lo2 j = some v → zget lo j = some v) : ∀ (cf : List (Nat × Int)) (L : List (Int × sF)), stm l cf = some L → (∀ t ∈ L, swf n t.2) ∧ ssum σ L = (cf.map (fun q => q.2 * szv lo q.1)).sum
  | [], L, h => by
    cases h
    exact ⟨fun _ h => (nomatch h), rfl⟩
  | (j, c) :: r, L, h => by
    simp only [stm] at h
    split at h
    · rename_i f L' e1 e2
      cases h
      obtain ⟨w1, w2⟩ := stm_ok hl hz r L' e2
      obtain ⟨v, e3, x, rfl, hx⟩ := slget_ok hl e1
      have e4 : zget lo j = some (.int x) := hz _ _ e3
      have ez : szv lo j = sval σ f := by
        simp only [szv, e4]
        exact hx.2
      refine ⟨fun t ht => ?_, ?_⟩
      · rcases List.mem_cons.mp ht with e | ht
        · subst e
          exact hx.1
        · exact w1 t ht
      · simp only [ssum, List.map_cons, List.sum_cons] at w2 ⊢
        rw [w2, ez]
    · rename_i f L' e1 e2
      cases h
      obtain ⟨w1, w2⟩ := stm_ok hl hz r L' e2
      obtain ⟨v, e3, x, rfl, hx⟩ := slget_ok hl e1
      have e4 : zget lo j = some (.long x) := hz _ _ e3
      have ez : szv lo j = sval σ f := by
        simp only [szv, e4]
        exact hx.2
      refine ⟨fun t ht => ?_, ?_⟩
      · rcases List.mem_cons.mp ht with e | ht
        · subst e
          exact hx.1
        · exact w1 t ht
      · simp only [ssum, List.map_cons, List.sum_cons] at w2 ⊢
        rw [w2, ez]
    · cases h
theorem ssum_app (σ : Nat → Int) (a b : List (Int × sF)) : ssum σ (a ++ b) = ssum σ a + ssum σ b := by
  simp [ssum]
theorem ssum_neg (σ : Nat → Int) : ∀ a : List (Int × sF), ssum σ (a.map (fun q => (-q.1, q.2))) = -ssum σ a
  | [] => rfl
  | (c, f) :: r => by
    have ih := ssum_neg σ r
    simp only [ssum, List.map_cons, List.sum_cons] at ih ⊢
    rw [ih, Int.neg_mul]
    omega
theorem ssum_x {n n' : Nat} {σ σ' : Nat → Int} (hx : sX n σ n' σ') : ∀ L : List (Int × sF), (∀ t ∈ L, swf n t.2) → ssum σ' L = ssum σ L
  | [], _ => rfl
  | t :: r, h => by
    have ih := ssum_x hx r (fun t' ht' => h t' (List.mem_cons_of_mem _ ht'))
    have h1 := ((h t List.mem_cons_self).x hx).2
    simp only [ssum, List.map_cons, List.sum_cons] at ih ⊢
    rw [ih, h1]
/-- terms of fields -/
def stmF (k : sK) : List (Nat × Nat × Int) → Option (List (Int × sF))
  | [] => some []
  | (q, j, c) :: r => (match slook k.2.2.1 q (none, (j : Int)), stmF k r with
    | some f, some L => some ((c, f) :: L)
    | _, _ => none)
def smuH (h : zH) (cf : List (Nat × Nat × Int)) : Int := (cf.map (fun q => q.2.2 * (h.2.1 q.1 q.2.1).toInt)).sum
theorem stmF_ok {k : sK} {σ : Nat → Int} {h : zH} (hk : sKok k σ h) : ∀ (cf : List (Nat × Nat × Int)) (L : List (Int × sF)), stmF k cf = some L → (∀ t ∈ L, swf k.1.length t.2) ∧ ssum σ L = smuH h cf
  | [], L, h => by
    cases h
    exact ⟨fun _ h => (nomatch h), rfl⟩
  | (q, j, c) :: r, L, h9 => by
    simp only [stmF] at h9
    split at h9
    · rename_i f L' e1 e2
      cases h9
      obtain ⟨w1, w2⟩ := stmF_ok hk r L' e2
      obtain ⟨b1, b2, b3⟩ := hk.2.2.1 _ (slook_mem e1)
      refine ⟨fun t ht => ?_, ?_⟩
      · rcases List.mem_cons.mp ht with e | ht
        · subst e
          exact b2
        · exact w1 t ht
      · have b3 : (h.2.1 q ((j : Int)).toNat).toInt = sval σ f := b3
        rw [Int.toNat_natCast] at b3
        simp only [ssum, smuH, List.map_cons, List.sum_cons] at w2 ⊢
        rw [w2, b3]
    · cases h9
/-- it comes to a cut -/
def sfc (w : sW) (cur : Option (List (Int × sF))) (pc : Nat) (l : sL) (k : sK) (c : sCut) : Bool := c.1 == pc && (c.2.1.all (fun q => match slget l q.1 with
      | some a => sfit k q.2 a
      | none => false) && (schA w k c.2.2.1 && (c.2.2.2.2.2.2.all (fun t => match slget l t.1, slget l t.2.1 with
      | some (.inl f), some (.inl g) => decide (t.2.2 ≤ (ssbv k f g).1)
      | _, _ => false) && (match cur with
    | none => true
    | some m => (match stm l c.2.2.2.1, stmF k c.2.2.2.2.2.1 with
      | some L, some L2 => sle k ((c.2.2.2.2.1, (none, 1)) :: (L ++ (L2 ++ m.map (fun q => (-q.1, q.2))))) (-1)
      | _, _ => false)))))
def sS (w : sW) (cuts : List sCut) (cur : Option (List (Int × sF))) (pc : Nat) (l : sL) (st : List sV) (k : sK) : Bool := st.isEmpty && cuts.any (sfc w cur pc l k)
def sgood (c : sCut) (lo : zL) (h : zH) : Prop := (∀ q ∈ c.2.1, ∃ v, zget lo q.1 = some v ∧ sTok q.2 v) ∧ sAok c.2.2.1 h ∧ ∀ t ∈ c.2.2.2.2.2.2, t.2.2 ≤ szv lo t.1 - szv lo t.2.1
def smuC (c : sCut) (lo : zL) (h : zH) : Int := smu lo c.2.2.2.1 c.2.2.2.2.1 + smuH h c.2.2.2.2.2.1
theorem sS_ok {w : sW} {cuts : List sCut} {cur : Option (List (Int × sF))} {pc : Nat} {l : sL} {st : List sV} {k : sK} (hc : sS w cuts cur pc l st k = true) {σ : Nat → Int} {lo2 lo : zL} {st' : List Value} {h : zH} (hk : sKok k σ h) (hl : sLR k.1.length σ l lo2) (hz : ∀ j v, zget lo2 j = some v → zget lo j = some v) (hs : sSR k.1.length σ st st') (hi : sInv w h) :
    ∃ c ∈ cuts, c.1 = pc ∧ st' = [] ∧ sgood c lo h ∧ ∀ m, cur = some m → smuC c lo h ≤ ssum σ m - 1 := by
  simp only [sS, Bool.and_eq_true] at hc
  obtain ⟨c0, hc⟩ := hc
  obtain ⟨c, hmem, hc⟩ := List.any_eq_true.mp hc
  simp only [sfc, Bool.and_eq_true, beq_iff_eq] at hc
  obtain ⟨c1, c2, c4, c5, c3⟩ := hc
  refine ⟨c, hmem, c1, ?_, ⟨fun q hq => ?_, schA_ok c4 hk hi, fun t ht => ?_⟩, fun m hm => ?_⟩
  · have e2 : st = [] := List.isEmpty_iff.mp c0
    subst e2
    exact hs
  · have h1 := List.all_eq_true.mp c2 q hq
    split at h1
    · rename_i a ea
      obtain ⟨v, e3, e4⟩ := slget_ok hl ea
      exact ⟨v, hz _ _ e3, sfit_ok hk h1 e4⟩
    · cases h1
  · have h1 := List.all_eq_true.mp c5 t ht
    split at h1
    · rename_i f g ef eg
      obtain ⟨v1, e1, x, rfl, hx⟩ := slget_ok hl ef
      obtain ⟨v2, e2, y, rfl, hy⟩ := slget_ok hl eg
      have hv := ssbv_ok hk hx hy
      have h1 := of_decide_eq_true h1
      simp only [szv, hz _ _ e1, hz _ _ e2]
      omega
    · cases h1
  · subst hm
    simp only at c3
    split at c3
    · rename_i L L2 eL eL2
      obtain ⟨w1, w2⟩ := stm_ok hl hz _ _ eL
      obtain ⟨w3, w4⟩ := stmF_ok hk _ _ eL2
      have h1 := sle_ok hk c3
      have e5 : ssum σ ((c.2.2.2.2.1, (none, 1)) :: (L ++ (L2 ++ m.map (fun q => (-q.1, q.2))))) = c.2.2.2.2.1 * 1 + (ssum σ L + (ssum σ L2 + -ssum σ m)) := by
        rw [← ssum_neg, ← ssum_app, ← ssum_app]
        rfl
      rw [e5, w2, w4] at h1
      unfold smuC smu
      omega
    · cases c3
theorem zX_sub {l : Launch} {Γ : zG} {al : Bool} {d : Nat} {M : zHd} {QF : List Frame → Array Value → State → State → Prop} {cs ss pc : Nat} {lo lo2 : zL} {st : List Value} {h : zH} (hs : ∀ x ∈ lo2, x ∈ lo) (hX : zX l Γ al d M QF cs ss pc lo2 st h) : zX l Γ al d M QF cs ss pc lo st h :=
  fun a b p e s m args below meth c hc H locs ls hl hr hS => hX a b p e s m args below meth c hc H locs ls ⟨hl.1, hl.2.1, fun q hq => by
    obtain ⟨x, hx, rfl⟩ := List.mem_map.mp hq
    exact hl.2.2 _ (List.mem_map.mpr ⟨x, hs x hx, rfl⟩)⟩ hr hS
/-- what a return owes -/
def sKc (w : sW) (res : Option sT) (post : sAs) (r : Option sV) (k : sK) : Bool := schA w k post && (match res, r with
  | none, none => true
  | some t, some a => sfit k t a
  | _, _ => false)
theorem sKc_ok {w : sW} {md : sM} {h0 : zH} {n0 : Nat} {σ0 : Nat → Int} {res : Option sT} {post : sAs} : sHK w md h0 n0 σ0 (sKc w res post) (fun r h' => sTO res r ∧ sInv w h' ∧ sMd md h0 h' ∧ sAok post h') := by
  intro r k hc σ r' h hk hr hi hm _
  simp only [sKc, Bool.and_eq_true] at hc
  obtain ⟨hp, hc⟩ := hc
  refine ⟨?_, hi, hm, schA_ok hp hk hi⟩
  cases res with
  | none =>
    cases r with
    | none => exact hr
    | some a => cases hc
  | some t =>
    cases r with
    | none => cases hc
    | some a =>
      obtain ⟨v, e, hv⟩ := hr
      exact ⟨v, e, sfit_ok hk hc hv⟩
/-- differences of locals -/
def sdif (l : sL) : List (Nat × Nat × Int) → sK → sK
  | [], k => k
  | t :: r, k => sdif l r (match slget l t.1, slget l t.2.1 with
    | some (.inl (some a, ca)), some (.inl (some b, cb)) => (k.1, ((a, b, t.2.2 - (ca - cb)) :: k.2.1.1, k.2.1.2), k.2.2)
    | _, _ => k)
theorem sdif_ok {lo2 lo : zL} {l : sL} {σ : Nat → Int} {h : zH} (hz : ∀ j v, zget lo2 j = some v → zget lo j = some v) : ∀ (L : List (Nat × Nat × Int)) (k : sK), sKok k σ h → sLR k.1.length σ l lo2 → (∀ t ∈ L, t.2.2 ≤ szv lo t.1 - szv lo t.2.1) → sKok (sdif l L k) σ h ∧ (sdif l L k).1 = k.1
  | [], _, hk, _, _ => ⟨hk, rfl⟩
  | t :: r, k, hk, hl, hL => by
    simp only [sdif]
    split
    · rename_i a ca b cb ea eb
      obtain ⟨v1, e1, x, rfl, hx⟩ := slget_ok hl ea
      obtain ⟨v2, e2, y, rfl, hy⟩ := slget_ok hl eb
      have ht := hL t List.mem_cons_self
      simp only [szv, hz _ _ e1, hz _ _ e2] at ht
      have ex : x.toInt = σ a + ca := hx.2
      have ey : y.toInt = σ b + cb := hy.2
      refine sdif_ok hz r (k.1, ((a, b, t.2.2 - (ca - cb)) :: k.2.1.1, k.2.1.2), k.2.2) ⟨hk.1, ⟨fun t' ht' => ?_, hk.2.1.2⟩, hk.2.2⟩ hl (fun t' ht' => hL t' (List.mem_cons_of_mem _ ht'))
      rcases List.mem_cons.mp ht' with e | ht'
      · subst e
        refine ⟨hx.1, hy.1, ?_⟩
        show t.2.2 - (ca - cb) ≤ σ a - σ b
        omega
      · exact hk.2.1.1 t' ht'
    · exact sdif_ok hz r k hk hl (fun t' ht' => hL t' (List.mem_cons_of_mem _ ht'))
/-- a cut keeps its word -/
def scutB (w : sW) (T : Nat → List sCt) (md : sM) (n dep : Nat) (M : zM) (res : Option sT) (post : sAs) (spl : List (Nat × Nat)) (cuts : List sCut) (c : sCut) : Bool := sen c.2.1 [] ([], ([], []), [], [], none) (fun l k => saA c.2.2.1 (sdif l c.2.2.2.2.2.2 k) (fun k => match stm l c.2.2.2.1, stmF k c.2.2.2.2.2.1 with
  | some L0, some L2 => sle k (((c.2.2.2.2.1, (none, 1)) :: (L0 ++ L2)).map (fun q => (-q.1, q.2))) 0 && sit w md M (srn w T md n dep) (sKc w res post) (fun p => cuts.any (fun c => c.1 == p)) spl (sS w cuts (some ((c.2.2.2.2.1, (none, 1)) :: (L0 ++ L2)))) n c.1 l [] k
  | _, _ => false))
theorem sk0 (h : zH) (σ : Nat → Int) : sKok ([], ([], []), [], [], none) σ h := ⟨fun i iv hi => (by cases hi), ⟨fun t ht => (nomatch ht), fun t ht => (nomatch ht)⟩, fun t ht => (nomatch ht), fun t ht => (nomatch ht), fun L e => (nomatch e)⟩
/-- with a log -/
theorem sk1 (h : zH) (σ : Nat → Int) : sKok ([], ([], []), [], [], some ([], [])) σ h := ⟨fun i iv hi => (by cases hi), ⟨fun t ht => (nomatch ht), fun t ht => (nomatch ht)⟩, fun t ht => (nomatch ht), fun t ht => (nomatch ht), fun L e => by
  cases e
  exact ⟨fun t ht => (nomatch ht), fun t ht => (nomatch ht)⟩⟩
theorem scut_nn {w : sW} {T : Nat → List sCt} {md : sM} {n dep : Nat} {M : zM} {res : Option sT} {post : sAs} {spl : List (Nat × Nat)} {cuts : List sCut} {c : sCut} (hb : scutB w T md n dep M res post spl cuts c = true) {lo : zL} {h : zH} (hg : sgood c lo h) : 0 ≤ smuC c lo h := by
  unfold scutB at hb
  obtain ⟨l1, k1, σ1, lo3, c1, a1, b1, d1, z1⟩ := sen_ok (h := h) (lo := lo) c.2.1 [] [] ([], ([], []), [], [], none) (fun _ => 0) hb (sk0 h _) rfl (fun x hx => (nomatch hx)) hg.1
  obtain ⟨a1', ed⟩ := sdif_ok (fun j v e => z1 (j, v) (zget_mem _ _ _ e)) c.2.2.2.2.2.2 k1 a1 d1 hg.2.2
  obtain ⟨k2, σ2, c2, a2, b2⟩ := saA_ok c1 a1' hg.2.1
  rw [ed] at b2
  have d2 := d1.x b2
  split at c2
  · rename_i L0 L2 eL eL2
    simp only [Bool.and_eq_true] at c2
    obtain ⟨w1, w2⟩ := stm_ok d2 (fun j v e => z1 (j, v) (zget_mem _ _ _ e)) _ _ eL
    obtain ⟨w3, w4⟩ := stmF_ok a2 _ _ eL2
    have em : ssum σ2 ((c.2.2.2.2.1, (none, 1)) :: (L0 ++ L2)) = smuC c lo h := by
      have h2 : ssum σ2 ((c.2.2.2.2.1, (none, 1)) :: (L0 ++ L2)) = c.2.2.2.2.1 * 1 + (ssum σ2 L0 + ssum σ2 L2) := by
        rw [← ssum_app]
        rfl
      rw [h2, w2, w4]
      unfold smuC smu
      omega
    have h1 := sle_ok a2 c2.1
    rw [ssum_neg, em] at h1
    omega
  · cases c2
theorem scut_ok {l : Launch} {Γ : zG} {w : sW} {T : Nat → List sCt} {md : sM} {n dep d : Nat} {M : zM} {res : Option sT} {post : sAs} {spl : List (Nat × Nat)} {cuts : List sCut} {h0 : zH} {QF : List Frame → Array Value → State → State → Prop} (hT : ∀ mi, ∀ c ∈ T mi, c.2.2.2.2.2 ≤ dep → sCon l Γ w mi c) (hck : zckB M = true)
    (hQ : ∀ below args s t, MQ below (zQ Γ false (fun r h' => sTO res r ∧ sInv w h' ∧ sMd md h0 h' ∧ sAok post h')) args s M.1.2.2.2.2.1 M.1.2.2.2.2.2 (zA Γ) t → QF below args s t) (hd : dep ≤ d) {c : sCut} (hb : scutB w T md n dep M res post spl cuts c = true) {lo : zL} {h : zH} (hg : sgood c lo h) (hi : sInv w h) (hm : sMd md h0 h)
    (ih : ∀ c' ∈ cuts, ∀ (lo' : zL) (h' : zH), sgood c' lo' h' → sInv w h' → sMd md h0 h' → smuC c' lo' h' ≤ smuC c lo h - 1 → zX l Γ false (d + 1) M.1 QF 0 0 c'.1 lo' [] h') : zX l Γ false (d + 1) M.1 QF 0 0 c.1 lo [] h := by
  unfold scutB at hb
  obtain ⟨l1, k1, σ1, lo3, c1, a1, b1, d1, z1⟩ := sen_ok (h := h) (lo := lo) c.2.1 [] [] ([], ([], []), [], [], none) (fun _ => 0) hb (sk0 h _) rfl (fun x hx => (nomatch hx)) hg.1
  obtain ⟨a1', ed⟩ := sdif_ok (fun j v e => z1 (j, v) (zget_mem _ _ _ e)) c.2.2.2.2.2.2 k1 a1 d1 hg.2.2
  obtain ⟨k2, σ2, c2, a2, b2⟩ := saA_ok c1 a1' hg.2.1
  rw [ed] at b2
  have d2 := d1.x b2
  split at c2
  · rename_i L0 L2 eL eL2
    simp only [Bool.and_eq_true] at c2
    obtain ⟨w1, w2⟩ := stm_ok d2 (fun j v e => z1 (j, v) (zget_mem _ _ _ e)) _ _ eL
    obtain ⟨w3, w4⟩ := stmF_ok a2 _ _ eL2
    have em : ssum σ2 ((c.2.2.2.2.1, (none, 1)) :: (L0 ++ L2)) = smuC c lo h := by
      have h2 : ssum σ2 ((c.2.2.2.2.1, (none, 1)) :: (L0 ++ L2)) = c.2.2.2.2.1 * 1 + (ssum σ2 L0 + ssum σ2 L2) := by
        rw [← ssum_app]
        rfl
      rw [h2, w2, w4]
      unfold smuC smu
      omega
    refine zX_sub (lo2 := lo3) (fun x hx => zget_mem _ _ _ (z1 x hx)) ?_
    refine sit_ok (n0 := k2.1.length) (σ0 := σ2) (QF := QF) (spl := spl) hck hQ (srn_ok hT dep d (Nat.le_refl _) hd) sKc_ok (fun pc l0 st k hcut hS σ' l' st' h' hr => ?_) n c.1 _ [] _ c2.2 σ2 _ [] h ⟨a2, d2, rfl, hi, hm, sX.rf⟩
    obtain ⟨c', hc', e1, e2, hg', hmu⟩ := sS_ok (lo := l') hS hr.1 hr.2.1 (fun _ _ h => h) hr.2.2.1 hr.2.2.2.1
    subst e1
    subst e2
    have h3 := hmu _ rfl
    have hwf : ∀ t ∈ ((c.2.2.2.2.1, (none, 1)) :: (L0 ++ L2) : List (Int × sF)), swf k2.1.length t.2 := fun t ht => by
      rcases List.mem_cons.mp ht with e | ht
      · subst e
        exact trivial
      · rcases List.mem_append.mp ht with ht | ht
        · exact w1 t ht
        · exact w3 t ht
    rw [ssum_x hr.2.2.2.2.2 _ hwf, em] at h3
    exact ih c' hc' l' h' hg' hr.2.2.2.1 hr.2.2.2.2.1 h3
  · cases c2
theorem sloop {l : Launch} {Γ : zG} {w : sW} {T : Nat → List sCt} {md : sM} {n dep d : Nat} {M : zM} {res : Option sT} {post : sAs} {spl : List (Nat × Nat)} {cuts : List sCut} {h0 : zH} {QF : List Frame → Array Value → State → State → Prop} (hT : ∀ mi, ∀ c ∈ T mi, c.2.2.2.2.2 ≤ dep → sCon l Γ w mi c) (hck : zckB M = true)
    (hQ : ∀ below args s t, MQ below (zQ Γ false (fun r h' => sTO res r ∧ sInv w h' ∧ sMd md h0 h' ∧ sAok post h')) args s M.1.2.2.2.2.1 M.1.2.2.2.2.2 (zA Γ) t → QF below args s t) (hd : dep ≤ d) (hcuts : ∀ c ∈ cuts, scutB w T md n dep M res post spl cuts c = true) :
    ∀ (N : Nat) (c : sCut), c ∈ cuts → ∀ (lo : zL) (h : zH), sgood c lo h → sInv w h → sMd md h0 h → smuC c lo h < N → zX l Γ false (d + 1) M.1 QF 0 0 c.1 lo [] h := by
  intro N
  induction N with
  | zero =>
    intro c hc lo h hg hi hm hlt
    have := scut_nn (hcuts c hc) hg
    omega
  | succ N ih =>
    intro c hc lo h hg hi hm hlt
    exact scut_ok hT hck hQ hd (hcuts c hc) hg hi hm (fun c' hc' lo' h' hg' hi' hm' hle => ih c' hc' lo' h' hg' hi' hm' (by omega))
def sTw : sT → Nat
  | .inr (.inr _) => 2
  | _ => 1
/-- arguments by their places -/
def sslot : Nat → List sT → List (Nat × sT)
  | _, [] => []
  | j, t :: r => (j, t) :: sslot (j + sTw t) r
theorem sTcat : ∀ {t : sT} {v : Value}, sTok t v → (if v.category = 2 then 2 else 1) = sTw t
  | .inl _, _, ⟨_, e, _⟩ => by rw [e]; rfl
  | .inr (.inl _), _, e => by rw [show _ = _ from e]; rfl
  | .inr (.inr _), _, ⟨_, e, _⟩ => by rw [e]; rfl
theorem sslot_ge : ∀ (j : Nat) (L : List sT), ∀ q ∈ sslot j L, j ≤ q.1
  | _, [], _, h => (nomatch h)
  | j, t :: r, q, h => by
    rcases List.mem_cons.mp h with e | h
    · subst e
      exact Nat.le_refl _
    · have := sslot_ge _ r q h
      omega
theorem sslot_ok : ∀ (j : Nat) (L : List sT) (args : List Value), sTL L args → ∀ q ∈ sslot j L, ∃ v, zget (lv_args j args) q.1 = some v ∧ sTok q.2 v
  | _, [], _, _, _, h => (nomatch h)
  | j, t :: r, _, ⟨v, u, e, h1, h2⟩, q, h => by
    subst e
    have ej : (if v.category = 2 then j + 2 else j + 1) = j + sTw t := by
      rw [← sTcat h1]
      split <;> rfl
    rcases List.mem_cons.mp h with e | h
    · subst e
      exact ⟨v, by show zget ((j, v) :: _) j = some v; simp only [zget, if_true], h1⟩
    · obtain ⟨v2, e1, e2⟩ := sslot_ok _ r u h2 q h
      refine ⟨v2, ?_, e2⟩
      show zget ((j, v) :: lv_args (if v.category = 2 then j + 2 else j + 1) u) q.1 = some v2
      rw [ej]
      have hge := sslot_ge _ r q h
      have hlt : j ≠ q.1 := by
        have : 0 < sTw t := by
          unfold sTw
          split <;> decide
        omega
      simp only [zget]
      rw [if_neg hlt]
      exact e1
def sslen (L : List sT) : Nat := (L.map sTw).sum
theorem sslen_ok : ∀ (L : List sT) (args : List Value), sTL L args → (lg_sl args).length = sslen L
  | [], _, h => by
    have h : _ = [] := h
    subst h
    rfl
  | t :: r, _, ⟨v, u, e, h1, h2⟩ => by
    subst e
    have ih := sslen_ok r u h2
    simp only [lg_sl, List.flatMap_cons, List.length_append, sslen, List.map_cons, List.sum_cons] at ih ⊢
    rw [ih, ← sTcat h1]
    congr 1
    cases v <;> rfl
/-- a method keeps its contract -/
def schk (w : sW) (T : Nat → List sCt) (n mi : Nat) (ct : sCt) (spl : List (Nat × Nat)) (cuts : List sCut) : Bool := match ct.2.2.2.2.2 with
  | 0 => false
  | dep + 1 => decide ((zCodes.get mi).1 = mi) && (decide (sslen ct.1 ≤ (zhd mi).2.2.1) && (sen (sslot 0 ct.1) [] ([], ([], []), [], [], none) (fun l k => saA ct.2.1 k (fun k => sit w ct.2.2.2.2.1 (zhd mi, (zCodes.get mi).2) (srn w T ct.2.2.2.2.1 n dep) (sKc w ct.2.2.1 ct.2.2.2.1) (fun p => cuts.any (fun c => c.1 == p)) spl (sS w cuts none) n 0 l [] k)) && cuts.all (scutB w T ct.2.2.2.2.1 n dep (zhd mi, (zCodes.get mi).2) ct.2.2.1 ct.2.2.2.1 spl cuts)))
theorem schk_ok {l : Launch} {Γ : zG} {w : sW} {T : Nat → List sCt} {n mi : Nat} {ct : sCt} {spl : List (Nat × Nat)} {cuts : List sCut} (hT : ∀ mi, ∀ c ∈ T mi, c.2.2.2.2.2 < ct.2.2.2.2.2 → sCon l Γ w mi c) (hc : schk w T n mi ct spl cuts = true) : sCon l Γ w mi ct := by
  obtain ⟨as, pre, res, post, md, dep9⟩ := ct
  intro d hd args h ha hi hp
  cases dep9 with
  | zero => cases hc
  | succ dep =>
    simp only [schk, Bool.and_eq_true, decide_eq_true_eq] at hc
    have hT : ∀ mi, ∀ c ∈ T mi, c.2.2.2.2.2 ≤ dep → sCon l Γ w mi c := fun mi c hc hle => hT mi c hc (Nat.lt_succ_of_le hle)
    obtain ⟨c1, c2, c3, c4⟩ := hc
    obtain ⟨q1, q2⟩ := zallP_get _ zCodes_ok mi
    rw [c1] at q1 q2
    obtain ⟨l1, k1, σ1, lo3, e1, a1, b1, d1, z1⟩ := sen_ok (h := h) (lo := lv_args 0 args) (sslot 0 as) [] [] ([], ([], []), [], [], none) (fun _ => 0) c3 (sk0 h _) rfl (fun x hx => (nomatch hx)) (sslot_ok 0 as args ha)
    obtain ⟨k2, σ2, e2, a2, b2⟩ := saA_ok e1 a1 hp
    have d2 := d1.x b2
    match d, hd with
    | d + 1, hd =>
      have hd' : dep ≤ d := Nat.le_of_succ_le_succ hd
      refine zbody q2 (by rw [sslen_ok as args ha]; exact c2) ?_
      refine zX_sub (lo2 := lo3) (fun x hx => zget_mem _ _ _ (z1 x hx)) ?_
      refine sit_ok (M := (zhd mi, (zCodes.get mi).2)) (h0 := h) (n0 := k2.1.length) (σ0 := σ2) (spl := spl) (Kp := fun r h' => sTO res r ∧ sInv w h' ∧ sMd md h h' ∧ sAok post h') q1 (fun _ _ _ _ h => h) (srn_ok hT dep d (Nat.le_refl _) hd') sKc_ok (fun pc l0 st k hcut hS σ' l' st' h' hr => ?_) n 0 _ [] _ e2 σ2 _ [] h ⟨a2, d2, rfl, hi, sMd.rf, sX.rf⟩
      obtain ⟨c', hc', e3, e4, hg', -⟩ := sS_ok (lo := l') hS hr.1 hr.2.1 (fun _ _ h => h) hr.2.2.1 hr.2.2.2.1
      subst e3
      subst e4
      refine sloop (M := (zhd mi, (zCodes.get mi).2)) (res := res) (post := post) (spl := spl) hT q1 (fun _ _ _ _ h => h) hd' (fun c hc => List.all_eq_true.mp c4 c hc) ((smuC c' l' h').toNat + 1) c' hc' l' h' hg' hr.2.2.2.1 hr.2.2.2.2.1 ?_
      omega
/-- a table of contracts: each is kept, if it is kept over those of fewer frames -/
theorem sall {l : Launch} {Γ : zG} {w : sW} {T : Nat → List sCt} (hc : ∀ D mi, ∀ c ∈ T mi, c.2.2.2.2.2 = D → (∀ mi, ∀ c ∈ T mi, c.2.2.2.2.2 < D → sCon l Γ w mi c) → sCon l Γ w mi c) : ∀ D mi, ∀ c ∈ T mi, c.2.2.2.2.2 = D → sCon l Γ w mi c := by
  intro D
  induction D using Nat.strongRecOn with
  | ind D ih => exact fun mi c hm e => hc D mi c hm e (fun mi' c' hm' hlt => ih _ hlt mi' c' hm' rfl)

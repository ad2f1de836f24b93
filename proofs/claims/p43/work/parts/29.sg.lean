/-! methods: contracts, runs, places where a run is cut -/
/-- an int within, a cell of the world, a long within -/
abbrev sT : Type := (Int × Int) ⊕ (Nat ⊕ (Int × Int))
def sTok : sT → Value → Prop
  | .inl iv, v => ∃ x, v = .int x ∧ iv.1 ≤ x.toInt ∧ x.toInt ≤ iv.2
  | .inr (.inl q), v => v = .ref q
  | .inr (.inr iv), v => ∃ x, v = .long x ∧ iv.1 ≤ x.toInt ∧ x.toInt ≤ iv.2
def sTL : List sT → List Value → Prop
  | [], l => l = []
  | a :: r, l => ∃ v t, l = v :: t ∧ sTok a v ∧ sTL r t
def sTO : Option sT → Option Value → Prop
  | none, r => r = none
  | some a, r => ∃ v, r = some v ∧ sTok a v
/-- what some places hold, what some references are, how far apart two places are at least; one of these lists of places holds, if there is one -/
abbrev sAs : Type := List (Nat × Nat × (Int × Int)) × List (Nat × Nat × Nat) × List (Nat × Nat × Nat × Nat × Int) × List (List (Nat × Nat × (Int × Int)))
def sPlP (h : zH) (t : Nat × Nat × (Int × Int)) : Prop := t.2.2.1 ≤ (h.2.1 t.1 t.2.1).toInt ∧ (h.2.1 t.1 t.2.1).toInt ≤ t.2.2.2
def sAok (A : sAs) (h : zH) : Prop := (∀ t ∈ A.1, t.2.2.1 ≤ (h.2.1 t.1 t.2.1).toInt ∧ (h.2.1 t.1 t.2.1).toInt ≤ t.2.2.2) ∧ (∀ t ∈ A.2.1, h.2.2.2 t.1 t.2.1 = some t.2.2) ∧ (∀ t ∈ A.2.2.1, t.2.2.2.2 ≤ (h.2.1 t.1 t.2.1).toInt - (h.2.1 t.2.2.1 t.2.2.2.1).toInt) ∧ (A.2.2.2 = [] ∨ ∃ L ∈ A.2.2.2, ∀ t ∈ L, sPlP h t)
def schP (w : sW) (k : sK) (t : Nat × Nat × (Int × Int)) : Bool := match slook k.2.2.1 t.1 (none, (t.2.1 : Int)) with
  | some f => sin (siv k f) t.2.2
  | none => sin (sIv w t.1 t.2.1) t.2.2
def schA (w : sW) (k : sK) (A : sAs) : Bool := A.1.all (schP w k) && (A.2.1.all (fun t => match slq k.2.2.2.1 t.1 t.2.1 with
  | some r => decide (r = t.2.2)
  | none => decide (w.2.1 t.1 t.2.1 = [t.2.2])) && (A.2.2.1.all (fun t => match slook k.2.2.1 t.1 (none, (t.2.1 : Int)), slook k.2.2.1 t.2.2.1 (none, (t.2.2.2.1 : Int)) with
  | some f, some g => decide (t.2.2.2.2 ≤ (ssbv k f g).1)
  | _, _ => false) && (A.2.2.2.isEmpty || A.2.2.2.any (fun L => L.all (schP w k)))))
theorem slook_R {k : sK} {σ : Nat → Int} {h : zH} (hk : sKok k σ h) {q j : Nat} {f : sF} (e : slook k.2.2.1 q (none, (j : Int)) = some f) : sR k.1.length σ f (h.2.1 q j).toInt := by
  obtain ⟨b1, b2, b3⟩ := hk.2.2.1 _ (slook_mem e)
  have b3 : (h.2.1 q ((j : Int)).toNat).toInt = sval σ f := b3
  rw [Int.toNat_natCast] at b3
  exact ⟨b2, b3⟩
theorem schP_ok {w : sW} {k : sK} {σ : Nat → Int} {h : zH} {t : Nat × Nat × (Int × Int)} (h1 : schP w k t = true) (hk : sKok k σ h) (hi : sInv w h) : sPlP h t := by
  unfold schP at h1
  split at h1
  · rename_i f ef
    obtain ⟨b1, b2, b3⟩ := hk.2.2.1 _ (slook_mem ef)
    have b3 : (h.2.1 t.1 ((t.2.1 : Int)).toNat).toInt = sval σ f := b3
    rw [Int.toNat_natCast] at b3
    have hv := siv_ok (x := (h.2.1 t.1 t.2.1).toInt) hk ⟨b2, b3⟩
    exact sin_ok h1 hv.1 hv.2
  · have hv := hi.2.2.1 t.1 t.2.1
    exact sin_ok h1 hv.1 hv.2
theorem schA_ok {w : sW} {k : sK} {σ : Nat → Int} {h : zH} {A : sAs} (hc : schA w k A = true) (hk : sKok k σ h) (hi : sInv w h) : sAok A h := by
  simp only [schA, Bool.and_eq_true] at hc
  refine ⟨fun t ht => schP_ok (List.all_eq_true.mp hc.1 t ht) hk hi, fun t ht => ?_, fun t ht => ?_, ?_⟩
  · have h1 := List.all_eq_true.mp hc.2.1 t ht
    split at h1
    · rename_i r er
      have e : r = t.2.2 := of_decide_eq_true h1
      rw [← e]
      exact hk.2.2.2.1 _ (slq_mem er)
    · have e : w.2.1 t.1 t.2.1 = [t.2.2] := of_decide_eq_true h1
      obtain ⟨r, r1, r2⟩ := hi.2.1 t.1 t.2.1 (by rw [e]; exact List.cons_ne_nil _ _)
      rw [e] at r1
      have e2 : r = t.2.2 := List.mem_singleton.mp r1
      rw [← e2]
      exact r2
  · have h1 := List.all_eq_true.mp hc.2.2.1 t ht
    split at h1
    · rename_i f g ef eg
      have hv := ssbv_ok hk (slook_R hk ef) (slook_R hk eg)
      have h1 := of_decide_eq_true h1
      omega
    · cases h1
  · have h0 := hc.2.2.2
    rw [Bool.or_eq_true] at h0
    rcases h0 with h1 | h1
    · exact Or.inl (List.isEmpty_iff.mp h1)
    · obtain ⟨L, hL, h2⟩ := List.any_eq_true.mp h1
      exact Or.inr ⟨L, hL, fun t ht => schP_ok (List.all_eq_true.mp h2 t ht) hk hi⟩
/-- differences of places -/
def saD : List (Nat × Nat × Nat × Nat × Int) → sK → sK
  | [], k => k
  | t :: r, k => saD r (match slook k.2.2.1 t.1 (none, (t.2.1 : Int)), slook k.2.2.1 t.2.2.1 (none, (t.2.2.2.1 : Int)) with
    | some (some a, ca), some (some b, cb) => (k.1, ((a, b, t.2.2.2.2 - (ca - cb)) :: k.2.1.1, k.2.1.2), k.2.2)
    | _, _ => k)
theorem saD_ok {σ : Nat → Int} {h : zH} : ∀ (L : List (Nat × Nat × Nat × Nat × Int)) (k : sK), sKok k σ h → (∀ t ∈ L, t.2.2.2.2 ≤ (h.2.1 t.1 t.2.1).toInt - (h.2.1 t.2.2.1 t.2.2.2.1).toInt) → sKok (saD L k) σ h ∧ (saD L k).1 = k.1
  | [], _, hk, _ => ⟨hk, rfl⟩
  | t :: r, k, hk, hL => by
    simp only [saD]
    split
    · rename_i a ca b cb ea eb
      have hx := slook_R hk ea
      have hy := slook_R hk eb
      have ht := hL t List.mem_cons_self
      have ex : (h.2.1 t.1 t.2.1).toInt = σ a + ca := hx.2
      have ey : (h.2.1 t.2.2.1 t.2.2.2.1).toInt = σ b + cb := hy.2
      refine saD_ok r (k.1, ((a, b, t.2.2.2.2 - (ca - cb)) :: k.2.1.1, k.2.1.2), k.2.2) ⟨hk.1, ⟨fun t' ht' => ?_, hk.2.1.2⟩, hk.2.2⟩ (fun t' ht' => hL t' (List.mem_cons_of_mem _ ht'))
      rcases List.mem_cons.mp ht' with e | ht'
      · subst e
        refine ⟨hx.1, hy.1, ?_⟩
        show t.2.2.2.2 - (ca - cb) ≤ σ a - σ b
        omega
      · exact hk.2.1.1 t' ht'
    · exact saD_ok r k hk (fun t' ht' => hL t' (List.mem_cons_of_mem _ ht'))
def saP : List (Nat × Nat × (Int × Int)) → sK → (sK → Bool) → Bool
  | [], k, C => C k
  | t :: r, k, C => snew k t.2.2 (fun f k' => saP r (skp k' t.1 (none, (t.2.1 : Int)) f) C)
theorem saP_ok {h : zH} {C : sK → Bool} : ∀ (L : List (Nat × Nat × (Int × Int))) (k : sK) (σ : Nat → Int), saP L k C = true → sKok k σ h → (∀ t ∈ L, t.2.2.1 ≤ (h.2.1 t.1 t.2.1).toInt ∧ (h.2.1 t.1 t.2.1).toInt ≤ t.2.2.2) → ∃ k' σ', C k' = true ∧ sKok k' σ' h ∧ sX k.1.length σ k'.1.length σ'
  | [], k, σ, hc, hk, _ => ⟨k, σ, hc, hk, sX.rf⟩
  | t :: r, k, σ, hc, hk, hL => by
    have hc : snew k t.2.2 (fun f k' => saP r (skp k' t.1 (none, (t.2.1 : Int)) f) C) = true := hc
    have ht := hL t List.mem_cons_self
    obtain ⟨f', k', σ', c, a, b, d⟩ := snew_ok hc hk ht.1 ht.2
    have hk2 : sKok (skp k' t.1 (none, (t.2.1 : Int)) f') σ' h := skp_ok a trivial (by
      show sR k'.1.length σ' f' (h.2.1 t.1 ((t.2.1 : Int)).toNat).toInt
      rw [Int.toNat_natCast]
      exact d)
    obtain ⟨k2, σ2, c2, a2, b2⟩ := saP_ok r _ σ' c hk2 (fun t' ht' => hL t' (List.mem_cons_of_mem _ ht'))
    exact ⟨k2, σ2, c2, a2, b.tr b2⟩
/-- places, as one of the lists has them -/
def saN : List (Nat × Nat × (Int × Int)) → sK → (sK → Bool) → Bool
  | [], k, C => C k
  | t :: r, k, C => match slook k.2.2.1 t.1 (none, (t.2.1 : Int)) with
    | some f => (match sasm k f (none, t.2.2.2) with
      | some k1 => (match sasm k1 (none, t.2.2.1) f with
        | some k2 => saN r k2 C
        | none => true)
      | none => true)
    | none => snew k t.2.2 (fun f k' => saN r (skp k' t.1 (none, (t.2.1 : Int)) f) C)
theorem saN_ok {h : zH} {C : sK → Bool} : ∀ (L : List (Nat × Nat × (Int × Int))) (k : sK) (σ : Nat → Int), saN L k C = true → sKok k σ h → (∀ t ∈ L, sPlP h t) → ∃ k' σ', C k' = true ∧ sKok k' σ' h ∧ sX k.1.length σ k'.1.length σ'
  | [], k, σ, hc, hk, _ => ⟨k, σ, hc, hk, sX.rf⟩
  | t :: r, k, σ, hc, hk, hL => by
    have ht := hL t List.mem_cons_self
    simp only [saN] at hc
    split at hc
    · rename_i f ef
      have hx := slook_R hk ef
      obtain ⟨k1, e1, a1, b1⟩ := sasm_ok (g := (none, t.2.2.2)) hk hx.1 trivial (by rw [← hx.2]; exact ht.2)
      rw [e1] at hc
      obtain ⟨k2, e2, a2, b2⟩ := sasm_ok (f := (none, t.2.2.1)) (g := f) a1 trivial (by rw [b1]; exact hx.1) (by rw [← hx.2]; exact ht.1)
      simp only [e2] at hc
      obtain ⟨k3, σ3, c3, a3, b3⟩ := saN_ok r k2 σ hc a2 (fun t' ht' => hL t' (List.mem_cons_of_mem _ ht'))
      refine ⟨k3, σ3, c3, a3, ?_⟩
      rw [b2, b1] at b3
      exact b3
    · obtain ⟨f', k', σ', c, a, b, d⟩ := snew_ok hc hk ht.1 ht.2
      have hk2 : sKok (skp k' t.1 (none, (t.2.1 : Int)) f') σ' h := skp_ok a trivial (by
        show sR k'.1.length σ' f' (h.2.1 t.1 ((t.2.1 : Int)).toNat).toInt
        rw [Int.toNat_natCast]
        exact d)
      obtain ⟨k2, σ2, c2, a2, b2⟩ := saN_ok r _ σ' c hk2 (fun t' ht' => hL t' (List.mem_cons_of_mem _ ht'))
      exact ⟨k2, σ2, c2, a2, b.tr b2⟩
def saX (A : List (List (Nat × Nat × (Int × Int)))) (k : sK) (C : sK → Bool) : Bool := match A with
  | [] => C k
  | L :: r => saN L k C && r.all (fun L => saN L k C)
theorem saX_ok {h : zH} {C : sK → Bool} {A : List (List (Nat × Nat × (Int × Int)))} {k : sK} {σ : Nat → Int} (hc : saX A k C = true) (hk : sKok k σ h) (hA : A = [] ∨ ∃ L ∈ A, ∀ t ∈ L, sPlP h t) : ∃ k' σ', C k' = true ∧ sKok k' σ' h ∧ sX k.1.length σ k'.1.length σ' := by
  cases A with
  | nil => exact ⟨k, σ, hc, hk, sX.rf⟩
  | cons L r =>
    simp only [saX, Bool.and_eq_true] at hc
    rcases hA with e | ⟨L', hL', hP⟩
    · cases e
    · rcases List.mem_cons.mp hL' with e | hL'
      · subst e
        exact saN_ok L' k σ hc.1 hk hP
      · exact saN_ok L' k σ (List.all_eq_true.mp hc.2 L' hL') hk hP
def saA (A : sAs) (k : sK) (C : sK → Bool) : Bool := saP A.1 (k.1, k.2.1, k.2.2.1, A.2.1 ++ k.2.2.2.1, k.2.2.2.2) (fun k' => saX A.2.2.2 (saD A.2.2.1 k') C)
theorem saA_ok {h : zH} {C : sK → Bool} {A : sAs} {k : sK} {σ : Nat → Int} (hc : saA A k C = true) (hk : sKok k σ h) (hA : sAok A h) : ∃ k' σ', C k' = true ∧ sKok k' σ' h ∧ sX k.1.length σ k'.1.length σ' := by
  have hk2 : sKok ((k.1, k.2.1, k.2.2.1, A.2.1 ++ k.2.2.2.1, k.2.2.2.2) : sK) σ h := ⟨hk.1, hk.2.1, hk.2.2.1, fun t ht => by
    rcases List.mem_append.mp ht with ht | ht
    · exact hA.2.1 t ht
    · exact hk.2.2.2.1 t ht, hk.2.2.2.2⟩
  obtain ⟨k', σ', c, a, b⟩ := saP_ok A.1 (k.1, k.2.1, k.2.2.1, A.2.1 ++ k.2.2.2.1, k.2.2.2.2) σ hc hk2 hA.1
  obtain ⟨a', e⟩ := saD_ok A.2.2.1 k' a hA.2.2.1
  obtain ⟨k3, σ3, c3, a3, b3⟩ := saX_ok c a' hA.2.2.2
  rw [e] at b3
  exact ⟨k3, σ3, c3, a3, b.tr b3⟩
/-- arguments, what must be, answer, what is then, cells that may be written, frames -/
abbrev sCt : Type := List sT × sAs × Option sT × sAs × sM × Nat
def sCon (l : Launch) (Γ : zG) (w : sW) (mi : Nat) (ct : sCt) : Prop := ∀ d, ct.2.2.2.2.2 ≤ d → ∀ args h, sTL ct.1 args → sInv w h → sAok ct.2.1 h → zSem l Γ false d (zhd mi) args h (fun r h' => sTO ct.2.2.1 r ∧ sInv w h' ∧ sMd ct.2.2.2.2.1 h h' ∧ sAok ct.2.2.2.1 h')
/-- a value as a contract asks -/
def sfit (k : sK) : sT → sV → Bool
  | .inl iv, .inl f => sin (siv k f) iv
  | .inr (.inl q), .inr (.inl q') => decide (q = q')
  | .inr (.inr iv), .inr (.inr (.inr f)) => sin (siv k f) iv
  | _, _ => false
theorem sfit_ok {k : sK} {σ : Nat → Int} {h : zH} (hk : sKok k σ h) : ∀ {t : sT} {a : sV} {v : Value}, sfit k t a = true → sVR k.1.length σ a v → sTok t v
  | .inl _, .inl _, _, hf, ⟨x, e, hx⟩ => ⟨x, e, sin_ok hf (siv_ok hk hx).1 (siv_ok hk hx).2⟩
  | .inr (.inl q), .inr (.inl q'), v, hf, hv => by
    have e : q = q' := of_decide_eq_true hf
    have hv : v = .ref q' := hv
    rw [hv, ← e]
    exact rfl
  | .inr (.inr _), .inr (.inr (.inr _)), _, hf, ⟨x, e, hx⟩ => ⟨x, e, sin_ok hf (siv_ok hk hx).1 (siv_ok hk hx).2⟩
  | .inl _, .inr _, _, hf, _ => by cases hf
  | .inr (.inl _), .inl _, _, hf, _ => by cases hf
  | .inr (.inl _), .inr (.inr _), _, hf, _ => by cases hf
  | .inr (.inr _), .inl _, _, hf, _ => by cases hf
  | .inr (.inr _), .inr (.inl _), _, hf, _ => by cases hf
  | .inr (.inr _), .inr (.inr (.inl _)), _, hf, _ => by cases hf
def sfitL (k : sK) : List sT → List sV → Bool
  | [], [] => true
  | t :: r, a :: s => sfit k t a && sfitL k r s
  | _, _ => false
theorem sfitL_ok {k : sK} {σ : Nat → Int} {h : zH} (hk : sKok k σ h) : ∀ {t : List sT} {a : List sV} {v : List Value}, sfitL k t a = true → sSR k.1.length σ a v → sTL t v
  | [], [], _, _, hv => hv
  | t :: r, a :: s, _, hf, ⟨v, u, e, h1, h2⟩ => by
    simp only [sfitL, Bool.and_eq_true] at hf
    exact ⟨v, u, e, sfit_ok hk hf.1 h1, sfitL_ok hk hf.2 h2⟩
  | [], _ :: _, _, hf, _ => by cases hf
  | _ :: _, [], _, hf, _ => by cases hf
/-- a call by its contract -/
def sby (md : sM) (ct : sCt) (k : sK) (KB : Option sV → sK → Bool) : Bool := ct.2.2.2.2.1.all (fun t => md.any (fun u => u.1 == t.1 && (decide (u.2.1 ≤ t.2.1) && decide (t.2.2 ≤ u.2.2)))) && (match ct.2.2.1 with
  | none => saA ct.2.2.2.1 (sca k ct.2.2.2.2.1) (KB none)
  | some (.inl iv) => snew (sca k ct.2.2.2.2.1) iv (fun f k' => saA ct.2.2.2.1 k' (KB (some (.inl f))))
  | some (.inr (.inl q)) => saA ct.2.2.2.1 (sca k ct.2.2.2.2.1) (KB (some (.inr (.inl q))))
  | some (.inr (.inr iv)) => snew (sca k ct.2.2.2.2.1) iv (fun f k' => saA ct.2.2.2.1 k' (KB (some (slong f)))))
theorem sby_ok {l : Launch} {Γ : zG} {w : sW} {md : sM} {h0 : zH} {mi d : Nat} {ct : sCt} {k : sK} {KB : Option sV → sK → Bool} (hct : sCon l Γ w mi ct) (hd : ct.2.2.2.2.2 ≤ d) (hc : sby md ct k KB = true) {σ : Nat → Int} {as' : List Value} {h : zH} (hk : sKok k σ h) (ha : sTL ct.1 as') (hi : sInv w h) (hp : sAok ct.2.1 h) (hm : sMd md h0 h) {Kq : Option Value → zH → Prop}
    (hq : ∀ r k' σ' r' h', KB r k' = true → sKok k' σ' h' → sX k.1.length σ k'.1.length σ' → sOR k'.1.length σ' r r' → sInv w h' → sMd md h0 h' → Kq r' h') : zSem l Γ false d (zhd mi) as' h Kq := by
  simp only [sby, Bool.and_eq_true] at hc
  obtain ⟨hmd, hc⟩ := hc
  have hsub : ∀ q k, smem ct.2.2.2.2.1 q k = true → smem md q k = true := fun q k hq => by
    obtain ⟨t, ht, hc⟩ := List.any_eq_true.mp hq
    obtain ⟨u, hu, hc2⟩ := List.any_eq_true.mp (List.all_eq_true.mp hmd _ ht)
    refine List.any_eq_true.mpr ⟨u, hu, ?_⟩
    simp only [Bool.and_eq_true, beq_iff_eq, decide_eq_true_eq] at hc hc2 ⊢
    exact ⟨by omega, by omega, by omega⟩
  refine (hct d hd as' h ha hi hp).mono ?_
  rintro r' h' ⟨hr, hi', hm', hA'⟩
  have hk' := sca_ok hk hm'
  have hm2 : sMd md h0 h' := hm.tr hm' hsub
  cases hres : ct.2.2.1 with
  | none =>
    rw [hres] at hr hc
    have hr : r' = none := hr
    obtain ⟨k2, σ2, c2, a2, b2⟩ := saA_ok hc hk' hA'
    exact hq _ _ σ2 r' h' c2 a2 b2 hr hi' hm2
  | some t =>
    rw [hres] at hr hc
    obtain ⟨v, e, hv⟩ := hr
    match t, hv, hc with
    | .inl iv, ⟨x, e2, h1, h2⟩, hc =>
      obtain ⟨f', k', σ', c, a, b, g⟩ := snew_ok hc hk' h1 h2
      obtain ⟨k2, σ2, c2, a2, b2⟩ := saA_ok c a hA'
      exact hq _ _ σ2 r' h' c2 a2 (b.tr b2) ⟨v, e, x, e2, g.x b2⟩ hi' hm2
    | .inr (.inl q), hv, hc =>
      obtain ⟨k2, σ2, c2, a2, b2⟩ := saA_ok hc hk' hA'
      exact hq _ _ σ2 r' h' c2 a2 b2 ⟨v, e, hv⟩ hi' hm2
    | .inr (.inr iv), ⟨x, e2, h1, h2⟩, hc =>
      obtain ⟨f', k', σ', c, a, b, g⟩ := snew_ok hc hk' h1 h2
      obtain ⟨k2, σ2, c2, a2, b2⟩ := saA_ok c a hA'
      exact hq _ _ σ2 r' h' c2 a2 (b.tr b2) ⟨v, e, x, e2, g.x b2⟩ hi' hm2
/-- longs compared, and the branch behind it -/
def slc (M : zM) (C : Nat → sL → List sV → sK → Bool) (pc : Nat) (l : sL) (st : List sV) (k : sK) : Bool := match st with
  | .inr (.inr (.inr g)) :: .inr (.inr (.inr f)) :: r => if (M.2.get (pc + 1)).1 = pc + 1 then (match (M.2.get (pc + 1)).2.1, (M.2.get (pc + 1)).2.2.2 with
    | .ifCond .eq _, [t] => sifU k f g (C t l r) (C (pc + 1 + 3) l r)
    | .ifCond .ne _, [t] => sifU k f g (C (pc + 1 + 3) l r) (C t l r)
    | .ifCond .lt _, [t] => sifL k f g (C t l r) (C (pc + 1 + 3) l r)
    | .ifCond .ge _, [t] => sifM k g f (C t l r) (C (pc + 1 + 3) l r)
    | .ifCond .gt _, [t] => sifL k g f (C t l r) (C (pc + 1 + 3) l r)
    | .ifCond .le _, [t] => sifM k f g (C t l r) (C (pc + 1 + 3) l r)
    | _, _ => false) else false
  | _ => false
theorem scmp (x y : Int64) : (lg_cmp x y = 0 ↔ x.toInt = y.toInt) ∧ (lg_cmp x y < 0 ↔ x.toInt < y.toInt) ∧ (0 ≤ lg_cmp x y ↔ y.toInt ≤ x.toInt) ∧ (0 < lg_cmp x y ↔ y.toInt < x.toInt) ∧ (lg_cmp x y ≤ 0 ↔ x.toInt ≤ y.toInt) := by
  unfold lg_cmp
  by_cases h1 : x > y
  · have h2 := Int64.lt_iff_toInt_lt.mp h1
    rw [if_pos h1]
    refine ⟨⟨fun h => absurd h (by decide), fun h => by omega⟩, ⟨fun h => absurd h (by decide), fun h => by omega⟩, ⟨fun _ => by omega, fun _ => by decide⟩, ⟨fun _ => by omega, fun _ => by decide⟩, ⟨fun h => absurd h (by decide), fun h => by omega⟩⟩
  · rw [if_neg h1]
    have h2 : ¬ y.toInt < x.toInt := fun h => h1 (Int64.lt_iff_toInt_lt.mpr h)
    by_cases h3 : x = y
    · rw [if_pos h3]
      have h4 : x.toInt = y.toInt := by rw [h3]
      refine ⟨⟨fun _ => h4, fun _ => rfl⟩, ⟨fun h => absurd h (by decide), fun h => by omega⟩, ⟨fun _ => by omega, fun _ => by decide⟩, ⟨fun h => absurd h (by decide), fun h => by omega⟩, ⟨fun _ => by omega, fun _ => by decide⟩⟩
    · rw [if_neg h3]
      have h4 : x.toInt ≠ y.toInt := fun h => h3 (Int64.toInt_inj.mp h)
      refine ⟨⟨fun h => absurd h (by decide), fun h => by omega⟩, ⟨fun _ => by omega, fun _ => by decide⟩, ⟨fun h => absurd h (by decide), fun h => by omega⟩, ⟨fun h => absurd h (by decide), fun h => by omega⟩, ⟨fun _ => by omega, fun _ => by decide⟩⟩
/-- what stands ahead of the next instruction: a local looked at value by value, a cut -/
def snx (cut : Nat → Bool) (spl : List (Nat × Nat)) (S R : Nat → sL → List sV → sK → Bool) (pc : Nat) (l : sL) (st : List sV) (k : sK) : Bool := match spl.find? (fun t => t.1 == pc) with
  | none => if cut pc = true then S pc l st k else R pc l st k
  | some t => (match slget l t.2 with
    | some (.inl f) => sspl (fun f' k' => if cut pc = true then S pc (slrep l t.2 (.inl f')) st k' else R pc (slrep l t.2 (.inl f')) st k') f ((siv k f).2 - (siv k f).1 + 1).toNat (siv k f).1 k
    | _ => if cut pc = true then S pc l st k else R pc l st k)
/-- a body, so many steps, up to places where it is cut -/
def sit (w : sW) (md : sM) (M : zM) (G : sG) (K : Option sV → sK → Bool) (cut : Nat → Bool) (spl : List (Nat × Nat)) (S : Nat → sL → List sV → sK → Bool) : Nat → Nat → sL → List sV → sK → Bool
  | 0 => fun _ _ _ _ => false
  | n + 1 => fun pc l st k => if (M.2.get pc).1 = pc then (match (M.2.get pc).2.1 with
    | .lcmp => slc M (snx cut spl S (sit w md M G K cut spl S n)) pc l st k
    | i => sins w md M.1 G K (snx cut spl S (sit w md M G K cut spl S n)) pc l st k (M.2.get pc).2.2.2 i) else false
def sGp (l : Launch) (Γ : zG) (d : Nat) : Nat → List Value → zH → (Option Value → zH → Prop) → Prop := fun mi as h K => mi ≠ zGL ∧ zSem l Γ false d (zhd mi) as h K
theorem snx_ok {w : sW} {md : sM} {h0 : zH} {n0 : Nat} {σ0 : Nat → Int} {cut : Nat → Bool} {spl : List (Nat × Nat)} {S R : Nat → sL → List sV → sK → Bool} {Cp : Nat → Nat → Nat → zL → List Value → zH → Prop} (hS : ∀ pc l0 st k, cut pc = true → S pc l0 st k = true → ∀ σ l' st' h, sRel w md h0 n0 σ0 l0 st k σ l' st' h → Cp 0 0 pc l' st' h) (hR : sHC w md h0 n0 σ0 R Cp) : sHC w md h0 n0 σ0 (snx cut spl S R) Cp := by
  have key : ∀ pc l st k, (if cut pc = true then S pc l st k else R pc l st k) = true → ∀ σ l' st' h, sRel w md h0 n0 σ0 l st k σ l' st' h → Cp 0 0 pc l' st' h := by
    intro pc l st k hc σ l' st' h hr
    split at hc
    · rename_i hcut
      exact hS pc l st k hcut hc σ l' st' h hr
    · exact hR pc l st k hc σ l' st' h hr
  intro pc l st k hc σ l' st' h hr
  unfold snx at hc
  split at hc
  · exact key pc l st k hc σ l' st' h hr
  · rename_i t _
    split at hc
    · rename_i f hf
      obtain ⟨v, e1, x, rfl, hx⟩ := slget_ok hr.2.1 hf
      obtain ⟨f', k', c, a, b, d⟩ := sspl_ok _ _ _ hc hr.1 hx
      refine key pc _ st k' c σ l' st' h ⟨a, ?_, by rw [b]; exact hr.2.2.1, hr.2.2.2.1, hr.2.2.2.2.1, by rw [b]; exact hr.2.2.2.2.2⟩
      rw [b]
      refine slrep_ok hr.2.1 (fun v hv => ?_)
      rw [e1] at hv
      cases hv
      rw [b] at d
      exact ⟨x, rfl, d⟩
    · exact key pc l st k hc σ l' st' h hr
theorem sit_ok {l : Launch} {Γ : zG} {d : Nat} {w : sW} {md : sM} {M : zM} {G : sG} {K : Option sV → sK → Bool} {cut : Nat → Bool} {spl : List (Nat × Nat)} {S : Nat → sL → List sV → sK → Bool} {h0 : zH} {n0 : Nat} {σ0 : Nat → Int} {Kp : Option Value → zH → Prop} {QF : List Frame → Array Value → State → State → Prop} (hck : zckB M = true)
    (hQ : ∀ below args s t, MQ below (zQ Γ false Kp) args s M.1.2.2.2.2.1 M.1.2.2.2.2.2 (zA Γ) t → QF below args s t) (hG : sHG w md h0 G (sGp l Γ d)) (hK : sHK w md h0 n0 σ0 K Kp)
    (hS : ∀ pc l0 st k, cut pc = true → S pc l0 st k = true → ∀ σ l' st' h, sRel w md h0 n0 σ0 l0 st k σ l' st' h → zX l Γ false (d + 1) M.1 QF 0 0 pc l' st' h) :
    ∀ n, sHC w md h0 n0 σ0 (sit w md M G K cut spl S n) (fun cs ss pc l' st' h => zX l Γ false (d + 1) M.1 QF cs ss pc l' st' h)
  | 0 => fun _ _ _ _ hc => by cases hc
  | n + 1 => by
    have hN := snx_ok (spl := spl) (Cp := fun cs ss pc l' st' h => zX l Γ false (d + 1) M.1 QF cs ss pc l' st' h) hS (sit_ok (spl := spl) hck hQ hG hK hS n)
    have step : ∀ pc l' st' h, zstep (ρ := Prop) False M false none (sGp l Γ d) Kp (fun cs ss pc l' st' h => zX l Γ false (d + 1) M.1 QF cs ss pc l' st' h) 0 0 pc l' st' h → zX l Γ false (d + 1) M.1 QF 0 0 pc l' st' h := fun pc l' st' h hz =>
      zstep_ok (ρ := Prop) (bad := False) (tr := fun P => P) (sc := none) (G := sGp l Γ d) (K := Kp) (C := fun cs ss pc l' st' h => zX l Γ false (d + 1) M.1 QF cs ss pc l' st' h) (fun h => h) hck (fun mi args h K' _ h1 => h1.2) (fun args h K' h1 => absurd rfl h1.1) (fun x hx => by cases hx) hQ (fun _ _ _ _ _ _ h => h) hz
    intro pc l0 st k hc σ l' st' h hr
    simp only [sit] at hc
    split at hc
    · rename_i e
      refine step pc l' st' h ?_
      unfold zstep
      rw [if_pos e]
      split at hc
      · rename_i ei
        rw [ei]
        unfold slc at hc
        split at hc
        · rename_i g f r
          obtain ⟨hk, hl, hs, hi, hm, hb0⟩ := hr
          obtain ⟨_, _, rfl, ⟨y, rfl, hy⟩, _, t, rfl, ⟨x, rfl, hx⟩, ht⟩ := hs
          show zX l Γ false (d + 1) M.1 QF 0 0 (pc + 1) l' (.int (lg_cmp x y) :: t) h
          refine step (pc + 1) l' _ h ?_
          unfold zstep
          split at hc
          · rename_i e1
            rw [if_pos e1]
            obtain ⟨p1, p2, p3, p4, p5⟩ := scmp x y
            split at hc
            · rename_i o t9 ei1 ex1
              rw [ei1, ex1]
              obtain ⟨b1, b2⟩ := sifU_ok hc hk hx hy
              simp only [zins]
              split
              · rename_i e9
                exact sbch hN (b1 (p1.mp e9)) hl ht hi hm hb0
              · rename_i e9
                exact sbch hN (b2 (fun h9 => e9 (p1.mpr h9))) hl ht hi hm hb0
            · rename_i o t9 ei1 ex1
              rw [ei1, ex1]
              obtain ⟨b1, b2⟩ := sifU_ok hc hk hx hy
              simp only [zins]
              split
              · rename_i e9
                exact sbch hN (b1 (p1.mp e9)) hl ht hi hm hb0
              · rename_i e9
                exact sbch hN (b2 (fun h9 => e9 (p1.mpr h9))) hl ht hi hm hb0
            · rename_i o t9 ei1 ex1
              rw [ei1, ex1]
              obtain ⟨b1, b2⟩ := sifL_ok hc hk hx hy
              simp only [zins]
              split
              · rename_i e9
                exact sbch hN (b1 (p2.mp e9)) hl ht hi hm hb0
              · rename_i e9
                exact sbch hN (b2 (fun h9 => e9 (p2.mpr h9))) hl ht hi hm hb0
            · rename_i o t9 ei1 ex1
              rw [ei1, ex1]
              obtain ⟨b1, b2⟩ := sifM_ok hc hk hy hx
              simp only [zins]
              split
              · rename_i e9
                exact sbch hN (b1 (p3.mp e9)) hl ht hi hm hb0
              · rename_i e9
                exact sbch hN (b2 (fun h9 => e9 (p3.mpr h9))) hl ht hi hm hb0
            · rename_i o t9 ei1 ex1
              rw [ei1, ex1]
              obtain ⟨b1, b2⟩ := sifL_ok hc hk hy hx
              simp only [zins]
              split
              · rename_i e9
                exact sbch hN (b1 (p4.mp e9)) hl ht hi hm hb0
              · rename_i e9
                exact sbch hN (b2 (fun h9 => e9 (p4.mpr h9))) hl ht hi hm hb0
            · rename_i o t9 ei1 ex1
              rw [ei1, ex1]
              obtain ⟨b1, b2⟩ := sifM_ok hc hk hx hy
              simp only [zins]
              split
              · rename_i e9
                exact sbch hN (b1 (p5.mp e9)) hl ht hi hm hb0
              · rename_i e9
                exact sbch hN (b2 (fun h9 => e9 (p5.mpr h9))) hl ht hi hm hb0
            · cases hc
          · cases hc
        · cases hc
      · exact sins_ok hN hG hK hc hr
    · cases hc
/-- arguments as locals -/
def slv : Nat → List sV → sL
  | _, [] => []
  | j, v :: r => (j, v) :: slv (j + scat v) r
theorem slv_ok {n : Nat} {σ : Nat → Int} : ∀ (j : Nat) {a : List sV} {v : List Value}, sSR n σ a v → sLR n σ (slv j a) (lv_args j v)
  | _, [], _, h => by
    have h : _ = [] := h
    subst h
    exact rfl
  | j, a :: r, _, ⟨v, t, e, h1, h2⟩ => by
    subst e
    refine ⟨v, _, rfl, h1, ?_⟩
    have h3 := slv_ok (j + scat a) h2
    have e : (if v.category = 2 then j + 2 else j + 1) = j + scat a := by
      rw [scat_ok h1]
      rcases a with f | q | j9 | b <;> rfl
    rw [e]
    exact h3
def ssl (a : List sV) : Nat := (a.map scat).sum
theorem ssl_ok {n : Nat} {σ : Nat → Int} : ∀ {a : List sV} {v : List Value}, sSR n σ a v → (lg_sl v).length = ssl a
  | [], _, h => by
    have h : _ = [] := h
    subst h
    rfl
  | a :: r, _, ⟨v, t, e, h1, h2⟩ => by
    subst e
    have ih := ssl_ok h2
    simp only [lg_sl, List.flatMap_cons, List.length_append, ssl, List.map_cons, List.sum_cons] at ih ⊢
    rw [ih, ← scat_ok h1]
    congr 1
    cases v <;> rfl
/-- the first contract that fits -/
def spick (w : sW) (dd : Nat) (k : sK) (as : List sV) : List sCt → Option sCt
  | [] => none
  | c :: r => if c.2.2.2.2.2 ≤ dd ∧ sfitL k c.1 as = true ∧ schA w k c.2.1 = true then some c else spick w dd k as r
theorem spick_ok {w : sW} {dd : Nat} {k : sK} {as : List sV} {c : sCt} : ∀ {L : List sCt}, spick w dd k as L = some c → c ∈ L ∧ c.2.2.2.2.2 ≤ dd ∧ sfitL k c.1 as = true ∧ schA w k c.2.1 = true
  | d :: r, h => by
    simp only [spick] at h
    split at h
    · rename_i e
      cases h
      exact ⟨List.mem_cons_self, e⟩
    · have := spick_ok h
      exact ⟨List.mem_cons_of_mem _ this.1, this.2⟩
/-- calls: by a contract, or the callee's body itself -/
def srn (w : sW) (T : Nat → List sCt) (md : sM) (n : Nat) : Nat → sG
  | 0 => fun mi as k KB => decide (mi ≠ zGL) && (match spick w 0 k as (T mi) with
    | some c => sby md c k KB
    | none => false)
  | dd + 1 => fun mi as k KB => decide (mi ≠ zGL) && (match spick w (dd + 1) k as (T mi) with
    | some c => sby md c k KB
    | none => decide ((zCodes.get mi).1 = mi) && (decide (ssl as ≤ (zhd mi).2.2.1) && sit w md (zhd mi, (zCodes.get mi).2) (srn w T md n dd) KB (fun _ => false) [] (fun _ _ _ _ => false) n 0 (slv 0 as) [] k))
theorem srn_ok {l : Launch} {Γ : zG} {w : sW} {T : Nat → List sCt} {md : sM} {n : Nat} {h0 : zH} {dm : Nat} (hT : ∀ mi, ∀ c ∈ T mi, c.2.2.2.2.2 ≤ dm → sCon l Γ w mi c) : ∀ dd d, dd ≤ dm → dd ≤ d → sHG w md h0 (srn w T md n dd) (sGp l Γ d)
  | 0, d, hm9, hd => by
    intro mi as k KB hc σ as' h hk ha hi hm Kq hq
    simp only [srn, Bool.and_eq_true, decide_eq_true_eq] at hc
    obtain ⟨hne, hc⟩ := hc
    refine ⟨hne, ?_⟩
    split at hc
    · rename_i c e
      obtain ⟨e1, e2, e3, e4⟩ := spick_ok e
      exact sby_ok (hT mi c e1 (Nat.le_trans e2 hm9)) (Nat.le_trans e2 hd) hc hk (sfitL_ok hk e3 ha) hi (schA_ok e4 hk hi) hm hq
    · cases hc
  | dd + 1, d, hm9, hd => by
    intro mi as k KB hc σ as' h hk ha hi hm Kq hq
    simp only [srn, Bool.and_eq_true, decide_eq_true_eq] at hc
    obtain ⟨hne, hc⟩ := hc
    refine ⟨hne, ?_⟩
    split at hc
    · rename_i c e
      obtain ⟨e1, e2, e3, e4⟩ := spick_ok e
      exact sby_ok (hT mi c e1 (Nat.le_trans e2 hm9)) (Nat.le_trans e2 hd) hc hk (sfitL_ok hk e3 ha) hi (schA_ok e4 hk hi) hm hq
    · simp only [Bool.and_eq_true, decide_eq_true_eq] at hc
      obtain ⟨c1, c2, c3⟩ := hc
      obtain ⟨q1, q2⟩ := zallP_get _ zCodes_ok mi
      rw [c1] at q1 q2
      match d, hd with
      | d + 1, hd =>
        refine zbody q2 (by rw [ssl_ok ha]; exact c2) ?_
        exact sit_ok (M := (zhd mi, (zCodes.get mi).2)) (n0 := k.1.length) (σ0 := σ) (Kp := Kq) q1 (fun _ _ _ _ h => h) (srn_ok hT dd d (by omega) (by omega)) (fun r k' hb σ' r' h' hk' hr hi' hm' hx => hq r k' σ' r' h' hb hk' hx hr hi' hm') (fun _ _ _ _ hcut => by cases hcut) n 0 _ [] k c3 σ _ [] h ⟨hk, slv_ok 0 ha, rfl, hi, hm, sX.rf⟩
/-! sums -/
def sacc : List (Nat × Int) → Nat → Int → List (Nat × Int)
  | [], n, c => [(n, c)]
  | (m, d) :: r, n, c => if m = n then (m, d + c) :: r else (m, d) :: sacc r n c
def slv1 (σ : Nat → Int) (L : List (Nat × Int)) : Int := (L.map (fun q => q.2 * σ q.1)).sum
theorem sacc_ok (σ : Nat → Int) : ∀ (L : List (Nat × Int)) (n : Nat) (c : Int), slv1 σ (sacc L n c) = slv1 σ L + c * σ n
  | [], n, c => by simp [sacc, slv1]
  | (m, d) :: r, n, c => by
    simp only [sacc]
    split
    · rename_i e
      subst e
      simp only [slv1, List.map_cons, List.sum_cons, Int.add_mul]
      omega
    · have ih := sacc_ok σ r n c
      simp only [slv1, List.map_cons, List.sum_cons] at ih ⊢
      omega
/-- c times f, and so on: symbols gathered -/
def sgat : List (Int × sF) → List (Nat × Int) × Int
  | [] => ([], 0)
  | (c, f) :: r => (match f.1 with
    | none => ((sgat r).1, (sgat r).2 + c * f.2)
    | some n => (sacc (sgat r).1 n c, (sgat r).2 + c * f.2))
def ssum (σ : Nat → Int) (L : List (Int × sF)) : Int := (L.map (fun q => q.1 * sval σ q.2)).sum
theorem sgat_ok (σ : Nat → Int) : ∀ L : List (Int × sF), ssum σ L = slv1 σ (sgat L).1 + (sgat L).2
  | [] => rfl
  | (c, (none, d)) :: r => by
    have ih := sgat_ok σ r
    simp only [ssum, List.map_cons, List.sum_cons, sgat, sval] at ih ⊢
    omega
  | (c, (some n, d)) :: r => by
    have ih := sgat_ok σ r
    simp only [ssum, List.map_cons, List.sum_cons, sgat, sval] at ih ⊢
    rw [sacc_ok, Int.mul_add]
    omega
/-- no more than this -/
def sup (k : sK) : List (Nat × Int) → Option Int
  | [] => some 0
  | (n, c) :: r => (match k.1[n]?, sup k r with
    | some iv, some z => some ((if 0 ≤ c then c * iv.2 else c * iv.1) + z)
    | _, _ => if c = 0 then sup k r else none)
theorem sup_ok {k : sK} {σ : Nat → Int} {h : zH} (hk : sKok k σ h) : ∀ (L : List (Nat × Int)) (z : Int), sup k L = some z → slv1 σ L ≤ z
  | [], z, h => by
    cases h
    exact Int.le_refl _
  | (n, c) :: r, z, h => by
    simp only [sup] at h
    have e0 : slv1 σ ((n, c) :: r) = c * σ n + slv1 σ r := by simp [slv1]
    split at h
    · rename_i iv z' e1 e2
      have ih := sup_ok hk r z' e2
      have hv := hk.1 n iv e1
      cases h
      rw [e0]
      split
      · rename_i hc
        have := Int.mul_le_mul_of_nonneg_left hv.2 hc
        omega
      · rename_i hc
        have h3 : -c * iv.1 ≤ -c * σ n := Int.mul_le_mul_of_nonneg_left hv.1 (by omega)
        simp only [Int.neg_mul] at h3
        omega
    · split at h
      · rename_i hc
        have ih := sup_ok hk r z h
        rw [e0, hc, Int.zero_mul]
        omega
      · cases h
/-- a difference of two symbols, so many times -/
def sle2 (k : sK) (L : List (Nat × Int)) (c z : Int) : Bool := match L.filter (fun q => !(q.2 == 0)) with
  | [(a, ca), (b, cb)] => decide (a < k.1.length) && (decide (b < k.1.length) && (decide (ca + cb = 0) && (if 0 ≤ ca then decide (ca * -(sdl k b a) + c ≤ z) else decide (cb * -(sdl k a b) + c ≤ z))))
  | _ => false
theorem slv1_filter (σ : Nat → Int) : ∀ L : List (Nat × Int), slv1 σ (L.filter (fun q => !(q.2 == 0))) = slv1 σ L
  | [] => rfl
  | (n, c) :: r => by
    have ih := slv1_filter σ r
    by_cases h : c = 0
    · subst h
      rw [List.filter_cons_of_neg (by simp)]
      rw [ih]
      simp only [slv1, List.map_cons, List.sum_cons]
      omega
    · rw [List.filter_cons_of_pos (by simp [h])]
      simp only [slv1, List.map_cons, List.sum_cons] at ih ⊢
      omega
theorem sle2_ok {k : sK} {σ : Nat → Int} {h : zH} (hk : sKok k σ h) {L : List (Nat × Int)} {c z : Int} (hc : sle2 k L c z = true) : slv1 σ L + c ≤ z := by
  unfold sle2 at hc
  split at hc
  · rename_i a ca b cb e
    have h0 := slv1_filter σ L
    rw [e] at h0
    simp only [Bool.and_eq_true, decide_eq_true_eq] at hc
    obtain ⟨ha, hb, hs, hc⟩ := hc
    have e1 : slv1 σ [(a, ca), (b, cb)] = ca * σ a + (cb * σ b + 0) := rfl
    rw [← h0, e1]
    split at hc
    · rename_i h1
      have hc := of_decide_eq_true hc
      have h2 := sdl_ok hk hb ha
      have h3 : ca * (σ a - σ b) ≤ ca * -(sdl k b a) := Int.mul_le_mul_of_nonneg_left (by omega) h1
      have e2 : cb = -ca := by omega
      rw [e2, Int.neg_mul]
      rw [Int.mul_sub] at h3
      omega
    · rename_i h1
      have hc := of_decide_eq_true hc
      have h2 := sdl_ok hk ha hb
      have h3 : cb * (σ b - σ a) ≤ cb * -(sdl k a b) := Int.mul_le_mul_of_nonneg_left (by omega) (by omega)
      have e2 : ca = -cb := by omega
      rw [e2, Int.neg_mul]
      rw [Int.mul_sub] at h3
      omega
  · cases hc
def sle (k : sK) (L : List (Int × sF)) (z : Int) : Bool := (match sup k (sgat L).1 with
  | some u => decide (u + (sgat L).2 ≤ z)
  | none => false) || sle2 k (sgat L).1 (sgat L).2 z
theorem sle_ok {k : sK} {σ : Nat → Int} {h : zH} (hk : sKok k σ h) {L : List (Int × sF)} {z : Int} (hc : sle k L z = true) : ssum σ L ≤ z := by
  rw [sgat_ok]
  unfold sle at hc
  rw [Bool.or_eq_true] at hc
  rcases hc with hc | hc
  · split at hc
    · rename_i u e
      have h1 := sup_ok hk _ u e
      have h2 := of_decide_eq_true hc
      omega
    · cases hc
  · exact sle2_ok hk hc

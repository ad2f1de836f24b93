/-! methods: contracts, runs, places where a run is cut -/
/-- an int within, a cell of the world, some long -/
abbrev sT : Type := (Int × Int) ⊕ (Nat ⊕ Unit)
def sTok : sT → Value → Prop
  | .inl iv, v => ∃ x, v = .int x ∧ iv.1 ≤ x.toInt ∧ x.toInt ≤ iv.2
  | .inr (.inl q), v => v = .ref q
  | .inr (.inr _), v => ∃ x, v = .long x
def sTL : List sT → List Value → Prop
  | [], l => l = []
  | a :: r, l => ∃ v t, l = v :: t ∧ sTok a v ∧ sTL r t
def sTO : Option sT → Option Value → Prop
  | none, r => r = none
  | some a, r => ∃ v, r = some v ∧ sTok a v
/-- arguments, answer, cells that may be written, frames -/
abbrev sCt : Type := List sT × Option sT × sM × Nat
def sCon (l : Launch) (Γ : zG) (w : sW) (mi : Nat) (ct : sCt) : Prop := ∀ d, ct.2.2.2 ≤ d → ∀ args h, sTL ct.1 args → sInv w h → zSem l Γ false d (zhd mi) args h (fun r h' => sTO ct.2.1 r ∧ sInv w h' ∧ sMd ct.2.2.1 h h')
/-- a value as a contract asks -/
def sfit (k : sK) : sT → sV → Bool
  | .inl iv, .inl f => sin (siv k f) iv
  | .inr (.inl q), .inr (.inl q') => decide (q = q')
  | .inr (.inr _), .inr (.inr (.inr _)) => true
  | _, _ => false
theorem sfit_ok {k : sK} {σ : Nat → Int} {h : zH} (hk : sKok k σ h) : ∀ {t : sT} {a : sV} {v : Value}, sfit k t a = true → sVR k.1.length σ a v → sTok t v
  | .inl _, .inl _, _, hf, ⟨x, e, hx⟩ => ⟨x, e, sin_ok hf (siv_ok hk hx).1 (siv_ok hk hx).2⟩
  | .inr (.inl q), .inr (.inl q'), v, hf, hv => by
    have e : q = q' := of_decide_eq_true hf
    have hv : v = .ref q' := hv
    rw [hv, ← e]
    exact rfl
  | .inr (.inr _), .inr (.inr (.inr _)), _, _, ⟨x, e, _⟩ => ⟨x, e⟩
  | .inl _, .inr _, _, hf, _ => by cases hf
  | .inr (.inl _), .inl _, _, hf, _ => by cases hf
  | .inr (.inl _), .inr (.inr _), _, hf, _ => by cases hf
  | .inr (.inr _), .inl _, _, hf, _ => by cases hf
  | .inr (.inr _), .inr (.inl _), _, hf, _ => by cases hf
  | .inr (.inr _), .inr (.inr (.inl _)), _, hf, _ => by cases hf
def sfitL (k : sK) : List sT → List sV → Bool
  | [], [] => true
  | t :: r, a :: s => sfit k t a && sfitL k r s
  | _, _ => false
theorem sfitL_ok {k : sK} {σ : Nat → Int} {h : zH} (hk : sKok k σ h) : ∀ {t : List sT} {a : List sV} {v : List Value}, sfitL k t a = true → sSR k.1.length σ a v → sTL t v
  | [], [], _, _, hv => hv
  | t :: r, a :: s, _, hf, ⟨v, u, e, h1, h2⟩ => by
    simp only [sfitL, Bool.and_eq_true] at hf
    exact ⟨v, u, e, sfit_ok hk hf.1 h1, sfitL_ok hk hf.2 h2⟩
  | [], _ :: _, _, hf, _ => by cases hf
  | _ :: _, [], _, hf, _ => by cases hf
/-- a call by its contract -/
def sby (md : sM) (ct : sCt) (k : sK) (KB : Option sV → sK → Bool) : Bool := ct.2.2.1.all (fun t => match t.2 with
  | none => smemA md t.1
  | some k => smem md t.1 k) && (match ct.2.1 with
  | none => KB none (sca k ct.2.2.1)
  | some (.inl iv) => snew (sca k ct.2.2.1) iv (fun f k' => KB (some (.inl f)) k')
  | some (.inr (.inl q)) => KB (some (.inr (.inl q))) (sca k ct.2.2.1)
  | some (.inr (.inr _)) => KB (some (slong false)) (sca k ct.2.2.1))
theorem sby_ok {l : Launch} {Γ : zG} {w : sW} {md : sM} {h0 : zH} {mi d : Nat} {ct : sCt} {k : sK} {KB : Option sV → sK → Bool} (hct : sCon l Γ w mi ct) (hd : ct.2.2.2 ≤ d) (hc : sby md ct k KB = true) {σ : Nat → Int} {as' : List Value} {h : zH} (hk : sKok k σ h) (ha : sTL ct.1 as') (hi : sInv w h) (hm : sMd md h0 h) {Kq : Option Value → zH → Prop}
    (hq : ∀ r k' σ' r' h', KB r k' = true → sKok k' σ' h' → sX k.1.length σ k'.1.length σ' → sOR k'.1.length σ' r r' → sInv w h' → sMd md h0 h' → Kq r' h') : zSem l Γ false d (zhd mi) as' h Kq := by
  simp only [sby, Bool.and_eq_true] at hc
  obtain ⟨hmd, hc⟩ := hc
  have hsub : ∀ q k, smem ct.2.2.1 q k = true → smem md q k = true := fun q k hq => by
    obtain ⟨⟨q9, o9⟩, ht, hc⟩ := List.any_eq_true.mp hq
    have h1 := List.all_eq_true.mp hmd _ ht
    cases o9 with
    | none =>
      have hc : (q9 == q && true) = true := hc
      have e : q9 = q := by simpa using hc
      subst e
      exact smemA_ok h1 k
    | some j =>
      have hc : (q9 == q && j == k) = true := hc
      simp only [Bool.and_eq_true, beq_iff_eq] at hc
      obtain ⟨e1, e2⟩ := hc
      subst e1
      subst e2
      exact h1
  refine (hct d hd as' h ha hi).mono ?_
  rintro r' h' ⟨hr, hi', hm'⟩
  have hk' := sca_ok hk hm'
  have hm2 : sMd md h0 h' := hm.tr hm' hsub
  cases hres : ct.2.1 with
  | none =>
    rw [hres] at hr hc
    have hr : r' = none := hr
    exact hq _ _ σ r' h' hc hk' sX.rf hr hi' hm2
  | some t =>
    rw [hres] at hr hc
    obtain ⟨v, e, hv⟩ := hr
    match t, hv, hc with
    | .inl iv, ⟨x, e2, h1, h2⟩, hc =>
      obtain ⟨f', k', σ', c, a, b, g⟩ := snew_ok hc hk' h1 h2
      exact hq _ _ σ' r' h' c a b ⟨v, e, x, e2, g⟩ hi' hm2
    | .inr (.inl q), hv, hc => exact hq _ _ σ r' h' hc hk' sX.rf ⟨v, e, hv⟩ hi' hm2
    | .inr (.inr _), ⟨x, e2⟩, hc => exact hq _ _ σ r' h' hc hk' sX.rf ⟨v, e, x, e2, fun e => by cases e⟩ hi' hm2
/-- a body, so many steps, up to places where it is cut -/
def sit (w : sW) (md : sM) (M : zM) (G : sG) (K : Option sV → sK → Bool) (cut : Nat → Bool) (S : Nat → sL → List sV → sK → Bool) : Nat → Nat → sL → List sV → sK → Bool
  | 0 => fun _ _ _ _ => false
  | n + 1 => fun pc l st k => if (M.2.get pc).1 = pc then sins w md M.1 G K (fun pc l st k => if cut pc = true then S pc l st k else sit w md M G K cut S n pc l st k) pc l st k (M.2.get pc).2.2.2 (M.2.get pc).2.1 else false
def sGp (l : Launch) (Γ : zG) (d : Nat) : Nat → List Value → zH → (Option Value → zH → Prop) → Prop := fun mi as h K => mi ≠ zGL ∧ zSem l Γ false d (zhd mi) as h K
theorem sit_ok {l : Launch} {Γ : zG} {d : Nat} {w : sW} {md : sM} {M : zM} {G : sG} {K : Option sV → sK → Bool} {cut : Nat → Bool} {S : Nat → sL → List sV → sK → Bool} {h0 : zH} {n0 : Nat} {σ0 : Nat → Int} {Kp : Option Value → zH → Prop} {QF : List Frame → Array Value → State → State → Prop} (hck : zckB M = true)
    (hQ : ∀ below args s t, MQ below (zQ Γ false Kp) args s M.1.2.2.2.2.1 M.1.2.2.2.2.2 (zA Γ) t → QF below args s t) (hG : sHG w md h0 G (sGp l Γ d)) (hK : sHK w md h0 n0 σ0 K Kp)
    (hS : ∀ pc l0 st k, cut pc = true → S pc l0 st k = true → ∀ σ l' st' h, sRel w md h0 n0 σ0 l0 st k σ l' st' h → zX l Γ false (d + 1) M.1 QF 0 0 pc l' st' h) :
    ∀ n, sHC w md h0 n0 σ0 (sit w md M G K cut S n) (fun cs ss pc l' st' h => zX l Γ false (d + 1) M.1 QF cs ss pc l' st' h)
  | 0 => fun _ _ _ _ hc => by cases hc
  | n + 1 => by
    intro pc l0 st k hc σ l' st' h hr
    simp only [sit] at hc
    split at hc
    · rename_i e
      refine zstep_ok (ρ := Prop) (bad := False) (tr := fun P => P) (sc := none) (G := sGp l Γ d) (K := Kp) (C := fun cs ss pc l' st' h => zX l Γ false (d + 1) M.1 QF cs ss pc l' st' h) (fun h => h) hck (fun mi args h K' _ h1 => h1.2) (fun args h K' h1 => absurd rfl h1.1) (fun x hx => by cases hx) hQ (fun _ _ _ _ _ _ h => h) ?_
      unfold zstep
      rw [if_pos e]
      refine sins_ok (C := fun pc l st k => if cut pc = true then S pc l st k else sit w md M G K cut S n pc l st k) ?_ hG hK hc hr
      intro pc2 l2 st2 k2 hc2 σ2 l2' st2' h2 hr2
      have hc2 : (if cut pc2 = true then S pc2 l2 st2 k2 else sit w md M G K cut S n pc2 l2 st2 k2) = true := hc2
      by_cases hcut : cut pc2 = true
      · rw [if_pos hcut] at hc2
        exact hS pc2 l2 st2 k2 hcut hc2 σ2 l2' st2' h2 hr2
      · rw [if_neg hcut] at hc2
        exact sit_ok hck hQ hG hK hS n pc2 l2 st2 k2 hc2 σ2 l2' st2' h2 hr2
    · cases hc

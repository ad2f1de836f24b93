/-! pieces of a body: what is told of the start, where it ends, what is told there of what was -/
/-- a cell, its index (a number, or one that the start told, and so much), an interval -/
abbrev sP0 : Type := Nat × (Option Nat × Int) × (Int × Int)
def sPv (V : Nat → Int) : Option Nat × Int → Int
  | (none, c) => c
  | (some i, c) => V i + c
def sPix (F : List sF) : Option Nat × Int → Option sF
  | (none, c) => some (none, c)
  | (some i, c) => match F[i]? with
    | some f => some (f.1, f.2 + c)
    | none => none
def sFR (n : Nat) (σ V : Nat → Int) (F : List sF) : Prop := ∀ i f, F[i]? = some f → sR n σ f (V i)
theorem sFR.x {n n' : Nat} {σ σ' V : Nat → Int} {F : List sF} (hx : sX n σ n' σ') (h : sFR n σ V F) : sFR n' σ' V F := fun i f e => (h i f e).x hx
theorem sPix_ok {n : Nat} {σ V : Nat → Int} {F : List sF} (hF : sFR n σ V F) : ∀ {p : Option Nat × Int} {ix : sF}, sPix F p = some ix → swf n ix ∧ sval σ ix = sPv V p
  | (none, c), ix, h => by
    have h : some ((none, c) : sF) = some ix := h
    cases h
    exact ⟨trivial, rfl⟩
  | (some i, c), ix, h => by
    simp only [sPix] at h
    split at h
    · rename_i f e
      cases h
      obtain ⟨h1, h2⟩ := hF i f e
      obtain ⟨o, z⟩ := f
      cases o with
      | none =>
        refine ⟨trivial, ?_⟩
        have h2 : V i = z := h2
        show z + c = V i + c
        rw [h2]
      | some m =>
        refine ⟨h1, ?_⟩
        have h2 : V i = σ m + z := h2
        show σ m + (z + c) = V i + c
        rw [h2]
        omega
    · cases h
def saF : List sP0 → List sF → sK → (List sF → sK → Bool) → Bool
  | [], F, k, C => C F k
  | t :: r, F, k, C => match sPix F t.2.1 with
    | some ix => snew k t.2.2 (fun f k' => saF r (F ++ [f]) (skp k' t.1 ix f) C)
    | none => false
def sPok (V : Nat → Int) (h : zH) : List sP0 → Nat → Prop
  | [], _ => True
  | t :: r, i => ((h.2.1 t.1 (sPv V t.2.1).toNat).toInt = V i ∧ t.2.2.1 ≤ V i ∧ V i ≤ t.2.2.2) ∧ sPok V h r (i + 1)
theorem saF_ok {V : Nat → Int} {h : zH} {C : List sF → sK → Bool} : ∀ (L : List sP0) (F : List sF) (k : sK) (σ : Nat → Int), saF L F k C = true → sKok k σ h → sFR k.1.length σ V F → sPok V h L F.length → ∃ F' k' σ', C F' k' = true ∧ sKok k' σ' h ∧ sX k.1.length σ k'.1.length σ' ∧ sFR k'.1.length σ' V F'
  | [], F, k, σ, hc, hk, hF, _ => ⟨F, k, σ, hc, hk, sX.rf, hF⟩
  | t :: r, F, k, σ, hc, hk, hF, hP => by
    simp only [saF] at hc
    split at hc
    · rename_i ix e
      obtain ⟨i1, i2⟩ := sPix_ok hF e
      obtain ⟨⟨p1, p2, p3⟩, hP⟩ := hP
      obtain ⟨f', k', σ', c, a, b, d⟩ := snew_ok hc hk p2 p3
      obtain ⟨j1, j2⟩ := i1.x b
      have hk2 : sKok (skp k' t.1 ix f') σ' h := skp_ok a j1 (by
        rw [j2, i2, p1]
        exact d)
      have hF2 : sFR k'.1.length σ' V (F ++ [f']) := by
        intro i f e
        rcases Nat.lt_or_ge i F.length with hlt | hge
        · rw [List.getElem?_append_left hlt] at e
          exact (hF i f e).x b
        · rw [List.getElem?_append_right hge] at e
          have hlt := (List.getElem?_eq_some_iff.mp e).1
          have hi : i = F.length := by
            simp only [List.length_cons, List.length_nil] at hlt
            omega
          subst hi
          rw [Nat.sub_self] at e
          cases e
          exact d
      obtain ⟨F3, k3, σ3, c3, a3, b3, d3⟩ := saF_ok r (F ++ [f']) (skp k' t.1 ix f') σ' c hk2 hF2 (by
        rw [List.length_append]
        exact hP)
      exact ⟨F3, k3, σ3, c3, a3, b.tr b3, d3⟩
    · cases hc
/-- a place where it ends: pc, stack, locals, what holds, what places are of what was told at the start, what the stack's values are -/
abbrev sEd : Type := Nat × List sT × List (Nat × sT) × sAs × List (Nat × Nat × Nat × Int) × List (Nat × Nat × Int)
/-- a return -/
abbrev sRt : Type := Option sT × sAs × List (Nat × Nat × Nat × Int)
def srl (F : List sF) (k : sK) (L : List (Nat × Nat × Nat × Int)) : Bool := L.all (fun t => match slook k.2.2.1 t.1 (none, (t.2.1 : Int)), F[t.2.2.1]? with
  | some f, some g => decide (ssbv k f g = (t.2.2.2, t.2.2.2))
  | _, _ => false)
def srlP (V : Nat → Int) (h : zH) (L : List (Nat × Nat × Nat × Int)) : Prop := ∀ t ∈ L, (h.2.1 t.1 t.2.1).toInt = V t.2.2.1 + t.2.2.2
theorem sval_add {σ : Nat → Int} {g : sF} {c : Int} : sval σ (g.1, g.2 + c) = sval σ g + c := by
  obtain ⟨o, z⟩ := g
  cases o with
  | none => rfl
  | some m =>
    show σ m + (z + c) = σ m + z + c
    omega
theorem srl_ok {σ V : Nat → Int} {F : List sF} {k : sK} {h : zH} {L : List (Nat × Nat × Nat × Int)} (hc : srl F k L = true) (hk : sKok k σ h) (hF : sFR k.1.length σ V F) : srlP V h L := by
  intro t ht
  have h1 := List.all_eq_true.mp hc t ht
  split at h1
  · rename_i f g ef eg
    have e := of_decide_eq_true h1
    have hv := ssbv_ok hk (slook_R hk ef) (hF _ _ eg)
    rw [e] at hv
    have hv : t.2.2.2 ≤ (h.2.1 t.1 t.2.1).toInt - V t.2.2.1 ∧ (h.2.1 t.1 t.2.1).toInt - V t.2.2.1 ≤ t.2.2.2 := hv
    omega
  · cases h1
def srs (F : List sF) (st : List sV) (L : List (Nat × Nat × Int)) : Bool := L.all (fun t => match st[t.1]?, F[t.2.1]? with
  | some (.inl f), some g => decide (f = (g.1, g.2 + t.2.2))
  | _, _ => false)
def srsP (V : Nat → Int) (st : List Value) (L : List (Nat × Nat × Int)) : Prop := ∀ t ∈ L, ∃ x : Int32, st[t.1]? = some (.int x) ∧ x.toInt = V t.2.1 + t.2.2
theorem sSR.at {n : Nat} {σ : Nat → Int} : ∀ {a : List sV} {v : List Value} {i : Nat} {x : sV}, sSR n σ a v → a[i]? = some x → ∃ y, v[i]? = some y ∧ sVR n σ x y
  | [], _, _, _, _, e => by cases e
  | a :: r, _, 0, x, ⟨v, t, rfl, h1, h2⟩, e => by
    cases e
    exact ⟨v, rfl, h1⟩
  | a :: r, _, i + 1, x, ⟨v, t, rfl, h1, h2⟩, e => sSR.at (i := i) h2 e
theorem srs_ok {n n' : Nat} {σ V : Nat → Int} {F : List sF} {st : List sV} {st' : List Value} {L : List (Nat × Nat × Int)} (hc : srs F st L = true) (hs : sSR n σ st st') (hF : sFR n' σ V F) : srsP V st' L := by
  intro t ht
  have h1 := List.all_eq_true.mp hc t ht
  split at h1
  · rename_i f g ef eg
    have e := of_decide_eq_true h1
    obtain ⟨v, e1, x, rfl, hx⟩ := sSR.at hs ef
    refine ⟨x, e1, ?_⟩
    rw [hx.2, e, sval_add, ← (hF _ _ eg).2]
  · cases h1
def sEB (w : sW) (F : List sF) (pc : Nat) (l : sL) (st : List sV) (k : sK) (e : sEd) : Bool := e.1 == pc && (sfitL k e.2.1 st && (e.2.2.1.all (fun q => match slget l q.1 with
      | some a => sfit k q.2 a
      | none => false) && (schA w k e.2.2.2.1 && (srl F k e.2.2.2.2.1 && srs F st e.2.2.2.2.2))))
def sEp (V : Nat → Int) (e : sEd) (lo : zL) (st : List Value) (h : zH) : Prop := sTL e.2.1 st ∧ (∀ q ∈ e.2.2.1, ∃ v, zget lo q.1 = some v ∧ sTok q.2 v) ∧ sAok e.2.2.2.1 h ∧ srlP V h e.2.2.2.2.1 ∧ srsP V st e.2.2.2.2.2
def sRB (w : sW) (F : List sF) (r : Option sV) (k : sK) (e : sRt) : Bool := schA w k e.2.1 && (srl F k e.2.2 && (match e.1, r with
  | none, none => true
  | some t, some a => sfit k t a
  | _, _ => false))
def sRp (V : Nat → Int) (e : sRt) (r : Option Value) (h : zH) : Prop := sTO e.1 r ∧ sAok e.2.1 h ∧ srlP V h e.2.2
def spcB (w : sW) (T : Nat → List sCt) (md : sM) (n dep : Nat) (M : zM) (spl : List (Nat × Nat)) (L0 : List (Nat × sT)) (A0 : sAs) (P0 : List sP0) (st0 : List Int) (pc : Nat) (ends : List sEd) (rets : List sRt) : Bool :=
  sen L0 [] ([], ([], []), [], [], none) (fun l k => saA A0 k (fun k => saF P0 [] k (fun F k => sit w md M (srn w T md n dep) (fun r k => rets.any (sRB w F r k)) (fun p => ends.any (fun e => e.1 == p)) spl (fun pc l st k => ends.any (sEB w F pc l st k)) n pc l (st0.map (fun c => .inl (none, c))) k)))
def sIts : List Int → List Value → Prop
  | [], st => st = []
  | c :: r, st => ∃ x t, st = .int x :: t ∧ x.toInt = c ∧ sIts r t
theorem sIts_ok {n : Nat} {σ : Nat → Int} : ∀ {L : List Int} {st : List Value}, sIts L st → sSR n σ (L.map (fun c => .inl (none, c))) st
  | [], _, h => h
  | c :: r, _, ⟨x, t, e, h1, h2⟩ => ⟨.int x, t, e, ⟨x, rfl, trivial, h1⟩, sIts_ok h2⟩
theorem spc_ok {l : Launch} {Γ : zG} {w : sW} {T : Nat → List sCt} {md : sM} {n dep d : Nat} {M : zM} {spl : List (Nat × Nat)} {L0 : List (Nat × sT)} {A0 : sAs} {P0 : List sP0} {st0 : List Int} {pc : Nat} {ends : List sEd} {rets : List sRt} {Kp : Option Value → zH → Prop} {QF : List Frame → Array Value → State → State → Prop} (V : Nat → Int)
    (hb : spcB w T md n dep M spl L0 A0 P0 st0 pc ends rets = true) (hT : ∀ mi, ∀ c ∈ T mi, c.2.2.2.2.2 ≤ dep → sCon l Γ w mi c) (hck : zckB M = true)
    (hQ : ∀ below args s t, MQ below (zQ Γ false Kp) args s M.1.2.2.2.2.1 M.1.2.2.2.2.2 (zA Γ) t → QF below args s t) (hd : dep ≤ d) {lo : zL} {st : List Value} {h : zH}
    (hL : ∀ q ∈ L0, ∃ v, zget lo q.1 = some v ∧ sTok q.2 v) (hA : sAok A0 h) (hP : sPok V h P0 0) (hi : sInv w h) (hst : sIts st0 st)
    (hE : ∀ e ∈ ends, ∀ lo' st' h', sEp V e lo' st' h' → sInv w h' → sMd md h h' → zX l Γ false (d + 1) M.1 QF 0 0 e.1 lo' st' h')
    (hR : ∀ e ∈ rets, ∀ r h', sRp V e r h' → sInv w h' → sMd md h h' → Kp r h') : zX l Γ false (d + 1) M.1 QF 0 0 pc lo st h := by
  unfold spcB at hb
  obtain ⟨l1, k1, σ1, lo3, c1, a1, b1, d1, z1⟩ := sen_ok (h := h) (lo := lo) L0 [] [] ([], ([], []), [], [], none) (fun _ => 0) hb (sk0 h _) rfl (fun x hx => (nomatch hx)) hL
  obtain ⟨k2, σ2, c2, a2, b2⟩ := saA_ok c1 a1 hA
  obtain ⟨F, k3, σ3, c3, a3, b3, d3⟩ := saF_ok (V := V) P0 [] k2 σ2 c2 a2 (fun i f e => by cases e) hP
  have e1 := (d1.x b2).x b3
  refine zX_sub (lo2 := lo3) (fun x hx => zget_mem _ _ _ (z1 x hx)) ?_
  refine sit_ok (h0 := h) (n0 := k3.1.length) (σ0 := σ3) (QF := QF) (Kp := Kp) (spl := spl) hck hQ (srn_ok hT dep d (Nat.le_refl _) hd) ?_ ?_ n pc l1 _ k3 c3 σ3 lo3 st h ⟨a3, e1, sIts_ok hst, hi, sMd.rf, sX.rf⟩
  · intro r k hc σ r' h' hk hr hi' hm hx
    obtain ⟨e, he, hc⟩ := List.any_eq_true.mp hc
    simp only [sRB, Bool.and_eq_true] at hc
    obtain ⟨h1, h2, h3⟩ := hc
    refine hR e he r' h' ⟨?_, schA_ok h1 hk hi', srl_ok h2 hk (d3.x hx)⟩ hi' hm
    obtain ⟨res, _⟩ := e
    cases res with
    | none =>
      cases r with
      | none => exact hr
      | some a => cases h3
    | some t =>
      cases r with
      | none => cases h3
      | some a =>
        obtain ⟨v, e, hv⟩ := hr
        exact ⟨v, e, sfit_ok hk h3 hv⟩
  · intro pc' l0 st1 k hcut hS σ' l' st' h' hr
    obtain ⟨e, he, hc⟩ := List.any_eq_true.mp hS
    simp only [sEB, Bool.and_eq_true, beq_iff_eq] at hc
    obtain ⟨h1, h2, h3, h4, h5, h6⟩ := hc
    obtain ⟨r1, r2, r3, r4, r5, r6⟩ := hr
    subst h1
    refine hE e he l' st' h' ⟨sfitL_ok r1 h2 r3, fun q hq => ?_, schA_ok h4 r1 r4, srl_ok h5 r1 (d3.x r6), srs_ok h6 r3 (d3.x r6)⟩ r4 r5
    have h7 := List.all_eq_true.mp h3 q hq
    split at h7
    · rename_i a ea
      obtain ⟨v, e3, e4⟩ := slget_ok r2 ea
      exact ⟨v, e3, sfit_ok r1 h7 e4⟩
    · cases h7
/-- a whole method -/
def spmB (w : sW) (T : Nat → List sCt) (md : sM) (n dep mi : Nat) (spl : List (Nat × Nat)) (as : List sT) (A0 : sAs) (P0 : List sP0) (ends : List sEd) (rets : List sRt) : Bool := decide ((zCodes.get mi).1 = mi) && (decide (sslen as ≤ (zhd mi).2.2.1) && spcB w T md n dep (zhd mi, (zCodes.get mi).2) spl (sslot 0 as) A0 P0 [] 0 ends rets)
theorem spm_ok {l : Launch} {Γ : zG} {w : sW} {T : Nat → List sCt} {md : sM} {n dep d mi : Nat} {spl : List (Nat × Nat)} {as : List sT} {A0 : sAs} {P0 : List sP0} {ends : List sEd} {rets : List sRt} {Kp : Option Value → zH → Prop} (V : Nat → Int)
    (hb : spmB w T md n dep mi spl as A0 P0 ends rets = true) (hT : ∀ mi, ∀ c ∈ T mi, c.2.2.2.2.2 ≤ dep → sCon l Γ w mi c) (hd : dep ≤ d) {args : List Value} {h : zH}
    (ha : sTL as args) (hA : sAok A0 h) (hP : sPok V h P0 0) (hi : sInv w h)
    (hE : ∀ e ∈ ends, ∀ lo' st' h', sEp V e lo' st' h' → sInv w h' → sMd md h h' → zX l Γ false (d + 1) (zhd mi) (zMQ' Γ false (zhd mi) Kp) 0 0 e.1 lo' st' h')
    (hR : ∀ e ∈ rets, ∀ r h', sRp V e r h' → sInv w h' → sMd md h h' → Kp r h') : zSem l Γ false (d + 1) (zhd mi) args h Kp := by
  simp only [spmB, Bool.and_eq_true, decide_eq_true_eq] at hb
  obtain ⟨c1, c2, c3⟩ := hb
  obtain ⟨q1, q2⟩ := zallP_get _ zCodes_ok mi
  rw [c1] at q1 q2
  refine zbody q2 (by rw [sslen_ok as args ha]; exact c2) ?_
  exact spc_ok (M := (zhd mi, (zCodes.get mi).2)) (Kp := Kp) V c3 hT q1 (fun _ _ _ _ h => h) hd (sslot_ok 0 as args ha) hA hP hi rfl hE hR
/-- a further piece of a method's body -/
def spqB (w : sW) (T : Nat → List sCt) (md : sM) (n dep mi : Nat) (L0 : List (Nat × sT)) (A0 : sAs) (P0 : List sP0) (st0 : List Int) (pc : Nat) (ends : List sEd) (rets : List sRt) : Bool := decide ((zCodes.get mi).1 = mi) && spcB w T md n dep (zhd mi, (zCodes.get mi).2) [] L0 A0 P0 st0 pc ends rets
theorem spq_ok {l : Launch} {Γ : zG} {w : sW} {T : Nat → List sCt} {md : sM} {n dep d mi pc : Nat} {L0 : List (Nat × sT)} {A0 : sAs} {P0 : List sP0} {st0 : List Int} {ends : List sEd} {rets : List sRt} {Kp : Option Value → zH → Prop} (V : Nat → Int)
    (hb : spqB w T md n dep mi L0 A0 P0 st0 pc ends rets = true) (hT : ∀ mi, ∀ c ∈ T mi, c.2.2.2.2.2 ≤ dep → sCon l Γ w mi c) (hd : dep ≤ d) {lo : zL} {st : List Value} {h : zH}
    (hL : ∀ q ∈ L0, ∃ v, zget lo q.1 = some v ∧ sTok q.2 v) (hA : sAok A0 h) (hP : sPok V h P0 0) (hi : sInv w h) (hst : sIts st0 st)
    (hE : ∀ e ∈ ends, ∀ lo' st' h', sEp V e lo' st' h' → sInv w h' → sMd md h h' → zX l Γ false (d + 1) (zhd mi) (zMQ' Γ false (zhd mi) Kp) 0 0 e.1 lo' st' h')
    (hR : ∀ e ∈ rets, ∀ r h', sRp V e r h' → sInv w h' → sMd md h h' → Kp r h') : zX l Γ false (d + 1) (zhd mi) (zMQ' Γ false (zhd mi) Kp) 0 0 pc lo st h := by
  simp only [spqB, Bool.and_eq_true, decide_eq_true_eq] at hb
  obtain ⟨c1, c3⟩ := hb
  obtain ⟨q1, q2⟩ := zallP_get _ zCodes_ok mi
  rw [c1] at q1 q2
  exact spc_ok (M := (zhd mi, (zCodes.get mi).2)) (Kp := Kp) V c3 hT q1 (fun _ _ _ _ h => h) hd hL hA hP hi hst hE hR
/-- a call at a place where a piece ended -/
def zcvB (mi pc ci n cl : Nat) : Bool := decide ((zCodes.get mi).1 = mi) && (decide (cl ≠ zGL) && (decide (zmc cl = 0) && (decide (zms cl = 0) && (match (zCodes.get mi).2.get pc with
  | (pc', .invokevirtual _, _, [c, n', ci', _, _]) => pc' == pc && (c == cl && (n' == n && ci' == ci))
  | _ => false))))
theorem zcallV {l : Launch} {Γ : zG} {d mi pc ci n cl : Nat} {Kp : Option Value → zH → Prop} {lo : zL} {as : List Value} {h : zH} (hc : zcvB mi pc ci n cl = true) (hn : as.length = n) (hh : h.1[0]? = some (0, ci))
    (hs : zSem l Γ false d (zhd cl) (.ref 0 :: as.reverse) h (fun r h' => zX l Γ false (d + 1) (zhd mi) (zMQ' Γ false (zhd mi) Kp) 0 0 (pc + 3) lo r.toList h')) : zX l Γ false (d + 1) (zhd mi) (zMQ' Γ false (zhd mi) Kp) 0 0 pc lo (as ++ [.ref 0]) h := by
  simp only [zcvB, Bool.and_eq_true, decide_eq_true_eq] at hc
  obtain ⟨c1, c2, c3, c4, c5⟩ := hc
  obtain ⟨q1, q2⟩ := zallP_get _ zCodes_ok mi
  rw [c1] at q1 q2
  split at c5
  · rename_i pc' x y c n' ci' z1 z2 e
    simp only [Bool.and_eq_true, beq_iff_eq] at c5
    obtain ⟨e1, e2, e3, e4⟩ := c5
    refine zstep_ok (M := (zhd mi, (zCodes.get mi).2)) (ρ := Prop) (bad := False) (tr := fun P => P) (sc := none) (G := sGp l Γ d) (K := Kp) (C := fun cs ss pc l' st' h => zX l Γ false (d + 1) (zhd mi) (zMQ' Γ false (zhd mi) Kp) cs ss pc l' st' h) (fun h => h) q1 (fun mi args h K' _ h1 => h1.2) (fun args h K' h1 => absurd rfl h1.1) (fun x hx => by cases hx) (fun _ _ _ _ h => h) (fun _ _ _ _ _ _ h => h) ?_
    unfold zstep
    rw [e]
    show (if pc' = pc then _ else _)
    rw [if_pos e1, e2, e3, e4]
    have d1 : (as ++ [(.ref 0 : Value)]).drop n = [.ref 0] := by rw [← hn, List.drop_left]
    have d2 : (as ++ [(.ref 0 : Value)]).take n = as := by rw [← hn, List.take_left]
    simp only [zins, d1, d2]
    rw [if_pos ⟨by decide, hn, by rw [c3]; exact Nat.zero_le _, by rw [c4]; exact Nat.zero_le _, hh⟩]
    refine ⟨c2, ?_⟩
    rw [c3, c4]
    refine hs.mono (fun r h' hx => ?_)
    rw [List.append_nil]
    exact hx
  · cases c5
def zcsB (mi pc n cl : Nat) : Bool := decide ((zCodes.get mi).1 = mi) && (decide (cl ≠ zGL) && (decide (zmc cl = 0) && (decide (zms cl = 0) && (match (zCodes.get mi).2.get pc with
  | (pc', .invokestatic _, _, [c, n', _, _, _]) => pc' == pc && (c == cl && n' == n)
  | _ => false))))
theorem zcallS {l : Launch} {Γ : zG} {d mi pc n cl : Nat} {Kp : Option Value → zH → Prop} {lo : zL} {as : List Value} {h : zH} (hc : zcsB mi pc n cl = true) (hn : as.length = n)
    (hs : zSem l Γ false d (zhd cl) as.reverse h (fun r h' => zX l Γ false (d + 1) (zhd mi) (zMQ' Γ false (zhd mi) Kp) 0 0 (pc + 3) lo r.toList h')) : zX l Γ false (d + 1) (zhd mi) (zMQ' Γ false (zhd mi) Kp) 0 0 pc lo as h := by
  simp only [zcsB, Bool.and_eq_true, decide_eq_true_eq] at hc
  obtain ⟨c1, c2, c3, c4, c5⟩ := hc
  obtain ⟨q1, q2⟩ := zallP_get _ zCodes_ok mi
  rw [c1] at q1 q2
  split at c5
  · rename_i pc' x y c n' z1 z2 z3 e
    simp only [Bool.and_eq_true, beq_iff_eq] at c5
    obtain ⟨e1, e2, e3⟩ := c5
    refine zstep_ok (M := (zhd mi, (zCodes.get mi).2)) (ρ := Prop) (bad := False) (tr := fun P => P) (sc := none) (G := sGp l Γ d) (K := Kp) (C := fun cs ss pc l' st' h => zX l Γ false (d + 1) (zhd mi) (zMQ' Γ false (zhd mi) Kp) cs ss pc l' st' h) (fun h => h) q1 (fun mi args h K' _ h1 => h1.2) (fun args h K' h1 => absurd rfl h1.1) (fun x hx => by cases hx) (fun _ _ _ _ h => h) (fun _ _ _ _ _ _ h => h) ?_
    unfold zstep
    rw [e]
    show (if pc' = pc then _ else _)
    rw [if_pos e1, e2, e3]
    have d1 : as.drop n = [] := by rw [← hn, List.drop_length]
    have d2 : as.take n = as := by rw [← hn, List.take_length]
    simp only [zins, d1, d2]
    rw [if_pos ⟨by decide, hn, by rw [c3]; exact Nat.zero_le _, by rw [c4]; exact Nat.zero_le _⟩]
    refine ⟨c2, ?_⟩
    rw [c3, c4]
    refine hs.mono (fun r h' hx => ?_)
    rw [List.append_nil]
    exact hx
  · cases c5

/-! pieces told by sums and by what operations gave: a log is kept -/
/-- kind (0 an operation, 1 a place, 2 a place of longs), code or cell, operands -/
abbrev sDe : Type := Nat × Nat × sLn × sLn
def sDc (F : List sF) (k : sK) : sDe → Option sF
  | (0, c, a, b) => (match k.2.2.2.2 with
    | some L => (match L.1.find? (fun t => t.1 == c && (!(t.1 == 9) && (seqB k F t.2.1 a && seqB k F t.2.2.1 b))) with
      | some t => some t.2.2.2
      | none => none)
    | none => none)
  | (1, q, a, _) => (match k.2.2.1.find? (fun t => t.1 == q && seqB k F t.2.1 a) with
    | some t => some t.2.2
    | none => none)
  | (_, q, a, _) => (match k.2.2.2.2 with
    | some L => (match L.2.find? (fun t => t.1 == q && seqB k F t.2.1 a) with
      | some t => some t.2.2
      | none => none)
    | none => none)
def sDeP (V : Nat → Int) (h : zH) : sDe → Int → Prop
  | (0, c, a, b), x => x = sgfn c (lnv V a) (lnv V b)
  | (1, q, a, _), x => (h.2.1 q (lnv V a).toNat).toInt = x
  | (_, q, a, _), x => (h.2.2.1 q (lnv V a).toNat).toInt = x
theorem sDc_ok {k : sK} {σ V : Nat → Int} {F : List sF} {h : zH} (hk : sKok k σ h) (hF : sFR k.1.length σ V F) : ∀ {d : sDe} {f : sF}, sDc F k d = some f → swf k.1.length f ∧ sDeP V h d (sval σ f)
  | (0, c, a, b), f, hc => by
    simp only [sDc] at hc
    split at hc
    · rename_i L e
      split at hc
      · rename_i t et
        cases hc
        have h1 := List.find?_some et
        simp only [Bool.and_eq_true, beq_iff_eq, Bool.not_eq_true', beq_eq_false_iff_ne, ne_eq] at h1
        obtain ⟨e1, e9, s1, s2⟩ := h1
        obtain ⟨-, -, b3, -, b5⟩ := (hk.2.2.2.2 L e).1 t (List.mem_of_find?_eq_some et)
        refine ⟨b3, ?_⟩
        show sval σ t.2.2.2 = sgfn c (lnv V a) (lnv V b)
        rw [b5 e9, e1, seqB_ok s1 hk hF, seqB_ok s2 hk hF]
      · cases hc
    · cases hc
  | (1, q, a, b), f, hc => by
    simp only [sDc] at hc
    split at hc
    · rename_i t et
      cases hc
      have h1 := List.find?_some et
      simp only [Bool.and_eq_true, beq_iff_eq] at h1
      obtain ⟨b1, b2, b3⟩ := hk.2.2.1 t (List.mem_of_find?_eq_some et)
      refine ⟨b2, ?_⟩
      show (h.2.1 q (lnv V a).toNat).toInt = sval σ t.2.2
      rw [← h1.1, ← seqB_ok h1.2 hk hF]
      exact b3
    · cases hc
  | (n + 2, q, a, b), f, hc => by
    simp only [sDc] at hc
    split at hc
    · rename_i L e
      split at hc
      · rename_i t et
        cases hc
        have h1 := List.find?_some et
        simp only [Bool.and_eq_true, beq_iff_eq] at h1
        obtain ⟨b1, b2, b3⟩ := (hk.2.2.2.2 L e).2 t (List.mem_of_find?_eq_some et)
        refine ⟨b2, ?_⟩
        show (h.2.2.1 q (lnv V a).toNat).toInt = sval σ t.2.2
        rw [← h1.1, ← seqB_ok h1.2 hk hF]
        exact b3
      · cases hc
    · cases hc
/-- a further name -/
def sVx (V : Nat → Int) (n : Nat) (x : Int) : Nat → Int := fun i => if i = n then x else V i
def sDB : List sDe → List sF → sK → (List sF → Bool) → Bool
  | [], F, _, C => C F
  | d :: r, F, k, C => match sDc F k d with
    | some f => sDB r (F ++ [f]) k C
    | none => false
def sDP : List sDe → (Nat → Int) → Nat → zH → ((Nat → Int) → Prop) → Prop
  | [], V, _, _, C => C V
  | d :: r, V, n, h, C => ∃ x : Int, sDeP V h d x ∧ sDP r (sVx V n x) (n + 1) h C
theorem sDB_ok {k : sK} {σ : Nat → Int} {h : zH} {C : List sF → Bool} {Cp : (Nat → Int) → Prop} (hk : sKok k σ h) (hC : ∀ F V, C F = true → sFR k.1.length σ V F → Cp V) : ∀ (L : List sDe) (V : Nat → Int) (F : List sF), sDB L F k C = true → sFR k.1.length σ V F → sDP L V F.length h Cp
  | [], V, F, hc, hF => hC F V hc hF
  | d :: r, V, F, hc, hF => by
    simp only [sDB] at hc
    split at hc
    · rename_i f ef
      obtain ⟨w, p⟩ := sDc_ok hk hF ef
      refine ⟨sval σ f, p, ?_⟩
      have h2 := sDB_ok hk hC r (sVx V F.length (sval σ f)) (F ++ [f]) hc (sFR.snoc (fun i g e => by
        have hi : i < F.length := (List.getElem?_eq_some_iff.mp e).1
        have h3 := hF i g e
        show sR _ σ g (if i = F.length then _ else V i)
        rw [if_neg (Nat.ne_of_lt hi)]
        exact h3) (by
        show sR _ σ f (if F.length = F.length then sval σ f else _)
        rw [if_pos rfl]
        exact ⟨w, rfl⟩))
      rw [List.length_append] at h2
      exact h2
    · cases hc
def sneB (k : sK) (F : List sF) (a b : sLn) : Bool := match k.2.2.2.2 with
  | some L => L.1.any (fun t => t.1 == 9 && ((seqB k F t.2.1 a && seqB k F t.2.2.1 b) || (seqB k F t.2.1 b && seqB k F t.2.2.1 a)))
  | none => false
theorem sneB_ok {k : sK} {σ V : Nat → Int} {F : List sF} {h : zH} {a b : sLn} (hc : sneB k F a b = true) (hk : sKok k σ h) (hF : sFR k.1.length σ V F) : lnv V a ≠ lnv V b := by
  unfold sneB at hc
  split at hc
  · rename_i L e
    obtain ⟨t, ht, hc⟩ := List.any_eq_true.mp hc
    simp only [Bool.and_eq_true, Bool.or_eq_true, beq_iff_eq] at hc
    obtain ⟨-, -, -, b4, -⟩ := (hk.2.2.2.2 L e).1 t ht
    have b6 := b4 hc.1
    rcases hc.2 with ⟨s1, s2⟩ | ⟨s1, s2⟩
    · rw [seqB_ok s1 hk hF, seqB_ok s2 hk hF] at b6
      exact b6
    · rw [seqB_ok s1 hk hF, seqB_ok s2 hk hF] at b6
      exact Ne.symm b6
  · cases hc
theorem saF_okL {V : Nat → Int} {h : zH} {C : List sF → sK → Bool} : ∀ (L : List sP0) (F : List sF) (k : sK) (σ : Nat → Int), saF L F k C = true → sKok k σ h → sFR k.1.length σ V F → sPok V h L F.length → ∃ F' k' σ', C F' k' = true ∧ sKok k' σ' h ∧ sX k.1.length σ k'.1.length σ' ∧ sFR k'.1.length σ' V F' ∧ F'.length = F.length + L.length
  | [], F, k, σ, hc, hk, hF, _ => ⟨F, k, σ, hc, hk, sX.rf, hF, rfl⟩
  | t :: r, F, k, σ, hc, hk, hF, hP => by
    simp only [saF] at hc
    split at hc
    · rename_i ix e
      obtain ⟨i1, i2⟩ := sPix_ok hF e
      obtain ⟨⟨p1, p2, p3⟩, hP⟩ := hP
      obtain ⟨f', k', σ', c, a, b, d⟩ := snew_ok hc hk p2 p3
      obtain ⟨j1, j2⟩ := i1.x b
      have hk2 : sKok (skp k' t.1 ix f') σ' h := skp_ok a j1 (by
        rw [j2, i2, p1]
        exact d)
      obtain ⟨F3, k3, σ3, c3, a3, b3, d3, n3⟩ := saF_okL r (F ++ [f']) (skp k' t.1 ix f') σ' c hk2 ((hF.x b).snoc d) (by
        rw [List.length_append]
        exact hP)
      refine ⟨F3, k3, σ3, c3, a3, b.tr b3, d3, ?_⟩
      rw [n3, List.length_append, List.length_cons]
      simp only [List.length_cons, List.length_nil]
      omega
    · cases hc
/-- places of longs, told of the start -/
def saG : List sP0 → List sF → sK → (List sF → sK → Bool) → Bool
  | [], F, k, C => C F k
  | t :: r, F, k, C => match sPix F t.2.1 with
    | some ix => snew k t.2.2 (fun f k' => saG r (F ++ [f]) (skl k' t.1 ix f) C)
    | none => false
def sPokL (V : Nat → Int) (h : zH) : List sP0 → Nat → Prop
  | [], _ => True
  | t :: r, i => ((h.2.2.1 t.1 (sPv V t.2.1).toNat).toInt = V i ∧ t.2.2.1 ≤ V i ∧ V i ≤ t.2.2.2) ∧ sPokL V h r (i + 1)
theorem saG_ok {V : Nat → Int} {h : zH} {C : List sF → sK → Bool} : ∀ (L : List sP0) (F : List sF) (k : sK) (σ : Nat → Int), saG L F k C = true → sKok k σ h → sFR k.1.length σ V F → sPokL V h L F.length → ∃ F' k' σ', C F' k' = true ∧ sKok k' σ' h ∧ sX k.1.length σ k'.1.length σ' ∧ sFR k'.1.length σ' V F' ∧ F'.length = F.length + L.length
  | [], F, k, σ, hc, hk, hF, _ => ⟨F, k, σ, hc, hk, sX.rf, hF, rfl⟩
  | t :: r, F, k, σ, hc, hk, hF, hP => by
    simp only [saG] at hc
    split at hc
    · rename_i ix e
      obtain ⟨i1, i2⟩ := sPix_ok hF e
      obtain ⟨⟨p1, p2, p3⟩, hP⟩ := hP
      obtain ⟨f', k', σ', c, a, b, d⟩ := snew_ok hc hk p2 p3
      obtain ⟨j1, j2⟩ := i1.x b
      have hk2 : sKok (skl k' t.1 ix f') σ' h := skl_ok a j1 (by
        rw [j2, i2, p1]
        exact d)
      have h1 : (skl k' t.1 ix f').1.length = k'.1.length := by rw [skl_1]
      obtain ⟨F3, k3, σ3, c3, a3, b3, d3, n3⟩ := saG_ok r (F ++ [f']) (skl k' t.1 ix f') σ' c hk2 (by rw [h1]; exact (hF.x b).snoc d) (by
        rw [List.length_append]
        exact hP)
      rw [h1] at b3
      refine ⟨F3, k3, σ3, c3, a3, b.tr b3, d3, ?_⟩
      rw [n3, List.length_append, List.length_cons]
      simp only [List.length_cons, List.length_nil]
      omega
    · cases hc
/-- differences of the names, told of the start -/
def sbF (F : List sF) : List (Nat × Nat × Int) → sK → sK
  | [], k => k
  | t :: r, k => sbF F r (match F[t.1]?, F[t.2.1]? with
    | some (some a, ca), some (some b, cb) => (k.1, ((a, b, t.2.2 - (ca - cb)) :: k.2.1.1, k.2.1.2), k.2.2)
    | _, _ => k)
theorem sbF_ok {σ V : Nat → Int} {h : zH} {F : List sF} : ∀ (L : List (Nat × Nat × Int)) (k : sK), sKok k σ h → sFR k.1.length σ V F → (∀ t ∈ L, t.2.2 ≤ V t.1 - V t.2.1) → sKok (sbF F L k) σ h ∧ (sbF F L k).1 = k.1
  | [], _, hk, _, _ => ⟨hk, rfl⟩
  | t :: r, k, hk, hF, hL => by
    simp only [sbF]
    split
    · rename_i a ca b cb ea eb
      have hx := hF _ _ ea
      have hy := hF _ _ eb
      have ht := hL t List.mem_cons_self
      have ex : V t.1 = σ a + ca := hx.2
      have ey : V t.2.1 = σ b + cb := hy.2
      refine sbF_ok r (k.1, ((a, b, t.2.2 - (ca - cb)) :: k.2.1.1, k.2.1.2), k.2.2) ⟨hk.1, ⟨fun t' ht' => ?_, hk.2.1.2⟩, hk.2.2⟩ hF (fun t' ht' => hL t' (List.mem_cons_of_mem _ ht'))
      rcases List.mem_cons.mp ht' with e | ht'
      · subst e
        refine ⟨hx.1, hy.1, ?_⟩
        show t.2.2 - (ca - cb) ≤ σ a - σ b
        omega
      · exact hk.2.1.1 t' ht'
    · exact sbF_ok r k hk hF (fun t' ht' => hL t' (List.mem_cons_of_mem _ ht'))
/-- an end: pc, stack, locals, what holds, further names, sums, what is unlike, names that are sums -/
abbrev sXe : Type := Nat × List sT × List (Nat × sT) × sAs × List sDe × sEf × List (sLn × sLn) × List (Nat × sLn)
abbrev sXr : Type := Option sT × sAs × List sDe × sEf × List (sLn × sLn) × List (Nat × sLn)
def sFz (F : List sF) (l : sL) (st : List sV) (k : sK) (x : sEf × List (sLn × sLn) × List (Nat × sLn)) : Bool := sEfB F l st k x.1 && (x.2.1.all (fun t => sneB k F t.1 t.2) && x.2.2.all (fun t => match F[t.1]? with
  | some f => seqB k F f t.2
  | none => false))
def sFzP (V : Nat → Int) (lo : zL) (st : List Value) (h : zH) (x : sEf × List (sLn × sLn) × List (Nat × sLn)) : Prop := sEfP V lo st h x.1 ∧ (∀ t ∈ x.2.1, lnv V t.1 ≠ lnv V t.2) ∧ ∀ t ∈ x.2.2, V t.1 = lnv V t.2
theorem sFz_ok {k : sK} {σ V : Nat → Int} {F : List sF} {l : sL} {st : List sV} {x : sEf × List (sLn × sLn) × List (Nat × sLn)} {lo : zL} {sv : List Value} {h : zH} (hc : sFz F l st k x = true) (hk : sKok k σ h) (hl : sLR k.1.length σ l lo) (hs : sSR k.1.length σ st sv) (hF : sFR k.1.length σ V F) : sFzP V lo sv h x := by
  simp only [sFz, Bool.and_eq_true] at hc
  obtain ⟨c1, c2, c3⟩ := hc
  refine ⟨sEfB_ok c1 hk hl hs hF, fun t ht => sneB_ok (List.all_eq_true.mp c2 t ht) hk hF, fun t ht => ?_⟩
  have h1 := List.all_eq_true.mp c3 t ht
  split at h1
  · rename_i f ef
    rw [(hF _ _ ef).2]
    exact seqB_ok h1 hk hF
  · cases h1
def sXeB (w : sW) (F : List sF) (pc : Nat) (l : sL) (st : List sV) (k : sK) (e : sXe) : Bool := e.1 == pc && (sfitL k e.2.1 st && (e.2.2.1.all (fun q => match slget l q.1 with
      | some a => sfit k q.2 a
      | none => false) && (schA w k e.2.2.2.1 && sDB e.2.2.2.2.1 F k (fun F' => sFz F' l st k e.2.2.2.2.2))))
def sXeP (V : Nat → Int) (n : Nat) (e : sXe) (lo : zL) (st : List Value) (h : zH) : Prop := sTL e.2.1 st ∧ (∀ q ∈ e.2.2.1, ∃ v, zget lo q.1 = some v ∧ sTok q.2 v) ∧ sAok e.2.2.2.1 h ∧ sDP e.2.2.2.2.1 V n h (fun V' => sFzP V' lo st h e.2.2.2.2.2)
def sXrB (w : sW) (F : List sF) (r : Option sV) (k : sK) (e : sXr) : Bool := schA w k e.2.1 && (sDB e.2.2.1 F k (fun F' => sFz F' [] r.toList k e.2.2.2) && (match e.1, r with
  | none, none => true
  | some t, some a => sfit k t a
  | _, _ => false))
def sXrP (V : Nat → Int) (n : Nat) (e : sXr) (r : Option Value) (h : zH) : Prop := sTO e.1 r ∧ sAok e.2.1 h ∧ sDP e.2.2.1 V n h (fun V' => sFzP V' [] r.toList h e.2.2.2)
def sysB (w : sW) (T : Nat → List sCt) (md : sM) (n dep : Nat) (M : zM) (L0 : List (Nat × sT)) (S0 : List sT) (A0 : sAs) (P0 P1 : List sP0) (B0 : List (Nat × Nat × Int)) (pc : Nat) (ends : List sXe) (rets : List sXr) : Bool :=
  senV L0 [] [] ([], ([], []), [], [], some ([], [])) (fun l F k => sentS S0 [] F k (fun st F k => saA A0 k (fun k => saF P0 F k (fun F k => saG P1 F k (fun F k => sit w md M (srn w T md n dep) (fun r k => rets.any (sXrB w F r k)) (fun p => ends.any (fun e => e.1 == p)) [] (fun pc l st k => ends.any (sXeB w F pc l st k)) n pc l st (sbF F B0 k))))))
theorem sys_ok {l : Launch} {Γ : zG} {w : sW} {T : Nat → List sCt} {md : sM} {n dep d : Nat} {M : zM} {L0 : List (Nat × sT)} {S0 : List sT} {A0 : sAs} {P0 P1 : List sP0} {B0 : List (Nat × Nat × Int)} {pc : Nat} {ends : List sXe} {rets : List sXr} {Kp : Option Value → zH → Prop} {QF : List Frame → Array Value → State → State → Prop} (V : Nat → Int)
    (hb : sysB w T md n dep M L0 S0 A0 P0 P1 B0 pc ends rets = true) (hT : ∀ mi, ∀ c ∈ T mi, c.2.2.2.2.2 ≤ dep → sCon l Γ w mi c) (hck : zckB M = true)
    (hQ : ∀ below args s t, MQ below (zQ Γ false Kp) args s M.1.2.2.2.2.1 M.1.2.2.2.2.2 (zA Γ) t → QF below args s t) (hd : dep ≤ d) {lo : zL} {st : List Value} {h : zH}
    (hL : sNmL V lo L0 0) (hS : sNmS V S0 st (sCnL L0)) (hA : sAok A0 h) (hP : sPok V h P0 (sCnL L0 + sCnS S0)) (hG : sPokL V h P1 (sCnL L0 + sCnS S0 + P0.length)) (hB : ∀ t ∈ B0, t.2.2 ≤ V t.1 - V t.2.1) (hi : sInv w h)
    (hE : ∀ e ∈ ends, ∀ lo' st' h', sXeP V (sCnL L0 + sCnS S0 + P0.length + P1.length) e lo' st' h' → sInv w h' → sMd md h h' → zX l Γ false (d + 1) M.1 QF 0 0 e.1 lo' st' h')
    (hR : ∀ e ∈ rets, ∀ r h', sXrP V (sCnL L0 + sCnS S0 + P0.length + P1.length) e r h' → sInv w h' → sMd md h h' → Kp r h') : zX l Γ false (d + 1) M.1 QF 0 0 pc lo st h := by
  unfold sysB at hb
  obtain ⟨l1, F1, k1, σ1, lo3, c1, a1, b1, d1, z1, g1, n1⟩ := senV_ok (V := V) (h := h) (lo := lo) L0 [] [] [] ([], ([], []), [], [], some ([], [])) (fun _ => 0) hb (sk1 h _) rfl (fun x hx => (nomatch hx)) (fun i f e => by cases e) hL
  have n1 : F1.length = sCnL L0 := by
    rw [n1]
    exact Nat.zero_add _
  obtain ⟨s2, F2, k2, σ2, c2, a2, b2, d2, g2, n2⟩ := sentS_ok (V := V) S0 [] [] st F1 k1 σ1 c1 a1 rfl g1 (by rw [n1]; exact hS)
  obtain ⟨k3, σ3, c3, a3, b3⟩ := saA_ok c2 a2 hA
  obtain ⟨F5, k5, σ5, c5, a6, b6, d5, n5⟩ := saF_okL (V := V) P0 F2 k3 σ3 c3 a3 (g2.x b3) (by rw [n2, n1]; exact hP)
  have n5 : F5.length = sCnL L0 + sCnS S0 + P0.length := by rw [n5, n2, n1]
  obtain ⟨F, k4, σ4, c4, a4, b4, d4, n4⟩ := saG_ok (V := V) P1 F5 k5 σ5 c5 a6 d5 (by rw [n5]; exact hG)
  have n4 : F.length = sCnL L0 + sCnS S0 + P0.length + P1.length := by rw [n4, n5]
  have e1 := (((d1.x b2).x b3).x b6).x b4
  have e2 := ((d2.x b3).x b6).x b4
  obtain ⟨a5, b5⟩ := sbF_ok (F := F) B0 k4 a4 d4 hB
  refine zX_sub (lo2 := lo3) (fun x hx => zget_mem _ _ _ (z1 x hx)) ?_
  refine sit_ok (h0 := h) (n0 := k4.1.length) (σ0 := σ4) (QF := QF) (Kp := Kp) (spl := []) hck hQ (srn_ok hT dep d (Nat.le_refl _) hd) ?_ ?_ n pc l1 _ _ c4 σ4 lo3 st h ⟨a5, by rw [b5]; exact e1, by rw [b5]; exact e2, hi, sMd.rf, by rw [b5]; exact sX.rf⟩
  · intro r k hc σ r' h' hk hr hi' hm hx
    obtain ⟨e, he, hc⟩ := List.any_eq_true.mp hc
    simp only [sXrB, Bool.and_eq_true] at hc
    obtain ⟨h1, h2, h3⟩ := hc
    have hz := sDB_ok (Cp := fun V' => sFzP V' [] r'.toList h' e.2.2.2) hk (fun F' V' hc' hF' => sFz_ok (l := []) (lo := []) hc' hk rfl hr.tl hF') e.2.2.1 V F h2 (d4.x hx)
    rw [n4] at hz
    refine hR e he r' h' ⟨?_, schA_ok h1 hk hi', hz⟩ hi' hm
    obtain ⟨res, _⟩ := e
    cases res with
    | none =>
      cases r with
      | none => exact hr
      | some a => cases h3
    | some t =>
      cases r with
      | none => cases h3
      | some a =>
        obtain ⟨v, e, hv⟩ := hr
        exact ⟨v, e, sfit_ok hk h3 hv⟩
  · intro pc' l0 st1 k hcut hS' σ l' st' h' hr
    obtain ⟨e, he, hc⟩ := List.any_eq_true.mp hS'
    simp only [sXeB, Bool.and_eq_true, beq_iff_eq] at hc
    obtain ⟨h1, h2, h3, h4, h5⟩ := hc
    obtain ⟨r1, r2, r3, r4, r5, r6⟩ := hr
    subst h1
    have hz := sDB_ok (Cp := fun V' => sFzP V' l' st' h' e.2.2.2.2.2) r1 (fun F' V' hc' hF' => sFz_ok hc' r1 r2 r3 hF') e.2.2.2.2.1 V F h5 (d4.x r6)
    rw [n4] at hz
    refine hE e he l' st' h' ⟨sfitL_ok r1 h2 r3, fun q hq => ?_, schA_ok h4 r1 r4, hz⟩ r4 r5
    have h7 := List.all_eq_true.mp h3 q hq
    split at h7
    · rename_i a ea
      obtain ⟨v, e3, e4⟩ := slget_ok r2 ea
      exact ⟨v, e3, sfit_ok r1 h7 e4⟩
    · cases h7
/-- a further piece of a method's body -/
def syeB (w : sW) (T : Nat → List sCt) (md : sM) (n dep mi : Nat) (L0 : List (Nat × sT)) (S0 : List sT) (A0 : sAs) (P0 P1 : List sP0) (B0 : List (Nat × Nat × Int)) (pc : Nat) (ends : List sXe) (rets : List sXr) : Bool := decide ((zCodes.get mi).1 = mi) && sysB w T md n dep (zhd mi, (zCodes.get mi).2) L0 S0 A0 P0 P1 B0 pc ends rets
theorem sye_ok {l : Launch} {Γ : zG} {w : sW} {T : Nat → List sCt} {md : sM} {n dep d mi pc : Nat} {L0 : List (Nat × sT)} {S0 : List sT} {A0 : sAs} {P0 P1 : List sP0} {B0 : List (Nat × Nat × Int)} {ends : List sXe} {rets : List sXr} {Kp : Option Value → zH → Prop} (V : Nat → Int)
    (hb : syeB w T md n dep mi L0 S0 A0 P0 P1 B0 pc ends rets = true) (hT : ∀ mi, ∀ c ∈ T mi, c.2.2.2.2.2 ≤ dep → sCon l Γ w mi c) (hd : dep ≤ d) {lo : zL} {st : List Value} {h : zH}
    (hL : sNmL V lo L0 0) (hS : sNmS V S0 st (sCnL L0)) (hA : sAok A0 h) (hP : sPok V h P0 (sCnL L0 + sCnS S0)) (hG : sPokL V h P1 (sCnL L0 + sCnS S0 + P0.length)) (hB : ∀ t ∈ B0, t.2.2 ≤ V t.1 - V t.2.1) (hi : sInv w h)
    (hE : ∀ e ∈ ends, ∀ lo' st' h', sXeP V (sCnL L0 + sCnS S0 + P0.length + P1.length) e lo' st' h' → sInv w h' → sMd md h h' → zX l Γ false (d + 1) (zhd mi) (zMQ' Γ false (zhd mi) Kp) 0 0 e.1 lo' st' h')
    (hR : ∀ e ∈ rets, ∀ r h', sXrP V (sCnL L0 + sCnS S0 + P0.length + P1.length) e r h' → sInv w h' → sMd md h h' → Kp r h') : zX l Γ false (d + 1) (zhd mi) (zMQ' Γ false (zhd mi) Kp) 0 0 pc lo st h := by
  simp only [syeB, Bool.and_eq_true, decide_eq_true_eq] at hb
  obtain ⟨c1, c3⟩ := hb
  obtain ⟨q1, q2⟩ := zallP_get _ zCodes_ok mi
  rw [c1] at q1 q2
  exact sys_ok (M := (zhd mi, (zCodes.get mi).2)) (Kp := Kp) V c3 hT q1 (fun _ _ _ _ h => h) hd hL hS hA hP hG hB hi hE hR
/-- a whole method: its locals are its arguments -/
def syfB (w : sW) (T : Nat → List sCt) (md : sM) (n dep mi : Nat) (as : List sT) (A0 : sAs) (P0 P1 : List sP0) (B0 : List (Nat × Nat × Int)) (ends : List sXe) (rets : List sXr) : Bool := decide ((zCodes.get mi).1 = mi) && (decide (sslen as ≤ (zhd mi).2.2.1) && sysB w T md n dep (zhd mi, (zCodes.get mi).2) (sslot 0 as) [] A0 P0 P1 B0 0 ends rets)
theorem syf_ok {l : Launch} {Γ : zG} {w : sW} {T : Nat → List sCt} {md : sM} {n dep d mi : Nat} {as : List sT} {A0 : sAs} {P0 P1 : List sP0} {B0 : List (Nat × Nat × Int)} {ends : List sXe} {rets : List sXr} {Kp : Option Value → zH → Prop} (V : Nat → Int)
    (hb : syfB w T md n dep mi as A0 P0 P1 B0 ends rets = true) (hT : ∀ mi, ∀ c ∈ T mi, c.2.2.2.2.2 ≤ dep → sCon l Γ w mi c) (hd : dep ≤ d) {args : List Value} {h : zH}
    (ha : sTL as args) (hL : sNmL V (lv_args 0 args) (sslot 0 as) 0) (hA : sAok A0 h) (hP : sPok V h P0 (sCnL (sslot 0 as))) (hG : sPokL V h P1 (sCnL (sslot 0 as) + P0.length)) (hB : ∀ t ∈ B0, t.2.2 ≤ V t.1 - V t.2.1) (hi : sInv w h)
    (hE : ∀ e ∈ ends, ∀ lo' st' h', sXeP V (sCnL (sslot 0 as) + P0.length + P1.length) e lo' st' h' → sInv w h' → sMd md h h' → zX l Γ false (d + 1) (zhd mi) (zMQ' Γ false (zhd mi) Kp) 0 0 e.1 lo' st' h')
    (hR : ∀ e ∈ rets, ∀ r h', sXrP V (sCnL (sslot 0 as) + P0.length + P1.length) e r h' → sInv w h' → sMd md h h' → Kp r h') : zSem l Γ false (d + 1) (zhd mi) args h Kp := by
  simp only [syfB, Bool.and_eq_true, decide_eq_true_eq] at hb
  obtain ⟨c1, c2, c3⟩ := hb
  obtain ⟨q1, q2⟩ := zallP_get _ zCodes_ok mi
  rw [c1] at q1 q2
  refine zbody q2 (by rw [sslen_ok as args ha]; exact c2) ?_
  exact sys_ok (M := (zhd mi, (zCodes.get mi).2)) (Kp := Kp) V c3 hT q1 (fun _ _ _ _ h => h) hd hL rfl hA hP hG hB hi hE hR

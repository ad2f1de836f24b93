theorem stm_ok2 {n : Nat} {σ : Nat → Int} {l : sL} {lo2 lo : zL} (hl : sLR n σ l lo2) (hz : ∀ x ∈ lo2, zget lo x.1 = some x.2) : ∀ (cf : List (Nat × Int)) (L : List (Int × sF)), stm l cf = some L → ssum σ L = (cf.map (fun q => q.2 * szv lo q.1)).sum
  | [], L, h => by
    cases h
    rfl
  | (j, c) :: r, L, h => by
    simp only [stm] at h
    split at h
    · rename_i f L' e1 e2
      cases h
      have w2 := stm_ok2 hl hz r L' e2
      obtain ⟨v, e3, x, rfl, hx⟩ := slget_ok hl e1
      have ez : szv lo j = sval σ f := by
        simp only [szv, szv_sub hz e3]
        exact hx.2
      simp only [ssum, List.map_cons, List.sum_cons] at w2 ⊢
      rw [w2, ez]
    · cases h
def sKc (res : Option sT) (r : Option sV) (k : sK) : Bool := match res, r with
  | none, none => true
  | some t, some a => sfit k t a
  | _, _ => false
theorem sKc_ok {w : sW} {md : sM} {h0 : zH} {n0 : Nat} {σ0 : Nat → Int} {res : Option sT} : sHK w md h0 n0 σ0 (sKc res) (fun r h' => sTO res r ∧ sInv w h' ∧ sMd md h0 h') := by
  intro r k hc σ r' h hk hr hi hm _
  refine ⟨?_, hi, hm⟩
  cases res with
  | none =>
    cases r with
    | none => exact hr
    | some a => cases hc
  | some t =>
    cases r with
    | none => cases hc
    | some a =>
      obtain ⟨v, e, hv⟩ := hr
      exact ⟨v, e, sfit_ok hk hc hv⟩
/-- what is known at a cut -/
def sk0 (c : sCut) : sK := ((sini c.2.1 0).1 ++ (sinF c.2.2.2.2.1 (sini c.2.1 0).1.length).1, [], (sinF c.2.2.2.2.1 (sini c.2.1 0).1.length).2)
theorem sk0_ok {c : sCut} {lo : zL} {h : zH} (hg : sgood c lo h) : ∃ (σ : Nat → Int) (vals : List Value), sKok (sk0 c) σ h ∧ sLR (sk0 c).1.length σ (sini c.2.1 0).2 (szip c.2.1 vals) ∧ ∀ x ∈ szip c.2.1 vals, zget lo x.1 = some x.2 := by
  obtain ⟨vals, v1, v2⟩ := sgood_vals c.2.1 hg.1
  obtain ⟨σ, -, s2, s3⟩ := sini_ok c.2.1 vals [] (fun _ => 0) (fun i iv hi => by cases hi) v1
  simp only [List.nil_append, List.length_nil] at s2 s3
  obtain ⟨σ', a1, a2, a3⟩ := sinF_ok (h := h) c.2.2.2.2.1 (sini c.2.1 0).1 σ s2 hg.2
  refine ⟨σ', vals, ⟨a2, fun t ht => (nomatch ht), a3⟩, s3.x ⟨by simp [sk0], a1⟩, v2⟩
def scutB (w : sW) (T : Nat → List sCt) (md : sM) (n dep : Nat) (M : zM) (res : Option sT) (cuts : List sCut) (c : sCut) : Bool := match stm (sini c.2.1 0).2 c.2.2.1, stmF (sk0 c) c.2.2.2.2.2 with
  | some L0, some L2 => sle (sk0 c) (((c.2.2.2.1, (none, 1)) :: (L0 ++ L2)).map (fun q => (-q.1, q.2))) 0 && sit w md M (srn w T md n dep) (sKc res) (fun p => cuts.any (fun c => c.1 == p)) (sS w cuts (some ((c.2.2.2.1, (none, 1)) :: (L0 ++ L2)))) n c.1 (sini c.2.1 0).2 [] (sk0 c)
  | _, _ => false
theorem sloop {l : Launch} {Γ : zG} {w : sW} {T : Nat → List sCt} {md : sM} {n dep d : Nat} {M : zM} {res : Option sT} {cuts : List sCut} {h0 : zH} {QF : List Frame → Array Value → State → State → Prop} (hT : ∀ mi, ∀ c ∈ T mi, c.2.2.2 ≤ dep → sCon l Γ w mi c) (hck : zckB M = true)
    (hQ : ∀ below args s t, MQ below (zQ Γ false (fun r h' => sTO res r ∧ sInv w h' ∧ sMd md h0 h')) args s M.1.2.2.2.2.1 M.1.2.2.2.2.2 (zA Γ) t → QF below args s t) (hd : dep ≤ d) (hcuts : ∀ c ∈ cuts, scutB w T md n dep M res cuts c = true) :
    ∀ (N : Nat) (c : sCut), c ∈ cuts → ∀ (lo : zL) (h : zH), sgood c lo h → sInv w h → sMd md h0 h → smuC c lo h < N → zX l Γ false (d + 1) M.1 QF 0 0 c.1 lo [] h := by
  intro N
  induction N with
  | zero =>
    intro c hc lo h hg hi hm hlt
    exfalso
    have hb := hcuts c hc
    unfold scutB at hb
    split at hb
    · rename_i L0 L2 eL eL2
      simp only [Bool.and_eq_true] at hb
      obtain ⟨σ, vals, hk, s3, v2⟩ := sk0_ok hg
      have w2 := stm_ok2 s3 v2 _ _ eL
      have w4 := (stmF_ok hk _ _ eL2).2
      have h1 := sle_ok hk hb.1
      rw [ssum_neg] at h1
      have h2 : ssum σ ((c.2.2.2.1, (none, 1)) :: (L0 ++ L2)) = c.2.2.2.1 * 1 + (ssum σ L0 + ssum σ L2) := by
        rw [← ssum_app]
        rfl
      rw [h2, w2, w4] at h1
      unfold smuC smu at hlt
      have hlt : (c.2.2.1.map (fun q => q.2 * szv lo q.1)).sum + c.2.2.2.1 + smuH h c.2.2.2.2.2 < 0 := hlt
      omega
    · cases hb
  | succ N ih =>
    intro c hc lo h hg hi hm hlt
    have hb := hcuts c hc
    unfold scutB at hb
    split at hb
    · rename_i L0 L2 eL eL2
      simp only [Bool.and_eq_true] at hb
      obtain ⟨σ, vals, hk, s3, v2⟩ := sk0_ok hg
      have w2 := stm_ok2 s3 v2 _ _ eL
      have w1 := (stm_ok s3 _ _ eL).1
      obtain ⟨w3, w4⟩ := stmF_ok hk _ _ eL2
      refine zX_sub (lo2 := szip c.2.1 vals) (fun x hx => zget_mem _ _ _ (v2 x hx)) ?_
      refine sit_ok (n0 := (sk0 c).1.length) (σ0 := σ) hck hQ (srn_ok hT dep d (Nat.le_refl _) hd) sKc_ok (fun pc l0 st k hcut hS σ' l' st' h' hr => ?_) n c.1 _ [] _ hb.2 σ _ [] h ⟨hk, s3, rfl, hi, hm, sX.rf⟩
      obtain ⟨c', hc', e1, e2, hg', hmu⟩ := sS_ok hS hr.1 hr.2.1 hr.2.2.1 hr.2.2.2.1
      subst e1
      subst e2
      have h3 := hmu _ rfl
      have hwf : ∀ t ∈ ((c.2.2.2.1, (none, 1)) :: (L0 ++ L2) : List (Int × sF)), swf (sk0 c).1.length t.2 := fun t ht => by
        rcases List.mem_cons.mp ht with e | ht
        · subst e
          exact trivial
        · rcases List.mem_append.mp ht with ht | ht
          · exact w1 t ht
          · exact w3 t ht
      rw [ssum_x hr.2.2.2.2.2 _ hwf] at h3
      have h2 : ssum σ ((c.2.2.2.1, (none, 1)) :: (L0 ++ L2)) = c.2.2.2.1 * 1 + (ssum σ L0 + ssum σ L2) := by
        rw [← ssum_app]
        rfl
      rw [h2, w2, w4] at h3
      refine ih c' hc' l' h' hg' hr.2.2.2.1 hr.2.2.2.2.1 ?_
      unfold smuC smu at hlt
      have hlt : (c.2.2.1.map (fun q => q.2 * szv lo q.1)).sum + c.2.2.2.1 + smuH h c.2.2.2.2.2 < (N : Int) + 1 := hlt
      omega
    · cases hb
theorem sLR.snd {n : Nat} {σ : Nat → Int} : ∀ {l : sL} {lo : zL}, sLR n σ l lo → sSR n σ (l.map (fun q => q.2)) (lo.map (fun q => q.2))
  | [], _, h => by
    have h : _ = [] := h
    subst h
    exact rfl
  | _ :: _, _, ⟨v, t, e, h1, h2⟩ => by
    subst e
    exact ⟨v, _, rfl, h1, sLR.snd h2⟩
theorem szip_snd : ∀ (L : List sT) (vals : List Value), sTL L vals → (szip (L.map (fun t => (0, t))) vals).map (fun q => q.2) = vals
  | [], _, h => by
    have h : _ = [] := h
    subst h
    rfl
  | _ :: r, _, ⟨v, t, e, _, h2⟩ => by
    subst e
    show v :: (szip (r.map (fun t => (0, t))) t).map (fun q => q.2) = v :: t
    rw [szip_snd r t h2]
/-- a method keeps its contract -/
def schk (w : sW) (T : Nat → List sCt) (n mi : Nat) (ct : sCt) (cuts : List sCut) : Bool := match ct.2.2.2 with
  | 0 => false
  | dep + 1 => decide ((zCodes.get mi).1 = mi) && (decide (ssl ((sini (ct.1.map (fun t => (0, t))) 0).2.map (fun q => q.2)) ≤ (zhd mi).2.2.1) && (sit w ct.2.2.1 (zhd mi, (zCodes.get mi).2) (srn w T ct.2.2.1 n dep) (sKc ct.2.1) (fun p => cuts.any (fun c => c.1 == p)) (sS w cuts none) n 0 (slv 0 ((sini (ct.1.map (fun t => (0, t))) 0).2.map (fun q => q.2))) [] ((sini (ct.1.map (fun t => (0, t))) 0).1, [], []) && cuts.all (scutB w T ct.2.2.1 n dep (zhd mi, (zCodes.get mi).2) ct.2.1 cuts)))
theorem schk_ok {l : Launch} {Γ : zG} {w : sW} {T : Nat → List sCt} {n mi : Nat} {ct : sCt} {cuts : List sCut} (hT : ∀ mi, ∀ c ∈ T mi, c.2.2.2 < ct.2.2.2 → sCon l Γ w mi c) (hc : schk w T n mi ct cuts = true) : sCon l Γ w mi ct := by
  obtain ⟨as, res, md, dep9⟩ := ct
  intro d hd args h ha hi
  cases dep9 with
  | zero => cases hc
  | succ dep =>
    simp only [schk, Bool.and_eq_true, decide_eq_true_eq] at hc
    have hT : ∀ mi, ∀ c ∈ T mi, c.2.2.2 ≤ dep → sCon l Γ w mi c := fun mi c hc hle => hT mi c hc (Nat.lt_succ_of_le hle)
    obtain ⟨c1, c2, c3, c4⟩ := hc
    obtain ⟨q1, q2⟩ := zallP_get _ zCodes_ok mi
    rw [c1] at q1 q2
    have ha' : sTL ((as.map (fun t => ((0, t) : Nat × sT))).map (fun q => q.2)) args := by
      rw [List.map_map]
      have e : as.map ((fun q : Nat × sT => q.2) ∘ fun t => (0, t)) = as := List.map_id as
      rw [e]
      exact ha
    obtain ⟨σ, -, s2, s3⟩ := sini_ok (as.map (fun t => (0, t))) args [] (fun _ => 0) (fun i iv hi => by cases hi) ha'
    simp only [List.nil_append, List.length_nil] at s2 s3
    have hk : sKok ((sini (as.map (fun t => (0, t))) 0).1, [], []) σ h := ⟨s2, fun t ht => (nomatch ht), fun t ht => (nomatch ht)⟩
    have hs := s3.snd
    rw [szip_snd as args ha] at hs
    match d, hd with
    | d + 1, hd =>
      have hd' : dep ≤ d := Nat.le_of_succ_le_succ hd
      refine zbody q2 (by rw [ssl_ok hs]; exact c2) ?_
      refine sit_ok (M := (zhd mi, (zCodes.get mi).2)) (h0 := h) (n0 := (sini (as.map (fun t => (0, t))) 0).1.length) (σ0 := σ) (Kp := fun r h' => sTO res r ∧ sInv w h' ∧ sMd md h h') q1 (fun _ _ _ _ h => h) (srn_ok hT dep d (Nat.le_refl _) hd') sKc_ok (fun pc l0 st k hcut hS σ' l' st' h' hr => ?_) n 0 _ [] _ c3 σ _ [] h ⟨hk, slv_ok 0 hs, rfl, hi, sMd.rf, sX.rf⟩
      obtain ⟨c', hc', e1, e2, hg', -⟩ := sS_ok hS hr.1 hr.2.1 hr.2.2.1 hr.2.2.2.1
      subst e1
      subst e2
      refine sloop (M := (zhd mi, (zCodes.get mi).2)) (res := res) hT q1 (fun _ _ _ _ h => h) hd' (fun c hc => List.all_eq_true.mp c4 c hc) ((smuC c' l' h').toNat + 1) c' hc' l' h' hg' hr.2.2.2.1 hr.2.2.2.2.1 ?_
      omega
/-- a table of contracts: each is kept, if it is kept over those of fewer frames -/
theorem sall {l : Launch} {Γ : zG} {w : sW} {T : Nat → List sCt} (hc : ∀ D mi, ∀ c ∈ T mi, c.2.2.2 = D → (∀ mi, ∀ c ∈ T mi, c.2.2.2 < D → sCon l Γ w mi c) → sCon l Γ w mi c) : ∀ D mi, ∀ c ∈ T mi, c.2.2.2 = D → sCon l Γ w mi c := by
  intro D
  induction D using Nat.strongRecOn with
  | ind D ih => exact fun mi c hm e => hc D mi c hm e (fun mi' c' hm' hlt => ih _ hlt mi' c' hm' rfl)

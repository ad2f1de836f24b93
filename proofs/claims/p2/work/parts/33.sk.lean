/-- arguments as locals -/
def slv : Nat → List sV → sL
  | _, [] => []
  | j, v :: r => (j, v) :: slv (j + scat v) r
theorem slv_ok {n : Nat} {σ : Nat → Int} : ∀ (j : Nat) {a : List sV} {v : List Value}, sSR n σ a v → sLR n σ (slv j a) (lv_args j v)
  | _, [], _, h => by
    have h : _ = [] := h
    subst h
    exact rfl
  | j, a :: r, _, ⟨v, t, e, h1, h2⟩ => by
    subst e
    refine ⟨v, _, rfl, h1, ?_⟩
    have h3 := slv_ok (j + scat a) h2
    have e : (if v.category = 2 then j + 2 else j + 1) = j + scat a := by
      rw [scat_ok h1]
      rcases a with f | q | j9 | b <;> rfl
    rw [e]
    exact h3
def ssl (a : List sV) : Nat := (a.map scat).sum
theorem ssl_ok {n : Nat} {σ : Nat → Int} : ∀ {a : List sV} {v : List Value}, sSR n σ a v → (lg_sl v).length = ssl a
  | [], _, h => by
    have h : _ = [] := h
    subst h
    rfl
  | a :: r, _, ⟨v, t, e, h1, h2⟩ => by
    subst e
    have ih := ssl_ok h2
    simp only [lg_sl, List.flatMap_cons, List.length_append, ssl, List.map_cons, List.sum_cons] at ih ⊢
    rw [ih, ← scat_ok h1]
    congr 1
    cases v <;> rfl
/-- the first contract that fits -/
def spick (dd : Nat) (k : sK) (as : List sV) : List sCt → Option sCt
  | [] => none
  | c :: r => if c.2.2.2 ≤ dd ∧ sfitL k c.1 as = true then some c else spick dd k as r
theorem spick_ok {dd : Nat} {k : sK} {as : List sV} {c : sCt} : ∀ {L : List sCt}, spick dd k as L = some c → c ∈ L ∧ c.2.2.2 ≤ dd ∧ sfitL k c.1 as = true
  | d :: r, h => by
    simp only [spick] at h
    split at h
    · rename_i e
      cases h
      exact ⟨List.mem_cons_self, e⟩
    · have := spick_ok h
      exact ⟨List.mem_cons_of_mem _ this.1, this.2⟩
/-- calls: by a contract, or the callee's body itself -/
def srn (w : sW) (T : Nat → List sCt) (md : sM) (n : Nat) : Nat → sG
  | 0 => fun mi as k KB => decide (mi ≠ zGL) && (match spick 0 k as (T mi) with
    | some c => sby md c k KB
    | none => false)
  | dd + 1 => fun mi as k KB => decide (mi ≠ zGL) && (match spick (dd + 1) k as (T mi) with
    | some c => sby md c k KB
    | none => decide ((zCodes.get mi).1 = mi) && (decide (ssl as ≤ (zhd mi).2.2.1) && sit w md (zhd mi, (zCodes.get mi).2) (srn w T md n dd) KB (fun _ => false) (fun _ _ _ _ => false) n 0 (slv 0 as) [] k))
theorem srn_ok {l : Launch} {Γ : zG} {w : sW} {T : Nat → List sCt} {md : sM} {n : Nat} {h0 : zH} {dm : Nat} (hT : ∀ mi, ∀ c ∈ T mi, c.2.2.2 ≤ dm → sCon l Γ w mi c) : ∀ dd d, dd ≤ dm → dd ≤ d → sHG w md h0 (srn w T md n dd) (sGp l Γ d)
  | 0, d, hm9, hd => by
    intro mi as k KB hc σ as' h hk ha hi hm Kq hq
    simp only [srn, Bool.and_eq_true, decide_eq_true_eq] at hc
    obtain ⟨hne, hc⟩ := hc
    refine ⟨hne, ?_⟩
    split at hc
    · rename_i c e
      obtain ⟨e1, e2, e3⟩ := spick_ok e
      exact sby_ok (hT mi c e1 (Nat.le_trans e2 hm9)) (Nat.le_trans e2 hd) hc hk (sfitL_ok hk e3 ha) hi hm hq
    · cases hc
  | dd + 1, d, hm9, hd => by
    intro mi as k KB hc σ as' h hk ha hi hm Kq hq
    simp only [srn, Bool.and_eq_true, decide_eq_true_eq] at hc
    obtain ⟨hne, hc⟩ := hc
    refine ⟨hne, ?_⟩
    split at hc
    · rename_i c e
      obtain ⟨e1, e2, e3⟩ := spick_ok e
      exact sby_ok (hT mi c e1 (Nat.le_trans e2 hm9)) (Nat.le_trans e2 hd) hc hk (sfitL_ok hk e3 ha) hi hm hq
    · simp only [Bool.and_eq_true, decide_eq_true_eq] at hc
      obtain ⟨c1, c2, c3⟩ := hc
      obtain ⟨q1, q2⟩ := zallP_get _ zCodes_ok mi
      rw [c1] at q1 q2
      match d, hd with
      | d + 1, hd =>
        refine zbody q2 (by rw [ssl_ok ha]; exact c2) ?_
        exact sit_ok (M := (zhd mi, (zCodes.get mi).2)) (n0 := k.1.length) (σ0 := σ) (Kp := Kq) q1 (fun _ _ _ _ h => h) (srn_ok hT dd d (by omega) (by omega)) (fun r k' hb σ' r' h' hk' hr hi' hm' hx => hq r k' σ' r' h' hb hk' hx hr hi' hm') (fun _ _ _ _ hcut => by cases hcut) n 0 _ [] k c3 σ _ [] h ⟨hk, slv_ok 0 ha, rfl, hi, hm, sX.rf⟩
/-! sums -/
def sacc : List (Nat × Int) → Nat → Int → List (Nat × Int)
  | [], n, c => [(n, c)]
  | (m, d) :: r, n, c => if m = n then (m, d + c) :: r else (m, d) :: sacc r n c
def slv1 (σ : Nat → Int) (L : List (Nat × Int)) : Int := (L.map (fun q => q.2 * σ q.1)).sum
theorem sacc_ok (σ : Nat → Int) : ∀ (L : List (Nat × Int)) (n : Nat) (c : Int), slv1 σ (sacc L n c) = slv1 σ L + c * σ n
  | [], n, c => by simp [sacc, slv1]
  | (m, d) :: r, n, c => by
    simp only [sacc]
    split
    · rename_i e
      subst e
      simp only [slv1, List.map_cons, List.sum_cons, Int.add_mul]
      omega
    · have ih := sacc_ok σ r n c
      simp only [slv1, List.map_cons, List.sum_cons] at ih ⊢
      omega
/-- c times f, and so on: symbols gathered -/
def sgat : List (Int × sF) → List (Nat × Int) × Int
  | [] => ([], 0)
  | (c, f) :: r => (match f.1 with
    | none => ((sgat r).1, (sgat r).2 + c * f.2)
    | some n => (sacc (sgat r).1 n c, (sgat r).2 + c * f.2))
def ssum (σ : Nat → Int) (L : List (Int × sF)) : Int := (L.map (fun q => q.1 * sval σ q.2)).sum
theorem sgat_ok (σ : Nat → Int) : ∀ L : List (Int × sF), ssum σ L = slv1 σ (sgat L).1 + (sgat L).2
  | [] => rfl
  | (c, (none, d)) :: r => by
    have ih := sgat_ok σ r
    simp only [ssum, List.map_cons, List.sum_cons, sgat, sval] at ih ⊢
    omega
  | (c, (some n, d)) :: r => by
    have ih := sgat_ok σ r
    simp only [ssum, List.map_cons, List.sum_cons, sgat, sval] at ih ⊢
    rw [sacc_ok, Int.mul_add]
    omega
/-- no more than this -/
def sup (k : sK) : List (Nat × Int) → Option Int
  | [] => some 0
  | (n, c) :: r => (match k.1[n]?, sup k r with
    | some iv, some z => some ((if 0 ≤ c then c * iv.2 else c * iv.1) + z)
    | _, _ => if c = 0 then sup k r else none)
theorem sup_ok {k : sK} {σ : Nat → Int} {h : zH} (hk : sKok k σ h) : ∀ (L : List (Nat × Int)) (z : Int), sup k L = some z → slv1 σ L ≤ z
  | [], z, h => by
    cases h
    exact Int.le_refl _
  | (n, c) :: r, z, h => by
    simp only [sup] at h
    have e0 : slv1 σ ((n, c) :: r) = c * σ n + slv1 σ r := by simp [slv1]
    split at h
    · rename_i iv z' e1 e2
      have ih := sup_ok hk r z' e2
      have hv := hk.1 n iv e1
      cases h
      rw [e0]
      split
      · rename_i hc
        have := Int.mul_le_mul_of_nonneg_left hv.2 hc
        omega
      · rename_i hc
        have h3 : -c * iv.1 ≤ -c * σ n := Int.mul_le_mul_of_nonneg_left hv.1 (by omega)
        simp only [Int.neg_mul] at h3
        omega
    · split at h
      · rename_i hc
        have ih := sup_ok hk r z h
        rw [e0, hc, Int.zero_mul]
        omega
      · cases h
def sle (k : sK) (L : List (Int × sF)) (z : Int) : Bool := match sup k (sgat L).1 with
  | some u => decide (u + (sgat L).2 ≤ z)
  | none => false
theorem sle_ok {k : sK} {σ : Nat → Int} {h : zH} (hk : sKok k σ h) {L : List (Int × sF)} {z : Int} (hc : sle k L z = true) : ssum σ L ≤ z := by
  unfold sle at hc
  split at hc
  · rename_i u e
    have h1 := sup_ok hk _ u e
    have h2 := of_decide_eq_true hc
    rw [sgat_ok]
    omega
  · cases hc

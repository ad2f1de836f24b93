def sOR (n : Nat) (σ : Nat → Int) : Option sV → Option Value → Prop
  | none, r => r = none
  | some a, r => ∃ v, r = some v ∧ sVR n σ a v
def sRel (w : sW) (md : sM) (h0 : zH) (n0 : Nat) (σ0 : Nat → Int) (l : sL) (st : List sV) (k : sK) (σ : Nat → Int) (l' : zL) (st' : List Value) (h : zH) : Prop :=
  sKok k σ h ∧ sLR k.1.length σ l l' ∧ sSR k.1.length σ st st' ∧ sInv w h ∧ sMd md h0 h ∧ sX n0 σ0 k.1.length σ
theorem swd_ok {n : Nat} {σ : Nat → Int} : ∀ {a : List sV} {v : List Value}, sSR n σ a v → zwd v = swd a
  | [], _, h => by
    have h : _ = [] := h
    subst h
    rfl
  | a :: r, _, ⟨v, t, e, h1, h2⟩ => by
    subst e
    have ih := swd_ok h2
    simp only [zwd, swd, List.map_cons, List.sum_cons] at ih ⊢
    rw [ih, scat_ok h1]
theorem sSR.tk {n : Nat} {σ : Nat → Int} : ∀ (m : Nat) {a : List sV} {v : List Value}, sSR n σ a v → sSR n σ (a.take m) (v.take m) ∧ sSR n σ (a.drop m) (v.drop m)
  | 0, _, _, h => ⟨rfl, h⟩
  | m + 1, [], _, h => by
    have h : _ = [] := h
    subst h
    exact ⟨rfl, rfl⟩
  | m + 1, _ :: _, _, ⟨v, t, e, h1, h2⟩ => by
    subst e
    have ih := sSR.tk m h2
    exact ⟨⟨v, _, rfl, h1, ih.1⟩, ih.2⟩
theorem sSR.len {n : Nat} {σ : Nat → Int} : ∀ {a : List sV} {v : List Value}, sSR n σ a v → v.length = a.length
  | [], _, h => by
    have h : _ = [] := h
    subst h
    rfl
  | _ :: _, _, ⟨v, t, e, h1, h2⟩ => by
    subst e
    simp only [List.length_cons, sSR.len h2]
theorem sSR.app {n : Nat} {σ : Nat → Int} : ∀ {a b : List sV} {v u : List Value}, sSR n σ a v → sSR n σ b u → sSR n σ (a ++ b) (v ++ u)
  | [], _, _, _, h, hb => by
    have h : _ = [] := h
    subst h
    exact hb
  | _ :: _, _, _, _, ⟨v, t, e, h1, h2⟩, hb => by
    subst e
    exact ⟨v, _, rfl, h1, sSR.app h2 hb⟩
theorem sSR.rev {n : Nat} {σ : Nat → Int} : ∀ {a : List sV} {v : List Value}, sSR n σ a v → sSR n σ a.reverse v.reverse
  | [], _, h => by
    have h : _ = [] := h
    subst h
    exact rfl
  | _ :: _, _, ⟨v, t, e, h1, h2⟩ => by
    subst e
    simp only [List.reverse_cons]
    exact sSR.app (sSR.rev h2) ⟨v, _, rfl, h1, rfl⟩
theorem sOR.tl {n : Nat} {σ : Nat → Int} : ∀ {a : Option sV} {v : Option Value}, sOR n σ a v → sSR n σ a.toList v.toList
  | none, _, h => by
    have h : _ = none := h
    subst h
    exact rfl
  | some _, _, ⟨v, e, h1⟩ => by
    subst e
    exact ⟨v, _, rfl, h1, rfl⟩
theorem sbix {k : sK} {σ : Nat → Int} {h : zH} {f : sF} {j : Int32} {n : Nat} (hk : sKok k σ h) (hj : sR k.1.length σ f j.toInt) (h1 : 0 ≤ (six k f).1) (h2 : (six k f).2 < (n : Int)) : ¬ (j < 0 ∨ n ≤ j.toNatClampNeg) := by
  have a := six_ok hk hj
  intro hc
  rcases hc with hc | hc
  · have := Int32.lt_iff_toInt_lt.mp hc
    rw [show (0 : Int32).toInt = 0 from by decide] at this
    omega
  · have e : j.toNatClampNeg = j.toInt.toNat := rfl
    omega
theorem sIvA {w : sW} {q n t : Nat} (h : w.1[q]? = some (t, n)) (ht : t ≠ 0) (k : Nat) : sIv w q k = sgAt (w.2.2.2.1 q) k := by
  unfold sIv
  rw [h]
  cases t with
  | zero => exact absurd rfl ht
  | succ t => rfl
theorem sIvO {w : sW} {q n : Nat} (h : w.1[q]? = some (0, n)) (k : Nat) : sIv w q k = w.2.2.1 q k := by
  unfold sIv
  rw [h]
  rfl
theorem s32r (e : Int) (h1 : sf32.1 ≤ e) (h2 : e ≤ sf32.2) : e.bmod (2 ^ 32) = e := by
  have h1 : -2147483648 ≤ e := h1
  have h2 : e ≤ 2147483647 := h2
  rw [Int.bmod_eq_of_le] <;> omega
theorem s64r (e : Int) (h1 : sf64.1 ≤ e) (h2 : e ≤ sf64.2) : e.bmod (2 ^ 64) = e := by
  have h1 : -9223372036854775808 ≤ e := h1
  have h2 : e ≤ 9223372036854775807 := h2
  rw [Int.bmod_eq_of_le] <;> omega
theorem s0n {y : Int32} (h : y.toInt ≠ 0) : ¬ y = 0 := fun e => h (by rw [e]; decide)
theorem s0n64 {y : Int64} (h : y.toInt ≠ 0) : ¬ y = 0 := fun e => h (by rw [e]; decide)
theorem srdA_ok {w : sW} {k : sK} {σ : Nat → Int} {h : zH} {q n t : Nat} {f : sF} {C : sF → sK → Bool} {x : Int32} (hc : srdA w k q f C = true) (hk : sKok k σ h) (hx : sR k.1.length σ f x.toInt) (h0 : 0 ≤ (six k f).1) (hw : w.1[q]? = some (t, n)) (ht : t ≠ 0) (hi : sInv w h) : sO k σ h C (h.2.1 q x.toNatClampNeg).toInt := by
  unfold srdA at hc
  split at hc
  · rename_i iv e
    have a := six_ok hk hx
    have ej : (sval σ f).toNat = x.toNatClampNeg := by
      rw [← hx.2]
      rfl
    have hv := hi.2.2.1 q x.toNatClampNeg
    rw [sIvA hw ht] at hv
    have hh := sgHu_ok e (k := x.toNatClampNeg) (by rw [← ej, ← hx.2]; omega) (by rw [← ej, ← hx.2]; omega)
    refine srd_ok hc hk hx.1 ej ?_
    have h9 := sirf_ok hk (q := q) hx.1 (by rw [← hx.2]; omega) w.2.2.2.2.1 iv hi.2.2.2 (by rw [ej]; omega)
    rw [ej] at h9
    exact h9
  · cases hc
theorem si2b (x : Int32) : -128 ≤ x.toInt8.toInt32.toInt ∧ x.toInt8.toInt32.toInt ≤ 127 := by
  rw [Int8.toInt_toInt32]
  have h1 := Int8.le_toInt x.toInt8
  have h2 := Int8.toInt_lt x.toInt8
  omega
theorem sbool {x : Int32} (h1 : 0 ≤ x.toInt) (h2 : x.toInt ≤ 1) : x = 0 ∨ x = 1 := by
  have h : x.toInt = 0 ∨ x.toInt = 1 := by omega
  rcases h with h | h
  · exact Or.inl (Int32.toInt_inj.mp (by rw [h]; decide))
  · exact Or.inr (Int32.toInt_inj.mp (by rw [h]; decide))
section SO
variable {w : sW} {md : sM} {M : zHd} {G : sG} {K : Option sV → sK → Bool} {C : Nat → sL → List sV → sK → Bool} {h0 : zH} {n0 : Nat} {σ0 : Nat → Int}
  {Gp : Nat → List Value → zH → (Option Value → zH → Prop) → Prop} {Kp : Option Value → zH → Prop} {Cp : Nat → Nat → Nat → zL → List Value → zH → Prop}
def sHC (w : sW) (md : sM) (h0 : zH) (n0 : Nat) (σ0 : Nat → Int) (C : Nat → sL → List sV → sK → Bool) (Cp : Nat → Nat → Nat → zL → List Value → zH → Prop) : Prop := ∀ pc l st k, C pc l st k = true → ∀ σ l' st' h, sRel w md h0 n0 σ0 l st k σ l' st' h → Cp 0 0 pc l' st' h
def sHK (w : sW) (md : sM) (h0 : zH) (n0 : Nat) (σ0 : Nat → Int) (K : Option sV → sK → Bool) (Kp : Option Value → zH → Prop) : Prop := ∀ r k, K r k = true → ∀ σ r' h, sKok k σ h → sOR k.1.length σ r r' → sInv w h → sMd md h0 h → sX n0 σ0 k.1.length σ → Kp r' h
def sHG (w : sW) (md : sM) (h0 : zH) (G : sG) (Gp : Nat → List Value → zH → (Option Value → zH → Prop) → Prop) : Prop := ∀ mi as k KB, G mi as k KB = true → ∀ σ as' h, sKok k σ h → sSR k.1.length σ as as' → sInv w h → sMd md h0 h → ∀ Kq : Option Value → zH → Prop, (∀ r k' σ' r' h', KB r k' = true → sKok k' σ' h' → sX k.1.length σ k'.1.length σ' → sOR k'.1.length σ' r r' → sInv w h' → sMd md h0 h' → Kq r' h') → Gp mi as' h Kq
theorem sbin (hC : sHC w md h0 n0 σ0 C Cp) {k : sK} {σ : Nat → Int} {l : sL} {l' : zL} {r : List sV} {t : List Value} {h : zH} {pc : Nat} {z : Int32} (ho : sO k σ h (fun f' k' => C pc l (.inl f' :: r) k') z.toInt) (hl : sLR k.1.length σ l l') (hs : sSR k.1.length σ r t) (hi : sInv w h) (hm : sMd md h0 h) (hb0 : sX n0 σ0 k.1.length σ) : Cp 0 0 pc l' (.int z :: t) h := by
  obtain ⟨f', k', σ', c, a, b, d⟩ := ho
  exact hC _ _ _ _ c σ' l' _ h ⟨a, hl.x b, ⟨_, _, rfl, ⟨z, rfl, d⟩, hs.x b⟩, hi, hm, hb0.tr b⟩
theorem sbinL (hC : sHC w md h0 n0 σ0 C Cp) {k : sK} {σ : Nat → Int} {l : sL} {l' : zL} {r : List sV} {t : List Value} {h : zH} {pc : Nat} {z : Int64} (ho : sO k σ h (fun f' k' => C pc l (slong f' :: r) k') z.toInt) (hl : sLR k.1.length σ l l') (hs : sSR k.1.length σ r t) (hi : sInv w h) (hm : sMd md h0 h) (hb0 : sX n0 σ0 k.1.length σ) : Cp 0 0 pc l' (.long z :: t) h := by
  obtain ⟨f', k', σ', c, a, b, d⟩ := ho
  exact hC _ _ _ _ c σ' l' _ h ⟨a, hl.x b, ⟨_, _, rfl, ⟨z, rfl, d⟩, hs.x b⟩, hi, hm, hb0.tr b⟩
theorem sbch (hC : sHC w md h0 n0 σ0 C Cp) {k : sK} {σ : Nat → Int} {l : sL} {l' : zL} {r : List sV} {t : List Value} {h : zH} {pc : Nat} (ho : sB k σ h (C pc l r)) (hl : sLR k.1.length σ l l') (hs : sSR k.1.length σ r t) (hi : sInv w h) (hm : sMd md h0 h) (hb0 : sX n0 σ0 k.1.length σ) : Cp 0 0 pc l' t h := by
  obtain ⟨k', c, a, e⟩ := ho
  exact hC _ _ _ _ c σ l' _ h ⟨a, by rw [e]; exact hl, by rw [e]; exact hs, hi, hm, by rw [e]; exact hb0⟩
theorem scall_ok (hC : sHC w md h0 n0 σ0 C Cp) (hG : sHG w md h0 G Gp) {k : sK} {σ : Nat → Int} {l : sL} {l' : zL} {as rest : List sV} {as' t : List Value} {h : zH} {pc mi : Nat} (hc : scall G C mi as rest pc l k = true) (hk : sKok k σ h) (hl : sLR k.1.length σ l l') (ha : sSR k.1.length σ as as') (hs : sSR k.1.length σ rest t) (hi : sInv w h) (hm : sMd md h0 h) (hb0 : sX n0 σ0 k.1.length σ) :
    (zwd t ≤ 8 ∧ 0 + zmc mi ≤ M.2.2.2.2.1 ∧ 0 + zms mi ≤ M.2.2.2.2.2) ∧ Gp mi as' h (fun r h' => Cp (0 + zmc mi) (0 + zms mi) (pc + 3) l' (r.toList ++ t) h') := by
  simp only [scall, Bool.and_eq_true, decide_eq_true_eq] at hc
  obtain ⟨c1, c2, c3, c4⟩ := hc
  refine ⟨⟨by rw [swd_ok hs]; exact c1, by rw [c2]; exact Nat.zero_le _, by rw [c3]; exact Nat.zero_le _⟩, ?_⟩
  refine hG _ _ _ _ c4 σ as' h hk ha hi hm _ (fun r k' σ' r' h' hb hk' hx hr hi' hm' => ?_)
  rw [c2, c3]
  exact hC _ _ _ _ hb σ' l' _ h' ⟨hk', hl.x hx, sSR.app hr.tl (hs.x hx), hi', hm', hb0.tr hx⟩
theorem so_iconst {n : Int} (hC : sHC w md h0 n0 σ0 C Cp) (hG : sHG w md h0 G Gp) (hK : sHK w md h0 n0 σ0 K Kp) {pc : Nat} {l : sL} {st : List sV} {k : sK} {ex : List Nat} {σ : Nat → Int} {l' : zL} {st' : List Value} {h : zH} (hc : sins w md M G K C pc l st k ex (.iconst n) = true) (hr : sRel w md h0 n0 σ0 l st k σ l' st' h) : zins (ρ := Prop) False M false none Gp Kp Cp 0 0 pc l' st' h ex (.iconst n) := by
  obtain ⟨hk, hl, hs, hi, hm, hb0⟩ := hr
  simp only [sins] at hc
  exact hC _ _ _ _ hc σ l' _ h ⟨hk, hl, ⟨_, _, rfl, ⟨_, rfl, trivial, rfl⟩, hs⟩, hi, hm, hb0⟩
theorem so_bipush {n : Int} (hC : sHC w md h0 n0 σ0 C Cp) (hG : sHG w md h0 G Gp) (hK : sHK w md h0 n0 σ0 K Kp) {pc : Nat} {l : sL} {st : List sV} {k : sK} {ex : List Nat} {σ : Nat → Int} {l' : zL} {st' : List Value} {h : zH} (hc : sins w md M G K C pc l st k ex (.bipush n) = true) (hr : sRel w md h0 n0 σ0 l st k σ l' st' h) : zins (ρ := Prop) False M false none Gp Kp Cp 0 0 pc l' st' h ex (.bipush n) := by
  obtain ⟨hk, hl, hs, hi, hm, hb0⟩ := hr
  simp only [sins] at hc
  exact hC _ _ _ _ hc σ l' _ h ⟨hk, hl, ⟨_, _, rfl, ⟨_, rfl, trivial, rfl⟩, hs⟩, hi, hm, hb0⟩
theorem so_sipush {n : Int} (hC : sHC w md h0 n0 σ0 C Cp) (hG : sHG w md h0 G Gp) (hK : sHK w md h0 n0 σ0 K Kp) {pc : Nat} {l : sL} {st : List sV} {k : sK} {ex : List Nat} {σ : Nat → Int} {l' : zL} {st' : List Value} {h : zH} (hc : sins w md M G K C pc l st k ex (.sipush n) = true) (hr : sRel w md h0 n0 σ0 l st k σ l' st' h) : zins (ρ := Prop) False M false none Gp Kp Cp 0 0 pc l' st' h ex (.sipush n) := by
  obtain ⟨hk, hl, hs, hi, hm, hb0⟩ := hr
  simp only [sins] at hc
  exact hC _ _ _ _ hc σ l' _ h ⟨hk, hl, ⟨_, _, rfl, ⟨_, rfl, trivial, rfl⟩, hs⟩, hi, hm, hb0⟩
theorem so_lconst {n : Fin 2} (hC : sHC w md h0 n0 σ0 C Cp) (hG : sHG w md h0 G Gp) (hK : sHK w md h0 n0 σ0 K Kp) {pc : Nat} {l : sL} {st : List sV} {k : sK} {ex : List Nat} {σ : Nat → Int} {l' : zL} {st' : List Value} {h : zH} (hc : sins w md M G K C pc l st k ex (.lconst n) = true) (hr : sRel w md h0 n0 σ0 l st k σ l' st' h) : zins (ρ := Prop) False M false none Gp Kp Cp 0 0 pc l' st' h ex (.lconst n) := by
  obtain ⟨hk, hl, hs, hi, hm, hb0⟩ := hr
  simp only [sins] at hc
  exact hC _ _ _ _ hc σ l' _ h ⟨hk, hl, ⟨_, _, rfl, ⟨_, rfl, trivial, rfl⟩, hs⟩, hi, hm, hb0⟩
theorem so_ldc {n : Nat} (hC : sHC w md h0 n0 σ0 C Cp) (hG : sHG w md h0 G Gp) (hK : sHK w md h0 n0 σ0 K Kp) {pc : Nat} {l : sL} {st : List sV} {k : sK} {ex : List Nat} {σ : Nat → Int} {l' : zL} {st' : List Value} {h : zH} (hc : sins w md M G K C pc l st k ex (.ldc n) = true) (hr : sRel w md h0 n0 σ0 l st k σ l' st' h) : zins (ρ := Prop) False M false none Gp Kp Cp 0 0 pc l' st' h ex (.ldc n) := by
  obtain ⟨hk, hl, hs, hi, hm, hb0⟩ := hr
  simp only [sins] at hc
  split at hc
  · exact hC _ _ _ _ hc σ l' _ h ⟨hk, hl, ⟨_, _, rfl, ⟨_, rfl, trivial, rfl⟩, hs⟩, hi, hm, hb0⟩
  · cases hc
theorem so_ldc_w {n : Nat} (hC : sHC w md h0 n0 σ0 C Cp) (hG : sHG w md h0 G Gp) (hK : sHK w md h0 n0 σ0 K Kp) {pc : Nat} {l : sL} {st : List sV} {k : sK} {ex : List Nat} {σ : Nat → Int} {l' : zL} {st' : List Value} {h : zH} (hc : sins w md M G K C pc l st k ex (.ldc_w n) = true) (hr : sRel w md h0 n0 σ0 l st k σ l' st' h) : zins (ρ := Prop) False M false none Gp Kp Cp 0 0 pc l' st' h ex (.ldc_w n) := by
  obtain ⟨hk, hl, hs, hi, hm, hb0⟩ := hr
  simp only [sins] at hc
  split at hc
  · exact hC _ _ _ _ hc σ l' _ h ⟨hk, hl, ⟨_, _, rfl, ⟨_, rfl, trivial, rfl⟩, hs⟩, hi, hm, hb0⟩
  · cases hc
theorem so_ldc2_w {n : Nat} (hC : sHC w md h0 n0 σ0 C Cp) (hG : sHG w md h0 G Gp) (hK : sHK w md h0 n0 σ0 K Kp) {pc : Nat} {l : sL} {st : List sV} {k : sK} {ex : List Nat} {σ : Nat → Int} {l' : zL} {st' : List Value} {h : zH} (hc : sins w md M G K C pc l st k ex (.ldc2_w n) = true) (hr : sRel w md h0 n0 σ0 l st k σ l' st' h) : zins (ρ := Prop) False M false none Gp Kp Cp 0 0 pc l' st' h ex (.ldc2_w n) := by
  obtain ⟨hk, hl, hs, hi, hm, hb0⟩ := hr
  simp only [sins] at hc
  split at hc
  · exact hC _ _ _ _ hc σ l' _ h ⟨hk, hl, ⟨_, _, rfl, ⟨_, rfl, trivial, rfl⟩, hs⟩, hi, hm, hb0⟩
  · cases hc
theorem so_iload {j : Nat} (hC : sHC w md h0 n0 σ0 C Cp) (hG : sHG w md h0 G Gp) (hK : sHK w md h0 n0 σ0 K Kp) {pc : Nat} {l : sL} {st : List sV} {k : sK} {ex : List Nat} {σ : Nat → Int} {l' : zL} {st' : List Value} {h : zH} (hc : sins w md M G K C pc l st k ex (.iload j) = true) (hr : sRel w md h0 n0 σ0 l st k σ l' st' h) : zins (ρ := Prop) False M false none Gp Kp Cp 0 0 pc l' st' h ex (.iload j) := by
  obtain ⟨hk, hl, hs, hi, hm, hb0⟩ := hr
  simp only [sins] at hc
  split at hc
  · rename_i f hf
    obtain ⟨v, e1, x, rfl, hx⟩ := slget_ok hl hf
    simp only [zins, e1]
    exact hC _ _ _ _ hc σ l' _ h ⟨hk, hl, ⟨_, _, rfl, ⟨x, rfl, hx⟩, hs⟩, hi, hm, hb0⟩
  · cases hc
theorem so_iload_n {j : Fin 4} (hC : sHC w md h0 n0 σ0 C Cp) (hG : sHG w md h0 G Gp) (hK : sHK w md h0 n0 σ0 K Kp) {pc : Nat} {l : sL} {st : List sV} {k : sK} {ex : List Nat} {σ : Nat → Int} {l' : zL} {st' : List Value} {h : zH} (hc : sins w md M G K C pc l st k ex (.iload_n j) = true) (hr : sRel w md h0 n0 σ0 l st k σ l' st' h) : zins (ρ := Prop) False M false none Gp Kp Cp 0 0 pc l' st' h ex (.iload_n j) := by
  obtain ⟨hk, hl, hs, hi, hm, hb0⟩ := hr
  simp only [sins] at hc
  split at hc
  · rename_i f hf
    obtain ⟨v, e1, x, rfl, hx⟩ := slget_ok hl hf
    simp only [zins, e1]
    exact hC _ _ _ _ hc σ l' _ h ⟨hk, hl, ⟨_, _, rfl, ⟨x, rfl, hx⟩, hs⟩, hi, hm, hb0⟩
  · cases hc
theorem so_lload {j : Nat} (hC : sHC w md h0 n0 σ0 C Cp) (hG : sHG w md h0 G Gp) (hK : sHK w md h0 n0 σ0 K Kp) {pc : Nat} {l : sL} {st : List sV} {k : sK} {ex : List Nat} {σ : Nat → Int} {l' : zL} {st' : List Value} {h : zH} (hc : sins w md M G K C pc l st k ex (.lload j) = true) (hr : sRel w md h0 n0 σ0 l st k σ l' st' h) : zins (ρ := Prop) False M false none Gp Kp Cp 0 0 pc l' st' h ex (.lload j) := by
  obtain ⟨hk, hl, hs, hi, hm, hb0⟩ := hr
  simp only [sins] at hc
  split at hc
  · rename_i f hf
    obtain ⟨v, e1, x, rfl, hx⟩ := slget_ok hl hf
    simp only [zins, e1]
    exact hC _ _ _ _ hc σ l' _ h ⟨hk, hl, ⟨_, _, rfl, ⟨x, rfl, hx⟩, hs⟩, hi, hm, hb0⟩
  · cases hc
theorem so_lload_n {j : Fin 4} (hC : sHC w md h0 n0 σ0 C Cp) (hG : sHG w md h0 G Gp) (hK : sHK w md h0 n0 σ0 K Kp) {pc : Nat} {l : sL} {st : List sV} {k : sK} {ex : List Nat} {σ : Nat → Int} {l' : zL} {st' : List Value} {h : zH} (hc : sins w md M G K C pc l st k ex (.lload_n j) = true) (hr : sRel w md h0 n0 σ0 l st k σ l' st' h) : zins (ρ := Prop) False M false none Gp Kp Cp 0 0 pc l' st' h ex (.lload_n j) := by
  obtain ⟨hk, hl, hs, hi, hm, hb0⟩ := hr
  simp only [sins] at hc
  split at hc
  · rename_i f hf
    obtain ⟨v, e1, x, rfl, hx⟩ := slget_ok hl hf
    simp only [zins, e1]
    exact hC _ _ _ _ hc σ l' _ h ⟨hk, hl, ⟨_, _, rfl, ⟨x, rfl, hx⟩, hs⟩, hi, hm, hb0⟩
  · cases hc
theorem so_aload {j : Nat} (hC : sHC w md h0 n0 σ0 C Cp) (hG : sHG w md h0 G Gp) (hK : sHK w md h0 n0 σ0 K Kp) {pc : Nat} {l : sL} {st : List sV} {k : sK} {ex : List Nat} {σ : Nat → Int} {l' : zL} {st' : List Value} {h : zH} (hc : sins w md M G K C pc l st k ex (.aload j) = true) (hr : sRel w md h0 n0 σ0 l st k σ l' st' h) : zins (ρ := Prop) False M false none Gp Kp Cp 0 0 pc l' st' h ex (.aload j) := by
  obtain ⟨hk, hl, hs, hi, hm, hb0⟩ := hr
  simp only [sins] at hc
  split at hc
  · rename_i q hf
    obtain ⟨v, e1, e2⟩ := slget_ok hl hf
    have e2 : v = .ref q := e2
    subst e2
    simp only [zins, e1]
    exact hC _ _ _ _ hc σ l' _ h ⟨hk, hl, ⟨_, _, rfl, rfl, hs⟩, hi, hm, hb0⟩
  · cases hc
theorem so_aload_n {j : Fin 4} (hC : sHC w md h0 n0 σ0 C Cp) (hG : sHG w md h0 G Gp) (hK : sHK w md h0 n0 σ0 K Kp) {pc : Nat} {l : sL} {st : List sV} {k : sK} {ex : List Nat} {σ : Nat → Int} {l' : zL} {st' : List Value} {h : zH} (hc : sins w md M G K C pc l st k ex (.aload_n j) = true) (hr : sRel w md h0 n0 σ0 l st k σ l' st' h) : zins (ρ := Prop) False M false none Gp Kp Cp 0 0 pc l' st' h ex (.aload_n j) := by
  obtain ⟨hk, hl, hs, hi, hm, hb0⟩ := hr
  simp only [sins] at hc
  split at hc
  · rename_i q hf
    obtain ⟨v, e1, e2⟩ := slget_ok hl hf
    have e2 : v = .ref q := e2
    subst e2
    simp only [zins, e1]
    exact hC _ _ _ _ hc σ l' _ h ⟨hk, hl, ⟨_, _, rfl, rfl, hs⟩, hi, hm, hb0⟩
  · cases hc
theorem so_istore {j : Nat} (hC : sHC w md h0 n0 σ0 C Cp) (hG : sHG w md h0 G Gp) (hK : sHK w md h0 n0 σ0 K Kp) {pc : Nat} {l : sL} {st : List sV} {k : sK} {ex : List Nat} {σ : Nat → Int} {l' : zL} {st' : List Value} {h : zH} (hc : sins w md M G K C pc l st k ex (.istore j) = true) (hr : sRel w md h0 n0 σ0 l st k σ l' st' h) : zins (ρ := Prop) False M false none Gp Kp Cp 0 0 pc l' st' h ex (.istore j) := by
  obtain ⟨hk, hl, hs, hi, hm, hb0⟩ := hr
  simp only [sins] at hc
  split at hc
  · obtain ⟨_, t, rfl, ⟨x, rfl, hx⟩, ht⟩ := hs
    split at hc
    · rename_i hj
      simp only [zins]
      rw [if_pos hj]
      exact hC _ _ _ _ hc σ _ _ h ⟨hk, slset_ok hl ⟨x, rfl, hx⟩, ht, hi, hm, hb0⟩
    · cases hc
  · cases hc
theorem so_istore_n {j : Fin 4} (hC : sHC w md h0 n0 σ0 C Cp) (hG : sHG w md h0 G Gp) (hK : sHK w md h0 n0 σ0 K Kp) {pc : Nat} {l : sL} {st : List sV} {k : sK} {ex : List Nat} {σ : Nat → Int} {l' : zL} {st' : List Value} {h : zH} (hc : sins w md M G K C pc l st k ex (.istore_n j) = true) (hr : sRel w md h0 n0 σ0 l st k σ l' st' h) : zins (ρ := Prop) False M false none Gp Kp Cp 0 0 pc l' st' h ex (.istore_n j) := by
  obtain ⟨hk, hl, hs, hi, hm, hb0⟩ := hr
  simp only [sins] at hc
  split at hc
  · obtain ⟨_, t, rfl, ⟨x, rfl, hx⟩, ht⟩ := hs
    split at hc
    · rename_i hj
      simp only [zins]
      rw [if_pos hj]
      exact hC _ _ _ _ hc σ _ _ h ⟨hk, slset_ok hl ⟨x, rfl, hx⟩, ht, hi, hm, hb0⟩
    · cases hc
  · cases hc
theorem so_lstore {j : Nat} (hC : sHC w md h0 n0 σ0 C Cp) (hG : sHG w md h0 G Gp) (hK : sHK w md h0 n0 σ0 K Kp) {pc : Nat} {l : sL} {st : List sV} {k : sK} {ex : List Nat} {σ : Nat → Int} {l' : zL} {st' : List Value} {h : zH} (hc : sins w md M G K C pc l st k ex (.lstore j) = true) (hr : sRel w md h0 n0 σ0 l st k σ l' st' h) : zins (ρ := Prop) False M false none Gp Kp Cp 0 0 pc l' st' h ex (.lstore j) := by
  obtain ⟨hk, hl, hs, hi, hm, hb0⟩ := hr
  simp only [sins] at hc
  split at hc
  · obtain ⟨_, t, rfl, ⟨x, rfl, hx⟩, ht⟩ := hs
    split at hc
    · rename_i hj
      simp only [zins]
      rw [if_pos hj]
      exact hC _ _ _ _ hc σ _ _ h ⟨hk, slset2_ok hl ⟨x, rfl, hx⟩, ht, hi, hm, hb0⟩
    · cases hc
  · cases hc
theorem so_lstore_n {j : Fin 4} (hC : sHC w md h0 n0 σ0 C Cp) (hG : sHG w md h0 G Gp) (hK : sHK w md h0 n0 σ0 K Kp) {pc : Nat} {l : sL} {st : List sV} {k : sK} {ex : List Nat} {σ : Nat → Int} {l' : zL} {st' : List Value} {h : zH} (hc : sins w md M G K C pc l st k ex (.lstore_n j) = true) (hr : sRel w md h0 n0 σ0 l st k σ l' st' h) : zins (ρ := Prop) False M false none Gp Kp Cp 0 0 pc l' st' h ex (.lstore_n j) := by
  obtain ⟨hk, hl, hs, hi, hm, hb0⟩ := hr
  simp only [sins] at hc
  split at hc
  · obtain ⟨_, t, rfl, ⟨x, rfl, hx⟩, ht⟩ := hs
    split at hc
    · rename_i hj
      simp only [zins]
      rw [if_pos hj]
      exact hC _ _ _ _ hc σ _ _ h ⟨hk, slset2_ok hl ⟨x, rfl, hx⟩, ht, hi, hm, hb0⟩
    · cases hc
  · cases hc
theorem so_astore {j : Nat} (hC : sHC w md h0 n0 σ0 C Cp) (hG : sHG w md h0 G Gp) (hK : sHK w md h0 n0 σ0 K Kp) {pc : Nat} {l : sL} {st : List sV} {k : sK} {ex : List Nat} {σ : Nat → Int} {l' : zL} {st' : List Value} {h : zH} (hc : sins w md M G K C pc l st k ex (.astore j) = true) (hr : sRel w md h0 n0 σ0 l st k σ l' st' h) : zins (ρ := Prop) False M false none Gp Kp Cp 0 0 pc l' st' h ex (.astore j) := by
  obtain ⟨hk, hl, hs, hi, hm, hb0⟩ := hr
  simp only [sins] at hc
  split at hc
  · obtain ⟨v, t, rfl, e2, ht⟩ := hs
    have e2 : v = _ := e2
    subst e2
    split at hc
    · rename_i hj
      simp only [zins]
      rw [if_pos hj]
      exact hC _ _ _ _ hc σ _ _ h ⟨hk, slset_ok hl rfl, ht, hi, hm, hb0⟩
    · cases hc
  · cases hc
theorem so_astore_n {j : Fin 4} (hC : sHC w md h0 n0 σ0 C Cp) (hG : sHG w md h0 G Gp) (hK : sHK w md h0 n0 σ0 K Kp) {pc : Nat} {l : sL} {st : List sV} {k : sK} {ex : List Nat} {σ : Nat → Int} {l' : zL} {st' : List Value} {h : zH} (hc : sins w md M G K C pc l st k ex (.astore_n j) = true) (hr : sRel w md h0 n0 σ0 l st k σ l' st' h) : zins (ρ := Prop) False M false none Gp Kp Cp 0 0 pc l' st' h ex (.astore_n j) := by
  obtain ⟨hk, hl, hs, hi, hm, hb0⟩ := hr
  simp only [sins] at hc
  split at hc
  · obtain ⟨v, t, rfl, e2, ht⟩ := hs
    have e2 : v = _ := e2
    subst e2
    split at hc
    · rename_i hj
      simp only [zins]
      rw [if_pos hj]
      exact hC _ _ _ _ hc σ _ _ h ⟨hk, slset_ok hl rfl, ht, hi, hm, hb0⟩
    · cases hc
  · cases hc
theorem so_iinc {j : Nat} {n : Int} (hC : sHC w md h0 n0 σ0 C Cp) (hG : sHG w md h0 G Gp) (hK : sHK w md h0 n0 σ0 K Kp) {pc : Nat} {l : sL} {st : List sV} {k : sK} {ex : List Nat} {σ : Nat → Int} {l' : zL} {st' : List Value} {h : zH} (hc : sins w md M G K C pc l st k ex (.iinc j n) = true) (hr : sRel w md h0 n0 σ0 l st k σ l' st' h) : zins (ρ := Prop) False M false none Gp Kp Cp 0 0 pc l' st' h ex (.iinc j n) := by
  obtain ⟨hk, hl, hs, hi, hm, hb0⟩ := hr
  simp only [sins] at hc
  split at hc
  · rename_i f hf
    obtain ⟨v, e1, x, rfl, hx⟩ := slget_ok hl hf
    split at hc
    · rename_i hj
      simp only [zins, e1]
      rw [if_pos hj]
      obtain ⟨f', k', σ', c, a, b, d⟩ := sadd_ok (z := (x + Int32.ofInt n).toInt) (y := (Int32.ofInt n).toInt) hc hk hx ⟨trivial, rfl⟩ (fun a b => by rw [Int32.toInt_add]; exact s32r _ a b) (sf32_ok _)
      exact hC _ _ _ _ c σ' _ _ h ⟨a, slset_ok (hl.x b) ⟨_, rfl, d⟩, hs.x b, hi, hm, hb0.tr b⟩
    · cases hc
  · cases hc
theorem so_iadd (hC : sHC w md h0 n0 σ0 C Cp) (hG : sHG w md h0 G Gp) (hK : sHK w md h0 n0 σ0 K Kp) {pc : Nat} {l : sL} {st : List sV} {k : sK} {ex : List Nat} {σ : Nat → Int} {l' : zL} {st' : List Value} {h : zH} (hc : sins w md M G K C pc l st k ex (.iadd) = true) (hr : sRel w md h0 n0 σ0 l st k σ l' st' h) : zins (ρ := Prop) False M false none Gp Kp Cp 0 0 pc l' st' h ex (.iadd) := by
  obtain ⟨hk, hl, hs, hi, hm, hb0⟩ := hr
  simp only [sins] at hc
  split at hc
  · obtain ⟨_, _, rfl, ⟨y, rfl, hy⟩, _, t, rfl, ⟨x, rfl, hx⟩, ht⟩ := hs
    exact sbin hC (sadd_ok hc hk hx hy (fun a b => by rw [Int32.toInt_add]; exact s32r _ a b) (sf32_ok _)) hl ht hi hm hb0
  · cases hc
theorem so_isub (hC : sHC w md h0 n0 σ0 C Cp) (hG : sHG w md h0 G Gp) (hK : sHK w md h0 n0 σ0 K Kp) {pc : Nat} {l : sL} {st : List sV} {k : sK} {ex : List Nat} {σ : Nat → Int} {l' : zL} {st' : List Value} {h : zH} (hc : sins w md M G K C pc l st k ex (.isub) = true) (hr : sRel w md h0 n0 σ0 l st k σ l' st' h) : zins (ρ := Prop) False M false none Gp Kp Cp 0 0 pc l' st' h ex (.isub) := by
  obtain ⟨hk, hl, hs, hi, hm, hb0⟩ := hr
  simp only [sins] at hc
  split at hc
  · obtain ⟨_, _, rfl, ⟨y, rfl, hy⟩, _, t, rfl, ⟨x, rfl, hx⟩, ht⟩ := hs
    exact sbin hC (ssub_ok hc hk hx hy (fun a b => by rw [Int32.toInt_sub]; exact s32r _ a b) (sf32_ok _)) hl ht hi hm hb0
  · cases hc
theorem so_imul (hC : sHC w md h0 n0 σ0 C Cp) (hG : sHG w md h0 G Gp) (hK : sHK w md h0 n0 σ0 K Kp) {pc : Nat} {l : sL} {st : List sV} {k : sK} {ex : List Nat} {σ : Nat → Int} {l' : zL} {st' : List Value} {h : zH} (hc : sins w md M G K C pc l st k ex (.imul) = true) (hr : sRel w md h0 n0 σ0 l st k σ l' st' h) : zins (ρ := Prop) False M false none Gp Kp Cp 0 0 pc l' st' h ex (.imul) := by
  obtain ⟨hk, hl, hs, hi, hm, hb0⟩ := hr
  simp only [sins] at hc
  split at hc
  · obtain ⟨_, _, rfl, ⟨y, rfl, hy⟩, _, t, rfl, ⟨x, rfl, hx⟩, ht⟩ := hs
    exact sbin hC ((smul_ok hc hk hx hy (fun a b => by rw [Int32.toInt_mul]; exact s32r _ a b) (sf32_ok _)).opd (by decide) hk hx hy (sgfn6 x y)) hl ht hi hm hb0
  · cases hc
theorem so_iand (hC : sHC w md h0 n0 σ0 C Cp) (hG : sHG w md h0 G Gp) (hK : sHK w md h0 n0 σ0 K Kp) {pc : Nat} {l : sL} {st : List sV} {k : sK} {ex : List Nat} {σ : Nat → Int} {l' : zL} {st' : List Value} {h : zH} (hc : sins w md M G K C pc l st k ex (.iand) = true) (hr : sRel w md h0 n0 σ0 l st k σ l' st' h) : zins (ρ := Prop) False M false none Gp Kp Cp 0 0 pc l' st' h ex (.iand) := by
  obtain ⟨hk, hl, hs, hi, hm, hb0⟩ := hr
  simp only [sins] at hc
  split at hc
  · obtain ⟨_, _, rfl, ⟨y, rfl, hy⟩, _, t, rfl, ⟨x, rfl, hx⟩, ht⟩ := hs
    exact sbin hC ((sand_ok hc hk hx hy).opd (by decide) hk hx hy (sgfn2 x y)) hl ht hi hm hb0
  · cases hc
theorem so_ior (hC : sHC w md h0 n0 σ0 C Cp) (hG : sHG w md h0 G Gp) (hK : sHK w md h0 n0 σ0 K Kp) {pc : Nat} {l : sL} {st : List sV} {k : sK} {ex : List Nat} {σ : Nat → Int} {l' : zL} {st' : List Value} {h : zH} (hc : sins w md M G K C pc l st k ex (.ior) = true) (hr : sRel w md h0 n0 σ0 l st k σ l' st' h) : zins (ρ := Prop) False M false none Gp Kp Cp 0 0 pc l' st' h ex (.ior) := by
  obtain ⟨hk, hl, hs, hi, hm, hb0⟩ := hr
  simp only [sins] at hc
  split at hc
  · obtain ⟨_, _, rfl, ⟨y, rfl, hy⟩, _, t, rfl, ⟨x, rfl, hx⟩, ht⟩ := hs
    exact sbin hC ((snew_ok hc hk (sf32_ok _).1 (sf32_ok _).2).opd (by decide) hk hx hy (sgfn0 x y)) hl ht hi hm hb0
  · cases hc
theorem so_ixor (hC : sHC w md h0 n0 σ0 C Cp) (hG : sHG w md h0 G Gp) (hK : sHK w md h0 n0 σ0 K Kp) {pc : Nat} {l : sL} {st : List sV} {k : sK} {ex : List Nat} {σ : Nat → Int} {l' : zL} {st' : List Value} {h : zH} (hc : sins w md M G K C pc l st k ex (.ixor) = true) (hr : sRel w md h0 n0 σ0 l st k σ l' st' h) : zins (ρ := Prop) False M false none Gp Kp Cp 0 0 pc l' st' h ex (.ixor) := by
  obtain ⟨hk, hl, hs, hi, hm, hb0⟩ := hr
  simp only [sins] at hc
  split at hc
  · obtain ⟨_, _, rfl, ⟨y, rfl, hy⟩, _, t, rfl, ⟨x, rfl, hx⟩, ht⟩ := hs
    exact sbin hC ((snew_ok hc hk (sf32_ok _).1 (sf32_ok _).2).opd (by decide) hk hx hy (sgfn1 x y)) hl ht hi hm hb0
  · cases hc
theorem so_ishl (hC : sHC w md h0 n0 σ0 C Cp) (hG : sHG w md h0 G Gp) (hK : sHK w md h0 n0 σ0 K Kp) {pc : Nat} {l : sL} {st : List sV} {k : sK} {ex : List Nat} {σ : Nat → Int} {l' : zL} {st' : List Value} {h : zH} (hc : sins w md M G K C pc l st k ex (.ishl) = true) (hr : sRel w md h0 n0 σ0 l st k σ l' st' h) : zins (ρ := Prop) False M false none Gp Kp Cp 0 0 pc l' st' h ex (.ishl) := by
  obtain ⟨hk, hl, hs, hi, hm, hb0⟩ := hr
  simp only [sins] at hc
  split at hc
  · obtain ⟨_, _, rfl, ⟨y, rfl, hy⟩, _, t, rfl, ⟨x, rfl, hx⟩, ht⟩ := hs
    exact sbin hC ((snew_ok hc hk (sf32_ok _).1 (sf32_ok _).2).opd (by decide) hk hx hy (sgfn3 x y)) hl ht hi hm hb0
  · cases hc
theorem so_ishr (hC : sHC w md h0 n0 σ0 C Cp) (hG : sHG w md h0 G Gp) (hK : sHK w md h0 n0 σ0 K Kp) {pc : Nat} {l : sL} {st : List sV} {k : sK} {ex : List Nat} {σ : Nat → Int} {l' : zL} {st' : List Value} {h : zH} (hc : sins w md M G K C pc l st k ex (.ishr) = true) (hr : sRel w md h0 n0 σ0 l st k σ l' st' h) : zins (ρ := Prop) False M false none Gp Kp Cp 0 0 pc l' st' h ex (.ishr) := by
  obtain ⟨hk, hl, hs, hi, hm, hb0⟩ := hr
  simp only [sins] at hc
  split at hc
  · obtain ⟨_, _, rfl, ⟨y, rfl, hy⟩, _, t, rfl, ⟨x, rfl, hx⟩, ht⟩ := hs
    exact sbin hC ((snew_ok hc hk (sf32_ok _).1 (sf32_ok _).2).opd (by decide) hk hx hy (sgfn4 x y)) hl ht hi hm hb0
  · cases hc
theorem so_iushr (hC : sHC w md h0 n0 σ0 C Cp) (hG : sHG w md h0 G Gp) (hK : sHK w md h0 n0 σ0 K Kp) {pc : Nat} {l : sL} {st : List sV} {k : sK} {ex : List Nat} {σ : Nat → Int} {l' : zL} {st' : List Value} {h : zH} (hc : sins w md M G K C pc l st k ex (.iushr) = true) (hr : sRel w md h0 n0 σ0 l st k σ l' st' h) : zins (ρ := Prop) False M false none Gp Kp Cp 0 0 pc l' st' h ex (.iushr) := by
  obtain ⟨hk, hl, hs, hi, hm, hb0⟩ := hr
  simp only [sins] at hc
  split at hc
  · obtain ⟨_, _, rfl, ⟨y, rfl, hy⟩, _, t, rfl, ⟨x, rfl, hx⟩, ht⟩ := hs
    exact sbin hC ((snew_ok hc hk (sf32_ok _).1 (sf32_ok _).2).opd (by decide) hk hx hy (sgfn5 x y)) hl ht hi hm hb0
  · cases hc
theorem so_idiv (hC : sHC w md h0 n0 σ0 C Cp) (hG : sHG w md h0 G Gp) (hK : sHK w md h0 n0 σ0 K Kp) {pc : Nat} {l : sL} {st : List sV} {k : sK} {ex : List Nat} {σ : Nat → Int} {l' : zL} {st' : List Value} {h : zH} (hc : sins w md M G K C pc l st k ex (.idiv) = true) (hr : sRel w md h0 n0 σ0 l st k σ l' st' h) : zins (ρ := Prop) False M false none Gp Kp Cp 0 0 pc l' st' h ex (.idiv) := by
  obtain ⟨hk, hl, hs, hi, hm, hb0⟩ := hr
  simp only [sins] at hc
  split at hc
  · obtain ⟨_, _, rfl, ⟨y, rfl, hy⟩, _, t, rfl, ⟨x, rfl, hx⟩, ht⟩ := hs
    obtain ⟨hne, ho⟩ := sdiv_ok hc hk hx hy (fun h9 => (sdiv32 x y h9).1) (sf32_ok _)
    simp only [zins]
    rw [if_neg (s0n hne)]
    exact sbin hC (ho.opd (by decide) hk hx hy (sgfn7 x y)) hl ht hi hm hb0
  · cases hc
theorem so_irem (hC : sHC w md h0 n0 σ0 C Cp) (hG : sHG w md h0 G Gp) (hK : sHK w md h0 n0 σ0 K Kp) {pc : Nat} {l : sL} {st : List sV} {k : sK} {ex : List Nat} {σ : Nat → Int} {l' : zL} {st' : List Value} {h : zH} (hc : sins w md M G K C pc l st k ex (.irem) = true) (hr : sRel w md h0 n0 σ0 l st k σ l' st' h) : zins (ρ := Prop) False M false none Gp Kp Cp 0 0 pc l' st' h ex (.irem) := by
  obtain ⟨hk, hl, hs, hi, hm, hb0⟩ := hr
  simp only [sins] at hc
  split at hc
  · obtain ⟨_, _, rfl, ⟨y, rfl, hy⟩, _, t, rfl, ⟨x, rfl, hx⟩, ht⟩ := hs
    obtain ⟨hne, ho⟩ := srem_ok hc hk hx hy (fun h9 => (sdiv32 x y h9).2) (sf32_ok _)
    simp only [zins]
    rw [if_neg (s0n hne)]
    exact sbin hC (ho.opd (by decide) hk hx hy (sgfn8 x y)) hl ht hi hm hb0
  · cases hc
theorem so_ineg (hC : sHC w md h0 n0 σ0 C Cp) (hG : sHG w md h0 G Gp) (hK : sHK w md h0 n0 σ0 K Kp) {pc : Nat} {l : sL} {st : List sV} {k : sK} {ex : List Nat} {σ : Nat → Int} {l' : zL} {st' : List Value} {h : zH} (hc : sins w md M G K C pc l st k ex (.ineg) = true) (hr : sRel w md h0 n0 σ0 l st k σ l' st' h) : zins (ρ := Prop) False M false none Gp Kp Cp 0 0 pc l' st' h ex (.ineg) := by
  obtain ⟨hk, hl, hs, hi, hm, hb0⟩ := hr
  simp only [sins] at hc
  split at hc
  · obtain ⟨_, t, rfl, ⟨x, rfl, hx⟩, ht⟩ := hs
    exact sbin hC (ssub_ok (x := 0) hc hk ⟨trivial, rfl⟩ hx (fun a b => by rw [Int32.toInt_neg, ← Int.zero_sub]; exact s32r _ a b) (sf32_ok _)) hl ht hi hm hb0
  · cases hc
theorem so_ladd (hC : sHC w md h0 n0 σ0 C Cp) (hG : sHG w md h0 G Gp) (hK : sHK w md h0 n0 σ0 K Kp) {pc : Nat} {l : sL} {st : List sV} {k : sK} {ex : List Nat} {σ : Nat → Int} {l' : zL} {st' : List Value} {h : zH} (hc : sins w md M G K C pc l st k ex (.ladd) = true) (hr : sRel w md h0 n0 σ0 l st k σ l' st' h) : zins (ρ := Prop) False M false none Gp Kp Cp 0 0 pc l' st' h ex (.ladd) := by
  obtain ⟨hk, hl, hs, hi, hm, hb0⟩ := hr
  simp only [sins] at hc
  split at hc
  · obtain ⟨_, _, rfl, ⟨y, rfl, hy⟩, _, t, rfl, ⟨x, rfl, hx⟩, ht⟩ := hs
    exact sbinL hC ((sadd_ok hc hk hx hy (fun a b => by rw [Int64.toInt_add]; exact s64r _ a b) (sf64_ok _)).opd (by decide) hk hx hy (sgfn19 x y)) hl ht hi hm hb0
  · cases hc
theorem so_lsub (hC : sHC w md h0 n0 σ0 C Cp) (hG : sHG w md h0 G Gp) (hK : sHK w md h0 n0 σ0 K Kp) {pc : Nat} {l : sL} {st : List sV} {k : sK} {ex : List Nat} {σ : Nat → Int} {l' : zL} {st' : List Value} {h : zH} (hc : sins w md M G K C pc l st k ex (.lsub) = true) (hr : sRel w md h0 n0 σ0 l st k σ l' st' h) : zins (ρ := Prop) False M false none Gp Kp Cp 0 0 pc l' st' h ex (.lsub) := by
  obtain ⟨hk, hl, hs, hi, hm, hb0⟩ := hr
  simp only [sins] at hc
  split at hc
  · obtain ⟨_, _, rfl, ⟨y, rfl, hy⟩, _, t, rfl, ⟨x, rfl, hx⟩, ht⟩ := hs
    exact sbinL hC ((ssub_ok hc hk hx hy (fun a b => by rw [Int64.toInt_sub]; exact s64r _ a b) (sf64_ok _)).opd (by decide) hk hx hy (sgfn20 x y)) hl ht hi hm hb0
  · cases hc
theorem so_lmul (hC : sHC w md h0 n0 σ0 C Cp) (hG : sHG w md h0 G Gp) (hK : sHK w md h0 n0 σ0 K Kp) {pc : Nat} {l : sL} {st : List sV} {k : sK} {ex : List Nat} {σ : Nat → Int} {l' : zL} {st' : List Value} {h : zH} (hc : sins w md M G K C pc l st k ex (.lmul) = true) (hr : sRel w md h0 n0 σ0 l st k σ l' st' h) : zins (ρ := Prop) False M false none Gp Kp Cp 0 0 pc l' st' h ex (.lmul) := by
  obtain ⟨hk, hl, hs, hi, hm, hb0⟩ := hr
  simp only [sins] at hc
  split at hc
  · obtain ⟨_, _, rfl, ⟨y, rfl, hy⟩, _, t, rfl, ⟨x, rfl, hx⟩, ht⟩ := hs
    exact sbinL hC ((smul_ok hc hk hx hy (fun a b => by rw [Int64.toInt_mul]; exact s64r _ a b) (sf64_ok _)).opd (by decide) hk hx hy (sgfn16 x y)) hl ht hi hm hb0
  · cases hc
theorem so_land (hC : sHC w md h0 n0 σ0 C Cp) (hG : sHG w md h0 G Gp) (hK : sHK w md h0 n0 σ0 K Kp) {pc : Nat} {l : sL} {st : List sV} {k : sK} {ex : List Nat} {σ : Nat → Int} {l' : zL} {st' : List Value} {h : zH} (hc : sins w md M G K C pc l st k ex (.land) = true) (hr : sRel w md h0 n0 σ0 l st k σ l' st' h) : zins (ρ := Prop) False M false none Gp Kp Cp 0 0 pc l' st' h ex (.land) := by
  obtain ⟨hk, hl, hs, hi, hm, hb0⟩ := hr
  simp only [sins] at hc
  split at hc
  · obtain ⟨_, _, rfl, ⟨y, rfl, hy⟩, _, t, rfl, ⟨x, rfl, hx⟩, ht⟩ := hs
    exact sbinL hC ((snew_ok hc hk (sf64_ok _).1 (sf64_ok _).2).opd (by decide) hk hx hy (sgfn12 x y)) hl ht hi hm hb0
  · cases hc
theorem so_ldiv (hC : sHC w md h0 n0 σ0 C Cp) (hG : sHG w md h0 G Gp) (hK : sHK w md h0 n0 σ0 K Kp) {pc : Nat} {l : sL} {st : List sV} {k : sK} {ex : List Nat} {σ : Nat → Int} {l' : zL} {st' : List Value} {h : zH} (hc : sins w md M G K C pc l st k ex (.ldiv) = true) (hr : sRel w md h0 n0 σ0 l st k σ l' st' h) : zins (ρ := Prop) False M false none Gp Kp Cp 0 0 pc l' st' h ex (.ldiv) := by
  obtain ⟨hk, hl, hs, hi, hm, hb0⟩ := hr
  simp only [sins] at hc
  split at hc
  · obtain ⟨_, _, rfl, ⟨y, rfl, hy⟩, _, t, rfl, ⟨x, rfl, hx⟩, ht⟩ := hs
    obtain ⟨hne, ho⟩ := sdiv_ok hc hk hx hy (fun h9 => (sdiv64 x y h9).1) (sf64_ok _)
    simp only [zins]
    rw [if_neg (s0n64 hne)]
    exact sbinL hC (ho.opd (by decide) hk hx hy (sgfn17 x y)) hl ht hi hm hb0
  · cases hc
theorem so_lrem (hC : sHC w md h0 n0 σ0 C Cp) (hG : sHG w md h0 G Gp) (hK : sHK w md h0 n0 σ0 K Kp) {pc : Nat} {l : sL} {st : List sV} {k : sK} {ex : List Nat} {σ : Nat → Int} {l' : zL} {st' : List Value} {h : zH} (hc : sins w md M G K C pc l st k ex (.lrem) = true) (hr : sRel w md h0 n0 σ0 l st k σ l' st' h) : zins (ρ := Prop) False M false none Gp Kp Cp 0 0 pc l' st' h ex (.lrem) := by
  obtain ⟨hk, hl, hs, hi, hm, hb0⟩ := hr
  simp only [sins] at hc
  split at hc
  · obtain ⟨_, _, rfl, ⟨y, rfl, hy⟩, _, t, rfl, ⟨x, rfl, hx⟩, ht⟩ := hs
    obtain ⟨hne, ho⟩ := srem_ok hc hk hx hy (fun h9 => (sdiv64 x y h9).2) (sf64_ok _)
    simp only [zins]
    rw [if_neg (s0n64 hne)]
    exact sbinL hC (ho.opd (by decide) hk hx hy (sgfn18 x y)) hl ht hi hm hb0
  · cases hc
theorem so_lneg (hC : sHC w md h0 n0 σ0 C Cp) (hG : sHG w md h0 G Gp) (hK : sHK w md h0 n0 σ0 K Kp) {pc : Nat} {l : sL} {st : List sV} {k : sK} {ex : List Nat} {σ : Nat → Int} {l' : zL} {st' : List Value} {h : zH} (hc : sins w md M G K C pc l st k ex (.lneg) = true) (hr : sRel w md h0 n0 σ0 l st k σ l' st' h) : zins (ρ := Prop) False M false none Gp Kp Cp 0 0 pc l' st' h ex (.lneg) := by
  obtain ⟨hk, hl, hs, hi, hm, hb0⟩ := hr
  simp only [sins] at hc
  split at hc
  · rename_i f r
    obtain ⟨_, t, rfl, ⟨x, rfl, hx⟩, ht⟩ := hs
    obtain ⟨b1, b2⟩ := sifE_ok (y := -9223372036854775808) hc hk hx ⟨trivial, rfl⟩
    by_cases e : x.toInt = -9223372036854775808
    · have ex : -x = x := by
        have e2 : x = Int64.minValue := Int64.toInt_inj.mp (by rw [e]; decide)
        rw [e2]
        decide
      show Cp 0 0 (pc + 1) l' (.long (-x) :: t) h
      rw [ex]
      exact sbch hC (b1 e) hl ⟨_, _, rfl, ⟨x, rfl, trivial, e⟩, ht⟩ hi hm hb0
    · obtain ⟨k', c, a, b⟩ := b2 e
      exact sbinL hC ((ssub_ok (x := 0) c a ⟨trivial, rfl⟩ (by rw [b]; exact hx) (fun a b => by rw [Int64.toInt_neg, ← Int.zero_sub]; exact s64r _ a b) (sf64_ok _)).opd (by decide) a ⟨trivial, rfl⟩ (by rw [b]; exact hx) (by have g := sgfn20 0 x; rw [Int64.zero_sub] at g; exact g)) (by rw [b]; exact hl) (by rw [b]; exact ht) hi hm (by rw [b]; exact hb0)
  · cases hc
theorem so_i2l (hC : sHC w md h0 n0 σ0 C Cp) (hG : sHG w md h0 G Gp) (hK : sHK w md h0 n0 σ0 K Kp) {pc : Nat} {l : sL} {st : List sV} {k : sK} {ex : List Nat} {σ : Nat → Int} {l' : zL} {st' : List Value} {h : zH} (hc : sins w md M G K C pc l st k ex (.i2l) = true) (hr : sRel w md h0 n0 σ0 l st k σ l' st' h) : zins (ρ := Prop) False M false none Gp Kp Cp 0 0 pc l' st' h ex (.i2l) := by
  obtain ⟨hk, hl, hs, hi, hm, hb0⟩ := hr
  simp only [sins] at hc
  split at hc
  · obtain ⟨_, t, rfl, ⟨x, rfl, hx⟩, ht⟩ := hs
    exact hC _ _ _ _ hc σ l' _ h ⟨hk, hl, ⟨_, _, rfl, ⟨_, rfl, by rw [Int32.toInt_toInt64]; exact hx⟩, ht⟩, hi, hm, hb0⟩
  · cases hc
theorem so_l2i (hC : sHC w md h0 n0 σ0 C Cp) (hG : sHG w md h0 G Gp) (hK : sHK w md h0 n0 σ0 K Kp) {pc : Nat} {l : sL} {st : List sV} {k : sK} {ex : List Nat} {σ : Nat → Int} {l' : zL} {st' : List Value} {h : zH} (hc : sins w md M G K C pc l st k ex (.l2i) = true) (hr : sRel w md h0 n0 σ0 l st k σ l' st' h) : zins (ρ := Prop) False M false none Gp Kp Cp 0 0 pc l' st' h ex (.l2i) := by
  obtain ⟨hk, hl, hs, hi, hm, hb0⟩ := hr
  simp only [sins] at hc
  split at hc
  · obtain ⟨_, t, rfl, ⟨x, rfl, hx⟩, ht⟩ := hs
    split at hc
    · rename_i hin
      have hb := sin_ok hin (siv_ok hk hx).1 (siv_ok hk hx).2
      exact hC _ _ _ _ hc σ l' _ h ⟨hk, hl, ⟨_, _, rfl, ⟨_, rfl, by rw [Int64.toInt_toInt32, s32r _ hb.1 hb.2]; exact hx⟩, ht⟩, hi, hm, hb0⟩
    · exact sbin hC ((snew_ok hc hk (sf32_ok _).1 (sf32_ok _).2).opd (by decide) hk hx (show sR k.1.length σ (none, 0) 0 from ⟨trivial, rfl⟩) (sgfn11 x)) hl ht hi hm hb0
  · cases hc
theorem so_i2b (hC : sHC w md h0 n0 σ0 C Cp) (hG : sHG w md h0 G Gp) (hK : sHK w md h0 n0 σ0 K Kp) {pc : Nat} {l : sL} {st : List sV} {k : sK} {ex : List Nat} {σ : Nat → Int} {l' : zL} {st' : List Value} {h : zH} (hc : sins w md M G K C pc l st k ex (.i2b) = true) (hr : sRel w md h0 n0 σ0 l st k σ l' st' h) : zins (ρ := Prop) False M false none Gp Kp Cp 0 0 pc l' st' h ex (.i2b) := by
  obtain ⟨hk, hl, hs, hi, hm, hb0⟩ := hr
  simp only [sins] at hc
  split at hc
  · obtain ⟨_, t, rfl, ⟨x, rfl, hx⟩, ht⟩ := hs
    exact sbin hC ((snew_ok hc hk (si2b x).1 (si2b x).2).opd (by decide) hk hx (show sR k.1.length σ (none, 0) 0 from ⟨trivial, rfl⟩) (sgfn10 x)) hl ht hi hm hb0
  · cases hc
theorem so_dup (hC : sHC w md h0 n0 σ0 C Cp) (hG : sHG w md h0 G Gp) (hK : sHK w md h0 n0 σ0 K Kp) {pc : Nat} {l : sL} {st : List sV} {k : sK} {ex : List Nat} {σ : Nat → Int} {l' : zL} {st' : List Value} {h : zH} (hc : sins w md M G K C pc l st k ex (.dup) = true) (hr : sRel w md h0 n0 σ0 l st k σ l' st' h) : zins (ρ := Prop) False M false none Gp Kp Cp 0 0 pc l' st' h ex (.dup) := by
  obtain ⟨hk, hl, hs, hi, hm, hb0⟩ := hr
  simp only [sins] at hc
  split at hc
  · obtain ⟨v, t, rfl, hv, ht⟩ := hs
    split at hc
    · rename_i e
      simp only [zins]
      rw [if_pos (by rw [scat_ok hv]; exact e)]
      exact hC _ _ _ _ hc σ l' _ h ⟨hk, hl, ⟨_, _, rfl, hv, _, _, rfl, hv, ht⟩, hi, hm, hb0⟩
    · cases hc
  · cases hc
theorem so_pop (hC : sHC w md h0 n0 σ0 C Cp) (hG : sHG w md h0 G Gp) (hK : sHK w md h0 n0 σ0 K Kp) {pc : Nat} {l : sL} {st : List sV} {k : sK} {ex : List Nat} {σ : Nat → Int} {l' : zL} {st' : List Value} {h : zH} (hc : sins w md M G K C pc l st k ex (.pop) = true) (hr : sRel w md h0 n0 σ0 l st k σ l' st' h) : zins (ρ := Prop) False M false none Gp Kp Cp 0 0 pc l' st' h ex (.pop) := by
  obtain ⟨hk, hl, hs, hi, hm, hb0⟩ := hr
  simp only [sins] at hc
  split at hc
  · obtain ⟨v, t, rfl, hv, ht⟩ := hs
    split at hc
    · rename_i e
      simp only [zins]
      rw [if_pos (by rw [scat_ok hv]; exact e)]
      exact hC _ _ _ _ hc σ l' _ h ⟨hk, hl, ht, hi, hm, hb0⟩
    · cases hc
  · cases hc
theorem so_dup2 (hC : sHC w md h0 n0 σ0 C Cp) (hG : sHG w md h0 G Gp) (hK : sHK w md h0 n0 σ0 K Kp) {pc : Nat} {l : sL} {st : List sV} {k : sK} {ex : List Nat} {σ : Nat → Int} {l' : zL} {st' : List Value} {h : zH} (hc : sins w md M G K C pc l st k ex (.dup2) = true) (hr : sRel w md h0 n0 σ0 l st k σ l' st' h) : zins (ρ := Prop) False M false none Gp Kp Cp 0 0 pc l' st' h ex (.dup2) := by
  obtain ⟨hk, hl, hs, hi, hm, hb0⟩ := hr
  simp only [sins] at hc
  split at hc
  · obtain ⟨v, _, rfl, hv, u, t, rfl, hu, ht⟩ := hs
    split at hc
    · rename_i e
      split at hc
      · rename_i e2
        simp only [zins]
        rw [if_pos (by rw [scat_ok hv]; exact e), if_pos (by rw [scat_ok hu]; exact e2)]
        exact hC _ _ _ _ hc σ l' _ h ⟨hk, hl, ⟨_, _, rfl, hv, _, _, rfl, hu, _, _, rfl, hv, _, _, rfl, hu, ht⟩, hi, hm, hb0⟩
      · cases hc
    · cases hc
  · cases hc
theorem so_if_eq {n : Int} (hC : sHC w md h0 n0 σ0 C Cp) (hG : sHG w md h0 G Gp) (hK : sHK w md h0 n0 σ0 K Kp) {pc : Nat} {l : sL} {st : List sV} {k : sK} {ex : List Nat} {σ : Nat → Int} {l' : zL} {st' : List Value} {h : zH} (hc : sins w md M G K C pc l st k ex (.ifCond .eq n) = true) (hr : sRel w md h0 n0 σ0 l st k σ l' st' h) : zins (ρ := Prop) False M false none Gp Kp Cp 0 0 pc l' st' h ex (.ifCond .eq n) := by
  obtain ⟨hk, hl, hs, hi, hm, hb0⟩ := hr
  simp only [sins] at hc
  split at hc
  · obtain ⟨_, t, rfl, ⟨x, rfl, hx⟩, ht⟩ := hs
    obtain ⟨b1, b2⟩ := sifE_ok hc hk hx (show sR k.1.length σ (none, 0) (0 : Int32).toInt from ⟨trivial, by show (0 : Int32).toInt = 0; decide⟩)
    simp only [zins]
    split
    · rename_i e
      exact sbch hC (b1 (by rw [e])) hl ht hi hm hb0
    · rename_i e
      exact sbch hC (b2 (fun e9 => e (Int32.toInt_inj.mp e9))) hl ht hi hm hb0
  · cases hc
theorem so_if_ne {n : Int} (hC : sHC w md h0 n0 σ0 C Cp) (hG : sHG w md h0 G Gp) (hK : sHK w md h0 n0 σ0 K Kp) {pc : Nat} {l : sL} {st : List sV} {k : sK} {ex : List Nat} {σ : Nat → Int} {l' : zL} {st' : List Value} {h : zH} (hc : sins w md M G K C pc l st k ex (.ifCond .ne n) = true) (hr : sRel w md h0 n0 σ0 l st k σ l' st' h) : zins (ρ := Prop) False M false none Gp Kp Cp 0 0 pc l' st' h ex (.ifCond .ne n) := by
  obtain ⟨hk, hl, hs, hi, hm, hb0⟩ := hr
  simp only [sins] at hc
  split at hc
  · obtain ⟨_, t, rfl, ⟨x, rfl, hx⟩, ht⟩ := hs
    obtain ⟨b1, b2⟩ := sifE_ok hc hk hx (show sR k.1.length σ (none, 0) (0 : Int32).toInt from ⟨trivial, by show (0 : Int32).toInt = 0; decide⟩)
    simp only [zins]
    split
    · rename_i e
      exact sbch hC (b1 (by rw [e])) hl ht hi hm hb0
    · rename_i e
      exact sbch hC (b2 (fun e9 => e (Int32.toInt_inj.mp e9))) hl ht hi hm hb0
  · cases hc
theorem so_if_lt {n : Int} (hC : sHC w md h0 n0 σ0 C Cp) (hG : sHG w md h0 G Gp) (hK : sHK w md h0 n0 σ0 K Kp) {pc : Nat} {l : sL} {st : List sV} {k : sK} {ex : List Nat} {σ : Nat → Int} {l' : zL} {st' : List Value} {h : zH} (hc : sins w md M G K C pc l st k ex (.ifCond .lt n) = true) (hr : sRel w md h0 n0 σ0 l st k σ l' st' h) : zins (ρ := Prop) False M false none Gp Kp Cp 0 0 pc l' st' h ex (.ifCond .lt n) := by
  obtain ⟨hk, hl, hs, hi, hm, hb0⟩ := hr
  simp only [sins] at hc
  split at hc
  · obtain ⟨_, t, rfl, ⟨x, rfl, hx⟩, ht⟩ := hs
    obtain ⟨b1, b2⟩ := sifL_ok hc hk hx (show sR k.1.length σ (none, 0) (0 : Int32).toInt from ⟨trivial, by show (0 : Int32).toInt = 0; decide⟩)
    simp only [zins]
    split
    · rename_i e
      exact sbch hC (b1 (Int32.lt_iff_toInt_lt.mp e)) hl ht hi hm hb0
    · rename_i e
      exact sbch hC (b2 (fun e9 => e (Int32.lt_iff_toInt_lt.mpr e9))) hl ht hi hm hb0
  · cases hc
theorem so_if_ge {n : Int} (hC : sHC w md h0 n0 σ0 C Cp) (hG : sHG w md h0 G Gp) (hK : sHK w md h0 n0 σ0 K Kp) {pc : Nat} {l : sL} {st : List sV} {k : sK} {ex : List Nat} {σ : Nat → Int} {l' : zL} {st' : List Value} {h : zH} (hc : sins w md M G K C pc l st k ex (.ifCond .ge n) = true) (hr : sRel w md h0 n0 σ0 l st k σ l' st' h) : zins (ρ := Prop) False M false none Gp Kp Cp 0 0 pc l' st' h ex (.ifCond .ge n) := by
  obtain ⟨hk, hl, hs, hi, hm, hb0⟩ := hr
  simp only [sins] at hc
  split at hc
  · obtain ⟨_, t, rfl, ⟨x, rfl, hx⟩, ht⟩ := hs
    obtain ⟨b1, b2⟩ := sifM_ok hc hk (show sR k.1.length σ (none, 0) (0 : Int32).toInt from ⟨trivial, by show (0 : Int32).toInt = 0; decide⟩) hx
    simp only [zins]
    split
    · rename_i e
      exact sbch hC (b1 (Int32.le_iff_toInt_le.mp e)) hl ht hi hm hb0
    · rename_i e
      exact sbch hC (b2 (fun e9 => e (Int32.le_iff_toInt_le.mpr e9))) hl ht hi hm hb0
  · cases hc
theorem so_if_gt {n : Int} (hC : sHC w md h0 n0 σ0 C Cp) (hG : sHG w md h0 G Gp) (hK : sHK w md h0 n0 σ0 K Kp) {pc : Nat} {l : sL} {st : List sV} {k : sK} {ex : List Nat} {σ : Nat → Int} {l' : zL} {st' : List Value} {h : zH} (hc : sins w md M G K C pc l st k ex (.ifCond .gt n) = true) (hr : sRel w md h0 n0 σ0 l st k σ l' st' h) : zins (ρ := Prop) False M false none Gp Kp Cp 0 0 pc l' st' h ex (.ifCond .gt n) := by
  obtain ⟨hk, hl, hs, hi, hm, hb0⟩ := hr
  simp only [sins] at hc
  split at hc
  · obtain ⟨_, t, rfl, ⟨x, rfl, hx⟩, ht⟩ := hs
    obtain ⟨b1, b2⟩ := sifL_ok hc hk (show sR k.1.length σ (none, 0) (0 : Int32).toInt from ⟨trivial, by show (0 : Int32).toInt = 0; decide⟩) hx
    simp only [zins]
    split
    · rename_i e
      exact sbch hC (b1 (Int32.lt_iff_toInt_lt.mp e)) hl ht hi hm hb0
    · rename_i e
      exact sbch hC (b2 (fun e9 => e (Int32.lt_iff_toInt_lt.mpr e9))) hl ht hi hm hb0
  · cases hc
theorem so_if_le {n : Int} (hC : sHC w md h0 n0 σ0 C Cp) (hG : sHG w md h0 G Gp) (hK : sHK w md h0 n0 σ0 K Kp) {pc : Nat} {l : sL} {st : List sV} {k : sK} {ex : List Nat} {σ : Nat → Int} {l' : zL} {st' : List Value} {h : zH} (hc : sins w md M G K C pc l st k ex (.ifCond .le n) = true) (hr : sRel w md h0 n0 σ0 l st k σ l' st' h) : zins (ρ := Prop) False M false none Gp Kp Cp 0 0 pc l' st' h ex (.ifCond .le n) := by
  obtain ⟨hk, hl, hs, hi, hm, hb0⟩ := hr
  simp only [sins] at hc
  split at hc
  · obtain ⟨_, t, rfl, ⟨x, rfl, hx⟩, ht⟩ := hs
    obtain ⟨b1, b2⟩ := sifM_ok hc hk hx (show sR k.1.length σ (none, 0) (0 : Int32).toInt from ⟨trivial, by show (0 : Int32).toInt = 0; decide⟩)
    simp only [zins]
    split
    · rename_i e
      exact sbch hC (b1 (Int32.le_iff_toInt_le.mp e)) hl ht hi hm hb0
    · rename_i e
      exact sbch hC (b2 (fun e9 => e (Int32.le_iff_toInt_le.mpr e9))) hl ht hi hm hb0
  · cases hc
theorem so_ic_eq {n : Int} (hC : sHC w md h0 n0 σ0 C Cp) (hG : sHG w md h0 G Gp) (hK : sHK w md h0 n0 σ0 K Kp) {pc : Nat} {l : sL} {st : List sV} {k : sK} {ex : List Nat} {σ : Nat → Int} {l' : zL} {st' : List Value} {h : zH} (hc : sins w md M G K C pc l st k ex (.if_icmp .eq n) = true) (hr : sRel w md h0 n0 σ0 l st k σ l' st' h) : zins (ρ := Prop) False M false none Gp Kp Cp 0 0 pc l' st' h ex (.if_icmp .eq n) := by
  obtain ⟨hk, hl, hs, hi, hm, hb0⟩ := hr
  simp only [sins] at hc
  split at hc
  · obtain ⟨_, _, rfl, ⟨y, rfl, hy⟩, _, t, rfl, ⟨x, rfl, hx⟩, ht⟩ := hs
    obtain ⟨b1, b2⟩ := sifE_ok hc hk hx hy
    simp only [zins]
    split
    · rename_i e
      exact sbch hC (b1 (by rw [e])) hl ht hi hm hb0
    · rename_i e
      exact sbch hC (b2 (fun e9 => e (Int32.toInt_inj.mp e9))) hl ht hi hm hb0
  · cases hc
theorem so_ic_ne {n : Int} (hC : sHC w md h0 n0 σ0 C Cp) (hG : sHG w md h0 G Gp) (hK : sHK w md h0 n0 σ0 K Kp) {pc : Nat} {l : sL} {st : List sV} {k : sK} {ex : List Nat} {σ : Nat → Int} {l' : zL} {st' : List Value} {h : zH} (hc : sins w md M G K C pc l st k ex (.if_icmp .ne n) = true) (hr : sRel w md h0 n0 σ0 l st k σ l' st' h) : zins (ρ := Prop) False M false none Gp Kp Cp 0 0 pc l' st' h ex (.if_icmp .ne n) := by
  obtain ⟨hk, hl, hs, hi, hm, hb0⟩ := hr
  simp only [sins] at hc
  split at hc
  · obtain ⟨_, _, rfl, ⟨y, rfl, hy⟩, _, t, rfl, ⟨x, rfl, hx⟩, ht⟩ := hs
    obtain ⟨b1, b2⟩ := sifE_ok hc hk hx hy
    simp only [zins]
    split
    · rename_i e
      exact sbch hC (b1 (by rw [e])) hl ht hi hm hb0
    · rename_i e
      exact sbch hC (b2 (fun e9 => e (Int32.toInt_inj.mp e9))) hl ht hi hm hb0
  · cases hc
theorem so_ic_lt {n : Int} (hC : sHC w md h0 n0 σ0 C Cp) (hG : sHG w md h0 G Gp) (hK : sHK w md h0 n0 σ0 K Kp) {pc : Nat} {l : sL} {st : List sV} {k : sK} {ex : List Nat} {σ : Nat → Int} {l' : zL} {st' : List Value} {h : zH} (hc : sins w md M G K C pc l st k ex (.if_icmp .lt n) = true) (hr : sRel w md h0 n0 σ0 l st k σ l' st' h) : zins (ρ := Prop) False M false none Gp Kp Cp 0 0 pc l' st' h ex (.if_icmp .lt n) := by
  obtain ⟨hk, hl, hs, hi, hm, hb0⟩ := hr
  simp only [sins] at hc
  split at hc
  · obtain ⟨_, _, rfl, ⟨y, rfl, hy⟩, _, t, rfl, ⟨x, rfl, hx⟩, ht⟩ := hs
    obtain ⟨b1, b2⟩ := sifL_ok hc hk hx hy
    simp only [zins]
    split
    · rename_i e
      exact sbch hC (b1 (Int32.lt_iff_toInt_lt.mp e)) hl ht hi hm hb0
    · rename_i e
      exact sbch hC (b2 (fun e9 => e (Int32.lt_iff_toInt_lt.mpr e9))) hl ht hi hm hb0
  · cases hc
theorem so_ic_ge {n : Int} (hC : sHC w md h0 n0 σ0 C Cp) (hG : sHG w md h0 G Gp) (hK : sHK w md h0 n0 σ0 K Kp) {pc : Nat} {l : sL} {st : List sV} {k : sK} {ex : List Nat} {σ : Nat → Int} {l' : zL} {st' : List Value} {h : zH} (hc : sins w md M G K C pc l st k ex (.if_icmp .ge n) = true) (hr : sRel w md h0 n0 σ0 l st k σ l' st' h) : zins (ρ := Prop) False M false none Gp Kp Cp 0 0 pc l' st' h ex (.if_icmp .ge n) := by
  obtain ⟨hk, hl, hs, hi, hm, hb0⟩ := hr
  simp only [sins] at hc
  split at hc
  · obtain ⟨_, _, rfl, ⟨y, rfl, hy⟩, _, t, rfl, ⟨x, rfl, hx⟩, ht⟩ := hs
    obtain ⟨b1, b2⟩ := sifM_ok hc hk hy hx
    simp only [zins]
    split
    · rename_i e
      exact sbch hC (b1 (Int32.le_iff_toInt_le.mp e)) hl ht hi hm hb0
    · rename_i e
      exact sbch hC (b2 (fun e9 => e (Int32.le_iff_toInt_le.mpr e9))) hl ht hi hm hb0
  · cases hc
theorem so_ic_gt {n : Int} (hC : sHC w md h0 n0 σ0 C Cp) (hG : sHG w md h0 G Gp) (hK : sHK w md h0 n0 σ0 K Kp) {pc : Nat} {l : sL} {st : List sV} {k : sK} {ex : List Nat} {σ : Nat → Int} {l' : zL} {st' : List Value} {h : zH} (hc : sins w md M G K C pc l st k ex (.if_icmp .gt n) = true) (hr : sRel w md h0 n0 σ0 l st k σ l' st' h) : zins (ρ := Prop) False M false none Gp Kp Cp 0 0 pc l' st' h ex (.if_icmp .gt n) := by
  obtain ⟨hk, hl, hs, hi, hm, hb0⟩ := hr
  simp only [sins] at hc
  split at hc
  · obtain ⟨_, _, rfl, ⟨y, rfl, hy⟩, _, t, rfl, ⟨x, rfl, hx⟩, ht⟩ := hs
    obtain ⟨b1, b2⟩ := sifL_ok hc hk hy hx
    simp only [zins]
    split
    · rename_i e
      exact sbch hC (b1 (Int32.lt_iff_toInt_lt.mp e)) hl ht hi hm hb0
    · rename_i e
      exact sbch hC (b2 (fun e9 => e (Int32.lt_iff_toInt_lt.mpr e9))) hl ht hi hm hb0
  · cases hc
theorem so_ic_le {n : Int} (hC : sHC w md h0 n0 σ0 C Cp) (hG : sHG w md h0 G Gp) (hK : sHK w md h0 n0 σ0 K Kp) {pc : Nat} {l : sL} {st : List sV} {k : sK} {ex : List Nat} {σ : Nat → Int} {l' : zL} {st' : List Value} {h : zH} (hc : sins w md M G K C pc l st k ex (.if_icmp .le n) = true) (hr : sRel w md h0 n0 σ0 l st k σ l' st' h) : zins (ρ := Prop) False M false none Gp Kp Cp 0 0 pc l' st' h ex (.if_icmp .le n) := by
  obtain ⟨hk, hl, hs, hi, hm, hb0⟩ := hr
  simp only [sins] at hc
  split at hc
  · obtain ⟨_, _, rfl, ⟨y, rfl, hy⟩, _, t, rfl, ⟨x, rfl, hx⟩, ht⟩ := hs
    obtain ⟨b1, b2⟩ := sifM_ok hc hk hx hy
    simp only [zins]
    split
    · rename_i e
      exact sbch hC (b1 (Int32.le_iff_toInt_le.mp e)) hl ht hi hm hb0
    · rename_i e
      exact sbch hC (b2 (fun e9 => e (Int32.le_iff_toInt_le.mpr e9))) hl ht hi hm hb0
  · cases hc
theorem so_goto {n : Int} (hC : sHC w md h0 n0 σ0 C Cp) (hG : sHG w md h0 G Gp) (hK : sHK w md h0 n0 σ0 K Kp) {pc : Nat} {l : sL} {st : List sV} {k : sK} {ex : List Nat} {σ : Nat → Int} {l' : zL} {st' : List Value} {h : zH} (hc : sins w md M G K C pc l st k ex (.goto n) = true) (hr : sRel w md h0 n0 σ0 l st k σ l' st' h) : zins (ρ := Prop) False M false none Gp Kp Cp 0 0 pc l' st' h ex (.goto n) := by
  obtain ⟨hk, hl, hs, hi, hm, hb0⟩ := hr
  simp only [sins] at hc
  split at hc
  · exact hC _ _ _ _ hc σ l' _ h ⟨hk, hl, hs, hi, hm, hb0⟩
  · cases hc
end SO

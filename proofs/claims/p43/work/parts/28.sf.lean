section SO
variable {w : sW} {md : sM} {M : zHd} {G : sG} {K : Option sV → sK → Bool} {C : Nat → sL → List sV → sK → Bool} {h0 : zH} {n0 : Nat} {σ0 : Nat → Int}
  {Gp : Nat → List Value → zH → (Option Value → zH → Prop) → Prop} {Kp : Option Value → zH → Prop} {Cp : Nat → Nat → Nat → zL → List Value → zH → Prop}
theorem so_tableswitch {df lo9 hi9 : Int} {os : Array Int} (hC : sHC w md h0 n0 σ0 C Cp) (hG : sHG w md h0 G Gp) (hK : sHK w md h0 n0 σ0 K Kp) {pc : Nat} {l : sL} {st : List sV} {k : sK} {ex : List Nat} {σ : Nat → Int} {l' : zL} {st' : List Value} {h : zH} (hc : sins w md M G K C pc l st k ex (.tableswitch df lo9 hi9 os) = true) (hr : sRel w md h0 n0 σ0 l st k σ l' st' h) : zins (ρ := Prop) False M false none Gp Kp Cp 0 0 pc l' st' h ex (.tableswitch df lo9 hi9 os) := by
  obtain ⟨hk, hl, hs, hi, hm, hb0⟩ := hr
  simp only [sins] at hc
  split at hc
  · obtain ⟨_, t, rfl, ⟨x, rfl, hx⟩, ht⟩ := hs
    exact ssw_ok (n := k.1.length) (Cp := fun q => Cp 0 0 q l' t h) (fun q k' c a e => hC _ _ _ _ c σ l' _ h ⟨a, by rw [e]; exact hl, by rw [e]; exact ht, hi, hm, by rw [e]; exact hb0⟩) _ k rfl hc hk hx
  · cases hc
theorem so_lookupswitch {df : Int} {ps : Array (Int × Int)} (hC : sHC w md h0 n0 σ0 C Cp) (hG : sHG w md h0 G Gp) (hK : sHK w md h0 n0 σ0 K Kp) {pc : Nat} {l : sL} {st : List sV} {k : sK} {ex : List Nat} {σ : Nat → Int} {l' : zL} {st' : List Value} {h : zH} (hc : sins w md M G K C pc l st k ex (.lookupswitch df ps) = true) (hr : sRel w md h0 n0 σ0 l st k σ l' st' h) : zins (ρ := Prop) False M false none Gp Kp Cp 0 0 pc l' st' h ex (.lookupswitch df ps) := by
  obtain ⟨hk, hl, hs, hi, hm, hb0⟩ := hr
  simp only [sins] at hc
  split at hc
  · obtain ⟨_, t, rfl, ⟨x, rfl, hx⟩, ht⟩ := hs
    exact ssw_ok (n := k.1.length) (Cp := fun q => Cp 0 0 q l' t h) (fun q k' c a e => hC _ _ _ _ c σ l' _ h ⟨a, by rw [e]; exact hl, by rw [e]; exact ht, hi, hm, by rw [e]; exact hb0⟩) _ k rfl hc hk hx
  · cases hc
theorem so_getfield {idx : Nat} (hC : sHC w md h0 n0 σ0 C Cp) (hG : sHG w md h0 G Gp) (hK : sHK w md h0 n0 σ0 K Kp) {pc : Nat} {l : sL} {st : List sV} {k : sK} {ex : List Nat} {σ : Nat → Int} {l' : zL} {st' : List Value} {h : zH} (hc : sins w md M G K C pc l st k ex (.getfield idx) = true) (hr : sRel w md h0 n0 σ0 l st k σ l' st' h) : zins (ρ := Prop) False M false none Gp Kp Cp 0 0 pc l' st' h ex (.getfield idx) := by
  obtain ⟨hk, hl, hs, hi, hm, hb0⟩ := hr
  simp only [sins] at hc
  split at hc
  · rename_i ci kk p1 p2 q r
    obtain ⟨v, t, rfl, hv, ht⟩ := hs
    have hv : v = .ref q := hv
    subst hv
    split at hc
    · rename_i hw
      have hw' : h.1[q]? = some (0, ci) := by rw [hi.1]; exact hw
      simp only [zins, zgetf, hw', if_true]
      split at hc
      · rename_i e
        rw [e]
        exact sbinL hC (srdL_ok hc hk trivial (show ((kk : Int)).toNat = kk from Int.toNat_natCast kk)) hl ht hi hm hb0
      · rename_i e
        rw [e]
        obtain ⟨r', k', c, a, b, d⟩ := sgr_ok hc hk hi
        simp only [d]
        exact hC _ _ _ _ c σ l' _ h ⟨a, by rw [b]; exact hl, ⟨_, _, rfl, rfl, by rw [b]; exact ht⟩, hi, hm, by rw [b]; exact hb0⟩
      · rename_i n1 n2
        have hv := hi.2.2.1 q kk
        rw [sIvO hw] at hv
        have hz := sgf_ok hc hk hv
        split
        · rename_i e9
          exact absurd e9 n1
        · rename_i e9
          exact absurd e9 n2
        · exact sbin hC hz hl ht hi hm hb0
    · cases hc
  · cases hc
theorem so_putfield {idx : Nat} (hC : sHC w md h0 n0 σ0 C Cp) (hG : sHG w md h0 G Gp) (hK : sHK w md h0 n0 σ0 K Kp) {pc : Nat} {l : sL} {st : List sV} {k : sK} {ex : List Nat} {σ : Nat → Int} {l' : zL} {st' : List Value} {h : zH} (hc : sins w md M G K C pc l st k ex (.putfield idx) = true) (hr : sRel w md h0 n0 σ0 l st k σ l' st' h) : zins (ρ := Prop) False M false none Gp Kp Cp 0 0 pc l' st' h ex (.putfield idx) := by
  obtain ⟨hk, hl, hs, hi, hm, hb0⟩ := hr
  simp only [sins] at hc
  split at hc
  · rename_i ci kk p1 p2 v q r
    obtain ⟨u, _, rfl, hu, u2, t, rfl, hq, ht⟩ := hs
    have hq : u2 = .ref q := hq
    subst hq
    split at hc
    · rename_i hw
      obtain ⟨hw, hmem, hfr⟩ := hw
      have hw' : h.1[q]? = some (0, ci) := by rw [hi.1]; exact hw
      have ek : ∀ σ : Nat → Int, (sval σ (none, (kk : Int))).toNat = kk := fun σ => by
        show ((kk : Int)).toNat = kk
        exact Int.toNat_natCast kk
      simp only [zins, zputf, hw', if_true]
      split at hc
      · rename_i f e
        obtain ⟨x, rfl, hx⟩ := hu
        rw [e]
        split at hc
        · rename_i hin
          have hb := sin_ok hin (siv_ok hk hx).1 (siv_ok hk hx).2
          rw [← sIvO hw] at hb
          exact hC _ _ _ _ hc σ l' _ _ ⟨swr_ok hk trivial (ek σ) hx, hl, ht, hi.set hb.1 hb.2 hfr (Nat.zero_le _), hm.set hmem, hb0⟩
        · cases hc
      · rename_i b e
        obtain ⟨x, rfl, hx⟩ := hu
        rw [e]
        exact hC _ _ _ _ hc σ l' _ _ ⟨swl_ok hk trivial (ek σ) hx, by rw [swl_1]; exact hl, by rw [swl_1]; exact ht, hi.setL, hm.setL hmem, by rw [swl_1]; exact hb0⟩
      · rename_i r9 e
        have hu : u = .ref r9 := hu
        subst hu
        rw [e]
        split at hc
        · rename_i hp
          exact hC _ _ _ _ hc σ l' _ _ ⟨swp_ok hk, hl, ht, hi.setP hp, hm.setP hmem, hb0⟩
        · cases hc
      · rename_i f e
        obtain ⟨x, rfl, hx⟩ := hu
        rw [e]
        split at hc
        · rename_i hin
          have hbq := sin_ok hin.1 (siv_ok hk hx).1 (siv_ok hk hx).2
          have hb := sin_ok hin.2 (siv_ok hk hx).1 (siv_ok hk hx).2
          rw [← sIvO hw] at hb
          simp only
          rw [if_pos (sbool hbq.1 hbq.2)]
          exact hC _ _ _ _ hc σ l' _ _ ⟨swr_ok hk trivial (ek σ) hx, hl, ht, hi.set hb.1 hb.2 hfr (Nat.zero_le _), hm.set hmem, hb0⟩
        · cases hc
      · cases hc
    · cases hc
  · cases hc
theorem so_iaload (hC : sHC w md h0 n0 σ0 C Cp) (hG : sHG w md h0 G Gp) (hK : sHK w md h0 n0 σ0 K Kp) {pc : Nat} {l : sL} {st : List sV} {k : sK} {ex : List Nat} {σ : Nat → Int} {l' : zL} {st' : List Value} {h : zH} (hc : sins w md M G K C pc l st k ex (.iaload) = true) (hr : sRel w md h0 n0 σ0 l st k σ l' st' h) : zins (ρ := Prop) False M false none Gp Kp Cp 0 0 pc l' st' h ex (.iaload) := by
  obtain ⟨hk, hl, hs, hi, hm, hb0⟩ := hr
  simp only [sins] at hc
  split at hc
  · rename_i f q r
    obtain ⟨_, _, rfl, ⟨x, rfl, hx⟩, u2, t, rfl, hq, ht⟩ := hs
    have hq : u2 = .ref q := hq
    subst hq
    split at hc
    · rename_i n e
      split at hc
      · rename_i hb
        have hw' : h.1[q]? = some (1, n) := by rw [hi.1]; exact e
        simp only [zins, hw']
        rw [if_neg (sbix hk hx hb.1 hb.2)]
        exact sbin hC (srdA_ok hc hk hx hb.1 e (by decide) hi) hl ht hi hm hb0
      · cases hc
    · cases hc
  · cases hc
theorem so_baload (hC : sHC w md h0 n0 σ0 C Cp) (hG : sHG w md h0 G Gp) (hK : sHK w md h0 n0 σ0 K Kp) {pc : Nat} {l : sL} {st : List sV} {k : sK} {ex : List Nat} {σ : Nat → Int} {l' : zL} {st' : List Value} {h : zH} (hc : sins w md M G K C pc l st k ex (.baload) = true) (hr : sRel w md h0 n0 σ0 l st k σ l' st' h) : zins (ρ := Prop) False M false none Gp Kp Cp 0 0 pc l' st' h ex (.baload) := by
  obtain ⟨hk, hl, hs, hi, hm, hb0⟩ := hr
  simp only [sins] at hc
  split at hc
  · rename_i f q r
    obtain ⟨_, _, rfl, ⟨x, rfl, hx⟩, u2, t, rfl, hq, ht⟩ := hs
    have hq : u2 = .ref q := hq
    subst hq
    split at hc
    · rename_i n e
      split at hc
      · rename_i hb
        have hw' : h.1[q]? = some (2, n) := by rw [hi.1]; exact e
        simp only [zins, hw']
        rw [if_neg (sbix hk hx hb.1 hb.2)]
        exact sbin hC (srdA_ok hc hk hx hb.1 e (by decide) hi) hl ht hi hm hb0
      · cases hc
    · rename_i n e
      split at hc
      · rename_i hb
        have hw' : h.1[q]? = some (3, n) := by rw [hi.1]; exact e
        simp only [zins, hw']
        rw [if_neg (sbix hk hx hb.1 hb.2)]
        exact sbin hC (srdA_ok hc hk hx hb.1 e (by decide) hi) hl ht hi hm hb0
      · cases hc
    · cases hc
  · cases hc
theorem so_laload (hC : sHC w md h0 n0 σ0 C Cp) (hG : sHG w md h0 G Gp) (hK : sHK w md h0 n0 σ0 K Kp) {pc : Nat} {l : sL} {st : List sV} {k : sK} {ex : List Nat} {σ : Nat → Int} {l' : zL} {st' : List Value} {h : zH} (hc : sins w md M G K C pc l st k ex (.laload) = true) (hr : sRel w md h0 n0 σ0 l st k σ l' st' h) : zins (ρ := Prop) False M false none Gp Kp Cp 0 0 pc l' st' h ex (.laload) := by
  obtain ⟨hk, hl, hs, hi, hm, hb0⟩ := hr
  simp only [sins] at hc
  split at hc
  · rename_i f q r
    obtain ⟨_, _, rfl, ⟨x, rfl, hx⟩, u2, t, rfl, hq, ht⟩ := hs
    have hq : u2 = .ref q := hq
    subst hq
    split at hc
    · rename_i n e
      split at hc
      · rename_i hb
        have hw' : h.1[q]? = some (4, n) := by rw [hi.1]; exact e
        simp only [zins, hw']
        rw [if_neg (sbix hk hx hb.1 hb.2)]
        exact sbinL hC (srdL_ok hc hk hx.1 (show (sval σ f).toNat = x.toNatClampNeg from by rw [← hx.2]; rfl)) hl ht hi hm hb0
      · cases hc
    · cases hc
  · cases hc
theorem so_iastore (hC : sHC w md h0 n0 σ0 C Cp) (hG : sHG w md h0 G Gp) (hK : sHK w md h0 n0 σ0 K Kp) {pc : Nat} {l : sL} {st : List sV} {k : sK} {ex : List Nat} {σ : Nat → Int} {l' : zL} {st' : List Value} {h : zH} (hc : sins w md M G K C pc l st k ex (.iastore) = true) (hr : sRel w md h0 n0 σ0 l st k σ l' st' h) : zins (ρ := Prop) False M false none Gp Kp Cp 0 0 pc l' st' h ex (.iastore) := by
  obtain ⟨hk, hl, hs, hi, hm, hb0⟩ := hr
  simp only [sins] at hc
  split at hc
  · rename_i v f q r
    obtain ⟨_, _, rfl, ⟨y, rfl, hy⟩, _, _, rfl, ⟨x, rfl, hx⟩, u2, t, rfl, hq, ht⟩ := hs
    have hq : u2 = .ref q := hq
    subst hq
    split at hc
    · rename_i n e
      split at hc
      · rename_i hb
        obtain ⟨c1, c2, c3, c4, c5⟩ := hb
        have hw' : h.1[q]? = some (1, n) := by rw [hi.1]; exact e
        simp only [zins, hw']
        rw [if_neg (sbix hk hx c1 c2)]
        have ax := six_ok hk hx
        have ej : (sval σ f).toNat = x.toNatClampNeg := by
          rw [← hx.2]
          rfl
        have ay := siv_ok hk hy
        have hv : (sgAt (w.2.2.2.1 q) x.toNatClampNeg).1 ≤ y.toInt ∧ y.toInt ≤ (sgAt (w.2.2.2.1 q) x.toNatClampNeg).2 := by
          rw [Bool.or_eq_true] at c5
          rcases c5 with c5 | c5
          · have hv := sgIn_ok c5 (k := x.toNatClampNeg) (by rw [← ej, ← hx.2]; omega) (by rw [← ej, ← hx.2]; omega)
            omega
          · obtain ⟨t9, ht9, hc9⟩ := List.any_eq_true.mp c5
            simp only [Bool.and_eq_true, beq_iff_eq, decide_eq_true_eq] at hc9
            obtain ⟨g1, g2, g3, g4, g5⟩ := hc9
            obtain ⟨b1, b2, b3⟩ := hk.2.2.1 t9 ht9
            rw [g1, g2, ← hy.2] at b3
            have e5 : sval σ t9.2.1 = sval σ f + (t9.2.1.2 - f.2) := by
              have h7 := sval_c σ f (t9.2.1.2 - f.2)
              have h8 : (f.1, f.2 + (t9.2.1.2 - f.2)) = t9.2.1 := by
                rw [← g3]
                refine Prod.ext rfl ?_
                show f.2 + (t9.2.1.2 - f.2) = t9.2.1.2
                omega
              rw [h8] at h7
              exact h7
            have hz := hi.2.2.1 q (sval σ t9.2.1).toNat
            rw [b3, sIvA e (by decide)] at hz
            have hr := List.all_eq_true.mp g5 (x.toNatClampNeg - (six k f).1.toNat) (List.mem_range.mpr (by rw [← ej, ← hx.2]; omega))
            have e6 : (six k f).1.toNat + (x.toNatClampNeg - (six k f).1.toNat) = x.toNatClampNeg := by
              rw [← ej, ← hx.2]
              omega
            have ex9 := hx.2
            have e7 : (sval σ t9.2.1).toNat = x.toNatClampNeg + (t9.2.1.2 - f.2).toNat := by
              rw [← ej]
              omega
            rw [e6, ← e7] at hr
            exact sin_ok hr hz.1 hz.2
        exact hC _ _ _ _ hc σ l' _ _ ⟨swr_ok hk hx.1 ej hy, hl, ht, hi.set (by rw [sIvA e (by decide)]; omega) (by rw [sIvA e (by decide)]; omega) c4 (by rw [← ej, ← hx.2]; omega), hm.set (smemR_ok c3 (by rw [← ej, ← hx.2]; omega) (by rw [← ej, ← hx.2]; omega)), hb0⟩
      · cases hc
    · cases hc
  · cases hc
theorem so_lastore (hC : sHC w md h0 n0 σ0 C Cp) (hG : sHG w md h0 G Gp) (hK : sHK w md h0 n0 σ0 K Kp) {pc : Nat} {l : sL} {st : List sV} {k : sK} {ex : List Nat} {σ : Nat → Int} {l' : zL} {st' : List Value} {h : zH} (hc : sins w md M G K C pc l st k ex (.lastore) = true) (hr : sRel w md h0 n0 σ0 l st k σ l' st' h) : zins (ρ := Prop) False M false none Gp Kp Cp 0 0 pc l' st' h ex (.lastore) := by
  obtain ⟨hk, hl, hs, hi, hm, hb0⟩ := hr
  simp only [sins] at hc
  split at hc
  · rename_i b f q r
    obtain ⟨_, _, rfl, ⟨y, rfl, hy⟩, _, _, rfl, ⟨x, rfl, hx⟩, u2, t, rfl, hq, ht⟩ := hs
    have hq : u2 = .ref q := hq
    subst hq
    split at hc
    · rename_i n e
      split at hc
      · rename_i hb
        have hw' : h.1[q]? = some (4, n) := by rw [hi.1]; exact e
        simp only [zins, hw']
        rw [if_neg (sbix hk hx hb.1 hb.2.1)]
        have ax := six_ok hk hx
        have ej : (sval σ f).toNat = x.toNatClampNeg := by
          rw [← hx.2]
          rfl
        exact hC _ _ _ _ hc σ l' _ _ ⟨swl_ok hk hx.1 ej hy, by rw [swl_1]; exact hl, by rw [swl_1]; exact ht, hi.setL, hm.setL (smemR_ok hb.2.2 (by rw [← ej, ← hx.2]; omega) (by rw [← ej, ← hx.2]; omega)), by rw [swl_1]; exact hb0⟩
      · cases hc
    · cases hc
  · cases hc
theorem sand1 (x : Int32) : 0 ≤ (x &&& 1).toInt ∧ (x &&& 1).toInt ≤ 1 := by
  have h := sand_r x 1 (by decide)
  rw [show (1 : Int32).toInt = 1 from by decide] at h
  exact h
theorem sand2 {x : Int32} (h1 : 0 ≤ x.toInt) (h2 : x.toInt ≤ 1) : x &&& 1 = x := by
  rcases sbool h1 h2 with rfl | rfl <;> decide
theorem so_bastore (hC : sHC w md h0 n0 σ0 C Cp) (hG : sHG w md h0 G Gp) (hK : sHK w md h0 n0 σ0 K Kp) {pc : Nat} {l : sL} {st : List sV} {k : sK} {ex : List Nat} {σ : Nat → Int} {l' : zL} {st' : List Value} {h : zH} (hc : sins w md M G K C pc l st k ex (.bastore) = true) (hr : sRel w md h0 n0 σ0 l st k σ l' st' h) : zins (ρ := Prop) False M false none Gp Kp Cp 0 0 pc l' st' h ex (.bastore) := by
  obtain ⟨hk, hl, hs, hi, hm, hb0⟩ := hr
  simp only [sins] at hc
  split at hc
  · rename_i v f q r
    obtain ⟨_, _, rfl, ⟨y, rfl, hy⟩, _, _, rfl, ⟨x, rfl, hx⟩, u2, t, rfl, hq, ht⟩ := hs
    have hq : u2 = .ref q := hq
    subst hq
    split at hc
    · rename_i n e
      split at hc
      · rename_i hb
        obtain ⟨c1, c2, c3, c4, c5⟩ := hb
        have hw' : h.1[q]? = some (2, n) := by rw [hi.1]; exact e
        simp only [zins, hw']
        rw [if_neg (sbix hk hx c1 c2)]
        have ax := six_ok hk hx
        have ej : (sval σ f).toNat = x.toNatClampNeg := by
          rw [← hx.2]
          rfl
        have hv := sgIn_ok c5 (k := x.toNatClampNeg) (by rw [← ej, ← hx.2]; omega) (by rw [← ej, ← hx.2]; omega)
        have ay := si2b y
        have hv1 : (sgAt (w.2.2.2.1 q) x.toNatClampNeg).1 ≤ -128 := hv.1
        have hv2 : 127 ≤ (sgAt (w.2.2.2.1 q) x.toNatClampNeg).2 := hv.2
        exact hC _ _ _ _ hc σ l' _ _ ⟨sdr_ok (h := h) hk (fun a ha => zu2_row ha) rfl rfl, hl, ht, hi.set (by rw [sIvA e (by decide)]; omega) (by rw [sIvA e (by decide)]; omega) c4 (by rw [← ej, ← hx.2]; omega), hm.set (smemR_ok c3 (by rw [← ej, ← hx.2]; omega) (by rw [← ej, ← hx.2]; omega)), hb0⟩
      · cases hc
    · rename_i n e
      split at hc
      · rename_i hb
        obtain ⟨c1, c2, c3, c4, c5, c6⟩ := hb
        have hw' : h.1[q]? = some (3, n) := by rw [hi.1]; exact e
        simp only [zins, hw']
        rw [if_neg (sbix hk hx c1 c2)]
        have ax := six_ok hk hx
        have ej : (sval σ f).toNat = x.toNatClampNeg := by
          rw [← hx.2]
          rfl
        have hv := sgIn_ok c5 (k := x.toNatClampNeg) (by rw [← ej, ← hx.2]; omega) (by rw [← ej, ← hx.2]; omega)
        have ay := sin_ok c6 (siv_ok hk hy).1 (siv_ok hk hy).2
        have hv1 : (sgAt (w.2.2.2.1 q) x.toNatClampNeg).1 ≤ 0 := hv.1
        have hv2 : 1 ≤ (sgAt (w.2.2.2.1 q) x.toNatClampNeg).2 := hv.2
        have ay1 : 0 ≤ y.toInt := ay.1
        have ay2 : y.toInt ≤ 1 := ay.2
        rw [sand2 ay1 ay2]
        exact hC _ _ _ _ hc σ l' _ _ ⟨swr_ok hk hx.1 ej hy, hl, ht, hi.set (by rw [sIvA e (by decide)]; omega) (by rw [sIvA e (by decide)]; omega) c4 (by rw [← ej, ← hx.2]; omega), hm.set (smemR_ok c3 (by rw [← ej, ← hx.2]; omega) (by rw [← ej, ← hx.2]; omega)), hb0⟩
      · cases hc
    · cases hc
  · cases hc
theorem so_arraylength (hC : sHC w md h0 n0 σ0 C Cp) (hG : sHG w md h0 G Gp) (hK : sHK w md h0 n0 σ0 K Kp) {pc : Nat} {l : sL} {st : List sV} {k : sK} {ex : List Nat} {σ : Nat → Int} {l' : zL} {st' : List Value} {h : zH} (hc : sins w md M G K C pc l st k ex (.arraylength) = true) (hr : sRel w md h0 n0 σ0 l st k σ l' st' h) : zins (ρ := Prop) False M false none Gp Kp Cp 0 0 pc l' st' h ex (.arraylength) := by
  obtain ⟨hk, hl, hs, hi, hm, hb0⟩ := hr
  simp only [sins] at hc
  split at hc
  · rename_i q r
    obtain ⟨u2, t, rfl, hq, ht⟩ := hs
    have hq : u2 = .ref q := hq
    subst hq
    split at hc
    · rename_i n e
      have hw' : h.1[q]? = some (1, n) := by rw [hi.1]; exact e
      simp only [zins, hw']
      exact hC _ _ _ _ hc σ l' _ h ⟨hk, hl, ⟨_, _, rfl, ⟨_, rfl, trivial, rfl⟩, ht⟩, hi, hm, hb0⟩
    · rename_i n e
      have hw' : h.1[q]? = some (2, n) := by rw [hi.1]; exact e
      simp only [zins, hw']
      exact hC _ _ _ _ hc σ l' _ h ⟨hk, hl, ⟨_, _, rfl, ⟨_, rfl, trivial, rfl⟩, ht⟩, hi, hm, hb0⟩
    · rename_i n e
      have hw' : h.1[q]? = some (3, n) := by rw [hi.1]; exact e
      simp only [zins, hw']
      exact hC _ _ _ _ hc σ l' _ h ⟨hk, hl, ⟨_, _, rfl, ⟨_, rfl, trivial, rfl⟩, ht⟩, hi, hm, hb0⟩
    · cases hc
  · cases hc
theorem so_invokevirtual {idx : Nat} (hC : sHC w md h0 n0 σ0 C Cp) (hG : sHG w md h0 G Gp) (hK : sHK w md h0 n0 σ0 K Kp) {pc : Nat} {l : sL} {st : List sV} {k : sK} {ex : List Nat} {σ : Nat → Int} {l' : zL} {st' : List Value} {h : zH} (hc : sins w md M G K C pc l st k ex (.invokevirtual idx) = true) (hr : sRel w md h0 n0 σ0 l st k σ l' st' h) : zins (ρ := Prop) False M false none Gp Kp Cp 0 0 pc l' st' h ex (.invokevirtual idx) := by
  obtain ⟨hk, hl, hs, hi, hm, hb0⟩ := hr
  simp only [sins] at hc
  split at hc
  · rename_i mi n ci p1 p2
    split at hc
    · rename_i q rest hd
      split at hc
      · rename_i hw
        have hw' : h.1[q]? = some (0, ci) := by rw [hi.1]; exact hw.1
        have htd := hs.tk n
        rw [hd] at htd
        obtain ⟨h1, v9, t, e9, hv, ht⟩ := htd
        have hv : v9 = .ref q := hv
        subst hv
        have hlen : (st'.take n).length = n := by rw [h1.len]; exact hw.2
        obtain ⟨⟨b1, b2, b3⟩, b4⟩ := scall_ok (M := M) hC hG hc hk hl ⟨_, _, rfl, rfl, h1.rev⟩ ht hi hm hb0
        simp only [zins, e9]
        rw [if_pos ⟨b1, hlen, b2, b3, hw'⟩]
        exact b4
      · cases hc
    · cases hc
  · cases hc
theorem so_invokespecial {idx : Nat} (hC : sHC w md h0 n0 σ0 C Cp) (hG : sHG w md h0 G Gp) (hK : sHK w md h0 n0 σ0 K Kp) {pc : Nat} {l : sL} {st : List sV} {k : sK} {ex : List Nat} {σ : Nat → Int} {l' : zL} {st' : List Value} {h : zH} (hc : sins w md M G K C pc l st k ex (.invokespecial idx) = true) (hr : sRel w md h0 n0 σ0 l st k σ l' st' h) : zins (ρ := Prop) False M false none Gp Kp Cp 0 0 pc l' st' h ex (.invokespecial idx) := by
  obtain ⟨hk, hl, hs, hi, hm, hb0⟩ := hr
  simp only [sins] at hc
  split at hc
  · rename_i mi n p1 p2
    split at hc
    · rename_i q rest hd
      split at hc
      · rename_i hw
        have htd := hs.tk n
        rw [hd] at htd
        obtain ⟨h1, v9, t, e9, hv, ht⟩ := htd
        have hv : v9 = .ref q := hv
        subst hv
        have hlen : (st'.take n).length = n := by rw [h1.len]; exact hw
        obtain ⟨⟨b1, b2, b3⟩, b4⟩ := scall_ok (M := M) hC hG hc hk hl ⟨_, _, rfl, rfl, h1.rev⟩ ht hi hm hb0
        simp only [zins, e9]
        rw [if_pos ⟨b1, hlen, b2, b3⟩]
        exact b4
      · cases hc
    · cases hc
  · cases hc
theorem so_invokestatic {idx : Nat} (hC : sHC w md h0 n0 σ0 C Cp) (hG : sHG w md h0 G Gp) (hK : sHK w md h0 n0 σ0 K Kp) {pc : Nat} {l : sL} {st : List sV} {k : sK} {ex : List Nat} {σ : Nat → Int} {l' : zL} {st' : List Value} {h : zH} (hc : sins w md M G K C pc l st k ex (.invokestatic idx) = true) (hr : sRel w md h0 n0 σ0 l st k σ l' st' h) : zins (ρ := Prop) False M false none Gp Kp Cp 0 0 pc l' st' h ex (.invokestatic idx) := by
  obtain ⟨hk, hl, hs, hi, hm, hb0⟩ := hr
  simp only [sins] at hc
  split at hc
  · rename_i mi n p1 p2 p3
    split at hc
    · rename_i hw
      obtain ⟨h1, h2⟩ := hs.tk n
      have hlen : (st'.take n).length = n := by rw [h1.len]; exact hw
      obtain ⟨⟨b1, b2, b3⟩, b4⟩ := scall_ok (M := M) hC hG hc hk hl h1.rev h2 hi hm hb0
      simp only [zins]
      rw [if_pos ⟨b1, hlen, b2, b3⟩]
      exact b4
    · cases hc
  · rename_i kk p1 p2 p3 p4 p5
    split at hc
    · obtain ⟨_, _, rfl, ⟨y, rfl, hy⟩, _, t, rfl, ⟨x, rfl, hx⟩, ht⟩ := hs
      split at hc
      · rename_i h8
        simp only [zins]
        rw [if_pos (by rw [swd_ok ht]; exact h8)]
        split at hc
        · rename_i e
          rw [if_pos e]
          obtain ⟨b1, b2⟩ := sifL_ok hc hk hx hy
          split
          · rename_i e2
            exact sbch hC (b1 (Int32.lt_iff_toInt_lt.mp e2)) hl ⟨_, _, rfl, ⟨_, rfl, hy⟩, ht⟩ hi hm hb0
          · rename_i e2
            exact sbch hC (b2 (fun e9 => e2 (Int32.lt_iff_toInt_lt.mpr e9))) hl ⟨_, _, rfl, ⟨_, rfl, hx⟩, ht⟩ hi hm hb0
        · rename_i e
          rw [if_neg e]
          obtain ⟨b1, b2⟩ := sifL_ok hc hk hy hx
          split
          · rename_i e2
            exact sbch hC (b1 (Int32.lt_iff_toInt_lt.mp e2)) hl ⟨_, _, rfl, ⟨_, rfl, hy⟩, ht⟩ hi hm hb0
          · rename_i e2
            exact sbch hC (b2 (fun e9 => e2 (Int32.lt_iff_toInt_lt.mpr e9))) hl ⟨_, _, rfl, ⟨_, rfl, hx⟩, ht⟩ hi hm hb0
      · cases hc
    · cases hc
  · split at hc
    · rename_i fn fd q1 fs q0 rest
      obtain ⟨_, _, rfl, ⟨xn, rfl, hxn⟩, _, _, rfl, ⟨xd, rfl, hxd⟩, u1, _, rfl, hq1, _, _, rfl, ⟨xs, rfl, hxs⟩, u0, t, rfl, hq0, ht⟩ := hs
      have hq1 : u1 = .ref q1 := hq1
      have hq0 : u0 = .ref q0 := hq0
      subst hq1
      subst hq0
      split at hc
      · rename_i n0 n1 e0 e1
        split at hc
        · rename_i hb
          obtain ⟨c8, d1, d2, d3, d4, d5, d6, d8, d7⟩ := hb
          have a1 := siv_ok hk hxs
          have a2 := siv_ok hk hxd
          have a3 := siv_ok hk hxn
          have f0 : h.1[q0]? = some (1, n0) := by rw [hi.1]; exact e0
          have f1 : h.1[q1]? = some (1, n1) := by rw [hi.1]; exact e1
          have z0 : (0 : Int32).toInt = 0 := by decide
          have nn : ∀ x : Int32, 0 ≤ x.toInt → ¬ x < 0 := fun x hx hlt => by
            have := Int32.lt_iff_toInt_lt.mp hlt
            rw [z0] at this
            omega
          have tn : ∀ x : Int32, x.toNatClampNeg = x.toInt.toNat := fun _ => rfl
          simp only [zins, f0, f1]
          rw [if_pos ⟨by rw [swd_ok ht]; exact c8, trivial, nn xs (by omega), nn xd (by omega), nn xn (by omega), by rw [tn, tn]; omega, by rw [tn, tn]; omega⟩]
          unfold sgC at d7
          split at d7
          · rename_i iv eiv
            refine hC _ _ _ _ hc σ l' _ _ ⟨sdr_ok (h := h) hk (fun a ha => zur_row ha) rfl rfl, hl, ht, ⟨hi.1, hi.2.1, fun q k' => ?_, sfree_ok d8 (h := h) (fun c i hc => by
              rcases hc with hc | hc
              · exact zur_ne hc i
              · omega) hi.2.2.2⟩, fun q k' hq' => ?_, hb0⟩
            · show (sIv w q k').1 ≤ (zur h.2.1 q1 _ q k').toInt ∧ (zur h.2.1 q1 _ q k').toInt ≤ (sIv w q k').2
              by_cases e : q = q1
              · subst e
                rw [zur_at, sIvA e1 (by decide)]
                unfold va_cpy
                split
                · rename_i hcp
                  have hv := hi.2.2.1 q0 (xs.toNatClampNeg + (k' - xd.toNatClampNeg))
                  rw [sIvA e0 (by decide)] at hv
                  rw [tn, tn] at hcp
                  have u1 := sgHu_ok eiv (k := xs.toNatClampNeg + (k' - xd.toNatClampNeg)) (Nat.zero_le _) (by rw [tn, tn]; omega)
                  have u2 := sgIn_ok d7 (k := k') (Nat.zero_le _) (by omega)
                  omega
                · have hv := hi.2.2.1 q k'
                  rw [sIvA e1 (by decide)] at hv
                  exact hv
              · rw [zur_ne e]
                exact hi.2.2.1 q k'
            · refine ⟨?_, (hm q k' hq').2⟩
              show zur h.2.1 q1 _ q k' = _
              by_cases e : q = q1
              · subst e
                rw [zur_at]
                unfold va_cpy
                split
                · rename_i hcp
                  rw [tn, tn] at hcp
                  rw [smemR_ok d6 (Nat.zero_le k') (by omega)] at hq'
                  cases hq'
                · exact (hm q k' hq').1
              · rw [zur_ne e]
                exact (hm q k' hq').1
          · cases d7
        · cases hc
      · cases hc
    · cases hc
  · cases hc
theorem so_ireturn (hC : sHC w md h0 n0 σ0 C Cp) (hG : sHG w md h0 G Gp) (hK : sHK w md h0 n0 σ0 K Kp) {pc : Nat} {l : sL} {st : List sV} {k : sK} {ex : List Nat} {σ : Nat → Int} {l' : zL} {st' : List Value} {h : zH} (hc : sins w md M G K C pc l st k ex (.ireturn) = true) (hr : sRel w md h0 n0 σ0 l st k σ l' st' h) : zins (ρ := Prop) False M false none Gp Kp Cp 0 0 pc l' st' h ex (.ireturn) := by
  obtain ⟨hk, hl, hs, hi, hm, hb0⟩ := hr
  simp only [sins] at hc
  split at hc
  · obtain ⟨_, t, rfl, ⟨x, rfl, hx⟩, ht⟩ := hs
    have ht : t = [] := ht
    subst ht
    split at hc
    · rename_i e
      simp only [zins, e]
      exact hK _ _ hc σ _ h hk ⟨_, rfl, _, rfl, hx⟩ hi hm hb0
    · rename_i e
      split at hc
      · rename_i hb
        have hv := sin_ok hb (siv_ok hk hx).1 (siv_ok hk hx).2
        have hn : narrow .boolean (.int x) = .int x := by
          rcases sbool hv.1 hv.2 with rfl | rfl <;> decide
        simp only [zins, e]
        rw [if_pos hn]
        exact hK _ _ hc σ _ h hk ⟨_, rfl, _, rfl, hx⟩ hi hm hb0
      · cases hc
    · cases hc
  · cases hc
theorem so_lreturn (hC : sHC w md h0 n0 σ0 C Cp) (hG : sHG w md h0 G Gp) (hK : sHK w md h0 n0 σ0 K Kp) {pc : Nat} {l : sL} {st : List sV} {k : sK} {ex : List Nat} {σ : Nat → Int} {l' : zL} {st' : List Value} {h : zH} (hc : sins w md M G K C pc l st k ex (.lreturn) = true) (hr : sRel w md h0 n0 σ0 l st k σ l' st' h) : zins (ρ := Prop) False M false none Gp Kp Cp 0 0 pc l' st' h ex (.lreturn) := by
  obtain ⟨hk, hl, hs, hi, hm, hb0⟩ := hr
  simp only [sins] at hc
  split at hc
  · obtain ⟨_, t, rfl, ⟨x, rfl, hx⟩, ht⟩ := hs
    have ht : t = [] := ht
    subst ht
    split at hc
    · rename_i e
      simp only [zins]
      rw [if_pos e]
      exact hK _ _ hc σ _ h hk ⟨_, rfl, _, rfl, hx⟩ hi hm hb0
    · cases hc
  · cases hc
theorem so_return_ (hC : sHC w md h0 n0 σ0 C Cp) (hG : sHG w md h0 G Gp) (hK : sHK w md h0 n0 σ0 K Kp) {pc : Nat} {l : sL} {st : List sV} {k : sK} {ex : List Nat} {σ : Nat → Int} {l' : zL} {st' : List Value} {h : zH} (hc : sins w md M G K C pc l st k ex (.return_) = true) (hr : sRel w md h0 n0 σ0 l st k σ l' st' h) : zins (ρ := Prop) False M false none Gp Kp Cp 0 0 pc l' st' h ex (.return_) := by
  obtain ⟨hk, hl, hs, hi, hm, hb0⟩ := hr
  simp only [sins] at hc
  split at hc
  · have hs : st' = [] := hs
    subst hs
    split at hc
    · rename_i e
      simp only [zins]
      rw [if_pos e]
      exact hK _ _ hc σ _ h hk rfl hi hm hb0
    · cases hc
  · cases hc
theorem sins_ok (hC : sHC w md h0 n0 σ0 C Cp) (hG : sHG w md h0 G Gp) (hK : sHK w md h0 n0 σ0 K Kp) {pc : Nat} {l : sL} {st : List sV} {k : sK} {ex : List Nat} {i : Instr} {σ : Nat → Int} {l' : zL} {st' : List Value} {h : zH} (hc : sins w md M G K C pc l st k ex i = true) (hr : sRel w md h0 n0 σ0 l st k σ l' st' h) : zins (ρ := Prop) False M false none Gp Kp Cp 0 0 pc l' st' h ex i := by
  cases i
  case iconst => exact so_iconst hC hG hK hc hr
  case bipush => exact so_bipush hC hG hK hc hr
  case sipush => exact so_sipush hC hG hK hc hr
  case lconst => exact so_lconst hC hG hK hc hr
  case ldc => exact so_ldc hC hG hK hc hr
  case ldc_w => exact so_ldc_w hC hG hK hc hr
  case ldc2_w => exact so_ldc2_w hC hG hK hc hr
  case iload => exact so_iload hC hG hK hc hr
  case iload_n => exact so_iload_n hC hG hK hc hr
  case lload => exact so_lload hC hG hK hc hr
  case lload_n => exact so_lload_n hC hG hK hc hr
  case aload => exact so_aload hC hG hK hc hr
  case aload_n => exact so_aload_n hC hG hK hc hr
  case istore => exact so_istore hC hG hK hc hr
  case istore_n => exact so_istore_n hC hG hK hc hr
  case lstore => exact so_lstore hC hG hK hc hr
  case lstore_n => exact so_lstore_n hC hG hK hc hr
  case astore => exact so_astore hC hG hK hc hr
  case astore_n => exact so_astore_n hC hG hK hc hr
  case iinc => exact so_iinc hC hG hK hc hr
  case iadd => exact so_iadd hC hG hK hc hr
  case isub => exact so_isub hC hG hK hc hr
  case imul => exact so_imul hC hG hK hc hr
  case iand => exact so_iand hC hG hK hc hr
  case ior => exact so_ior hC hG hK hc hr
  case ixor => exact so_ixor hC hG hK hc hr
  case ishl => exact so_ishl hC hG hK hc hr
  case ishr => exact so_ishr hC hG hK hc hr
  case iushr => exact so_iushr hC hG hK hc hr
  case idiv => exact so_idiv hC hG hK hc hr
  case irem => exact so_irem hC hG hK hc hr
  case ineg => exact so_ineg hC hG hK hc hr
  case ladd => exact so_ladd hC hG hK hc hr
  case lsub => exact so_lsub hC hG hK hc hr
  case lmul => exact so_lmul hC hG hK hc hr
  case land => exact so_land hC hG hK hc hr
  case ldiv => exact so_ldiv hC hG hK hc hr
  case lrem => exact so_lrem hC hG hK hc hr
  case lneg => exact so_lneg hC hG hK hc hr
  case i2l => exact so_i2l hC hG hK hc hr
  case l2i => exact so_l2i hC hG hK hc hr
  case i2b => exact so_i2b hC hG hK hc hr
  case dup => exact so_dup hC hG hK hc hr
  case pop => exact so_pop hC hG hK hc hr
  case dup2 => exact so_dup2 hC hG hK hc hr
  case goto => exact so_goto hC hG hK hc hr
  case tableswitch => exact so_tableswitch hC hG hK hc hr
  case lookupswitch => exact so_lookupswitch hC hG hK hc hr
  case getfield => exact so_getfield hC hG hK hc hr
  case putfield => exact so_putfield hC hG hK hc hr
  case iaload => exact so_iaload hC hG hK hc hr
  case laload => exact so_laload hC hG hK hc hr
  case baload => exact so_baload hC hG hK hc hr
  case iastore => exact so_iastore hC hG hK hc hr
  case lastore => exact so_lastore hC hG hK hc hr
  case bastore => exact so_bastore hC hG hK hc hr
  case arraylength => exact so_arraylength hC hG hK hc hr
  case invokevirtual => exact so_invokevirtual hC hG hK hc hr
  case invokespecial => exact so_invokespecial hC hG hK hc hr
  case invokestatic => exact so_invokestatic hC hG hK hc hr
  case ireturn => exact so_ireturn hC hG hK hc hr
  case lreturn => exact so_lreturn hC hG hK hc hr
  case return_ => exact so_return_ hC hG hK hc hr
  case ifCond c n =>
    cases c
    case eq => exact so_if_eq hC hG hK hc hr
    case ne => exact so_if_ne hC hG hK hc hr
    case lt => exact so_if_lt hC hG hK hc hr
    case ge => exact so_if_ge hC hG hK hc hr
    case gt => exact so_if_gt hC hG hK hc hr
    case le => exact so_if_le hC hG hK hc hr
  case if_icmp c n =>
    cases c
    case eq => exact so_ic_eq hC hG hK hc hr
    case ne => exact so_ic_ne hC hG hK hc hr
    case lt => exact so_ic_lt hC hG hK hc hr
    case ge => exact so_ic_ge hC hG hK hc hr
    case gt => exact so_ic_gt hC hG hK hc hr
    case le => exact so_ic_le hC hG hK hc hr
  all_goals cases hc
end SO

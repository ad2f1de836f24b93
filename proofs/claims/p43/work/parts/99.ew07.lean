theorem pL_md {md : sM} {h h' : zH} (hm : sMd md h h') {q j : Nat} (hb : smem md q j = false) : pL h' q j = pL h q j := congrArg Int64.toInt (hm q j hb).2.2
theorem kR_drop {kd pt ot : Nat → Int} {b : Nat} : ∀ (m : Nat) {e : List Int}, kR kd pt ot b e → kR kd pt ot b (e.drop m)
  | 0, _, h => h
  | m + 1, [], h => trivial
  | m + 1, x :: e, h => kR_drop m h.1
theorem zv_lm : zcvB 240 29 12 1 241 = true := by decide +kernel
def lwE (nm : Nat → Int) (b : Nat) (e : List Int) (h : zH) : Prop := (∃ st, evS nm e = some st ∧ pI h 0 56 = 0 ∧ st = (ixs b e).map (fun i : Nat => pL h 28 i) ∧ ∀ v, v ∈ st → inW v) ∨ (evS nm e = none ∧ pI h 0 56 = 1)
theorem zLawLM {l : Launch} {Γ : zG} {d : Nat} (hd : 2 ≤ d) {j : Nat} (hj : j < 3) {b : Nat} {e : List Int} {nm : Nat → Int} (hb : b + e.length ≤ 64) (he9 : ∀ x, x ∈ e → x ≤ 9999) {h0 : zH} (hk : kR (pI h0 22) (pI h0 23) (pI h0 24) b e) (ht : pI h0 21 j = ((b + e.length : Nat) : Int)) (hnm : ∀ i, i < 7 → pL h0 27 i = nm i ∧ inW (nm i)) {Kp : Option Value → zH → Prop} (hK : ∀ (lo : zL) (h : zH), sInv swM h → sMd [(0, 56, 57), (28, 0, 64)] h0 h → zget lo 0 = some (.ref 0) → zI lo 1 (j : Int) → lwE nm b e h → zX l Γ false (d + 2) (zhd 240) (zMQ' Γ false (zhd 240) Kp) 0 0 39 lo [] h) : ∀ (m : Nat) (lo : zL) (h : zH), m ≤ e.length → sInv swM h → sMd [(0, 56, 57), (28, 0, 64)] h0 h → zget lo 0 = some (.ref 0) → zI lo 1 (j : Int) → zI lo 2 ((b + (e.length - m) : Nat) : Int) → lwE nm b (e.drop m) h → zX l Γ false (d + 2) (zhd 240) (zMQ' Γ false (zhd 240) Kp) 0 0 12 lo [] h
  | 0, lo, h, hm0, hi, hm, l0, l1, l2, hE => by
    have ej : ((j : Int) + 0).toNat = j := by omega
    refine emX (d := d + 1) (by omega) hi (la := (j : Int)) ⟨by omega, by omega⟩ ⟨by omega, by omega⟩ (tt := ((b + e.length : Nat) : Int)) ⟨by omega, by omega⟩ l0 l1 l2 (by rw [ej, pI_md hm rfl]; exact ht) (by omega) (fun lo' h' hi' hm' o0 o1 => ?_)
    refine hK lo' h' hi' (hm.seq (hm'.sub rfl)) o0 o1 ?_
    have hE : lwE nm b e h := hE
    rcases hE with ⟨st, a1, a2, a3, a4⟩ | ⟨a1, a2⟩
    · refine Or.inl ⟨st, a1, (pI_md hm' rfl).trans a2, ?_, a4⟩
      rw [a3]
      exact List.map_congr_left (fun i _ => (pL_md hm' rfl).symm)
    · exact Or.inr ⟨a1, (pI_md hm' rfl).trans a2⟩
  | m + 1, lo, h, hm0, hi, hm, l0, l1, l2, hE => by
    have ej : ((j : Int) + 0).toNat = j := by omega
    have hlt : m < e.length := by omega
    have ed : e.drop m = e[m] :: e.drop (m + 1) := List.drop_eq_getElem_cons hlt
    have el : (e.drop (m + 1)).length = e.length - (m + 1) := List.length_drop
    have x9 : e[m] ≤ 9999 := he9 _ (List.getElem_mem hlt)
    have kd : kR (pI h0 22) (pI h0 23) (pI h0 24) b (e[m] :: e.drop (m + 1)) := by
      rw [← ed]
      exact kR_drop m hk
    have rN : b + (e.length - (m + 1)) < 64 := by omega
    refine emY (d := d + 1) (by omega) hi (la := (j : Int)) ⟨by omega, by omega⟩ ⟨by omega, by omega⟩ (tt := ((b + e.length : Nat) : Int)) ⟨by omega, by omega⟩ l0 l1 l2 (by rw [ej, pI_md hm rfl]; exact ht) (by omega) (fun lo1 h1 y0 y2 hi1 hm1 o0 o1 o2 s0 s2 => ?_)
    have w1 : ∀ q i, pI h1 q i = pI h q i := fun q i => pI_md hm1 rfl
    have v1 : ∀ q i, pL h1 q i = pL h q i := fun q i => pL_md hm1 rfl
    refine zcallR (mi := 240) (as := [.int y0]) (rest := [.int y2, .ref 28]) (q0 := 0) zv_lm rfl (by show 2 ≤ 8; omega) (by rw [hi1.1]; rfl) ?_
    have fin : ∀ (r : Option Value) (h2 : zH) (y : Int64), r = some (.long y) → sInv swM h2 → sMd [(0, 56, 57)] h1 h2 → (∀ h3, sMd [(28, b + (e.length - (m + 1)), b + (e.length - (m + 1)) + 1)] h2 h3 → pL h3 28 (b + (e.length - (m + 1))) = y.toInt → lwE nm b (e.drop m) h3) → zX l Γ false (d + 2) (zhd 240) (zMQ' Γ false (zhd 240) Kp) 0 0 32 lo1 (r.toList ++ [.int y2, .ref 28]) h2 := fun r h2 y er hi2 hm2 hL => by
      subst er
      refine emZ (d := d + 1) (by omega) (r := b + (e.length - (m + 1))) rN hi2 (la := (j : Int)) ⟨by omega, by omega⟩ (vv := y.toInt) ⟨Int64.le_toInt y, by have := Int64.toInt_lt y; omega⟩ o0 o1 o2 rfl s2 (fun lo3 h3 u0 hi3 hm3 e1 e2 z0 z1 z2 => ?_)
      have M3 : sMd [(0, 56, 57), (28, 0, 64)] h0 h3 := ((hm.seq (hm1.sub rfl)).seq (hm2.sub rfl)).tr hm3 (fun q k hs => by
        obtain ⟨g1, g2, g3⟩ := smem1 hs
        exact smem_of (28, 0, 64) (by decide) ⟨g1.symm, by simp only; omega, by simp only; omega⟩)
      refine zLawLM hd hj hb he9 hk ht hnm hK m lo3 h3 (by omega) hi3 M3 z0 z1 ?_ (hL h3 hm3 (e1.trans e2))
      rw [show b + (e.length - m) = b + (e.length - (m + 1)) + 1 from by omega]
      exact z2
    rcases hE with ⟨st, a1, a2, a3, a4⟩ | ⟨a1, a2⟩
    · refine (zValM (d := d) (by omega) hi1 (b := b) (x := e[m]) (e := e.drop (m + 1)) (st := st) (nm := nm) (kR_eq (fun i _ _ => ⟨(w1 _ _).trans (pI_md hm rfl), (w1 _ _).trans (pI_md hm rfl), (w1 _ _).trans (pI_md hm rfl)⟩) kd) (by omega) x9 (by rw [s0, el]) ((w1 _ _).trans a2) (by rw [a3]; exact List.map_congr_left (fun i _ => (v1 28 i).symm)) a4 (fun i hi7 => ⟨(v1 27 i).trans ((pL_md hm rfl).trans (hnm i hi7).1), (hnm i hi7).2⟩)).mono ?_
      rintro r h2 ⟨y, rfl, hi2, hm2, hv⟩
      refine fin _ h2 y rfl hi2 hm2 (fun h3 hm3 hy => ?_)
      rw [ed]
      rcases hv with ⟨c1, c2, c3⟩ | ⟨c1, c2⟩
      · refine Or.inl ⟨_, (evS_c a1).trans c1, (pI_md hm3 (smem1n (by omega))).trans c3, ?_, fun v hv => ?_⟩
        · rw [ixs_c]
          simp only [List.map_cons]
          rw [el, hy]
          congr 1
          refine List.map_congr_left (fun i hi' => ?_)
          have hb2 : i < b + (e.length - (m + 1)) := by
            have : i ∈ ixs b (e.drop (m + 1)) := by
              unfold ixn at hi'
              split at hi'
              · exact List.mem_of_mem_tail hi'
              · split at hi'
                · exact List.mem_of_mem_tail (List.mem_of_mem_tail hi')
                · exact hi'
            have := ixs_lt this
            omega
          exact ((pL_md hm3 (smem1n (by omega))).trans (pL_md hm2 rfl)).symm
        · rcases List.mem_cons.mp hv with rfl | hv
          · exact c2
          · refine a4 v ?_
            rw [a3]
            obtain ⟨i, hi', rfl⟩ := List.mem_map.mp hv
            refine List.mem_map.mpr ⟨i, ?_, (v1 28 i).symm⟩
            unfold ixn at hi'
            split at hi'
            · exact List.mem_of_mem_tail hi'
            · split at hi'
              · exact List.mem_of_mem_tail (List.mem_of_mem_tail hi')
              · exact hi'
      · exact Or.inr ⟨(evS_c a1).trans c1, (pI_md hm3 (smem1n (by omega))).trans c2⟩
    · refine (vE (d := d) hd hi1 (x := y0) ⟨by omega, by omega⟩ ((w1 _ _).trans a2)).mono ?_
      rintro r h2 ⟨y, rfl, hi2, hm2, c2⟩
      refine fin _ h2 y rfl hi2 hm2 (fun h3 hm3 hy => ?_)
      rw [ed]
      exact Or.inr ⟨evS_n a1, (pI_md hm3 (smem1n (by omega))).trans c2⟩

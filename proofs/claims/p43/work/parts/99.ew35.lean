/-! what is remembered by the reference -/
theorem sIM_t : ((List.range 8).all fun g => decide (sIv swM 29 g = (0, 999)) && (decide (sIv swM 30 g = (0, 999)) && (decide (sIv swM 31 g = (0, 1)) && (List.range 20).all fun k => decide (sIv swM 41 (g + 32 * k) = (0, 999)) && (decide (sIv swM 41 (g + 32 * k + 8) = (0, 999)) && decide (sIv swM 41 (g + 32 * k + 16) = (0, 1)))))) = true := by decide +kernel
theorem sIM_i : ((List.range 8).all fun g => decide (sIv swM 42 g = (0, 999)) && (decide (sIv swM 42 (g + 8) = (0, 999)) && decide (sIv swM 42 (g + 16) = (0, 1)))) = true := by decide +kernel
theorem sIbd {w : sW} {h : zH} (hi : sInv w h) {q j : Nat} {a b : Int} (e : sIv w q j = (a, b)) : a ≤ pI h q j ∧ pI h q j ≤ b := by
  have t := hi.2.2.1 q j
  rw [e] at t
  exact t
theorem sIM_b {h : zH} (hi : sInv swM h) {g : Nat} (hg : g < 8) : (0 ≤ pI h 29 g ∧ pI h 29 g ≤ 999) ∧ (0 ≤ pI h 30 g ∧ pI h 30 g ≤ 999) ∧ (0 ≤ pI h 31 g ∧ pI h 31 g ≤ 1) ∧ ∀ k, k < 20 → (0 ≤ pI h 41 (g + 32 * k) ∧ pI h 41 (g + 32 * k) ≤ 999) ∧ (0 ≤ pI h 41 (g + 32 * k + 8) ∧ pI h 41 (g + 32 * k + 8) ≤ 999) ∧ (0 ≤ pI h 41 (g + 32 * k + 16) ∧ pI h 41 (g + 32 * k + 16) ≤ 1) := by
  have t := zall_r sIM_t hg
  simp only [Bool.and_eq_true, decide_eq_true_eq] at t
  obtain ⟨t1, t2, t3, t4⟩ := t
  refine ⟨sIbd hi t1, sIbd hi t2, sIbd hi t3, fun k hk => ?_⟩
  have u := zall_r t4 hk
  simp only [Bool.and_eq_true, decide_eq_true_eq] at u
  exact ⟨sIbd hi u.1, sIbd hi u.2.1, sIbd hi u.2.2⟩
theorem sIM_c {h : zH} (hi : sInv swM h) {g : Nat} (hg : g < 8) : (0 ≤ pI h 42 g ∧ pI h 42 g ≤ 999) ∧ (0 ≤ pI h 42 (g + 8) ∧ pI h 42 (g + 8) ≤ 999) ∧ (0 ≤ pI h 42 (g + 16) ∧ pI h 42 (g + 16) ≤ 1) := by
  have t := zall_r sIM_i hg
  simp only [Bool.and_eq_true, decide_eq_true_eq] at t
  exact ⟨sIbd hi t.1, sIbd hi t.2.1, sIbd hi t.2.2⟩
/-- a row holds what stands in the first half -/
def rwM (h0 h : zH) (q k g : Nat) : Prop := pI h q (g + 32 * k) = pI h0 29 g ∧ pI h q (g + 32 * k + 8) = pI h0 30 g ∧ pI h q (g + 32 * k + 16) = pI h0 31 g ∧ pI h q (g + 32 * k + 24) = pI h0 33 g
theorem smem4 {q a b c e k j : Nat} (h1 : ¬ (q = k ∧ a = j)) (h2 : ¬ (q = k ∧ b = j)) (h3 : ¬ (q = k ∧ c = j)) (h4 : ¬ (q = k ∧ e = j)) : smem [(q, a, a + 1), (q, b, b + 1), (q, c, c + 1), (q, e, e + 1)] k j = false :=
  smemc (by omega) (smemc (by omega) (smemc (by omega) (smemc (by omega) smem0)))
theorem kePu_s : ((List.range 8).all fun g => (List.range 20).all fun k => ssubB (kePu1_m g k) [(41, 32 * k, 32 * k + 32)]) = true := by decide +kernel
theorem zPutL {l : Launch} {Γ : zG} {d k : Nat} (hk : k < 20) {Kp : Option Value → zH → Prop} {h0 : zH} : ∀ (m g : Nat) (lo : zL) (h : zH), g + m = 8 → sInv swM h → sMd [(41, 32 * k, 32 * k + 32)] h0 h → (∀ j, j < g → rwM h0 h 41 k j) → zget lo 0 = some (.ref 0) → zget lo 1 = some (.ref 41) → zI lo 2 (32 * (k : Int)) → zI lo 3 (g : Int) →
    (∀ h', sInv swM h' → sMd [(41, 32 * k, 32 * k + 32)] h0 h' → (∀ j, j < 8 → rwM h0 h' 41 k j) → Kp none h') → zX l Γ false (d + 1) (zhd 247) (zMQ' Γ false (zhd 247) Kp) 0 0 2 lo [] h
  | 0, g, lo, h, hg, hi, hm, hb, l0, l1, l2, l3, hE => by
    have : g = 8 := by omega
    subst this
    exact kePu2 (d := d) (by omega) hk hi l0 l1 l2 l3 (fun h' i1 m1 => hE h' i1 (hm.seq (m1.sub rfl)) (fun j hj => by
      have b := hb j hj
      unfold rwM at b ⊢
      rw [pI_md m1 rfl, pI_md m1 rfl, pI_md m1 rfl, pI_md m1 rfl]
      exact b))
  | m + 1, g, lo, h, hg, hi, hm, hb, l0, l1, l2, l3, hE => by
    have g8 : g < 8 := by omega
    obtain ⟨b0, b1, b2, -⟩ := sIM_b hi g8
    have ss := zall_r (zall_r kePu_s g8) hk
    have far : ∀ q j, q ≠ 41 → pI h q j = pI h0 q j := fun q j hq => pI_md hm (smemc (by omega) smem0)
    have nx : ∀ (lo' : zL) (h' : zH) (w : Int), sInv swM h' → sMd (kePu1_m g k) h h' → w = pI h 31 g → pI h' 41 (g + 32 * k + 24) = pI h 33 g → pI h' 41 (g + 32 * k + 16) = w → pI h' 41 (g + 32 * k + 8) = pI h 30 g → pI h' 41 (g + 32 * k) = pI h 29 g → zget lo' 0 = some (.ref 0) → zget lo' 1 = some (.ref 41) → zI lo' 2 (32 * (k : Int)) → zI lo' 3 ((g : Int) + 1) → zX l Γ false (d + 1) (zhd 247) (zMQ' Γ false (zhd 247) Kp) 0 0 2 lo' [] h' := fun lo' h' w i1 m1 hw k24 k16 k8 k0 g0 g1 g2 g3 => by
      refine zPutL hk m (g + 1) lo' h' (by omega) i1 (hm.seq (m1.sub ss)) (fun j hj => ?_) g0 g1 g2 (by rw [Int.natCast_add]; exact g3) hE
      by_cases e : j = g
      · subst e
        exact ⟨k0.trans (far _ _ (by decide)), k8.trans (far _ _ (by decide)), (k16.trans hw).trans (far _ _ (by decide)), k24.trans (far _ _ (by decide))⟩
      · obtain ⟨c0, c1, c2, c3⟩ := hb j (by omega)
        exact ⟨(pI_md m1 (smem4 (by omega) (by omega) (by omega) (by omega))).trans c0, (pI_md m1 (smem4 (by omega) (by omega) (by omega) (by omega))).trans c1, (pI_md m1 (smem4 (by omega) (by omega) (by omega) (by omega))).trans c2, (pI_md m1 (smem4 (by omega) (by omega) (by omega) (by omega))).trans c3⟩
    refine kePu1 (d := d) (by omega) g8 hk hi b0 b1 b2 (i32e rfl) l0 l1 l2 l3 rfl rfl rfl rfl (fun lo' h' i1 m1 e k24 k16 k8 k0 g0 g1 g2 g3 => ?_) (fun lo' h' i1 m1 e k24 k16 k8 k0 g0 g1 g2 g3 => ?_)
    · exact nx lo' h' 0 i1 m1 e.symm k24 k16 k8 k0 g0 g1 g2 g3
    · exact nx lo' h' 1 i1 m1 (by omega) k24 k16 k8 k0 g0 g1 g2 g3
theorem zPutM {l : Launch} {Γ : zG} {d k : Nat} (hk : k < 20) {h : zH} (hi : sInv swM h) {x : Int32} (hx : x.toInt = 32 * (k : Int)) : zSem l Γ false (d + 1) (zhd 247) [.ref 0, .ref 41, .int x] h (fun r h' => r = none ∧ sInv swM h' ∧ sMd [(41, 32 * k, 32 * k + 32)] h h' ∧ ∀ g, g < 8 → rwM h h' 41 k g) := by
  refine kePu0 (d := d) (by omega) hk hi hx (fun lo1 h1 i1 m1 l0 l1 l2 l3 => ?_)
  refine zPutL hk 8 0 lo1 h1 rfl i1 sMd.rf (fun j hj => absurd hj (Nat.not_lt_zero j)) l0 l1 l2 l3 (fun h2 i2 m2 hb => ⟨rfl, i2, (m1.sub rfl).seq m2, fun g hg => ?_⟩)
  have b := hb g hg
  unfold rwM at b ⊢
  rw [pI_md m1 rfl, pI_md m1 rfl, pI_md m1 rfl, pI_md m1 rfl] at b
  exact b
theorem kePi_s : ((List.range 8).all fun g => ssubB (kePi1_m g) [(42, 0, 32)]) = true := by decide +kernel
theorem zPuiL {l : Launch} {Γ : zG} {d : Nat} {Kp : Option Value → zH → Prop} {h0 : zH} : ∀ (m g : Nat) (lo : zL) (h : zH), g + m = 8 → sInv swM h → sMd [(42, 0, 32)] h0 h → (∀ j, j < g → rwM h0 h 42 0 j) → zget lo 0 = some (.ref 0) → zget lo 1 = some (.ref 42) → zI lo 2 0 → zI lo 3 (g : Int) →
    (∀ h', sInv swM h' → sMd [(42, 0, 32)] h0 h' → (∀ j, j < 8 → rwM h0 h' 42 0 j) → Kp none h') → zX l Γ false (d + 1) (zhd 247) (zMQ' Γ false (zhd 247) Kp) 0 0 2 lo [] h
  | 0, g, lo, h, hg, hi, hm, hb, l0, l1, l2, l3, hE => by
    have : g = 8 := by omega
    subst this
    exact kePi2 (d := d) (by omega) hi l0 l1 l2 l3 (fun h' i1 m1 => hE h' i1 (hm.seq (m1.sub rfl)) (fun j hj => by
      have b := hb j hj
      unfold rwM at b ⊢
      rw [pI_md m1 rfl, pI_md m1 rfl, pI_md m1 rfl, pI_md m1 rfl]
      exact b))
  | m + 1, g, lo, h, hg, hi, hm, hb, l0, l1, l2, l3, hE => by
    have g8 : g < 8 := by omega
    obtain ⟨b0, b1, b2, -⟩ := sIM_b hi g8
    have ss := zall_r kePi_s g8
    have far : ∀ q j, q ≠ 42 → pI h q j = pI h0 q j := fun q j hq => pI_md hm (smemc (by omega) smem0)
    have nx : ∀ (lo' : zL) (h' : zH) (w : Int), sInv swM h' → sMd (kePi1_m g) h h' → w = pI h 31 g → pI h' 42 (g + 24) = pI h 33 g → pI h' 42 (g + 16) = w → pI h' 42 (g + 8) = pI h 30 g → pI h' 42 g = pI h 29 g → zget lo' 0 = some (.ref 0) → zget lo' 1 = some (.ref 42) → zI lo' 2 0 → zI lo' 3 ((g : Int) + 1) → zX l Γ false (d + 1) (zhd 247) (zMQ' Γ false (zhd 247) Kp) 0 0 2 lo' [] h' := fun lo' h' w i1 m1 hw k24 k16 k8 k0 g0 g1 g2 g3 => by
      refine zPuiL m (g + 1) lo' h' (by omega) i1 (hm.seq (m1.sub ss)) (fun j hj => ?_) g0 g1 g2 (by rw [Int.natCast_add]; exact g3) hE
      by_cases e : j = g
      · subst e
        exact ⟨k0.trans (far _ _ (by decide)), k8.trans (far _ _ (by decide)), (k16.trans hw).trans (far _ _ (by decide)), k24.trans (far _ _ (by decide))⟩
      · obtain ⟨c0, c1, c2, c3⟩ := hb j (by omega)
        exact ⟨(pI_md m1 (smem4 (by omega) (by omega) (by omega) (by omega))).trans c0, (pI_md m1 (smem4 (by omega) (by omega) (by omega) (by omega))).trans c1, (pI_md m1 (smem4 (by omega) (by omega) (by omega) (by omega))).trans c2, (pI_md m1 (smem4 (by omega) (by omega) (by omega) (by omega))).trans c3⟩
    refine kePi1 (d := d) (by omega) g8 hi b0 b1 b2 (i32e rfl) l0 l1 l2 l3 rfl rfl rfl rfl (fun lo' h' i1 m1 e k24 k16 k8 k0 g0 g1 g2 g3 => ?_) (fun lo' h' i1 m1 e k24 k16 k8 k0 g0 g1 g2 g3 => ?_)
    · exact nx lo' h' 0 i1 m1 e.symm k24 k16 k8 k0 g0 g1 g2 g3
    · exact nx lo' h' 1 i1 m1 (by omega) k24 k16 k8 k0 g0 g1 g2 g3
theorem zPutI {l : Launch} {Γ : zG} {d : Nat} {h : zH} (hi : sInv swM h) {x : Int32} (hx : x.toInt = 0) : zSem l Γ false (d + 1) (zhd 247) [.ref 0, .ref 42, .int x] h (fun r h' => r = none ∧ sInv swM h' ∧ sMd [(42, 0, 32)] h h' ∧ ∀ g, g < 8 → rwM h h' 42 0 g) := by
  refine kePi0 (d := d) (by omega) hi hx (fun lo1 h1 i1 m1 l0 l1 l2 l3 => ?_)
  refine zPuiL 8 0 lo1 h1 rfl i1 sMd.rf (fun j hj => absurd hj (Nat.not_lt_zero j)) l0 l1 l2 l3 (fun h2 i2 m2 hb => ⟨rfl, i2, (m1.sub rfl).seq m2, fun g hg => ?_⟩)
  have b := hb g hg
  unfold rwM at b ⊢
  rw [pI_md m1 rfl, pI_md m1 rfl, pI_md m1 rfl, pI_md m1 rfl] at b
  exact b
/-- a row taken back -/
def MTk : sM := [(29, 0, 8), (30, 0, 8), (31, 0, 8), (33, 0, 8)]
theorem keTu_s : ((List.range 8).all fun g => (List.range 20).all fun k => ssubB (keTu1_m g k) MTk && ssubB (keTi1_m g) MTk) = true := by decide +kernel
theorem zTakL {l : Launch} {Γ : zG} {d k : Nat} (hk : k < 20) {Kp : Option Value → zH → Prop} {h0 : zH} : ∀ (m g : Nat) (lo : zL) (h : zH), g + m = 8 → sInv swM h → sMd MTk h0 h → (∀ j, j < g → rwM h h0 41 k j) → zget lo 0 = some (.ref 0) → zget lo 1 = some (.ref 41) → zI lo 2 (32 * (k : Int)) → zI lo 3 (g : Int) →
    (∀ h', sInv swM h' → sMd MTk h0 h' → (∀ j, j < 8 → rwM h' h0 41 k j) → Kp none h') → zX l Γ false (d + 1) (zhd 307) (zMQ' Γ false (zhd 307) Kp) 0 0 2 lo [] h
  | 0, g, lo, h, hg, hi, hm, hb, l0, l1, l2, l3, hE => by
    have : g = 8 := by omega
    subst this
    exact keTu2 (d := d) (by omega) hk hi l0 l1 l2 l3 (fun h' i1 m1 => hE h' i1 (hm.seq (m1.sub rfl)) (fun j hj => by
      have b := hb j hj
      unfold rwM at b ⊢
      rw [pI_md (h' := h') m1 rfl, pI_md (h' := h') m1 rfl, pI_md (h' := h') m1 rfl, pI_md (h' := h') m1 rfl]
      exact b))
  | m + 1, g, lo, h, hg, hi, hm, hb, l0, l1, l2, l3, hE => by
    have g8 : g < 8 := by omega
    obtain ⟨-, -, -, bk⟩ := sIM_b hi g8
    obtain ⟨b0, b1, b2⟩ := bk k hk
    have ss := zall_r (zall_r keTu_s g8) hk
    simp only [Bool.and_eq_true] at ss
    have far : ∀ j, pI h 41 j = pI h0 41 j := fun j => pI_md hm (smemc (by omega) (smemc (by omega) (smemc (by omega) (smemc (by omega) smem0))))
    have nx : ∀ (lo' : zL) (h' : zH) (w : Int), sInv swM h' → sMd (keTu1_m g k) h h' → w = pI h 41 (g + 32 * k + 16) → pI h' 33 g = pI h 41 (g + 32 * k + 24) → pI h' 31 g = w → pI h' 30 g = pI h 41 (g + 32 * k + 8) → pI h' 29 g = pI h 41 (g + 32 * k) → zget lo' 0 = some (.ref 0) → zget lo' 1 = some (.ref 41) → zI lo' 2 (32 * (k : Int)) → zI lo' 3 ((g : Int) + 1) → zX l Γ false (d + 1) (zhd 307) (zMQ' Γ false (zhd 307) Kp) 0 0 2 lo' [] h' := fun lo' h' w i1 m1 hw k24 k16 k8 k0 g0 g1 g2 g3 => by
      refine zTakL hk m (g + 1) lo' h' (by omega) i1 (hm.seq (m1.sub ss.1)) (fun j hj => ?_) g0 g1 g2 (by rw [Int.natCast_add]; exact g3) hE
      by_cases e : j = g
      · subst e
        exact ⟨((far _).symm.trans k0.symm), ((far _).symm.trans k8.symm), ((far _).symm.trans (k16.trans hw).symm), ((far _).symm.trans k24.symm)⟩
      · obtain ⟨c0, c1, c2, c3⟩ := hb j (by omega)
        exact ⟨c0.trans (pI_md m1 (smemc (by omega) (smemc (by omega) (smemc (by omega) (smemc (by omega) smem0))))).symm, c1.trans (pI_md m1 (smemc (by omega) (smemc (by omega) (smemc (by omega) (smemc (by omega) smem0))))).symm, c2.trans (pI_md m1 (smemc (by omega) (smemc (by omega) (smemc (by omega) (smemc (by omega) smem0))))).symm, c3.trans (pI_md m1 (smemc (by omega) (smemc (by omega) (smemc (by omega) (smemc (by omega) smem0))))).symm⟩
    refine keTu1 (d := d) (by omega) g8 hk hi b0 b1 b2 (i32e rfl) l0 l1 l2 l3 rfl rfl rfl rfl (fun lo' h' i1 m1 e k24 k16 k8 k0 g0 g1 g2 g3 => ?_) (fun lo' h' i1 m1 e k24 k16 k8 k0 g0 g1 g2 g3 => ?_)
    · exact nx lo' h' 1 i1 m1 e.symm k24 k16 k8 k0 g0 g1 g2 g3
    · exact nx lo' h' 0 i1 m1 (by omega) k24 k16 k8 k0 g0 g1 g2 g3
theorem zTakM {l : Launch} {Γ : zG} {d k : Nat} (hk : k < 20) {h : zH} (hi : sInv swM h) {x : Int32} (hx : x.toInt = 32 * (k : Int)) : zSem l Γ false (d + 1) (zhd 307) [.ref 0, .ref 41, .int x] h (fun r h' => r = none ∧ sInv swM h' ∧ sMd MTk h h' ∧ ∀ g, g < 8 → rwM h' h 41 k g) := by
  refine keTu0 (d := d) (by omega) hk hi hx (fun lo1 h1 i1 m1 l0 l1 l2 l3 => ?_)
  refine zTakL hk 8 0 lo1 h1 rfl i1 sMd.rf (fun j hj => absurd hj (Nat.not_lt_zero j)) l0 l1 l2 l3 (fun h2 i2 m2 hb => ⟨rfl, i2, (m1.sub rfl).seq m2, fun g hg => ?_⟩)
  have b := hb g hg
  unfold rwM at b ⊢
  rw [pI_md m1 rfl, pI_md m1 rfl, pI_md m1 rfl, pI_md m1 rfl] at b
  exact b
theorem zTaiL {l : Launch} {Γ : zG} {d : Nat} {Kp : Option Value → zH → Prop} {h0 : zH} : ∀ (m g : Nat) (lo : zL) (h : zH), g + m = 8 → sInv swM h → sMd MTk h0 h → (∀ j, j < g → rwM h h0 42 0 j) → zget lo 0 = some (.ref 0) → zget lo 1 = some (.ref 42) → zI lo 2 0 → zI lo 3 (g : Int) →
    (∀ h', sInv swM h' → sMd MTk h0 h' → (∀ j, j < 8 → rwM h' h0 42 0 j) → Kp none h') → zX l Γ false (d + 1) (zhd 307) (zMQ' Γ false (zhd 307) Kp) 0 0 2 lo [] h
  | 0, g, lo, h, hg, hi, hm, hb, l0, l1, l2, l3, hE => by
    have : g = 8 := by omega
    subst this
    exact keTi2 (d := d) (by omega) hi l0 l1 l2 l3 (fun h' i1 m1 => hE h' i1 (hm.seq (m1.sub rfl)) (fun j hj => by
      have b := hb j hj
      unfold rwM at b ⊢
      rw [pI_md (h' := h') m1 rfl, pI_md (h' := h') m1 rfl, pI_md (h' := h') m1 rfl, pI_md (h' := h') m1 rfl]
      exact b))
  | m + 1, g, lo, h, hg, hi, hm, hb, l0, l1, l2, l3, hE => by
    have g8 : g < 8 := by omega
    obtain ⟨b0, b1, b2⟩ := sIM_c hi g8
    have ss := zall_r (zall_r keTu_s g8) (k := 0) (by decide)
    simp only [Bool.and_eq_true] at ss
    have far : ∀ j, pI h 42 j = pI h0 42 j := fun j => pI_md hm (smemc (by omega) (smemc (by omega) (smemc (by omega) (smemc (by omega) smem0))))
    have nx : ∀ (lo' : zL) (h' : zH) (w : Int), sInv swM h' → sMd (keTi1_m g) h h' → w = pI h 42 (g + 16) → pI h' 33 g = pI h 42 (g + 24) → pI h' 31 g = w → pI h' 30 g = pI h 42 (g + 8) → pI h' 29 g = pI h 42 g → zget lo' 0 = some (.ref 0) → zget lo' 1 = some (.ref 42) → zI lo' 2 0 → zI lo' 3 ((g : Int) + 1) → zX l Γ false (d + 1) (zhd 307) (zMQ' Γ false (zhd 307) Kp) 0 0 2 lo' [] h' := fun lo' h' w i1 m1 hw k24 k16 k8 k0 g0 g1 g2 g3 => by
      refine zTaiL m (g + 1) lo' h' (by omega) i1 (hm.seq (m1.sub ss.2)) (fun j hj => ?_) g0 g1 g2 (by rw [Int.natCast_add]; exact g3) hE
      by_cases e : j = g
      · subst e
        exact ⟨((far _).symm.trans k0.symm), ((far _).symm.trans k8.symm), ((far _).symm.trans (k16.trans hw).symm), ((far _).symm.trans k24.symm)⟩
      · obtain ⟨c0, c1, c2, c3⟩ := hb j (by omega)
        exact ⟨c0.trans (pI_md m1 (smemc (by omega) (smemc (by omega) (smemc (by omega) (smemc (by omega) smem0))))).symm, c1.trans (pI_md m1 (smemc (by omega) (smemc (by omega) (smemc (by omega) (smemc (by omega) smem0))))).symm, c2.trans (pI_md m1 (smemc (by omega) (smemc (by omega) (smemc (by omega) (smemc (by omega) smem0))))).symm, c3.trans (pI_md m1 (smemc (by omega) (smemc (by omega) (smemc (by omega) (smemc (by omega) smem0))))).symm⟩
    refine keTi1 (d := d) (by omega) g8 hi b0 b1 b2 (i32e rfl) l0 l1 l2 l3 rfl rfl rfl rfl (fun lo' h' i1 m1 e k24 k16 k8 k0 g0 g1 g2 g3 => ?_) (fun lo' h' i1 m1 e k24 k16 k8 k0 g0 g1 g2 g3 => ?_)
    · exact nx lo' h' 1 i1 m1 e.symm k24 k16 k8 k0 g0 g1 g2 g3
    · exact nx lo' h' 0 i1 m1 (by omega) k24 k16 k8 k0 g0 g1 g2 g3
theorem zTakI {l : Launch} {Γ : zG} {d : Nat} {h : zH} (hi : sInv swM h) {x : Int32} (hx : x.toInt = 0) : zSem l Γ false (d + 1) (zhd 307) [.ref 0, .ref 42, .int x] h (fun r h' => r = none ∧ sInv swM h' ∧ sMd MTk h h' ∧ ∀ g, g < 8 → rwM h' h 42 0 g) := by
  refine keTi0 (d := d) (by omega) hi hx (fun lo1 h1 i1 m1 l0 l1 l2 l3 => ?_)
  refine zTaiL 8 0 lo1 h1 rfl i1 sMd.rf (fun j hj => absurd hj (Nat.not_lt_zero j)) l0 l1 l2 l3 (fun h2 i2 m2 hb => ⟨rfl, i2, (m1.sub rfl).seq m2, fun g hg => ?_⟩)
  have b := hb g hg
  unfold rwM at b ⊢
  rw [pI_md m1 rfl, pI_md m1 rfl, pI_md m1 rfl, pI_md m1 rfl] at b
  exact b
/-- the rows that are remembered -/
def UM (S : zS) (X : zSx) (h : zH) : Prop := pI h 0 80 = (X.2.2.1 : Int) ∧ ∀ k, k < X.2.2.1 → ∀ g, g < S 1 → pI h 41 (g + 32 * k) = X.2.2.2 k 0 g ∧ pI h 41 (g + 32 * k + 8) = X.2.2.2 k 1 g ∧ pI h 41 (g + 32 * k + 16) = X.2.2.2 k 2 g ∧ pI h 41 (g + 32 * k + 24) = X.2.2.2 k 4 g
theorem UM.md {S : zS} {X : zSx} {h h' : zH} {md : sM} (hU : UM S X h) (hm : sMd md h h') (h1 : smem md 0 80 = false) (h2 : ∀ j, smem md 41 j = false) : UM S X h' :=
  ⟨(pI_md hm h1).trans hU.1, fun k hk g hg => by
    rw [pI_md hm (h2 _), pI_md hm (h2 _), pI_md hm (h2 _), pI_md hm (h2 _)]
    exact hU.2 k hk g hg⟩
/-- the shift of the rows -/
theorem zShfL {l : Launch} {Γ : zG} {d : Nat} {Kp : Option Value → zH → Prop} {h0 : zH} : ∀ (m k : Nat) (lo : zL) (h : zH), k + m = 608 → sInv swM h → sMd [(41, 0, k)] h0 h → (∀ j, j < k → pI h 41 j = pI h0 41 (j + 32)) → zget lo 0 = some (.ref 0) → zI lo 1 (k : Int) →
    (∀ lo' h', sInv swM h' → sMd [(41, 0, 608)] h0 h' → (∀ j, j < 608 → pI h' 41 j = pI h0 41 (j + 32)) → zget lo' 0 = some (.ref 0) → zI lo' 1 608 → zX l Γ false (d + 1) (zhd 246) (zMQ' Γ false (zhd 246) Kp) 0 0 11 lo' [] h') → zX l Γ false (d + 1) (zhd 246) (zMQ' Γ false (zhd 246) Kp) 0 0 11 lo [] h
  | 0, k, lo, h, hk, hi, hm, hb, l0, l1, hE => by
    have : k = 608 := by omega
    subst this
    exact hE lo h hi hm hb l0 l1
  | m + 1, k, lo, h, hk, hi, hm, hb, l0, l1, hE => by
    refine keR2 (d := d) (by omega) (k := k) (by omega) hi (i32e rfl) l0 l1 rfl (fun lo' h' i1 m1 k0 g0 g1 => ?_)
    have e : sMd [(41, 0, k + 1)] h0 h' := fun q j hq => by
      have n1 := smem1f hq
      have a := m1 q j (smemc (by omega) smem0)
      have b := hm q j (smemc (by omega) smem0)
      exact ⟨a.1.trans b.1, a.2.1.trans b.2.1, a.2.2.trans b.2.2⟩
    refine zShfL m (k + 1) lo' h' (by omega) i1 e (fun j hj => ?_) g0 (by rw [Int.natCast_add]; exact g1) hE
    by_cases ej : j = k
    · subst ej
      exact k0.trans (pI_md hm (smemc (by omega) smem0))
    · exact (pI_md m1 (smemc (by omega) smem0)).trans (hb j (by omega))
theorem zv_ker : zcvB 246 61 12 2 247 = true := by decide +kernel
theorem zRemM {l : Launch} {Γ : zG} {d : Nat} {S : zS} {X : zSx} {s' : zSt} {h : zH} (hS : S 1 ≤ 8) (hi : sInv swM h) (hM : MS S 0 X.1 h) (hU : UM S X h) (hX : X.2.2.1 ≤ 20) : zSem l Γ false (d + 2) (zhd 246) [.ref 0] h (fun r h' => r = none ∧ sInv swM h' ∧ sMd [(0, 80, 81), (41, 0, 640)] h h' ∧ UM S (puX X s') h') := by
  have row : ∀ (h1 h2 : zH) (k g : Nat), (∀ q j, 29 ≤ q → q ≤ 33 → pI h1 q j = pI h q j) → rwM h1 h2 41 k g → g < S 1 → pI h2 41 (g + 32 * k) = X.1 0 g ∧ pI h2 41 (g + 32 * k + 8) = X.1 1 g ∧ pI h2 41 (g + 32 * k + 16) = X.1 2 g ∧ pI h2 41 (g + 32 * k + 24) = X.1 4 g := fun h1 h2 k g f hr hg => by
    obtain ⟨a0, a1, a2, -, a4⟩ := hM.1 g hg
    rw [show 8 * 0 + g = g from by omega] at a0 a1 a2 a4
    obtain ⟨r0, r1, r2, r3⟩ := hr
    exact ⟨r0.trans ((f 29 g (by decide) (by decide)).trans a0), r1.trans ((f 30 g (by decide) (by decide)).trans a1), r2.trans ((f 31 g (by decide) (by decide)).trans a2), r3.trans ((f 33 g (by decide) (by decide)).trans a4)⟩
  by_cases hn : X.2.2.1 < 20
  · have ep : puX X s' = (s', X.2.1, X.2.2.1 + 1, fun k => if k = X.2.2.1 then X.1 else X.2.2.2 k) := if_pos hn
    rw [ep]
    refine keR0 (d := d + 1) (by omega) hn hi hU.1 (fun lo1 h1 y0 i1 m1 l0 hy => ?_)
    refine zcallR (mi := 246) (as := [.int y0, .ref 41]) (rest := []) (q0 := 0) zv_ker rfl (by decide) (shM i1) ?_
    refine (zPutM (d := d) hn i1 hy).mono (fun v h2 hv => ?_)
    obtain ⟨rfl, i2, m2, hb⟩ := hv
    have e80 : pI h2 0 80 = (X.2.2.1 : Int) := (pI_md m2 (smemc (by omega) smem0)).trans ((pI_md m1 rfl).trans hU.1)
    refine keR4 (d := d + 1) (by omega) hn i2 l0 e80 (fun h3 i3 m3 k80 => ⟨rfl, i3, ?_, k80, fun k hk g hg => ?_⟩)
    · have a := zall_r (show ((List.range 20).all fun k => ssubB [(41, 32 * k, 32 * k + 32)] [(0, 80, 81), (41, 0, 640)]) = true from by decide +kernel) hn
      exact ((m1.sub rfl).seq (m2.sub a)).seq (m3.sub rfl)
    · have hk : k < X.2.2.1 + 1 := hk
      have f3 : ∀ j, pI h3 41 j = pI h2 41 j := fun j => pI_md m3 (smemc (by omega) smem0)
      rw [f3, f3, f3, f3]
      show _ = (if k = X.2.2.1 then X.1 else X.2.2.2 k) 0 g ∧ _ = (if k = X.2.2.1 then X.1 else X.2.2.2 k) 1 g ∧ _ = (if k = X.2.2.1 then X.1 else X.2.2.2 k) 2 g ∧ _ = (if k = X.2.2.1 then X.1 else X.2.2.2 k) 4 g
      by_cases e : k = X.2.2.1
      · rw [if_pos e, e]
        exact row h1 h2 _ g (fun q j _ _ => pI_md m1 rfl) (hb g (by omega)) hg
      · rw [if_neg e]
        have hk2 : k < X.2.2.1 := by omega
        have f2 : ∀ j, j < 32 * X.2.2.1 → pI h2 41 j = pI h 41 j := fun j hj => (pI_md m2 (smemc (by omega) smem0)).trans (pI_md m1 rfl)
        rw [f2 _ (by omega), f2 _ (by omega), f2 _ (by omega), f2 _ (by omega)]
        exact hU.2 k hk2 g hg
  · have h20 : X.2.2.1 = 20 := by omega
    have ep : puX X s' = (s', X.2.1, 20, fun k => if k = 19 then X.1 else X.2.2.2 (k + 1)) := if_neg hn
    rw [ep]
    have q80 : pI h 0 80 = 20 := by
      rw [hU.1, h20]
      rfl
    refine keR1 (d := d + 1) (by omega) hi q80 (fun lo1 h1 i1 m1 l0 l1 => ?_)
    refine zShfL (d := d + 1) (h0 := h1) 608 0 lo1 h1 rfl i1 sMd.rf (fun j hj => absurd hj (Nat.not_lt_zero j)) l0 l1 (fun lo2 h2 i2 m2 hs g0 g1 => ?_)
    have e80 : pI h2 0 80 = 20 := (pI_md m2 (smemc (by omega) smem0)).trans ((pI_md m1 rfl).trans q80)
    refine keR3 (d := d + 1) (by omega) i2 g0 g1 e80 (fun lo3 h3 y0 i3 m3 k80 z0 hy => ?_)
    refine zcallR (mi := 246) (as := [.int y0, .ref 41]) (rest := []) (q0 := 0) zv_ker rfl (by decide) (shM i3) ?_
    refine (zPutM (d := d) (k := 19) (by decide) i3 hy).mono (fun v h4 hv => ?_)
    obtain ⟨rfl, i4, m4, hb⟩ := hv
    have f80 : pI h4 0 80 = ((19 : Nat) : Int) := (pI_md m4 (smemc (by omega) smem0)).trans k80
    refine keR4 (d := d + 1) (by omega) (n := 19) (by decide) i4 z0 f80 (fun h5 i5 m5 j80 => ⟨rfl, i5, ((((m1.sub rfl).seq (m2.sub rfl)).seq (m3.sub rfl)).seq (m4.sub rfl)).seq (m5.sub rfl), j80, fun k hk g hg => ?_⟩)
    have hk : k < 20 := hk
    have f5 : ∀ j, pI h5 41 j = pI h4 41 j := fun j => pI_md m5 (smemc (by omega) smem0)
    rw [f5, f5, f5, f5]
    show _ = (if k = 19 then X.1 else X.2.2.2 (k + 1)) 0 g ∧ _ = (if k = 19 then X.1 else X.2.2.2 (k + 1)) 1 g ∧ _ = (if k = 19 then X.1 else X.2.2.2 (k + 1)) 2 g ∧ _ = (if k = 19 then X.1 else X.2.2.2 (k + 1)) 4 g
    by_cases e : k = 19
    · rw [if_pos e, e]
      exact row h3 h4 _ g (fun q j a b => (pI_md m3 (smemc (by omega) smem0)).trans ((pI_md m2 (smemc (by omega) smem0)).trans (pI_md m1 rfl))) (hb g (by omega)) hg
    · rw [if_neg e]
      have f4 : ∀ j, j < 608 → pI h4 41 j = pI h 41 (j + 32) := fun j hj => (pI_md m4 (smemc (by omega) smem0)).trans ((pI_md m3 (smemc (by omega) smem0)).trans ((hs j hj).trans (pI_md m1 rfl)))
      rw [f4 _ (by omega), f4 _ (by omega), f4 _ (by omega), f4 _ (by omega)]
      have b := hU.2 (k + 1) (by omega) g hg
      rw [show g + 32 * (k + 1) = g + 32 * k + 32 from by omega] at b
      rw [show g + 32 * k + 8 + 32 = g + 32 * k + 32 + 8 from by omega, show g + 32 * k + 16 + 32 = g + 32 * k + 32 + 16 from by omega, show g + 32 * k + 24 + 32 = g + 32 * k + 32 + 24 from by omega]
      exact b

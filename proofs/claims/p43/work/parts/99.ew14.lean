theorem zStepC {l : Launch} {Γ : zG} {d : Nat} (hd : 1 ≤ d) {Kp : Option Value → zH → Prop} {lo : zL} {h : zH} {t : Nat} (h_t : t < 2) {j : Nat} (hj : j < 3) {b : Nat} {x tt : Int} {e st : List Int} {nm : Nat → Int} {kd pt ot : Nat → Int} (hi : sInv swC h) (hk : kR kd pt ot b (x :: e)) (hx : x ≤ 9999) (hb : b + e.length ≤ 63) (b_tt : tt ≤ 64) (htt : ((b + e.length : Nat) : Int) + 1 ≤ tt) (p_tt : pI h (17 * t + 23) j = tt) (p_kn : pI h (17 * t + 21) (b + e.length) = x) (hs : stK (fun i => pL h (17 * t + 25) i) st.length = st) (hl : st.length = (ixs b e).length) (hw : ∀ v, v ∈ st → inW v) (hnm : ∀ i, i < 7 → pI h (17 * t + 24) i = nm i) (l0 : zget lo 0 = some (.ref (17 * t + 20))) (l1 : zI lo 1 (j : Int)) (l2 : zI lo 2 (st.length : Int)) (l3 : zI lo 3 ((b + e.length : Nat) : Int))
    (hC : ∀ (lo' : zL) (h' : zH) (w : Int) (r : List Int), stp nm x st = some (w :: r) → sInv swC h' → sMd [(17 * t + 25, 0, 64)] h h' → stK (fun i => pL h' (17 * t + 25) i) (r.length + 1) = w :: r → inW w → (∀ v, v ∈ r → inW v) → zget lo' 0 = some (.ref (17 * t + 20)) → zI lo' 1 (j : Int) → zI lo' 2 ((r.length : Int) + 1) → zI lo' 3 (((b + e.length : Nat) : Int) + 1) → zX l Γ false (d + 1) (zhd 89) (zMQ' Γ false (zhd 89) Kp) 0 0 21 lo' [] h')
    (hR : stp nm x st = none → ∀ (h' : zH) (y : Int64), sInv swC h' → sMd [(17 * t + 25, 0, 64)] h h' → y.toInt = -9223372036854775808 → Kp (some (.long y)) h') : zX l Γ false (d + 1) (zhd 89) (zMQ' Γ false (zhd 89) Kp) 0 0 21 lo [] h := by
  have ej : ((j : Int) + 0).toNat = j := by omega
  have ek : (((b + e.length : Nat) : Int) + 0).toNat = b + e.length := by omega
  have B1 : (0 : Int) ≤ (j : Int) ∧ (j : Int) ≤ 2 := by omega
  have B2 : (0 : Int) ≤ ((b + e.length : Nat) : Int) ∧ ((b + e.length : Nat) : Int) ≤ 63 := by omega
  have hle := ixs_le (b := b) e
  have P1 : pI h (17 * t + 23) ((j : Int) + 0).toNat = tt := by rw [ej]; exact p_tt
  have P2 : pI h (17 * t + 21) (((b + e.length : Nat) : Int) + 0).toNat = x := by rw [ek]; exact p_kn
  have put : ∀ {lo' : zL} {h' : zH} {w : Int} {o : Option Int} {r : List Int}, stp nm x st = pushW o r → sInv swC h' → sMd [] h h' → r.length < 64 → stK (fun i => pL h (17 * t + 25) i) r.length = r → (∀ v, v ∈ r → inW v) → wv o w → zget lo' 0 = some (.ref (17 * t + 20)) → zI lo' 1 (j : Int) → zI lo' 2 (r.length : Int) → zI lo' 3 ((b + e.length : Nat) : Int) → zJ lo' 6 w → zX l Γ false (d + 1) (zhd 89) (zMQ' Γ false (zhd 89) Kp) 0 0 166 lo' [] h' := fun {lo' h' w o r} es hi' hm' hr hsr hwr hv o0 o1 o2 o3 o6 => by
    refine zPutC h_t hi' B1 B2 hr ((stK_eq (g := fun i => pL h (17 * t + 25) i) r.length (fun i _ => pL_md hm' rfl)).trans hsr) hv o0 o1 o2 o3 o6 (fun lo2 h2 c1 hi2 hm2 c2 c3 z0 z1 z2 z3 => ?_) (fun c1 h2 y hi2 hm2 hy => ?_)
    · exact hC lo2 h2 w r (es.trans c1) hi2 ((hm'.sub rfl).seq hm2) c2 c3 hwr z0 z1 z2 z3
    · exact hR (es.trans c1) h2 y hi2 ((hm'.sub rfl).seq hm2) hy
  rcases hk.2 with ⟨q1, q2, q3⟩ | ⟨q1, q1', q2, q3⟩ | ⟨q1, q2, i, r', q3, q4⟩ | ⟨q1, q2, q2', q3, i, i2, r', q4, q5, q6⟩
  · have es : stp nm x st = pushW (some x) st := by unfold stp; rw [if_pos q1]
    exact evN (by omega) h_t hi B1 ⟨by omega, by omega⟩ B2 ⟨by omega, b_tt⟩ ⟨q1, hx⟩ l0 l1 l2 l3 P1 P2 (by omega) (fun lo' h' hi' hm' o0 o1 o2 o3 o6 => put es hi' hm' (by omega) hs hw wv.sm o0 o1 o2 o3 o6)
  · obtain ⟨p, ep⟩ : ∃ p : Nat, -x - 21 = (p : Int) := ⟨(-x - 21).toNat, by omega⟩
    have es : stp nm x st = pushW (some (nm p)) st := by
      unfold stp
      rw [if_neg (by omega), if_pos q1, show (-x - 21).toNat = p from by omega]
    have hp := hnm p (by omega)
    have bn : (-2147483648 : Int) ≤ nm p ∧ nm p ≤ 2147483647 := by rw [← hp]; exact i32bd _
    have p7 : p = 0 ∨ p = 1 ∨ p = 2 ∨ p = 3 ∨ p = 4 ∨ p = 5 ∨ p = 6 := by omega
    have bh : (0 : Int) ≤ (st.length : Int) ∧ (st.length : Int) ≤ 63 := by omega
    have ex : x = -21 - (p : Int) := by omega
    subst ex
    rcases p7 with rfl | rfl | rfl | rfl | rfl | rfl | rfl
    · exact evVa (by omega) h_t hi B1 bh B2 ⟨by omega, b_tt⟩ bn l0 l1 l2 l3 P1 P2 hp (by omega) (fun lo' h' hi' hm' o0 o1 o2 o3 o6 => put es hi' hm' (by omega) hs hw wv.sm o0 o1 o2 o3 o6)
    · exact evVb (by omega) h_t hi B1 bh B2 ⟨by omega, b_tt⟩ bn l0 l1 l2 l3 P1 P2 hp (by omega) (fun lo' h' hi' hm' o0 o1 o2 o3 o6 => put es hi' hm' (by omega) hs hw wv.sm o0 o1 o2 o3 o6)
    · exact evVc (by omega) h_t hi B1 bh B2 ⟨by omega, b_tt⟩ bn l0 l1 l2 l3 P1 P2 hp (by omega) (fun lo' h' hi' hm' o0 o1 o2 o3 o6 => put es hi' hm' (by omega) hs hw wv.sm o0 o1 o2 o3 o6)
    · exact evVd (by omega) h_t hi B1 bh B2 ⟨by omega, b_tt⟩ bn l0 l1 l2 l3 P1 P2 hp (by omega) (fun lo' h' hi' hm' o0 o1 o2 o3 o6 => put es hi' hm' (by omega) hs hw wv.sm o0 o1 o2 o3 o6)
    · exact evVe (by omega) h_t hi B1 bh B2 ⟨by omega, b_tt⟩ bn l0 l1 l2 l3 P1 P2 hp (by omega) (fun lo' h' hi' hm' o0 o1 o2 o3 o6 => put es hi' hm' (by omega) hs hw wv.sm o0 o1 o2 o3 o6)
    · exact evVf (by omega) h_t hi B1 bh B2 ⟨by omega, b_tt⟩ bn l0 l1 l2 l3 P1 P2 hp (by omega) (fun lo' h' hi' hm' o0 o1 o2 o3 o6 => put es hi' hm' (by omega) hs hw wv.sm o0 o1 o2 o3 o6)
    · exact evVg (by omega) h_t hi B1 bh B2 ⟨by omega, b_tt⟩ bn l0 l1 l2 l3 P1 P2 hp (by omega) (fun lo' h' hi' hm' o0 o1 o2 o3 o6 => put es hi' hm' (by omega) hs hw wv.sm o0 o1 o2 o3 o6)
  · subst q1
    cases st with
    | nil =>
      rw [q3] at hl
      cases hl
    | cons a r =>
      have es : stp nm (-28) (a :: r) = pushW (some (bI (a = 0))) r := by
        unfold stp
        rw [if_neg (by decide), if_neg (by decide), if_pos rfl]
      simp only [List.length_cons, stK] at hs
      injection hs with hs1 hs2
      rw [q3] at hl
      simp only [List.length_cons] at hl
      have hlr : (a :: r).length = r.length + 1 := rfl
      refine vcT hd h_t hi B1 (hh := ((r.length + 1 : Nat) : Int)) ⟨by omega, by rw [q3] at hle; simp only [List.length_cons] at hle; omega⟩ B2 ⟨by omega, b_tt⟩ (hw a List.mem_cons_self) l0 l1 l2 l3 P1 P2 (by rw [show (((r.length + 1 : Nat) : Int) + (-1)).toNat = r.length from by omega]; exact hs1) (by omega) (fun lo' h' w hi' hm' hv o0 o1 o2 o3 o6 => ?_)
      refine put es hi' hm' (by rw [q3] at hle; simp only [List.length_cons] at hle; omega) hs2 (fun v hv => hw v (List.mem_cons_of_mem _ hv)) hv o0 o1 ?_ o3 o6
      rw [show ((r.length + 1 : Nat) : Int) - 1 = (r.length : Int) from by omega] at o2
      exact o2
  · cases st with
    | nil =>
      rw [q4] at hl
      cases hl
    | cons bb st2 =>
      cases st2 with
      | nil =>
        rw [q4] at hl
        simp only [List.length_cons, List.length_nil] at hl
        omega
      | cons aa r =>
        have es : stp nm x (bb :: aa :: r) = pushW (opv x aa bb) r := by
          unfold stp
          rw [if_neg (by omega), if_neg (by omega), if_neg (by omega)]
        simp only [List.length_cons, stK] at hs
        injection hs with hs1 hs2
        injection hs2 with hs2 hs3
        rw [q4] at hl hle
        simp only [List.length_cons] at hl hle
        have wa := hw aa (List.mem_cons_of_mem _ List.mem_cons_self)
        have wb := hw bb List.mem_cons_self
        have BH : (2 : Int) ≤ ((r.length + 2 : Nat) : Int) ∧ ((r.length + 2 : Nat) : Int) ≤ 64 := by omega
        have l2 : zI lo 2 ((r.length + 2 : Nat) : Int) := l2
        have P3 : pL h (17 * t + 25) (((r.length + 2 : Nat) : Int) + (-2)).toNat = aa := by
          rw [show (((r.length + 2 : Nat) : Int) + (-2)).toNat = r.length from by omega]
          exact hs2
        have P4 : pL h (17 * t + 25) (((r.length + 2 : Nat) : Int) + (-1)).toNat = bb := by
          rw [show (((r.length + 2 : Nat) : Int) + (-1)).toNat = r.length + 1 from by omega]
          exact hs1
        have cont : ∀ (lo' : zL) (h' : zH) (w : Int), sInv swC h' → sMd [] h h' → wv (opv x aa bb) w → zget lo' 0 = some (.ref (17 * t + 20)) → zI lo' 1 (j : Int) → zI lo' 2 (((r.length + 2 : Nat) : Int) - 2) → zI lo' 3 ((b + e.length : Nat) : Int) → zJ lo' 6 w → zX l Γ false (d + 1) (zhd 89) (zMQ' Γ false (zhd 89) Kp) 0 0 166 lo' [] h' := fun lo' h' w hi' hm' hv o0 o1 o2 o3 o6 => by
          rw [show ((r.length + 2 : Nat) : Int) - 2 = (r.length : Int) from by omega] at o2
          exact put es hi' hm' (by omega) hs3 (fun v hv => hw v (List.mem_cons_of_mem _ (List.mem_cons_of_mem _ hv))) hv o0 o1 o2 o3 o6
        obtain ⟨k, hkd⟩ : ∃ k : Int, kd (b + e.length) = k := ⟨_, rfl⟩
        rw [hkd] at q2 q2' q3
        have ks : k = 3 ∨ k = 4 ∨ k = 5 ∨ k = 6 ∨ k = 7 ∨ k = 8 ∨ k = 9 ∨ k = 10 ∨ k = 11 ∨ k = 12 ∨ k = 13 ∨ k = 14 := by omega
        have xe : x = -(cm k) := by omega
        have BT : (0 : Int) ≤ tt ∧ tt ≤ 64 := ⟨by omega, b_tt⟩
        have D0 : 1 ≤ tt - ((b + e.length : Nat) : Int) := by omega
        subst xe
        rcases ks with rfl | rfl | rfl | rfl | rfl | rfl | rfl | rfl | rfl | rfl | rfl | rfl
        · exact vcAn hd h_t hi B1 BH B2 BT wa wb l0 l1 l2 l3 P1 P2 P3 P4 D0 cont
        · exact vcOr hd h_t hi B1 BH B2 BT wa wb l0 l1 l2 l3 P1 P2 P3 P4 D0 cont
        · exact vcLs hd h_t hi B1 BH B2 BT wa wb l0 l1 l2 l3 P1 P2 P3 P4 D0 cont
        · exact vcLe hd h_t hi B1 BH B2 BT wa wb l0 l1 l2 l3 P1 P2 P3 P4 D0 cont
        · exact vcEq hd h_t hi B1 BH B2 BT wa wb l0 l1 l2 l3 P1 P2 P3 P4 D0 cont
        · exact vcNe hd h_t hi B1 BH B2 BT wa wb l0 l1 l2 l3 P1 P2 P3 P4 D0 cont
        · exact vcGe hd h_t hi B1 BH B2 BT wa wb l0 l1 l2 l3 P1 P2 P3 P4 D0 cont
        · exact vcGt hd h_t hi B1 BH B2 BT wa wb l0 l1 l2 l3 P1 P2 P3 P4 D0 cont
        · exact vcPl hd h_t hi B1 BH B2 BT wa wb l0 l1 l2 l3 P1 P2 P3 P4 D0 cont
        · exact vcMi hd h_t hi B1 BH B2 BT wa wb l0 l1 l2 l3 P1 P2 P3 P4 D0 cont
        · exact vcTi hd h_t hi B1 BH B2 BT wa wb l0 l1 l2 l3 P1 P2 P3 P4 D0 cont
        · exact vcOv hd h_t hi B1 BH B2 BT wa wb l0 l1 l2 l3 P1 P2 P3 P4 D0 cont

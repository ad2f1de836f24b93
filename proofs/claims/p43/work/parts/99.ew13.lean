theorem ixs_le {b : Nat} : ∀ e : List Int, (ixs b e).length ≤ e.length
  | [] => Nat.le_refl _
  | x :: e => by
    have ih := ixs_le (b := b) e
    simp only [ixs, List.length_cons]
    split
    · rw [List.length_tail]
      omega
    · split
      · rw [List.length_tail, List.length_tail]
        omega
      · omega
theorem stK_up {f g : Nat → Int} {n : Nat} {v : Int} {r : List Int} (h : stK f n = r) (hv : g n = v) (hg : ∀ i, i < n → g i = f i) : stK g (n + 1) = v :: r := by
  simp only [stK]
  rw [hv, stK_eq n (fun i hi => hg i hi), h]
/-- behind the value: it goes on the stack, or all ends with an ERROR -/
theorem zPutC {l : Launch} {Γ : zG} {d : Nat} {Kp : Option Value → zH → Prop} {lo : zL} {h : zH} {t : Nat} (h_t : t < 2) {la kk w : Int} {o : Option Int} {r : List Int} (hi : sInv swC h) (b_la : 0 ≤ la ∧ la ≤ 2) (b_kk : 0 ≤ kk ∧ kk ≤ 63) (hr : r.length < 64) (hs : stK (fun i => pL h (17 * t + 25) i) r.length = r) (hw : wv o w) (l0 : zget lo 0 = some (.ref (17 * t + 20))) (l1 : zI lo 1 la) (l2 : zI lo 2 (r.length : Int)) (l3 : zI lo 3 kk) (l6 : zJ lo 6 w)
    (hC : ∀ (lo' : zL) (h' : zH), pushW o r = some (w :: r) → sInv swC h' → sMd [(17 * t + 25, 0, 64)] h h' → stK (fun i => pL h' (17 * t + 25) i) (r.length + 1) = w :: r → inW w → zget lo' 0 = some (.ref (17 * t + 20)) → zI lo' 1 la → zI lo' 2 ((r.length : Int) + 1) → zI lo' 3 (kk + 1) → zX l Γ false (d + 1) (zhd 89) (zMQ' Γ false (zhd 89) Kp) 0 0 21 lo' [] h')
    (hR : pushW o r = none → ∀ (h' : zH) (y : Int64), sInv swC h' → sMd [(17 * t + 25, 0, 64)] h h' → y.toInt = -9223372036854775808 → Kp (some (.long y)) h') : zX l Γ false (d + 1) (zhd 89) (zMQ' Γ false (zhd 89) Kp) 0 0 166 lo [] h := by
  have bw : -9223372036854775808 ≤ w ∧ w ≤ 9223372036854775807 := by
    obtain ⟨y, -, rfl⟩ := l6
    have a := Int64.le_toInt y
    have c := Int64.toInt_lt y
    omega
  have md : ∀ h' : zH, sMd (evZ_m r.length t) h h' → sMd [(17 * t + 25, 0, 64)] h h' := fun h' hm => sMd.rf.tr hm (fun q k hq => by
    obtain ⟨g1, g2, g3⟩ := smem1 hq
    exact smem_of (17 * t + 25, 0, 64) (by simp) ⟨g1.symm, by simp only; omega, by simp only; omega⟩)
  refine evZ (by omega) hr h_t hi b_la b_kk bw l0 l1 l2 l3 l6 (fun lo' h' u0 hi' hm' e1 e2 c1 c2 o0 o1 o2 o3 => ?_) (fun h' y hi' hm' c1 hy => ?_) (fun h' y hi' hm' c0 c1 hy => ?_)
  · have iw : inW w := ⟨by omega, by omega⟩
    exact hC lo' h' (hw.in iw) hi' (md h' hm') (stK_up hs (e1.trans e2) (fun i hlt => pL_md hm' (smem1n (by omega)))) iw o0 o1 o2 o3
  · exact hR (hw.out (fun g => by have := g.2; omega)) h' y hi' (md h' hm') hy
  · exact hR (hw.out (fun g => by have := g.1; omega)) h' y hi' (md h' hm') hy

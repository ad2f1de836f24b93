theorem evS_dn {nm : Nat → Int} : ∀ (m : Nat) {e : List Int}, evS nm (e.drop m) = none → evS nm e = none
  | 0, _, h => h
  | m + 1, [], h => h
  | m + 1, x :: e, h => evS_n (evS_dn m h)
def VC (nm : Nat → Int) (e : List Int) (t : Nat) (h0 : zH) (r : Option Value) (h' : zH) : Prop := ∃ y : Int64, r = some (.long y) ∧ sInv swC h' ∧ sMd [(17 * t + 25, 0, 64)] h0 h' ∧ ((∃ v, evS nm e = some [v] ∧ inW v ∧ y.toInt = v) ∨ (evS nm e = none ∧ y.toInt = -9223372036854775808))
theorem zValL {l : Launch} {Γ : zG} {d : Nat} (hd : 1 ≤ d) {t : Nat} (h_t : t < 2) {j : Nat} (hj : j < 3) {b : Nat} {e : List Int} {nm : Nat → Int} {kd pt ot : Nat → Int} (hb : b + e.length ≤ 64) (he9 : ∀ x, x ∈ e → x ≤ 9999) (hk : kR kd pt ot b e) (h1 : (ixs b e).length = 1) {h0 : zH} (ht : pI h0 (17 * t + 23) j = ((b + e.length : Nat) : Int)) (hc : cdC (pI h0 (17 * t + 21)) b e) (hnm : ∀ i, i < 7 → pI h0 (17 * t + 24) i = nm i) : ∀ (m : Nat) (lo : zL) (h : zH) (st : List Int), m ≤ e.length → sInv swC h → sMd [(17 * t + 25, 0, 64)] h0 h → zget lo 0 = some (.ref (17 * t + 20)) → zI lo 1 (j : Int) → zI lo 2 (st.length : Int) → zI lo 3 ((b + (e.length - m) : Nat) : Int) → evS nm (e.drop m) = some st → stK (fun i => pL h (17 * t + 25) i) st.length = st → (∀ v, v ∈ st → inW v) → zX l Γ false (d + 1) (zhd 89) (zMQ' Γ false (zhd 89) (VC nm e t h0)) 0 0 21 lo [] h
  | 0, lo, h, st, hm0, hi, hm, l0, l1, l2, l3, hE, hs, hw => by
    have ej : ((j : Int) + 0).toNat = j := by omega
    have hE : evS nm e = some st := hE
    have hl := evS_len (b := b) hE
    rw [h1] at hl
    obtain ⟨v, rfl⟩ := List.length_eq_one_iff.mp hl
    simp only [List.length_cons, List.length_nil, stK] at hs
    injection hs with hs1 hs2
    have wv' := hw v List.mem_cons_self
    have wb := wv'
    unfold inW at wb
    refine evX (by omega) h_t hi (la := (j : Int)) ⟨by omega, by omega⟩ ⟨by omega, by omega⟩ (tt := ((b + e.length : Nat) : Int)) ⟨by omega, by omega⟩ (va := v) ⟨by omega, by omega⟩ l0 l1 l2 l3 (by rw [ej, pI_md hm (smem1n (by omega))]; exact ht) hs1 (by omega) (fun h' y hi' hm' hy => ?_)
    exact ⟨y, rfl, hi', hm.seq (hm'.sub rfl), Or.inl ⟨v, hE, wv', hy⟩⟩
  | m + 1, lo, h, st, hm0, hi, hm, l0, l1, l2, l3, hE, hs, hw => by
    have hlt : m < e.length := by omega
    have ed : e.drop m = e[m] :: e.drop (m + 1) := List.drop_eq_getElem_cons hlt
    have el : (e.drop (m + 1)).length = e.length - (m + 1) := List.length_drop
    have kd' : kR kd pt ot b (e[m] :: e.drop (m + 1)) := by
      rw [← ed]
      exact kR_drop m hk
    have cd := cdC_at hc m hlt
    have gd : e.getD m 0 = e[m] := by rw [List.getD_eq_getElem?_getD, List.getElem?_eq_getElem hlt]; rfl
    refine zStepC hd h_t hj (b := b) (x := e[m]) (tt := ((b + e.length : Nat) : Int)) (e := e.drop (m + 1)) (st := st) (nm := nm) hi kd' (he9 _ (List.getElem_mem hlt)) (by omega) (by omega) (by omega) ((pI_md hm (smem1n (by omega))).trans ht) ?_ hs (evS_len hE) hw (fun i hi7 => (pI_md hm (smem1n (by omega))).trans (hnm i hi7)) l0 l1 l2 (by rw [el]; exact l3) (fun lo' h' w r c1 hi' hm' c2 c3 c4 z0 z1 z2 z3 => ?_) (fun c1 h' y hi' hm' hy => ?_)
    · rw [pI_md hm (smem1n (by omega)), el, ← gd, ← cd]
      congr 1
      omega
    · refine zValL hd h_t hj hb he9 hk h1 ht hc hnm m lo' h' (w :: r) (by omega) hi' (hm.seq hm') z0 z1 z2 ?_ (by rw [ed, evS_c hE]; exact c1) c2 (fun v hv => ?_)
      · rw [el] at z3
        rw [show b + (e.length - m) = b + (e.length - (m + 1)) + 1 from by omega]
        exact z3
      · rcases List.mem_cons.mp hv with rfl | hv
        · exact c3
        · exact c4 v hv
    · exact ⟨y, rfl, hi', hm.seq hm', Or.inr ⟨evS_dn m (by rw [ed, evS_c hE]; exact c1), hy⟩⟩
theorem zValC {l : Launch} {Γ : zG} {d : Nat} (hd : 1 ≤ d) {t : Nat} (h_t : t < 2) {j : Nat} (hj : j < 3) {b : Nat} {e : List Int} {nm : Nat → Int} {kd pt ot : Nat → Int} (hb : b + e.length ≤ 64) (he9 : ∀ x, x ∈ e → x ≤ 9999) (hk : kR kd pt ot b e) (h1 : (ixs b e).length = 1) {h : zH} (hi : sInv swC h) (hf : pI h (17 * t + 22) j = (b : Int)) (ht : pI h (17 * t + 23) j = ((b + e.length : Nat) : Int)) (hc : cdC (pI h (17 * t + 21)) b e) (hnm : ∀ i, i < 7 → pI h (17 * t + 24) i = nm i) {x : Int32} (hx : x.toInt = (j : Int)) : zSem l Γ false (d + 1) (zhd 89) [.ref (17 * t + 20), .int x] h (VC nm e t h) := by
  have ej : ((j : Int) + 0).toNat = j := by omega
  refine ev0 (by omega) h_t hi (la := (j : Int)) ⟨by omega, by omega⟩ (ff := (b : Int)) ⟨by omega, by omega⟩ hx (by rw [ej]; exact hf) (fun lo1 h1' hi1 hm1 l0 l1 l2 l3 => ?_)
  have w1 : ∀ q i, pI h1' q i = pI h q i := fun q i => pI_md hm1 rfl
  have V := zValL (l := l) (Γ := Γ) hd h_t hj hb he9 hk h1 (h0 := h) ht hc hnm e.length lo1 h1' [] (Nat.le_refl _) hi1 (hm1.sub rfl) l0 l1 l2 (by rw [Nat.sub_self]; exact l3) (by rw [List.drop_length]; rfl) rfl (fun v hv => nomatch hv)
  exact V

/-! arraycopy from 0 to 0 at a place where a piece ended -/
def zacB (mi pc : Nat) : Bool := decide ((zCodes.get mi).1 = mi) && (match (zCodes.get mi).2.get pc with
  | (pc', .invokestatic _, _, [_, _, _, _]) => pc' == pc
  | _ => false)
theorem zacp {l : Launch} {Γ : zG} {d mi pc q0 q1 n0 n1 n sp : Nat} {Kp : Option Value → zH → Prop} {lo : zL} {y0 y1 y3 : Int32} {rest : List Value} {h : zH} (hc : zacB mi pc = true) (hz : zwd rest ≤ 8) (s0 : h.1[q0]? = some (1, n0)) (s1 : h.1[q1]? = some (1, n1)) (e0 : y0.toInt = (n : Int)) (e1 : y1.toInt = 0) (e3 : y3.toInt = (sp : Int)) (b0 : sp + n ≤ n0) (b1 : n ≤ n1)
    (hs : zX l Γ false (d + 1) (zhd mi) (zMQ' Γ false (zhd mi) Kp) 0 0 (pc + 3) lo rest (zcp h q0 q1 sp 0 n)) : zX l Γ false (d + 1) (zhd mi) (zMQ' Γ false (zhd mi) Kp) 0 0 pc lo (.int y0 :: .int y1 :: .ref q1 :: .int y3 :: .ref q0 :: rest) h := by
  simp only [zacB, Bool.and_eq_true, decide_eq_true_eq] at hc
  obtain ⟨c1, c5⟩ := hc
  obtain ⟨q1', q2'⟩ := zallP_get _ zCodes_ok mi
  rw [c1] at q1' q2'
  have t0 : y0.toNatClampNeg = n := by
    show y0.toInt.toNat = n
    rw [e0]
    rfl
  have t1 : y1.toNatClampNeg = 0 := by
    show y1.toInt.toNat = 0
    rw [e1]
    rfl
  have t3 : y3.toNatClampNeg = sp := by
    show y3.toInt.toNat = sp
    rw [e3]
    rfl
  have nn : ∀ y : Int32, 0 ≤ y.toInt → ¬ y < 0 := fun y hy h => by
    have h2 := Int32.lt_iff_toInt_lt.mp h
    rw [show (0 : Int32).toInt = 0 from rfl] at h2
    omega
  split at c5
  · rename_i pc' x y z1 z2 z3 z4 e
    have e1' : pc' = pc := by simpa using c5
    refine zstep_ok (M := (zhd mi, (zCodes.get mi).2)) (ρ := Prop) (bad := False) (tr := fun P => P) (sc := none) (G := sGp l Γ d) (K := Kp) (C := fun cs ss pc l' st' h => zX l Γ false (d + 1) (zhd mi) (zMQ' Γ false (zhd mi) Kp) cs ss pc l' st' h) (fun h => h) q1' (fun mi args h K' _ h1 => h1.2) (fun args h K' h1 => absurd rfl h1.1) (fun x hx => by cases hx) (fun _ _ _ _ h => h) (fun _ _ _ _ _ _ h => h) ?_
    unfold zstep
    rw [e]
    show (if pc' = pc then _ else _)
    rw [if_pos e1']
    simp only [zins, s0, s1, t0, t1, t3]
    rw [if_pos ⟨hz, by decide, nn _ (by omega), nn _ (by omega), nn _ (by omega), by omega, by omega⟩]
    exact hs
  · cases c5
theorem zcp_md {h : zH} {q0 q1 n sp : Nat} : sMd [(q1, 0, n)] h (zcp h q0 q1 sp 0 n) := fun q k hm => by
  refine ⟨?_, rfl, rfl⟩
  have hn := smem1f hm
  show zur h.2.1 q1 (va_cpy (h.2.1 q0) (h.2.1 q1) sp 0 n) q k = h.2.1 q k
  unfold zur
  split
  · rename_i e
    unfold va_cpy
    rw [if_neg (by omega), e]
  · rfl
theorem zcp_at {h : zH} {q0 q1 n j sp : Nat} (hj : j < n) : pI (zcp h q0 q1 sp 0 n) q1 j = pI h q0 (sp + j) := by
  show (zur h.2.1 q1 (va_cpy (h.2.1 q0) (h.2.1 q1) sp 0 n) q1 j).toInt = (h.2.1 q0 (sp + j)).toInt
  rw [zur_at]
  unfold va_cpy
  rw [if_pos (by omega), show sp + (j - 0) = sp + j from by omega]
theorem zcp_i {h : zH} {q0 q1 n sp : Nat} (hi : sInv swC h) (hb : ∀ j, j < n → (sIv swC q1 j).1 ≤ pI h q0 (sp + j) ∧ pI h q0 (sp + j) ≤ (sIv swC q1 j).2) : sInv swC (zcp h q0 q1 sp 0 n) :=
  sInv_set hi rfl rfl (md := [(q1, 0, n)]) (fun q k hm => (zcp_md q k hm).1) (fun q k hm => by
    obtain ⟨rfl, g1, g2⟩ := smem1 hm
    have := hb k g2
    rw [← zcp_at (q1 := q) g2] at this
    exact this) (fun m hmem k => nomatch hmem)
/-! iastore, ineg at a place where a piece ended -/
def ziaB (mi pc : Nat) : Bool := decide ((zCodes.get mi).1 = mi) && (match (zCodes.get mi).2.get pc with
  | (pc', .iastore, _, _) => pc' == pc
  | _ => false)
theorem zias {l : Launch} {Γ : zG} {d mi pc q n j : Nat} {Kp : Option Value → zH → Prop} {lo : zL} {y0 y1 : Int32} {rest : List Value} {h : zH} (hc : ziaB mi pc = true) (s0 : h.1[q]? = some (1, n)) (e1 : y1.toInt = (j : Int)) (b0 : j < n)
    (hs : zX l Γ false (d + 1) (zhd mi) (zMQ' Γ false (zhd mi) Kp) 0 0 (pc + 1) lo rest (zsI h q j y0)) : zX l Γ false (d + 1) (zhd mi) (zMQ' Γ false (zhd mi) Kp) 0 0 pc lo (.int y0 :: .int y1 :: .ref q :: rest) h := by
  simp only [ziaB, Bool.and_eq_true, decide_eq_true_eq] at hc
  obtain ⟨c1, c5⟩ := hc
  obtain ⟨q1', q2'⟩ := zallP_get _ zCodes_ok mi
  rw [c1] at q1' q2'
  have t1 : y1.toNatClampNeg = j := by
    show y1.toInt.toNat = j
    rw [e1]
    rfl
  have nn : ¬ y1 < 0 := fun h => by
    have h2 := Int32.lt_iff_toInt_lt.mp h
    rw [show (0 : Int32).toInt = 0 from rfl] at h2
    omega
  split at c5
  · rename_i pc' z1 z2 e
    have e1' : pc' = pc := by simpa using c5
    refine zstep_ok (M := (zhd mi, (zCodes.get mi).2)) (ρ := Prop) (bad := False) (tr := fun P => P) (sc := none) (G := sGp l Γ d) (K := Kp) (C := fun cs ss pc l' st' h => zX l Γ false (d + 1) (zhd mi) (zMQ' Γ false (zhd mi) Kp) cs ss pc l' st' h) (fun h => h) q1' (fun mi args h K' _ h1 => h1.2) (fun args h K' h1 => absurd rfl h1.1) (fun x hx => by cases hx) (fun _ _ _ _ h => h) (fun _ _ _ _ _ _ h => h) ?_
    unfold zstep
    rw [e]
    show (if pc' = pc then _ else _)
    rw [if_pos e1']
    simp only [zins, s0, t1]
    rw [if_neg (fun c => c.elim nn (by omega))]
    exact hs
  · cases c5
def zngB (mi pc : Nat) : Bool := decide ((zCodes.get mi).1 = mi) && (match (zCodes.get mi).2.get pc with
  | (pc', .ineg, _, _) => pc' == pc
  | _ => false)
theorem zng {l : Launch} {Γ : zG} {d mi pc : Nat} {Kp : Option Value → zH → Prop} {lo : zL} {y0 : Int32} {rest : List Value} {h : zH} (hc : zngB mi pc = true)
    (hs : zX l Γ false (d + 1) (zhd mi) (zMQ' Γ false (zhd mi) Kp) 0 0 (pc + 1) lo (.int (-y0) :: rest) h) : zX l Γ false (d + 1) (zhd mi) (zMQ' Γ false (zhd mi) Kp) 0 0 pc lo (.int y0 :: rest) h := by
  simp only [zngB, Bool.and_eq_true, decide_eq_true_eq] at hc
  obtain ⟨c1, c5⟩ := hc
  obtain ⟨q1', q2'⟩ := zallP_get _ zCodes_ok mi
  rw [c1] at q1' q2'
  split at c5
  · rename_i pc' z1 z2 e
    have e1' : pc' = pc := by simpa using c5
    refine zstep_ok (M := (zhd mi, (zCodes.get mi).2)) (ρ := Prop) (bad := False) (tr := fun P => P) (sc := none) (G := sGp l Γ d) (K := Kp) (C := fun cs ss pc l' st' h => zX l Γ false (d + 1) (zhd mi) (zMQ' Γ false (zhd mi) Kp) cs ss pc l' st' h) (fun h => h) q1' (fun mi args h K' _ h1 => h1.2) (fun args h K' h1 => absurd rfl h1.1) (fun x hx => by cases hx) (fun _ _ _ _ h => h) (fun _ _ _ _ _ _ h => h) ?_
    unfold zstep
    rw [e]
    show (if pc' = pc then _ else _)
    rw [if_pos e1']
    simp only [zins]
    exact hs
  · cases c5
theorem zsI_at {h : zH} {q j : Nat} {v : Int32} : pI (zsI h q j v) q j = v.toInt := by
  show (zu2 h.2.1 q j v q j).toInt = _
  rw [zu2_at]
theorem zsI_md {h : zH} {q j : Nat} {v : Int32} : sMd [(q, j, j + 1)] h (zsI h q j v) := fun q' k hm => by
  have hn := smem1f hm
  refine ⟨?_, rfl, rfl⟩
  show zu2 h.2.1 q j v q' k = h.2.1 q' k
  rw [zu2_off (by omega)]

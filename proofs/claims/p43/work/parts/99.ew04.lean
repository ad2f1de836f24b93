theorem vmTi {l : Launch} {Γ : zG} {d : Nat} (hd : 1 ≤ d) {h : zH} {rr : Int} (hi : sInv swM h) (b_rr : 0 ≤ rr ∧ rr ≤ 63) {x_rr : Int32} (e_rr : x_rr.toInt = rr) (p_er : pI h 0 56 = 0) {pa po va vb : Int} (b_pa : 0 ≤ pa ∧ pa ≤ 63) (b_po : 0 ≤ po ∧ po ≤ 63) (b_va : inW va) (b_vb : inW vb) (p_kn : pI h 22 (rr + 0).toNat = 13) (p_pa : pI h 23 (rr + 0).toNat = pa) (p_po : pI h 24 (rr + 0).toNat = po) (p_va : pL h 28 (pa + 0).toNat = va) (p_vb : pL h 28 (po + 0).toNat = vb) : zSem l Γ false (d + 1) (zhd 241) [.ref 0, .int x_rr] h (fun r h' => ∃ y : Int64, r = some (.long y) ∧ sInv swM h' ∧ sMd [(0, 56, 57)] h h' ∧ VM (opv (-33) va vb) y.toInt h') :=
  have g : ∀ {w y : Int} {h' : zH}, inW (va * vb) ∧ w = va * vb → y = w → pI h' 0 56 = 0 → VM (opv (-33) va vb) y h' := fun a e er => Or.inl ⟨va * vb, rfl, a.1, e.trans a.2, er⟩
  have x : ∀ {y : Int} {h' : zH}, ¬ inW (va * vb) → pI h' 0 56 = 1 → VM (opv (-33) va vb) y h' := fun a er => Or.inr ⟨Or.inr ⟨va * vb, rfl, a⟩, er⟩
  emTi (by omega) hi b_rr b_pa b_po b_va b_vb e_rr p_kn p_er p_pa p_po p_va p_vb
    (fun h' w0 r_ a0 a1 e0 c1 er ey => ⟨r_, rfl, a0, a1.sub rfl, g (tmZ (Or.inl c1) b_va b_vb (Or.inl e0)) ey er⟩)
    (fun h' w0 r_ a0 a1 e0 c1 c2 er ey => ⟨r_, rfl, a0, a1.sub rfl, g (tmZ (Or.inr c2) b_va b_vb (Or.inl e0)) ey er⟩)
    (fun h' w0 w1 w2 w3 r_ a0 a1 e0 e1 e2 e3 c1 c2 c3 er ey => ⟨r_, rfl, a0, a1.sub rfl, g (tmI b_va b_vb (Or.inr ⟨tmN c1, e2.trans (sgd20 b_va)⟩) (Or.inr ⟨tmN c2, e1.trans (sgd20 b_vb)⟩) e3 e0 c3) ey er⟩)
    (fun h' w0 w1 w2 r_ a0 a1 e0 e1 e2 c1 c2 c3 er ey => ⟨r_, rfl, a0, a1.sub rfl, x (tmO b_va b_vb (Or.inr ⟨tmN c1, e1.trans (sgd20 b_va)⟩) (Or.inr ⟨tmN c2, e0.trans (sgd20 b_vb)⟩) e2 c3) er⟩)
    (fun h' w0 w1 w2 r_ a0 a1 e0 e1 e2 c1 c2 c3 er ey => ⟨r_, rfl, a0, a1.sub rfl, g (tmI b_va b_vb (Or.inr ⟨tmN c1, e1.trans (sgd20 b_va)⟩) (Or.inl ⟨tmQ c2, rfl⟩) e2 e0 c3) ey er⟩)
    (fun h' w0 w1 r_ a0 a1 e0 e1 c1 c2 c3 er ey => ⟨r_, rfl, a0, a1.sub rfl, x (tmO b_va b_vb (Or.inr ⟨tmN c1, e0.trans (sgd20 b_va)⟩) (Or.inl ⟨tmQ c2, rfl⟩) e1 c3) er⟩)
    (fun h' r_ a0 a1 c1 c2 er ey => ⟨r_, rfl, a0, a1.sub rfl, g (tmZ (w := 0) (Or.inr c2) b_va b_vb (Or.inr rfl)) ey er⟩)
    (fun h' w0 w1 w2 r_ a0 a1 e0 e1 e2 c1 c2 c3 er ey => ⟨r_, rfl, a0, a1.sub rfl, g (tmI b_va b_vb (Or.inl ⟨tmP c1, rfl⟩) (Or.inr ⟨tmN c2, e1.trans (sgd20 b_vb)⟩) e2 e0 c3) ey er⟩)
    (fun h' w0 w1 r_ a0 a1 e0 e1 c1 c2 c3 er ey => ⟨r_, rfl, a0, a1.sub rfl, x (tmO b_va b_vb (Or.inl ⟨tmP c1, rfl⟩) (Or.inr ⟨tmN c2, e0.trans (sgd20 b_vb)⟩) e1 c3) er⟩)
    (fun h' w0 w1 r_ a0 a1 e0 e1 c1 c2 c3 er ey => ⟨r_, rfl, a0, a1.sub rfl, g (tmI b_va b_vb (Or.inl ⟨tmP c1, rfl⟩) (Or.inl ⟨tmQ c2, rfl⟩) e1 e0 c3) ey er⟩)
    (fun h' w0 r_ a0 a1 e0 c1 c2 c3 er ey => ⟨r_, rfl, a0, a1.sub rfl, x (tmO b_va b_vb (Or.inl ⟨tmP c1, rfl⟩) (Or.inl ⟨tmQ c2, rfl⟩) e0 c3) er⟩)

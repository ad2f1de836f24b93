theorem zSem.deeper {l : Launch} {Γ : zG} {al : Bool} {d : Nat} {M : zHd} {args : List Value} {h : zH} {K : Option Value → zH → Prop} (hs : zSem l Γ al d M args h K) : zSem l Γ al (d + 1) M args h K := by
  intro p e ha hc hcl s m args' below hf happ hP hK
  refine hs p e ha hc hcl s m args' below hf ?_ hP hK
  simp only [Spec.appliesLoose, hf, Bool.and_eq_true] at happ ⊢
  obtain ⟨⟨h1, h2⟩, h3⟩ := happ
  refine ⟨⟨h1, ?_⟩, h3⟩
  simp only [State.hasRoom, Bool.and_eq_true, decide_eq_true_eq, headSpec, zrm] at h2 ⊢
  obtain ⟨⟨⟨⟨a1, a2⟩, a3⟩, a4⟩, a5⟩ := h2
  have a1 := of_decide_eq_true a1
  obtain ⟨b1, b2, b3, b4, b5⟩ := of_decide_eq_true a2
  exact ⟨⟨⟨⟨decide_eq_true (by omega), decide_eq_true ⟨by omega, by omega, by omega, by omega, b5⟩⟩, a3⟩, a4⟩, a5⟩
theorem zcon1S (l : Launch) (Γ : zG) : zSem l Γ true 10 (zhd 0) [.ref 0] (znew zh00 (0, 0)) (fun r h' => r = none ∧ h' = zhC) :=
  (zSem.norm (zrun_ok (ρ := Bool) (bad := false) (tr := fun b => b = true) (sp := fun _ => false) (S := zno false) (fun h => by cases h) rfl (fun _ _ _ _ _ h => by cases h) 100000 9 0 [.ref 0] (znew zh00 (0, 0)) (fun r h' => decide (r = none) && zeqB h' zhC) zcon1)).deeper
theorem zcon2S (l : Launch) (Γ : zG) : zSem l Γ true 10 (zhd 186) [.ref 0] (znew zh00 (0, 12)) (fun r h' => r = none ∧ h' = zhM) := by
  refine (zSem.norm (zrun_ok (ρ := Bool) (bad := false) (tr := fun b => b = true) (sp := zspK) (S := zSpK) (fun h => by cases h) rfl (fun d mi args h K hsp hS => ?_) 100000 9 186 [.ref 0] (znew zh00 (0, 12)) (fun r h' => decide (r = none) && zeqB h' zhM) zcon2)).deeper
  have e : mi = 188 := Nat.eq_of_beq_eq_true hsp
  subst e
  simp only [zSpK, Bool.and_eq_true, decide_eq_true_eq] at hS
  obtain ⟨⟨⟨rfl, rfl⟩, h1⟩, h2⟩ := hS
  refine zSem.congr h1 ((zcon_kt l Γ).mono ?_)
  rintro r h' ⟨rfl, rfl⟩
  exact h2
theorem zcon2W (l : Launch) (Γ : zG) (hΓ : ∀ q, ¬ Γ.2.2.2.2.2.2 q) : zSem l Γ true 10 (zhd 186) [.ref 98] (znew zhC (0, 12)) (fun r h' => r = none ∧ h' = zjn 98 zhC zhM) := by
  refine zSem.congr (g := zjn 98 zhC (znew zh00 (0, 12))) (by decide +kernel) ?_
  refine (zembed (n := 98) (Z := fun _ => False) (args := [.ref 0]) (g := zhC) (by decide +kernel) (fun _ _ h => h) (fun _ => ⟨by decide +kernel, fun _ h => h⟩) (fun h => by cases h) (fun q h1 h2 => ?_) (fun q h9 => absurd h9 (hΓ q)) (zcon2S l (zoff Γ 98 (fun _ => False)))).mono ?_
  · have e1 : zhC.1.length = 98 := by decide +kernel
    omega
  · rintro r h' ⟨r', f', rfl, ⟨rfl, rfl⟩, rfl⟩
    exact ⟨rfl, rfl⟩

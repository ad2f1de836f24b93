section ZRR
variable {ρ : Type}
/-- a method with all that it calls, d deep; what sp names goes by its own word S -/
def zrun (bad : ρ) (al : Bool) (sp : Nat → Bool) (S : Nat → Nat → List Value → zH → (Option Value → zH → ρ) → ρ) (n : Nat) : Nat → Nat → List Value → zH → (Option Value → zH → ρ) → ρ
  | 0 => fun _ _ _ _ => bad
  | d + 1 => fun mi args h K => if sp mi = true then S (d + 1) mi args h K else if (zCodes.get mi).1 = mi ∧ (lg_sl args).length ≤ (zhd mi).2.2.1 then zit bad (zhd mi, (zCodes.get mi).2) al none (zrun bad al sp S n d) K (fun _ => false) (fun _ _ _ _ _ _ => bad) n 0 0 0 (lv_args 0 args) [] h else bad
theorem zrun_GL {bad : ρ} {al : Bool} {sp : Nat → Bool} {S : Nat → Nat → List Value → zH → (Option Value → zH → ρ) → ρ} {n : Nat} (hsp : sp zGL = false) : ∀ (d : Nat) (args : List Value) (h : zH) (K : Option Value → zH → ρ), zrun bad al sp S n d zGL args h K = bad
  | 0, _, _, _ => rfl
  | d + 1, args, h, K => by
    have hne : ¬ (zCodes.get zGL).1 = zGL := by decide +kernel
    simp only [zrun, hsp, hne, false_and, if_false, Bool.false_eq_true]
theorem zrun_ok {bad : ρ} {tr : ρ → Prop} {l : Launch} {Γ : zG} {al : Bool} {sp : Nat → Bool} {S : Nat → Nat → List Value → zH → (Option Value → zH → ρ) → ρ} (hbad : ¬ tr bad) (hsp : sp zGL = false)
    (hS : ∀ d mi args h K, sp mi = true → tr (S d mi args h K) → zSem l Γ al d (zhd mi) args h (fun r h' => tr (K r h'))) (n : Nat) :
    ∀ (d mi : Nat) (args : List Value) (h : zH) (K : Option Value → zH → ρ), tr (zrun bad al sp S n d mi args h K) → zSem l Γ al d (zhd mi) args h (fun r h' => tr (K r h'))
  | 0, _, _, _, _, ht => absurd ht hbad
  | d + 1, mi, args, h, K, ht => by
    simp only [zrun] at ht
    split at ht
    · rename_i hsp
      exact hS _ _ _ _ _ hsp ht
    · split at ht
      · rename_i hc
        obtain ⟨e1, e2⟩ := hc
        obtain ⟨q1, q2⟩ := zallP_get _ zCodes_ok mi
        rw [e1] at q1 q2
        exact zbody q2 e2 (zit_ok (M := (zhd mi, (zCodes.get mi).2)) hbad q1 (fun mi args h K' _ h1 => zrun_ok hbad hsp hS n d mi args h K' h1) (fun args h K' h1 => absurd (by rw [zrun_GL hsp] at h1; exact h1) hbad) (fun _ h => by cases h) (fun _ _ _ _ h => h) (fun _ _ _ _ _ _ h => by cases h) n 0 0 0 _ _ h ht)
      · exact absurd ht hbad
end ZRR
def zh00 : zH := ([], fun _ _ => 0, fun _ _ => 0, fun _ _ => none)
def zno {ρ : Type} (bad : ρ) : Nat → Nat → List Value → zH → (Option Value → zH → ρ) → ρ := fun _ _ _ _ _ => bad

def zF1 (x1 : Int32) : Int32 := if x1 = 0 then 0 else -2
def zF25 (x1 : Int32) : Int32 := if x1 = 0 then -2 else if x1 = 1 then -2 else -1
theorem zne01 {x : Int32} (h : ¬ x < 0) (h0 : x ≠ 0) (h1 : x ≠ 1) : ¬ x ≤ 1 := by
  intro g
  rw [Int32.lt_iff_toInt_lt] at h
  rw [Int32.le_iff_toInt_le] at g
  have e0 : (0 : Int32).toInt = 0 := by decide
  have e1 : (1 : Int32).toInt = 1 := by decide
  rw [e0] at h
  rw [e1] at g
  have hc : x.toInt = 0 ∨ x.toInt = 1 := by omega
  rcases hc with e | e
  · exact h0 (Int32.toInt_inj.mp (by rw [e, e0]))
  · exact h1 (Int32.toInt_inj.mp (by rw [e, e1]))
theorem zf_c1_0 (l : Launch) (Γ : zG) : zSem l Γ false 10 (zhd 28) [.ref 0, .int 0] zhC (fun r f => r = some (.int 0) ∧ f.1 = zshC) := zrB (by decide +kernel)
set_option maxRecDepth 100000 in
set_option maxHeartbeats 4000000 in
theorem zf_c1 (l : Launch) (Γ : zG) (x1 : Int32) : zSem l Γ false 10 (zhd 28) [.ref 0, .int x1] zhC (fun r f => r = some (.int (zF1 x1)) ∧ f.1 = zshC) := by
  by_cases e0 : x1 = 0
  · subst e0
    exact zf_c1_0 l Γ
  refine zr1 ?_
  refine zdec (fun h0 => ?_) (fun h0 => ?_)
  · refine zdecF ?_ (fun h1 => ?_)
    · exact zeMn (zne_le h0 e0) (by first | with_reducible rfl | decide +kernel) (by first | with_reducible rfl | decide +kernel)
    (refine And.intro (zsvI (Eq.refl _) ?_) rfl ; rw [zF1, if_neg e0] ; decide +kernel)
  · (refine And.intro (zsvI (Eq.refl _) ?_) rfl ; rw [zF1, if_neg e0] ; decide +kernel)
theorem zf_m1_0 (l : Launch) (Γ : zG) : zSem l Γ false 10 (zhd 195) [.ref 0, .int 0] zhM (fun r f => r = some (.int 0) ∧ f.1 = zshM) := zrB (by decide +kernel)
set_option maxRecDepth 100000 in
set_option maxHeartbeats 4000000 in
theorem zf_m1 (l : Launch) (Γ : zG) (x1 : Int32) : zSem l Γ false 10 (zhd 195) [.ref 0, .int x1] zhM (fun r f => r = some (.int (zF1 x1)) ∧ f.1 = zshM) := by
  by_cases e0 : x1 = 0
  · subst e0
    exact zf_m1_0 l Γ
  refine zr1 ?_
  refine zdec (fun h0 => ?_) (fun h0 => ?_)
  · refine zdecF ?_ (fun h1 => ?_)
    · exact zeMn (zne_le h0 e0) (by first | with_reducible rfl | decide +kernel) (by first | with_reducible rfl | decide +kernel)
    (refine And.intro (zsvI (Eq.refl _) ?_) rfl ; rw [zF1, if_neg e0] ; decide +kernel)
  · (refine And.intro (zsvI (Eq.refl _) ?_) rfl ; rw [zF1, if_neg e0] ; decide +kernel)

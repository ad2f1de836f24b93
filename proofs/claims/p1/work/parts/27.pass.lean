def zgG : zH := zsI (zsP zhC 61 0 (some 9)) 61 1 1
set_option maxRecDepth 100000 in
set_option maxHeartbeats 4000000 in
theorem zpassG {l : Launch} {Γ : zG} {d : Nat} {QF : List Frame → Array Value → State → State → Prop} {K : Option Value → zH → Prop} {n k m : Int32} (hQ : ∀ below args s t, MQ below (zQ Γ false K) args s (zh100 : zHd).2.2.2.2.1 (zh100 : zHd).2.2.2.2.2 (zA Γ) t → QF below args s t) (hk : k < n) (hX : zX l Γ false 9 zh100 QF 0 0 2 [(3, .int (k + 1)), (0, .ref 61), (1, .ref 43), (2, .int n)] [] (zsI (zsI zgG 43 0 m) 43 0 (m + 1))) : zX l Γ false 9 zh100 QF 0 0 2 [(3, .int k), (0, .ref 61), (1, .ref 43), (2, .int n)] [] (zsI zgG 43 0 m) := by
  refine zit_ok (ρ := Prop) (bad := False) (tr := fun P => P) (M := (zh100, zc100)) (sc := none) (G := zrun False false (fun _ => false) (zno False) 1000 8) (K := K) (stop := fun p => Nat.beq p 2) (S := fun cs ss pc lo st h => zX l Γ false 9 zh100 QF cs ss pc lo st h) (fun h => h) zckm100 (fun mi args h K' _ h1 => zrun_ok (ρ := Prop) (bad := False) (tr := fun P => P) (sp := fun _ => false) (S := zno False) (fun h => h) rfl (fun _ _ _ _ _ h => by cases h) 1000 8 mi args h K' h1) (fun args h K' h1 => False.elim (by rw [zrun_GL rfl] at h1; exact h1)) (fun _ h => by cases h) hQ (fun cs ss pc lo st h _ h1 => h1) 1000 0 0 2 _ [] _ ?_
  refine zdecF ?_ (fun h0 => ?_)
  · exact Int32.not_le.mpr hk
  refine zdec (fun h1 => ?_) (fun h1 => ?_)
  · exact hX
  · exact hX
theorem zsI_sI (h : zH) (q k : Nat) (v w : Int32) : zsI (zsI h q k v) q k w = zsI h q k w := by
  have e : zu2 (zu2 h.2.1 q k v) q k w = zu2 h.2.1 q k w := by
    funext a b
    simp only [zu2]
    by_cases h1 : a = q
    · by_cases h2 : b = k
      · simp only [h1, h2, if_true]
      · simp only [h1, h2, if_true, if_false]
    · simp only [h1, if_false]
  show ((h.1, zu2 (zu2 h.2.1 q k v) q k w, h.2.2) : zH) = (h.1, zu2 h.2.1 q k w, h.2.2)
  rw [e]

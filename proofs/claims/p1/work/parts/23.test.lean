theorem ztst1 (l : Launch) (Γ : zG) (hL : Γ.2.2.2.2.1 = 6) (h9 : zSem l Γ false 10 (zhd 1) [.ref 0] (zW zhC zhM 0) (fun r h' => True)) : zit False (zhL, zcL) false (some (Γ.2.2.2.2.1, Γ.2.2.2.2.2.1)) (zLG l Γ false) zKL (fun _ => false) (fun _ _ _ _ _ _ => False) 60 142 20000 1160 [(4, .int 0), (3, .ref 142), (2, .ref 98), (1, .ref 0), (0, .retAddr 10)] [] (zW zhC zhM 0) := by
  show zSem l Γ false 10 (zhd _) _ _ _
  sorry

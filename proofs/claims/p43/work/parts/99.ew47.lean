/-! every method that keeps what is alike, on both sides, with the states -/
theorem zsc2 (l : Launch) (Γ : zG) {f : zH} {A : zGb} (h : zGC A f) (x1 : Int32) : zSem l Γ false 10 (zhd 76) [.ref 0, .int x1] f (fun r f' => (∃ a : Int32, r = some (.int a)) ∧ zGC A f') := by
  exact zgCI (schk_ok (mi := 76) (ct := scC127) (T := sTC) (fun mi c hc _ => sTC_ok l Γ mi c hc) skC127) (by decide) rfl rfl rfl (⟨_, _, rfl, rfl, _, _, rfl, ⟨x1, rfl, i32bd x1⟩, rfl⟩) h
theorem zsm2 (l : Launch) (Γ : zG) {f : zH} {A : zGb} (h : zGM A f) (x1 : Int32) : zSem l Γ false 10 (zhd 226) [.ref 0, .int x1] f (fun r f' => (∃ a : Int32, r = some (.int a)) ∧ zGM A f') := by
  exact zgMI (schk_ok (mi := 226) (ct := scM5) (T := sTM) (fun mi c hc _ => sTM_ok l Γ mi c hc) skM5) (by decide) rfl rfl rfl (⟨_, _, rfl, rfl, _, _, rfl, ⟨x1, rfl, i32bd x1⟩, rfl⟩) h
theorem zsc3 (l : Launch) (Γ : zG) {f : zH} {A : zGb} (h : zGC A f) (x1 x2 : Int32) : zSem l Γ false 10 (zhd 77) [.ref 0, .int x1, .int x2] f (fun r f' => (∃ a : Int32, r = some (.int a)) ∧ zGC A f') := by
  exact zgCI (schk_ok (mi := 77) (ct := scC128) (T := sTC) (fun mi c hc _ => sTC_ok l Γ mi c hc) skC128) (by decide) rfl rfl rfl (⟨_, _, rfl, rfl, _, _, rfl, ⟨x1, rfl, i32bd x1⟩, _, _, rfl, ⟨x2, rfl, i32bd x2⟩, rfl⟩) h
theorem zsm3 (l : Launch) (Γ : zG) {f : zH} {A : zGb} (h : zGM A f) (x1 x2 : Int32) : zSem l Γ false 10 (zhd 227) [.ref 0, .int x1, .int x2] f (fun r f' => (∃ a : Int32, r = some (.int a)) ∧ zGM A f') := by
  exact zgMI (schk_ok (mi := 227) (ct := scM6) (T := sTM) (fun mi c hc _ => sTM_ok l Γ mi c hc) skM6) (by decide) rfl rfl rfl (⟨_, _, rfl, rfl, _, _, rfl, ⟨x1, rfl, i32bd x1⟩, _, _, rfl, ⟨x2, rfl, i32bd x2⟩, rfl⟩) h
theorem zsm4 (l : Launch) (Γ : zG) {f : zH} {A : zGb} (h : zGM A f) (x1 x2 : Int32) : zSem l Γ false 10 (zhd 228) [.ref 0, .int x1, .int x2] f (fun r f' => (∃ a : Int32, r = some (.int a)) ∧ zGM A f') := by
  exact zgMI (schk_ok (mi := 228) (ct := scM7) (T := sTM) (fun mi c hc _ => sTM_ok l Γ mi c hc) skM7) (by decide) rfl rfl rfl (⟨_, _, rfl, rfl, _, _, rfl, ⟨x1, rfl, i32bd x1⟩, _, _, rfl, ⟨x2, rfl, i32bd x2⟩, rfl⟩) h
theorem zsc5 (l : Launch) (Γ : zG) {f : zH} {A : zGb} (h : zGC A f) (x1 x2 : Int32) : zSem l Γ false 10 (zhd 78) [.ref 0, .int x1, .int x2] f (fun r f' => (∃ a : Int32, r = some (.int a)) ∧ zGC A f') := by
  exact zgCI (schk_ok (mi := 78) (ct := scC129) (T := sTC) (fun mi c hc _ => sTC_ok l Γ mi c hc) skC129) (by decide) rfl rfl rfl (⟨_, _, rfl, rfl, _, _, rfl, ⟨x1, rfl, i32bd x1⟩, _, _, rfl, ⟨x2, rfl, i32bd x2⟩, rfl⟩) h
theorem zsm5 (l : Launch) (Γ : zG) {f : zH} {A : zGb} (h : zGM A f) (x1 x2 : Int32) : zSem l Γ false 10 (zhd 231) [.ref 0, .int x1, .int x2] f (fun r f' => (∃ a : Int32, r = some (.int a)) ∧ zGM A f') := by
  exact zgMI (schk_ok (mi := 231) (ct := scM8) (T := sTM) (fun mi c hc _ => sTM_ok l Γ mi c hc) skM8) (by decide) rfl rfl rfl (⟨_, _, rfl, rfl, _, _, rfl, ⟨x1, rfl, i32bd x1⟩, _, _, rfl, ⟨x2, rfl, i32bd x2⟩, rfl⟩) h
theorem zsc6 (l : Launch) (Γ : zG) {f : zH} {A : zGb} (h : zGC A f) (x1 x2 : Int32) : zSem l Γ false 10 (zhd 82) [.ref 0, .int x1, .int x2] f (fun r f' => (∃ a : Int32, r = some (.int a)) ∧ zGC A f') := by
  exact zgCI (schk_ok (mi := 82) (ct := scC136) (T := sTC) (fun mi c hc _ => sTC_ok l Γ mi c hc) skC136) (by decide) rfl rfl rfl (⟨_, _, rfl, rfl, _, _, rfl, ⟨x1, rfl, i32bd x1⟩, _, _, rfl, ⟨x2, rfl, i32bd x2⟩, rfl⟩) h
theorem zsm6 (l : Launch) (Γ : zG) {f : zH} {A : zGb} (h : zGM A f) (x1 x2 : Int32) : zSem l Γ false 10 (zhd 235) [.ref 0, .int x1, .int x2] f (fun r f' => (∃ a : Int32, r = some (.int a)) ∧ zGM A f') := by
  exact zgMI (schk_ok (mi := 235) (ct := scM12) (T := sTM) (fun mi c hc _ => sTM_ok l Γ mi c hc) skM12) (by decide) rfl rfl rfl (⟨_, _, rfl, rfl, _, _, rfl, ⟨x1, rfl, i32bd x1⟩, _, _, rfl, ⟨x2, rfl, i32bd x2⟩, rfl⟩) h
theorem zsc7 (l : Launch) (Γ : zG) {f : zH} {A : zGb} (h : zGC A f) (x1 x2 : Int32) : zSem l Γ false 10 (zhd 83) [.ref 0, .int x1, .int x2] f (fun r f' => (∃ a : Int64, r = some (.long a)) ∧ zGC A f') := by
  exact zgCJ (schk_ok (mi := 83) (ct := scC137) (T := sTC) (fun mi c hc _ => sTC_ok l Γ mi c hc) skC137) (by decide) rfl rfl rfl (⟨_, _, rfl, rfl, _, _, rfl, ⟨x1, rfl, i32bd x1⟩, _, _, rfl, ⟨x2, rfl, i32bd x2⟩, rfl⟩) h
theorem zsm7 (l : Launch) (Γ : zG) {f : zH} {A : zGb} (h : zGM A f) (x1 x2 : Int32) : zSem l Γ false 10 (zhd 237) [.ref 0, .int x1, .int x2] f (fun r f' => (∃ a : Int64, r = some (.long a)) ∧ zGM A f') := by
  exact zgMJ (schk_ok (mi := 237) (ct := scM13) (T := sTM) (fun mi c hc _ => sTM_ok l Γ mi c hc) skM13) (by decide) rfl rfl rfl (⟨_, _, rfl, rfl, _, _, rfl, ⟨x1, rfl, i32bd x1⟩, _, _, rfl, ⟨x2, rfl, i32bd x2⟩, rfl⟩) h
theorem zsc12 (l : Launch) (Γ : zG) {f : zH} {A : zGb} (h : zGC A f) (x1 x2 x3 : Int32) : zSem l Γ false 10 (zhd 110) [.ref 0, .int x1, .int x2, .int x3] f (fun r f' => (∃ a : Int32, r = some (.int a)) ∧ zGC A f') := by
  by_cases g0 : x2.toInt ≤ -1
  · exact zgCI (schk_ok (mi := 110) (ct := scC175) (T := sTC) (fun mi c hc _ => sTC_ok l Γ mi c hc) skC175) (by decide) rfl rfl rfl (⟨_, _, rfl, rfl, _, _, rfl, ⟨x1, rfl, i32bd x1⟩, _, _, rfl, ⟨x2, rfl, by show (-2147483648 : Int) ≤ x2.toInt; have := i32bd x2; omega, by show x2.toInt ≤ (-1 : Int); have := i32bd x2; omega⟩, _, _, rfl, ⟨x3, rfl, i32bd x3⟩, rfl⟩) h
  by_cases g1 : x2.toInt ≤ 0
  · exact zgCI (schk_ok (mi := 110) (ct := scC176) (T := sTC) (fun mi c hc _ => sTC_ok l Γ mi c hc) skC176) (by decide) rfl rfl rfl (⟨_, _, rfl, rfl, _, _, rfl, ⟨x1, rfl, i32bd x1⟩, _, _, rfl, ⟨x2, rfl, by show (0 : Int) ≤ x2.toInt; have := i32bd x2; omega, by show x2.toInt ≤ (0 : Int); have := i32bd x2; omega⟩, _, _, rfl, ⟨x3, rfl, i32bd x3⟩, rfl⟩) h
  by_cases g2 : x2.toInt ≤ 1
  · exact zgCI (schk_ok (mi := 110) (ct := scC177) (T := sTC) (fun mi c hc _ => sTC_ok l Γ mi c hc) skC177) (by decide) rfl rfl rfl (⟨_, _, rfl, rfl, _, _, rfl, ⟨x1, rfl, i32bd x1⟩, _, _, rfl, ⟨x2, rfl, by show (1 : Int) ≤ x2.toInt; have := i32bd x2; omega, by show x2.toInt ≤ (1 : Int); have := i32bd x2; omega⟩, _, _, rfl, ⟨x3, rfl, i32bd x3⟩, rfl⟩) h
  by_cases g3 : x2.toInt ≤ 4
  · exact zgCI (schk_ok (mi := 110) (ct := scC178) (T := sTC) (fun mi c hc _ => sTC_ok l Γ mi c hc) skC178) (by decide) rfl rfl rfl (⟨_, _, rfl, rfl, _, _, rfl, ⟨x1, rfl, i32bd x1⟩, _, _, rfl, ⟨x2, rfl, by show (2 : Int) ≤ x2.toInt; have := i32bd x2; omega, by show x2.toInt ≤ (4 : Int); have := i32bd x2; omega⟩, _, _, rfl, ⟨x3, rfl, i32bd x3⟩, rfl⟩) h
  exact zgCI (schk_ok (mi := 110) (ct := scC179) (T := sTC) (fun mi c hc _ => sTC_ok l Γ mi c hc) skC179) (by decide) rfl rfl rfl (⟨_, _, rfl, rfl, _, _, rfl, ⟨x1, rfl, i32bd x1⟩, _, _, rfl, ⟨x2, rfl, by show (5 : Int) ≤ x2.toInt; have := i32bd x2; omega, by show x2.toInt ≤ (2147483647 : Int); have := i32bd x2; omega⟩, _, _, rfl, ⟨x3, rfl, i32bd x3⟩, rfl⟩) h
theorem zsm12 (l : Launch) (Γ : zG) {f : zH} {A : zGb} (h : zGM A f) (x1 x2 x3 : Int32) : zSem l Γ false 10 (zhd 262) [.ref 0, .int x1, .int x2, .int x3] f (fun r f' => (∃ a : Int32, r = some (.int a)) ∧ zGM A f') := by
  exact zgMI (snM63 l Γ) (by decide) rfl rfl rfl (⟨_, _, rfl, rfl, _, _, rfl, ⟨x1, rfl, i32bd x1⟩, _, _, rfl, ⟨x2, rfl, i32bd x2⟩, _, _, rfl, ⟨x3, rfl, i32bd x3⟩, rfl⟩) h
theorem zsc13 (l : Launch) (Γ : zG) {f : zH} {A : zGb} (h : zGC A f) (x1 : Int32) : zSem l Γ false 10 (zhd 118) [.ref 0, .int x1] f (fun r f' => (∃ a : Int32, r = some (.int a)) ∧ zGC A f') := by
  exact zgCI (schk_ok (mi := 118) (ct := scC198) (T := sTC) (fun mi c hc _ => sTC_ok l Γ mi c hc) skC198) (by decide) rfl rfl rfl (⟨_, _, rfl, rfl, _, _, rfl, ⟨x1, rfl, i32bd x1⟩, rfl⟩) h
theorem zsm13 (l : Launch) (Γ : zG) {f : zH} {A : zGb} (h : zGM A f) (x1 : Int32) : zSem l Γ false 10 (zhd 267) [.ref 0, .int x1] f (fun r f' => (∃ a : Int32, r = some (.int a)) ∧ zGM A f') := by
  exact zgMI (snM70 l Γ) (by decide) rfl rfl rfl (⟨_, _, rfl, rfl, _, _, rfl, ⟨x1, rfl, i32bd x1⟩, rfl⟩) h
theorem zsc14 (l : Launch) (Γ : zG) {f : zH} {A : zGb} (h : zGC A f) (x1 x2 : Int32) : zSem l Γ false 10 (zhd 119) [.ref 0, .int x1, .int x2] f (fun r f' => (∃ a : Int32, r = some (.int a)) ∧ zGC A f') := by
  exact zgCI (schk_ok (mi := 119) (ct := scC199) (T := sTC) (fun mi c hc _ => sTC_ok l Γ mi c hc) skC199) (by decide) rfl rfl rfl (⟨_, _, rfl, rfl, _, _, rfl, ⟨x1, rfl, i32bd x1⟩, _, _, rfl, ⟨x2, rfl, i32bd x2⟩, rfl⟩) h
theorem zsm14 (l : Launch) (Γ : zG) {f : zH} {A : zGb} (h : zGM A f) (x1 x2 : Int32) : zSem l Γ false 10 (zhd 268) [.ref 0, .int x1, .int x2] f (fun r f' => (∃ a : Int32, r = some (.int a)) ∧ zGM A f') := by
  exact zgMI (schk_ok (mi := 268) (ct := scM71) (T := sTM) (fun mi c hc _ => sTM_ok l Γ mi c hc) skM71) (by decide) rfl rfl rfl (⟨_, _, rfl, rfl, _, _, rfl, ⟨x1, rfl, i32bd x1⟩, _, _, rfl, ⟨x2, rfl, i32bd x2⟩, rfl⟩) h
theorem zsc15 (l : Launch) (Γ : zG) {f : zH} {A : zGb} (h : zGC A f) (x1 x2 : Int32) : zSem l Γ false 10 (zhd 122) [.ref 0, .int x1, .int x2] f (fun r f' => (∃ a : Int32, r = some (.int a)) ∧ zGC A f') := by
  exact zgCI (schk_ok (mi := 122) (ct := scC202) (T := sTC) (fun mi c hc _ => sTC_ok l Γ mi c hc) skC202) (by decide) rfl rfl rfl (⟨_, _, rfl, rfl, _, _, rfl, ⟨x1, rfl, i32bd x1⟩, _, _, rfl, ⟨x2, rfl, i32bd x2⟩, rfl⟩) h
theorem zsm15 (l : Launch) (Γ : zG) {f : zH} {A : zGb} (h : zGM A f) (x1 x2 : Int32) : zSem l Γ false 10 (zhd 271) [.ref 0, .int x1, .int x2] f (fun r f' => (∃ a : Int32, r = some (.int a)) ∧ zGM A f') := by
  exact zgMI (schk_ok (mi := 271) (ct := scM73) (T := sTM) (fun mi c hc _ => sTM_ok l Γ mi c hc) skM73) (by decide) rfl rfl rfl (⟨_, _, rfl, rfl, _, _, rfl, ⟨x1, rfl, i32bd x1⟩, _, _, rfl, ⟨x2, rfl, i32bd x2⟩, rfl⟩) h
theorem zsc16 (l : Launch) (Γ : zG) {f : zH} {A : zGb} (h : zGC A f) : zSem l Γ false 10 (zhd 126) [.ref 0] f (fun r f' => (∃ a : Int32, r = some (.int a)) ∧ zGC A f') := by
  exact zgCI (schk_ok (mi := 126) (ct := scC206) (T := sTC) (fun mi c hc _ => sTC_ok l Γ mi c hc) skC206) (by decide) rfl rfl rfl (⟨_, _, rfl, rfl, rfl⟩) h
theorem zsm16 (l : Launch) (Γ : zG) {f : zH} {A : zGb} (h : zGM A f) : zSem l Γ false 10 (zhd 273) [.ref 0] f (fun r f' => (∃ a : Int32, r = some (.int a)) ∧ zGM A f') := by
  exact zgMI (schk_ok (mi := 273) (ct := scM75) (T := sTM) (fun mi c hc _ => sTM_ok l Γ mi c hc) skM75) (by decide) rfl rfl rfl (⟨_, _, rfl, rfl, rfl⟩) h
theorem zsc17 (l : Launch) (Γ : zG) {f : zH} {A : zGb} (h : zGC A f) (x1 x2 : Int32) : zSem l Γ false 10 (zhd 130) [.ref 0, .int x1, .int x2] f (fun r f' => (∃ a : Int32, r = some (.int a)) ∧ zGC A f') := by
  exact zgCI (schk_ok (mi := 130) (ct := scC213) (T := sTC) (fun mi c hc _ => sTC_ok l Γ mi c hc) skC213) (by decide) rfl rfl rfl (⟨_, _, rfl, rfl, _, _, rfl, ⟨x1, rfl, i32bd x1⟩, _, _, rfl, ⟨x2, rfl, i32bd x2⟩, rfl⟩) h
theorem zsm17 (l : Launch) (Γ : zG) {f : zH} {A : zGb} (h : zGM A f) (x1 x2 : Int32) : zSem l Γ false 10 (zhd 275) [.ref 0, .int x1, .int x2] f (fun r f' => (∃ a : Int32, r = some (.int a)) ∧ zGM A f') := by
  exact zgMI (schk_ok (mi := 275) (ct := scM76) (T := sTM) (fun mi c hc _ => sTM_ok l Γ mi c hc) skM76) (by decide) rfl rfl rfl (⟨_, _, rfl, rfl, _, _, rfl, ⟨x1, rfl, i32bd x1⟩, _, _, rfl, ⟨x2, rfl, i32bd x2⟩, rfl⟩) h
theorem zsc18 (l : Launch) (Γ : zG) {f : zH} {A : zGb} (h : zGC A f) (x1 : Int32) : zSem l Γ false 10 (zhd 136) [.ref 0, .int x1] f (fun r f' => (∃ a : Int32, r = some (.int a)) ∧ zGC A f') := by
  exact zgCI (schk_ok (mi := 136) (ct := scC220) (T := sTC) (fun mi c hc _ => sTC_ok l Γ mi c hc) skC220) (by decide) rfl rfl rfl (⟨_, _, rfl, rfl, _, _, rfl, ⟨x1, rfl, i32bd x1⟩, rfl⟩) h
theorem zsm18 (l : Launch) (Γ : zG) {f : zH} {A : zGb} (h : zGM A f) (x1 : Int32) : zSem l Γ false 10 (zhd 276) [.ref 0, .int x1] f (fun r f' => (∃ a : Int32, r = some (.int a)) ∧ zGM A f') := by
  exact zgMI (schk_ok (mi := 276) (ct := scM77) (T := sTM) (fun mi c hc _ => sTM_ok l Γ mi c hc) skM77) (by decide) rfl rfl rfl (⟨_, _, rfl, rfl, _, _, rfl, ⟨x1, rfl, i32bd x1⟩, rfl⟩) h
theorem zsc19 (l : Launch) (Γ : zG) {f : zH} {A : zGb} (h : zGC A f) (x1 x2 : Int32) : zSem l Γ false 10 (zhd 138) [.ref 0, .int x1, .int x2] f (fun r f' => (∃ a : Int32, r = some (.int a)) ∧ zGC A f') := by
  exact zgCI (schk_ok (mi := 138) (ct := scC223) (T := sTC) (fun mi c hc _ => sTC_ok l Γ mi c hc) skC223) (by decide) rfl rfl rfl (⟨_, _, rfl, rfl, _, _, rfl, ⟨x1, rfl, i32bd x1⟩, _, _, rfl, ⟨x2, rfl, i32bd x2⟩, rfl⟩) h
theorem zsm19 (l : Launch) (Γ : zG) {f : zH} {A : zGb} (h : zGM A f) (x1 x2 : Int32) : zSem l Γ false 10 (zhd 277) [.ref 0, .int x1, .int x2] f (fun r f' => (∃ a : Int32, r = some (.int a)) ∧ zGM A f') := by
  exact zgMI (schk_ok (mi := 277) (ct := scM78) (T := sTM) (fun mi c hc _ => sTM_ok l Γ mi c hc) skM78) (by decide) rfl rfl rfl (⟨_, _, rfl, rfl, _, _, rfl, ⟨x1, rfl, i32bd x1⟩, _, _, rfl, ⟨x2, rfl, i32bd x2⟩, rfl⟩) h
theorem zsc20 (l : Launch) (Γ : zG) {f : zH} {A : zGb} (h : zGC A f) (x1 x2 x3 : Int32) : zSem l Γ false 10 (zhd 139) [.ref 0, .int x1, .int x2, .int x3] f (fun r f' => (∃ a : Int64, r = some (.long a)) ∧ zGC A f') := by
  exact zgCJ (schk_ok (mi := 139) (ct := scC224) (T := sTC) (fun mi c hc _ => sTC_ok l Γ mi c hc) skC224) (by decide) rfl rfl rfl (⟨_, _, rfl, rfl, _, _, rfl, ⟨x1, rfl, i32bd x1⟩, _, _, rfl, ⟨x2, rfl, i32bd x2⟩, _, _, rfl, ⟨x3, rfl, i32bd x3⟩, rfl⟩) h
theorem zsm20 (l : Launch) (Γ : zG) {f : zH} {A : zGb} (h : zGM A f) (x1 x2 x3 : Int32) : zSem l Γ false 10 (zhd 278) [.ref 0, .int x1, .int x2, .int x3] f (fun r f' => (∃ a : Int64, r = some (.long a)) ∧ zGM A f') := by
  exact zgMJ (schk_ok (mi := 278) (ct := scM79) (T := sTM) (fun mi c hc _ => sTM_ok l Γ mi c hc) skM79) (by decide) rfl rfl rfl (⟨_, _, rfl, rfl, _, _, rfl, ⟨x1, rfl, i32bd x1⟩, _, _, rfl, ⟨x2, rfl, i32bd x2⟩, _, _, rfl, ⟨x3, rfl, i32bd x3⟩, rfl⟩) h
theorem zsc21 (l : Launch) (Γ : zG) {f : zH} {A : zGb} (h : zGC A f) : zSem l Γ false 10 (zhd 141) [.ref 0] f (fun r f' => (∃ a : Int32, r = some (.int a)) ∧ zGC A f') := by
  exact zgCI (schk_ok (mi := 141) (ct := scC226) (T := sTC) (fun mi c hc _ => sTC_ok l Γ mi c hc) skC226) (by decide) rfl rfl rfl (⟨_, _, rfl, rfl, rfl⟩) h
theorem zsm21 (l : Launch) (Γ : zG) {f : zH} {A : zGb} (h : zGM A f) : zSem l Γ false 10 (zhd 279) [.ref 0] f (fun r f' => (∃ a : Int32, r = some (.int a)) ∧ zGM A f') := by
  exact zgMI (schk_ok (mi := 279) (ct := scM80) (T := sTM) (fun mi c hc _ => sTM_ok l Γ mi c hc) skM80) (by decide) rfl rfl rfl (⟨_, _, rfl, rfl, rfl⟩) h
theorem zsc22 (l : Launch) (Γ : zG) {f : zH} {A : zGb} (h : zGC A f) (x1 : Int32) : zSem l Γ false 10 (zhd 143) [.ref 0, .int x1] f (fun r f' => (∃ a : Int32, r = some (.int a)) ∧ zGC A f') := by
  exact zgCI (schk_ok (mi := 143) (ct := scC231) (T := sTC) (fun mi c hc _ => sTC_ok l Γ mi c hc) skC231) (by decide) rfl rfl rfl (⟨_, _, rfl, rfl, _, _, rfl, ⟨x1, rfl, i32bd x1⟩, rfl⟩) h
theorem zsm22 (l : Launch) (Γ : zG) {f : zH} {A : zGb} (h : zGM A f) (x1 : Int32) : zSem l Γ false 10 (zhd 282) [.ref 0, .int x1] f (fun r f' => (∃ a : Int32, r = some (.int a)) ∧ zGM A f') := by
  exact zgMI (schk_ok (mi := 282) (ct := scM84) (T := sTM) (fun mi c hc _ => sTM_ok l Γ mi c hc) skM84) (by decide) rfl rfl rfl (⟨_, _, rfl, rfl, _, _, rfl, ⟨x1, rfl, i32bd x1⟩, rfl⟩) h
theorem zsc23 (l : Launch) (Γ : zG) {f : zH} {A : zGb} (h : zGC A f) (x1 x2 : Int32) : zSem l Γ false 10 (zhd 147) [.ref 0, .int x1, .int x2] f (fun r f' => (∃ a : Int32, r = some (.int a)) ∧ zGC A f') := by
  exact zgCI (schk_ok (mi := 147) (ct := scC235) (T := sTC) (fun mi c hc _ => sTC_ok l Γ mi c hc) skC235) (by decide) rfl rfl rfl (⟨_, _, rfl, rfl, _, _, rfl, ⟨x1, rfl, i32bd x1⟩, _, _, rfl, ⟨x2, rfl, i32bd x2⟩, rfl⟩) h
theorem zsm23 (l : Launch) (Γ : zG) {f : zH} {A : zGb} (h : zGM A f) (x1 x2 : Int32) : zSem l Γ false 10 (zhd 286) [.ref 0, .int x1, .int x2] f (fun r f' => (∃ a : Int32, r = some (.int a)) ∧ zGM A f') := by
  exact zgMI (schk_ok (mi := 286) (ct := scM87) (T := sTM) (fun mi c hc _ => sTM_ok l Γ mi c hc) skM87) (by decide) rfl rfl rfl (⟨_, _, rfl, rfl, _, _, rfl, ⟨x1, rfl, i32bd x1⟩, _, _, rfl, ⟨x2, rfl, i32bd x2⟩, rfl⟩) h
theorem zsc24 (l : Launch) (Γ : zG) {f : zH} {A : zGb} (h : zGC A f) (x1 x2 x3 : Int32) : zSem l Γ false 10 (zhd 148) [.ref 0, .int x1, .int x2, .int x3] f (fun r f' => (∃ a : Int32, r = some (.int a)) ∧ zGC A f') := by
  exact zgCI (schk_ok (mi := 148) (ct := scC236) (T := sTC) (fun mi c hc _ => sTC_ok l Γ mi c hc) skC236) (by decide) rfl rfl rfl (⟨_, _, rfl, rfl, _, _, rfl, ⟨x1, rfl, i32bd x1⟩, _, _, rfl, ⟨x2, rfl, i32bd x2⟩, _, _, rfl, ⟨x3, rfl, i32bd x3⟩, rfl⟩) h
theorem zsm24 (l : Launch) (Γ : zG) {f : zH} {A : zGb} (h : zGM A f) (x1 x2 x3 : Int32) : zSem l Γ false 10 (zhd 287) [.ref 0, .int x1, .int x2, .int x3] f (fun r f' => (∃ a : Int32, r = some (.int a)) ∧ zGM A f') := by
  exact zgMI (schk_ok (mi := 287) (ct := scM88) (T := sTM) (fun mi c hc _ => sTM_ok l Γ mi c hc) skM88) (by decide) rfl rfl rfl (⟨_, _, rfl, rfl, _, _, rfl, ⟨x1, rfl, i32bd x1⟩, _, _, rfl, ⟨x2, rfl, i32bd x2⟩, _, _, rfl, ⟨x3, rfl, i32bd x3⟩, rfl⟩) h
theorem zsc25 (l : Launch) (Γ : zG) {f : zH} {A : zGb} (h : zGC A f) (x1 : Int32) : zSem l Γ false 10 (zhd 150) [.ref 0, .int x1] f (fun r f' => (∃ a : Int32, r = some (.int a)) ∧ zGC A f') := by
  exact zgCI (schk_ok (mi := 150) (ct := scC238) (T := sTC) (fun mi c hc _ => sTC_ok l Γ mi c hc) skC238) (by decide) rfl rfl rfl (⟨_, _, rfl, rfl, _, _, rfl, ⟨x1, rfl, i32bd x1⟩, rfl⟩) h
theorem zsm25 (l : Launch) (Γ : zG) {f : zH} {A : zGb} (h : zGM A f) (x1 : Int32) : zSem l Γ false 10 (zhd 289) [.ref 0, .int x1] f (fun r f' => (∃ a : Int32, r = some (.int a)) ∧ zGM A f') := by
  exact zgMI (snM90 l Γ) (by decide) rfl rfl rfl (⟨_, _, rfl, rfl, _, _, rfl, ⟨x1, rfl, i32bd x1⟩, rfl⟩) h
theorem zsc26 (l : Launch) (Γ : zG) {f : zH} {A : zGb} (h : zGC A f) : zSem l Γ false 10 (zhd 152) [.ref 0] f (fun r f' => (∃ a : Int32, r = some (.int a)) ∧ zGC A f') := by
  exact zgCI (schk_ok (mi := 152) (ct := scC240) (T := sTC) (fun mi c hc _ => sTC_ok l Γ mi c hc) skC240) (by decide) rfl rfl rfl (⟨_, _, rfl, rfl, rfl⟩) h
theorem zsm26 (l : Launch) (Γ : zG) {f : zH} {A : zGb} (h : zGM A f) : zSem l Γ false 10 (zhd 290) [.ref 0] f (fun r f' => (∃ a : Int32, r = some (.int a)) ∧ zGM A f') := by
  exact zgMI (schk_ok (mi := 290) (ct := scM91) (T := sTM) (fun mi c hc _ => sTM_ok l Γ mi c hc) skM91) (by decide) rfl rfl rfl (⟨_, _, rfl, rfl, rfl⟩) h
theorem zsc27 (l : Launch) (Γ : zG) {f : zH} {A : zGb} (h : zGC A f) : zSem l Γ false 10 (zhd 153) [.ref 0] f (fun r f' => (∃ a : Int32, r = some (.int a)) ∧ zGC A f') := by
  exact zgCI (schk_ok (mi := 153) (ct := scC241) (T := sTC) (fun mi c hc _ => sTC_ok l Γ mi c hc) skC241) (by decide) rfl rfl rfl (⟨_, _, rfl, rfl, rfl⟩) h
theorem zsm27 (l : Launch) (Γ : zG) {f : zH} {A : zGb} (h : zGM A f) : zSem l Γ false 10 (zhd 291) [.ref 0] f (fun r f' => (∃ a : Int32, r = some (.int a)) ∧ zGM A f') := by
  exact zgMI (schk_ok (mi := 291) (ct := scM92) (T := sTM) (fun mi c hc _ => sTM_ok l Γ mi c hc) skM92) (by decide) rfl rfl rfl (⟨_, _, rfl, rfl, rfl⟩) h
theorem zsc28 (l : Launch) (Γ : zG) {f : zH} {A : zGb} (h : zGC A f) (x1 : Int32) : zSem l Γ false 10 (zhd 154) [.ref 0, .int x1] f (fun r f' => (∃ a : Int32, r = some (.int a)) ∧ zGC A f') := by
  exact zgCI (schk_ok (mi := 154) (ct := scC242) (T := sTC) (fun mi c hc _ => sTC_ok l Γ mi c hc) skC242) (by decide) rfl rfl rfl (⟨_, _, rfl, rfl, _, _, rfl, ⟨x1, rfl, i32bd x1⟩, rfl⟩) h
theorem zsm28 (l : Launch) (Γ : zG) {f : zH} {A : zGb} (h : zGM A f) (x1 : Int32) : zSem l Γ false 10 (zhd 281) [.ref 0, .int x1] f (fun r f' => (∃ a : Int32, r = some (.int a)) ∧ zGM A f') := by
  exact zgMI (snM83 l Γ) (by decide) rfl rfl rfl (⟨_, _, rfl, rfl, _, _, rfl, ⟨x1, rfl, i32bd x1⟩, rfl⟩) h
theorem zsc29 (l : Launch) (Γ : zG) {f : zH} {A : zGb} (h : zGC A f) (x1 : Int32) : zSem l Γ false 10 (zhd 155) [.ref 0, .int x1] f (fun r f' => (∃ a : Int32, r = some (.int a)) ∧ zGC A f') := by
  exact zgCI (schk_ok (mi := 155) (ct := scC243) (T := sTC) (fun mi c hc _ => sTC_ok l Γ mi c hc) skC243) (by decide) rfl rfl rfl (⟨_, _, rfl, rfl, _, _, rfl, ⟨x1, rfl, i32bd x1⟩, rfl⟩) h
theorem zsm29 (l : Launch) (Γ : zG) {f : zH} {A : zGb} (h : zGM A f) (x1 : Int32) : zSem l Γ false 10 (zhd 293) [.ref 0, .int x1] f (fun r f' => (∃ a : Int32, r = some (.int a)) ∧ zGM A f') := by
  exact zgMI (schk_ok (mi := 293) (ct := scM94) (T := sTM) (fun mi c hc _ => sTM_ok l Γ mi c hc) skM94) (by decide) rfl rfl rfl (⟨_, _, rfl, rfl, _, _, rfl, ⟨x1, rfl, i32bd x1⟩, rfl⟩) h
theorem zsc30 (l : Launch) (Γ : zG) {f : zH} {A : zGb} (h : zGC A f) (x1 : Int32) : zSem l Γ false 10 (zhd 156) [.ref 0, .int x1] f (fun r f' => (∃ a : Int32, r = some (.int a)) ∧ zGC A f') := by
  exact zgCI (schk_ok (mi := 156) (ct := scC244) (T := sTC) (fun mi c hc _ => sTC_ok l Γ mi c hc) skC244) (by decide) rfl rfl rfl (⟨_, _, rfl, rfl, _, _, rfl, ⟨x1, rfl, i32bd x1⟩, rfl⟩) h
theorem zsm30 (l : Launch) (Γ : zG) {f : zH} {A : zGb} (h : zGM A f) (x1 : Int32) : zSem l Γ false 10 (zhd 294) [.ref 0, .int x1] f (fun r f' => (∃ a : Int32, r = some (.int a)) ∧ zGM A f') := by
  exact zgMI (schk_ok (mi := 294) (ct := scM95) (T := sTM) (fun mi c hc _ => sTM_ok l Γ mi c hc) skM95) (by decide) rfl rfl rfl (⟨_, _, rfl, rfl, _, _, rfl, ⟨x1, rfl, i32bd x1⟩, rfl⟩) h
theorem zsc31 (l : Launch) (Γ : zG) {f : zH} {A : zGb} (h : zGC A f) : zSem l Γ false 10 (zhd 157) [.ref 0] f (fun r f' => (∃ a : Int32, r = some (.int a)) ∧ zGC A f') := by
  exact zgCI (schk_ok (mi := 157) (ct := scC245) (T := sTC) (fun mi c hc _ => sTC_ok l Γ mi c hc) skC245) (by decide) rfl rfl rfl (⟨_, _, rfl, rfl, rfl⟩) h
theorem zsm31 (l : Launch) (Γ : zG) {f : zH} {A : zGb} (h : zGM A f) : zSem l Γ false 10 (zhd 292) [.ref 0] f (fun r f' => (∃ a : Int32, r = some (.int a)) ∧ zGM A f') := by
  exact zgMI (schk_ok (mi := 292) (ct := scM93) (T := sTM) (fun mi c hc _ => sTM_ok l Γ mi c hc) skM93) (by decide) rfl rfl rfl (⟨_, _, rfl, rfl, rfl⟩) h
theorem zsc35 (l : Launch) (Γ : zG) {f : zH} {A : zGb} (h : zGC A f) (x1 : Int32) : zSem l Γ false 10 (zhd 163) [.ref 0, .int x1] f (fun r f' => (∃ a : Int32, r = some (.int a)) ∧ zGC A f') := by
  exact zgCI (schk_ok (mi := 163) (ct := scC251) (T := sTC) (fun mi c hc _ => sTC_ok l Γ mi c hc) skC251) (by decide) rfl rfl rfl (⟨_, _, rfl, rfl, _, _, rfl, ⟨x1, rfl, i32bd x1⟩, rfl⟩) h
theorem zsm35 (l : Launch) (Γ : zG) {f : zH} {A : zGb} (h : zGM A f) (x1 : Int32) : zSem l Γ false 10 (zhd 299) [.ref 0, .int x1] f (fun r f' => (∃ a : Int32, r = some (.int a)) ∧ zGM A f') := by
  exact zgMI (snM146 l Γ) (by decide) rfl rfl rfl (⟨_, _, rfl, rfl, _, _, rfl, ⟨x1, rfl, i32bd x1⟩, rfl⟩) h
theorem zsc36 (l : Launch) (Γ : zG) {f : zH} {A : zGb} (h : zGC A f) (x1 x2 x3 : Int32) : zSem l Γ false 10 (zhd 168) [.ref 0, .int x1, .int x2, .int x3] f (fun r f' => (∃ a : Int32, r = some (.int a)) ∧ zGC A f') := by
  exact zgCI (schk_ok (mi := 168) (ct := scC255) (T := sTC) (fun mi c hc _ => sTC_ok l Γ mi c hc) skC255) (by decide) rfl rfl rfl (⟨_, _, rfl, rfl, _, _, rfl, ⟨x1, rfl, i32bd x1⟩, _, _, rfl, ⟨x2, rfl, i32bd x2⟩, _, _, rfl, ⟨x3, rfl, i32bd x3⟩, rfl⟩) h
theorem zsm36 (l : Launch) (Γ : zG) {f : zH} {A : zGb} (h : zGM A f) (x1 x2 x3 : Int32) : zSem l Γ false 10 (zhd 303) [.ref 0, .int x1, .int x2, .int x3] f (fun r f' => (∃ a : Int32, r = some (.int a)) ∧ zGM A f') := by
  refine (zChM l Γ h.1.1 x1 x2 x3).mono ?_
  rintro r h' ⟨e, h2, h3, h4⟩
  exact ⟨e, h.md h2 h3 (by decide +kernel) (by decide +kernel) h4⟩
theorem zsc37 (l : Launch) (Γ : zG) {f : zH} {A : zGb} (h : zGC A f) (x1 x2 x3 : Int32) : zSem l Γ false 10 (zhd 169) [.ref 0, .int x1, .int x2, .int x3] f (fun r f' => (∃ a : Int32, r = some (.int a)) ∧ zGC A f') := by
  exact zgCI (schk_ok (mi := 169) (ct := scC256) (T := sTC) (fun mi c hc _ => sTC_ok l Γ mi c hc) skC256) (by decide) rfl rfl rfl (⟨_, _, rfl, rfl, _, _, rfl, ⟨x1, rfl, i32bd x1⟩, _, _, rfl, ⟨x2, rfl, i32bd x2⟩, _, _, rfl, ⟨x3, rfl, i32bd x3⟩, rfl⟩) h
theorem zsm37 (l : Launch) (Γ : zG) {f : zH} {A : zGb} (h : zGM A f) (x1 x2 x3 : Int32) : zSem l Γ false 10 (zhd 304) [.ref 0, .int x1, .int x2, .int x3] f (fun r f' => (∃ a : Int32, r = some (.int a)) ∧ zGM A f') := by
  exact zgMI (snM151 l Γ) (by decide) rfl rfl rfl (⟨_, _, rfl, rfl, _, _, rfl, ⟨x1, rfl, i32bd x1⟩, _, _, rfl, ⟨x2, rfl, i32bd x2⟩, _, _, rfl, ⟨x3, rfl, i32bd x3⟩, rfl⟩) h
theorem zsc41 (l : Launch) (Γ : zG) {f : zH} {A : zGb} (h : zGC A f) (x1 : Int32) : zSem l Γ false 10 (zhd 175) [.ref 0, .int x1] f (fun r f' => (∃ a : Int32, r = some (.int a)) ∧ zGC A f') := by
  exact zgCI (schk_ok (mi := 175) (ct := scC263) (T := sTC) (fun mi c hc _ => sTC_ok l Γ mi c hc) skC263) (by decide) rfl rfl rfl (⟨_, _, rfl, rfl, _, _, rfl, ⟨x1, rfl, i32bd x1⟩, rfl⟩) h
theorem zsm41 (l : Launch) (Γ : zG) {f : zH} {A : zGb} (h : zGM A f) (x1 : Int32) : zSem l Γ false 10 (zhd 310) [.ref 0, .int x1] f (fun r f' => (∃ a : Int32, r = some (.int a)) ∧ zGM A f') := by
  exact zgMI (schk_ok (mi := 310) (ct := scM178) (T := sTM) (fun mi c hc _ => sTM_ok l Γ mi c hc) skM178) (by decide) rfl rfl rfl (⟨_, _, rfl, rfl, _, _, rfl, ⟨x1, rfl, i32bd x1⟩, rfl⟩) h

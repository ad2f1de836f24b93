/-! every method that can be called, on both sides: it returns, the world stays good, the tape's length is told -/
def zKi (w : sW) (v : Int) : Option Value → zH → Prop := fun r f => (∃ a : Int32, r = some (.int a)) ∧ sInv w f ∧ pI f 0 1 = v
def zKj (w : sW) (v : Int) : Option Value → zH → Prop := fun r f => (∃ a : Int64, r = some (.long a)) ∧ sInv w f ∧ pI f 0 1 = v
theorem zofI {l : Launch} {Γ : zG} {w : sW} {mi : Nat} {ct : sCt} {iv : Int × Int} {args : List Value} {f : zH} {v : Int} (hc : sCon l Γ w mi ct) (hfr : ct.2.2.2.2.2 ≤ 10) (hpre : ct.2.1 = sA0) (hres : ct.2.2.1 = some (.inl iv)) (hmd : smem ct.2.2.2.2.1 0 1 = false) (ha : sTL ct.1 args) (hi : sInv w f) (hv : pI f 0 1 = v) : zSem l Γ false 10 (zhd mi) args f (zKi w v) := by
  refine (hc 10 hfr args f ha hi (by rw [hpre]; exact sA0_ok f)).mono ?_
  rintro r h' ⟨h1, h2, h3, -⟩
  rw [hres] at h1
  obtain ⟨x, e, a, rfl, -⟩ := h1
  exact ⟨⟨a, e⟩, h2, (pI_md h3 hmd).trans hv⟩
theorem zofJ {l : Launch} {Γ : zG} {w : sW} {mi : Nat} {ct : sCt} {iv : Int × Int} {args : List Value} {f : zH} {v : Int} (hc : sCon l Γ w mi ct) (hfr : ct.2.2.2.2.2 ≤ 10) (hpre : ct.2.1 = sA0) (hres : ct.2.2.1 = some (.inr (.inr iv))) (hmd : smem ct.2.2.2.2.1 0 1 = false) (ha : sTL ct.1 args) (hi : sInv w f) (hv : pI f 0 1 = v) : zSem l Γ false 10 (zhd mi) args f (zKj w v) := by
  refine (hc 10 hfr args f ha hi (by rw [hpre]; exact sA0_ok f)).mono ?_
  rintro r h' ⟨h1, h2, h3, -⟩
  rw [hres] at h1
  obtain ⟨x, e, a, rfl, -⟩ := h1
  exact ⟨⟨a, e⟩, h2, (pI_md h3 hmd).trans hv⟩
theorem sPl1 {f : zH} {v : Int} (hv : pI f 0 1 = v) : sAok ([(0, 1, (v, v))], [], [], []) f := sAok.of (sfm ⟨by show v ≤ pI f 0 1; omega, by show pI f 0 1 ≤ v; omega⟩ (fun _ h => nomatch h))
theorem sPl1' {f : zH} {v : Int} (hv : sAok ([(0, 1, (v, v))], [], [], []) f) : pI f 0 1 = v := by
  have h : v ≤ pI f 0 1 ∧ pI f 0 1 ≤ v := hv.1 (0, 1, (v, v)) List.mem_cons_self
  omega
theorem i32eq {x : Int32} {v : Int} (h1 : v ≤ x.toInt) (h2 : x.toInt ≤ v) : x = Int32.ofInt v := by
  have e : x.toInt = v := by omega
  rw [← e, Int32.ofInt_toInt]
/-- feed on both sides -/
theorem zpfeed (l : Launch) {f1 f2 : zH} {t : Nat} (ht : t ≤ 35) (h1 : sInv swC f1) (h2 : sInv swM f2) (e1 : pI f1 0 1 = 20 * (t : Int)) (e2 : pI f2 0 1 = 20 * (t : Int)) (x1 x2 x3 x4 x5 : Int32) : ∃ (a : Int32) (t' : Nat), t' ≤ 35 ∧ (∀ Γ : zG, zSem l Γ false 10 (zhd 26) [.ref 0, .int x1, .int x2, .int x3, .int x4, .int x5] f1 (fun r f => r = some (.int a) ∧ sInv swC f ∧ pI f 0 1 = 20 * (t' : Int))) ∧ (∀ Γ : zG, zSem l Γ false 10 (zhd 193) [.ref 0, .int x1, .int x2, .int x3, .int x4, .int x5] f2 (fun r f => r = some (.int a) ∧ sInv swM f ∧ pI f 0 1 = 20 * (t' : Int))) := by
  have ha : sTL [.inr (.inl 0), .inl sf32, .inl sf32, .inl sf32, .inl sf32, .inl sf32] [.ref 0, .int x1, .int x2, .int x3, .int x4, .int x5] := ⟨_, _, rfl, rfl, _, _, rfl, ⟨x1, rfl, i32bd x1⟩, _, _, rfl, ⟨x2, rfl, i32bd x2⟩, _, _, rfl, ⟨x3, rfl, i32bd x3⟩, _, _, rfl, ⟨x4, rfl, i32bd x4⟩, _, _, rfl, ⟨x5, rfl, i32bd x5⟩, rfl⟩
  by_cases hlt : t < 35
  · refine ⟨Int32.ofInt (20 * (t : Int) + 20), t + 1, hlt, fun Γ => ?_, fun Γ => ?_⟩
    · refine (yfC l Γ t hlt 10 (by show 3 ≤ 10; decide) _ f1 ha h1 (sPl1 e1)).mono ?_
      rintro r h' ⟨⟨v, e, x, rfl, b1, b2⟩, c2, -, c4⟩
      refine ⟨by rw [e, i32eq b1 b2], c2, ?_⟩
      have := sPl1' c4
      omega
    · refine (yfM l Γ t hlt 10 (by show 3 ≤ 10; decide) _ f2 ha h2 (sPl1 e2)).mono ?_
      rintro r h' ⟨⟨v, e, x, rfl, b1, b2⟩, c2, -, c4⟩
      refine ⟨by rw [e, i32eq b1 b2], c2, ?_⟩
      have := sPl1' c4
      omega
  · have et : t = 35 := by omega
    subst et
    refine ⟨Int32.ofInt (-1), 35, ht, fun Γ => ?_, fun Γ => ?_⟩
    · refine (yfCn l Γ 10 (by show 3 ≤ 10; decide) _ f1 ha h1 (sPl1 (v := 700) (by omega))).mono ?_
      rintro r h' ⟨⟨v, e, x, rfl, b1, b2⟩, c2, c3, -⟩
      exact ⟨by rw [e, i32eq b1 b2], c2, (pI_md c3 rfl).trans e1⟩
    · refine (yfMn l Γ 10 (by show 3 ≤ 10; decide) _ f2 ha h2 (sPl1 (v := 700) (by omega))).mono ?_
      rintro r h' ⟨⟨v, e, x, rfl, b1, b2⟩, c2, c3, -⟩
      exact ⟨by rw [e, i32eq b1 b2], c2, (pI_md c3 rfl).trans e2⟩
/-- text on both sides -/
theorem zptext (l : Launch) {f1 f2 : zH} {t : Nat} (ht : t ≤ 35) (h1 : sInv swC f1) (h2 : sInv swM f2) (e1 : pI f1 0 1 = 20 * (t : Int)) (e2 : pI f2 0 1 = 20 * (t : Int)) (x1 : Int32) : ∃ t' : Nat, t' ≤ 35 ∧ (∀ Γ : zG, zSem l Γ false 10 (zhd 28) [.ref 0, .int x1] f1 (zKi swC (20 * (t' : Int)))) ∧ (∀ Γ : zG, zSem l Γ false 10 (zhd 194) [.ref 0, .int x1] f2 (zKi swM (20 * (t' : Int)))) := by
  have bd := i32bd x1
  have ha : ∀ a b : Int, a ≤ x1.toInt → x1.toInt ≤ b → sTL [.inr (.inl 0), .inl (a, b)] [.ref 0, .int x1] := fun a b p q => ⟨_, _, rfl, rfl, _, _, rfl, ⟨x1, rfl, p, q⟩, rfl⟩
  by_cases hneg : x1.toInt < 0
  · refine ⟨t, ht, fun Γ => ?_, fun Γ => ?_⟩
    · exact zofI (ytCl l Γ) (by decide) rfl rfl rfl (ha _ _ bd.1 (by omega)) h1 e1
    · exact zofI (ytMl l Γ) (by decide) rfl rfl rfl (ha _ _ bd.1 (by omega)) h2 e2
  · by_cases hle : x1.toInt ≤ 20 * (t : Int)
    · refine ⟨0, by decide, fun Γ => ?_, fun Γ => ?_⟩
      · refine (ytC l Γ t (by omega) 10 (by show 8 ≤ 10; decide) _ f1 (ha _ _ (by omega) hle) h1 (sPl1 e1)).mono ?_
        rintro r h' ⟨⟨v, e, x, rfl, -⟩, c2, -, c4⟩
        exact ⟨⟨x, e⟩, c2, sPl1' c4⟩
      · refine (ztext l Γ t (by omega) 10 (by show 10 ≤ 10; decide) _ f2 (ha _ _ (by omega) hle) h2 (sPl1 e2)).mono ?_
        rintro r h' ⟨⟨v, e, x, rfl, -⟩, c2, -, c4⟩
        exact ⟨⟨x, e⟩, c2, sPl1' c4⟩
    · refine ⟨t, ht, fun Γ => ?_, fun Γ => ?_⟩
      · refine (ytCh l Γ t (by omega) 10 (by show 1 ≤ 10; decide) _ f1 (ha _ _ (by omega) bd.2) h1 (sPl1 e1)).mono ?_
        rintro r h' ⟨⟨v, e, x, rfl, -⟩, c2, c3, -⟩
        exact ⟨⟨x, e⟩, c2, (pI_md c3 rfl).trans e1⟩
      · refine (ytMh l Γ t (by omega) 10 (by show 1 ≤ 10; decide) _ f2 (ha _ _ (by omega) bd.2) h2 (sPl1 e2)).mono ?_
        rintro r h' ⟨⟨v, e, x, rfl, -⟩, c2, c3, -⟩
        exact ⟨⟨x, e⟩, c2, (pI_md c3 rfl).trans e2⟩
theorem zpc2 (l : Launch) (Γ : zG) {f : zH} {v : Int} (hi : sInv swC f) (hv : pI f 0 1 = v) (x1 : Int32) : zSem l Γ false 10 (zhd 76) [.ref 0, .int x1] f (zKi swC v) := by
  exact zofI (schk_ok (mi := 76) (ct := scC127) (T := sTC) (fun mi c hc _ => sTC_ok l Γ mi c hc) skC127) (by decide) rfl rfl rfl (⟨_, _, rfl, rfl, _, _, rfl, ⟨x1, rfl, i32bd x1⟩, rfl⟩) hi hv
theorem zpm2 (l : Launch) (Γ : zG) {f : zH} {v : Int} (hi : sInv swM f) (hv : pI f 0 1 = v) (x1 : Int32) : zSem l Γ false 10 (zhd 226) [.ref 0, .int x1] f (zKi swM v) := by
  exact zofI (schk_ok (mi := 226) (ct := scM5) (T := sTM) (fun mi c hc _ => sTM_ok l Γ mi c hc) skM5) (by decide) rfl rfl rfl (⟨_, _, rfl, rfl, _, _, rfl, ⟨x1, rfl, i32bd x1⟩, rfl⟩) hi hv
theorem zpc3 (l : Launch) (Γ : zG) {f : zH} {v : Int} (hi : sInv swC f) (hv : pI f 0 1 = v) (x1 x2 : Int32) : zSem l Γ false 10 (zhd 77) [.ref 0, .int x1, .int x2] f (zKi swC v) := by
  exact zofI (schk_ok (mi := 77) (ct := scC128) (T := sTC) (fun mi c hc _ => sTC_ok l Γ mi c hc) skC128) (by decide) rfl rfl rfl (⟨_, _, rfl, rfl, _, _, rfl, ⟨x1, rfl, i32bd x1⟩, _, _, rfl, ⟨x2, rfl, i32bd x2⟩, rfl⟩) hi hv
theorem zpm3 (l : Launch) (Γ : zG) {f : zH} {v : Int} (hi : sInv swM f) (hv : pI f 0 1 = v) (x1 x2 : Int32) : zSem l Γ false 10 (zhd 227) [.ref 0, .int x1, .int x2] f (zKi swM v) := by
  exact zofI (schk_ok (mi := 227) (ct := scM6) (T := sTM) (fun mi c hc _ => sTM_ok l Γ mi c hc) skM6) (by decide) rfl rfl rfl (⟨_, _, rfl, rfl, _, _, rfl, ⟨x1, rfl, i32bd x1⟩, _, _, rfl, ⟨x2, rfl, i32bd x2⟩, rfl⟩) hi hv
theorem zpm4 (l : Launch) (Γ : zG) {f : zH} {v : Int} (hi : sInv swM f) (hv : pI f 0 1 = v) (x1 x2 : Int32) : zSem l Γ false 10 (zhd 228) [.ref 0, .int x1, .int x2] f (zKi swM v) := by
  exact zofI (schk_ok (mi := 228) (ct := scM7) (T := sTM) (fun mi c hc _ => sTM_ok l Γ mi c hc) skM7) (by decide) rfl rfl rfl (⟨_, _, rfl, rfl, _, _, rfl, ⟨x1, rfl, i32bd x1⟩, _, _, rfl, ⟨x2, rfl, i32bd x2⟩, rfl⟩) hi hv
theorem zpc5 (l : Launch) (Γ : zG) {f : zH} {v : Int} (hi : sInv swC f) (hv : pI f 0 1 = v) (x1 x2 : Int32) : zSem l Γ false 10 (zhd 78) [.ref 0, .int x1, .int x2] f (zKi swC v) := by
  exact zofI (schk_ok (mi := 78) (ct := scC129) (T := sTC) (fun mi c hc _ => sTC_ok l Γ mi c hc) skC129) (by decide) rfl rfl rfl (⟨_, _, rfl, rfl, _, _, rfl, ⟨x1, rfl, i32bd x1⟩, _, _, rfl, ⟨x2, rfl, i32bd x2⟩, rfl⟩) hi hv
theorem zpm5 (l : Launch) (Γ : zG) {f : zH} {v : Int} (hi : sInv swM f) (hv : pI f 0 1 = v) (x1 x2 : Int32) : zSem l Γ false 10 (zhd 231) [.ref 0, .int x1, .int x2] f (zKi swM v) := by
  exact zofI (schk_ok (mi := 231) (ct := scM8) (T := sTM) (fun mi c hc _ => sTM_ok l Γ mi c hc) skM8) (by decide) rfl rfl rfl (⟨_, _, rfl, rfl, _, _, rfl, ⟨x1, rfl, i32bd x1⟩, _, _, rfl, ⟨x2, rfl, i32bd x2⟩, rfl⟩) hi hv
theorem zpc6 (l : Launch) (Γ : zG) {f : zH} {v : Int} (hi : sInv swC f) (hv : pI f 0 1 = v) (x1 x2 : Int32) : zSem l Γ false 10 (zhd 82) [.ref 0, .int x1, .int x2] f (zKi swC v) := by
  exact zofI (schk_ok (mi := 82) (ct := scC136) (T := sTC) (fun mi c hc _ => sTC_ok l Γ mi c hc) skC136) (by decide) rfl rfl rfl (⟨_, _, rfl, rfl, _, _, rfl, ⟨x1, rfl, i32bd x1⟩, _, _, rfl, ⟨x2, rfl, i32bd x2⟩, rfl⟩) hi hv
theorem zpm6 (l : Launch) (Γ : zG) {f : zH} {v : Int} (hi : sInv swM f) (hv : pI f 0 1 = v) (x1 x2 : Int32) : zSem l Γ false 10 (zhd 235) [.ref 0, .int x1, .int x2] f (zKi swM v) := by
  exact zofI (schk_ok (mi := 235) (ct := scM12) (T := sTM) (fun mi c hc _ => sTM_ok l Γ mi c hc) skM12) (by decide) rfl rfl rfl (⟨_, _, rfl, rfl, _, _, rfl, ⟨x1, rfl, i32bd x1⟩, _, _, rfl, ⟨x2, rfl, i32bd x2⟩, rfl⟩) hi hv
theorem zpc7 (l : Launch) (Γ : zG) {f : zH} {v : Int} (hi : sInv swC f) (hv : pI f 0 1 = v) (x1 x2 : Int32) : zSem l Γ false 10 (zhd 83) [.ref 0, .int x1, .int x2] f (zKj swC v) := by
  exact zofJ (schk_ok (mi := 83) (ct := scC137) (T := sTC) (fun mi c hc _ => sTC_ok l Γ mi c hc) skC137) (by decide) rfl rfl rfl (⟨_, _, rfl, rfl, _, _, rfl, ⟨x1, rfl, i32bd x1⟩, _, _, rfl, ⟨x2, rfl, i32bd x2⟩, rfl⟩) hi hv
theorem zpm7 (l : Launch) (Γ : zG) {f : zH} {v : Int} (hi : sInv swM f) (hv : pI f 0 1 = v) (x1 x2 : Int32) : zSem l Γ false 10 (zhd 237) [.ref 0, .int x1, .int x2] f (zKj swM v) := by
  exact zofJ (schk_ok (mi := 237) (ct := scM13) (T := sTM) (fun mi c hc _ => sTM_ok l Γ mi c hc) skM13) (by decide) rfl rfl rfl (⟨_, _, rfl, rfl, _, _, rfl, ⟨x1, rfl, i32bd x1⟩, _, _, rfl, ⟨x2, rfl, i32bd x2⟩, rfl⟩) hi hv
theorem zpc8 (l : Launch) (Γ : zG) {f : zH} {v : Int} (hi : sInv swC f) (hv : pI f 0 1 = v) (x1 : Int32) : zSem l Γ false 10 (zhd 91) [.ref 0, .int x1] f (zKi swC v) := by
  exact zofI (schk_ok (mi := 91) (ct := scC146) (T := sTC) (fun mi c hc _ => sTC_ok l Γ mi c hc) skC146) (by decide) rfl rfl rfl (⟨_, _, rfl, rfl, _, _, rfl, ⟨x1, rfl, i32bd x1⟩, rfl⟩) hi hv
theorem zpm8 (l : Launch) (Γ : zG) {f : zH} {v : Int} (hi : sInv swM f) (hv : pI f 0 1 = v) (x1 : Int32) : zSem l Γ false 10 (zhd 245) [.ref 0, .int x1] f (zKi swM v) := by
  exact zofI (schk_ok (mi := 245) (ct := scM22) (T := sTM) (fun mi c hc _ => sTM_ok l Γ mi c hc) skM22) (by decide) rfl rfl rfl (⟨_, _, rfl, rfl, _, _, rfl, ⟨x1, rfl, i32bd x1⟩, rfl⟩) hi hv
theorem zpc9 (l : Launch) (Γ : zG) {f : zH} {v : Int} (hi : sInv swC f) (hv : pI f 0 1 = v) (x1 x2 x3 : Int32) : zSem l Γ false 10 (zhd 95) [.ref 0, .int x1, .int x2, .int x3] f (zKi swC v) := by
  exact zofI (schk_ok (mi := 95) (ct := scC150) (T := sTC) (fun mi c hc _ => sTC_ok l Γ mi c hc) skC150) (by decide) rfl rfl rfl (⟨_, _, rfl, rfl, _, _, rfl, ⟨x1, rfl, i32bd x1⟩, _, _, rfl, ⟨x2, rfl, i32bd x2⟩, _, _, rfl, ⟨x3, rfl, i32bd x3⟩, rfl⟩) hi hv
theorem zpm9 (l : Launch) (Γ : zG) {f : zH} {v : Int} (hi : sInv swM f) (hv : pI f 0 1 = v) (x1 x2 x3 : Int32) : zSem l Γ false 10 (zhd 249) [.ref 0, .int x1, .int x2, .int x3] f (zKi swM v) := by
  exact zofI (schk_ok (mi := 249) (ct := scM45) (T := sTM) (fun mi c hc _ => sTM_ok l Γ mi c hc) skM45) (by decide) rfl rfl rfl (⟨_, _, rfl, rfl, _, _, rfl, ⟨x1, rfl, i32bd x1⟩, _, _, rfl, ⟨x2, rfl, i32bd x2⟩, _, _, rfl, ⟨x3, rfl, i32bd x3⟩, rfl⟩) hi hv
theorem zpc10 (l : Launch) (Γ : zG) {f : zH} {v : Int} (hi : sInv swC f) (hv : pI f 0 1 = v) (x1 : Int32) : zSem l Γ false 10 (zhd 97) [.ref 0, .int x1] f (zKi swC v) := by
  exact zofI (schk_ok (mi := 97) (ct := scC152) (T := sTC) (fun mi c hc _ => sTC_ok l Γ mi c hc) skC152) (by decide) rfl rfl rfl (⟨_, _, rfl, rfl, _, _, rfl, ⟨x1, rfl, i32bd x1⟩, rfl⟩) hi hv
theorem zpm10 (l : Launch) (Γ : zG) {f : zH} {v : Int} (hi : sInv swM f) (hv : pI f 0 1 = v) (x1 : Int32) : zSem l Γ false 10 (zhd 251) [.ref 0, .int x1] f (zKi swM v) := by
  exact zofI (schk_ok (mi := 251) (ct := scM46) (T := sTM) (fun mi c hc _ => sTM_ok l Γ mi c hc) skM46) (by decide) rfl rfl rfl (⟨_, _, rfl, rfl, _, _, rfl, ⟨x1, rfl, i32bd x1⟩, rfl⟩) hi hv
theorem zpc11 (l : Launch) (Γ : zG) {f : zH} {v : Int} (hi : sInv swC f) (hv : pI f 0 1 = v) (x1 : Int32) : zSem l Γ false 10 (zhd 98) [.ref 0, .int x1] f (zKi swC v) := by
  exact zofI (schk_ok (mi := 98) (ct := scC153) (T := sTC) (fun mi c hc _ => sTC_ok l Γ mi c hc) skC153) (by decide) rfl rfl rfl (⟨_, _, rfl, rfl, _, _, rfl, ⟨x1, rfl, i32bd x1⟩, rfl⟩) hi hv
theorem zpm11 (l : Launch) (Γ : zG) {f : zH} {v : Int} (hi : sInv swM f) (hv : pI f 0 1 = v) (x1 : Int32) : zSem l Γ false 10 (zhd 252) [.ref 0, .int x1] f (zKi swM v) := by
  exact zofI (schk_ok (mi := 252) (ct := scM47) (T := sTM) (fun mi c hc _ => sTM_ok l Γ mi c hc) skM47) (by decide) rfl rfl rfl (⟨_, _, rfl, rfl, _, _, rfl, ⟨x1, rfl, i32bd x1⟩, rfl⟩) hi hv
theorem zpc12 (l : Launch) (Γ : zG) {f : zH} {v : Int} (hi : sInv swC f) (hv : pI f 0 1 = v) (x1 x2 x3 : Int32) : zSem l Γ false 10 (zhd 110) [.ref 0, .int x1, .int x2, .int x3] f (zKi swC v) := by
  by_cases g0 : x2.toInt ≤ -1
  · exact zofI (schk_ok (mi := 110) (ct := scC175) (T := sTC) (fun mi c hc _ => sTC_ok l Γ mi c hc) skC175) (by decide) rfl rfl rfl (⟨_, _, rfl, rfl, _, _, rfl, ⟨x1, rfl, i32bd x1⟩, _, _, rfl, ⟨x2, rfl, by show (-2147483648 : Int) ≤ x2.toInt; have := i32bd x2; omega, by show x2.toInt ≤ (-1 : Int); have := i32bd x2; omega⟩, _, _, rfl, ⟨x3, rfl, i32bd x3⟩, rfl⟩) hi hv
  by_cases g1 : x2.toInt ≤ 0
  · exact zofI (schk_ok (mi := 110) (ct := scC176) (T := sTC) (fun mi c hc _ => sTC_ok l Γ mi c hc) skC176) (by decide) rfl rfl rfl (⟨_, _, rfl, rfl, _, _, rfl, ⟨x1, rfl, i32bd x1⟩, _, _, rfl, ⟨x2, rfl, by show (0 : Int) ≤ x2.toInt; have := i32bd x2; omega, by show x2.toInt ≤ (0 : Int); have := i32bd x2; omega⟩, _, _, rfl, ⟨x3, rfl, i32bd x3⟩, rfl⟩) hi hv
  by_cases g2 : x2.toInt ≤ 1
  · exact zofI (schk_ok (mi := 110) (ct := scC177) (T := sTC) (fun mi c hc _ => sTC_ok l Γ mi c hc) skC177) (by decide) rfl rfl rfl (⟨_, _, rfl, rfl, _, _, rfl, ⟨x1, rfl, i32bd x1⟩, _, _, rfl, ⟨x2, rfl, by show (1 : Int) ≤ x2.toInt; have := i32bd x2; omega, by show x2.toInt ≤ (1 : Int); have := i32bd x2; omega⟩, _, _, rfl, ⟨x3, rfl, i32bd x3⟩, rfl⟩) hi hv
  by_cases g3 : x2.toInt ≤ 4
  · exact zofI (schk_ok (mi := 110) (ct := scC178) (T := sTC) (fun mi c hc _ => sTC_ok l Γ mi c hc) skC178) (by decide) rfl rfl rfl (⟨_, _, rfl, rfl, _, _, rfl, ⟨x1, rfl, i32bd x1⟩, _, _, rfl, ⟨x2, rfl, by show (2 : Int) ≤ x2.toInt; have := i32bd x2; omega, by show x2.toInt ≤ (4 : Int); have := i32bd x2; omega⟩, _, _, rfl, ⟨x3, rfl, i32bd x3⟩, rfl⟩) hi hv
  exact zofI (schk_ok (mi := 110) (ct := scC179) (T := sTC) (fun mi c hc _ => sTC_ok l Γ mi c hc) skC179) (by decide) rfl rfl rfl (⟨_, _, rfl, rfl, _, _, rfl, ⟨x1, rfl, i32bd x1⟩, _, _, rfl, ⟨x2, rfl, by show (5 : Int) ≤ x2.toInt; have := i32bd x2; omega, by show x2.toInt ≤ (2147483647 : Int); have := i32bd x2; omega⟩, _, _, rfl, ⟨x3, rfl, i32bd x3⟩, rfl⟩) hi hv
theorem zpm12 (l : Launch) (Γ : zG) {f : zH} {v : Int} (hi : sInv swM f) (hv : pI f 0 1 = v) (x1 x2 x3 : Int32) : zSem l Γ false 10 (zhd 262) [.ref 0, .int x1, .int x2, .int x3] f (zKi swM v) := by
  exact zofI (schk_ok (mi := 262) (ct := scM63) (T := sTM) (fun mi c hc _ => sTM_ok l Γ mi c hc) skM63) (by decide) rfl rfl rfl (⟨_, _, rfl, rfl, _, _, rfl, ⟨x1, rfl, i32bd x1⟩, _, _, rfl, ⟨x2, rfl, i32bd x2⟩, _, _, rfl, ⟨x3, rfl, i32bd x3⟩, rfl⟩) hi hv
theorem zpc13 (l : Launch) (Γ : zG) {f : zH} {v : Int} (hi : sInv swC f) (hv : pI f 0 1 = v) (x1 : Int32) : zSem l Γ false 10 (zhd 118) [.ref 0, .int x1] f (zKi swC v) := by
  exact zofI (schk_ok (mi := 118) (ct := scC198) (T := sTC) (fun mi c hc _ => sTC_ok l Γ mi c hc) skC198) (by decide) rfl rfl rfl (⟨_, _, rfl, rfl, _, _, rfl, ⟨x1, rfl, i32bd x1⟩, rfl⟩) hi hv
theorem zpm13 (l : Launch) (Γ : zG) {f : zH} {v : Int} (hi : sInv swM f) (hv : pI f 0 1 = v) (x1 : Int32) : zSem l Γ false 10 (zhd 267) [.ref 0, .int x1] f (zKi swM v) := by
  exact zofI (schk_ok (mi := 267) (ct := scM70) (T := sTM) (fun mi c hc _ => sTM_ok l Γ mi c hc) skM70) (by decide) rfl rfl rfl (⟨_, _, rfl, rfl, _, _, rfl, ⟨x1, rfl, i32bd x1⟩, rfl⟩) hi hv
theorem zpc14 (l : Launch) (Γ : zG) {f : zH} {v : Int} (hi : sInv swC f) (hv : pI f 0 1 = v) (x1 x2 : Int32) : zSem l Γ false 10 (zhd 119) [.ref 0, .int x1, .int x2] f (zKi swC v) := by
  exact zofI (schk_ok (mi := 119) (ct := scC199) (T := sTC) (fun mi c hc _ => sTC_ok l Γ mi c hc) skC199) (by decide) rfl rfl rfl (⟨_, _, rfl, rfl, _, _, rfl, ⟨x1, rfl, i32bd x1⟩, _, _, rfl, ⟨x2, rfl, i32bd x2⟩, rfl⟩) hi hv
theorem zpm14 (l : Launch) (Γ : zG) {f : zH} {v : Int} (hi : sInv swM f) (hv : pI f 0 1 = v) (x1 x2 : Int32) : zSem l Γ false 10 (zhd 268) [.ref 0, .int x1, .int x2] f (zKi swM v) := by
  exact zofI (schk_ok (mi := 268) (ct := scM71) (T := sTM) (fun mi c hc _ => sTM_ok l Γ mi c hc) skM71) (by decide) rfl rfl rfl (⟨_, _, rfl, rfl, _, _, rfl, ⟨x1, rfl, i32bd x1⟩, _, _, rfl, ⟨x2, rfl, i32bd x2⟩, rfl⟩) hi hv
theorem zpc15 (l : Launch) (Γ : zG) {f : zH} {v : Int} (hi : sInv swC f) (hv : pI f 0 1 = v) (x1 x2 : Int32) : zSem l Γ false 10 (zhd 122) [.ref 0, .int x1, .int x2] f (zKi swC v) := by
  exact zofI (schk_ok (mi := 122) (ct := scC202) (T := sTC) (fun mi c hc _ => sTC_ok l Γ mi c hc) skC202) (by decide) rfl rfl rfl (⟨_, _, rfl, rfl, _, _, rfl, ⟨x1, rfl, i32bd x1⟩, _, _, rfl, ⟨x2, rfl, i32bd x2⟩, rfl⟩) hi hv
theorem zpm15 (l : Launch) (Γ : zG) {f : zH} {v : Int} (hi : sInv swM f) (hv : pI f 0 1 = v) (x1 x2 : Int32) : zSem l Γ false 10 (zhd 271) [.ref 0, .int x1, .int x2] f (zKi swM v) := by
  exact zofI (schk_ok (mi := 271) (ct := scM73) (T := sTM) (fun mi c hc _ => sTM_ok l Γ mi c hc) skM73) (by decide) rfl rfl rfl (⟨_, _, rfl, rfl, _, _, rfl, ⟨x1, rfl, i32bd x1⟩, _, _, rfl, ⟨x2, rfl, i32bd x2⟩, rfl⟩) hi hv
theorem zpc16 (l : Launch) (Γ : zG) {f : zH} {v : Int} (hi : sInv swC f) (hv : pI f 0 1 = v) : zSem l Γ false 10 (zhd 126) [.ref 0] f (zKi swC v) := by
  exact zofI (schk_ok (mi := 126) (ct := scC206) (T := sTC) (fun mi c hc _ => sTC_ok l Γ mi c hc) skC206) (by decide) rfl rfl rfl (⟨_, _, rfl, rfl, rfl⟩) hi hv
theorem zpm16 (l : Launch) (Γ : zG) {f : zH} {v : Int} (hi : sInv swM f) (hv : pI f 0 1 = v) : zSem l Γ false 10 (zhd 273) [.ref 0] f (zKi swM v) := by
  exact zofI (schk_ok (mi := 273) (ct := scM75) (T := sTM) (fun mi c hc _ => sTM_ok l Γ mi c hc) skM75) (by decide) rfl rfl rfl (⟨_, _, rfl, rfl, rfl⟩) hi hv
theorem zpc17 (l : Launch) (Γ : zG) {f : zH} {v : Int} (hi : sInv swC f) (hv : pI f 0 1 = v) (x1 x2 : Int32) : zSem l Γ false 10 (zhd 130) [.ref 0, .int x1, .int x2] f (zKi swC v) := by
  exact zofI (schk_ok (mi := 130) (ct := scC213) (T := sTC) (fun mi c hc _ => sTC_ok l Γ mi c hc) skC213) (by decide) rfl rfl rfl (⟨_, _, rfl, rfl, _, _, rfl, ⟨x1, rfl, i32bd x1⟩, _, _, rfl, ⟨x2, rfl, i32bd x2⟩, rfl⟩) hi hv
theorem zpm17 (l : Launch) (Γ : zG) {f : zH} {v : Int} (hi : sInv swM f) (hv : pI f 0 1 = v) (x1 x2 : Int32) : zSem l Γ false 10 (zhd 275) [.ref 0, .int x1, .int x2] f (zKi swM v) := by
  exact zofI (schk_ok (mi := 275) (ct := scM76) (T := sTM) (fun mi c hc _ => sTM_ok l Γ mi c hc) skM76) (by decide) rfl rfl rfl (⟨_, _, rfl, rfl, _, _, rfl, ⟨x1, rfl, i32bd x1⟩, _, _, rfl, ⟨x2, rfl, i32bd x2⟩, rfl⟩) hi hv
theorem zpc18 (l : Launch) (Γ : zG) {f : zH} {v : Int} (hi : sInv swC f) (hv : pI f 0 1 = v) (x1 : Int32) : zSem l Γ false 10 (zhd 136) [.ref 0, .int x1] f (zKi swC v) := by
  exact zofI (schk_ok (mi := 136) (ct := scC220) (T := sTC) (fun mi c hc _ => sTC_ok l Γ mi c hc) skC220) (by decide) rfl rfl rfl (⟨_, _, rfl, rfl, _, _, rfl, ⟨x1, rfl, i32bd x1⟩, rfl⟩) hi hv
theorem zpm18 (l : Launch) (Γ : zG) {f : zH} {v : Int} (hi : sInv swM f) (hv : pI f 0 1 = v) (x1 : Int32) : zSem l Γ false 10 (zhd 276) [.ref 0, .int x1] f (zKi swM v) := by
  exact zofI (schk_ok (mi := 276) (ct := scM77) (T := sTM) (fun mi c hc _ => sTM_ok l Γ mi c hc) skM77) (by decide) rfl rfl rfl (⟨_, _, rfl, rfl, _, _, rfl, ⟨x1, rfl, i32bd x1⟩, rfl⟩) hi hv
theorem zpc19 (l : Launch) (Γ : zG) {f : zH} {v : Int} (hi : sInv swC f) (hv : pI f 0 1 = v) (x1 x2 : Int32) : zSem l Γ false 10 (zhd 138) [.ref 0, .int x1, .int x2] f (zKi swC v) := by
  exact zofI (schk_ok (mi := 138) (ct := scC223) (T := sTC) (fun mi c hc _ => sTC_ok l Γ mi c hc) skC223) (by decide) rfl rfl rfl (⟨_, _, rfl, rfl, _, _, rfl, ⟨x1, rfl, i32bd x1⟩, _, _, rfl, ⟨x2, rfl, i32bd x2⟩, rfl⟩) hi hv
theorem zpm19 (l : Launch) (Γ : zG) {f : zH} {v : Int} (hi : sInv swM f) (hv : pI f 0 1 = v) (x1 x2 : Int32) : zSem l Γ false 10 (zhd 277) [.ref 0, .int x1, .int x2] f (zKi swM v) := by
  exact zofI (schk_ok (mi := 277) (ct := scM78) (T := sTM) (fun mi c hc _ => sTM_ok l Γ mi c hc) skM78) (by decide) rfl rfl rfl (⟨_, _, rfl, rfl, _, _, rfl, ⟨x1, rfl, i32bd x1⟩, _, _, rfl, ⟨x2, rfl, i32bd x2⟩, rfl⟩) hi hv
theorem zpc20 (l : Launch) (Γ : zG) {f : zH} {v : Int} (hi : sInv swC f) (hv : pI f 0 1 = v) (x1 x2 x3 : Int32) : zSem l Γ false 10 (zhd 139) [.ref 0, .int x1, .int x2, .int x3] f (zKj swC v) := by
  exact zofJ (schk_ok (mi := 139) (ct := scC224) (T := sTC) (fun mi c hc _ => sTC_ok l Γ mi c hc) skC224) (by decide) rfl rfl rfl (⟨_, _, rfl, rfl, _, _, rfl, ⟨x1, rfl, i32bd x1⟩, _, _, rfl, ⟨x2, rfl, i32bd x2⟩, _, _, rfl, ⟨x3, rfl, i32bd x3⟩, rfl⟩) hi hv
theorem zpm20 (l : Launch) (Γ : zG) {f : zH} {v : Int} (hi : sInv swM f) (hv : pI f 0 1 = v) (x1 x2 x3 : Int32) : zSem l Γ false 10 (zhd 278) [.ref 0, .int x1, .int x2, .int x3] f (zKj swM v) := by
  exact zofJ (schk_ok (mi := 278) (ct := scM79) (T := sTM) (fun mi c hc _ => sTM_ok l Γ mi c hc) skM79) (by decide) rfl rfl rfl (⟨_, _, rfl, rfl, _, _, rfl, ⟨x1, rfl, i32bd x1⟩, _, _, rfl, ⟨x2, rfl, i32bd x2⟩, _, _, rfl, ⟨x3, rfl, i32bd x3⟩, rfl⟩) hi hv
theorem zpc21 (l : Launch) (Γ : zG) {f : zH} {v : Int} (hi : sInv swC f) (hv : pI f 0 1 = v) : zSem l Γ false 10 (zhd 141) [.ref 0] f (zKi swC v) := by
  exact zofI (schk_ok (mi := 141) (ct := scC226) (T := sTC) (fun mi c hc _ => sTC_ok l Γ mi c hc) skC226) (by decide) rfl rfl rfl (⟨_, _, rfl, rfl, rfl⟩) hi hv
theorem zpm21 (l : Launch) (Γ : zG) {f : zH} {v : Int} (hi : sInv swM f) (hv : pI f 0 1 = v) : zSem l Γ false 10 (zhd 279) [.ref 0] f (zKi swM v) := by
  exact zofI (schk_ok (mi := 279) (ct := scM80) (T := sTM) (fun mi c hc _ => sTM_ok l Γ mi c hc) skM80) (by decide) rfl rfl rfl (⟨_, _, rfl, rfl, rfl⟩) hi hv
theorem zpc22 (l : Launch) (Γ : zG) {f : zH} {v : Int} (hi : sInv swC f) (hv : pI f 0 1 = v) (x1 : Int32) : zSem l Γ false 10 (zhd 143) [.ref 0, .int x1] f (zKi swC v) := by
  exact zofI (schk_ok (mi := 143) (ct := scC231) (T := sTC) (fun mi c hc _ => sTC_ok l Γ mi c hc) skC231) (by decide) rfl rfl rfl (⟨_, _, rfl, rfl, _, _, rfl, ⟨x1, rfl, i32bd x1⟩, rfl⟩) hi hv
theorem zpm22 (l : Launch) (Γ : zG) {f : zH} {v : Int} (hi : sInv swM f) (hv : pI f 0 1 = v) (x1 : Int32) : zSem l Γ false 10 (zhd 282) [.ref 0, .int x1] f (zKi swM v) := by
  exact zofI (schk_ok (mi := 282) (ct := scM84) (T := sTM) (fun mi c hc _ => sTM_ok l Γ mi c hc) skM84) (by decide) rfl rfl rfl (⟨_, _, rfl, rfl, _, _, rfl, ⟨x1, rfl, i32bd x1⟩, rfl⟩) hi hv
theorem zpc23 (l : Launch) (Γ : zG) {f : zH} {v : Int} (hi : sInv swC f) (hv : pI f 0 1 = v) (x1 x2 : Int32) : zSem l Γ false 10 (zhd 147) [.ref 0, .int x1, .int x2] f (zKi swC v) := by
  exact zofI (schk_ok (mi := 147) (ct := scC235) (T := sTC) (fun mi c hc _ => sTC_ok l Γ mi c hc) skC235) (by decide) rfl rfl rfl (⟨_, _, rfl, rfl, _, _, rfl, ⟨x1, rfl, i32bd x1⟩, _, _, rfl, ⟨x2, rfl, i32bd x2⟩, rfl⟩) hi hv
theorem zpm23 (l : Launch) (Γ : zG) {f : zH} {v : Int} (hi : sInv swM f) (hv : pI f 0 1 = v) (x1 x2 : Int32) : zSem l Γ false 10 (zhd 286) [.ref 0, .int x1, .int x2] f (zKi swM v) := by
  exact zofI (schk_ok (mi := 286) (ct := scM87) (T := sTM) (fun mi c hc _ => sTM_ok l Γ mi c hc) skM87) (by decide) rfl rfl rfl (⟨_, _, rfl, rfl, _, _, rfl, ⟨x1, rfl, i32bd x1⟩, _, _, rfl, ⟨x2, rfl, i32bd x2⟩, rfl⟩) hi hv
theorem zpc24 (l : Launch) (Γ : zG) {f : zH} {v : Int} (hi : sInv swC f) (hv : pI f 0 1 = v) (x1 x2 x3 : Int32) : zSem l Γ false 10 (zhd 148) [.ref 0, .int x1, .int x2, .int x3] f (zKi swC v) := by
  exact zofI (schk_ok (mi := 148) (ct := scC236) (T := sTC) (fun mi c hc _ => sTC_ok l Γ mi c hc) skC236) (by decide) rfl rfl rfl (⟨_, _, rfl, rfl, _, _, rfl, ⟨x1, rfl, i32bd x1⟩, _, _, rfl, ⟨x2, rfl, i32bd x2⟩, _, _, rfl, ⟨x3, rfl, i32bd x3⟩, rfl⟩) hi hv
theorem zpm24 (l : Launch) (Γ : zG) {f : zH} {v : Int} (hi : sInv swM f) (hv : pI f 0 1 = v) (x1 x2 x3 : Int32) : zSem l Γ false 10 (zhd 287) [.ref 0, .int x1, .int x2, .int x3] f (zKi swM v) := by
  exact zofI (schk_ok (mi := 287) (ct := scM88) (T := sTM) (fun mi c hc _ => sTM_ok l Γ mi c hc) skM88) (by decide) rfl rfl rfl (⟨_, _, rfl, rfl, _, _, rfl, ⟨x1, rfl, i32bd x1⟩, _, _, rfl, ⟨x2, rfl, i32bd x2⟩, _, _, rfl, ⟨x3, rfl, i32bd x3⟩, rfl⟩) hi hv
theorem zpc25 (l : Launch) (Γ : zG) {f : zH} {v : Int} (hi : sInv swC f) (hv : pI f 0 1 = v) (x1 : Int32) : zSem l Γ false 10 (zhd 150) [.ref 0, .int x1] f (zKi swC v) := by
  exact zofI (schk_ok (mi := 150) (ct := scC238) (T := sTC) (fun mi c hc _ => sTC_ok l Γ mi c hc) skC238) (by decide) rfl rfl rfl (⟨_, _, rfl, rfl, _, _, rfl, ⟨x1, rfl, i32bd x1⟩, rfl⟩) hi hv
theorem zpm25 (l : Launch) (Γ : zG) {f : zH} {v : Int} (hi : sInv swM f) (hv : pI f 0 1 = v) (x1 : Int32) : zSem l Γ false 10 (zhd 289) [.ref 0, .int x1] f (zKi swM v) := by
  exact zofI (schk_ok (mi := 289) (ct := scM90) (T := sTM) (fun mi c hc _ => sTM_ok l Γ mi c hc) skM90) (by decide) rfl rfl rfl (⟨_, _, rfl, rfl, _, _, rfl, ⟨x1, rfl, i32bd x1⟩, rfl⟩) hi hv
theorem zpc26 (l : Launch) (Γ : zG) {f : zH} {v : Int} (hi : sInv swC f) (hv : pI f 0 1 = v) : zSem l Γ false 10 (zhd 152) [.ref 0] f (zKi swC v) := by
  exact zofI (schk_ok (mi := 152) (ct := scC240) (T := sTC) (fun mi c hc _ => sTC_ok l Γ mi c hc) skC240) (by decide) rfl rfl rfl (⟨_, _, rfl, rfl, rfl⟩) hi hv
theorem zpm26 (l : Launch) (Γ : zG) {f : zH} {v : Int} (hi : sInv swM f) (hv : pI f 0 1 = v) : zSem l Γ false 10 (zhd 290) [.ref 0] f (zKi swM v) := by
  exact zofI (schk_ok (mi := 290) (ct := scM91) (T := sTM) (fun mi c hc _ => sTM_ok l Γ mi c hc) skM91) (by decide) rfl rfl rfl (⟨_, _, rfl, rfl, rfl⟩) hi hv
theorem zpc27 (l : Launch) (Γ : zG) {f : zH} {v : Int} (hi : sInv swC f) (hv : pI f 0 1 = v) : zSem l Γ false 10 (zhd 153) [.ref 0] f (zKi swC v) := by
  exact zofI (schk_ok (mi := 153) (ct := scC241) (T := sTC) (fun mi c hc _ => sTC_ok l Γ mi c hc) skC241) (by decide) rfl rfl rfl (⟨_, _, rfl, rfl, rfl⟩) hi hv
theorem zpm27 (l : Launch) (Γ : zG) {f : zH} {v : Int} (hi : sInv swM f) (hv : pI f 0 1 = v) : zSem l Γ false 10 (zhd 291) [.ref 0] f (zKi swM v) := by
  exact zofI (schk_ok (mi := 291) (ct := scM92) (T := sTM) (fun mi c hc _ => sTM_ok l Γ mi c hc) skM92) (by decide) rfl rfl rfl (⟨_, _, rfl, rfl, rfl⟩) hi hv
theorem zpc28 (l : Launch) (Γ : zG) {f : zH} {v : Int} (hi : sInv swC f) (hv : pI f 0 1 = v) (x1 : Int32) : zSem l Γ false 10 (zhd 154) [.ref 0, .int x1] f (zKi swC v) := by
  exact zofI (schk_ok (mi := 154) (ct := scC242) (T := sTC) (fun mi c hc _ => sTC_ok l Γ mi c hc) skC242) (by decide) rfl rfl rfl (⟨_, _, rfl, rfl, _, _, rfl, ⟨x1, rfl, i32bd x1⟩, rfl⟩) hi hv
theorem zpm28 (l : Launch) (Γ : zG) {f : zH} {v : Int} (hi : sInv swM f) (hv : pI f 0 1 = v) (x1 : Int32) : zSem l Γ false 10 (zhd 281) [.ref 0, .int x1] f (zKi swM v) := by
  exact zofI (schk_ok (mi := 281) (ct := scM83) (T := sTM) (fun mi c hc _ => sTM_ok l Γ mi c hc) skM83) (by decide) rfl rfl rfl (⟨_, _, rfl, rfl, _, _, rfl, ⟨x1, rfl, i32bd x1⟩, rfl⟩) hi hv
theorem zpc29 (l : Launch) (Γ : zG) {f : zH} {v : Int} (hi : sInv swC f) (hv : pI f 0 1 = v) (x1 : Int32) : zSem l Γ false 10 (zhd 155) [.ref 0, .int x1] f (zKi swC v) := by
  exact zofI (schk_ok (mi := 155) (ct := scC243) (T := sTC) (fun mi c hc _ => sTC_ok l Γ mi c hc) skC243) (by decide) rfl rfl rfl (⟨_, _, rfl, rfl, _, _, rfl, ⟨x1, rfl, i32bd x1⟩, rfl⟩) hi hv
theorem zpm29 (l : Launch) (Γ : zG) {f : zH} {v : Int} (hi : sInv swM f) (hv : pI f 0 1 = v) (x1 : Int32) : zSem l Γ false 10 (zhd 293) [.ref 0, .int x1] f (zKi swM v) := by
  exact zofI (schk_ok (mi := 293) (ct := scM94) (T := sTM) (fun mi c hc _ => sTM_ok l Γ mi c hc) skM94) (by decide) rfl rfl rfl (⟨_, _, rfl, rfl, _, _, rfl, ⟨x1, rfl, i32bd x1⟩, rfl⟩) hi hv
theorem zpc30 (l : Launch) (Γ : zG) {f : zH} {v : Int} (hi : sInv swC f) (hv : pI f 0 1 = v) (x1 : Int32) : zSem l Γ false 10 (zhd 156) [.ref 0, .int x1] f (zKi swC v) := by
  exact zofI (schk_ok (mi := 156) (ct := scC244) (T := sTC) (fun mi c hc _ => sTC_ok l Γ mi c hc) skC244) (by decide) rfl rfl rfl (⟨_, _, rfl, rfl, _, _, rfl, ⟨x1, rfl, i32bd x1⟩, rfl⟩) hi hv
theorem zpm30 (l : Launch) (Γ : zG) {f : zH} {v : Int} (hi : sInv swM f) (hv : pI f 0 1 = v) (x1 : Int32) : zSem l Γ false 10 (zhd 294) [.ref 0, .int x1] f (zKi swM v) := by
  exact zofI (schk_ok (mi := 294) (ct := scM95) (T := sTM) (fun mi c hc _ => sTM_ok l Γ mi c hc) skM95) (by decide) rfl rfl rfl (⟨_, _, rfl, rfl, _, _, rfl, ⟨x1, rfl, i32bd x1⟩, rfl⟩) hi hv
theorem zpc31 (l : Launch) (Γ : zG) {f : zH} {v : Int} (hi : sInv swC f) (hv : pI f 0 1 = v) : zSem l Γ false 10 (zhd 157) [.ref 0] f (zKi swC v) := by
  exact zofI (schk_ok (mi := 157) (ct := scC245) (T := sTC) (fun mi c hc _ => sTC_ok l Γ mi c hc) skC245) (by decide) rfl rfl rfl (⟨_, _, rfl, rfl, rfl⟩) hi hv
theorem zpm31 (l : Launch) (Γ : zG) {f : zH} {v : Int} (hi : sInv swM f) (hv : pI f 0 1 = v) : zSem l Γ false 10 (zhd 292) [.ref 0] f (zKi swM v) := by
  exact zofI (schk_ok (mi := 292) (ct := scM93) (T := sTM) (fun mi c hc _ => sTM_ok l Γ mi c hc) skM93) (by decide) rfl rfl rfl (⟨_, _, rfl, rfl, rfl⟩) hi hv
theorem zpc32 (l : Launch) (Γ : zG) {f : zH} {v : Int} (hi : sInv swC f) (hv : pI f 0 1 = v) (x1 x2 x3 x4 : Int32) (hb : 0 ≤ x4.toInt ∧ x4.toInt ≤ 1) : zSem l Γ false 10 (zhd 158) [.ref 0, .int x1, .int x2, .int x3, .int x4] f (zKi swC v) := by
  exact zofI (schk_ok (mi := 158) (ct := scC246) (T := sTC) (fun mi c hc _ => sTC_ok l Γ mi c hc) skC246) (by decide) rfl rfl rfl (⟨_, _, rfl, rfl, _, _, rfl, ⟨x1, rfl, i32bd x1⟩, _, _, rfl, ⟨x2, rfl, i32bd x2⟩, _, _, rfl, ⟨x3, rfl, i32bd x3⟩, _, _, rfl, ⟨x4, rfl, hb⟩, rfl⟩) hi hv
theorem zpm32 (l : Launch) (Γ : zG) {f : zH} {v : Int} (hi : sInv swM f) (hv : pI f 0 1 = v) (x1 x2 x3 x4 : Int32) (hb : 0 ≤ x4.toInt ∧ x4.toInt ≤ 1) : zSem l Γ false 10 (zhd 295) [.ref 0, .int x1, .int x2, .int x3, .int x4] f (zKi swM v) := by
  exact zofI (schk_ok (mi := 295) (ct := scM96) (T := sTM) (fun mi c hc _ => sTM_ok l Γ mi c hc) skM96) (by decide) rfl rfl rfl (⟨_, _, rfl, rfl, _, _, rfl, ⟨x1, rfl, i32bd x1⟩, _, _, rfl, ⟨x2, rfl, i32bd x2⟩, _, _, rfl, ⟨x3, rfl, i32bd x3⟩, _, _, rfl, ⟨x4, rfl, hb⟩, rfl⟩) hi hv
theorem zpc33 (l : Launch) (Γ : zG) {f : zH} {v : Int} (hi : sInv swC f) (hv : pI f 0 1 = v) (x1 : Int32) : zSem l Γ false 10 (zhd 160) [.ref 0, .int x1] f (zKi swC v) := by
  exact zofI (schk_ok (mi := 160) (ct := scC248) (T := sTC) (fun mi c hc _ => sTC_ok l Γ mi c hc) skC248) (by decide) rfl rfl rfl (⟨_, _, rfl, rfl, _, _, rfl, ⟨x1, rfl, i32bd x1⟩, rfl⟩) hi hv
theorem zpm33 (l : Launch) (Γ : zG) {f : zH} {v : Int} (hi : sInv swM f) (hv : pI f 0 1 = v) (x1 : Int32) : zSem l Γ false 10 (zhd 297) [.ref 0, .int x1] f (zKi swM v) := by
  exact zofI (schk_ok (mi := 297) (ct := scM144) (T := sTM) (fun mi c hc _ => sTM_ok l Γ mi c hc) skM144) (by decide) rfl rfl rfl (⟨_, _, rfl, rfl, _, _, rfl, ⟨x1, rfl, i32bd x1⟩, rfl⟩) hi hv
theorem zpc34 (l : Launch) (Γ : zG) {f : zH} {v : Int} (hi : sInv swC f) (hv : pI f 0 1 = v) (x1 : Int32) : zSem l Γ false 10 (zhd 162) [.ref 0, .int x1] f (zKi swC v) := by
  exact zofI (schk_ok (mi := 162) (ct := scC250) (T := sTC) (fun mi c hc _ => sTC_ok l Γ mi c hc) skC250) (by decide) rfl rfl rfl (⟨_, _, rfl, rfl, _, _, rfl, ⟨x1, rfl, i32bd x1⟩, rfl⟩) hi hv
theorem zpm34 (l : Launch) (Γ : zG) {f : zH} {v : Int} (hi : sInv swM f) (hv : pI f 0 1 = v) (x1 : Int32) : zSem l Γ false 10 (zhd 298) [.ref 0, .int x1] f (zKi swM v) := by
  exact zofI (schk_ok (mi := 298) (ct := scM145) (T := sTM) (fun mi c hc _ => sTM_ok l Γ mi c hc) skM145) (by decide) rfl rfl rfl (⟨_, _, rfl, rfl, _, _, rfl, ⟨x1, rfl, i32bd x1⟩, rfl⟩) hi hv
theorem zpc35 (l : Launch) (Γ : zG) {f : zH} {v : Int} (hi : sInv swC f) (hv : pI f 0 1 = v) (x1 : Int32) : zSem l Γ false 10 (zhd 163) [.ref 0, .int x1] f (zKi swC v) := by
  exact zofI (schk_ok (mi := 163) (ct := scC251) (T := sTC) (fun mi c hc _ => sTC_ok l Γ mi c hc) skC251) (by decide) rfl rfl rfl (⟨_, _, rfl, rfl, _, _, rfl, ⟨x1, rfl, i32bd x1⟩, rfl⟩) hi hv
theorem zpm35 (l : Launch) (Γ : zG) {f : zH} {v : Int} (hi : sInv swM f) (hv : pI f 0 1 = v) (x1 : Int32) : zSem l Γ false 10 (zhd 299) [.ref 0, .int x1] f (zKi swM v) := by
  exact zofI (schk_ok (mi := 299) (ct := scM146) (T := sTM) (fun mi c hc _ => sTM_ok l Γ mi c hc) skM146) (by decide) rfl rfl rfl (⟨_, _, rfl, rfl, _, _, rfl, ⟨x1, rfl, i32bd x1⟩, rfl⟩) hi hv
theorem zpc36 (l : Launch) (Γ : zG) {f : zH} {v : Int} (hi : sInv swC f) (hv : pI f 0 1 = v) (x1 x2 x3 : Int32) : zSem l Γ false 10 (zhd 168) [.ref 0, .int x1, .int x2, .int x3] f (zKi swC v) := by
  exact zofI (schk_ok (mi := 168) (ct := scC255) (T := sTC) (fun mi c hc _ => sTC_ok l Γ mi c hc) skC255) (by decide) rfl rfl rfl (⟨_, _, rfl, rfl, _, _, rfl, ⟨x1, rfl, i32bd x1⟩, _, _, rfl, ⟨x2, rfl, i32bd x2⟩, _, _, rfl, ⟨x3, rfl, i32bd x3⟩, rfl⟩) hi hv
theorem zpm36 (l : Launch) (Γ : zG) {f : zH} {v : Int} (hi : sInv swM f) (hv : pI f 0 1 = v) (x1 x2 x3 : Int32) : zSem l Γ false 10 (zhd 303) [.ref 0, .int x1, .int x2, .int x3] f (zKi swM v) := by
  exact zofI (schk_ok (mi := 303) (ct := scM150) (T := sTM) (fun mi c hc _ => sTM_ok l Γ mi c hc) skM150) (by decide) rfl rfl rfl (⟨_, _, rfl, rfl, _, _, rfl, ⟨x1, rfl, i32bd x1⟩, _, _, rfl, ⟨x2, rfl, i32bd x2⟩, _, _, rfl, ⟨x3, rfl, i32bd x3⟩, rfl⟩) hi hv
theorem zpc37 (l : Launch) (Γ : zG) {f : zH} {v : Int} (hi : sInv swC f) (hv : pI f 0 1 = v) (x1 x2 x3 : Int32) : zSem l Γ false 10 (zhd 169) [.ref 0, .int x1, .int x2, .int x3] f (zKi swC v) := by
  exact zofI (schk_ok (mi := 169) (ct := scC256) (T := sTC) (fun mi c hc _ => sTC_ok l Γ mi c hc) skC256) (by decide) rfl rfl rfl (⟨_, _, rfl, rfl, _, _, rfl, ⟨x1, rfl, i32bd x1⟩, _, _, rfl, ⟨x2, rfl, i32bd x2⟩, _, _, rfl, ⟨x3, rfl, i32bd x3⟩, rfl⟩) hi hv
theorem zpm37 (l : Launch) (Γ : zG) {f : zH} {v : Int} (hi : sInv swM f) (hv : pI f 0 1 = v) (x1 x2 x3 : Int32) : zSem l Γ false 10 (zhd 304) [.ref 0, .int x1, .int x2, .int x3] f (zKi swM v) := by
  exact zofI (schk_ok (mi := 304) (ct := scM151) (T := sTM) (fun mi c hc _ => sTM_ok l Γ mi c hc) skM151) (by decide) rfl rfl rfl (⟨_, _, rfl, rfl, _, _, rfl, ⟨x1, rfl, i32bd x1⟩, _, _, rfl, ⟨x2, rfl, i32bd x2⟩, _, _, rfl, ⟨x3, rfl, i32bd x3⟩, rfl⟩) hi hv
theorem zpc38 (l : Launch) (Γ : zG) {f : zH} {v : Int} (hi : sInv swC f) (hv : pI f 0 1 = v) : zSem l Γ false 10 (zhd 171) [.ref 0] f (zKi swC v) := by
  exact zofI (schk_ok (mi := 171) (ct := scC259) (T := sTC) (fun mi c hc _ => sTC_ok l Γ mi c hc) skC259) (by decide) rfl rfl rfl (⟨_, _, rfl, rfl, rfl⟩) hi hv
theorem zpm38 (l : Launch) (Γ : zG) {f : zH} {v : Int} (hi : sInv swM f) (hv : pI f 0 1 = v) : zSem l Γ false 10 (zhd 306) [.ref 0] f (zKi swM v) := by
  exact zofI (schk_ok (mi := 306) (ct := scM154) (T := sTM) (fun mi c hc _ => sTM_ok l Γ mi c hc) skM154) (by decide) rfl rfl rfl (⟨_, _, rfl, rfl, rfl⟩) hi hv
theorem zpc39 (l : Launch) (Γ : zG) {f : zH} {v : Int} (hi : sInv swC f) (hv : pI f 0 1 = v) : zSem l Γ false 10 (zhd 173) [.ref 0] f (zKi swC v) := by
  exact zofI (schk_ok (mi := 173) (ct := scC261) (T := sTC) (fun mi c hc _ => sTC_ok l Γ mi c hc) skC261) (by decide) rfl rfl rfl (⟨_, _, rfl, rfl, rfl⟩) hi hv
theorem zpm39 (l : Launch) (Γ : zG) {f : zH} {v : Int} (hi : sInv swM f) (hv : pI f 0 1 = v) : zSem l Γ false 10 (zhd 308) [.ref 0] f (zKi swM v) := by
  exact zofI (schk_ok (mi := 308) (ct := scM176) (T := sTM) (fun mi c hc _ => sTM_ok l Γ mi c hc) skM176) (by decide) rfl rfl rfl (⟨_, _, rfl, rfl, rfl⟩) hi hv
theorem zpc40 (l : Launch) (Γ : zG) {f : zH} {v : Int} (hi : sInv swC f) (hv : pI f 0 1 = v) : zSem l Γ false 10 (zhd 174) [.ref 0] f (zKi swC v) := by
  exact zofI (schk_ok (mi := 174) (ct := scC262) (T := sTC) (fun mi c hc _ => sTC_ok l Γ mi c hc) skC262) (by decide) rfl rfl rfl (⟨_, _, rfl, rfl, rfl⟩) hi hv
theorem zpm40 (l : Launch) (Γ : zG) {f : zH} {v : Int} (hi : sInv swM f) (hv : pI f 0 1 = v) : zSem l Γ false 10 (zhd 309) [.ref 0] f (zKi swM v) := by
  exact zofI (schk_ok (mi := 309) (ct := scM177) (T := sTM) (fun mi c hc _ => sTM_ok l Γ mi c hc) skM177) (by decide) rfl rfl rfl (⟨_, _, rfl, rfl, rfl⟩) hi hv
theorem zpc41 (l : Launch) (Γ : zG) {f : zH} {v : Int} (hi : sInv swC f) (hv : pI f 0 1 = v) (x1 : Int32) : zSem l Γ false 10 (zhd 175) [.ref 0, .int x1] f (zKi swC v) := by
  exact zofI (schk_ok (mi := 175) (ct := scC263) (T := sTC) (fun mi c hc _ => sTC_ok l Γ mi c hc) skC263) (by decide) rfl rfl rfl (⟨_, _, rfl, rfl, _, _, rfl, ⟨x1, rfl, i32bd x1⟩, rfl⟩) hi hv
theorem zpm41 (l : Launch) (Γ : zG) {f : zH} {v : Int} (hi : sInv swM f) (hv : pI f 0 1 = v) (x1 : Int32) : zSem l Γ false 10 (zhd 310) [.ref 0, .int x1] f (zKi swM v) := by
  exact zofI (schk_ok (mi := 310) (ct := scM178) (T := sTM) (fun mi c hc _ => sTM_ok l Γ mi c hc) skM178) (by decide) rfl rfl rfl (⟨_, _, rfl, rfl, _, _, rfl, ⟨x1, rfl, i32bd x1⟩, rfl⟩) hi hv

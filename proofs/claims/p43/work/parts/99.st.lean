def zIP : List (Nat × Nat) := [(1028, 15), (1036, 3), (1042, 10), (1137, 5), (1170, 10), (1176, 4), (1203, 7), (2056, 9), (2113, 6), (2144, 7), (2174, 5), (2197, 9), (6055, 86)]
theorem zip_all : (List.range classes.length).all (fun c => match classes[c]?, zIP[c]? with
  | some r, some q => decide (zwat q.1 = some (.instantiable r.1 q.2))
  | _, _ => false) = true := by decide +kernel
theorem zip_in {c : Nat} {r : vw_C} (hc : classes[c]? = some r) : ∃ n p, zwat p = some (.instantiable r.1 n) := by
  have h := List.all_eq_true.mp zip_all c (List.mem_range.mpr (List.getElem?_eq_some_iff.mp hc).1)
  rw [hc] at h
  cases hz : zIP[c]? with
  | none => rw [hz] at h; cases h
  | some q => rw [hz] at h; exact ⟨q.2, q.1, of_decide_eq_true h⟩
def R_law : String := "SandHoursLaw"
def lw_P (b : Addr) (xs : List Int32) (args : Array Value) (s : State) : Prop := args = #[.ref b] ∧ s.IntsAt b xs ∧ xs.length ≤ 3072 ∧ (Jvm.Cond.and given_1 narrow_1).before args s = true
def lw_Q (_ : Array Value) (s : State) (o : Outcome) (t : State) : Prop := o = .returned (some (.int 1)) ∧ Framed s o t [] 601024 7293034
def lw_Z (below : List Frame) (a : Array Value) (s : State) : State → Prop := fun t => ∃ o, t.status = .running ∧ Ended t below o ∧ lw_Q a s o t
/-- what holds at the law's entry: the machine, the code, the tables' words (any of lw_tbl by 'hts w (by decide +kernel)'), the script of L ints xs at the cell b, what the Statement gives of the start (any of its parts by flat_of_before) -/
def lw_At (p : Program) (s : State) (m : MethodId) (meth : Method) (c : Code) (b L : Nat) (xs : Nat → Int32) : Prop :=
  p.tables.exec = Jvm.exec ∧ c.code = code ∧ meth.sig.returnType = ret ∧ c.maxLocals = 7 ∧ s.vm.findClass R_law = some m.cls ∧ (∀ w ∈ lw_tbl, w.before #[Value.ref b] s = true) ∧ va_X b L xs s s.heap ∧ b < s.heap.size ∧ meth.locks = false ∧ meth.name = x.name ∧ (Jvm.Cond.and given_1 narrow_1).before #[Value.ref b] s = true
theorem zEl : ∀ j : Nat, j < 126 → (flatC (Jvm.Cond.and given_1 narrow_1))[43 + j]? = some (Cond.eq (.elem (.field (.string "SandHours$Tokens" 44) "java/lang/String" "value" "[B") (.int (Int32.ofNat j))) (.int (zwords.getD j 0))) := by decide +kernel
theorem zFr {s t : State} {o : Outcome} {L : List Loc} {k n : Nat} (h : FrameEnd s o t L k n) (hL : ∀ q ∈ L, s.heap.size ≤ q.base) : Framed s o t [] k n := by
  obtain ⟨h1, h2, h3, h4, h5, h6, h7, h8⟩ := h
  refine ⟨h1, h2, h3, h4, h5, h6, h7, fun a c hc => ?_⟩
  obtain ⟨c', e1, e2, e3, e4⟩ := h8 a c hc
  refine ⟨c', e1, e2, e3, fun i _ => e4 i (fun hm => ?_)⟩
  have h9 : s.heap.size ≤ a := hL _ hm
  have h10 := (Array.getElem?_eq_some_iff.mp hc).1
  omega
set_option maxRecDepth 100000 in
set_option maxHeartbeats 4000000 in
theorem whole_start {p : Program} {e : Env} {s : State} {m : MethodId} {below : List Frame} {meth : Method} {c : Code} (l : Launch) (hl : l.stackTraces = false) {b L : Nat} {xs : Nat → Int32} (hL : L ≤ 3072) (C0 : lw_At p s m meth c b L xs) : W p l e room_1 s m #[Value.ref b] below meth c s.heap [] 0 0 (lw_Z below #[Value.ref b] s) (entryFrame m ([Value.ref b] : List Value).toArray 7) := by
  obtain ⟨hx, hb, hr, hml, hown, hts, hX, hbl, hlk, hnm, hgv⟩ := C0
  have hg : ∀ (i : Nat) (w : Cond), (flatC (Jvm.Cond.and given_1 narrow_1))[i]? = some w → w.before #[Value.ref b] s = true := fun i w h => flat_of_before _ hgv w (List.mem_of_getElem? h)
  have hTb : zTb s := by
    intro w hw hk A
    have hb := hts w hw
    by_cases hg : goodWord w = true
    · exact word_at (State.WarmedH.refl s) (good_of_word hg) hb
    · cases w <;> first
        | exact va_Nw.use rfl (va_Nw.of rfl hb)
        | exact absurd hk hg
  have h0 : ∀ c : Nat, ∃ q : ClassId × (Nat → Nat), ∀ r, classes[c]? = some r → u_Kn s r.1 r.2.1 r.2.2 q.1 q.2 := by
    intro c
    cases hc : classes[c]? with
    | none => exact ⟨(0, fun _ => 0), fun r h => by cases h⟩
    | some r =>
      obtain ⟨n, p, hp⟩ := zip_in hc
      obtain ⟨cC, iS, hk⟩ := u_known (ws := lw_tbl) hts (fun w hw => (zu_in hc w hw).1) (hts _ (zwat_mem hp))
      exact ⟨(cC, iS), fun r' h => by cases h; exact hk⟩
  obtain ⟨fK, hK⟩ := Classical.axiomOfChoice h0
  obtain ⟨c1, k1, m1, f1, g1, d1⟩ := Cond.arrayClass_spec (type := .int) (hts _ (zwat_mem (p := 1135) rfl))
  obtain ⟨c2, k2, m2, f2, g2, d2⟩ := Cond.arrayClass_spec (type := .byte) (hts _ (zwat_mem (p := 1134) rfl))
  obtain ⟨c3, k3, m3, f3, g3, d3⟩ := Cond.arrayClass_spec (type := .boolean) (hts _ (zwat_mem (p := 2233) rfl))
  obtain ⟨c4, k4, m4, f4, g4, d4⟩ := Cond.arrayClass_spec (type := .long) (hts _ (zwat_mem (p := 1236) rfl))
  have hA : ∀ a : Nat, a < s.heap.size → ¬ (s.heap.size ≤ a ∧ ¬ False) := fun a h1 h2 => Nat.not_le_of_lt h1 h2.1
  obtain ⟨adK, adV, hS, hSe⟩ := vk_Sof (args := #[Value.ref b]) (s := s) (N := 1) (tm := fun _ => .string "SandHours$Tokens" 44) (len := [126]) (byt := [zwords]) (A := fun q => s.heap.size ≤ q ∧ ¬ False)
    (fun i hi => by have : i = 0 := by omega
                    subst this; decide)
    (fun i hi => hg 39 _ (by decide +kernel)) (fun i hi => hg 40 _ (by decide +kernel)) (fun i hi => hg 41 _ (by decide +kernel))
    (fun i hi => by have : i = 0 := by omega
                    subst this; exact hg 42 _ (by decide +kernel))
    (fun i hi j hj => by have : i = 0 := by omega
                         subst this; exact hg (43 + j) _ (zEl j hj))
    (fun i j hi hj h => by omega) hA
  obtain ⟨sa, -, -, -, q1, -⟩ := Cond.exactly_spec (args := #[Value.ref b]) (first := s) (o := none) (s := s) (idx := []) (t := .string "SandHours" 133) (cls := "java/lang/String") (hg 169 _ (by decide +kernel))
  obtain ⟨sb, -, -, -, q2, -⟩ := Cond.exactly_spec (args := #[Value.ref b]) (first := s) (o := none) (s := s) (idx := []) (t := .string "SandHours" 160) (cls := "java/lang/String") (hg 187 _ (by decide +kernel))
  have hzc := va_Zof (C := "java/lang/String") (n := "COMPACT_STRINGS") (d := "Z") (v := .int 1) (A := fun q => s.heap.size ≤ q ∧ ¬ False) (hts _ (zwat_mem (p := 1057) rfl)) (hts _ (zwat_mem (p := 1004) rfl)) (va_eqt (hg 4 _ (by decide +kernel))) hA
  have hzf := va_Zqof (C := "jdk/internal/util/Preconditions") (n := "SIOOBE_FORMATTER") (d := zSio) (A := fun q => s.heap.size ≤ q ∧ ¬ False) (hts _ (zwat_mem (p := 1073) rfl)) (hts _ (zwat_mem (p := 1006) rfl)) (hg 5 _ (by decide +kernel)) hA
  have hzu := vx_Zqof (A := fun q => s.heap.size ≤ q ∧ ¬ False) (C := Bundle.tN) (n := "UNASSIGNED_STACK") (d := Bundle.steD) (hts _ (zwat_mem (p := 5239) rfl)) (hts _ (zwat_mem (p := 1021) rfl)) (hg 9 _ (by decide +kernel)) hA
  have hzs := vx_Zqof (A := fun q => s.heap.size ≤ q ∧ ¬ False) (C := Bundle.tN) (n := "SUPPRESSED_SENTINEL") (d := Bundle.listD) (hts _ (zwat_mem (p := 6001) rfl)) (hts _ (zwat_mem (p := 1021) rfl)) (hg 10 _ (by decide +kernel)) hA
  have hnc := va_Nc.of (C := "java/util/NoSuchElementException") (T := "java/lang/IndexOutOfBoundsException") (hg 24 _ (by decide +kernel))
  obtain ⟨vF, hvF, hzF⟩ : ∃ v : Value, (v = .null ∨ ∃ a, v = .ref a) ∧ va_Z "jdk/internal/util/Preconditions" "SIOOBE_FORMATTER" zSio v (fun q => s.heap.size ≤ q ∧ ¬ False) s s.heap := by
    rcases hzf with h | ⟨t, h⟩
    · exact ⟨.null, Or.inl rfl, h⟩
    · exact ⟨.ref t, Or.inr ⟨t, rfl⟩, h⟩
  obtain ⟨D, hD⟩ : ∃ D : va_G, D = (fun c => (fK c).1, fun c => (fK c).2) := ⟨_, rfl⟩
  obtain ⟨cT, hcT⟩ : ∃ cT : Nat → ClassId, cT 1 = c1 ∧ cT 2 = c2 ∧ cT 3 = c3 ∧ cT 4 = c4 := ⟨fun t => if t = 1 then c1 else if t = 2 then c2 else if t = 3 then c3 else c4, rfl, rfl, rfl, rfl⟩
  obtain ⟨ov, ov0, ov1, ov9, ov10, ovA⟩ : ∃ ov : Nat → Value, ov 0 = .ref (adK 0) ∧ ov 1 = .ref (adV 0) ∧ ov 9 = vF ∧ ov 10 = .ref b ∧ ∀ j, ov j = .null ∨ ∃ a, ov j = .ref a := by
    refine ⟨fun j => if j = 0 then .ref (adK 0) else if j = 1 then .ref (adV 0) else if j = 9 then vF else if j = 10 then .ref b else .null, rfl, rfl, rfl, rfl, fun j => ?_⟩
    show (if j = 0 then Value.ref (adK 0) else if j = 1 then .ref (adV 0) else if j = 9 then vF else if j = 10 then .ref b else .null) = .null ∨ ∃ a, (if j = 0 then Value.ref (adK 0) else if j = 1 then .ref (adV 0) else if j = 9 then vF else if j = 10 then .ref b else .null) = .ref a
    by_cases e0 : j = 0
    · rw [if_pos e0]; exact Or.inr ⟨_, rfl⟩
    · rw [if_neg e0]
      by_cases e1 : j = 1
      · rw [if_pos e1]; exact Or.inr ⟨_, rfl⟩
      · rw [if_neg e1]
        by_cases e9 : j = 9
        · rw [if_pos e9]; exact hvF
        · rw [if_neg e9]
          by_cases e10 : j = 10
          · rw [if_pos e10]; exact Or.inr ⟨_, rfl⟩
          · rw [if_neg e10]; exact Or.inl rfl
  obtain ⟨t1, t2, t3, t4⟩ := hcT
  have hAr : ∀ {cA : ClassId} {kA : Class} {comp : ClassId} {ty : FieldType}, s.vm.classes[cA]? = some kA → kA.kind = .array comp ty → ArrOfT s cA ty := fun h2 h3 n z => ⟨fun k h => (by cases h), _, h2, _, h3⟩
  have hEv : zEv ((D, cT, s.heap.size, ov, L, xs, fun _ => False) : zG) s := by
    refine ⟨hTb, ⟨fun c q hq => ?_, fun k q hk => ?_⟩, Nat.le_refl _, ovA, ⟨adK 0, adV 0, ov0, ov1, ⟨fun i hi => ?_, fun i j hi hj _ => by omega⟩, ?_⟩, hzc, ?_, ⟨b, ov10, hX, hA b hbl, hbl⟩, ⟨sa, vk_R.of (hts _ (zwat_mem (p := 6012) rfl)) q1⟩, ⟨sb, vk_R.of (hts _ (zwat_mem (p := 6047) rfl)) q2⟩, hzu, hzs, hnc⟩
    · rw [hD]
      exact hK c q hq
    · match k, hk with
      | 0, hk => cases hk; show ArrOfT s (cT 1) .int ∧ va_RA s (cT 1) .int; rw [t1]; exact ⟨hAr g1 d1, f1⟩
      | 1, hk => cases hk; show ArrOfT s (cT 2) .byte ∧ va_RA s (cT 2) .byte; rw [t2]; exact ⟨hAr g2 d2, f2⟩
      | 2, hk => cases hk; show ArrOfT s (cT 3) .boolean ∧ va_RA s (cT 3) .boolean; rw [t3]; exact ⟨hAr g3 d3, f3⟩
      | 3, hk => cases hk; show ArrOfT s (cT 4) .long ∧ va_RA s (cT 4) .long; rw [t4]; exact ⟨hAr g4 d4, f4⟩
    · have : i = 0 := by omega
      subst this
      exact hS.1 0 hi
    · exact vk_R.of (A := #[Value.ref b]) (hts _ (zwat_mem (p := 1047) rfl)) (hSe 0 (by decide))
    · show va_Z "jdk/internal/util/Preconditions" "SIOOBE_FORMATTER" zSio (ov 9) _ s s.heap
      rw [ov9]
      exact hzF
  have hlv := lv_entry [Value.ref b] (n := 7) (show 1 ≤ 7 by decide)
  have hlo : zlv ((D, cT, s.heap.size, ov, L, xs, fun _ => False) : zG) [(0, .retAddr 10)] = lv_args 0 [Value.ref b] := by
    show [(0, ov 10)] = [(0, Value.ref b)]
    rw [ov10]
  rw [← hlo] at hlv
  rw [lg_entry_eq]
  intro T hT X
  have hz := zmain l hl D cT s.heap.size ov xs (fun _ => False) (fun _ h => h) hL
  obtain ⟨t, a, o, h1, h2, h3, Lc, h4, h5⟩ := hz (Nat.zero_le _) (Nat.zero_le _) p e s m #[Value.ref b] below meth c ⟨hx, hb, hml, hr, hown, hlk, hnm, hEv⟩ s.heap [] _ hlv ⟨fun k q h => by simp [zws, zh00] at h, Nat.le_refl _, fun _ => ⟨rfl, fun _ h => h⟩, fun q h => absurd h (Nat.not_lt_zero q)⟩ va_S.rf T hT X
  exact ⟨t, a, o, h1, h2, h3, zFr h4 (fun q hq => (h5 q hq).1)⟩
theorem zNoTr {l : Launch} (h : l.flags = flags0) : l.stackTraces = false := by
  show (!l.flags.contains noTraceFlag) = false
  rw [h]
  decide +kernel
set_option maxHeartbeats 4000000 in
theorem lw_walk (l : Launch) (hl : l.stackTraces = false) (b : Addr) (xs : List Int32) : MetFree l x (headSpec (Jvm.Cond.code x code maxLocals ret :: tables_1) room_1) (lw_P b xs) (fun _ _ _ _ _ => True) lw_Q := by
  refine MetFree.of_bodyS (code := code) (maxLocals := maxLocals) (ret := ret) (by decide) ?_ ?_
  · intro args s m h hn
    obtain ⟨meth, c, h1, h2, h3, h4, h5, h6, -, -⟩ := Cond.code_spec hn (atoms_spec (ws := Jvm.Cond.code x code maxLocals ret :: tables_1) h _ List.mem_cons_self)
    exact ⟨meth, c, h1, h2, h3, h4, h5, h6⟩
  · intro p e s m args below meth c s₁ B hml0 hP _
    obtain ⟨rfl, hx, hbd, hgv⟩ := hP
    obtain ⟨scr, harrAt, hlist, hof, hsmall⟩ := hx
    obtain ⟨hcb, hkn, -, -⟩ := State.arrayAt?_spec harrAt
    have hown : s.vm.findClass R_law = some m.cls := findClass_of_methodNamed B.named
    have hts0 : ∀ c ∈ (Jvm.Cond.code x code maxLocals ret :: tables_1), c.before #[Value.ref b] s = true := atoms_spec (ws := Jvm.Cond.code x code maxLocals ret :: tables_1) B.pre
    have hts : ∀ w ∈ lw_tbl, w.before #[Value.ref b] s = true := k2_hts_sels lw_privs (fun w hw => hts0 w (List.mem_cons_of_mem _ hw)) lw_privs_ok
    have hml : c.maxLocals = 7 := B.maxLocals_eq (hts0 _ List.mem_cons_self)
    have X₀ : Stand p l e room_1 s m #[Value.ref b] below meth c s₁ [] 0 0 := Stand.of_body B
    have hh0 : s₁.heap = s.heap := by rw [B.state]; rfl
    have hsz : scr.slots.size = xs.length := by rw [← Array.length_toList, hlist, List.length_map]
    have hval : ∀ j : Nat, j < xs.length → scr.slots[j]? = some (.int (xs.getD j 0)) := fun j hj => by
      rw [← Array.getElem?_toList, hlist]
      simp [hj]
    have hbl : b < s.heap.size := (Array.getElem?_eq_some_iff.mp hcb).1
    have hX : va_X b xs.length (fun j => xs.getD j 0) s s.heap := ⟨scr, hcb, hof, hkn, hsz, hval⟩
    have K : W p l e room_1 s m #[Value.ref b] below meth c s₁.heap [] 0 0 (lw_Z below #[Value.ref b] s) (entryFrame m ([Value.ref b] : List Value).toArray 7) := by
      rw [hh0]
      exact whole_start l hl hbd ⟨B.exec, B.bytes, B.returns, hml, hown, hts, hX, hbl, B.notSynchronized, (name_of_methodNamed B.named B.method).1, hgv⟩
    obtain ⟨t, a1, o, b1, b2, b3⟩ := K s₁ rfl X₀
    exact ⟨t, o, a1, b1, b2, b3⟩
theorem lw_pre_spec {args : Array Value} {s : State} (h : (Jvm.Cond.and given_1 narrow_1).before args s = true) (hr : rest_1_c.before args s = true) : ∃ (b : Addr) (xs : List Int32), lw_P b xs args s := by
  have hs := flat_of_before _ h
  have hq := flat_of_before _ hr
  have hc : (Cond.count 1).before args s = true := hs _ (by decide +kernel)
  have harr : (Cond.arrayOf (.arg 0) .int).before args s = true := hs _ (by decide +kernel)
  have hle : (Cond.le (.length (.arg 0)) (.int 3072)).before args s = true := hs _ (by decide +kernel)
  have hlen : (Cond.isInt (.length (.arg 0))).before args s = true := hq _ (by decide +kernel)
  have hall : (Cond.all (.arg 0) (.isInt (.elem (.arg 0) (.index 0)))).before args s = true := hq _ (by decide +kernel)
  obtain ⟨b, xs, hb, hx⟩ := State.ints_of_pre rfl harr hlen hall
  have hsm : xs.length < 2 ^ 31 := hx.choose_spec.2.2.2
  have hev : (Term.length (.arg 0)).eval args s none [] s = some (.int xs.length.toInt32) := hx.length_eval hb
  have hv := Cond.le_ints hev (show (Term.int 3072).eval args s none [] s = some (.int 3072) from rfl)
  have hd : xs.length.toInt32 ≤ 3072 := by
    simpa [Cond.before, Cond.holds, hv] using hle
  have hN : xs.length ≤ 3072 := (Int32.ofNat_le_ofNat hsm (by decide)).mp (show Int32.ofNat xs.length ≤ Int32.ofNat 3072 from hd)
  exact ⟨b, xs, Cond.one_arg hc (show args[0]? = some (.ref b) from hb), hx, hN, h⟩
theorem lw_comes (l : Launch) (hl : l.stackTraces = false) : Comes l x (Jvm.Cond.code x code maxLocals ret :: tables_1) room_1 (fun tb e args s => Calls_1 tb e args s ∧ rest_1 tb e args s ∧ Pre_1 tb e args s)
    (fun _ _ args s o t => lw_Q args s o t) := by
  intro p e ha hc hk s m args below hf hfit hheap happ hpre
  obtain ⟨b, xs, hP⟩ := lw_pre_spec hpre.2.2 hpre.2.1
  obtain ⟨k, o, h1, h2, h3, hQ⟩ := lw_walk l hl b xs p e ha hc hk s m args below hf ((Spec.applies_iff_loose hf).mp happ).1 hP trivial
  exact ⟨k, o, h1, h2, h3, hQ⟩
theorem lw_frame {s t : State} {o : Outcome} {args : Array Value} (h : Framed s o t [] 601024 7293034) :
    Framed s o t (fieldLocs frame_1_writes args s ++ arrayLocs frame_1_arrays args s ++ staticLocs frame_1_statics s) 601024 7293034 := h
theorem lw_limb (L : Cond) (hL : ∀ (args : Array Value) (s t : State), L.after args s (.returned (some (.int 1))) t = true) :
    ArmFor flags0 classFile x code maxLocals ret World_1 tables_1 room_1 Calls_1 rest_1 Pre_1
      (fun tb e a s o t => postC L tb e a s o t ∧ Framed s o t (fieldLocs frame_1_writes a s ++ arrayLocs frame_1_arrays a s ++ staticLocs frame_1_statics s) 601024 7293034) := by
  intro l hfl _ _ p e ha hc hk s m args below hf hfit hheap happ hpre
  obtain ⟨k, o, h1, h2, h3, rfl, hF⟩ := lw_comes l (zNoTr hfl) p e ha hc hk s m args below hf hfit hheap happ hpre
  exact ⟨k, _, h1, h2, h3, hL args s _, lw_frame hF⟩
theorem i_vc : Claimed_1_1 ∧ Claimed_1_2 := ⟨lw_limb limb_1_1 (fun args s t => by simp [limb_1_1, Cond.after, Cond.holds, Cond.value]), lw_limb limb_1_2 (fun args s t => Cond.after_iff.mpr (by
  first | (rw [show limb_1_2 = Cond.eq .result (.int 1) from rfl, Cond.eq_ints (x := 1) (y := 1) rfl rfl]; simp; done) | (simp [limb_1_2, Cond.value, Term.eval]; done)))⟩

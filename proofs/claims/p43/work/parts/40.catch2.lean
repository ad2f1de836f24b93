theorem zgo_pass {Q : Handler → Pre} {E : CtlPost} {e : Env} {d : Bool} {acts : List Action} {s : State} {f : JFrame} {a : Addr} {x : ExceptionTableEntry} {t : List ExceptionTableEntry} {c : ClassId} {cell : Cell} (hx : covers x f.pc = true) (h0 : x.catchType ≠ 0)
    (hl : s.vm.ClassLinks e.platform f.method.cls x.catchType c) (hcell : s.heap[a]? = some cell) (hobj : ∀ k, cell.vm ≠ .statics k)
    (hk : ∃ k, s.vm.classes[cell.cls]? = some k) (hc : ∃ k, s.vm.classes[c]? = some k) (hfit : s.vm.assignable cell.cls c = false) :
    wp (findHandler.go f a (x :: t)) Q E e d acts s ↔ wp (findHandler.go f a t) Q E e d acts (s.setVm (s.vm.noted f.method.cls x.catchType (.cls c))) := by
  simp only [covers] at hx
  obtain ⟨ha, ht⟩ := (resolveClass_links e.toSetting hl).op (op := VmOp.resolveClass f.method.cls x.catchType) rfl
  have hal : s.vm.Alike (s.vm.noted f.method.cls x.catchType (.cls c)) := (Vm.Alike.refl s.vm).noted _ _ _
  obtain ⟨k1, hk1⟩ := hk
  obtain ⟨k2, hk2⟩ := hc
  obtain ⟨k1', hk1', -⟩ := hal.2.2 _ _ hk1
  obtain ⟨k2', hk2', -⟩ := hal.2.2 _ _ hk2
  have hfit' : (s.vm.noted f.method.cls x.catchType (.cls c)).assignable cell.cls c = false := by rw [hal.assignable]; exact hfit
  simp [findHandler.go, hx, h0, ha, ht, hcell, hobj, hk1', hk2', hfit', VmOp.dirties, VmOp.acts]
theorem zFT_link2 {e : Env} {s : State} {f : JFrame} {a : Addr} {meth : Method} {code : Code} (hm : s.vm.method? f.method = some meth) (hc : meth.code = some code)
    (x1 x2 : ExceptionTableEntry) (rest : List ExceptionTableEntry) (hsplit : code.exceptionTable.toList = x1 :: x2 :: rest) (hx1 : covers x1 f.pc = true) (h01 : x1.catchType ≠ 0) (hx2 : covers x2 f.pc = true) (h02 : x2.catchType ≠ 0) {c1 c2 : ClassId} {cell : Cell}
    (hl1 : s.vm.ClassLinks e.platform f.method.cls x1.catchType c1) (hl2 : (s.vm.noted f.method.cls x1.catchType (.cls c1)).ClassLinks e.platform f.method.cls x2.catchType c2) (hcell : s.heap[a]? = some cell) (hobj : ∀ k, cell.vm ≠ .statics k)
    (hk : ∃ k, s.vm.classes[cell.cls]? = some k) (hcl1 : ∃ k, s.vm.classes[c1]? = some k) (hfit1 : s.vm.assignable cell.cls c1 = false)
    (hk2 : ∃ k, (s.vm.noted f.method.cls x1.catchType (.cls c1)).classes[cell.cls]? = some k) (hcl2 : ∃ k, (s.vm.noted f.method.cls x1.catchType (.cls c1)).classes[c2]? = some k) (hfit2 : (s.vm.noted f.method.cls x1.catchType (.cls c1)).assignable cell.cls c2 = true) :
    zFT e s f a (.found x2.handlerPc) ((s.vm.noted f.method.cls x1.catchType (.cls c1)).noted f.method.cls x2.catchType (.cls c2)) := by
  intro Q E d acts
  rw [Jvm.W.findHandler_eq hm hc, hsplit]
  rw [zgo_pass hx1 h01 hl1 hcell hobj hk hcl1 hfit1]
  exact zgo_link (s := s.setVm (s.vm.noted f.method.cls x1.catchType (.cls c1))) hx2 h02 hl2 hcell hobj hk2 hcl2 hfit2
theorem zcatch2 {p : Program} {l : Launch} {e : Env} {R : Room} {s : State} {m : MethodId} {args : Array Value} {below : List Frame} {meth : Method} {c : Code} {H : Heap} {locs : List Loc} {cells slots : Nat} {Q : State → Prop} {pc : Nat} {ls : Array Slot} {rest : List Value} {own n1 n2 E : String} {ce : Cell} {q : Addr} (hown : s.vm.findClass own = some m.cls) (x1 x2 : ExceptionTableEntry) (suf : List ExceptionTableEntry) (hsplit : c.exceptionTable.toList = x1 :: x2 :: suf) (hx1 : covers x1 pc = true) (h01 : x1.catchType ≠ 0) (hx2 : covers x2 pc = true) (h02 : x2.catchType ≠ 0)
    (hlink1 : (Cond.classLink own x1.catchType n1).before args s = true) (hlink2 : (Cond.classLink own x2.catchType n2).before args s = true) (hnc : va_Nc E n1 s) (hcast : (Cond.castable E n2).before args s = true) (hcell : H[q]? = some ce) (hv : ce.vm = .none) (hcl : s.vm.findClass E = some ce.cls)
    (kk : W p l e R s m args below meth c H locs cells slots Q (F0 m x2.handlerPc ls [.ref q])) : vx_W p l e R s m args below meth c H locs cells slots Q (F0 m pc ls rest) q := by
  intro T hT X
  have hpl : e.platform.magicAccessors = ({} : Platform).magicAccessors := by rw [X.admits.platform]
  obtain ⟨c3, c4, hc3, hc4, hasg⟩ := Cond.castable_spec hcast
  cases Option.some.inj (hc3.symm.trans hcl)
  obtain ⟨c5, hc5, hcl5⟩ := Cond.classLink_spec hown hlink2 e.platform hpl
  cases Option.some.inj (hc4.symm.trans hc5)
  obtain ⟨n3, n4, hn3, hn4, hnasg⟩ := hnc
  cases Option.some.inj (hn3.symm.trans hcl)
  obtain ⟨c6, hc6, hcl6⟩ := Cond.classLink_spec hown hlink1 e.platform hpl
  cases Option.some.inj (hn4.symm.trans hc6)
  obtain ⟨dk1, _, _, kt1, hd1, _, _, _, _, hkt1, _, hopen1⟩ := hcl6.here
  obtain ⟨dk, _, _, kt, hd, _, _, _, _, hkt, _, hopen⟩ := hcl5.here
  have hW1 : s.WarmedH (T.vm.noted m.cls x1.catchType (.cls n4)) := X.warmed.noted hd1 hopen1 (State.rightAt_cls hcl6)
  have hW2 : s.WarmedH ((T.vm.noted m.cls x1.catchType (.cls n4)).noted m.cls x2.catchType (.cls c4)) := hW1.noted hd hopen (State.rightAt_cls hcl5)
  have hal := X.warmed.alike
  have hal1 := hW1.alike
  obtain ⟨kt1', hkt1', -⟩ := hal.2.2 _ _ hkt1
  obtain ⟨kt', hkt', -⟩ := hal.2.2 _ _ hkt
  obtain ⟨kt2', hkt2', -⟩ := hal1.2.2 _ _ hkt
  have hfit1 : T.vm.assignable ce.cls n4 = false := by rw [hal.assignable]; exact hnasg
  have hfit0 : T.vm.assignable ce.cls c4 = true := by rw [hal.assignable]; exact hasg
  have hfit2 : (T.vm.noted m.cls x1.catchType (.cls n4)).assignable ce.cls c4 = true := by rw [hal1.assignable]; exact hasg
  have hcell' : T.heap[q]? = some ce := by rw [hT]; exact hcell
  obtain ⟨t, a1, b1⟩ := kk (T.setVm ((T.vm.noted m.cls x1.catchType (.cls n4)).noted m.cls x2.catchType (.cls c4))) hT (X.noted hW2)
  refine ⟨t, zcaughtTo (g := F0 m pc ls rest) X.here (zFT_link2 (s := (T.setTop (F0 m pc ls rest)).pushFrame (.throwing q)) (f := F0 m pc ls rest) (meth := meth) (code := c) X.method' X.code x1 x2 suf hsplit hx1 h01 hx2 h02 (c1 := n4) (c2 := c4) (cell := ce) (X.warmed.classLinks hcl6) (hW1.classLinks hcl5) hcell' (VmData.ne_statics_of (by rw [hv]; rfl)) (Vm.classAt_of_assignable hfit0 ⟨kt', hkt'⟩) ⟨kt1', hkt1'⟩ hfit1 (Vm.classAt_of_assignable hfit2 ⟨kt2', hkt2'⟩) ⟨kt2', hkt2'⟩ hfit2) a1, b1⟩

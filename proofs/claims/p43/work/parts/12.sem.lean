/-! What the executor's words mean over the machine. -/
/-- classes of the world's objects and arrays; where it begins; things from outside; the script; what isn't to be touched -/
abbrev zG : Type := va_G × (Nat → ClassId) × Nat × (Nat → Value) × Nat × (Nat → Int32) × (Nat → Prop)
def zcv (Γ : zG) : Value → Value
  | .ref k => .ref (Γ.2.2.1 + k)
  | .retAddr j => Γ.2.2.2.1 j
  | v => v
def zlv (Γ : zG) (l : zL) : zL := l.map (fun q => (q.1, zcv Γ q.2))
def zA (Γ : zG) : Nat → Prop := fun q => Γ.2.2.1 ≤ q ∧ ¬ Γ.2.2.2.2.2.2 q
def ztys (Γ : zG) : List (ClassId × FieldType) := [(Γ.2.1 1, .int), (Γ.2.1 2, .byte), (Γ.2.1 3, .boolean), (Γ.2.1 4, .long)]
def zfv (Γ : zG) (h : zH) (ci q j : Nat) : Value := match zkind ci j with
  | 1 => .long (h.2.2.1 q j)
  | 2 => (match h.2.2.2 q j with
    | none => .null
    | some r => zcv Γ (.ref r))
  | _ => .int (h.2.1 q j)
def zcell (Γ : zG) (h : zH) (q : Nat) (s : zSh) : va_E := match s.1 with
  | 0 => .inr (s.2, (List.range (zNF s.2)).map (zfv Γ h s.2 q))
  | 4 => .inl (Γ.2.1 4, s.2, .inr (.inl (h.2.2.1 q)))
  | t => .inl (Γ.2.1 t, s.2, .inl (h.2.1 q))
def zws (Γ : zG) (h : zH) : va_W := h.1.mapIdx (fun q s => (Γ.2.2.1 + q, zcell Γ h q s))
def zRep (Γ : zG) (al : Bool) (h : zH) (H : Heap) : Prop := va_P Γ.1 classes (zws Γ h) H ∧ Γ.2.2.1 + h.1.length ≤ H.size ∧ (al = true → H.size = Γ.2.2.1 + h.1.length ∧ ∀ q, ¬ Γ.2.2.2.2.2.2 q) ∧ ∀ q, q < h.1.length → ¬ Γ.2.2.2.2.2.2 (Γ.2.2.1 + q)
def zTb (U : State) : Prop := ∀ w ∈ lw_tbl, zokw w = true → ∀ A : Array Value, w.before A U = true
def ztx : String := "man   glass turn  pay   sieve damp  seed  law   flow  tax   wind  above below neck  coarsewet   paid  minutenot   and   or    "
/-- what throws and catches need -/
def zThr (Γ : zG) (U : State) : Prop := (∃ sa, vk_R "SandHours" 133 "no such glass" sa U) ∧ (∃ sa, vk_R "SandHours" 160 "no such what" sa U) ∧ vx_Zq Bundle.tN "UNASSIGNED_STACK" Bundle.steD (zA Γ) U U.heap ∧ vx_Zq Bundle.tN "SUPPRESSED_SENTINEL" Bundle.listD (zA Γ) U U.heap ∧ va_Nc "java/util/NoSuchElementException" "java/lang/IndexOutOfBoundsException" U
/-- what stands around the world -/
def zEv (Γ : zG) (U : State) : Prop := zTb U ∧ va_K Γ.1 classes (ztys Γ) U ∧ Γ.2.2.1 ≤ U.heap.size ∧ (∀ j, Γ.2.2.2.1 j = .null ∨ ∃ a, Γ.2.2.2.1 j = .ref a) ∧
  (∃ a0 a1 : Nat, Γ.2.2.2.1 0 = .ref a0 ∧ Γ.2.2.2.1 1 = .ref a1 ∧ vk_S 1 [126] [zwords] (fun _ => a0) (fun _ => a1) (zA Γ) U U.heap ∧ vk_R "SandHours$Tokens" 44 ztx a0 U) ∧
  va_Z "java/lang/String" "COMPACT_STRINGS" "Z" (.int 1) (zA Γ) U U.heap ∧ va_Z "jdk/internal/util/Preconditions" "SIOOBE_FORMATTER" zSio (Γ.2.2.2.1 9) (zA Γ) U U.heap ∧
  (∃ b : Nat, Γ.2.2.2.1 10 = .ref b ∧ va_X b Γ.2.2.2.2.1 Γ.2.2.2.2.2.1 U U.heap ∧ ¬ zA Γ b ∧ b < U.heap.size) ∧ zThr Γ U
def zrm (d mc ms : Nat) : Room := { frames := d, cells := mc, slots := ms, locals := 38 * d + 8 }
def zQ (Γ : zG) (al : Bool) (K : Option Value → zH → Prop) : Array Value → State → Outcome → State → Prop := fun _ st o t =>
  (∃ (r : Option Value) (h' : zH), o = .returned (r.map (zcv Γ)) ∧ K r h' ∧ zRep Γ al h' t.heap) ∧ va_F (zA Γ) st t
def zPc (Γ : zG) (al : Bool) (args : List Value) (h : zH) : Array Value → State → Prop := va_Pc (args.map (zcv Γ)) (fun U => zEv Γ U ∧ zRep Γ al h U.heap)
/-- a call of a method with d frames left: from this world it returns, and K holds of the answer and the world behind it -/
def zSem (l : Launch) (Γ : zG) (al : Bool) (d : Nat) (M : zHd) (args : List Value) (h : zH) (K : Option Value → zH → Prop) : Prop :=
  Met l M.1 [.code M.1 M.2.1 M.2.2.1 M.2.2.2.1] (zrm d M.2.2.2.2.1 M.2.2.2.2.2) (zPc Γ al args h) (zQ Γ al K) M.2.2.2.2.1 M.2.2.2.2.2 (zA Γ)
/-- the same of the law's own glass, which has a table of handlers -/
def zSemW (l : Launch) (Γ : zG) (al : Bool) (d : Nat) (args : List Value) (h : zH) (K : Option Value → zH → Prop) : Prop :=
  Met l (zhd zGL).1 [.codeWith (zhd zGL).1 (zhd zGL).2.1 (zhd zGL).2.2.1 (zhd zGL).2.2.2.1 zhh] (zrm d (zmc zGL) (zms zGL)) (zPc Γ al args h) (zQ Γ al K) (zmc zGL) (zms zGL) (zA Γ)
def zCtx (p : Program) (s : State) (m : MethodId) (meth : Method) (c : Code) (M : zHd) (Γ : zG) : Prop :=
  p.tables.exec = Jvm.exec ∧ c.code = M.2.1 ∧ c.maxLocals = M.2.2.1 ∧ meth.sig.returnType = M.2.2.2.1 ∧ s.vm.findClass M.1.cls = some m.cls ∧ meth.locks = false ∧ meth.name = M.1.name ∧ zEv Γ s
/-- from this point of a method's body it comes to its end -/
def zX (l : Launch) (Γ : zG) (al : Bool) (d : Nat) (M : zHd) (QF : List Frame → Array Value → State → State → Prop) (cs ss pc : Nat) (lo : zL) (st : List Value) (h : zH) : Prop :=
  cs ≤ M.2.2.2.2.1 → ss ≤ M.2.2.2.2.2 → ∀ (p : Program) (e : Env) (s : State) (m : MethodId) (args : Array Value) (below : List Frame) (meth : Method) (c : Code), zCtx p s m meth c M Γ →
    ∀ (H : Heap) (locs : List Loc) (ls : Array Slot), lv_has ls M.2.2.1 (zlv Γ lo) → zRep Γ al h H → va_S (zA Γ) s.heap H locs →
      W p l e (zrm d M.2.2.2.2.1 M.2.2.2.2.2) s m args below meth c H locs cs ss (QF below args s) (F0 m pc ls (st.map (zcv Γ)))
/-- the end that an ordinary method owes -/
def zMQ' (Γ : zG) (al : Bool) (M : zHd) (K : Option Value → zH → Prop) : List Frame → Array Value → State → State → Prop := fun below args s => MQ below (zQ Γ al K) args s M.2.2.2.2.1 M.2.2.2.2.2 (zA Γ)
-- ===== lemmas on values, locals =====
theorem zcv_cat {Γ : zG} (ho : ∀ j, Γ.2.2.2.1 j = .null ∨ ∃ a, Γ.2.2.2.1 j = .ref a) (v : Value) : (zcv Γ v).category = v.category := by
  cases v with
  | retAddr k => rcases ho k with h | ⟨a, h⟩ <;> simp only [zcv, h] <;> rfl
  | _ => rfl
theorem zget_mem : ∀ (l : zL) (i : Nat) (v : Value), zget l i = some v → (i, v) ∈ l
  | [], _, _, h => by simp [zget] at h
  | q :: r, i, v, h => by
    simp only [zget] at h
    split at h
    · rename_i e
      cases h
      rw [← e]
      exact List.mem_cons_self
    · exact List.mem_cons_of_mem _ (zget_mem r i v h)
theorem zlv_at {Γ : zG} {ls : Array Slot} {n : Nat} {l : zL} {i : Nat} {v : Value} (h : lv_has ls n (zlv Γ l)) (hg : zget l i = some v) : ls[i]? = some (.val (zcv Γ v)) :=
  h.2.2 (i, zcv Γ v) (List.mem_map.mpr ⟨(i, v), zget_mem l i v hg, rfl⟩)
theorem zlv_ix {Γ : zG} {l : zL} {i : Nat} {v : Value} (hg : zget l i = some v) : ∃ k : Nat, (zlv Γ l)[k]? = some (i, zcv Γ v) :=
  List.getElem?_of_mem (List.mem_map.mpr ⟨(i, v), zget_mem l i v hg, rfl⟩)
theorem zlv_set {Γ : zG} (ho : ∀ j, Γ.2.2.2.1 j = .null ∨ ∃ a, Γ.2.2.2.1 j = .ref a) (l : zL) (i : Nat) (v : Value) : (i, zcv Γ v) :: (zlv Γ l).filter (fun q => !(q.1 == i) && !(q.1 + 1 == i && q.2.category == 2)) = zlv Γ (zset l i v) := by
  simp only [zlv, zset, List.map_cons, List.filter_map]
  congr 2
  apply List.filter_congr
  intro q _
  simp only [Function.comp, zcv_cat ho]
theorem zlv_set2 {Γ : zG} (ho : ∀ j, Γ.2.2.2.1 j = .null ∨ ∃ a, Γ.2.2.2.1 j = .ref a) (l : zL) (i : Nat) (v : Value) : (i, zcv Γ v) :: (zlv Γ l).filter (fun q => !(q.1 == i) && (!(q.1 == i + 1) && !(q.1 + 1 == i && q.2.category == 2))) = zlv Γ (zset2 l i v) := by
  simp only [zlv, zset2, List.map_cons, List.filter_map]
  congr 2
  apply List.filter_congr
  intro q _
  simp only [Function.comp, zcv_cat ho]
theorem zlv_args {Γ : zG} (ho : ∀ j, Γ.2.2.2.1 j = .null ∨ ∃ a, Γ.2.2.2.1 j = .ref a) : ∀ (vs : List Value) (k : Nat), lv_args k (vs.map (zcv Γ)) = zlv Γ (lv_args k vs)
  | [], _ => rfl
  | v :: r, k => by
    simp only [List.map_cons, lv_args, zlv]
    rw [zcv_cat ho, zlv_args ho r]
    rfl
theorem zwd_map {Γ : zG} (ho : ∀ j, Γ.2.2.2.1 j = .null ∨ ∃ a, Γ.2.2.2.1 j = .ref a) (st : List Value) : ((st.map (zcv Γ)).map fun v => v.category).sum = zwd st := by
  simp only [zwd, List.map_map]
  congr 1
  apply List.map_congr_left
  intro v _
  exact zcv_cat ho v
theorem zsl_len {Γ : zG} (ho : ∀ j, Γ.2.2.2.1 j = .null ∨ ∃ a, Γ.2.2.2.1 j = .ref a) : ∀ (vs : List Value), (lg_sl (vs.map (zcv Γ))).length = (lg_sl vs).length
  | [] => rfl
  | v :: r => by
    simp only [lg_sl, List.map_cons, List.flatMap_cons, List.length_append]
    have := zsl_len ho r
    simp only [lg_sl] at this
    rw [this, zcv_cat ho]
    congr 1
    split <;> rfl
-- ===== lemmas on the world =====
theorem zws_at {Γ : zG} {h : zH} {q : Nat} {s : zSh} (hq : h.1[q]? = some s) : (zws Γ h)[q]? = some (Γ.2.2.1 + q, zcell Γ h q s) := by
  simp [zws, List.getElem?_mapIdx, hq]
theorem zws_len {Γ : zG} {h : zH} : (zws Γ h).length = h.1.length := by simp [zws]
theorem zws_D {Γ : zG} {h : zH} (hz : ∀ q, q < h.1.length → ¬ Γ.2.2.2.2.2.2 (Γ.2.2.1 + q)) : va_D (zA Γ) (zws Γ h) := by
  have key : ∀ (k : Nat) (x : Nat × va_E), (zws Γ h)[k]? = some x → x.1 = Γ.2.2.1 + k := by
    intro k x hk
    simp only [zws, List.getElem?_mapIdx] at hk
    cases hs : h.1[k]? with
    | none => rw [hs] at hk; cases hk
    | some s => rw [hs] at hk; cases hk; rfl
  refine ⟨fun i j a b hi hj e => ?_, fun k x hk => ?_⟩
  · have h1 := key i a hi
    have h2 := key j b hj
    omega
  · show Γ.2.2.1 ≤ x.1 ∧ ¬ Γ.2.2.2.2.2.2 x.1
    have hl := (List.getElem?_eq_some_iff.mp hk).1
    rw [zws_len] at hl
    rw [key k x hk]
    exact ⟨Nat.le_add_right _ _, hz k hl⟩
theorem zws_set {Γ : zG} {h h' : zH} {q : Nat} {s : zSh} (hq : h.1[q]? = some s) (hs : h'.1 = h.1) (ho : ∀ (k : Nat) (t : zSh), k ≠ q → h.1[k]? = some t → zcell Γ h' k t = zcell Γ h k t) :
    (zws Γ h).set q (Γ.2.2.1 + q, zcell Γ h' q s) = zws Γ h' := by
  apply List.ext_getElem?
  intro k
  have hlt : q < (zws Γ h).length := by rw [zws_len]; exact (List.getElem?_eq_some_iff.mp hq).1
  by_cases hk : k = q
  · subst hk
    rw [List.getElem?_set_self hlt, zws_at (h := h') (s := s) (by rw [hs]; exact hq)]
  · rw [List.getElem?_set_ne (Ne.symm hk)]
    simp only [zws, List.getElem?_mapIdx, hs]
    cases hs2 : h.1[k]? with
    | none => rfl
    | some t => simp only [Option.map_some]; rw [ho k t hk hs2]
theorem zu2_ne {α : Type} {f : Nat → Nat → α} {k j : Nat} {v : α} {a : Nat} (h : a ≠ k) (b : Nat) : zu2 f k j v a b = f a b := by simp [zu2, h]
theorem zu2_row {α : Type} {f : Nat → Nat → α} {k j : Nat} {v : α} {a : Nat} (h : a ≠ k) : zu2 f k j v a = f a := by funext b; exact zu2_ne h b
theorem zur_ne {α : Type} {f : Nat → Nat → α} {k : Nat} {g : Nat → α} {a : Nat} (h : a ≠ k) (b : Nat) : zur f k g a b = f a b := by simp [zur, h]
theorem zur_row {α : Type} {f : Nat → Nat → α} {k : Nat} {g : Nat → α} {a : Nat} (h : a ≠ k) : zur f k g a = f a := by funext b; exact zur_ne h b
theorem zur_at {α : Type} {f : Nat → Nat → α} {k : Nat} {g : Nat → α} : zur f k g k = g := by funext b; simp [zur]
/-- a cell looks at its own rows alone -/
theorem zcell_eq {Γ : zG} {h h' : zH} {k : Nat} {t : zSh} (e1 : h'.2.1 k = h.2.1 k) (e2 : h'.2.2.1 k = h.2.2.1 k) (e3 : h'.2.2.2 k = h.2.2.2 k) : zcell Γ h' k t = zcell Γ h k t := by
  have ef : zfv Γ h' t.2 k = zfv Γ h t.2 k := by
    funext j
    simp only [zfv, e1, e2, e3]
  simp only [zcell, e1, e2, ef]
theorem zEv_warm {Γ : zG} {u U : State} (hW : u.WarmedH U.vm) (hz : u.heap.size ≤ U.heap.size) (hq : ∀ q : Nat, q < u.heap.size → ¬ zA Γ q → U.heap[q]? = u.heap[q]?) (h : zEv Γ u) : zEv Γ U := by
  obtain ⟨h1, h2, h3, h4, ⟨a0, a1, e0, e1, hs, hr⟩, h6, h7, ⟨b, e10, hX, hbA, hbl⟩, ⟨sa, t1⟩, ⟨sb, t2⟩, t3, t4, t5⟩ := h
  refine ⟨?_, va_K.moved hW.alike h2, Nat.le_trans h3 hz, h4, ⟨a0, a1, e0, e1, (hs.moved hW.alike).kept hq, vk_R.warm hW hr⟩, (va_Z.moved hW.alike h6).kept hq, (va_Z.moved hW.alike h7).kept hq, ⟨b, e10, (va_X.moved hW.alike hX).kept (hq b hbl hbA), hbA, Nat.lt_of_lt_of_le hbl hz⟩, ⟨sa, vk_R.warm hW t1⟩, ⟨sb, vk_R.warm hW t2⟩, (vx_Zq.moved hW.alike t3).kept hq, (vx_Zq.moved hW.alike t4).kept hq, t5.moved hW.alike⟩
  intro w hw hk A
  have hb := h1 w hw hk
  by_cases hg : goodWord w = true
  · exact word_at hW (good_of_word hg) (hb A)
  · cases w <;> first
      | exact va_Nw.use rfl (va_Nw.warmF hW (va_Nw.of rfl (hb #[])))
      | exact va_Nw.use rfl (va_Nw.warmM hW (va_Nw.of rfl (hb #[])))
      | exact va_Nw.use rfl (va_Nw.warmC hW (va_Nw.of rfl (hb #[])))
      | exact va_Nw.use rfl (va_Nw.warmD hW (va_Nw.of rfl (hb #[])))
      | exact absurd hk hg
theorem zPc_blind {Γ : zG} {al : Bool} {args : List Value} {h : zH} : FrameBlind (zPc Γ al args h) := by
  intro a U g mk q
  obtain ⟨q0, q1, q2⟩ := q
  exact ⟨q0, zEv_warm (u := U) (U := U.calling g mk a) (State.WarmedH.refl U) (Nat.le_refl _) (fun _ _ _ => rfl) q1, q2⟩

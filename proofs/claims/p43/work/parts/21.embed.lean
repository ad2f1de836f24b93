/-! A part of the world, from cell n on, as a world of its own. -/
def zoff (Γ : zG) (n : Nat) (Z : Nat → Prop) : zG := (Γ.1, Γ.2.1, Γ.2.2.1 + n, Γ.2.2.2.1, Γ.2.2.2.2.1, Γ.2.2.2.2.2.1, Z)
def zsft (n : Nat) : Value → Value
  | .ref k => .ref (n + k)
  | v => v
/-- the world g with the world f in the place of its cells from n on -/
def zjn (n : Nat) (g f : zH) : zH :=
  (g.1.take n ++ f.1 ++ g.1.drop (n + f.1.length), fun q k => if q < n then g.2.1 q k else if q < n + f.1.length then f.2.1 (q - n) k else g.2.1 q k,
    fun q k => if q < n then g.2.2.1 q k else if q < n + f.1.length then f.2.2.1 (q - n) k else g.2.2.1 q k,
    fun q k => if q < n then g.2.2.2 q k else if q < n + f.1.length then (f.2.2.2 (q - n) k).map (fun r => n + r) else g.2.2.2 q k)
theorem zcv_off {Γ : zG} {n : Nat} {Z : Nat → Prop} (v : Value) : zcv (zoff Γ n Z) v = zcv Γ (zsft n v) := by
  cases v with
  | ref k => exact congrArg Value.ref (Nat.add_assoc _ _ _)
  | _ => rfl
theorem zjn_in {Γ : zG} {n : Nat} {Z : Nat → Prop} {g f : zH} {q : Nat} {s : zSh} (hq : q < f.1.length) : zcell Γ (zjn n g f) (n + q) s = zcell (zoff Γ n Z) f q s := by
  have h1 : ¬ n + q < n := by omega
  have h2 : n + q < n + f.1.length := by omega
  have h3 : n + q - n = q := by omega
  have e1 : (zjn n g f).2.1 (n + q) = f.2.1 q := by funext k; simp only [zjn, h1, h2, h3, if_true, if_false]
  have e2 : (zjn n g f).2.2.1 (n + q) = f.2.2.1 q := by funext k; simp only [zjn, h1, h2, h3, if_true, if_false]
  have e3 : ∀ k, (zjn n g f).2.2.2 (n + q) k = (f.2.2.2 q k).map (fun r => n + r) := by intro k; simp only [zjn, h1, h2, h3, if_true, if_false]
  have e4 : zfv Γ (zjn n g f) s.2 (n + q) = zfv (zoff Γ n Z) f s.2 q := by
    funext k
    unfold zfv
    rw [e1, e2, e3 k]
    split
    · rfl
    · cases hp : f.2.2.2 q k with
      | none => rfl
      | some r => exact congrArg Value.ref (Nat.add_assoc _ _ _).symm
    · rfl
  unfold zcell
  rw [e1, e2, e4]
  rfl
theorem zjn_out {Γ : zG} {n : Nat} {g f f' : zH} {q : Nat} {s : zSh} (hl : f'.1.length = f.1.length ∨ q < n) (hq : q < n ∨ n + f.1.length ≤ q) : zcell Γ (zjn n g f') q s = zcell Γ (zjn n g f) q s := by
  apply zcell_eq
  · funext k
    simp only [zjn]
    by_cases h1 : q < n
    · simp only [h1, if_true]
    · have h2 : ¬ q < n + f.1.length := by omega
      have h3 : ¬ q < n + f'.1.length := by omega
      simp only [h1, h2, h3, if_false]
  · funext k
    simp only [zjn]
    by_cases h1 : q < n
    · simp only [h1, if_true]
    · have h2 : ¬ q < n + f.1.length := by omega
      have h3 : ¬ q < n + f'.1.length := by omega
      simp only [h1, h2, h3, if_false]
  · funext k
    simp only [zjn]
    by_cases h1 : q < n
    · simp only [h1, if_true]
    · have h2 : ¬ q < n + f.1.length := by omega
      have h3 : ¬ q < n + f'.1.length := by omega
      simp only [h1, h2, h3, if_false]
theorem zjn_sh1 {n : Nat} {g f : zH} (hn : n ≤ g.1.length) {q : Nat} (hq : q < n) : (zjn n g f).1[q]? = g.1[q]? := by
  show (g.1.take n ++ f.1 ++ g.1.drop (n + f.1.length))[q]? = _
  rw [List.append_assoc, List.getElem?_append_left (by rw [List.length_take]; omega), List.getElem?_take_of_lt hq]
theorem zjn_sh2 {n : Nat} {g f : zH} (hn : n ≤ g.1.length) {q : Nat} (hq : q < f.1.length) : (zjn n g f).1[n + q]? = f.1[q]? := by
  show (g.1.take n ++ f.1 ++ g.1.drop (n + f.1.length))[n + q]? = _
  have hl : (g.1.take n).length = n := by rw [List.length_take]; omega
  rw [List.append_assoc, List.getElem?_append_right (by omega), hl, List.getElem?_append_left (by omega)]
  congr 1
  omega
theorem zjn_len {n : Nat} {g f : zH} (hn : n ≤ g.1.length) : (zjn n g f).1.length = n + f.1.length + (g.1.length - (n + f.1.length)) := by
  show (g.1.take n ++ f.1 ++ g.1.drop (n + f.1.length)).length = _
  rw [List.length_append, List.length_append, List.length_take, List.length_drop]
  omega
/-- the part's world, out of the whole one's -/
theorem zRep_part {Γ : zG} {n : Nat} {Z : Nat → Prop} {al : Bool} {g f : zH} {H : Heap} (hn : n ≤ g.1.length) (hZ : ∀ q, q < f.1.length → ¬ Z (Γ.2.2.1 + n + q)) (hal : al = true → g.1.length ≤ n ∧ ∀ q, ¬ Z q) (hr : zRep Γ al (zjn n g f) H) : zRep (zoff Γ n Z) al f H := by
  obtain ⟨h1, h2, h3, h4⟩ := hr
  rw [zjn_len hn] at h2
  refine ⟨fun k x hx => ?_, ?_, fun ha => ⟨?_, (hal ha).2⟩, fun q hq => hZ q hq⟩
  · simp only [zws, List.getElem?_mapIdx] at hx
    cases hs : f.1[k]? with
    | none => rw [hs] at hx; cases hx
    | some s =>
      rw [hs] at hx
      cases hx
      have hk := (List.getElem?_eq_some_iff.mp hs).1
      have h9 := h1 (n + k) _ (zws_at (Γ := Γ) (h := zjn n g f) (by rw [zjn_sh2 hn hk]; exact hs))
      rw [zjn_in (Z := Z) hk] at h9
      have e : Γ.2.2.1 + (n + k) = Γ.2.2.1 + n + k := by omega
      rw [e] at h9
      exact h9
  · show Γ.2.2.1 + n + f.1.length ≤ H.size
    omega
  · have h5 := (h3 ha).1
    rw [zjn_len hn] at h5
    have h6 := (hal ha).1
    show H.size = Γ.2.2.1 + n + f.1.length
    omega
theorem zEv_part {Γ : zG} {n : Nat} {Z : Nat → Prop} {U : State} (hsz : Γ.2.2.1 + n ≤ U.heap.size) (hZ : ∀ q, Γ.2.2.2.2.2.2 q → Z q) (h : zEv Γ U) : zEv (zoff Γ n Z) U := by
  have hA : ∀ q, zA (zoff Γ n Z) q → zA Γ q := fun q hq => ⟨Nat.le_trans (Nat.le_add_right _ _) hq.1, fun h9 => hq.2 (hZ q h9)⟩
  obtain ⟨h1, h2, h3, h4, ⟨a0, a1, e0, e1, hs, hr⟩, h6, h7, ⟨b, e10, hX, hbA, hbl⟩, t1, t2, t3, t4, t5⟩ := h
  exact ⟨h1, h2, hsz, h4, ⟨a0, a1, e0, e1, hs.narrow hA, hr⟩, h6.narrow hA, h7.narrow hA, ⟨b, e10, hX, fun h9 => hbA (hA b h9), hbl⟩, t1, t2, t3.narrow hA, t4.narrow hA, t5⟩
/-- the whole world, out of the part's behind a call -/
theorem zRep_whole {Γ : zG} {n : Nat} {Z : Nat → Prop} {al : Bool} {g f f' : zH} {H H1 : Heap} (hn : n ≤ g.1.length) (hal : al = true → g.1.length ≤ n) (hlen : al = false → f'.1 = f.1) (hr : zRep Γ al (zjn n g f) H) (hr' : zRep (zoff Γ n Z) al f' H1)
    (hZ : ∀ q, n + f.1.length ≤ q → q < g.1.length → Z (Γ.2.2.1 + q)) (hk : ∀ q : Nat, q < H.size → ¬ zA (zoff Γ n Z) q → H1[q]? = H[q]?) (hz : H.size ≤ H1.size) (hZZ : ∀ q, Γ.2.2.2.2.2.2 q → Z q) : zRep Γ al (zjn n g f') H1 := by
  obtain ⟨h1, h2, h3, h4⟩ := hr
  obtain ⟨g1, g2, g3, g4⟩ := hr'
  have hln := zjn_len (g := g) (f := f) hn
  have hln' := zjn_len (g := g) (f := f') hn
  have hl2 : f'.1.length = f.1.length ∨ g.1.length ≤ n := by
    cases al with
    | false => rw [hlen rfl]; exact Or.inl rfl
    | true => exact Or.inr (hal rfl)
  refine ⟨fun k x hx => ?_, ?_, fun ha => ⟨?_, (h3 ha).2⟩, fun q hq => ?_⟩
  · simp only [zws, List.getElem?_mapIdx] at hx
    cases hs : (zjn n g f').1[k]? with
    | none => rw [hs] at hx; cases hx
    | some s =>
      rw [hs] at hx
      cases hx
      have hkl := (List.getElem?_eq_some_iff.mp hs).1
      show va_at Γ.1 classes (Γ.2.2.1 + k, zcell Γ (zjn n g f') k s) H1
      by_cases hin : n ≤ k ∧ k < n + f'.1.length
      · obtain ⟨q, rfl⟩ : ∃ q, k = n + q := ⟨k - n, by omega⟩
        have hq : q < f'.1.length := by omega
        rw [zjn_sh2 hn hq] at hs
        have h9 := g1 q _ (zws_at (Γ := zoff Γ n Z) hs)
        rw [zjn_in (Z := Z) hq]
        have e : Γ.2.2.1 + (n + q) = Γ.2.2.1 + n + q := by omega
        rw [e]
        exact h9
      · have ho : k < n ∨ n + f.1.length ≤ k := by
          rcases hl2 with h | h
          · omega
          · omega
        have hs' : (zjn n g f).1[k]? = some s := by
          rcases hl2 with h | h
          · by_cases hkn : k < n
            · rw [zjn_sh1 hn hkn] at hs ⊢; exact hs
            · have e1 : ∀ f9 : zH, f9.1.length = f.1.length → (zjn n g f9).1[k]? = g.1[k]? := by
                intro f9 h9
                show (g.1.take n ++ f9.1 ++ g.1.drop (n + f9.1.length))[k]? = _
                have hl : (g.1.take n ++ f9.1).length = n + f.1.length := by rw [List.length_append, List.length_take]; omega
                rw [List.getElem?_append_right (by omega), hl, h9, List.getElem?_drop]
                congr 1
                omega
              rw [e1 f' h] at hs
              rw [e1 f rfl]
              exact hs
          · have hkn : k < n := by omega
            rw [zjn_sh1 hn hkn] at hs ⊢; exact hs
        have h9 := h1 k _ (zws_at (Γ := Γ) hs')
        rw [zjn_out (f := f) (by rcases hl2 with h | h; exact Or.inl h; exact Or.inr (by omega)) ho]
        refine h9.kept (hk _ h9.lt ?_)
        intro hA
        rcases ho with h | h
        · have : Γ.2.2.1 + n ≤ Γ.2.2.1 + k := hA.1
          omega
        · have hkg : k < g.1.length := by
            have := (List.getElem?_eq_some_iff.mp hs').1
            omega
          exact hA.2 (hZ k h hkg)
  · have g2' : Γ.2.2.1 + n + f'.1.length ≤ H1.size := g2
    rw [hln']
    rw [hln] at h2
    rcases hl2 with h | h
    · omega
    · omega
  · have g3' : H1.size = Γ.2.2.1 + n + f'.1.length := (g3 ha).1
    have := hal ha
    rw [hln']
    omega
  · rw [hln'] at hq
    rw [hln] at h4
    by_cases hq2 : q < n + f.1.length + (g.1.length - (n + f.1.length))
    · exact h4 q hq2
    · intro h9
      have h10 := hZZ _ h9
      have e : Γ.2.2.1 + q = Γ.2.2.1 + n + (q - n) := by omega
      rw [e] at h10
      exact g4 (q - n) (by rcases hl2 with h | h <;> omega) h10
/-- a call that looks at a part of the world alone -/
theorem zembed {l : Launch} {Γ : zG} {n : Nat} {Z : Nat → Prop} {al : Bool} {d : Nat} {M : zHd} {args : List Value} {g f : zH} {K : Option Value → zH → Prop} (hn : n ≤ g.1.length) (hZf : ∀ q, q < f.1.length → ¬ Z (Γ.2.2.1 + n + q)) (hal : al = true → g.1.length ≤ n ∧ ∀ q, ¬ Z q)
    (hlen : al = false → ∀ r f', K r f' → f'.1 = f.1) (hZ : ∀ q, n + f.1.length ≤ q → q < g.1.length → Z (Γ.2.2.1 + q)) (hZZ : ∀ q, Γ.2.2.2.2.2.2 q → Z q) (hs : zSem l (zoff Γ n Z) al d M args f K) :
    zSem l Γ al d M (args.map (zsft n)) (zjn n g f) (fun r h' => ∃ r' f', r = r'.map (zsft n) ∧ K r' f' ∧ h' = zjn n g f') := by
  intro p e ha hc hcl s m args' below hf happ hP hK
  obtain ⟨hP1, hP2, hP3⟩ := hP
  have hsz : Γ.2.2.1 + n ≤ s.heap.size := by
    have := hP3.2.1
    rw [zjn_len hn] at this
    omega
  have hmap : (args.map (zsft n)).map (zcv Γ) = args.map (zcv (zoff Γ n Z)) := by
    rw [List.map_map]
    apply List.map_congr_left
    intro v _
    exact (zcv_off v).symm
  have hA : ∀ q, zA (zoff Γ n Z) q → zA Γ q := fun q hq => ⟨Nat.le_trans (Nat.le_add_right _ _) hq.1, fun h9 => hq.2 (hZZ q h9)⟩
  obtain ⟨k, o, h1, h2, h3, ⟨⟨⟨r, f', e1, e2, e3⟩, e4⟩, L, h5, h6⟩⟩ := hs p e ha hc hcl s m args' below hf happ ⟨by rw [hP1, hmap], zEv_part hsz hZZ hP2, zRep_part hn hZf hal hP3⟩ hK
  refine ⟨k, o, h1, h2, h3, ⟨⟨⟨r.map (zsft n), zjn n g f', ?_, ⟨r, f', rfl, e2, rfl⟩, ?_⟩, ?_⟩, L, h5, fun q hq => hA _ (h6 q hq)⟩⟩
  · rw [e1, Option.map_map]
    congr 1
    cases r with
    | none => rfl
    | some v => simp only [Option.map_some, Function.comp, zcv_off]
  · exact zRep_whole hn (fun h => (hal h).1) (fun h => hlen h r f' e2) hP3 e3 hZ e4.2 e4.1 hZZ
  · exact ⟨e4.1, fun q h7 h8 => e4.2 q h7 (fun h9 => h8 (hA q h9))⟩

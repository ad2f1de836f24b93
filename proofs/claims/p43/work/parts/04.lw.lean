/-! decode, by a window of three bytes -/
def zgd (b' b : ByteArray) (s : Nat) {α : Type} (r r' : Decoder α) : Prop := ∀ (p : Nat) (a : α) (p' : Nat), r b' p = .ok (a, p') → r' b (p + s) = .ok (a, p' + s)
theorem zex_bind {α β : Type} {r : Decoder α} {f : α → Decoder β} {b : ByteArray} {p : Nat} : (r >>= f) b p = Except.bind (r b p) (fun q => f q.1 b q.2) := rfl
theorem zex_ok {α β : Type} {r : Decoder α} {f : α → Decoder β} {b : ByteArray} {p p1 : Nat} {x : α} (h : r b p = .ok (x, p1)) : (r >>= f) b p = f x b p1 := by
  rw [zex_bind, h]
  rfl
theorem zgd_pure {b' b : ByteArray} {s : Nat} {α : Type} (a : α) : zgd b' b s (pure a) (pure a) := by
  intro p x p' h
  have h : (Except.ok (a, p) : Except DecodeError (α × Nat)) = .ok (x, p') := h
  cases h
  rfl
theorem zgd_bind {b' b : ByteArray} {s : Nat} {α β : Type} {r r' : Decoder α} {f f' : α → Decoder β} (hr : zgd b' b s r r') (hf : ∀ a, zgd b' b s (f a) (f' a)) : zgd b' b s (r >>= f) (r' >>= f') := by
  intro p a p' h
  rw [zex_bind] at h
  cases e : r b' p with
  | error x =>
    rw [e] at h
    cases h
  | ok q =>
    rw [e] at h
    obtain ⟨x, p1⟩ := q
    rw [zex_ok (hr p x p1 e)]
    exact hf x p1 a p' h
theorem zgd_map {b' b : ByteArray} {s : Nat} {α β : Type} {r r' : Decoder α} (f : α → β) (hr : zgd b' b s r r') : zgd b' b s (f <$> r) (f <$> r') := by
  have e : ∀ (r : Decoder α) (B : ByteArray) (q : Nat), (f <$> r) B q = Except.bind (r B q) (fun t => .ok (f t.1, t.2)) := fun _ _ _ => rfl
  intro p a p' h
  rw [e] at h ⊢
  cases e1 : r b' p with
  | error x =>
    rw [e1] at h
    cases h
  | ok q =>
    rw [e1] at h
    obtain ⟨x, p1⟩ := q
    rw [hr p x p1 e1]
    have h : (Except.ok (f x, p1) : Except DecodeError (β × Nat)) = .ok (a, p') := h
    cases h
    rfl
theorem zu1 (B : ByteArray) (q : Nat) : (Reader.u1 : Decoder Nat) B q = if h : q < B.size then .ok (B[q].toNat, q + 1) else .error (.truncated q) := by
  have e0 : (Reader.u1 : Decoder Nat) B q = (if h : q < B.size then (do set (q + 1); pure (B[q].toNat) : Decoder Nat) else throw (HasTruncated.truncated q)) B q := rfl
  rw [e0]
  by_cases hc : q < B.size
  · rw [dif_pos hc, dif_pos hc]
    rfl
  · rw [dif_neg hc, dif_neg hc]
    rfl
theorem zgd_u1 {b' b : ByteArray} {s : Nat} (hw : ∀ i (h : i < b'.size), ∃ h2 : i + s < b.size, b[i + s] = b'[i]) : zgd b' b s (Reader.u1 : Decoder Nat) Reader.u1 := by
  intro p a p' h
  rw [zu1] at h ⊢
  by_cases hc : p < b'.size
  · rw [dif_pos hc] at h
    obtain ⟨h2, e⟩ := hw p hc
    rw [dif_pos h2, e]
    cases h
    show Except.ok (_, p + s + 1) = Except.ok (_, p + 1 + s)
    rw [Nat.add_right_comm]
  · rw [dif_neg hc] at h
    cases h
theorem zgd_u2 {b' b : ByteArray} {s : Nat} (h1 : zgd b' b s (Reader.u1 : Decoder Nat) Reader.u1) : zgd b' b s (Reader.u2 : Decoder Nat) Reader.u2 := zgd_bind h1 (fun _ => zgd_bind h1 (fun _ => zgd_pure _))
theorem zgd_s1 {b' b : ByteArray} {s : Nat} (h1 : zgd b' b s (Reader.u1 : Decoder Nat) Reader.u1) : zgd b' b s (Reader.s1 : Decoder Int) Reader.s1 := zgd_map _ h1
theorem zgd_s2 {b' b : ByteArray} {s : Nat} (h1 : zgd b' b s (Reader.u1 : Decoder Nat) Reader.u1) : zgd b' b s (Reader.s2 : Decoder Int) Reader.s2 := zgd_map _ (zgd_u2 h1)
def zOp (op : Nat) : Prop := ∀ {b' b : ByteArray} {s pc pc' : Nat}, zgd b' b s (Reader.u1 : Decoder Nat) Reader.u1 → (Reader.u1 : Decoder Nat) b' 0 = .ok (op, 1) → ∀ (I : Instr) (n : Nat), Decoder.instr pc b' 0 = .ok (I, n) → Decoder.instr pc' b s = .ok (I, n + s)
theorem zop_of {op : Nat} {K : Nat → Decoder Instr} (hK : ∀ (pc : Nat) (B : ByteArray) (p p1 : Nat), (Reader.u1 : Decoder Nat) B p = .ok (op, p1) → Decoder.instr pc B p = K pc B p1) (hg : ∀ {b' b : ByteArray} {s : Nat} (pc pc' : Nat), zgd b' b s (Reader.u1 : Decoder Nat) Reader.u1 → zgd b' b s (K pc) (K pc')) : zOp op := by
  intro b' b s pc pc' h1 h0 I n h
  rw [hK pc b' 0 1 h0] at h
  have h2 : (Reader.u1 : Decoder Nat) b s = .ok (op, 1 + s) := by
    have h3 := h1 0 op 1 h0
    rw [Nat.zero_add] at h3
    exact h3
  rw [hK pc' b s (1 + s) h2]
  exact hg pc pc' h1 1 I n h
theorem zop_2 : zOp 2 := by
  refine zop_of (op := 2) (fun _ _ _ _ h => zex_ok (x := 2) h) ?_
  intro b9 c9 s9 p9 q9 h1
  exact zgd_pure _
theorem zop_3 : zOp 3 := by
  refine zop_of (op := 3) (fun _ _ _ _ h => zex_ok (x := 3) h) ?_
  intro b9 c9 s9 p9 q9 h1
  exact zgd_pure _
theorem zop_4 : zOp 4 := by
  refine zop_of (op := 4) (fun _ _ _ _ h => zex_ok (x := 4) h) ?_
  intro b9 c9 s9 p9 q9 h1
  exact zgd_pure _
theorem zop_5 : zOp 5 := by
  refine zop_of (op := 5) (fun _ _ _ _ h => zex_ok (x := 5) h) ?_
  intro b9 c9 s9 p9 q9 h1
  exact zgd_pure _
theorem zop_6 : zOp 6 := by
  refine zop_of (op := 6) (fun _ _ _ _ h => zex_ok (x := 6) h) ?_
  intro b9 c9 s9 p9 q9 h1
  exact zgd_pure _
theorem zop_7 : zOp 7 := by
  refine zop_of (op := 7) (fun _ _ _ _ h => zex_ok (x := 7) h) ?_
  intro b9 c9 s9 p9 q9 h1
  exact zgd_pure _
theorem zop_8 : zOp 8 := by
  refine zop_of (op := 8) (fun _ _ _ _ h => zex_ok (x := 8) h) ?_
  intro b9 c9 s9 p9 q9 h1
  exact zgd_pure _
theorem zop_9 : zOp 9 := by
  refine zop_of (op := 9) (fun _ _ _ _ h => zex_ok (x := 9) h) ?_
  intro b9 c9 s9 p9 q9 h1
  exact zgd_pure _
theorem zop_10 : zOp 10 := by
  refine zop_of (op := 10) (fun _ _ _ _ h => zex_ok (x := 10) h) ?_
  intro b9 c9 s9 p9 q9 h1
  exact zgd_pure _
theorem zop_16 : zOp 16 := by
  refine zop_of (op := 16) (fun _ _ _ _ h => zex_ok (x := 16) h) ?_
  intro b9 c9 s9 p9 q9 h1
  exact zgd_bind (zgd_s1 h1) (fun _ => zgd_pure _)
theorem zop_17 : zOp 17 := by
  refine zop_of (op := 17) (fun _ _ _ _ h => zex_ok (x := 17) h) ?_
  intro b9 c9 s9 p9 q9 h1
  exact zgd_bind (zgd_s2 h1) (fun _ => zgd_pure _)
theorem zop_18 : zOp 18 := by
  refine zop_of (op := 18) (fun _ _ _ _ h => zex_ok (x := 18) h) ?_
  intro b9 c9 s9 p9 q9 h1
  exact zgd_bind h1 (fun _ => zgd_pure _)
theorem zop_19 : zOp 19 := by
  refine zop_of (op := 19) (fun _ _ _ _ h => zex_ok (x := 19) h) ?_
  intro b9 c9 s9 p9 q9 h1
  exact zgd_bind (zgd_u2 h1) (fun _ => zgd_pure _)
theorem zop_20 : zOp 20 := by
  refine zop_of (op := 20) (fun _ _ _ _ h => zex_ok (x := 20) h) ?_
  intro b9 c9 s9 p9 q9 h1
  exact zgd_bind (zgd_u2 h1) (fun _ => zgd_pure _)
theorem zop_21 : zOp 21 := by
  refine zop_of (op := 21) (fun _ _ _ _ h => zex_ok (x := 21) h) ?_
  intro b9 c9 s9 p9 q9 h1
  exact zgd_bind h1 (fun _ => zgd_pure _)
theorem zop_22 : zOp 22 := by
  refine zop_of (op := 22) (fun _ _ _ _ h => zex_ok (x := 22) h) ?_
  intro b9 c9 s9 p9 q9 h1
  exact zgd_bind h1 (fun _ => zgd_pure _)
theorem zop_25 : zOp 25 := by
  refine zop_of (op := 25) (fun _ _ _ _ h => zex_ok (x := 25) h) ?_
  intro b9 c9 s9 p9 q9 h1
  exact zgd_bind h1 (fun _ => zgd_pure _)
theorem zop_26 : zOp 26 := by
  refine zop_of (op := 26) (fun _ _ _ _ h => zex_ok (x := 26) h) ?_
  intro b9 c9 s9 p9 q9 h1
  exact zgd_pure _
theorem zop_27 : zOp 27 := by
  refine zop_of (op := 27) (fun _ _ _ _ h => zex_ok (x := 27) h) ?_
  intro b9 c9 s9 p9 q9 h1
  exact zgd_pure _
theorem zop_28 : zOp 28 := by
  refine zop_of (op := 28) (fun _ _ _ _ h => zex_ok (x := 28) h) ?_
  intro b9 c9 s9 p9 q9 h1
  exact zgd_pure _
theorem zop_29 : zOp 29 := by
  refine zop_of (op := 29) (fun _ _ _ _ h => zex_ok (x := 29) h) ?_
  intro b9 c9 s9 p9 q9 h1
  exact zgd_pure _
theorem zop_30 : zOp 30 := by
  refine zop_of (op := 30) (fun _ _ _ _ h => zex_ok (x := 30) h) ?_
  intro b9 c9 s9 p9 q9 h1
  exact zgd_pure _
theorem zop_31 : zOp 31 := by
  refine zop_of (op := 31) (fun _ _ _ _ h => zex_ok (x := 31) h) ?_
  intro b9 c9 s9 p9 q9 h1
  exact zgd_pure _
theorem zop_32 : zOp 32 := by
  refine zop_of (op := 32) (fun _ _ _ _ h => zex_ok (x := 32) h) ?_
  intro b9 c9 s9 p9 q9 h1
  exact zgd_pure _
theorem zop_33 : zOp 33 := by
  refine zop_of (op := 33) (fun _ _ _ _ h => zex_ok (x := 33) h) ?_
  intro b9 c9 s9 p9 q9 h1
  exact zgd_pure _
theorem zop_42 : zOp 42 := by
  refine zop_of (op := 42) (fun _ _ _ _ h => zex_ok (x := 42) h) ?_
  intro b9 c9 s9 p9 q9 h1
  exact zgd_pure _
theorem zop_43 : zOp 43 := by
  refine zop_of (op := 43) (fun _ _ _ _ h => zex_ok (x := 43) h) ?_
  intro b9 c9 s9 p9 q9 h1
  exact zgd_pure _
theorem zop_44 : zOp 44 := by
  refine zop_of (op := 44) (fun _ _ _ _ h => zex_ok (x := 44) h) ?_
  intro b9 c9 s9 p9 q9 h1
  exact zgd_pure _
theorem zop_45 : zOp 45 := by
  refine zop_of (op := 45) (fun _ _ _ _ h => zex_ok (x := 45) h) ?_
  intro b9 c9 s9 p9 q9 h1
  exact zgd_pure _
theorem zop_46 : zOp 46 := by
  refine zop_of (op := 46) (fun _ _ _ _ h => zex_ok (x := 46) h) ?_
  intro b9 c9 s9 p9 q9 h1
  exact zgd_pure _
theorem zop_47 : zOp 47 := by
  refine zop_of (op := 47) (fun _ _ _ _ h => zex_ok (x := 47) h) ?_
  intro b9 c9 s9 p9 q9 h1
  exact zgd_pure _
theorem zop_51 : zOp 51 := by
  refine zop_of (op := 51) (fun _ _ _ _ h => zex_ok (x := 51) h) ?_
  intro b9 c9 s9 p9 q9 h1
  exact zgd_pure _
theorem zop_54 : zOp 54 := by
  refine zop_of (op := 54) (fun _ _ _ _ h => zex_ok (x := 54) h) ?_
  intro b9 c9 s9 p9 q9 h1
  exact zgd_bind h1 (fun _ => zgd_pure _)
theorem zop_55 : zOp 55 := by
  refine zop_of (op := 55) (fun _ _ _ _ h => zex_ok (x := 55) h) ?_
  intro b9 c9 s9 p9 q9 h1
  exact zgd_bind h1 (fun _ => zgd_pure _)
theorem zop_58 : zOp 58 := by
  refine zop_of (op := 58) (fun _ _ _ _ h => zex_ok (x := 58) h) ?_
  intro b9 c9 s9 p9 q9 h1
  exact zgd_bind h1 (fun _ => zgd_pure _)
theorem zop_59 : zOp 59 := by
  refine zop_of (op := 59) (fun _ _ _ _ h => zex_ok (x := 59) h) ?_
  intro b9 c9 s9 p9 q9 h1
  exact zgd_pure _
theorem zop_60 : zOp 60 := by
  refine zop_of (op := 60) (fun _ _ _ _ h => zex_ok (x := 60) h) ?_
  intro b9 c9 s9 p9 q9 h1
  exact zgd_pure _
theorem zop_61 : zOp 61 := by
  refine zop_of (op := 61) (fun _ _ _ _ h => zex_ok (x := 61) h) ?_
  intro b9 c9 s9 p9 q9 h1
  exact zgd_pure _
theorem zop_62 : zOp 62 := by
  refine zop_of (op := 62) (fun _ _ _ _ h => zex_ok (x := 62) h) ?_
  intro b9 c9 s9 p9 q9 h1
  exact zgd_pure _
theorem zop_65 : zOp 65 := by
  refine zop_of (op := 65) (fun _ _ _ _ h => zex_ok (x := 65) h) ?_
  intro b9 c9 s9 p9 q9 h1
  exact zgd_pure _
theorem zop_66 : zOp 66 := by
  refine zop_of (op := 66) (fun _ _ _ _ h => zex_ok (x := 66) h) ?_
  intro b9 c9 s9 p9 q9 h1
  exact zgd_pure _
theorem zop_76 : zOp 76 := by
  refine zop_of (op := 76) (fun _ _ _ _ h => zex_ok (x := 76) h) ?_
  intro b9 c9 s9 p9 q9 h1
  exact zgd_pure _
theorem zop_77 : zOp 77 := by
  refine zop_of (op := 77) (fun _ _ _ _ h => zex_ok (x := 77) h) ?_
  intro b9 c9 s9 p9 q9 h1
  exact zgd_pure _
theorem zop_78 : zOp 78 := by
  refine zop_of (op := 78) (fun _ _ _ _ h => zex_ok (x := 78) h) ?_
  intro b9 c9 s9 p9 q9 h1
  exact zgd_pure _
theorem zop_79 : zOp 79 := by
  refine zop_of (op := 79) (fun _ _ _ _ h => zex_ok (x := 79) h) ?_
  intro b9 c9 s9 p9 q9 h1
  exact zgd_pure _
theorem zop_80 : zOp 80 := by
  refine zop_of (op := 80) (fun _ _ _ _ h => zex_ok (x := 80) h) ?_
  intro b9 c9 s9 p9 q9 h1
  exact zgd_pure _
theorem zop_84 : zOp 84 := by
  refine zop_of (op := 84) (fun _ _ _ _ h => zex_ok (x := 84) h) ?_
  intro b9 c9 s9 p9 q9 h1
  exact zgd_pure _
theorem zop_87 : zOp 87 := by
  refine zop_of (op := 87) (fun _ _ _ _ h => zex_ok (x := 87) h) ?_
  intro b9 c9 s9 p9 q9 h1
  exact zgd_pure _
theorem zop_88 : zOp 88 := by
  refine zop_of (op := 88) (fun _ _ _ _ h => zex_ok (x := 88) h) ?_
  intro b9 c9 s9 p9 q9 h1
  exact zgd_pure _
theorem zop_89 : zOp 89 := by
  refine zop_of (op := 89) (fun _ _ _ _ h => zex_ok (x := 89) h) ?_
  intro b9 c9 s9 p9 q9 h1
  exact zgd_pure _
theorem zop_92 : zOp 92 := by
  refine zop_of (op := 92) (fun _ _ _ _ h => zex_ok (x := 92) h) ?_
  intro b9 c9 s9 p9 q9 h1
  exact zgd_pure _
theorem zop_96 : zOp 96 := by
  refine zop_of (op := 96) (fun _ _ _ _ h => zex_ok (x := 96) h) ?_
  intro b9 c9 s9 p9 q9 h1
  exact zgd_pure _
theorem zop_97 : zOp 97 := by
  refine zop_of (op := 97) (fun _ _ _ _ h => zex_ok (x := 97) h) ?_
  intro b9 c9 s9 p9 q9 h1
  exact zgd_pure _
theorem zop_100 : zOp 100 := by
  refine zop_of (op := 100) (fun _ _ _ _ h => zex_ok (x := 100) h) ?_
  intro b9 c9 s9 p9 q9 h1
  exact zgd_pure _
theorem zop_101 : zOp 101 := by
  refine zop_of (op := 101) (fun _ _ _ _ h => zex_ok (x := 101) h) ?_
  intro b9 c9 s9 p9 q9 h1
  exact zgd_pure _
theorem zop_104 : zOp 104 := by
  refine zop_of (op := 104) (fun _ _ _ _ h => zex_ok (x := 104) h) ?_
  intro b9 c9 s9 p9 q9 h1
  exact zgd_pure _
theorem zop_105 : zOp 105 := by
  refine zop_of (op := 105) (fun _ _ _ _ h => zex_ok (x := 105) h) ?_
  intro b9 c9 s9 p9 q9 h1
  exact zgd_pure _
theorem zop_108 : zOp 108 := by
  refine zop_of (op := 108) (fun _ _ _ _ h => zex_ok (x := 108) h) ?_
  intro b9 c9 s9 p9 q9 h1
  exact zgd_pure _
theorem zop_109 : zOp 109 := by
  refine zop_of (op := 109) (fun _ _ _ _ h => zex_ok (x := 109) h) ?_
  intro b9 c9 s9 p9 q9 h1
  exact zgd_pure _
theorem zop_112 : zOp 112 := by
  refine zop_of (op := 112) (fun _ _ _ _ h => zex_ok (x := 112) h) ?_
  intro b9 c9 s9 p9 q9 h1
  exact zgd_pure _
theorem zop_113 : zOp 113 := by
  refine zop_of (op := 113) (fun _ _ _ _ h => zex_ok (x := 113) h) ?_
  intro b9 c9 s9 p9 q9 h1
  exact zgd_pure _
theorem zop_116 : zOp 116 := by
  refine zop_of (op := 116) (fun _ _ _ _ h => zex_ok (x := 116) h) ?_
  intro b9 c9 s9 p9 q9 h1
  exact zgd_pure _
theorem zop_117 : zOp 117 := by
  refine zop_of (op := 117) (fun _ _ _ _ h => zex_ok (x := 117) h) ?_
  intro b9 c9 s9 p9 q9 h1
  exact zgd_pure _
theorem zop_120 : zOp 120 := by
  refine zop_of (op := 120) (fun _ _ _ _ h => zex_ok (x := 120) h) ?_
  intro b9 c9 s9 p9 q9 h1
  exact zgd_pure _
theorem zop_122 : zOp 122 := by
  refine zop_of (op := 122) (fun _ _ _ _ h => zex_ok (x := 122) h) ?_
  intro b9 c9 s9 p9 q9 h1
  exact zgd_pure _
theorem zop_124 : zOp 124 := by
  refine zop_of (op := 124) (fun _ _ _ _ h => zex_ok (x := 124) h) ?_
  intro b9 c9 s9 p9 q9 h1
  exact zgd_pure _
theorem zop_126 : zOp 126 := by
  refine zop_of (op := 126) (fun _ _ _ _ h => zex_ok (x := 126) h) ?_
  intro b9 c9 s9 p9 q9 h1
  exact zgd_pure _
theorem zop_127 : zOp 127 := by
  refine zop_of (op := 127) (fun _ _ _ _ h => zex_ok (x := 127) h) ?_
  intro b9 c9 s9 p9 q9 h1
  exact zgd_pure _
theorem zop_128 : zOp 128 := by
  refine zop_of (op := 128) (fun _ _ _ _ h => zex_ok (x := 128) h) ?_
  intro b9 c9 s9 p9 q9 h1
  exact zgd_pure _
theorem zop_130 : zOp 130 := by
  refine zop_of (op := 130) (fun _ _ _ _ h => zex_ok (x := 130) h) ?_
  intro b9 c9 s9 p9 q9 h1
  exact zgd_pure _
theorem zop_132 : zOp 132 := by
  refine zop_of (op := 132) (fun _ _ _ _ h => zex_ok (x := 132) h) ?_
  intro b9 c9 s9 p9 q9 h1
  exact zgd_bind h1 (fun _ => zgd_bind (zgd_s1 h1) (fun _ => zgd_pure _))
theorem zop_133 : zOp 133 := by
  refine zop_of (op := 133) (fun _ _ _ _ h => zex_ok (x := 133) h) ?_
  intro b9 c9 s9 p9 q9 h1
  exact zgd_pure _
theorem zop_136 : zOp 136 := by
  refine zop_of (op := 136) (fun _ _ _ _ h => zex_ok (x := 136) h) ?_
  intro b9 c9 s9 p9 q9 h1
  exact zgd_pure _
theorem zop_145 : zOp 145 := by
  refine zop_of (op := 145) (fun _ _ _ _ h => zex_ok (x := 145) h) ?_
  intro b9 c9 s9 p9 q9 h1
  exact zgd_pure _
theorem zop_146 : zOp 146 := by
  refine zop_of (op := 146) (fun _ _ _ _ h => zex_ok (x := 146) h) ?_
  intro b9 c9 s9 p9 q9 h1
  exact zgd_pure _
theorem zop_148 : zOp 148 := by
  refine zop_of (op := 148) (fun _ _ _ _ h => zex_ok (x := 148) h) ?_
  intro b9 c9 s9 p9 q9 h1
  exact zgd_pure _
theorem zop_153 : zOp 153 := by
  refine zop_of (op := 153) (fun _ _ _ _ h => zex_ok (x := 153) h) ?_
  intro b9 c9 s9 p9 q9 h1
  exact zgd_bind (zgd_s2 h1) (fun _ => zgd_pure _)
theorem zop_154 : zOp 154 := by
  refine zop_of (op := 154) (fun _ _ _ _ h => zex_ok (x := 154) h) ?_
  intro b9 c9 s9 p9 q9 h1
  exact zgd_bind (zgd_s2 h1) (fun _ => zgd_pure _)
theorem zop_155 : zOp 155 := by
  refine zop_of (op := 155) (fun _ _ _ _ h => zex_ok (x := 155) h) ?_
  intro b9 c9 s9 p9 q9 h1
  exact zgd_bind (zgd_s2 h1) (fun _ => zgd_pure _)
theorem zop_156 : zOp 156 := by
  refine zop_of (op := 156) (fun _ _ _ _ h => zex_ok (x := 156) h) ?_
  intro b9 c9 s9 p9 q9 h1
  exact zgd_bind (zgd_s2 h1) (fun _ => zgd_pure _)
theorem zop_157 : zOp 157 := by
  refine zop_of (op := 157) (fun _ _ _ _ h => zex_ok (x := 157) h) ?_
  intro b9 c9 s9 p9 q9 h1
  exact zgd_bind (zgd_s2 h1) (fun _ => zgd_pure _)
theorem zop_158 : zOp 158 := by
  refine zop_of (op := 158) (fun _ _ _ _ h => zex_ok (x := 158) h) ?_
  intro b9 c9 s9 p9 q9 h1
  exact zgd_bind (zgd_s2 h1) (fun _ => zgd_pure _)
theorem zop_159 : zOp 159 := by
  refine zop_of (op := 159) (fun _ _ _ _ h => zex_ok (x := 159) h) ?_
  intro b9 c9 s9 p9 q9 h1
  exact zgd_bind (zgd_s2 h1) (fun _ => zgd_pure _)
theorem zop_160 : zOp 160 := by
  refine zop_of (op := 160) (fun _ _ _ _ h => zex_ok (x := 160) h) ?_
  intro b9 c9 s9 p9 q9 h1
  exact zgd_bind (zgd_s2 h1) (fun _ => zgd_pure _)
theorem zop_161 : zOp 161 := by
  refine zop_of (op := 161) (fun _ _ _ _ h => zex_ok (x := 161) h) ?_
  intro b9 c9 s9 p9 q9 h1
  exact zgd_bind (zgd_s2 h1) (fun _ => zgd_pure _)
theorem zop_162 : zOp 162 := by
  refine zop_of (op := 162) (fun _ _ _ _ h => zex_ok (x := 162) h) ?_
  intro b9 c9 s9 p9 q9 h1
  exact zgd_bind (zgd_s2 h1) (fun _ => zgd_pure _)
theorem zop_163 : zOp 163 := by
  refine zop_of (op := 163) (fun _ _ _ _ h => zex_ok (x := 163) h) ?_
  intro b9 c9 s9 p9 q9 h1
  exact zgd_bind (zgd_s2 h1) (fun _ => zgd_pure _)
theorem zop_164 : zOp 164 := by
  refine zop_of (op := 164) (fun _ _ _ _ h => zex_ok (x := 164) h) ?_
  intro b9 c9 s9 p9 q9 h1
  exact zgd_bind (zgd_s2 h1) (fun _ => zgd_pure _)
theorem zop_167 : zOp 167 := by
  refine zop_of (op := 167) (fun _ _ _ _ h => zex_ok (x := 167) h) ?_
  intro b9 c9 s9 p9 q9 h1
  exact zgd_bind (zgd_s2 h1) (fun _ => zgd_pure _)
theorem zop_169 : zOp 169 := by
  refine zop_of (op := 169) (fun _ _ _ _ h => zex_ok (x := 169) h) ?_
  intro b9 c9 s9 p9 q9 h1
  exact zgd_bind h1 (fun _ => zgd_pure _)
theorem zop_172 : zOp 172 := by
  refine zop_of (op := 172) (fun _ _ _ _ h => zex_ok (x := 172) h) ?_
  intro b9 c9 s9 p9 q9 h1
  exact zgd_pure _
theorem zop_173 : zOp 173 := by
  refine zop_of (op := 173) (fun _ _ _ _ h => zex_ok (x := 173) h) ?_
  intro b9 c9 s9 p9 q9 h1
  exact zgd_pure _
theorem zop_177 : zOp 177 := by
  refine zop_of (op := 177) (fun _ _ _ _ h => zex_ok (x := 177) h) ?_
  intro b9 c9 s9 p9 q9 h1
  exact zgd_pure _
theorem zop_178 : zOp 178 := by
  refine zop_of (op := 178) (fun _ _ _ _ h => zex_ok (x := 178) h) ?_
  intro b9 c9 s9 p9 q9 h1
  exact zgd_bind (zgd_u2 h1) (fun _ => zgd_pure _)
theorem zop_180 : zOp 180 := by
  refine zop_of (op := 180) (fun _ _ _ _ h => zex_ok (x := 180) h) ?_
  intro b9 c9 s9 p9 q9 h1
  exact zgd_bind (zgd_u2 h1) (fun _ => zgd_pure _)
theorem zop_181 : zOp 181 := by
  refine zop_of (op := 181) (fun _ _ _ _ h => zex_ok (x := 181) h) ?_
  intro b9 c9 s9 p9 q9 h1
  exact zgd_bind (zgd_u2 h1) (fun _ => zgd_pure _)
theorem zop_182 : zOp 182 := by
  refine zop_of (op := 182) (fun _ _ _ _ h => zex_ok (x := 182) h) ?_
  intro b9 c9 s9 p9 q9 h1
  exact zgd_bind (zgd_u2 h1) (fun _ => zgd_pure _)
theorem zop_183 : zOp 183 := by
  refine zop_of (op := 183) (fun _ _ _ _ h => zex_ok (x := 183) h) ?_
  intro b9 c9 s9 p9 q9 h1
  exact zgd_bind (zgd_u2 h1) (fun _ => zgd_pure _)
theorem zop_184 : zOp 184 := by
  refine zop_of (op := 184) (fun _ _ _ _ h => zex_ok (x := 184) h) ?_
  intro b9 c9 s9 p9 q9 h1
  exact zgd_bind (zgd_u2 h1) (fun _ => zgd_pure _)
theorem zop_187 : zOp 187 := by
  refine zop_of (op := 187) (fun _ _ _ _ h => zex_ok (x := 187) h) ?_
  intro b9 c9 s9 p9 q9 h1
  exact zgd_bind (zgd_u2 h1) (fun _ => zgd_pure _)
theorem zop_190 : zOp 190 := by
  refine zop_of (op := 190) (fun _ _ _ _ h => zex_ok (x := 190) h) ?_
  intro b9 c9 s9 p9 q9 h1
  exact zgd_pure _
theorem zop_191 : zOp 191 := by
  refine zop_of (op := 191) (fun _ _ _ _ h => zex_ok (x := 191) h) ?_
  intro b9 c9 s9 p9 q9 h1
  exact zgd_pure _
def zops : List Nat := [2, 3, 4, 5, 6, 7, 8, 9, 10, 16, 17, 18, 19, 20, 21, 22, 25, 26, 27, 28, 29, 30, 31, 32, 33, 42, 43, 44, 45, 46, 47, 51, 54, 55, 58, 59, 60, 61, 62, 65, 66, 76, 77, 78, 79, 80, 84, 87, 88, 89, 92, 96, 97, 100, 101, 104, 105, 108, 109, 112, 113, 116, 117, 120, 122, 124, 126, 127, 128, 130, 132, 133, 136, 145, 146, 148, 153, 154, 155, 156, 157, 158, 159, 160, 161, 162, 163, 164, 167, 169, 172, 173, 177, 178, 180, 181, 182, 183, 184, 187, 190, 191]
theorem zops_ok : ∀ op ∈ zops, zOp op := List.forall_mem_cons.mpr ⟨zop_2, List.forall_mem_cons.mpr ⟨zop_3, List.forall_mem_cons.mpr ⟨zop_4, List.forall_mem_cons.mpr ⟨zop_5, List.forall_mem_cons.mpr ⟨zop_6, List.forall_mem_cons.mpr ⟨zop_7, List.forall_mem_cons.mpr ⟨zop_8, List.forall_mem_cons.mpr ⟨zop_9, List.forall_mem_cons.mpr ⟨zop_10, List.forall_mem_cons.mpr ⟨zop_16, List.forall_mem_cons.mpr ⟨zop_17, List.forall_mem_cons.mpr ⟨zop_18, List.forall_mem_cons.mpr ⟨zop_19, List.forall_mem_cons.mpr ⟨zop_20, List.forall_mem_cons.mpr ⟨zop_21, List.forall_mem_cons.mpr ⟨zop_22, List.forall_mem_cons.mpr ⟨zop_25, List.forall_mem_cons.mpr ⟨zop_26, List.forall_mem_cons.mpr ⟨zop_27, List.forall_mem_cons.mpr ⟨zop_28, List.forall_mem_cons.mpr ⟨zop_29, List.forall_mem_cons.mpr ⟨zop_30, List.forall_mem_cons.mpr ⟨zop_31, List.forall_mem_cons.mpr ⟨zop_32, List.forall_mem_cons.mpr ⟨zop_33, List.forall_mem_cons.mpr ⟨zop_42, List.forall_mem_cons.mpr ⟨zop_43, List.forall_mem_cons.mpr ⟨zop_44, List.forall_mem_cons.mpr ⟨zop_45, List.forall_mem_cons.mpr ⟨zop_46, List.forall_mem_cons.mpr ⟨zop_47, List.forall_mem_cons.mpr ⟨zop_51, List.forall_mem_cons.mpr ⟨zop_54, List.forall_mem_cons.mpr ⟨zop_55, List.forall_mem_cons.mpr ⟨zop_58, List.forall_mem_cons.mpr ⟨zop_59, List.forall_mem_cons.mpr ⟨zop_60, List.forall_mem_cons.mpr ⟨zop_61, List.forall_mem_cons.mpr ⟨zop_62, List.forall_mem_cons.mpr ⟨zop_65, List.forall_mem_cons.mpr ⟨zop_66, List.forall_mem_cons.mpr ⟨zop_76, List.forall_mem_cons.mpr ⟨zop_77, List.forall_mem_cons.mpr ⟨zop_78, List.forall_mem_cons.mpr ⟨zop_79, List.forall_mem_cons.mpr ⟨zop_80, List.forall_mem_cons.mpr ⟨zop_84, List.forall_mem_cons.mpr ⟨zop_87, List.forall_mem_cons.mpr ⟨zop_88, List.forall_mem_cons.mpr ⟨zop_89, List.forall_mem_cons.mpr ⟨zop_92, List.forall_mem_cons.mpr ⟨zop_96, List.forall_mem_cons.mpr ⟨zop_97, List.forall_mem_cons.mpr ⟨zop_100, List.forall_mem_cons.mpr ⟨zop_101, List.forall_mem_cons.mpr ⟨zop_104, List.forall_mem_cons.mpr ⟨zop_105, List.forall_mem_cons.mpr ⟨zop_108, List.forall_mem_cons.mpr ⟨zop_109, List.forall_mem_cons.mpr ⟨zop_112, List.forall_mem_cons.mpr ⟨zop_113, List.forall_mem_cons.mpr ⟨zop_116, List.forall_mem_cons.mpr ⟨zop_117, List.forall_mem_cons.mpr ⟨zop_120, List.forall_mem_cons.mpr ⟨zop_122, List.forall_mem_cons.mpr ⟨zop_124, List.forall_mem_cons.mpr ⟨zop_126, List.forall_mem_cons.mpr ⟨zop_127, List.forall_mem_cons.mpr ⟨zop_128, List.forall_mem_cons.mpr ⟨zop_130, List.forall_mem_cons.mpr ⟨zop_132, List.forall_mem_cons.mpr ⟨zop_133, List.forall_mem_cons.mpr ⟨zop_136, List.forall_mem_cons.mpr ⟨zop_145, List.forall_mem_cons.mpr ⟨zop_146, List.forall_mem_cons.mpr ⟨zop_148, List.forall_mem_cons.mpr ⟨zop_153, List.forall_mem_cons.mpr ⟨zop_154, List.forall_mem_cons.mpr ⟨zop_155, List.forall_mem_cons.mpr ⟨zop_156, List.forall_mem_cons.mpr ⟨zop_157, List.forall_mem_cons.mpr ⟨zop_158, List.forall_mem_cons.mpr ⟨zop_159, List.forall_mem_cons.mpr ⟨zop_160, List.forall_mem_cons.mpr ⟨zop_161, List.forall_mem_cons.mpr ⟨zop_162, List.forall_mem_cons.mpr ⟨zop_163, List.forall_mem_cons.mpr ⟨zop_164, List.forall_mem_cons.mpr ⟨zop_167, List.forall_mem_cons.mpr ⟨zop_169, List.forall_mem_cons.mpr ⟨zop_172, List.forall_mem_cons.mpr ⟨zop_173, List.forall_mem_cons.mpr ⟨zop_177, List.forall_mem_cons.mpr ⟨zop_178, List.forall_mem_cons.mpr ⟨zop_180, List.forall_mem_cons.mpr ⟨zop_181, List.forall_mem_cons.mpr ⟨zop_182, List.forall_mem_cons.mpr ⟨zop_183, List.forall_mem_cons.mpr ⟨zop_184, List.forall_mem_cons.mpr ⟨zop_187, List.forall_mem_cons.mpr ⟨zop_190, List.forall_mem_cons.mpr ⟨zop_191, (fun _ h => nomatch h)⟩⟩⟩⟩⟩⟩⟩⟩⟩⟩⟩⟩⟩⟩⟩⟩⟩⟩⟩⟩⟩⟩⟩⟩⟩⟩⟩⟩⟩⟩⟩⟩⟩⟩⟩⟩⟩⟩⟩⟩⟩⟩⟩⟩⟩⟩⟩⟩⟩⟩⟩⟩⟩⟩⟩⟩⟩⟩⟩⟩⟩⟩⟩⟩⟩⟩⟩⟩⟩⟩⟩⟩⟩⟩⟩⟩⟩⟩⟩⟩⟩⟩⟩⟩⟩⟩⟩⟩⟩⟩⟩⟩⟩⟩⟩⟩⟩⟩⟩⟩⟩⟩
def zsup (n : Nat) : Bool := Nat.beq (Nat.mod (Nat.shiftRight 4952086719415804158462886326535450123991410413286643927036 n) 2) 1
theorem zsup_all : (List.range 256).all (fun n => !zsup n || zops.contains n) = true := by decide +kernel
theorem zsup_ok {n : Nat} (hn : n < 256) (h : zsup n = true) : n ∈ zops := by
  have h1 := List.all_eq_true.mp zsup_all n (List.mem_range.mpr hn)
  rw [h] at h1
  exact List.contains_iff_mem.mp h1
theorem zdecW {b : ByteArray} {pc : Nat} {w : List UInt8} {I : Instr} {n op : Nat} (hop : op ∈ zops) (h0 : (Reader.u1 : Decoder Nat) ⟨⟨w⟩⟩ 0 = .ok (op, 1)) (hw : ∀ i (h : i < w.length), ∃ h2 : i + pc < b.size, b[i + pc] = w[i]) (h : decode ⟨⟨w⟩⟩ 0 = .ok (I, n)) : decode b pc = .ok (I, n) := by
  have e : ∀ (B : ByteArray) (q : Nat), decode B q = Except.bind (Decoder.instr q B q) (fun t => .ok (t.1, t.2 - q)) := fun _ _ => rfl
  rw [e] at h ⊢
  cases hi : Decoder.instr 0 ⟨⟨w⟩⟩ 0 with
  | error x =>
    rw [hi] at h
    cases h
  | ok t =>
    rw [hi] at h
    obtain ⟨I', n'⟩ := t
    have h : (Except.ok (I', n' - 0) : Except DecodeError (Instr × Nat)) = .ok (I, n) := h
    have h1 : I' = I := by
      injection h with h
      exact congrArg Prod.fst h
    have h2 : n' - 0 = n := by
      injection h with h
      exact congrArg Prod.snd h
    rw [zops_ok op hop (pc := 0) (pc' := pc) (zgd_u1 (b' := ⟨⟨w⟩⟩) (fun i hi => hw i hi)) h0 I' n' hi]
    show Except.ok (I', n' + pc - pc) = Except.ok (I, n)
    rw [Nat.add_sub_cancel, h1, ← h2]
    rfl
def zbn : List UInt8 → Nat
  | x :: _ => x.toNat
  | [] => 1000
/-- instructions one behind another, over the bytes from here on -/
def zwk (M : zHd) : Nat → List UInt8 → List zEn → Bool
  | _, _, [] => true
  | pc, l, e :: es => Nat.beq e.1 pc && ((if zsup (zbn l) = true then decide (decode ⟨⟨l.take 3⟩⟩ 0 = .ok (e.2.1, e.2.2.1)) else decide (decode M.2.1 pc = .ok (e.2.1, e.2.2.1))) && zwk M (pc + e.2.2.1) (l.drop e.2.2.1) es)
theorem zwk_ok {M : zHd} : ∀ (es : List zEn) (pc : Nat) (l : List UInt8), (∀ i (h : i < l.length), ∃ h2 : i + pc < M.2.1.size, M.2.1[i + pc] = l[i]) → zwk M pc l es = true → ∀ e ∈ es, decode M.2.1 e.1 = .ok (e.2.1, e.2.2.1)
  | [], _, _, _, _ => fun _ h => nomatch h
  | e :: es, pc, l, hw, hc => by
    simp only [zwk, Bool.and_eq_true] at hc
    obtain ⟨c1, c2, c3⟩ := hc
    have c1 : e.1 = pc := Nat.eq_of_beq_eq_true c1
    intro e' he'
    rcases List.mem_cons.mp he' with h | h
    · subst h
      rw [c1]
      split at c2
      · rename_i hs
        cases l with
        | nil => exact absurd hs (by decide)
        | cons x r =>
          have hx : x.toNat < 256 := x.toNat_lt
          refine zdecW (w := (x :: r).take 3) (op := x.toNat) (zsup_ok hx hs) ?_ (fun i hi => ?_) (of_decide_eq_true c2)
          · rw [zu1, dif_pos (show 0 < (ByteArray.mk ⟨(x :: r).take 3⟩).size from by show 0 < ((x :: r).take 3).length; simp)]
            rfl
          · have hi2 : i < (x :: r).length := by
              rw [List.length_take] at hi
              omega
            obtain ⟨h2, e2⟩ := hw i hi2
            refine ⟨h2, ?_⟩
            rw [e2, List.getElem_take]
      · exact of_decide_eq_true c2
    · refine zwk_ok es (pc + e.2.2.1) (l.drop e.2.2.1) (fun i hi => ?_) c3 e' h
      rw [List.length_drop] at hi
      obtain ⟨h2, e2⟩ := hw (e.2.2.1 + i) (by omega)
      have ei : i + (pc + e.2.2.1) = e.2.2.1 + i + pc := by omega
      refine ⟨by omega, ?_⟩
      rw [List.getElem_drop, ← e2]
      congr 1
def zrl : Lean.RArray zEn → List zEn
  | .leaf a => [a]
  | .branch _ l r => zrl l ++ zrl r
theorem zrl_all {f : zEn → Bool} : ∀ t : Lean.RArray zEn, (zrl t).all f = zallR f t
  | .leaf a => by simp [zrl, zallR]
  | .branch _ l r => by simp [zrl, zallR, zrl_all l, zrl_all r]
theorem zbyt (b : ByteArray) (i : Nat) (h : i < b.data.toList.length) : ∃ h2 : i < b.size, b[i] = b.data.toList[i] := by
  have e : b.data.toList.length = b.data.size := Array.length_toList
  refine ⟨by show i < b.data.size; omega, ?_⟩
  show b.data[i] = _
  exact (Array.getElem_toList _).symm
def zckWB (M : zHd) (t : Lean.RArray zEn) (pc : Nat) : Bool := zwk M pc (M.2.1.data.toList.drop pc) (zrl t) && (zrl t).all (fun e => zlkB M.1.cls M.1.name e.1 e.2.1 e.2.2.1 e.2.2.2)
theorem zckW_ok (M : zHd) (t : Lean.RArray zEn) (pc : Nat) (h : zckWB M t pc = true) : zallR (zckF M) t = true := by
  simp only [zckWB, Bool.and_eq_true] at h
  obtain ⟨h1, h2⟩ := h
  have h3 := zwk_ok _ _ _ (fun i hi => by
    rw [List.length_drop] at hi
    obtain ⟨g1, g2⟩ := zbyt M.2.1 (pc + i) (by omega)
    have ei : i + pc = pc + i := Nat.add_comm _ _
    refine ⟨by omega, ?_⟩
    rw [List.getElem_drop, ← g2]
    congr 1) h1
  rw [← zrl_all, List.all_eq_true]
  intro e he
  unfold zckF
  rw [Bool.and_eq_true]
  exact ⟨decide_eq_true (h3 e he), List.all_eq_true.mp h2 e he⟩

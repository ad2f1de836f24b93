/-! what a text asks, word by word: told once, for both sides (KF: a fault and its place; KO: it goes on) -/
def fFd (f : Nat → Int) (v : Int) : Nat → Nat → Int
  | 0, _ => -1
  | m + 1, k => if f k = v then (k : Int) else fFd f v m (k + 1)
def fIx (f : Nat → Int) (r : Nat) (v : Int) : Int := fFd f v r 0
theorem fFd_bd (f : Nat → Int) (v : Int) : ∀ m k, -1 ≤ fFd f v m k ∧ fFd f v m k < (k + m : Nat) 
  | 0, k => by
    simp only [fFd]
    omega
  | m + 1, k => by
    simp only [fFd]
    split
    · omega
    · have := fFd_bd f v m (k + 1)
      omega
theorem fFd_eq {f g : Nat → Int} {v : Int} : ∀ {m k : Nat}, (∀ i, k ≤ i → i < k + m → f i = g i) → fFd f v m k = fFd g v m k
  | 0, _, _ => rfl
  | m + 1, k, h => by
    simp only [fFd]
    rw [h k (Nat.le_refl _) (by omega), fFd_eq (m := m) (k := k + 1) (fun i a b => h i (by omega) (by omega))]
theorem fIx_bd (f : Nat → Int) (r : Nat) (v : Int) : -1 ≤ fIx f r v ∧ fIx f r v < (r : Int) := by
  have := fFd_bd f v r 0
  unfold fIx
  omega
theorem fIx_eq {f g : Nat → Int} {r : Nat} {v : Int} (h : ∀ i, i < r → f i = g i) : fIx f r v = fIx g r v := fFd_eq (fun i _ b => h i (by omega))
def wNum (D : zD) (lo hi : Int) (q : Nat) (KF KO : Int → Nat → Prop) : Prop := if kF D q = 3 then (if lo ≤ vF D q ∧ vF D q ≤ hi then KO (vF D q) (qF D q) else KF 2 q) else KF 1 q
def wNew (D : zD) (f : Nat → Int) (r : Nat) (q : Nat) (KF KO : Int → Nat → Prop) : Prop := if kF D q = 2 then (if fIx f r (lF D q) < 0 then KO (lF D q) (qF D q) else KF 3 q) else KF 1 q
def wThr (D : zD) (f : Nat → Int) (r : Nat) (q : Nat) (KF KO : Int → Nat → Prop) : Prop := if kF D q = 2 then (if fIx f r (lF D q) < 0 then KF 4 q else KO (fIx f r (lF D q)) (qF D q)) else KF 1 q
def wEnd (D : zD) (q : Nat) (KF : Int → Nat → Prop) (KO : Nat → Prop) : Prop := if kF D q = 4 then KO (qF D q) else KF 1 q
theorem wNum_m {D : zD} {lo hi : Int} {q : Nat} {KF KO KF' KO' : Int → Nat → Prop} (h : wNum D lo hi q KF KO) (h1 : kF D q ≠ 3 → KF 1 q → KF' 1 q) (h2 : kF D q = 3 → ¬ (lo ≤ vF D q ∧ vF D q ≤ hi) → KF 2 q → KF' 2 q) (h3 : kF D q = 3 → lo ≤ vF D q ∧ vF D q ≤ hi → KO (vF D q) (qF D q) → KO' (vF D q) (qF D q)) : wNum D lo hi q KF' KO' := by
  unfold wNum at h ⊢
  split
  · rename_i e
    rw [if_pos e] at h
    split
    · rename_i e2
      rw [if_pos e2] at h
      exact h3 e e2 h
    · rename_i e2
      rw [if_neg e2] at h
      exact h2 e e2 h
  · rename_i e
    rw [if_neg e] at h
    exact h1 e h
/-- the state that a text tells: names (men 0, glasses 1), how many (men, glasses, turns, payments, sieves, damp, seed, three laws, knots) -/
abbrev zN : Type := Nat → Nat → Int
abbrev zS : Type := Nat → Nat
def nU (N : zN) (k r : Nat) (v : Int) : zN := fun a i => if a = k ∧ i = r then v else N a i
def sU (S : zS) (j v : Nat) : zS := fun i => if i = j then v else S i
theorem sU_at {S : zS} {j v : Nat} : sU S j v j = v := if_pos rfl
theorem sU_ne {S : zS} {j v i : Nat} (h : i ≠ j) : sU S j v i = S i := if_neg h
abbrev zKF : Type := Int → Nat → Prop
abbrev zKO : Type := zN → zS → Nat → Prop
/-- a glass, a turn, a payment told: rows by columns (2 whose, 3 above, 4 below, 5 neck, 6 coarse; 7 which, 8 when; 9 from, 10 to, 11 when, 12 how much; 13 a mesh; 14 damp, seed) -/
def nG (N : zN) (r : Nat) (v m a b n c : Int) : zN := nU (nU (nU (nU (nU (nU N 1 r v) 2 r m) 3 r a) 4 r b) 5 r n) 6 r c
def nT (N : zN) (r : Nat) (g m : Int) : zN := nU (nU N 7 r g) 8 r m
def nPy (N : zN) (r : Nat) (a b m g : Int) : zN := nU (nU (nU (nU N 9 r a) 10 r b) 11 r m) 12 r g
def wMan (D : zD) (N : zN) (S : zS) (q : Nat) (KF : zKF) (KO : zKO) : Prop := if S 0 = 5 then KF 2 q else wNew D (N 0) (S 0) (qF D q) KF (fun v q => KO (nU N 0 (S 0) v) (sU S 0 (S 0 + 1)) q)
def wGls (D : zD) (N : zN) (S : zS) (q : Nat) (KF : zKF) (KO : zKO) : Prop := if S 1 = 8 then KF 2 q else wNew D (N 1) (S 1) (qF D q) KF (fun v q => wThr D (N 0) (S 0) q KF (fun m q => wNum D 0 99 q KF (fun a q => wNum D 0 99 q KF (fun b q => wNum D 1 9 q KF (fun n q => wNum D 1 9 q KF (fun c q => KO (nG N (S 1) v m a b n c) (sU S 1 (S 1 + 1)) q))))))
def wTrn (D : zD) (N : zN) (S : zS) (q : Nat) (KF : zKF) (KO : zKO) : Prop := if S 2 = 10 then KF 2 q else wThr D (N 1) (S 1) (qF D q) KF (fun g q => wNum D 0 99 q KF (fun m q => KO (nT N (S 2) g m) (sU S 2 (S 2 + 1)) q))
def wPay (D : zD) (N : zN) (S : zS) (q : Nat) (KF : zKF) (KO : zKO) : Prop := if S 3 = 10 then KF 2 q else wThr D (N 1) (S 1) (qF D q) KF (fun a q => wThr D (N 1) (S 1) q KF (fun b q' => if b = a then KF 5 q else wNum D 0 99 q' KF (fun m q => wNum D 1 99 q KF (fun g q => KO (nPy N (S 3) a b m g) (sU S 3 (S 3 + 1)) q))))
def wSiv (D : zD) (N : zN) (S : zS) (q : Nat) (KF : zKF) (KO : zKO) : Prop := if S 4 = 6 then KF 2 q else wNum D 1 9 (qF D q) KF (fun m q => KO (nU N 13 (S 4) m) (sU S 4 (S 4 + 1)) q)
def wOnc (D : zD) (j : Nat) (most : Int) (N : zN) (S : zS) (q : Nat) (KF : zKF) (KO : zKO) : Prop := if S j = 0 then wNum D 0 most (qF D q) KF (fun v q => KO (nU N 14 (j - 5) v) (sU S j 1) q) else KF 3 q
/-- how tightly a sign binds -/
def tgt (k : Int) : Int := if k = 30 then 1 else if k = 29 then 2 else if k = 28 then 3 else if k = 31 ∨ k = 32 then 5 else if k = 33 ∨ k = 34 then 6 else if 35 ≤ k ∧ k ≤ 40 then 4 else 0
def wPop (r : Int) : List Int → List Int
  | [] => []
  | x :: s => if x ≠ 5 ∧ r ≤ tgt x then wPop r s else x :: s
def bN (b : Bool) : Int := if b = true then 1 else 0
def a1 (L : List (Nat × Nat × (Int × Int))) : sAs := (L, [], [], [])
def wTop (s : List Int) : Int := s.headD 0
/-- signs that are released stand behind the code so far (latest first; a number as it is, all else as its kind below 0) -/
def wRl (r : Int) : List Int → List Int → List Int
  | [], e => e
  | x :: s, e => if x ≠ 5 ∧ r ≤ tgt x then wRl r s (-x :: e) else e
def cdC (f : Nat → Int) (b : Nat) : List Int → Prop
  | [] => True
  | x :: e => f (b + e.length) = x ∧ cdC f b e
theorem cdC_eq {f g : Nat → Int} {b : Nat} : ∀ {e : List Int}, (∀ i, b ≤ i → i < b + e.length → g i = f i) → cdC f b e → cdC g b e
  | [], _, _ => trivial
  | x :: e, h, hc => ⟨(h _ (by omega) (by simp only [List.length_cons]; omega)).trans hc.1, cdC_eq (fun i h1 h2 => h i h1 (by simp only [List.length_cons]; omega)) hc.2⟩
theorem cdC_at {f : Nat → Int} {b : Nat} : ∀ {e : List Int}, cdC f b e → ∀ i, i < e.length → f (b + (e.length - 1 - i)) = e.getD i 0
  | [], _, i, h => absurd h (Nat.not_lt_zero _)
  | x :: e, hc, 0, _ => by
    rw [show b + ((x :: e).length - 1 - 0) = b + e.length from by simp only [List.length_cons]; omega]
    exact hc.1
  | x :: e, hc, i + 1, h => by
    have h : i + 1 < e.length + 1 := h
    have := cdC_at hc.2 i (by omega)
    rw [show b + ((x :: e).length - 1 - (i + 1)) = b + (e.length - 1 - i) from by simp only [List.length_cons]; omega]
    exact this
def stK (f : Nat → Int) : Nat → List Int
  | 0 => []
  | c + 1 => f c :: stK f c
theorem stK_eq {f g : Nat → Int} : ∀ c, (∀ i, i < c → f i = g i) → stK f c = stK g c
  | 0, _ => rfl
  | c + 1, h => by
    simp only [stK]
    rw [h c (by omega), stK_eq c (fun i hi => h i (by omega))]
def lsF (f : Nat → Int) : Nat → List Int
  | 0 => []
  | n + 1 => f 0 :: lsF (fun i => f (i + 1)) n
theorem lsF_len : ∀ (n : Nat) (f : Nat → Int), (lsF f n).length = n
  | 0, _ => rfl
  | n + 1, f => by
    simp only [lsF, List.length_cons]
    rw [lsF_len n]
theorem lsF_get : ∀ e : List Int, lsF (fun i => e.getD i 0) e.length = e
  | [] => rfl
  | x :: e => by
    have ih := lsF_get e
    show x :: lsF (fun i => e.getD i 0) e.length = _
    rw [ih]
theorem lsF_eq : ∀ (n : Nat) {f g : Nat → Int}, (∀ i, i < n → f i = g i) → lsF f n = lsF g n
  | 0, _, _, _ => rfl
  | n + 1, f, g, h => by
    simp only [lsF]
    rw [h 0 (by omega), lsF_eq n (fun i hi => h (i + 1) (by omega))]
/-- which knots' values lie on the stack behind this code -/
def ixs (b : Nat) : List Int → List Nat
  | [] => []
  | x :: e => (b + e.length) :: (if x = -28 then (ixs b e).tail else if x < -28 then (ixs b e).tail.tail else ixs b e)
theorem ixs_lt {b : Nat} : ∀ {e : List Int} {i : Nat}, i ∈ ixs b e → b ≤ i ∧ i < b + e.length
  | [], i, h => nomatch h
  | x :: e, i, h => by
    simp only [ixs, List.mem_cons] at h
    simp only [List.length_cons]
    rcases h with rfl | h
    · omega
    · have : i ∈ ixs b e := by
        split at h
        · exact List.mem_of_mem_tail h
        · split at h
          · exact List.mem_of_mem_tail (List.mem_of_mem_tail h)
          · exact h
      have := ixs_lt this
      omega
def cm (k : Int) : Int := if k = 0 then 5 else if k = 2 then 28 else if k = 3 then 29 else if k = 4 then 30 else if k ≤ 10 then k + 30 else k + 20
def kR (kd pt ot : Nat → Int) (b : Nat) : List Int → Prop
  | [] => True
  | x :: e => kR kd pt ot b e ∧ ((0 ≤ x ∧ kd (b + e.length) = 0 ∧ pt (b + e.length) = x) ∨ (-27 ≤ x ∧ x ≤ -21 ∧ kd (b + e.length) = 1 ∧ pt (b + e.length) = -x - 21) ∨ (x = -28 ∧ kd (b + e.length) = 2 ∧ ∃ i r, ixs b e = i :: r ∧ pt (b + e.length) = ((i : Nat) : Int)) ∨ (x < -28 ∧ 3 ≤ kd (b + e.length) ∧ kd (b + e.length) ≤ 14 ∧ cm (kd (b + e.length)) = -x ∧ ∃ i j r, ixs b e = j :: i :: r ∧ pt (b + e.length) = ((i : Nat) : Int) ∧ ot (b + e.length) = ((j : Nat) : Int)))
theorem kR_eq {kd pt ot kd' pt' ot' : Nat → Int} {b : Nat} : ∀ {e : List Int}, (∀ i, b ≤ i → i < b + e.length → kd' i = kd i ∧ pt' i = pt i ∧ ot' i = ot i) → kR kd pt ot b e → kR kd' pt' ot' b e
  | [], _, _ => trivial
  | x :: e, h, hk => by
    refine ⟨kR_eq (fun i h1 h2 => h i h1 (by simp only [List.length_cons]; omega)) hk.1, ?_⟩
    obtain ⟨e1, e2, e3⟩ := h (b + e.length) (by omega) (by simp only [List.length_cons]; omega)
    rw [e1, e2, e3]
    exact hk.2
/-- an E from here on: what waits, how many are open, whether a value is due, whether a not may stand, the knots so far, the code so far -/
def wSum (D : zD) : Nat → List Int → Nat → Bool → Bool → Nat → List Int → Nat → zKF → (Nat → List Int → Nat → Prop) → Prop
  | 0, _, _, _, _, c, e, q, _, KO => KO c e q
  | m + 1, s, o, due, nm, c, e, q, KF, KO =>
    if due = true then
      (if kF D q = 5 then (if o = 8 then KF 2 q else wSum D m (5 :: s) (o + 1) true true c e (qF D q) KF KO)
       else if kF D q = 28 ∧ nm = true then (if c = 64 then KF 2 q else wSum D m (28 :: s) o true nm (c + 1) e (qF D q) KF KO)
       else if kF D q = 3 then (if 9999 < vF D q then KF 2 q else if c = 64 then KF 2 q else wSum D m s o false nm (c + 1) (vF D q :: e) (qF D q) KF KO)
       else if 21 ≤ kF D q ∧ kF D q ≤ 27 then (if c = 64 then KF 2 q else wSum D m s o false nm (c + 1) (-kF D q :: e) (qF D q) KF KO)
       else KF 1 q)
    else
      (if kF D q = 6 ∧ 0 < o then wSum D m (wPop 0 s).tail (o - 1) false nm c (wRl 0 s e) (qF D q) KF KO
       else if 29 ≤ kF D q ∧ kF D q ≤ 40 then
         (if tgt (kF D q) = 4 ∧ tgt (wTop (wPop (if tgt (kF D q) = 4 then 5 else tgt (kF D q)) s)) = 4 then KF 1 q else if c = 64 then KF 2 q
          else wSum D m (kF D q :: wPop (if tgt (kF D q) = 4 then 5 else tgt (kF D q)) s) o true (decide (tgt (kF D q) < 4)) (c + 1) (wRl (if tgt (kF D q) = 4 then 5 else tgt (kF D q)) s e) (qF D q) KF KO)
       else if kF D q = 4 ∧ o = 0 then KO c (wRl 0 s e) q else KF 1 q)
/-- a law told: its code, where it begins, how long it is -/
def nLw (N : zN) (j : Nat) (e : List Int) : zN := fun a i => if a = 20 + j then e.getD i 0 else N a i
def sLw (S : zS) (j c : Nat) (e : List Int) : zS := sU (sU (sU (sU S (7 + j) 1) (14 + j) (S 10)) 10 c) (11 + j) e.length
def wLaw (D : zD) (N : zN) (S : zS) (q : Nat) (KF : zKF) (KO : zKO) : Prop := if 18 ≤ kF D (qF D q) ∧ kF D (qF D q) ≤ 20 then (if S (7 + (kF D (qF D q) - 18).toNat) = 0 then wSum D 701 [] 0 true true (S 10) [] (qF D (qF D q)) KF (fun c e q' => KO (nLw N (kF D (qF D q) - 18).toNat e) (sLw S (kF D (qF D q) - 18).toNat c e) q') else KF 3 (qF D q)) else KF 1 (qF D q)
def wLin (D : zD) (N : zN) (S : zS) (q : Nat) (KF : zKF) (KO : zKO) : Prop :=
  if kF D q = 10 then wMan D N S q KF (fun N S q => wEnd D q KF (KO N S)) else
  if kF D q = 11 then wGls D N S q KF (fun N S q => wEnd D q KF (KO N S)) else
  if kF D q = 12 then wTrn D N S q KF (fun N S q => wEnd D q KF (KO N S)) else
  if kF D q = 13 then wPay D N S q KF (fun N S q => wEnd D q KF (KO N S)) else
  if kF D q = 14 then wSiv D N S q KF (fun N S q => wEnd D q KF (KO N S)) else
  if kF D q = 15 then wOnc D 5 100 N S q KF (fun N S q => wEnd D q KF (KO N S)) else
  if kF D q = 16 then wOnc D 6 99999 N S q KF (fun N S q => wEnd D q KF (KO N S)) else
  if kF D q = 17 then wLaw D N S q KF (fun N S q => wEnd D q KF (KO N S)) else KF 1 q
/-- lines from here on -/
def wTxt (D : zD) : Nat → zN → zS → Nat → Nat → zKF → (Nat → zN → zS → Prop) → Prop
  | 0, N, S, _, m, _, KO => KO m N S
  | f + 1, N, S, q, m, KF, KO => if kF D q = 0 then KO m N S else wLin D N S q KF (fun N S q => wTxt D f N S q (m + 1) KF KO)
/-! something comes of it -/
theorem wNum_x {α : Type} {D : zD} {lo hi : Int} {q : Nat} {KF KO : α → Int → Nat → Prop} (hF : ∀ c p, ∃ o, KF o c p) (hO : ∀ v p, ∃ o, KO o v p) : ∃ o, wNum D lo hi q (KF o) (KO o) := by
  unfold wNum
  split
  · split
    · exact hO _ _
    · exact hF _ _
  · exact hF _ _
theorem wNew_x {α : Type} {D : zD} {f : Nat → Int} {r q : Nat} {KF KO : α → Int → Nat → Prop} (hF : ∀ c p, ∃ o, KF o c p) (hO : ∀ v p, ∃ o, KO o v p) : ∃ o, wNew D f r q (KF o) (KO o) := by
  unfold wNew
  split
  · split
    · exact hO _ _
    · exact hF _ _
  · exact hF _ _
theorem wThr_x {α : Type} {D : zD} {f : Nat → Int} {r q : Nat} {KF KO : α → Int → Nat → Prop} (hF : ∀ c p, ∃ o, KF o c p) (hO : ∀ v p, ∃ o, KO o v p) : ∃ o, wThr D f r q (KF o) (KO o) := by
  unfold wThr
  split
  · split
    · exact hF _ _
    · exact hO _ _
  · exact hF _ _
theorem wEnd_x {α : Type} {D : zD} {q : Nat} {KF : α → Int → Nat → Prop} {KO : α → Nat → Prop} (hF : ∀ c p, ∃ o, KF o c p) (hO : ∀ p, ∃ o, KO o p) : ∃ o, wEnd D q (KF o) (KO o) := by
  unfold wEnd
  split
  · exact hO _
  · exact hF _ _
theorem wSum_x {α : Type} {D : zD} {KF : α → Int → Nat → Prop} {KO : α → Nat → List Int → Nat → Prop} (hF : ∀ c p, ∃ o, KF o c p) (hO : ∀ c e p, ∃ o, KO o c e p) : ∀ (m : Nat) (s : List Int) (b : Nat) (due nm : Bool) (c : Nat) (e : List Int) (q : Nat), ∃ o, wSum D m s b due nm c e q (KF o) (KO o)
  | 0, s, b, due, nm, c, e, q => hO c e q
  | m + 1, s, b, due, nm, c, e, q => by
    have ih := wSum_x (D := D) hF hO m
    simp only [wSum]
    repeat' split
    all_goals first | exact hF _ _ | exact hO _ _ _ | exact ih _ _ _ _ _ _ _
theorem wLin_x {α : Type} {D : zD} {N : zN} {S : zS} {q : Nat} {KF : α → zKF} {KO : α → zKO} (hF : ∀ c p, ∃ o, KF o c p) (hO : ∀ N S p, ∃ o, KO o N S p) : ∃ o, wLin D N S q (KF o) (KO o) := by
  have hE : ∀ N S p, ∃ o, wEnd D p (KF o) (KO o N S) := fun N S p => wEnd_x hF (hO N S)
  unfold wLin
  split
  · unfold wMan
    split
    · exact hF _ _
    · exact wNew_x hF (fun v p => hE _ _ _)
  split
  · unfold wGls
    split
    · exact hF _ _
    · exact wNew_x hF (fun _ _ => wThr_x hF (fun _ _ => wNum_x hF (fun _ _ => wNum_x hF (fun _ _ => wNum_x hF (fun _ _ => wNum_x hF (fun _ _ => hE _ _ _))))))
  split
  · unfold wTrn
    split
    · exact hF _ _
    · exact wThr_x hF (fun _ _ => wNum_x hF (fun _ _ => hE _ _ _))
  split
  · unfold wPay
    split
    · exact hF _ _
    · refine wThr_x hF (fun a p => wThr_x hF (fun b p' => ?_))
      split
      · exact hF _ _
      · exact wNum_x hF (fun _ _ => wNum_x hF (fun _ _ => hE _ _ _))
  split
  · unfold wSiv
    split
    · exact hF _ _
    · exact wNum_x hF (fun _ _ => hE _ _ _)
  split
  · unfold wOnc
    split
    · exact wNum_x hF (fun _ _ => hE _ _ _)
    · exact hF _ _
  split
  · unfold wOnc
    split
    · exact wNum_x hF (fun _ _ => hE _ _ _)
    · exact hF _ _
  split
  · unfold wLaw
    split
    · split
      · exact wSum_x hF (fun _ _ _ => hE _ _ _) _ _ _ _ _ _ _ _
      · exact hF _ _
    · exact hF _ _
  · exact hF _ _
theorem wTxt_x {α : Type} {D : zD} {KF : α → zKF} {KO : α → Nat → zN → zS → Prop} (hF : ∀ c p, ∃ o, KF o c p) (hO : ∀ m N S, ∃ o, KO o m N S) : ∀ (f : Nat) (N : zN) (S : zS) (q m : Nat), ∃ o, wTxt D f N S q m (KF o) (KO o)
  | 0, N, S, q, m => hO _ _ _
  | f + 1, N, S, q, m => by
    simp only [wTxt]
    split
    · exact hO _ _ _
    · exact wLin_x hF (fun N S p => wTxt_x hF hO f N S p (m + 1))

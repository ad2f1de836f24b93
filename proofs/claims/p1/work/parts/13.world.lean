theorem zarrV_congr {c : ClassId} {n : Nat} {f g : Nat → Value} (h : ∀ k, k < n → f k = g k) : arrV c n f = arrV c n g := by
  unfold arrV
  congr 1
  apply Array.ext
  · simp
  · intro i h1 h2
    simp at h1
    simp [h i h1]
def zshF : List zSh := [(0, 0), (2, 700), (0, 1), (0, 2), (1, 21), (2, 0), (0, 3), (1, 72), (1, 6), (0, 4), (0, 5), (1, 5), (0, 5), (1, 48), (0, 5), (1, 20), (0, 5), (1, 40), (0, 5), (1, 6), (0, 6), (1, 64), (1, 3), (1, 3), (1, 7), (4, 64), (0, 4), (0, 5), (1, 5), (0, 5), (1, 48), (0, 5), (1, 20), (0, 5), (1, 40), (0, 5), (1, 6), (0, 6), (1, 64), (1, 3), (1, 3), (1, 7), (4, 64), (0, 7), (1, 8), (1, 8), (1, 8), (1, 8), (1, 10), (0, 7), (1, 8), (1, 8), (1, 8), (1, 8), (1, 10), (0, 7), (1, 8), (1, 8), (1, 8), (1, 8), (1, 10), (0, 8), (0, 4), (0, 5), (1, 5), (0, 5), (1, 48), (0, 5), (1, 20), (0, 5), (1, 40), (0, 5), (1, 6), (0, 6), (1, 64), (1, 3), (1, 3), (1, 7), (4, 64), (0, 9), (1, 1999), (1, 1999), (1, 64), (1, 8), (1, 8), (1, 16), (0, 10), (1, 20), (1, 20), (1, 20), (1, 20), (0, 11), (1, 24), (1, 24), (1, 24), (3, 24), (1, 24), (3, 24), (0, 12), (1, 700), (1, 104), (3, 2), (1, 4), (1, 10), (1, 16), (1, 16), (1, 16), (1, 16), (1, 16), (1, 16), (1, 20), (1, 20), (1, 20), (1, 20), (1, 20), (1, 20), (1, 12), (3, 6), (1, 6), (1, 6), (1, 128), (1, 128), (1, 128), (1, 96), (1, 96), (4, 7), (4, 64), (1, 16), (1, 16), (3, 16), (1, 16), (1, 16), (1, 20), (1, 2), (1, 2), (1, 1999), (1, 1999), (1, 96), (3, 24), (1, 640), (1, 32), (1, 20), (4, 1)]
def zIt : Lean.RArray (List Int32) := .branch 71 (.branch 35 (.branch 17 (.branch 8 (.branch 4 (.branch 2 (.branch 1 (.leaf [0, 0, 0, -1]) (.leaf [])) (.branch 3 (.leaf []) (.leaf [0, 0, 0, 0, 0, 0, 0, 0, 0, -1]))) (.branch 6 (.branch 5 (.leaf [437714944, 247516768, 693712896, 538738688, 647157920, 135708672, 642945024, 404455424, 214424576, 672923648, 781651968, 36165792, 72761056, 475114496, 116443749, 777650176, 538218496, 446125701, 486146048, 48365568, 522190848]) (.leaf [])) (.branch 7 (.leaf [0, 0, 0, 1, 1]) (.leaf [])))) (.branch 12 (.branch 10 (.branch 9 (.leaf []) (.leaf [])) (.branch 11 (.leaf [5, 1]) (.leaf []))) (.branch 14 (.branch 13 (.leaf [8, 6]) (.leaf [])) (.branch 15 (.leaf [10, 2]) (.branch 16 (.leaf []) (.leaf [10, 4])))))) (.branch 26 (.branch 21 (.branch 19 (.branch 18 (.leaf []) (.leaf [6, 1])) (.branch 20 (.leaf []) (.leaf []))) (.branch 23 (.branch 22 (.leaf []) (.leaf [-1, -1, -1])) (.branch 24 (.leaf []) (.branch 25 (.leaf []) (.leaf []))))) (.branch 30 (.branch 28 (.branch 27 (.leaf []) (.leaf [5, 1])) (.branch 29 (.leaf []) (.leaf [8, 6]))) (.branch 32 (.branch 31 (.leaf []) (.leaf [10, 2])) (.branch 33 (.leaf []) (.branch 34 (.leaf [10, 4]) (.leaf []))))))) (.branch 53 (.branch 44 (.branch 39 (.branch 37 (.branch 36 (.leaf [6, 1]) (.leaf [])) (.branch 38 (.leaf []) (.leaf []))) (.branch 41 (.branch 40 (.leaf [-1, -1, -1]) (.leaf [])) (.branch 42 (.leaf []) (.branch 43 (.leaf []) (.leaf []))))) (.branch 48 (.branch 46 (.branch 45 (.leaf []) (.leaf [])) (.branch 47 (.leaf []) (.leaf []))) (.branch 50 (.branch 49 (.leaf []) (.leaf [])) (.branch 51 (.leaf []) (.branch 52 (.leaf []) (.leaf [])))))) (.branch 62 (.branch 57 (.branch 55 (.branch 54 (.leaf []) (.leaf [])) (.branch 56 (.leaf []) (.leaf []))) (.branch 59 (.branch 58 (.leaf []) (.leaf [])) (.branch 60 (.leaf []) (.branch 61 (.leaf []) (.leaf [0, 0, -1, -1, -1]))))) (.branch 66 (.branch 64 (.branch 63 (.leaf []) (.leaf [5, 1])) (.branch 65 (.leaf []) (.leaf [8, 6]))) (.branch 68 (.branch 67 (.leaf []) (.leaf [10, 2])) (.branch 69 (.leaf []) (.branch 70 (.leaf [10, 4]) (.leaf [])))))))) (.branch 107 (.branch 89 (.branch 80 (.branch 75 (.branch 73 (.branch 72 (.leaf [6, 1]) (.leaf [])) (.branch 74 (.leaf []) (.leaf []))) (.branch 77 (.branch 76 (.leaf [-1, -1, -1]) (.leaf [])) (.branch 78 (.leaf []) (.branch 79 (.leaf []) (.leaf []))))) (.branch 84 (.branch 82 (.branch 81 (.leaf []) (.leaf [])) (.branch 83 (.leaf []) (.leaf []))) (.branch 86 (.branch 85 (.leaf []) (.leaf [])) (.branch 87 (.leaf []) (.branch 88 (.leaf []) (.leaf [])))))) (.branch 98 (.branch 93 (.branch 91 (.branch 90 (.leaf []) (.leaf [])) (.branch 92 (.leaf [0, 0, 0, 0, 0, 0, 0, -1]) (.leaf []))) (.branch 95 (.branch 94 (.leaf []) (.leaf [])) (.branch 96 (.leaf []) (.branch 97 (.leaf []) (.leaf []))))) (.branch 102 (.branch 100 (.branch 99 (.leaf [0, 0, 0, 0, 0, -1, 0, 0, 0, 0, 0, 0, 0, 0, 0, 0, 0, 0, 0, 0, 0, 0, 0, 0, 0, 0, 0, 0, 0, 0, 0, 0, 0, 0, 0, 0, 0, 0, 0, 0, 0, 0, 0, 0, 0, 0, 0, 0, 0, 0, 0, 0, 0, 0, 0, 0, 0, 0, 0, 0, 0, 0, 0, 0, 0, 0, 0, 0, 0, 0, 0, -1, -1, 0, 0, 0, 0, -1]) (.leaf [])) (.branch 101 (.leaf [109, 97, 110, 32, 103, 108, 97, 115, 115, 32, 116, 117, 114, 110, 32, 112, 97, 121, 32, 115, 105, 101, 118, 101, 32, 100, 97, 109, 112, 32, 115, 101, 101, 100, 32, 108, 97, 119, 32, 102, 108, 111, 119, 32, 116, 97, 120, 32, 119, 105, 110, 100, 32, 97, 110, 100, 32, 111, 114, 32, 110, 111, 116, 32, 97, 98, 111, 118, 101, 32, 98, 101, 108, 111, 119, 32, 110, 101, 99, 107, 32, 99, 111, 97, 114, 115, 101, 32, 119, 101, 116, 32, 112, 97, 105, 100, 32, 109, 105, 110, 117, 116, 101, 32]) (.leaf []))) (.branch 104 (.branch 103 (.leaf []) (.leaf [])) (.branch 105 (.leaf []) (.branch 106 (.leaf []) (.leaf []))))))) (.branch 125 (.branch 116 (.branch 111 (.branch 109 (.branch 108 (.leaf []) (.leaf [])) (.branch 110 (.leaf []) (.leaf []))) (.branch 113 (.branch 112 (.leaf []) (.leaf [])) (.branch 114 (.leaf []) (.branch 115 (.leaf []) (.leaf []))))) (.branch 120 (.branch 118 (.branch 117 (.leaf []) (.leaf [])) (.branch 119 (.leaf []) (.leaf []))) (.branch 122 (.branch 121 (.leaf []) (.leaf [])) (.branch 123 (.leaf []) (.branch 124 (.leaf []) (.leaf [])))))) (.branch 134 (.branch 129 (.branch 127 (.branch 126 (.leaf []) (.leaf [])) (.branch 128 (.leaf []) (.leaf []))) (.branch 131 (.branch 130 (.leaf []) (.leaf [])) (.branch 132 (.leaf []) (.branch 133 (.leaf []) (.leaf []))))) (.branch 138 (.branch 136 (.branch 135 (.leaf []) (.leaf [])) (.branch 137 (.leaf []) (.leaf []))) (.branch 140 (.branch 139 (.leaf []) (.leaf [])) (.branch 141 (.leaf []) (.branch 142 (.leaf []) (.leaf []))))))))
def zPt : Lean.RArray (List (Option Nat)) := .branch 71 (.branch 35 (.branch 17 (.branch 8 (.branch 4 (.branch 2 (.branch 1 (.leaf [some 1, none, none, none, some 2, some 9, some 26, some 43, some 49, none, some 55, some 61, some 79, some 86, some 91]) (.leaf [])) (.branch 3 (.leaf [some 3, some 6, some 8]) (.leaf [some 4, some 5]))) (.branch 6 (.branch 5 (.leaf []) (.leaf [])) (.branch 7 (.leaf [some 7]) (.leaf [])))) (.branch 12 (.branch 10 (.branch 9 (.leaf []) (.leaf [some 10, some 12, some 14, some 16, some 18, some 20])) (.branch 11 (.leaf [none, none, some 11]) (.leaf []))) (.branch 14 (.branch 13 (.leaf [none, none, some 13]) (.leaf [])) (.branch 15 (.leaf [none, none, some 15]) (.branch 16 (.leaf []) (.leaf [none, none, some 17])))))) (.branch 26 (.branch 21 (.branch 19 (.branch 18 (.leaf []) (.leaf [none, none, some 19])) (.branch 20 (.leaf []) (.leaf [some 21, none, none, some 22, some 23, some 24, some 25]))) (.branch 23 (.branch 22 (.leaf []) (.leaf [])) (.branch 24 (.leaf []) (.branch 25 (.leaf []) (.leaf []))))) (.branch 30 (.branch 28 (.branch 27 (.leaf [some 27, some 29, some 31, some 33, some 35, some 37]) (.leaf [none, none, some 28])) (.branch 29 (.leaf []) (.leaf [none, none, some 30]))) (.branch 32 (.branch 31 (.leaf []) (.leaf [none, none, some 32])) (.branch 33 (.leaf []) (.branch 34 (.leaf [none, none, some 34]) (.leaf []))))))) (.branch 53 (.branch 44 (.branch 39 (.branch 37 (.branch 36 (.leaf [none, none, some 36]) (.leaf [])) (.branch 38 (.leaf [some 38, none, none, some 39, some 40, some 41, some 42]) (.leaf []))) (.branch 41 (.branch 40 (.leaf []) (.leaf [])) (.branch 42 (.leaf []) (.branch 43 (.leaf []) (.leaf [none, none, none, none, some 44, some 45, some 46, some 47, some 48]))))) (.branch 48 (.branch 46 (.branch 45 (.leaf []) (.leaf [])) (.branch 47 (.leaf []) (.leaf []))) (.branch 50 (.branch 49 (.leaf []) (.leaf [none, none, none, none, some 50, some 51, some 52, some 53, some 54])) (.branch 51 (.leaf []) (.branch 52 (.leaf []) (.leaf [])))))) (.branch 62 (.branch 57 (.branch 55 (.branch 54 (.leaf []) (.leaf [])) (.branch 56 (.leaf [none, none, none, none, some 56, some 57, some 58, some 59, some 60]) (.leaf []))) (.branch 59 (.branch 58 (.leaf []) (.leaf [])) (.branch 60 (.leaf []) (.branch 61 (.leaf []) (.leaf [some 62]))))) (.branch 66 (.branch 64 (.branch 63 (.leaf [some 63, some 65, some 67, some 69, some 71, some 73]) (.leaf [none, none, some 64])) (.branch 65 (.leaf []) (.leaf [none, none, some 66]))) (.branch 68 (.branch 67 (.leaf []) (.leaf [none, none, some 68])) (.branch 69 (.leaf []) (.branch 70 (.leaf [none, none, some 70]) (.leaf [])))))))) (.branch 107 (.branch 89 (.branch 80 (.branch 75 (.branch 73 (.branch 72 (.leaf [none, none, some 72]) (.leaf [])) (.branch 74 (.leaf [some 74, none, none, some 75, some 76, some 77, some 78]) (.leaf []))) (.branch 77 (.branch 76 (.leaf []) (.leaf [])) (.branch 78 (.leaf []) (.branch 79 (.leaf []) (.leaf [some 80, some 81, some 82, some 83, some 84, some 85]))))) (.branch 84 (.branch 82 (.branch 81 (.leaf []) (.leaf [])) (.branch 83 (.leaf []) (.leaf []))) (.branch 86 (.branch 85 (.leaf []) (.leaf [])) (.branch 87 (.leaf [some 87, some 88, some 89, some 90]) (.branch 88 (.leaf []) (.leaf [])))))) (.branch 98 (.branch 93 (.branch 91 (.branch 90 (.leaf []) (.leaf [])) (.branch 92 (.leaf [some 92, some 93, some 94, some 95, some 96, some 97]) (.leaf []))) (.branch 95 (.branch 94 (.leaf []) (.leaf [])) (.branch 96 (.leaf []) (.branch 97 (.leaf []) (.leaf []))))) (.branch 102 (.branch 100 (.branch 99 (.leaf [some 99, none, none, some 100, none, none, none, none, none, none, none, none, none, none, none, none, none, none, none, none, none, none, none, none, some 101, some 102, some 103, some 104, some 105, some 106, some 107, some 108, some 109, some 110, some 111, some 112, some 113, some 114, some 115, some 116, some 117, some 118, some 119, some 120, some 121, some 122, some 123, some 124, none, none, none, none, none, none, some 125, some 126, none, some 127, some 128, some 129, some 130, some 131, some 132, some 133, some 134, none, none, none, none, none, none, none, none, none, some 135, some 136, none, none, some 137, some 138, none, some 139, none, some 140, some 141]) (.leaf [])) (.branch 101 (.leaf []) (.leaf []))) (.branch 104 (.branch 103 (.leaf []) (.leaf [])) (.branch 105 (.leaf []) (.branch 106 (.leaf []) (.leaf []))))))) (.branch 125 (.branch 116 (.branch 111 (.branch 109 (.branch 108 (.leaf []) (.leaf [])) (.branch 110 (.leaf []) (.leaf []))) (.branch 113 (.branch 112 (.leaf []) (.leaf [])) (.branch 114 (.leaf []) (.branch 115 (.leaf []) (.leaf []))))) (.branch 120 (.branch 118 (.branch 117 (.leaf []) (.leaf [])) (.branch 119 (.leaf []) (.leaf []))) (.branch 122 (.branch 121 (.leaf []) (.leaf [])) (.branch 123 (.leaf []) (.branch 124 (.leaf []) (.leaf [])))))) (.branch 134 (.branch 129 (.branch 127 (.branch 126 (.leaf []) (.leaf [])) (.branch 128 (.leaf []) (.leaf []))) (.branch 131 (.branch 130 (.leaf []) (.leaf [])) (.branch 132 (.leaf []) (.branch 133 (.leaf []) (.leaf []))))) (.branch 138 (.branch 136 (.branch 135 (.leaf []) (.leaf [])) (.branch 137 (.leaf []) (.leaf []))) (.branch 140 (.branch 139 (.leaf []) (.leaf [])) (.branch 141 (.leaf []) (.branch 142 (.leaf []) (.leaf []))))))))
def zI0 : zHI := fun q k => (zIt.get q).getD k 0
def zP0 : zHP := fun q k => (zPt.get q).getD k none
def zL0 : zHL := fun _ _ => 0
/-- the world behind the two constructors and the row of one long -/
def zhF : zH := (zshF, zI0, zL0, zP0)
/-- the world behind the class's constructor -/
def zhx : zH := (zshF.take 98, zI0, zL0, zP0)
def zhy : zH := (zshF.take 142, zI0, zL0, zP0)
/-- how many places a cell has -/
def zsz (s : zSh) : Nat := if s.1 = 0 then zNF s.2 else s.2
def zeqC (h g : zH) (q : Nat) (s : zSh) : Bool :=
  if s.1 = 0 then (List.range (zNF s.2)).all (fun k => match zkind s.2 k with
    | 1 => decide (h.2.2.1 q k = g.2.2.1 q k)
    | 2 => decide (h.2.2.2 q k = g.2.2.2 q k)
    | _ => decide (h.2.1 q k = g.2.1 q k))
  else if s.1 = 4 then (List.range s.2).all (fun k => decide (h.2.2.1 q k = g.2.2.1 q k)) else (List.range s.2).all (fun k => decide (h.2.1 q k = g.2.1 q k))
/-- two worlds agree wherever a cell looks -/
def zeqB (h g : zH) : Bool := decide (h.1 = g.1) && h.1.zipIdx.all (fun x => zeqC h g x.2 x.1)
theorem zeqB_cell {Γ : zG} {h g : zH} {q : Nat} {s : zSh} (he : zeqC h g q s = true) {D : va_G} {cl : List vw_C} {a : Nat} {H : Heap} (hc : va_at D cl (a, zcell Γ h q s) H) : va_at D cl (a, zcell Γ g q s) H := by
  obtain ⟨t, n⟩ := s
  unfold zeqC at he
  by_cases h0 : t = 0
  · subst h0
    simp only [if_true, List.all_eq_true, List.mem_range] at he
    have e : (List.range (zNF n)).map (zfv Γ h n q) = (List.range (zNF n)).map (zfv Γ g n q) := by
      apply List.map_congr_left
      intro k hk
      have := he k (List.mem_range.mp hk)
      unfold zfv
      split at this
      · rename_i e1; simp only [e1]; rw [of_decide_eq_true this]
      · rename_i e1; simp only [e1]; rw [of_decide_eq_true this]
      · rename_i e1 e2
        split
        · rename_i e3; exact absurd e3 e1
        · rename_i e3; exact absurd e3 e2
        · rw [of_decide_eq_true this]
    rw [zcell_o] at hc ⊢
    rw [← e]
    exact hc
  · simp only [h0, if_false] at he
    by_cases h4 : t = 4
    · subst h4
      simp only [if_true, List.all_eq_true, List.mem_range, decide_eq_true_eq] at he
      have hc' : H[a]? = some (vp_cell (Γ.2.1 4) (n, .inr (.inl (h.2.2.1 q)))) := hc
      show H[a]? = some (vp_cell (Γ.2.1 4) (n, .inr (.inl (g.2.2.1 q))))
      rw [hc', vp_cell_l, vp_cell_l]
      congr 1
      exact zarrV_congr (fun k hk => by rw [he k hk])
    · simp only [h4, if_false, List.all_eq_true, List.mem_range, decide_eq_true_eq] at he
      have ez : ∀ f : zH, zcell Γ f q (t, n) = .inl (Γ.2.1 t, n, .inl (f.2.1 q)) := by
        intro f
        unfold zcell
        split
        · rename_i e; exact absurd e h0
        · rename_i e; exact absurd e h4
        · rfl
      rw [ez] at hc ⊢
      have hc' : H[a]? = some (vp_cell (Γ.2.1 t) (n, .inl (h.2.1 q))) := hc
      show H[a]? = some (vp_cell (Γ.2.1 t) (n, .inl (g.2.1 q)))
      rw [hc', vp_cell_i, vp_cell_i]
      congr 1
      exact zarrV_congr (fun k hk => by rw [he k hk])
theorem zRep_congr {Γ : zG} {al : Bool} {h g : zH} {H : Heap} (he : zeqB h g = true) (hr : zRep Γ al h H) : zRep Γ al g H := by
  simp only [zeqB, Bool.and_eq_true, decide_eq_true_eq, List.all_eq_true] at he
  obtain ⟨e1, e2⟩ := he
  refine ⟨fun k x hx => ?_, by rw [← e1]; exact hr.2.1, by rw [← e1]; exact hr.2.2.1, by rw [← e1]; exact hr.2.2.2⟩
  simp only [zws, List.getElem?_mapIdx] at hx
  cases hs : g.1[k]? with
  | none => rw [hs] at hx; cases hx
  | some s =>
    rw [hs] at hx
    cases hx
    have hs' : h.1[k]? = some s := by rw [e1]; exact hs
    have hm : (s, k) ∈ h.1.zipIdx := by rw [List.mem_zipIdx_iff_getElem?]; exact hs'
    exact zeqB_cell (e2 _ hm) (hr.1 k _ (zws_at hs'))
theorem zX_congr {l : Launch} {Γ : zG} {al : Bool} {d : Nat} {M : zHd} {QF : List Frame → Array Value → State → State → Prop} {cs ss pc : Nat} {lo : zL} {st : List Value} {h g : zH} (he : zeqB h g = true) (hX : zX l Γ al d M QF cs ss pc lo st g) : zX l Γ al d M QF cs ss pc lo st h :=
  fun a b p e s m args below meth c hc H locs ls hl hr hS => hX a b p e s m args below meth c hc H locs ls hl (zRep_congr he hr) hS
theorem zSem.mono {l : Launch} {Γ : zG} {al : Bool} {d : Nat} {M : zHd} {args : List Value} {h : zH} {K K' : Option Value → zH → Prop} (hs : zSem l Γ al d M args h K) (hk : ∀ r h', K r h' → K' r h') : zSem l Γ al d M args h K' := by
  intro p e ha hc hcl s m args' below hf happ hP hK
  obtain ⟨k, o, h1, h2, h3, ⟨⟨⟨r, h', e1, e2, e3⟩, e4⟩, h5⟩⟩ := hs p e ha hc hcl s m args' below hf happ hP hK
  exact ⟨k, o, h1, h2, h3, ⟨⟨r, h', e1, hk r h' e2, e3⟩, e4⟩, h5⟩
theorem zSem.congr {l : Launch} {Γ : zG} {al : Bool} {d : Nat} {M : zHd} {args : List Value} {h g : zH} {K : Option Value → zH → Prop} (he : zeqB h g = true) (hs : zSem l Γ al d M args g K) : zSem l Γ al d M args h K := by
  intro p e ha hc hcl s m args' below hf happ hP hK
  exact hs p e ha hc hcl s m args' below hf happ ⟨hP.1, hP.2.1, zRep_congr he hP.2.2⟩ hK
theorem zite {c A B : Prop} [Decidable c] (h1 : c → A) (h2 : ¬ c → B) : if c then A else B := by
  split
  · rename_i h; exact h1 h
  · rename_i h; exact h2 h
theorem zcon1 : zrun false true (fun _ => false) (zno false) 100000 9 0 [.ref 0] (znew zh00 (0, 0)) (fun r h => decide (r = none) && zeqB h zhx) = true := by decide +kernel
theorem zcon2 : zrun false true (fun _ => false) (zno false) 100000 9 186 [.ref 98] (znew zhx (0, 12)) (fun r h => decide (r = none) && zeqB h zhy) = true := by decide +kernel

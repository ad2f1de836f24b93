theorem zarrV_congr {c : ClassId} {n : Nat} {f g : Nat → Value} (h : ∀ k, k < n → f k = g k) : arrV c n f = arrV c n g := by
  unfold arrV
  congr 1
  apply Array.ext
  · simp
  · intro i h1 h2
    simp at h1
    simp [h i h1]
def zshC : List zSh := [(0, 0), (2, 700), (0, 1), (0, 2), (1, 21), (2, 0), (0, 3), (1, 72), (1, 6), (0, 4), (0, 5), (1, 5), (0, 5), (1, 48), (0, 5), (1, 20), (0, 5), (1, 40), (0, 5), (1, 6), (0, 6), (1, 64), (1, 3), (1, 3), (1, 7), (4, 64), (0, 4), (0, 5), (1, 5), (0, 5), (1, 48), (0, 5), (1, 20), (0, 5), (1, 40), (0, 5), (1, 6), (0, 6), (1, 64), (1, 3), (1, 3), (1, 7), (4, 64), (0, 7), (1, 8), (1, 8), (1, 8), (1, 8), (1, 10), (0, 7), (1, 8), (1, 8), (1, 8), (1, 8), (1, 10), (0, 7), (1, 8), (1, 8), (1, 8), (1, 8), (1, 10), (0, 8), (0, 4), (0, 5), (1, 5), (0, 5), (1, 48), (0, 5), (1, 20), (0, 5), (1, 40), (0, 5), (1, 6), (0, 6), (1, 64), (1, 3), (1, 3), (1, 7), (4, 64), (0, 9), (1, 1999), (1, 1999), (1, 64), (1, 8), (1, 8), (1, 16), (0, 10), (1, 20), (1, 20), (1, 20), (1, 20), (0, 11), (1, 24), (1, 24), (1, 24), (3, 24), (1, 24), (3, 24)]
def zItC : Lean.RArray (List Int32) := .branch 49 (.branch 24 (.branch 12 (.branch 6 (.branch 3 (.branch 1 (.leaf [0, 0, 0, -1]) (.branch 2 (.leaf []) (.leaf []))) (.branch 4 (.leaf [0, 0, 0, 0, 0, 0, 0, 0, 0, -1]) (.branch 5 (.leaf [437714944, 247516768, 693712896, 538738688, 647157920, 135708672, 642945024, 404455424, 214424576, 672923648, 781651968, 36165792, 72761056, 475114496, 116443749, 777650176, 538218496, 446125701, 486146048, 48365568, 522190848]) (.leaf [])))) (.branch 9 (.branch 7 (.leaf [0, 0, 0, 1, 1]) (.branch 8 (.leaf []) (.leaf []))) (.branch 10 (.leaf []) (.branch 11 (.leaf [5, 1]) (.leaf []))))) (.branch 18 (.branch 15 (.branch 13 (.leaf [8, 6]) (.branch 14 (.leaf []) (.leaf [10, 2]))) (.branch 16 (.leaf []) (.branch 17 (.leaf [10, 4]) (.leaf [])))) (.branch 21 (.branch 19 (.leaf [6, 1]) (.branch 20 (.leaf []) (.leaf []))) (.branch 22 (.leaf []) (.branch 23 (.leaf [-1, -1, -1]) (.leaf [])))))) (.branch 36 (.branch 30 (.branch 27 (.branch 25 (.leaf []) (.branch 26 (.leaf []) (.leaf []))) (.branch 28 (.leaf [5, 1]) (.branch 29 (.leaf []) (.leaf [8, 6])))) (.branch 33 (.branch 31 (.leaf []) (.branch 32 (.leaf [10, 2]) (.leaf []))) (.branch 34 (.leaf [10, 4]) (.branch 35 (.leaf []) (.leaf [6, 1]))))) (.branch 42 (.branch 39 (.branch 37 (.leaf []) (.branch 38 (.leaf []) (.leaf []))) (.branch 40 (.leaf [-1, -1, -1]) (.branch 41 (.leaf []) (.leaf [])))) (.branch 45 (.branch 43 (.leaf []) (.branch 44 (.leaf []) (.leaf []))) (.branch 47 (.branch 46 (.leaf []) (.leaf [])) (.branch 48 (.leaf []) (.leaf []))))))) (.branch 73 (.branch 61 (.branch 55 (.branch 52 (.branch 50 (.leaf []) (.branch 51 (.leaf []) (.leaf []))) (.branch 53 (.leaf []) (.branch 54 (.leaf []) (.leaf [])))) (.branch 58 (.branch 56 (.leaf []) (.branch 57 (.leaf []) (.leaf []))) (.branch 59 (.leaf []) (.branch 60 (.leaf []) (.leaf []))))) (.branch 67 (.branch 64 (.branch 62 (.leaf [0, 0, -1, -1, -1]) (.branch 63 (.leaf []) (.leaf [5, 1]))) (.branch 65 (.leaf []) (.branch 66 (.leaf [8, 6]) (.leaf [])))) (.branch 70 (.branch 68 (.leaf [10, 2]) (.branch 69 (.leaf []) (.leaf [10, 4]))) (.branch 71 (.leaf []) (.branch 72 (.leaf [6, 1]) (.leaf [])))))) (.branch 85 (.branch 79 (.branch 76 (.branch 74 (.leaf []) (.branch 75 (.leaf []) (.leaf [-1, -1, -1]))) (.branch 77 (.leaf []) (.branch 78 (.leaf []) (.leaf [])))) (.branch 82 (.branch 80 (.leaf []) (.branch 81 (.leaf []) (.leaf []))) (.branch 83 (.leaf []) (.branch 84 (.leaf []) (.leaf []))))) (.branch 91 (.branch 88 (.branch 86 (.leaf []) (.branch 87 (.leaf []) (.leaf []))) (.branch 89 (.leaf []) (.branch 90 (.leaf []) (.leaf [])))) (.branch 94 (.branch 92 (.leaf [0, 0, 0, 0, 0, 0, 0, -1]) (.branch 93 (.leaf []) (.leaf []))) (.branch 96 (.branch 95 (.leaf []) (.leaf [])) (.branch 97 (.leaf []) (.leaf [])))))))
def zPtC : Lean.RArray (List (Option Nat)) := .branch 49 (.branch 24 (.branch 12 (.branch 6 (.branch 3 (.branch 1 (.leaf [some 1, none, none, none, some 2, some 9, some 26, some 43, some 49, none, some 55, some 61, some 79, some 86, some 91]) (.branch 2 (.leaf []) (.leaf [some 3, some 6, some 8]))) (.branch 4 (.leaf [some 4, some 5]) (.branch 5 (.leaf []) (.leaf [])))) (.branch 9 (.branch 7 (.leaf [some 7]) (.branch 8 (.leaf []) (.leaf []))) (.branch 10 (.leaf [some 10, some 12, some 14, some 16, some 18, some 20]) (.branch 11 (.leaf [none, none, some 11]) (.leaf []))))) (.branch 18 (.branch 15 (.branch 13 (.leaf [none, none, some 13]) (.branch 14 (.leaf []) (.leaf [none, none, some 15]))) (.branch 16 (.leaf []) (.branch 17 (.leaf [none, none, some 17]) (.leaf [])))) (.branch 21 (.branch 19 (.leaf [none, none, some 19]) (.branch 20 (.leaf []) (.leaf [some 21, none, none, some 22, some 23, some 24, some 25]))) (.branch 22 (.leaf []) (.branch 23 (.leaf []) (.leaf [])))))) (.branch 36 (.branch 30 (.branch 27 (.branch 25 (.leaf []) (.branch 26 (.leaf []) (.leaf [some 27, some 29, some 31, some 33, some 35, some 37]))) (.branch 28 (.leaf [none, none, some 28]) (.branch 29 (.leaf []) (.leaf [none, none, some 30])))) (.branch 33 (.branch 31 (.leaf []) (.branch 32 (.leaf [none, none, some 32]) (.leaf []))) (.branch 34 (.leaf [none, none, some 34]) (.branch 35 (.leaf []) (.leaf [none, none, some 36]))))) (.branch 42 (.branch 39 (.branch 37 (.leaf []) (.branch 38 (.leaf [some 38, none, none, some 39, some 40, some 41, some 42]) (.leaf []))) (.branch 40 (.leaf []) (.branch 41 (.leaf []) (.leaf [])))) (.branch 45 (.branch 43 (.leaf []) (.branch 44 (.leaf [none, none, none, none, some 44, some 45, some 46, some 47, some 48]) (.leaf []))) (.branch 47 (.branch 46 (.leaf []) (.leaf [])) (.branch 48 (.leaf []) (.leaf []))))))) (.branch 73 (.branch 61 (.branch 55 (.branch 52 (.branch 50 (.leaf [none, none, none, none, some 50, some 51, some 52, some 53, some 54]) (.branch 51 (.leaf []) (.leaf []))) (.branch 53 (.leaf []) (.branch 54 (.leaf []) (.leaf [])))) (.branch 58 (.branch 56 (.leaf [none, none, none, none, some 56, some 57, some 58, some 59, some 60]) (.branch 57 (.leaf []) (.leaf []))) (.branch 59 (.leaf []) (.branch 60 (.leaf []) (.leaf []))))) (.branch 67 (.branch 64 (.branch 62 (.leaf [some 62]) (.branch 63 (.leaf [some 63, some 65, some 67, some 69, some 71, some 73]) (.leaf [none, none, some 64]))) (.branch 65 (.leaf []) (.branch 66 (.leaf [none, none, some 66]) (.leaf [])))) (.branch 70 (.branch 68 (.leaf [none, none, some 68]) (.branch 69 (.leaf []) (.leaf [none, none, some 70]))) (.branch 71 (.leaf []) (.branch 72 (.leaf [none, none, some 72]) (.leaf [])))))) (.branch 85 (.branch 79 (.branch 76 (.branch 74 (.leaf [some 74, none, none, some 75, some 76, some 77, some 78]) (.branch 75 (.leaf []) (.leaf []))) (.branch 77 (.leaf []) (.branch 78 (.leaf []) (.leaf [])))) (.branch 82 (.branch 80 (.leaf [some 80, some 81, some 82, some 83, some 84, some 85]) (.branch 81 (.leaf []) (.leaf []))) (.branch 83 (.leaf []) (.branch 84 (.leaf []) (.leaf []))))) (.branch 91 (.branch 88 (.branch 86 (.leaf []) (.branch 87 (.leaf [some 87, some 88, some 89, some 90]) (.leaf []))) (.branch 89 (.leaf []) (.branch 90 (.leaf []) (.leaf [])))) (.branch 94 (.branch 92 (.leaf [some 92, some 93, some 94, some 95, some 96, some 97]) (.branch 93 (.leaf []) (.leaf []))) (.branch 96 (.branch 95 (.leaf []) (.leaf [])) (.branch 97 (.leaf []) (.leaf [])))))))
/-- the class behind its constructor -/
def zhC : zH := (zshC, fun q k => (zItC.get q).getD k 0, fun _ _ => 0, fun q k => (zPtC.get q).getD k none)
def zshM0 : List zSh := [(0, 12), (1, 700), (1, 104), (3, 2), (1, 4), (1, 10), (1, 16), (1, 16), (1, 16), (1, 16), (1, 16), (1, 16), (1, 20), (1, 20), (1, 20), (1, 20), (1, 20), (1, 20), (1, 12), (3, 6), (1, 6), (1, 6), (1, 128), (1, 128), (1, 128), (1, 96), (1, 96), (4, 7), (4, 64), (1, 16), (1, 16), (3, 16), (1, 16), (1, 16), (1, 20), (1, 2), (1, 2), (1, 1999), (1, 1999), (1, 96), (3, 24), (1, 640), (1, 32), (1, 20)]
def zItM0 : Lean.RArray (List Int32) := .branch 22 (.branch 11 (.branch 5 (.branch 2 (.branch 1 (.leaf [0, 0, 0, 0, 0, -1, 0, 0, 0, 0, 0, 0, 0, 0, 0, 0, 0, 0, 0, 0, 0, 0, 0, 0, 0, 0, 0, 0, 0, 0, 0, 0, 0, 0, 0, 0, 0, 0, 0, 0, 0, 0, 0, 0, 0, 0, 0, 0, 0, 0, 0, 0, 0, 0, 0, 0, 0, 0, 0, 0, 0, 0, 0, 0, 0, 0, 0, 0, 0, 0, 0, 0, 0, 0, 0, 0, 0, -1]) (.leaf [])) (.branch 3 (.leaf [109, 97, 110, 32, 103, 108, 97, 115, 115, 32, 116, 117, 114, 110, 32, 112, 97, 121, 32, 115, 105, 101, 118, 101, 32, 100, 97, 109, 112, 32, 115, 101, 101, 100, 32, 108, 97, 119, 32, 102, 108, 111, 119, 32, 116, 97, 120, 32, 119, 105, 110, 100, 32, 97, 110, 100, 32, 111, 114, 32, 110, 111, 116, 32, 97, 98, 111, 118, 101, 32, 98, 101, 108, 111, 119, 32, 110, 101, 99, 107, 32, 99, 111, 97, 114, 115, 101, 32, 119, 101, 116, 32, 112, 97, 105, 100, 32, 109, 105, 110, 117, 116, 101, 32]) (.branch 4 (.leaf []) (.leaf [])))) (.branch 8 (.branch 6 (.leaf []) (.branch 7 (.leaf []) (.leaf []))) (.branch 9 (.leaf []) (.branch 10 (.leaf []) (.leaf []))))) (.branch 16 (.branch 13 (.branch 12 (.leaf []) (.leaf [])) (.branch 14 (.leaf []) (.branch 15 (.leaf []) (.leaf [])))) (.branch 19 (.branch 17 (.leaf []) (.branch 18 (.leaf []) (.leaf []))) (.branch 20 (.leaf []) (.branch 21 (.leaf []) (.leaf [])))))) (.branch 33 (.branch 27 (.branch 24 (.branch 23 (.leaf []) (.leaf [])) (.branch 25 (.leaf []) (.branch 26 (.leaf []) (.leaf [])))) (.branch 30 (.branch 28 (.leaf []) (.branch 29 (.leaf []) (.leaf []))) (.branch 31 (.leaf []) (.branch 32 (.leaf []) (.leaf []))))) (.branch 38 (.branch 35 (.branch 34 (.leaf []) (.leaf [])) (.branch 36 (.leaf []) (.branch 37 (.leaf []) (.leaf [])))) (.branch 41 (.branch 39 (.leaf []) (.branch 40 (.leaf []) (.leaf []))) (.branch 42 (.leaf []) (.branch 43 (.leaf []) (.leaf []))))))
def zPtM0 : Lean.RArray (List (Option Nat)) := .branch 22 (.branch 11 (.branch 5 (.branch 2 (.branch 1 (.leaf [some 1, none, none, some 2, none, none, none, none, none, none, none, none, none, none, none, none, none, none, none, none, none, none, none, none, some 3, some 4, some 5, some 6, some 7, some 8, some 9, some 10, some 11, some 12, some 13, some 14, some 15, some 16, some 17, some 18, some 19, some 20, some 21, some 22, some 23, some 24, some 25, some 26, none, none, none, none, none, none, some 27, some 28, none, some 29, some 30, some 31, some 32, some 33, some 34, some 35, some 36, none, none, none, none, none, none, none, none, none, some 37, some 38, none, none, some 39, some 40, none, some 41, none, some 42, some 43]) (.leaf [])) (.branch 3 (.leaf []) (.branch 4 (.leaf []) (.leaf [])))) (.branch 8 (.branch 6 (.leaf []) (.branch 7 (.leaf []) (.leaf []))) (.branch 9 (.leaf []) (.branch 10 (.leaf []) (.leaf []))))) (.branch 16 (.branch 13 (.branch 12 (.leaf []) (.leaf [])) (.branch 14 (.leaf []) (.branch 15 (.leaf []) (.leaf [])))) (.branch 19 (.branch 17 (.leaf []) (.branch 18 (.leaf []) (.leaf []))) (.branch 20 (.leaf []) (.branch 21 (.leaf []) (.leaf [])))))) (.branch 33 (.branch 27 (.branch 24 (.branch 23 (.leaf []) (.leaf [])) (.branch 25 (.leaf []) (.branch 26 (.leaf []) (.leaf [])))) (.branch 30 (.branch 28 (.leaf []) (.branch 29 (.leaf []) (.leaf []))) (.branch 31 (.leaf []) (.branch 32 (.leaf []) (.leaf []))))) (.branch 38 (.branch 35 (.branch 34 (.leaf []) (.leaf [])) (.branch 36 (.leaf []) (.branch 37 (.leaf []) (.leaf [])))) (.branch 41 (.branch 39 (.leaf []) (.branch 40 (.leaf []) (.leaf []))) (.branch 42 (.leaf []) (.branch 43 (.leaf []) (.leaf []))))))
/-- the reference before its constructor keeps the text -/
def zhM0 : zH := (zshM0, fun q k => (zItM0.get q).getD k 0, fun _ _ => 0, fun q k => (zPtM0.get q).getD k none)
def zshM : List zSh := [(0, 12), (1, 700), (1, 104), (3, 2), (1, 4), (1, 10), (1, 16), (1, 16), (1, 16), (1, 16), (1, 16), (1, 16), (1, 20), (1, 20), (1, 20), (1, 20), (1, 20), (1, 20), (1, 12), (3, 6), (1, 6), (1, 6), (1, 128), (1, 128), (1, 128), (1, 96), (1, 96), (4, 7), (4, 64), (1, 16), (1, 16), (3, 16), (1, 16), (1, 16), (1, 20), (1, 2), (1, 2), (1, 1999), (1, 1999), (1, 96), (3, 24), (1, 640), (1, 32), (1, 20)]
def zItM : Lean.RArray (List Int32) := .branch 22 (.branch 11 (.branch 5 (.branch 2 (.branch 1 (.leaf [0, 0, 0, 0, 0, -1, 0, 0, 0, 0, 0, 0, 0, 0, 0, 0, 0, 0, 0, 0, 0, 0, 0, 0, 0, 0, 0, 0, 0, 0, 0, 0, 0, 0, 0, 0, 0, 0, 0, 0, 0, 0, 0, 0, 0, 0, 0, 0, 0, 0, 0, 0, 0, 0, 0, 0, 0, 0, 0, 0, 0, 0, 0, 0, 0, 0, 0, 0, 0, 0, 0, -1, -1, 0, 0, 0, 0, -1]) (.leaf [])) (.branch 3 (.leaf [109, 97, 110, 32, 103, 108, 97, 115, 115, 32, 116, 117, 114, 110, 32, 112, 97, 121, 32, 115, 105, 101, 118, 101, 32, 100, 97, 109, 112, 32, 115, 101, 101, 100, 32, 108, 97, 119, 32, 102, 108, 111, 119, 32, 116, 97, 120, 32, 119, 105, 110, 100, 32, 97, 110, 100, 32, 111, 114, 32, 110, 111, 116, 32, 97, 98, 111, 118, 101, 32, 98, 101, 108, 111, 119, 32, 110, 101, 99, 107, 32, 99, 111, 97, 114, 115, 101, 32, 119, 101, 116, 32, 112, 97, 105, 100, 32, 109, 105, 110, 117, 116, 101, 32]) (.branch 4 (.leaf []) (.leaf [])))) (.branch 8 (.branch 6 (.leaf []) (.branch 7 (.leaf []) (.leaf []))) (.branch 9 (.leaf []) (.branch 10 (.leaf []) (.leaf []))))) (.branch 16 (.branch 13 (.branch 12 (.leaf []) (.leaf [])) (.branch 14 (.leaf []) (.branch 15 (.leaf []) (.leaf [])))) (.branch 19 (.branch 17 (.leaf []) (.branch 18 (.leaf []) (.leaf []))) (.branch 20 (.leaf []) (.branch 21 (.leaf []) (.leaf [])))))) (.branch 33 (.branch 27 (.branch 24 (.branch 23 (.leaf []) (.leaf [])) (.branch 25 (.leaf []) (.branch 26 (.leaf []) (.leaf [])))) (.branch 30 (.branch 28 (.leaf []) (.branch 29 (.leaf []) (.leaf []))) (.branch 31 (.leaf []) (.branch 32 (.leaf []) (.leaf []))))) (.branch 38 (.branch 35 (.branch 34 (.leaf []) (.leaf [])) (.branch 36 (.leaf []) (.branch 37 (.leaf []) (.leaf [])))) (.branch 41 (.branch 39 (.leaf []) (.branch 40 (.leaf []) (.leaf []))) (.branch 42 (.leaf []) (.branch 43 (.leaf []) (.leaf []))))))
def zPtM : Lean.RArray (List (Option Nat)) := .branch 22 (.branch 11 (.branch 5 (.branch 2 (.branch 1 (.leaf [some 1, none, none, some 2, none, none, none, none, none, none, none, none, none, none, none, none, none, none, none, none, none, none, none, none, some 3, some 4, some 5, some 6, some 7, some 8, some 9, some 10, some 11, some 12, some 13, some 14, some 15, some 16, some 17, some 18, some 19, some 20, some 21, some 22, some 23, some 24, some 25, some 26, none, none, none, none, none, none, some 27, some 28, none, some 29, some 30, some 31, some 32, some 33, some 34, some 35, some 36, none, none, none, none, none, none, none, none, none, some 37, some 38, none, none, some 39, some 40, none, some 41, none, some 42, some 43]) (.leaf [])) (.branch 3 (.leaf []) (.branch 4 (.leaf []) (.leaf [])))) (.branch 8 (.branch 6 (.leaf []) (.branch 7 (.leaf []) (.leaf []))) (.branch 9 (.leaf []) (.branch 10 (.leaf []) (.leaf []))))) (.branch 16 (.branch 13 (.branch 12 (.leaf []) (.leaf [])) (.branch 14 (.leaf []) (.branch 15 (.leaf []) (.leaf [])))) (.branch 19 (.branch 17 (.leaf []) (.branch 18 (.leaf []) (.leaf []))) (.branch 20 (.leaf []) (.branch 21 (.leaf []) (.leaf [])))))) (.branch 33 (.branch 27 (.branch 24 (.branch 23 (.leaf []) (.leaf [])) (.branch 25 (.leaf []) (.branch 26 (.leaf []) (.leaf [])))) (.branch 30 (.branch 28 (.leaf []) (.branch 29 (.leaf []) (.leaf []))) (.branch 31 (.leaf []) (.branch 32 (.leaf []) (.leaf []))))) (.branch 38 (.branch 35 (.branch 34 (.leaf []) (.leaf [])) (.branch 36 (.leaf []) (.branch 37 (.leaf []) (.leaf [])))) (.branch 41 (.branch 39 (.leaf []) (.branch 40 (.leaf []) (.leaf []))) (.branch 42 (.leaf []) (.branch 43 (.leaf []) (.leaf []))))))
/-- the reference behind its constructor -/
def zhM : zH := (zshM, fun q k => (zItM.get q).getD k 0, fun _ _ => 0, fun q k => (zPtM.get q).getD k none)
/-- how many places a cell has -/
def zsz (s : zSh) : Nat := if s.1 = 0 then zNF s.2 else s.2
def zeqC (h g : zH) (q : Nat) (s : zSh) : Bool :=
  if s.1 = 0 then (List.range (zNF s.2)).all (fun k => match zkind s.2 k with
    | 1 => decide (h.2.2.1 q k = g.2.2.1 q k)
    | 2 => decide (h.2.2.2 q k = g.2.2.2 q k)
    | _ => decide (h.2.1 q k = g.2.1 q k))
  else if s.1 = 4 then (List.range s.2).all (fun k => decide (h.2.2.1 q k = g.2.2.1 q k)) else (List.range s.2).all (fun k => decide (h.2.1 q k = g.2.1 q k))
/-- two worlds agree wherever a cell looks -/
def zeqB (h g : zH) : Bool := decide (h.1 = g.1) && h.1.zipIdx.all (fun x => zeqC h g x.2 x.1)
theorem zeqB_cell {Γ : zG} {h g : zH} {q : Nat} {s : zSh} (he : zeqC h g q s = true) {D : va_G} {cl : List vw_C} {a : Nat} {H : Heap} (hc : va_at D cl (a, zcell Γ h q s) H) : va_at D cl (a, zcell Γ g q s) H := by
  obtain ⟨t, n⟩ := s
  unfold zeqC at he
  by_cases h0 : t = 0
  · subst h0
    simp only [if_true, List.all_eq_true, List.mem_range] at he
    have e : (List.range (zNF n)).map (zfv Γ h n q) = (List.range (zNF n)).map (zfv Γ g n q) := by
      apply List.map_congr_left
      intro k hk
      have := he k (List.mem_range.mp hk)
      unfold zfv
      split at this
      · rename_i e1; simp only [e1]; rw [of_decide_eq_true this]
      · rename_i e1; simp only [e1]; rw [of_decide_eq_true this]
      · rename_i e1 e2
        split
        · rename_i e3; exact absurd e3 e1
        · rename_i e3; exact absurd e3 e2
        · rw [of_decide_eq_true this]
    rw [zcell_o] at hc ⊢
    rw [← e]
    exact hc
  · simp only [h0, if_false] at he
    by_cases h4 : t = 4
    · subst h4
      simp only [if_true, List.all_eq_true, List.mem_range, decide_eq_true_eq] at he
      have hc' : H[a]? = some (vp_cell (Γ.2.1 4) (n, .inr (.inl (h.2.2.1 q)))) := hc
      show H[a]? = some (vp_cell (Γ.2.1 4) (n, .inr (.inl (g.2.2.1 q))))
      rw [hc', vp_cell_l, vp_cell_l]
      congr 1
      exact zarrV_congr (fun k hk => by rw [he k hk])
    · simp only [h4, if_false, List.all_eq_true, List.mem_range, decide_eq_true_eq] at he
      have ez : ∀ f : zH, zcell Γ f q (t, n) = .inl (Γ.2.1 t, n, .inl (f.2.1 q)) := by
        intro f
        unfold zcell
        split
        · rename_i e; exact absurd e h0
        · rename_i e; exact absurd e h4
        · rfl
      rw [ez] at hc ⊢
      have hc' : H[a]? = some (vp_cell (Γ.2.1 t) (n, .inl (h.2.1 q))) := hc
      show H[a]? = some (vp_cell (Γ.2.1 t) (n, .inl (g.2.1 q)))
      rw [hc', vp_cell_i, vp_cell_i]
      congr 1
      exact zarrV_congr (fun k hk => by rw [he k hk])
theorem zRep_congr {Γ : zG} {al : Bool} {h g : zH} {H : Heap} (he : zeqB h g = true) (hr : zRep Γ al h H) : zRep Γ al g H := by
  simp only [zeqB, Bool.and_eq_true, decide_eq_true_eq, List.all_eq_true] at he
  obtain ⟨e1, e2⟩ := he
  refine ⟨fun k x hx => ?_, by rw [← e1]; exact hr.2.1, by rw [← e1]; exact hr.2.2.1, by rw [← e1]; exact hr.2.2.2⟩
  simp only [zws, List.getElem?_mapIdx] at hx
  cases hs : g.1[k]? with
  | none => rw [hs] at hx; cases hx
  | some s =>
    rw [hs] at hx
    cases hx
    have hs' : h.1[k]? = some s := by rw [e1]; exact hs
    have hm : (s, k) ∈ h.1.zipIdx := by rw [List.mem_zipIdx_iff_getElem?]; exact hs'
    exact zeqB_cell (e2 _ hm) (hr.1 k _ (zws_at hs'))
theorem zX_congr {l : Launch} {Γ : zG} {al : Bool} {d : Nat} {M : zHd} {QF : List Frame → Array Value → State → State → Prop} {cs ss pc : Nat} {lo : zL} {st : List Value} {h g : zH} (he : zeqB h g = true) (hX : zX l Γ al d M QF cs ss pc lo st g) : zX l Γ al d M QF cs ss pc lo st h :=
  fun a b p e s m args below meth c hc H locs ls hl hr hS => hX a b p e s m args below meth c hc H locs ls hl (zRep_congr he hr) hS
theorem zSem.mono {l : Launch} {Γ : zG} {al : Bool} {d : Nat} {M : zHd} {args : List Value} {h : zH} {K K' : Option Value → zH → Prop} (hs : zSem l Γ al d M args h K) (hk : ∀ r h', K r h' → K' r h') : zSem l Γ al d M args h K' := by
  intro p e ha hc hcl s m args' below hf happ hP hK
  obtain ⟨k, o, h1, h2, h3, ⟨⟨⟨r, h', e1, e2, e3⟩, e4⟩, h5⟩⟩ := hs p e ha hc hcl s m args' below hf happ hP hK
  exact ⟨k, o, h1, h2, h3, ⟨⟨r, h', e1, hk r h' e2, e3⟩, e4⟩, h5⟩
theorem zSem.congr {l : Launch} {Γ : zG} {al : Bool} {d : Nat} {M : zHd} {args : List Value} {h g : zH} {K : Option Value → zH → Prop} (he : zeqB h g = true) (hs : zSem l Γ al d M args g K) : zSem l Γ al d M args h K := by
  intro p e ha hc hcl s m args' below hf happ hP hK
  exact hs p e ha hc hcl s m args' below hf happ ⟨hP.1, hP.2.1, zRep_congr he hP.2.2⟩ hK
theorem zite {c A B : Prop} [Decidable c] (h1 : c → A) (h2 : ¬ c → B) : if c then A else B := by
  split
  · rename_i h; exact h1 h
  · rename_i h; exact h2 h
theorem zSem.norm {l : Launch} {Γ : zG} {al : Bool} {d : Nat} {M : zHd} {args : List Value} {h g : zH} {r0 : Option Value} (hs : zSem l Γ al d M args h (fun r h' => (decide (r = r0) && zeqB h' g) = true)) : zSem l Γ al d M args h (fun r h' => r = r0 ∧ h' = g) := by
  intro p e ha hc hcl s m args' below hf happ hP hK
  obtain ⟨k, o, h1, h2, h3, ⟨⟨⟨r, h', e1, e2, e3⟩, e4⟩, h5⟩⟩ := hs p e ha hc hcl s m args' below hf happ hP hK
  simp only [Bool.and_eq_true, decide_eq_true_eq] at e2
  exact ⟨k, o, h1, h2, h3, ⟨⟨r, g, e1, ⟨e2.1, rfl⟩, zRep_congr e2.2 e3⟩, e4⟩, h5⟩
/-- a piece of a body, up to a stop, in a closed world -/
def zpiece (M : zM) (al : Bool) (d : Nat) (stop : Nat) (c0 s0 : Nat) (lo0 : zL) (st0 : List Value) (g : zH) (K : Option Value → zH → Bool) (n cs ss pc : Nat) (lo : zL) (st : List Value) (h : zH) : Bool :=
  zit false M al none (zrun false al (fun _ => false) (zno false) n d) K (fun p => Nat.beq p stop) (fun cs ss _ lo st h => decide (cs = c0 ∧ ss = s0 ∧ lo = lo0 ∧ st = st0) && zeqB h g) n cs ss pc lo st h
theorem zpiece_ok {l : Launch} {Γ : zG} {al : Bool} {M : zM} {QF : List Frame → Array Value → State → State → Prop} {d stop c0 s0 n cs ss pc : Nat} {lo0 lo : zL} {st0 st : List Value} {g h : zH} {K : Option Value → zH → Bool} (hck : zckB M = true) (hQ : ∀ below args s t, MQ below (zQ Γ al (fun r h' => K r h' = true)) args s M.1.2.2.2.2.1 M.1.2.2.2.2.2 (zA Γ) t → QF below args s t)
    (ht : zpiece M al d stop c0 s0 lo0 st0 g K n cs ss pc lo st h = true) (hX : zX l Γ al (d + 1) M.1 QF c0 s0 stop lo0 st0 g) : zX l Γ al (d + 1) M.1 QF cs ss pc lo st h := by
  refine zit_ok (tr := fun b => b = true) (by decide) hck (fun mi args h K' _ h1 => zrun_ok (tr := fun b => b = true) (by decide) rfl (fun _ _ _ _ _ h => by cases h) n d mi args h K' h1) (fun args h K' h1 => absurd (by rw [zrun_GL rfl] at h1; exact h1) (by decide)) (fun _ h => by cases h) hQ ?_ n cs ss pc lo st h ht
  intro cs ss pc lo st h hs h1
  have e : pc = stop := Nat.eq_of_beq_eq_true hs
  simp only [Bool.and_eq_true, decide_eq_true_eq] at h1
  obtain ⟨⟨rfl, rfl, rfl, rfl⟩, h2⟩ := h1
  subst e
  exact zX_congr h2 hX
def zff : Nat → List Value → zH → Bool := fun _ _ _ => false
theorem zcon1 : zrun false true (fun _ => false) (zno false) 100000 9 0 [.ref 0] (znew zh00 (0, 0)) (fun r h => decide (r = none) && zeqB h zhC) = true := by decide +kernel
theorem zkt0 : zpiece (zh188, zc188) true 7 82 0 0 [(0, .ref 0)] [] zhM0 (fun _ _ => false) 100000 0 0 0 [(0, .ref 0)] [] zhM0 = true := by decide +kernel
theorem zkt82 : zpiece (zh188, zc188) true 7 118 0 0 [(0, .ref 0)] [] zhM0 (fun _ _ => false) 100000 0 0 82 [(0, .ref 0)] [] zhM0 = true := by decide +kernel
theorem zkt118 : zpiece (zh188, zc188) true 7 145 0 0 [(0, .ref 0)] [] zhM0 (fun _ _ => false) 100000 0 0 118 [(0, .ref 0)] [] zhM0 = true := by decide +kernel
theorem zkt145 : zpiece (zh188, zc188) true 7 181 0 0 [(0, .ref 0)] [] zhM0 (fun _ _ => false) 100000 0 0 145 [(0, .ref 0)] [] zhM0 = true := by decide +kernel
theorem zkt181 : zpiece (zh188, zc188) true 7 224 0 0 [(1, .int 3), (0, .ref 0)] [] zhM0 (fun _ _ => false) 100000 0 0 181 [(0, .ref 0)] [] zhM0 = true := by decide +kernel
theorem zkt224 : zpiece (zh188, zc188) true 7 233 0 0 [(1, .int 3), (0, .ref 0)] [] zhM0 (fun _ _ => false) 100000 0 0 224 [(1, .int 3), (0, .ref 0)] [] zhM0 = true := by decide +kernel
theorem zkt233 : zpiece (zh188, zc188) true 7 242 0 0 [(1, .int 3), (0, .ref 0)] [] zhM0 (fun _ _ => false) 100000 0 0 233 [(1, .int 3), (0, .ref 0)] [] zhM0 = true := by decide +kernel
theorem zkt242 : zpiece (zh188, zc188) true 7 251 0 0 [(1, .int 3), (0, .ref 0)] [] zhM0 (fun _ _ => false) 100000 0 0 242 [(1, .int 3), (0, .ref 0)] [] zhM0 = true := by decide +kernel
theorem zkt251 : zit false (zh188, zc188) true none (zrun false true (fun _ => false) (zno false) 100000 7) (fun r h => decide (r = none) && zeqB h zhM) (fun _ => false) (fun _ _ _ _ _ _ => false) 100000 0 0 251 [(1, .int 3), (0, .ref 0)] [] zhM0 = true := by decide +kernel
theorem zcon_kt (l : Launch) (Γ : zG) : zSem l Γ true 8 (zhd 188) [.ref 0] zhM0 (fun r h' => r = none ∧ h' = zhM) := by
  refine zSem.norm (zbody (by decide +kernel) (by decide) ?_)
  have hK9 : ∀ (b : List Frame) (a : Array Value) (s t : State), MQ b (zQ Γ true (fun r h' => (fun _ _ => false : Option Value → zH → Bool) r h' = true)) a s (zhd 188).2.2.2.2.1 (zhd 188).2.2.2.2.2 (zA Γ) t → zMQ' Γ true (zhd 188) (fun r h' => (decide (r = none) && zeqB h' zhM) = true) b a s t := by
    intro b a s t h
    obtain ⟨o, h1, h2, ⟨⟨r, h', e1, e2, e3⟩, e4⟩, h5⟩ := h
    cases e2
  exact zpiece_ok (M := (zh188, zc188)) zckm188 (fun b a s t hh => hK9 b a s t hh) zkt0 (zpiece_ok (M := (zh188, zc188)) zckm188 (fun b a s t hh => hK9 b a s t hh) zkt82 (zpiece_ok (M := (zh188, zc188)) zckm188 (fun b a s t hh => hK9 b a s t hh) zkt118 (zpiece_ok (M := (zh188, zc188)) zckm188 (fun b a s t hh => hK9 b a s t hh) zkt145 (zpiece_ok (M := (zh188, zc188)) zckm188 (fun b a s t hh => hK9 b a s t hh) zkt181 (zpiece_ok (M := (zh188, zc188)) zckm188 (fun b a s t hh => hK9 b a s t hh) zkt224 (zpiece_ok (M := (zh188, zc188)) zckm188 (fun b a s t hh => hK9 b a s t hh) zkt233 (zpiece_ok (M := (zh188, zc188)) zckm188 (fun b a s t hh => hK9 b a s t hh) zkt242 (zit_ok (M := (zh188, zc188)) (tr := fun b => b = true) (by decide) zckm188 (fun mi args h K _ h1 => zrun_ok (tr := fun b => b = true) (by decide) rfl (fun _ _ _ _ _ h => by cases h) 100000 7 mi args h K h1) (fun args h K h1 => absurd (by rw [zrun_GL rfl] at h1; exact h1) (by decide)) (fun _ h => by cases h) (fun _ _ _ _ h => h) (fun _ _ _ _ _ _ h => by cases h) 100000 0 0 251 _ [] _ zkt251))))))))
def zspK (mi : Nat) : Bool := Nat.beq mi 188
def zSpK (d : Nat) (_ : Nat) (args : List Value) (h : zH) (K : Option Value → zH → Bool) : Bool := decide (d = 8) && decide (args = [.ref 0]) && zeqB h zhM0 && K none zhM
theorem zcon2 : zrun false true zspK zSpK 100000 9 186 [.ref 0] (znew zh00 (0, 12)) (fun r h => decide (r = none) && zeqB h zhM) = true := by decide +kernel

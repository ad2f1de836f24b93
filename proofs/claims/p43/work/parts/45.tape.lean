/-! feed and text by the length of the tape: the contracts -/
theorem yfC (l : Launch) (Γ : zG) : ∀ i : Nat, i < 35 → sCon l Γ swC 26 (sfC (20 * (i : Int)))
  | 0, _ => schk_ok (T := sT0) (fun _ _ h => nomatch h) xfC0
  | 1, _ => schk_ok (T := sT0) (fun _ _ h => nomatch h) xfC1
  | 2, _ => schk_ok (T := sT0) (fun _ _ h => nomatch h) xfC2
  | 3, _ => schk_ok (T := sT0) (fun _ _ h => nomatch h) xfC3
  | 4, _ => schk_ok (T := sT0) (fun _ _ h => nomatch h) xfC4
  | 5, _ => schk_ok (T := sT0) (fun _ _ h => nomatch h) xfC5
  | 6, _ => schk_ok (T := sT0) (fun _ _ h => nomatch h) xfC6
  | 7, _ => schk_ok (T := sT0) (fun _ _ h => nomatch h) xfC7
  | 8, _ => schk_ok (T := sT0) (fun _ _ h => nomatch h) xfC8
  | 9, _ => schk_ok (T := sT0) (fun _ _ h => nomatch h) xfC9
  | 10, _ => schk_ok (T := sT0) (fun _ _ h => nomatch h) xfC10
  | 11, _ => schk_ok (T := sT0) (fun _ _ h => nomatch h) xfC11
  | 12, _ => schk_ok (T := sT0) (fun _ _ h => nomatch h) xfC12
  | 13, _ => schk_ok (T := sT0) (fun _ _ h => nomatch h) xfC13
  | 14, _ => schk_ok (T := sT0) (fun _ _ h => nomatch h) xfC14
  | 15, _ => schk_ok (T := sT0) (fun _ _ h => nomatch h) xfC15
  | 16, _ => schk_ok (T := sT0) (fun _ _ h => nomatch h) xfC16
  | 17, _ => schk_ok (T := sT0) (fun _ _ h => nomatch h) xfC17
  | 18, _ => schk_ok (T := sT0) (fun _ _ h => nomatch h) xfC18
  | 19, _ => schk_ok (T := sT0) (fun _ _ h => nomatch h) xfC19
  | 20, _ => schk_ok (T := sT0) (fun _ _ h => nomatch h) xfC20
  | 21, _ => schk_ok (T := sT0) (fun _ _ h => nomatch h) xfC21
  | 22, _ => schk_ok (T := sT0) (fun _ _ h => nomatch h) xfC22
  | 23, _ => schk_ok (T := sT0) (fun _ _ h => nomatch h) xfC23
  | 24, _ => schk_ok (T := sT0) (fun _ _ h => nomatch h) xfC24
  | 25, _ => schk_ok (T := sT0) (fun _ _ h => nomatch h) xfC25
  | 26, _ => schk_ok (T := sT0) (fun _ _ h => nomatch h) xfC26
  | 27, _ => schk_ok (T := sT0) (fun _ _ h => nomatch h) xfC27
  | 28, _ => schk_ok (T := sT0) (fun _ _ h => nomatch h) xfC28
  | 29, _ => schk_ok (T := sT0) (fun _ _ h => nomatch h) xfC29
  | 30, _ => schk_ok (T := sT0) (fun _ _ h => nomatch h) xfC30
  | 31, _ => schk_ok (T := sT0) (fun _ _ h => nomatch h) xfC31
  | 32, _ => schk_ok (T := sT0) (fun _ _ h => nomatch h) xfC32
  | 33, _ => schk_ok (T := sT0) (fun _ _ h => nomatch h) xfC33
  | 34, _ => schk_ok (T := sT0) (fun _ _ h => nomatch h) xfC34
  | n + 35, h => absurd h (by omega)
theorem yfM (l : Launch) (Γ : zG) : ∀ i : Nat, i < 35 → sCon l Γ swM 193 (sfM (20 * (i : Int)))
  | 0, _ => schk_ok (T := sT0) (fun _ _ h => nomatch h) xfM0
  | 1, _ => schk_ok (T := sT0) (fun _ _ h => nomatch h) xfM1
  | 2, _ => schk_ok (T := sT0) (fun _ _ h => nomatch h) xfM2
  | 3, _ => schk_ok (T := sT0) (fun _ _ h => nomatch h) xfM3
  | 4, _ => schk_ok (T := sT0) (fun _ _ h => nomatch h) xfM4
  | 5, _ => schk_ok (T := sT0) (fun _ _ h => nomatch h) xfM5
  | 6, _ => schk_ok (T := sT0) (fun _ _ h => nomatch h) xfM6
  | 7, _ => schk_ok (T := sT0) (fun _ _ h => nomatch h) xfM7
  | 8, _ => schk_ok (T := sT0) (fun _ _ h => nomatch h) xfM8
  | 9, _ => schk_ok (T := sT0) (fun _ _ h => nomatch h) xfM9
  | 10, _ => schk_ok (T := sT0) (fun _ _ h => nomatch h) xfM10
  | 11, _ => schk_ok (T := sT0) (fun _ _ h => nomatch h) xfM11
  | 12, _ => schk_ok (T := sT0) (fun _ _ h => nomatch h) xfM12
  | 13, _ => schk_ok (T := sT0) (fun _ _ h => nomatch h) xfM13
  | 14, _ => schk_ok (T := sT0) (fun _ _ h => nomatch h) xfM14
  | 15, _ => schk_ok (T := sT0) (fun _ _ h => nomatch h) xfM15
  | 16, _ => schk_ok (T := sT0) (fun _ _ h => nomatch h) xfM16
  | 17, _ => schk_ok (T := sT0) (fun _ _ h => nomatch h) xfM17
  | 18, _ => schk_ok (T := sT0) (fun _ _ h => nomatch h) xfM18
  | 19, _ => schk_ok (T := sT0) (fun _ _ h => nomatch h) xfM19
  | 20, _ => schk_ok (T := sT0) (fun _ _ h => nomatch h) xfM20
  | 21, _ => schk_ok (T := sT0) (fun _ _ h => nomatch h) xfM21
  | 22, _ => schk_ok (T := sT0) (fun _ _ h => nomatch h) xfM22
  | 23, _ => schk_ok (T := sT0) (fun _ _ h => nomatch h) xfM23
  | 24, _ => schk_ok (T := sT0) (fun _ _ h => nomatch h) xfM24
  | 25, _ => schk_ok (T := sT0) (fun _ _ h => nomatch h) xfM25
  | 26, _ => schk_ok (T := sT0) (fun _ _ h => nomatch h) xfM26
  | 27, _ => schk_ok (T := sT0) (fun _ _ h => nomatch h) xfM27
  | 28, _ => schk_ok (T := sT0) (fun _ _ h => nomatch h) xfM28
  | 29, _ => schk_ok (T := sT0) (fun _ _ h => nomatch h) xfM29
  | 30, _ => schk_ok (T := sT0) (fun _ _ h => nomatch h) xfM30
  | 31, _ => schk_ok (T := sT0) (fun _ _ h => nomatch h) xfM31
  | 32, _ => schk_ok (T := sT0) (fun _ _ h => nomatch h) xfM32
  | 33, _ => schk_ok (T := sT0) (fun _ _ h => nomatch h) xfM33
  | 34, _ => schk_ok (T := sT0) (fun _ _ h => nomatch h) xfM34
  | n + 35, h => absurd h (by omega)
theorem ytC (l : Launch) (Γ : zG) : ∀ i : Nat, i < 36 → sCon l Γ swC 28 (stC (20 * (i : Int)))
  | 0, _ => schk_ok (T := sTC) (fun mi c hc _ => sTC_ok l Γ mi c hc) xtC0
  | 1, _ => schk_ok (T := sTC) (fun mi c hc _ => sTC_ok l Γ mi c hc) xtC1
  | 2, _ => schk_ok (T := sTC) (fun mi c hc _ => sTC_ok l Γ mi c hc) xtC2
  | 3, _ => schk_ok (T := sTC) (fun mi c hc _ => sTC_ok l Γ mi c hc) xtC3
  | 4, _ => schk_ok (T := sTC) (fun mi c hc _ => sTC_ok l Γ mi c hc) xtC4
  | 5, _ => schk_ok (T := sTC) (fun mi c hc _ => sTC_ok l Γ mi c hc) xtC5
  | 6, _ => schk_ok (T := sTC) (fun mi c hc _ => sTC_ok l Γ mi c hc) xtC6
  | 7, _ => schk_ok (T := sTC) (fun mi c hc _ => sTC_ok l Γ mi c hc) xtC7
  | 8, _ => schk_ok (T := sTC) (fun mi c hc _ => sTC_ok l Γ mi c hc) xtC8
  | 9, _ => schk_ok (T := sTC) (fun mi c hc _ => sTC_ok l Γ mi c hc) xtC9
  | 10, _ => schk_ok (T := sTC) (fun mi c hc _ => sTC_ok l Γ mi c hc) xtC10
  | 11, _ => schk_ok (T := sTC) (fun mi c hc _ => sTC_ok l Γ mi c hc) xtC11
  | 12, _ => schk_ok (T := sTC) (fun mi c hc _ => sTC_ok l Γ mi c hc) xtC12
  | 13, _ => schk_ok (T := sTC) (fun mi c hc _ => sTC_ok l Γ mi c hc) xtC13
  | 14, _ => schk_ok (T := sTC) (fun mi c hc _ => sTC_ok l Γ mi c hc) xtC14
  | 15, _ => schk_ok (T := sTC) (fun mi c hc _ => sTC_ok l Γ mi c hc) xtC15
  | 16, _ => schk_ok (T := sTC) (fun mi c hc _ => sTC_ok l Γ mi c hc) xtC16
  | 17, _ => schk_ok (T := sTC) (fun mi c hc _ => sTC_ok l Γ mi c hc) xtC17
  | 18, _ => schk_ok (T := sTC) (fun mi c hc _ => sTC_ok l Γ mi c hc) xtC18
  | 19, _ => schk_ok (T := sTC) (fun mi c hc _ => sTC_ok l Γ mi c hc) xtC19
  | 20, _ => schk_ok (T := sTC) (fun mi c hc _ => sTC_ok l Γ mi c hc) xtC20
  | 21, _ => schk_ok (T := sTC) (fun mi c hc _ => sTC_ok l Γ mi c hc) xtC21
  | 22, _ => schk_ok (T := sTC) (fun mi c hc _ => sTC_ok l Γ mi c hc) xtC22
  | 23, _ => schk_ok (T := sTC) (fun mi c hc _ => sTC_ok l Γ mi c hc) xtC23
  | 24, _ => schk_ok (T := sTC) (fun mi c hc _ => sTC_ok l Γ mi c hc) xtC24
  | 25, _ => schk_ok (T := sTC) (fun mi c hc _ => sTC_ok l Γ mi c hc) xtC25
  | 26, _ => schk_ok (T := sTC) (fun mi c hc _ => sTC_ok l Γ mi c hc) xtC26
  | 27, _ => schk_ok (T := sTC) (fun mi c hc _ => sTC_ok l Γ mi c hc) xtC27
  | 28, _ => schk_ok (T := sTC) (fun mi c hc _ => sTC_ok l Γ mi c hc) xtC28
  | 29, _ => schk_ok (T := sTC) (fun mi c hc _ => sTC_ok l Γ mi c hc) xtC29
  | 30, _ => schk_ok (T := sTC) (fun mi c hc _ => sTC_ok l Γ mi c hc) xtC30
  | 31, _ => schk_ok (T := sTC) (fun mi c hc _ => sTC_ok l Γ mi c hc) xtC31
  | 32, _ => schk_ok (T := sTC) (fun mi c hc _ => sTC_ok l Γ mi c hc) xtC32
  | 33, _ => schk_ok (T := sTC) (fun mi c hc _ => sTC_ok l Γ mi c hc) xtC33
  | 34, _ => schk_ok (T := sTC) (fun mi c hc _ => sTC_ok l Γ mi c hc) xtC34
  | 35, _ => schk_ok (T := sTC) (fun mi c hc _ => sTC_ok l Γ mi c hc) xtC35
  | n + 36, h => absurd h (by omega)
theorem ytCh (l : Launch) (Γ : zG) : ∀ i : Nat, i < 36 → sCon l Γ swC 28 (stCh (20 * (i : Int)))
  | 0, _ => schk_ok (T := sT0) (fun _ _ h => nomatch h) xtCh0
  | 1, _ => schk_ok (T := sT0) (fun _ _ h => nomatch h) xtCh1
  | 2, _ => schk_ok (T := sT0) (fun _ _ h => nomatch h) xtCh2
  | 3, _ => schk_ok (T := sT0) (fun _ _ h => nomatch h) xtCh3
  | 4, _ => schk_ok (T := sT0) (fun _ _ h => nomatch h) xtCh4
  | 5, _ => schk_ok (T := sT0) (fun _ _ h => nomatch h) xtCh5
  | 6, _ => schk_ok (T := sT0) (fun _ _ h => nomatch h) xtCh6
  | 7, _ => schk_ok (T := sT0) (fun _ _ h => nomatch h) xtCh7
  | 8, _ => schk_ok (T := sT0) (fun _ _ h => nomatch h) xtCh8
  | 9, _ => schk_ok (T := sT0) (fun _ _ h => nomatch h) xtCh9
  | 10, _ => schk_ok (T := sT0) (fun _ _ h => nomatch h) xtCh10
  | 11, _ => schk_ok (T := sT0) (fun _ _ h => nomatch h) xtCh11
  | 12, _ => schk_ok (T := sT0) (fun _ _ h => nomatch h) xtCh12
  | 13, _ => schk_ok (T := sT0) (fun _ _ h => nomatch h) xtCh13
  | 14, _ => schk_ok (T := sT0) (fun _ _ h => nomatch h) xtCh14
  | 15, _ => schk_ok (T := sT0) (fun _ _ h => nomatch h) xtCh15
  | 16, _ => schk_ok (T := sT0) (fun _ _ h => nomatch h) xtCh16
  | 17, _ => schk_ok (T := sT0) (fun _ _ h => nomatch h) xtCh17
  | 18, _ => schk_ok (T := sT0) (fun _ _ h => nomatch h) xtCh18
  | 19, _ => schk_ok (T := sT0) (fun _ _ h => nomatch h) xtCh19
  | 20, _ => schk_ok (T := sT0) (fun _ _ h => nomatch h) xtCh20
  | 21, _ => schk_ok (T := sT0) (fun _ _ h => nomatch h) xtCh21
  | 22, _ => schk_ok (T := sT0) (fun _ _ h => nomatch h) xtCh22
  | 23, _ => schk_ok (T := sT0) (fun _ _ h => nomatch h) xtCh23
  | 24, _ => schk_ok (T := sT0) (fun _ _ h => nomatch h) xtCh24
  | 25, _ => schk_ok (T := sT0) (fun _ _ h => nomatch h) xtCh25
  | 26, _ => schk_ok (T := sT0) (fun _ _ h => nomatch h) xtCh26
  | 27, _ => schk_ok (T := sT0) (fun _ _ h => nomatch h) xtCh27
  | 28, _ => schk_ok (T := sT0) (fun _ _ h => nomatch h) xtCh28
  | 29, _ => schk_ok (T := sT0) (fun _ _ h => nomatch h) xtCh29
  | 30, _ => schk_ok (T := sT0) (fun _ _ h => nomatch h) xtCh30
  | 31, _ => schk_ok (T := sT0) (fun _ _ h => nomatch h) xtCh31
  | 32, _ => schk_ok (T := sT0) (fun _ _ h => nomatch h) xtCh32
  | 33, _ => schk_ok (T := sT0) (fun _ _ h => nomatch h) xtCh33
  | 34, _ => schk_ok (T := sT0) (fun _ _ h => nomatch h) xtCh34
  | 35, _ => schk_ok (T := sT0) (fun _ _ h => nomatch h) xtCh35
  | n + 36, h => absurd h (by omega)
theorem ytMh (l : Launch) (Γ : zG) : ∀ i : Nat, i < 36 → sCon l Γ swM 194 (stMh (20 * (i : Int)))
  | 0, _ => schk_ok (T := sT0) (fun _ _ h => nomatch h) xtMh0
  | 1, _ => schk_ok (T := sT0) (fun _ _ h => nomatch h) xtMh1
  | 2, _ => schk_ok (T := sT0) (fun _ _ h => nomatch h) xtMh2
  | 3, _ => schk_ok (T := sT0) (fun _ _ h => nomatch h) xtMh3
  | 4, _ => schk_ok (T := sT0) (fun _ _ h => nomatch h) xtMh4
  | 5, _ => schk_ok (T := sT0) (fun _ _ h => nomatch h) xtMh5
  | 6, _ => schk_ok (T := sT0) (fun _ _ h => nomatch h) xtMh6
  | 7, _ => schk_ok (T := sT0) (fun _ _ h => nomatch h) xtMh7
  | 8, _ => schk_ok (T := sT0) (fun _ _ h => nomatch h) xtMh8
  | 9, _ => schk_ok (T := sT0) (fun _ _ h => nomatch h) xtMh9
  | 10, _ => schk_ok (T := sT0) (fun _ _ h => nomatch h) xtMh10
  | 11, _ => schk_ok (T := sT0) (fun _ _ h => nomatch h) xtMh11
  | 12, _ => schk_ok (T := sT0) (fun _ _ h => nomatch h) xtMh12
  | 13, _ => schk_ok (T := sT0) (fun _ _ h => nomatch h) xtMh13
  | 14, _ => schk_ok (T := sT0) (fun _ _ h => nomatch h) xtMh14
  | 15, _ => schk_ok (T := sT0) (fun _ _ h => nomatch h) xtMh15
  | 16, _ => schk_ok (T := sT0) (fun _ _ h => nomatch h) xtMh16
  | 17, _ => schk_ok (T := sT0) (fun _ _ h => nomatch h) xtMh17
  | 18, _ => schk_ok (T := sT0) (fun _ _ h => nomatch h) xtMh18
  | 19, _ => schk_ok (T := sT0) (fun _ _ h => nomatch h) xtMh19
  | 20, _ => schk_ok (T := sT0) (fun _ _ h => nomatch h) xtMh20
  | 21, _ => schk_ok (T := sT0) (fun _ _ h => nomatch h) xtMh21
  | 22, _ => schk_ok (T := sT0) (fun _ _ h => nomatch h) xtMh22
  | 23, _ => schk_ok (T := sT0) (fun _ _ h => nomatch h) xtMh23
  | 24, _ => schk_ok (T := sT0) (fun _ _ h => nomatch h) xtMh24
  | 25, _ => schk_ok (T := sT0) (fun _ _ h => nomatch h) xtMh25
  | 26, _ => schk_ok (T := sT0) (fun _ _ h => nomatch h) xtMh26
  | 27, _ => schk_ok (T := sT0) (fun _ _ h => nomatch h) xtMh27
  | 28, _ => schk_ok (T := sT0) (fun _ _ h => nomatch h) xtMh28
  | 29, _ => schk_ok (T := sT0) (fun _ _ h => nomatch h) xtMh29
  | 30, _ => schk_ok (T := sT0) (fun _ _ h => nomatch h) xtMh30
  | 31, _ => schk_ok (T := sT0) (fun _ _ h => nomatch h) xtMh31
  | 32, _ => schk_ok (T := sT0) (fun _ _ h => nomatch h) xtMh32
  | 33, _ => schk_ok (T := sT0) (fun _ _ h => nomatch h) xtMh33
  | 34, _ => schk_ok (T := sT0) (fun _ _ h => nomatch h) xtMh34
  | 35, _ => schk_ok (T := sT0) (fun _ _ h => nomatch h) xtMh35
  | n + 36, h => absurd h (by omega)
theorem yfCn (l : Launch) (Γ : zG) : sCon l Γ swC 26 sfCn := schk_ok (T := sT0) (fun _ _ h => nomatch h) xfCn
theorem yfMn (l : Launch) (Γ : zG) : sCon l Γ swM 193 sfMn := schk_ok (T := sT0) (fun _ _ h => nomatch h) xfMn
theorem ytCl (l : Launch) (Γ : zG) : sCon l Γ swC 28 stCl := schk_ok (T := sT0) (fun _ _ h => nomatch h) xtCl
theorem ytMl (l : Launch) (Γ : zG) : sCon l Γ swM 194 stMl := schk_ok (T := sT0) (fun _ _ h => nomatch h) xtMl

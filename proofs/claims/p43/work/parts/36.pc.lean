def sQC (l : Launch) (Γ : zG) (L : List (Nat × sCt)) : Prop := ∀ e ∈ L, (∀ mi, ∀ c ∈ sTC mi, c.2.2.2.2.2 < e.2.2.2.2.2.2 → sCon l Γ swC mi c) → sCon l Γ swC e.1 e.2
theorem sqC20 (l : Launch) (Γ : zG) : sQC l Γ [(20, scC0), (20, scC1), (20, scC2), (20, scC3), (20, scC4), (20, scC5), (20, scC6), (20, scC7), (20, scC8), (20, scC9)] :=
  sfm (fun ih => schk_ok (mi := 20) (ct := scC0) ih skC0) <|
  sfm (fun ih => schk_ok (mi := 20) (ct := scC1) ih skC1) <|
  sfm (fun ih => schk_ok (mi := 20) (ct := scC2) ih skC2) <|
  sfm (fun ih => schk_ok (mi := 20) (ct := scC3) ih skC3) <|
  sfm (fun ih => schk_ok (mi := 20) (ct := scC4) ih skC4) <|
  sfm (fun ih => schk_ok (mi := 20) (ct := scC5) ih skC5) <|
  sfm (fun ih => schk_ok (mi := 20) (ct := scC6) ih skC6) <|
  sfm (fun ih => schk_ok (mi := 20) (ct := scC7) ih skC7) <|
  sfm (fun ih => schk_ok (mi := 20) (ct := scC8) ih skC8) <|
  sfm (fun ih => schk_ok (mi := 20) (ct := scC9) ih skC9) <|
  fun _ h => nomatch h
theorem sqC26 (l : Launch) (Γ : zG) : sQC l Γ [(26, scC10)] :=
  sfm (fun ih => schk_ok (mi := 26) (ct := scC10) ih skC10) <|
  fun _ h => nomatch h
theorem sqC27 (l : Launch) (Γ : zG) : sQC l Γ [(27, scC11)] :=
  sfm (fun ih => schk_ok (mi := 27) (ct := scC11) ih skC11) <|
  fun _ h => nomatch h
theorem sqC28 (l : Launch) (Γ : zG) : sQC l Γ [(28, scC12)] :=
  sfm (fun ih => schk_ok (mi := 28) (ct := scC12) ih skC12) <|
  fun _ h => nomatch h
theorem sqC29 (l : Launch) (Γ : zG) : sQC l Γ [(29, scC13), (29, scC14)] :=
  sfm (fun ih => schk_ok (mi := 29) (ct := scC13) ih skC13) <|
  sfm (fun ih => schk_ok (mi := 29) (ct := scC14) ih skC14) <|
  fun _ h => nomatch h
theorem sqC30 (l : Launch) (Γ : zG) : sQC l Γ [(30, scC15), (30, scC16)] :=
  sfm (fun ih => schk_ok (mi := 30) (ct := scC15) ih skC15) <|
  sfm (fun ih => schk_ok (mi := 30) (ct := scC16) ih skC16) <|
  fun _ h => nomatch h
theorem sqC31 (l : Launch) (Γ : zG) : sQC l Γ [(31, scC17), (31, scC18)] :=
  sfm (fun ih => schk_ok (mi := 31) (ct := scC17) ih skC17) <|
  sfm (fun ih => schk_ok (mi := 31) (ct := scC18) ih skC18) <|
  fun _ h => nomatch h
theorem sqC32 (l : Launch) (Γ : zG) : sQC l Γ [(32, scC19)] :=
  sfm (fun ih => schk_ok (mi := 32) (ct := scC19) ih skC19) <|
  fun _ h => nomatch h
theorem sqC34 (l : Launch) (Γ : zG) : sQC l Γ [(34, scC20)] :=
  sfm (fun ih => schk_ok (mi := 34) (ct := scC20) ih skC20) <|
  fun _ h => nomatch h
theorem sqC35 (l : Launch) (Γ : zG) : sQC l Γ [(35, scC21)] :=
  sfm (fun ih => schk_ok (mi := 35) (ct := scC21) ih skC21) <|
  fun _ h => nomatch h
theorem sqC36 (l : Launch) (Γ : zG) : sQC l Γ [(36, scC22)] :=
  sfm (fun ih => schk_ok (mi := 36) (ct := scC22) ih skC22) <|
  fun _ h => nomatch h
theorem sqC37 (l : Launch) (Γ : zG) : sQC l Γ [(37, scC23)] :=
  sfm (fun ih => schk_ok (mi := 37) (ct := scC23) ih skC23) <|
  fun _ h => nomatch h
theorem sqC38 (l : Launch) (Γ : zG) : sQC l Γ [(38, scC24)] :=
  sfm (fun ih => schk_ok (mi := 38) (ct := scC24) ih skC24) <|
  fun _ h => nomatch h
theorem sqC40 (l : Launch) (Γ : zG) : sQC l Γ [(40, scC25), (40, scC26)] :=
  sfm (fun ih => schk_ok (mi := 40) (ct := scC25) ih skC25) <|
  sfm (fun ih => schk_ok (mi := 40) (ct := scC26) ih skC26) <|
  fun _ h => nomatch h
theorem sqC41 (l : Launch) (Γ : zG) : sQC l Γ [(41, scC27), (41, scC28), (41, scC29), (41, scC30), (41, scC31), (41, scC32), (41, scC33), (41, scC34), (41, scC35), (41, scC36)] :=
  sfm (fun ih => schk_ok (mi := 41) (ct := scC27) ih skC27) <|
  sfm (fun ih => schk_ok (mi := 41) (ct := scC28) ih skC28) <|
  sfm (fun ih => schk_ok (mi := 41) (ct := scC29) ih skC29) <|
  sfm (fun ih => schk_ok (mi := 41) (ct := scC30) ih skC30) <|
  sfm (fun ih => schk_ok (mi := 41) (ct := scC31) ih skC31) <|
  sfm (fun ih => schk_ok (mi := 41) (ct := scC32) ih skC32) <|
  sfm (fun ih => schk_ok (mi := 41) (ct := scC33) ih skC33) <|
  sfm (fun ih => schk_ok (mi := 41) (ct := scC34) ih skC34) <|
  sfm (fun ih => schk_ok (mi := 41) (ct := scC35) ih skC35) <|
  sfm (fun ih => schk_ok (mi := 41) (ct := scC36) ih skC36) <|
  fun _ h => nomatch h
theorem sqC43 (l : Launch) (Γ : zG) : sQC l Γ [(43, scC37)] :=
  sfm (fun ih => schk_ok (mi := 43) (ct := scC37) ih skC37) <|
  fun _ h => nomatch h
theorem sqC44 (l : Launch) (Γ : zG) : sQC l Γ [(44, scC38), (44, scC39), (44, scC40), (44, scC41)] :=
  sfm (fun ih => schk_ok (mi := 44) (ct := scC38) ih skC38) <|
  sfm (fun ih => schk_ok (mi := 44) (ct := scC39) ih skC39) <|
  sfm (fun ih => schk_ok (mi := 44) (ct := scC40) ih skC40) <|
  sfm (fun ih => schk_ok (mi := 44) (ct := scC41) ih skC41) <|
  fun _ h => nomatch h
theorem sqC45 (l : Launch) (Γ : zG) : sQC l Γ [(45, scC42), (45, scC43), (45, scC44), (45, scC45)] :=
  sfm (fun ih => schk_ok (mi := 45) (ct := scC42) ih skC42) <|
  sfm (fun ih => schk_ok (mi := 45) (ct := scC43) ih skC43) <|
  sfm (fun ih => schk_ok (mi := 45) (ct := scC44) ih skC44) <|
  sfm (fun ih => schk_ok (mi := 45) (ct := scC45) ih skC45) <|
  fun _ h => nomatch h
theorem sqC46 (l : Launch) (Γ : zG) : sQC l Γ [(46, scC46), (46, scC47), (46, scC48), (46, scC49), (46, scC50), (46, scC51), (46, scC52), (46, scC53), (46, scC54), (46, scC55), (46, scC56), (46, scC57), (46, scC58)] :=
  sfm (fun ih => schk_ok (mi := 46) (ct := scC46) ih skC46) <|
  sfm (fun ih => schk_ok (mi := 46) (ct := scC47) ih skC47) <|
  sfm (fun ih => schk_ok (mi := 46) (ct := scC48) ih skC48) <|
  sfm (fun ih => schk_ok (mi := 46) (ct := scC49) ih skC49) <|
  sfm (fun ih => schk_ok (mi := 46) (ct := scC50) ih skC50) <|
  sfm (fun ih => schk_ok (mi := 46) (ct := scC51) ih skC51) <|
  sfm (fun ih => schk_ok (mi := 46) (ct := scC52) ih skC52) <|
  sfm (fun ih => schk_ok (mi := 46) (ct := scC53) ih skC53) <|
  sfm (fun ih => schk_ok (mi := 46) (ct := scC54) ih skC54) <|
  sfm (fun ih => schk_ok (mi := 46) (ct := scC55) ih skC55) <|
  sfm (fun ih => schk_ok (mi := 46) (ct := scC56) ih skC56) <|
  sfm (fun ih => schk_ok (mi := 46) (ct := scC57) ih skC57) <|
  sfm (fun ih => schk_ok (mi := 46) (ct := scC58) ih skC58) <|
  fun _ h => nomatch h
theorem sqC47 (l : Launch) (Γ : zG) : sQC l Γ [(47, scC59), (47, scC60), (47, scC61), (47, scC62), (47, scC63), (47, scC64), (47, scC65), (47, scC66), (47, scC67), (47, scC68)] :=
  sfm (fun ih => schk_ok (mi := 47) (ct := scC59) ih skC59) <|
  sfm (fun ih => schk_ok (mi := 47) (ct := scC60) ih skC60) <|
  sfm (fun ih => schk_ok (mi := 47) (ct := scC61) ih skC61) <|
  sfm (fun ih => schk_ok (mi := 47) (ct := scC62) ih skC62) <|
  sfm (fun ih => schk_ok (mi := 47) (ct := scC63) ih skC63) <|
  sfm (fun ih => schk_ok (mi := 47) (ct := scC64) ih skC64) <|
  sfm (fun ih => schk_ok (mi := 47) (ct := scC65) ih skC65) <|
  sfm (fun ih => schk_ok (mi := 47) (ct := scC66) ih skC66) <|
  sfm (fun ih => schk_ok (mi := 47) (ct := scC67) ih skC67) <|
  sfm (fun ih => schk_ok (mi := 47) (ct := scC68) ih skC68) <|
  fun _ h => nomatch h
theorem sqC48 (l : Launch) (Γ : zG) : sQC l Γ [(48, scC69)] :=
  sfm (fun ih => schk_ok (mi := 48) (ct := scC69) ih skC69) <|
  fun _ h => nomatch h
theorem sqC49 (l : Launch) (Γ : zG) : sQC l Γ [(49, scC70), (49, scC71), (49, scC72), (49, scC73), (49, scC74), (49, scC75), (49, scC76), (49, scC77), (49, scC78), (49, scC79)] :=
  sfm (fun ih => schk_ok (mi := 49) (ct := scC70) ih skC70) <|
  sfm (fun ih => schk_ok (mi := 49) (ct := scC71) ih skC71) <|
  sfm (fun ih => schk_ok (mi := 49) (ct := scC72) ih skC72) <|
  sfm (fun ih => schk_ok (mi := 49) (ct := scC73) ih skC73) <|
  sfm (fun ih => schk_ok (mi := 49) (ct := scC74) ih skC74) <|
  sfm (fun ih => schk_ok (mi := 49) (ct := scC75) ih skC75) <|
  sfm (fun ih => schk_ok (mi := 49) (ct := scC76) ih skC76) <|
  sfm (fun ih => schk_ok (mi := 49) (ct := scC77) ih skC77) <|
  sfm (fun ih => schk_ok (mi := 49) (ct := scC78) ih skC78) <|
  sfm (fun ih => schk_ok (mi := 49) (ct := scC79) ih skC79) <|
  fun _ h => nomatch h
theorem sqC50 (l : Launch) (Γ : zG) : sQC l Γ [(50, scC80), (50, scC81)] :=
  sfm (fun ih => schk_ok (mi := 50) (ct := scC80) ih skC80) <|
  sfm (fun ih => schk_ok (mi := 50) (ct := scC81) ih skC81) <|
  fun _ h => nomatch h
theorem sqC51 (l : Launch) (Γ : zG) : sQC l Γ [(51, scC82), (51, scC83), (51, scC84), (51, scC85)] :=
  sfm (fun ih => schk_ok (mi := 51) (ct := scC82) ih skC82) <|
  sfm (fun ih => schk_ok (mi := 51) (ct := scC83) ih skC83) <|
  sfm (fun ih => schk_ok (mi := 51) (ct := scC84) ih skC84) <|
  sfm (fun ih => schk_ok (mi := 51) (ct := scC85) ih skC85) <|
  fun _ h => nomatch h
theorem sqC52 (l : Launch) (Γ : zG) : sQC l Γ [(52, scC86)] :=
  sfm (fun ih => schk_ok (mi := 52) (ct := scC86) ih skC86) <|
  fun _ h => nomatch h
theorem sqC53 (l : Launch) (Γ : zG) : sQC l Γ [(53, scC87), (53, scC88)] :=
  sfm (fun ih => schk_ok (mi := 53) (ct := scC87) ih skC87) <|
  sfm (fun ih => schk_ok (mi := 53) (ct := scC88) ih skC88) <|
  fun _ h => nomatch h
theorem sqC54 (l : Launch) (Γ : zG) : sQC l Γ [(54, scC89), (54, scC90)] :=
  sfm (fun ih => schk_ok (mi := 54) (ct := scC89) ih skC89) <|
  sfm (fun ih => schk_ok (mi := 54) (ct := scC90) ih skC90) <|
  fun _ h => nomatch h
theorem sqC55 (l : Launch) (Γ : zG) : sQC l Γ [(55, scC91), (55, scC92)] :=
  sfm (fun ih => schk_ok (mi := 55) (ct := scC91) ih skC91) <|
  sfm (fun ih => schk_ok (mi := 55) (ct := scC92) ih skC92) <|
  fun _ h => nomatch h
theorem sqC56 (l : Launch) (Γ : zG) : sQC l Γ [(56, scC93), (56, scC94)] :=
  sfm (fun ih => schk_ok (mi := 56) (ct := scC93) ih skC93) <|
  sfm (fun ih => schk_ok (mi := 56) (ct := scC94) ih skC94) <|
  fun _ h => nomatch h
theorem sqC57 (l : Launch) (Γ : zG) : sQC l Γ [(57, scC95), (57, scC96)] :=
  sfm (fun ih => schk_ok (mi := 57) (ct := scC95) ih skC95) <|
  sfm (fun ih => schk_ok (mi := 57) (ct := scC96) ih skC96) <|
  fun _ h => nomatch h
theorem sqC58 (l : Launch) (Γ : zG) : sQC l Γ [(58, scC97), (58, scC98)] :=
  sfm (fun ih => schk_ok (mi := 58) (ct := scC97) ih skC97) <|
  sfm (fun ih => schk_ok (mi := 58) (ct := scC98) ih skC98) <|
  fun _ h => nomatch h
theorem sqC60 (l : Launch) (Γ : zG) : sQC l Γ [(60, scC99), (60, scC100)] :=
  sfm (fun ih => schk_ok (mi := 60) (ct := scC99) ih skC99) <|
  sfm (fun ih => schk_ok (mi := 60) (ct := scC100) ih skC100) <|
  fun _ h => nomatch h
theorem sqC61 (l : Launch) (Γ : zG) : sQC l Γ [(61, scC101), (61, scC102)] :=
  sfm (fun ih => schk_ok (mi := 61) (ct := scC101) ih skC101) <|
  sfm (fun ih => schk_ok (mi := 61) (ct := scC102) ih skC102) <|
  fun _ h => nomatch h
theorem sqC62 (l : Launch) (Γ : zG) : sQC l Γ [(62, scC103), (62, scC104)] :=
  sfm (fun ih => schk_ok (mi := 62) (ct := scC103) ih skC103) <|
  sfm (fun ih => schk_ok (mi := 62) (ct := scC104) ih skC104) <|
  fun _ h => nomatch h
theorem sqC63 (l : Launch) (Γ : zG) : sQC l Γ [(63, scC105)] :=
  sfm (fun ih => schk_ok (mi := 63) (ct := scC105) ih skC105) <|
  fun _ h => nomatch h
theorem sqC64 (l : Launch) (Γ : zG) : sQC l Γ [(64, scC106)] :=
  sfm (fun ih => schk_ok (mi := 64) (ct := scC106) ih skC106) <|
  fun _ h => nomatch h
theorem sqC65 (l : Launch) (Γ : zG) : sQC l Γ [(65, scC107), (65, scC108)] :=
  sfm (fun ih => schk_ok (mi := 65) (ct := scC107) ih skC107) <|
  sfm (fun ih => schk_ok (mi := 65) (ct := scC108) ih skC108) <|
  fun _ h => nomatch h
theorem sqC66 (l : Launch) (Γ : zG) : sQC l Γ [(66, scC109), (66, scC110)] :=
  sfm (fun ih => schk_ok (mi := 66) (ct := scC109) ih skC109) <|
  sfm (fun ih => schk_ok (mi := 66) (ct := scC110) ih skC110) <|
  fun _ h => nomatch h
theorem sqC67 (l : Launch) (Γ : zG) : sQC l Γ [(67, scC111), (67, scC112)] :=
  sfm (fun ih => schk_ok (mi := 67) (ct := scC111) ih skC111) <|
  sfm (fun ih => schk_ok (mi := 67) (ct := scC112) ih skC112) <|
  fun _ h => nomatch h
theorem sqC68 (l : Launch) (Γ : zG) : sQC l Γ [(68, scC113), (68, scC114)] :=
  sfm (fun ih => schk_ok (mi := 68) (ct := scC113) ih skC113) <|
  sfm (fun ih => schk_ok (mi := 68) (ct := scC114) ih skC114) <|
  fun _ h => nomatch h
theorem sqC69 (l : Launch) (Γ : zG) : sQC l Γ [(69, scC115)] :=
  sfm (fun ih => schk_ok (mi := 69) (ct := scC115) ih skC115) <|
  fun _ h => nomatch h
theorem sqC70 (l : Launch) (Γ : zG) : sQC l Γ [(70, scC116)] :=
  sfm (fun ih => schk_ok (mi := 70) (ct := scC116) ih skC116) <|
  fun _ h => nomatch h
theorem sqC71 (l : Launch) (Γ : zG) : sQC l Γ [(71, scC117), (71, scC118)] :=
  sfm (fun ih => schk_ok (mi := 71) (ct := scC117) ih skC117) <|
  sfm (fun ih => schk_ok (mi := 71) (ct := scC118) ih skC118) <|
  fun _ h => nomatch h
theorem sqC72 (l : Launch) (Γ : zG) : sQC l Γ [(72, scC119), (72, scC120)] :=
  sfm (fun ih => schk_ok (mi := 72) (ct := scC119) ih skC119) <|
  sfm (fun ih => schk_ok (mi := 72) (ct := scC120) ih skC120) <|
  fun _ h => nomatch h
theorem sqC73 (l : Launch) (Γ : zG) : sQC l Γ [(73, scC121), (73, scC122), (73, scC123), (73, scC124)] :=
  sfm (fun ih => schk_ok (mi := 73) (ct := scC121) ih skC121) <|
  sfm (fun ih => schk_ok (mi := 73) (ct := scC122) ih skC122) <|
  sfm (fun ih => schk_ok (mi := 73) (ct := scC123) ih skC123) <|
  sfm (fun ih => schk_ok (mi := 73) (ct := scC124) ih skC124) <|
  fun _ h => nomatch h
theorem sqC74 (l : Launch) (Γ : zG) : sQC l Γ [(74, scC125)] :=
  sfm (fun ih => schk_ok (mi := 74) (ct := scC125) ih skC125) <|
  fun _ h => nomatch h
theorem sqC75 (l : Launch) (Γ : zG) : sQC l Γ [(75, scC126)] :=
  sfm (fun ih => schk_ok (mi := 75) (ct := scC126) ih skC126) <|
  fun _ h => nomatch h
theorem sqC76 (l : Launch) (Γ : zG) : sQC l Γ [(76, scC127)] :=
  sfm (fun ih => schk_ok (mi := 76) (ct := scC127) ih skC127) <|
  fun _ h => nomatch h
theorem sqC77 (l : Launch) (Γ : zG) : sQC l Γ [(77, scC128)] :=
  sfm (fun ih => schk_ok (mi := 77) (ct := scC128) ih skC128) <|
  fun _ h => nomatch h
theorem sqC78 (l : Launch) (Γ : zG) : sQC l Γ [(78, scC129)] :=
  sfm (fun ih => schk_ok (mi := 78) (ct := scC129) ih skC129) <|
  fun _ h => nomatch h
theorem sqC80 (l : Launch) (Γ : zG) : sQC l Γ [(80, scC130), (80, scC131), (80, scC132), (80, scC133)] :=
  sfm (fun ih => schk_ok (mi := 80) (ct := scC130) ih skC130) <|
  sfm (fun ih => schk_ok (mi := 80) (ct := scC131) ih skC131) <|
  sfm (fun ih => schk_ok (mi := 80) (ct := scC132) ih skC132) <|
  sfm (fun ih => schk_ok (mi := 80) (ct := scC133) ih skC133) <|
  fun _ h => nomatch h
theorem sqC81 (l : Launch) (Γ : zG) : sQC l Γ [(81, scC134), (81, scC135)] :=
  sfm (fun ih => schk_ok (mi := 81) (ct := scC134) ih skC134) <|
  sfm (fun ih => schk_ok (mi := 81) (ct := scC135) ih skC135) <|
  fun _ h => nomatch h
theorem sqC82 (l : Launch) (Γ : zG) : sQC l Γ [(82, scC136)] :=
  sfm (fun ih => schk_ok (mi := 82) (ct := scC136) ih skC136) <|
  fun _ h => nomatch h
theorem sqC83 (l : Launch) (Γ : zG) : sQC l Γ [(83, scC137)] :=
  sfm (fun ih => schk_ok (mi := 83) (ct := scC137) ih skC137) <|
  fun _ h => nomatch h
theorem sqC86 (l : Launch) (Γ : zG) : sQC l Γ [(86, scC138), (86, scC139)] :=
  sfm (fun ih => schk_ok (mi := 86) (ct := scC138) ih skC138) <|
  sfm (fun ih => schk_ok (mi := 86) (ct := scC139) ih skC139) <|
  fun _ h => nomatch h
theorem sqC87 (l : Launch) (Γ : zG) : sQC l Γ [(87, scC140), (87, scC141)] :=
  sfm (fun ih => schk_ok (mi := 87) (ct := scC140) ih skC140) <|
  sfm (fun ih => schk_ok (mi := 87) (ct := scC141) ih skC141) <|
  fun _ h => nomatch h
theorem sqC89 (l : Launch) (Γ : zG) : sQC l Γ [(89, scC142), (89, scC143), (89, scC144)] :=
  sfm (fun ih => schk_ok (mi := 89) (ct := scC142) ih skC142) <|
  sfm (fun ih => schk_ok (mi := 89) (ct := scC143) ih skC143) <|
  sfm (fun ih => schk_ok (mi := 89) (ct := scC144) ih skC144) <|
  fun _ h => nomatch h
theorem sqC90 (l : Launch) (Γ : zG) : sQC l Γ [(90, scC145)] :=
  sfm (fun ih => schk_ok (mi := 90) (ct := scC145) ih skC145) <|
  fun _ h => nomatch h
theorem sqC91 (l : Launch) (Γ : zG) : sQC l Γ [(91, scC146)] :=
  sfm (fun ih => schk_ok (mi := 91) (ct := scC146) ih skC146) <|
  fun _ h => nomatch h
theorem sqC92 (l : Launch) (Γ : zG) : sQC l Γ [(92, scC147), (92, scC148)] :=
  sfm (fun ih => schk_ok (mi := 92) (ct := scC147) ih skC147) <|
  sfm (fun ih => schk_ok (mi := 92) (ct := scC148) ih skC148) <|
  fun _ h => nomatch h
theorem sqC93 (l : Launch) (Γ : zG) : sQC l Γ [(93, scC149)] :=
  sfm (fun ih => schk_ok (mi := 93) (ct := scC149) ih skC149) <|
  fun _ h => nomatch h
theorem sqC95 (l : Launch) (Γ : zG) : sQC l Γ [(95, scC150)] :=
  sfm (fun ih => schk_ok (mi := 95) (ct := scC150) ih skC150) <|
  fun _ h => nomatch h
theorem sqC96 (l : Launch) (Γ : zG) : sQC l Γ [(96, scC151)] :=
  sfm (fun ih => schk_ok (mi := 96) (ct := scC151) ih skC151) <|
  fun _ h => nomatch h
theorem sqC97 (l : Launch) (Γ : zG) : sQC l Γ [(97, scC152)] :=
  sfm (fun ih => schk_ok (mi := 97) (ct := scC152) ih skC152) <|
  fun _ h => nomatch h
theorem sqC98 (l : Launch) (Γ : zG) : sQC l Γ [(98, scC153)] :=
  sfm (fun ih => schk_ok (mi := 98) (ct := scC153) ih skC153) <|
  fun _ h => nomatch h
theorem sqC99 (l : Launch) (Γ : zG) : sQC l Γ [(99, scC154), (99, scC155)] :=
  sfm (fun ih => schk_ok (mi := 99) (ct := scC154) ih skC154) <|
  sfm (fun ih => schk_ok (mi := 99) (ct := scC155) ih skC155) <|
  fun _ h => nomatch h
theorem sqC100 (l : Launch) (Γ : zG) : sQC l Γ [(100, scC156), (100, scC157)] :=
  sfm (fun ih => schk_ok (mi := 100) (ct := scC156) ih skC156) <|
  sfm (fun ih => schk_ok (mi := 100) (ct := scC157) ih skC157) <|
  fun _ h => nomatch h
theorem sqC101 (l : Launch) (Γ : zG) : sQC l Γ [(101, scC158), (101, scC159)] :=
  sfm (fun ih => schk_ok (mi := 101) (ct := scC158) ih skC158) <|
  sfm (fun ih => schk_ok (mi := 101) (ct := scC159) ih skC159) <|
  fun _ h => nomatch h
theorem sqC102 (l : Launch) (Γ : zG) : sQC l Γ [(102, scC160), (102, scC161)] :=
  sfm (fun ih => schk_ok (mi := 102) (ct := scC160) ih skC160) <|
  sfm (fun ih => schk_ok (mi := 102) (ct := scC161) ih skC161) <|
  fun _ h => nomatch h
theorem sqC103 (l : Launch) (Γ : zG) : sQC l Γ [(103, scC162), (103, scC163)] :=
  sfm (fun ih => schk_ok (mi := 103) (ct := scC162) ih skC162) <|
  sfm (fun ih => schk_ok (mi := 103) (ct := scC163) ih skC163) <|
  fun _ h => nomatch h
theorem sqC104 (l : Launch) (Γ : zG) : sQC l Γ [(104, scC164)] :=
  sfm (fun ih => schk_ok (mi := 104) (ct := scC164) ih skC164) <|
  fun _ h => nomatch h
theorem sqC105 (l : Launch) (Γ : zG) : sQC l Γ [(105, scC165), (105, scC166)] :=
  sfm (fun ih => schk_ok (mi := 105) (ct := scC165) ih skC165) <|
  sfm (fun ih => schk_ok (mi := 105) (ct := scC166) ih skC166) <|
  fun _ h => nomatch h
theorem sqC106 (l : Launch) (Γ : zG) : sQC l Γ [(106, scC167), (106, scC168)] :=
  sfm (fun ih => schk_ok (mi := 106) (ct := scC167) ih skC167) <|
  sfm (fun ih => schk_ok (mi := 106) (ct := scC168) ih skC168) <|
  fun _ h => nomatch h
theorem sqC107 (l : Launch) (Γ : zG) : sQC l Γ [(107, scC169), (107, scC170)] :=
  sfm (fun ih => schk_ok (mi := 107) (ct := scC169) ih skC169) <|
  sfm (fun ih => schk_ok (mi := 107) (ct := scC170) ih skC170) <|
  fun _ h => nomatch h
theorem sqC108 (l : Launch) (Γ : zG) : sQC l Γ [(108, scC171), (108, scC172)] :=
  sfm (fun ih => schk_ok (mi := 108) (ct := scC171) ih skC171) <|
  sfm (fun ih => schk_ok (mi := 108) (ct := scC172) ih skC172) <|
  fun _ h => nomatch h
theorem sqC109 (l : Launch) (Γ : zG) : sQC l Γ [(109, scC173), (109, scC174)] :=
  sfm (fun ih => schk_ok (mi := 109) (ct := scC173) ih skC173) <|
  sfm (fun ih => schk_ok (mi := 109) (ct := scC174) ih skC174) <|
  fun _ h => nomatch h
theorem sqC110 (l : Launch) (Γ : zG) : sQC l Γ [(110, scC175), (110, scC176), (110, scC177), (110, scC178), (110, scC179)] :=
  sfm (fun ih => schk_ok (mi := 110) (ct := scC175) ih skC175) <|
  sfm (fun ih => schk_ok (mi := 110) (ct := scC176) ih skC176) <|
  sfm (fun ih => schk_ok (mi := 110) (ct := scC177) ih skC177) <|
  sfm (fun ih => schk_ok (mi := 110) (ct := scC178) ih skC178) <|
  sfm (fun ih => schk_ok (mi := 110) (ct := scC179) ih skC179) <|
  fun _ h => nomatch h
theorem sqC111 (l : Launch) (Γ : zG) : sQC l Γ [(111, scC180)] :=
  sfm (fun ih => schk_ok (mi := 111) (ct := scC180) ih skC180) <|
  fun _ h => nomatch h
theorem sqC112 (l : Launch) (Γ : zG) : sQC l Γ [(112, scC181), (112, scC182), (112, scC183)] :=
  sfm (fun ih => schk_ok (mi := 112) (ct := scC181) ih skC181) <|
  sfm (fun ih => schk_ok (mi := 112) (ct := scC182) ih skC182) <|
  sfm (fun ih => schk_ok (mi := 112) (ct := scC183) ih skC183) <|
  fun _ h => nomatch h
theorem sqC113 (l : Launch) (Γ : zG) : sQC l Γ [(113, scC184), (113, scC185)] :=
  sfm (fun ih => schk_ok (mi := 113) (ct := scC184) ih skC184) <|
  sfm (fun ih => schk_ok (mi := 113) (ct := scC185) ih skC185) <|
  fun _ h => nomatch h
theorem sqC114 (l : Launch) (Γ : zG) : sQC l Γ [(114, scC186), (114, scC187), (114, scC188), (114, scC189), (114, scC190), (114, scC191), (114, scC192)] :=
  sfm (fun ih => schk_ok (mi := 114) (ct := scC186) ih skC186) <|
  sfm (fun ih => schk_ok (mi := 114) (ct := scC187) ih skC187) <|
  sfm (fun ih => schk_ok (mi := 114) (ct := scC188) ih skC188) <|
  sfm (fun ih => schk_ok (mi := 114) (ct := scC189) ih skC189) <|
  sfm (fun ih => schk_ok (mi := 114) (ct := scC190) ih skC190) <|
  sfm (fun ih => schk_ok (mi := 114) (ct := scC191) ih skC191) <|
  sfm (fun ih => schk_ok (mi := 114) (ct := scC192) ih skC192) <|
  fun _ h => nomatch h
theorem sqC115 (l : Launch) (Γ : zG) : sQC l Γ [(115, scC193), (115, scC194)] :=
  sfm (fun ih => schk_ok (mi := 115) (ct := scC193) ih skC193) <|
  sfm (fun ih => schk_ok (mi := 115) (ct := scC194) ih skC194) <|
  fun _ h => nomatch h
theorem sqC116 (l : Launch) (Γ : zG) : sQC l Γ [(116, scC195), (116, scC196)] :=
  sfm (fun ih => schk_ok (mi := 116) (ct := scC195) ih skC195) <|
  sfm (fun ih => schk_ok (mi := 116) (ct := scC196) ih skC196) <|
  fun _ h => nomatch h
theorem sqC117 (l : Launch) (Γ : zG) : sQC l Γ [(117, scC197)] :=
  sfm (fun ih => schk_ok (mi := 117) (ct := scC197) ih skC197) <|
  fun _ h => nomatch h
theorem sqC118 (l : Launch) (Γ : zG) : sQC l Γ [(118, scC198)] :=
  sfm (fun ih => schk_ok (mi := 118) (ct := scC198) ih skC198) <|
  fun _ h => nomatch h
theorem sqC119 (l : Launch) (Γ : zG) : sQC l Γ [(119, scC199)] :=
  sfm (fun ih => schk_ok (mi := 119) (ct := scC199) ih skC199) <|
  fun _ h => nomatch h
theorem sqC120 (l : Launch) (Γ : zG) : sQC l Γ [(120, scC200)] :=
  sfm (fun ih => schk_ok (mi := 120) (ct := scC200) ih skC200) <|
  fun _ h => nomatch h
theorem sqC121 (l : Launch) (Γ : zG) : sQC l Γ [(121, scC201)] :=
  sfm (fun ih => schk_ok (mi := 121) (ct := scC201) ih skC201) <|
  fun _ h => nomatch h
theorem sqC122 (l : Launch) (Γ : zG) : sQC l Γ [(122, scC202)] :=
  sfm (fun ih => schk_ok (mi := 122) (ct := scC202) ih skC202) <|
  fun _ h => nomatch h
theorem sqC123 (l : Launch) (Γ : zG) : sQC l Γ [(123, scC203)] :=
  sfm (fun ih => schk_ok (mi := 123) (ct := scC203) ih skC203) <|
  fun _ h => nomatch h
theorem sqC124 (l : Launch) (Γ : zG) : sQC l Γ [(124, scC204)] :=
  sfm (fun ih => schk_ok (mi := 124) (ct := scC204) ih skC204) <|
  fun _ h => nomatch h
theorem sqC125 (l : Launch) (Γ : zG) : sQC l Γ [(125, scC205)] :=
  sfm (fun ih => schk_ok (mi := 125) (ct := scC205) ih skC205) <|
  fun _ h => nomatch h
theorem sqC126 (l : Launch) (Γ : zG) : sQC l Γ [(126, scC206)] :=
  sfm (fun ih => schk_ok (mi := 126) (ct := scC206) ih skC206) <|
  fun _ h => nomatch h
theorem sqC127 (l : Launch) (Γ : zG) : sQC l Γ [(127, scC207), (127, scC208)] :=
  sfm (fun ih => schk_ok (mi := 127) (ct := scC207) ih skC207) <|
  sfm (fun ih => schk_ok (mi := 127) (ct := scC208) ih skC208) <|
  fun _ h => nomatch h
theorem sqC128 (l : Launch) (Γ : zG) : sQC l Γ [(128, scC209), (128, scC210)] :=
  sfm (fun ih => schk_ok (mi := 128) (ct := scC209) ih skC209) <|
  sfm (fun ih => schk_ok (mi := 128) (ct := scC210) ih skC210) <|
  fun _ h => nomatch h
theorem sqC129 (l : Launch) (Γ : zG) : sQC l Γ [(129, scC211), (129, scC212)] :=
  sfm (fun ih => schk_ok (mi := 129) (ct := scC211) ih skC211) <|
  sfm (fun ih => schk_ok (mi := 129) (ct := scC212) ih skC212) <|
  fun _ h => nomatch h
theorem sqC130 (l : Launch) (Γ : zG) : sQC l Γ [(130, scC213)] :=
  sfm (fun ih => schk_ok (mi := 130) (ct := scC213) ih skC213) <|
  fun _ h => nomatch h
theorem sqC131 (l : Launch) (Γ : zG) : sQC l Γ [(131, scC214), (131, scC215)] :=
  sfm (fun ih => schk_ok (mi := 131) (ct := scC214) ih skC214) <|
  sfm (fun ih => schk_ok (mi := 131) (ct := scC215) ih skC215) <|
  fun _ h => nomatch h
theorem sqC132 (l : Launch) (Γ : zG) : sQC l Γ [(132, scC216)] :=
  sfm (fun ih => schk_ok (mi := 132) (ct := scC216) ih skC216) <|
  fun _ h => nomatch h
theorem sqC133 (l : Launch) (Γ : zG) : sQC l Γ [(133, scC217)] :=
  sfm (fun ih => schk_ok (mi := 133) (ct := scC217) ih skC217) <|
  fun _ h => nomatch h
theorem sqC134 (l : Launch) (Γ : zG) : sQC l Γ [(134, scC218)] :=
  sfm (fun ih => schk_ok (mi := 134) (ct := scC218) ih skC218) <|
  fun _ h => nomatch h
theorem sqC135 (l : Launch) (Γ : zG) : sQC l Γ [(135, scC219)] :=
  sfm (fun ih => schk_ok (mi := 135) (ct := scC219) ih skC219) <|
  fun _ h => nomatch h
theorem sqC136 (l : Launch) (Γ : zG) : sQC l Γ [(136, scC220)] :=
  sfm (fun ih => schk_ok (mi := 136) (ct := scC220) ih skC220) <|
  fun _ h => nomatch h
theorem sqC137 (l : Launch) (Γ : zG) : sQC l Γ [(137, scC221), (137, scC222)] :=
  sfm (fun ih => schk_ok (mi := 137) (ct := scC221) ih skC221) <|
  sfm (fun ih => schk_ok (mi := 137) (ct := scC222) ih skC222) <|
  fun _ h => nomatch h
theorem sqC138 (l : Launch) (Γ : zG) : sQC l Γ [(138, scC223)] :=
  sfm (fun ih => schk_ok (mi := 138) (ct := scC223) ih skC223) <|
  fun _ h => nomatch h
theorem sqC139 (l : Launch) (Γ : zG) : sQC l Γ [(139, scC224)] :=
  sfm (fun ih => schk_ok (mi := 139) (ct := scC224) ih skC224) <|
  fun _ h => nomatch h
theorem sqC140 (l : Launch) (Γ : zG) : sQC l Γ [(140, scC225)] :=
  sfm (fun ih => schk_ok (mi := 140) (ct := scC225) ih skC225) <|
  fun _ h => nomatch h
theorem sqC141 (l : Launch) (Γ : zG) : sQC l Γ [(141, scC226)] :=
  sfm (fun ih => schk_ok (mi := 141) (ct := scC226) ih skC226) <|
  fun _ h => nomatch h
theorem sqC142 (l : Launch) (Γ : zG) : sQC l Γ [(142, scC227), (142, scC228), (142, scC229), (142, scC230)] :=
  sfm (fun ih => schk_ok (mi := 142) (ct := scC227) ih skC227) <|
  sfm (fun ih => schk_ok (mi := 142) (ct := scC228) ih skC228) <|
  sfm (fun ih => schk_ok (mi := 142) (ct := scC229) ih skC229) <|
  sfm (fun ih => schk_ok (mi := 142) (ct := scC230) ih skC230) <|
  fun _ h => nomatch h
theorem sqC143 (l : Launch) (Γ : zG) : sQC l Γ [(143, scC231)] :=
  sfm (fun ih => schk_ok (mi := 143) (ct := scC231) ih skC231) <|
  fun _ h => nomatch h
theorem sqC144 (l : Launch) (Γ : zG) : sQC l Γ [(144, scC232)] :=
  sfm (fun ih => schk_ok (mi := 144) (ct := scC232) ih skC232) <|
  fun _ h => nomatch h
theorem sqC145 (l : Launch) (Γ : zG) : sQC l Γ [(145, scC233)] :=
  sfm (fun ih => schk_ok (mi := 145) (ct := scC233) ih skC233) <|
  fun _ h => nomatch h
theorem sqC146 (l : Launch) (Γ : zG) : sQC l Γ [(146, scC234)] :=
  sfm (fun ih => schk_ok (mi := 146) (ct := scC234) ih skC234) <|
  fun _ h => nomatch h
theorem sqC147 (l : Launch) (Γ : zG) : sQC l Γ [(147, scC235)] :=
  sfm (fun ih => schk_ok (mi := 147) (ct := scC235) ih skC235) <|
  fun _ h => nomatch h
theorem sqC148 (l : Launch) (Γ : zG) : sQC l Γ [(148, scC236)] :=
  sfm (fun ih => schk_ok (mi := 148) (ct := scC236) ih skC236) <|
  fun _ h => nomatch h
theorem sqC149 (l : Launch) (Γ : zG) : sQC l Γ [(149, scC237)] :=
  sfm (fun ih => schk_ok (mi := 149) (ct := scC237) ih skC237) <|
  fun _ h => nomatch h
theorem sqC150 (l : Launch) (Γ : zG) : sQC l Γ [(150, scC238)] :=
  sfm (fun ih => schk_ok (mi := 150) (ct := scC238) ih skC238) <|
  fun _ h => nomatch h
theorem sqC151 (l : Launch) (Γ : zG) : sQC l Γ [(151, scC239)] :=
  sfm (fun ih => schk_ok (mi := 151) (ct := scC239) ih skC239) <|
  fun _ h => nomatch h
theorem sqC152 (l : Launch) (Γ : zG) : sQC l Γ [(152, scC240)] :=
  sfm (fun ih => schk_ok (mi := 152) (ct := scC240) ih skC240) <|
  fun _ h => nomatch h
theorem sqC153 (l : Launch) (Γ : zG) : sQC l Γ [(153, scC241)] :=
  sfm (fun ih => schk_ok (mi := 153) (ct := scC241) ih skC241) <|
  fun _ h => nomatch h
theorem sqC154 (l : Launch) (Γ : zG) : sQC l Γ [(154, scC242)] :=
  sfm (fun ih => schk_ok (mi := 154) (ct := scC242) ih skC242) <|
  fun _ h => nomatch h
theorem sqC155 (l : Launch) (Γ : zG) : sQC l Γ [(155, scC243)] :=
  sfm (fun ih => schk_ok (mi := 155) (ct := scC243) ih skC243) <|
  fun _ h => nomatch h
theorem sqC156 (l : Launch) (Γ : zG) : sQC l Γ [(156, scC244)] :=
  sfm (fun ih => schk_ok (mi := 156) (ct := scC244) ih skC244) <|
  fun _ h => nomatch h
theorem sqC157 (l : Launch) (Γ : zG) : sQC l Γ [(157, scC245)] :=
  sfm (fun ih => schk_ok (mi := 157) (ct := scC245) ih skC245) <|
  fun _ h => nomatch h
theorem sqC158 (l : Launch) (Γ : zG) : sQC l Γ [(158, scC246)] :=
  sfm (fun ih => schk_ok (mi := 158) (ct := scC246) ih skC246) <|
  fun _ h => nomatch h
theorem sqC159 (l : Launch) (Γ : zG) : sQC l Γ [(159, scC247)] :=
  sfm (fun ih => schk_ok (mi := 159) (ct := scC247) ih skC247) <|
  fun _ h => nomatch h
theorem sqC160 (l : Launch) (Γ : zG) : sQC l Γ [(160, scC248)] :=
  sfm (fun ih => schk_ok (mi := 160) (ct := scC248) ih skC248) <|
  fun _ h => nomatch h
theorem sqC161 (l : Launch) (Γ : zG) : sQC l Γ [(161, scC249)] :=
  sfm (fun ih => schk_ok (mi := 161) (ct := scC249) ih skC249) <|
  fun _ h => nomatch h
theorem sqC162 (l : Launch) (Γ : zG) : sQC l Γ [(162, scC250)] :=
  sfm (fun ih => schk_ok (mi := 162) (ct := scC250) ih skC250) <|
  fun _ h => nomatch h
theorem sqC163 (l : Launch) (Γ : zG) : sQC l Γ [(163, scC251)] :=
  sfm (fun ih => schk_ok (mi := 163) (ct := scC251) ih skC251) <|
  fun _ h => nomatch h
theorem sqC164 (l : Launch) (Γ : zG) : sQC l Γ [(164, scC252)] :=
  sfm (fun ih => schk_ok (mi := 164) (ct := scC252) ih skC252) <|
  fun _ h => nomatch h
theorem sqC166 (l : Launch) (Γ : zG) : sQC l Γ [(166, scC253)] :=
  sfm (fun ih => schk_ok (mi := 166) (ct := scC253) ih skC253) <|
  fun _ h => nomatch h
theorem sqC167 (l : Launch) (Γ : zG) : sQC l Γ [(167, scC254)] :=
  sfm (fun ih => schk_ok (mi := 167) (ct := scC254) ih skC254) <|
  fun _ h => nomatch h
theorem sqC168 (l : Launch) (Γ : zG) : sQC l Γ [(168, scC255)] :=
  sfm (fun ih => schk_ok (mi := 168) (ct := scC255) ih skC255) <|
  fun _ h => nomatch h
theorem sqC169 (l : Launch) (Γ : zG) : sQC l Γ [(169, scC256)] :=
  sfm (fun ih => schk_ok (mi := 169) (ct := scC256) ih skC256) <|
  fun _ h => nomatch h
theorem sqC170 (l : Launch) (Γ : zG) : sQC l Γ [(170, scC257), (170, scC258)] :=
  sfm (fun ih => schk_ok (mi := 170) (ct := scC257) ih skC257) <|
  sfm (fun ih => schk_ok (mi := 170) (ct := scC258) ih skC258) <|
  fun _ h => nomatch h
theorem sqC171 (l : Launch) (Γ : zG) : sQC l Γ [(171, scC259)] :=
  sfm (fun ih => schk_ok (mi := 171) (ct := scC259) ih skC259) <|
  fun _ h => nomatch h
theorem sqC172 (l : Launch) (Γ : zG) : sQC l Γ [(172, scC260)] :=
  sfm (fun ih => schk_ok (mi := 172) (ct := scC260) ih skC260) <|
  fun _ h => nomatch h
theorem sqC173 (l : Launch) (Γ : zG) : sQC l Γ [(173, scC261)] :=
  sfm (fun ih => schk_ok (mi := 173) (ct := scC261) ih skC261) <|
  fun _ h => nomatch h
theorem sqC174 (l : Launch) (Γ : zG) : sQC l Γ [(174, scC262)] :=
  sfm (fun ih => schk_ok (mi := 174) (ct := scC262) ih skC262) <|
  fun _ h => nomatch h
theorem sqC175 (l : Launch) (Γ : zG) : sQC l Γ [(175, scC263)] :=
  sfm (fun ih => schk_ok (mi := 175) (ct := scC263) ih skC263) <|
  fun _ h => nomatch h
theorem sqC176 (l : Launch) (Γ : zG) : sQC l Γ [(176, scC264)] :=
  sfm (fun ih => schk_ok (mi := 176) (ct := scC264) ih skC264) <|
  fun _ h => nomatch h
theorem sPC_ok (l : Launch) (Γ : zG) : zallP (sQC l Γ) sTCt := ⟨⟨⟨⟨⟨⟨⟨⟨(fun _ h => nomatch h), (fun _ h => nomatch h)⟩, ⟨(fun _ h => nomatch h), (fun _ h => nomatch h)⟩⟩, ⟨⟨(fun _ h => nomatch h), (fun _ h => nomatch h)⟩, ⟨(fun _ h => nomatch h), ⟨(fun _ h => nomatch h), (fun _ h => nomatch h)⟩⟩⟩⟩, ⟨⟨⟨(fun _ h => nomatch h), (fun _ h => nomatch h)⟩, ⟨(fun _ h => nomatch h), ⟨(fun _ h => nomatch h), (fun _ h => nomatch h)⟩⟩⟩, ⟨⟨(fun _ h => nomatch h), (fun _ h => nomatch h)⟩, ⟨(fun _ h => nomatch h), ⟨(fun _ h => nomatch h), (fun _ h => nomatch h)⟩⟩⟩⟩⟩, ⟨⟨⟨⟨(fun _ h => nomatch h), sqC20 l Γ⟩, ⟨(fun _ h => nomatch h), (fun _ h => nomatch h)⟩⟩, ⟨⟨(fun _ h => nomatch h), (fun _ h => nomatch h)⟩, ⟨(fun _ h => nomatch h), ⟨sqC26 l Γ, sqC27 l Γ⟩⟩⟩⟩, ⟨⟨⟨sqC28 l Γ, sqC29 l Γ⟩, ⟨sqC30 l Γ, ⟨sqC31 l Γ, sqC32 l Γ⟩⟩⟩, ⟨⟨(fun _ h => nomatch h), sqC34 l Γ⟩, ⟨sqC35 l Γ, ⟨sqC36 l Γ, sqC37 l Γ⟩⟩⟩⟩⟩⟩, ⟨⟨⟨⟨⟨sqC38 l Γ, (fun _ h => nomatch h)⟩, ⟨sqC40 l Γ, sqC41 l Γ⟩⟩, ⟨⟨(fun _ h => nomatch h), sqC43 l Γ⟩, ⟨sqC44 l Γ, ⟨sqC45 l Γ, sqC46 l Γ⟩⟩⟩⟩, ⟨⟨⟨sqC47 l Γ, sqC48 l Γ⟩, ⟨sqC49 l Γ, ⟨sqC50 l Γ, sqC51 l Γ⟩⟩⟩, ⟨⟨sqC52 l Γ, sqC53 l Γ⟩, ⟨sqC54 l Γ, ⟨sqC55 l Γ, sqC56 l Γ⟩⟩⟩⟩⟩, ⟨⟨⟨⟨sqC57 l Γ, sqC58 l Γ⟩, ⟨(fun _ h => nomatch h), ⟨sqC60 l Γ, sqC61 l Γ⟩⟩⟩, ⟨⟨sqC62 l Γ, sqC63 l Γ⟩, ⟨sqC64 l Γ, ⟨sqC65 l Γ, sqC66 l Γ⟩⟩⟩⟩, ⟨⟨⟨sqC67 l Γ, sqC68 l Γ⟩, ⟨sqC69 l Γ, ⟨sqC70 l Γ, sqC71 l Γ⟩⟩⟩, ⟨⟨sqC72 l Γ, sqC73 l Γ⟩, ⟨sqC74 l Γ, ⟨sqC75 l Γ, sqC76 l Γ⟩⟩⟩⟩⟩⟩⟩, ⟨⟨⟨⟨⟨⟨sqC77 l Γ, sqC78 l Γ⟩, ⟨(fun _ h => nomatch h), sqC80 l Γ⟩⟩, ⟨⟨sqC81 l Γ, sqC82 l Γ⟩, ⟨sqC83 l Γ, ⟨(fun _ h => nomatch h), (fun _ h => nomatch h)⟩⟩⟩⟩, ⟨⟨⟨sqC86 l Γ, sqC87 l Γ⟩, ⟨(fun _ h => nomatch h), ⟨sqC89 l Γ, sqC90 l Γ⟩⟩⟩, ⟨⟨sqC91 l Γ, sqC92 l Γ⟩, ⟨sqC93 l Γ, ⟨(fun _ h => nomatch h), sqC95 l Γ⟩⟩⟩⟩⟩, ⟨⟨⟨⟨sqC96 l Γ, sqC97 l Γ⟩, ⟨sqC98 l Γ, ⟨sqC99 l Γ, sqC100 l Γ⟩⟩⟩, ⟨⟨sqC101 l Γ, sqC102 l Γ⟩, ⟨sqC103 l Γ, ⟨sqC104 l Γ, sqC105 l Γ⟩⟩⟩⟩, ⟨⟨⟨sqC106 l Γ, sqC107 l Γ⟩, ⟨sqC108 l Γ, ⟨sqC109 l Γ, sqC110 l Γ⟩⟩⟩, ⟨⟨sqC111 l Γ, sqC112 l Γ⟩, ⟨sqC113 l Γ, ⟨sqC114 l Γ, sqC115 l Γ⟩⟩⟩⟩⟩⟩, ⟨⟨⟨⟨⟨sqC116 l Γ, sqC117 l Γ⟩, ⟨sqC118 l Γ, sqC119 l Γ⟩⟩, ⟨⟨sqC120 l Γ, sqC121 l Γ⟩, ⟨sqC122 l Γ, ⟨sqC123 l Γ, sqC124 l Γ⟩⟩⟩⟩, ⟨⟨⟨sqC125 l Γ, sqC126 l Γ⟩, ⟨sqC127 l Γ, ⟨sqC128 l Γ, sqC129 l Γ⟩⟩⟩, ⟨⟨sqC130 l Γ, sqC131 l Γ⟩, ⟨sqC132 l Γ, ⟨sqC133 l Γ, sqC134 l Γ⟩⟩⟩⟩⟩, ⟨⟨⟨⟨sqC135 l Γ, sqC136 l Γ⟩, ⟨sqC137 l Γ, ⟨sqC138 l Γ, sqC139 l Γ⟩⟩⟩, ⟨⟨sqC140 l Γ, sqC141 l Γ⟩, ⟨sqC142 l Γ, ⟨sqC143 l Γ, sqC144 l Γ⟩⟩⟩⟩, ⟨⟨⟨sqC145 l Γ, sqC146 l Γ⟩, ⟨sqC147 l Γ, ⟨sqC148 l Γ, sqC149 l Γ⟩⟩⟩, ⟨⟨sqC150 l Γ, sqC151 l Γ⟩, ⟨sqC152 l Γ, ⟨sqC153 l Γ, sqC154 l Γ⟩⟩⟩⟩⟩⟩⟩⟩, ⟨⟨⟨⟨⟨⟨⟨sqC155 l Γ, sqC156 l Γ⟩, ⟨sqC157 l Γ, sqC158 l Γ⟩⟩, ⟨⟨sqC159 l Γ, sqC160 l Γ⟩, ⟨sqC161 l Γ, ⟨sqC162 l Γ, sqC163 l Γ⟩⟩⟩⟩, ⟨⟨⟨sqC164 l Γ, (fun _ h => nomatch h)⟩, ⟨sqC166 l Γ, ⟨sqC167 l Γ, sqC168 l Γ⟩⟩⟩, ⟨⟨sqC169 l Γ, sqC170 l Γ⟩, ⟨sqC171 l Γ, ⟨sqC172 l Γ, sqC173 l Γ⟩⟩⟩⟩⟩, ⟨⟨⟨⟨sqC174 l Γ, sqC175 l Γ⟩, ⟨sqC176 l Γ, ⟨(fun _ h => nomatch h), (fun _ h => nomatch h)⟩⟩⟩, ⟨⟨(fun _ h => nomatch h), (fun _ h => nomatch h)⟩, ⟨(fun _ h => nomatch h), ⟨(fun _ h => nomatch h), (fun _ h => nomatch h)⟩⟩⟩⟩, ⟨⟨⟨(fun _ h => nomatch h), (fun _ h => nomatch h)⟩, ⟨(fun _ h => nomatch h), ⟨(fun _ h => nomatch h), (fun _ h => nomatch h)⟩⟩⟩, ⟨⟨(fun _ h => nomatch h), (fun _ h => nomatch h)⟩, ⟨(fun _ h => nomatch h), ⟨(fun _ h => nomatch h), (fun _ h => nomatch h)⟩⟩⟩⟩⟩⟩, ⟨⟨⟨⟨⟨(fun _ h => nomatch h), (fun _ h => nomatch h)⟩, ⟨(fun _ h => nomatch h), (fun _ h => nomatch h)⟩⟩, ⟨⟨(fun _ h => nomatch h), (fun _ h => nomatch h)⟩, ⟨(fun _ h => nomatch h), ⟨(fun _ h => nomatch h), (fun _ h => nomatch h)⟩⟩⟩⟩, ⟨⟨⟨(fun _ h => nomatch h), (fun _ h => nomatch h)⟩, ⟨(fun _ h => nomatch h), ⟨(fun _ h => nomatch h), (fun _ h => nomatch h)⟩⟩⟩, ⟨⟨(fun _ h => nomatch h), (fun _ h => nomatch h)⟩, ⟨(fun _ h => nomatch h), ⟨(fun _ h => nomatch h), (fun _ h => nomatch h)⟩⟩⟩⟩⟩, ⟨⟨⟨⟨(fun _ h => nomatch h), (fun _ h => nomatch h)⟩, ⟨(fun _ h => nomatch h), ⟨(fun _ h => nomatch h), (fun _ h => nomatch h)⟩⟩⟩, ⟨⟨(fun _ h => nomatch h), (fun _ h => nomatch h)⟩, ⟨(fun _ h => nomatch h), ⟨(fun _ h => nomatch h), (fun _ h => nomatch h)⟩⟩⟩⟩, ⟨⟨⟨(fun _ h => nomatch h), (fun _ h => nomatch h)⟩, ⟨(fun _ h => nomatch h), ⟨(fun _ h => nomatch h), (fun _ h => nomatch h)⟩⟩⟩, ⟨⟨(fun _ h => nomatch h), (fun _ h => nomatch h)⟩, ⟨(fun _ h => nomatch h), ⟨(fun _ h => nomatch h), (fun _ h => nomatch h)⟩⟩⟩⟩⟩⟩⟩, ⟨⟨⟨⟨⟨⟨(fun _ h => nomatch h), (fun _ h => nomatch h)⟩, ⟨(fun _ h => nomatch h), (fun _ h => nomatch h)⟩⟩, ⟨⟨(fun _ h => nomatch h), (fun _ h => nomatch h)⟩, ⟨(fun _ h => nomatch h), ⟨(fun _ h => nomatch h), (fun _ h => nomatch h)⟩⟩⟩⟩, ⟨⟨⟨(fun _ h => nomatch h), (fun _ h => nomatch h)⟩, ⟨(fun _ h => nomatch h), ⟨(fun _ h => nomatch h), (fun _ h => nomatch h)⟩⟩⟩, ⟨⟨(fun _ h => nomatch h), (fun _ h => nomatch h)⟩, ⟨(fun _ h => nomatch h), ⟨(fun _ h => nomatch h), (fun _ h => nomatch h)⟩⟩⟩⟩⟩, ⟨⟨⟨⟨(fun _ h => nomatch h), (fun _ h => nomatch h)⟩, ⟨(fun _ h => nomatch h), ⟨(fun _ h => nomatch h), (fun _ h => nomatch h)⟩⟩⟩, ⟨⟨(fun _ h => nomatch h), (fun _ h => nomatch h)⟩, ⟨(fun _ h => nomatch h), ⟨(fun _ h => nomatch h), (fun _ h => nomatch h)⟩⟩⟩⟩, ⟨⟨⟨(fun _ h => nomatch h), (fun _ h => nomatch h)⟩, ⟨(fun _ h => nomatch h), ⟨(fun _ h => nomatch h), (fun _ h => nomatch h)⟩⟩⟩, ⟨⟨(fun _ h => nomatch h), (fun _ h => nomatch h)⟩, ⟨(fun _ h => nomatch h), ⟨(fun _ h => nomatch h), (fun _ h => nomatch h)⟩⟩⟩⟩⟩⟩, ⟨⟨⟨⟨⟨(fun _ h => nomatch h), (fun _ h => nomatch h)⟩, ⟨(fun _ h => nomatch h), (fun _ h => nomatch h)⟩⟩, ⟨⟨(fun _ h => nomatch h), (fun _ h => nomatch h)⟩, ⟨(fun _ h => nomatch h), ⟨(fun _ h => nomatch h), (fun _ h => nomatch h)⟩⟩⟩⟩, ⟨⟨⟨(fun _ h => nomatch h), (fun _ h => nomatch h)⟩, ⟨(fun _ h => nomatch h), ⟨(fun _ h => nomatch h), (fun _ h => nomatch h)⟩⟩⟩, ⟨⟨(fun _ h => nomatch h), (fun _ h => nomatch h)⟩, ⟨(fun _ h => nomatch h), ⟨(fun _ h => nomatch h), (fun _ h => nomatch h)⟩⟩⟩⟩⟩, ⟨⟨⟨⟨(fun _ h => nomatch h), (fun _ h => nomatch h)⟩, ⟨(fun _ h => nomatch h), ⟨(fun _ h => nomatch h), (fun _ h => nomatch h)⟩⟩⟩, ⟨⟨(fun _ h => nomatch h), (fun _ h => nomatch h)⟩, ⟨(fun _ h => nomatch h), ⟨(fun _ h => nomatch h), (fun _ h => nomatch h)⟩⟩⟩⟩, ⟨⟨⟨(fun _ h => nomatch h), (fun _ h => nomatch h)⟩, ⟨(fun _ h => nomatch h), ⟨(fun _ h => nomatch h), (fun _ h => nomatch h)⟩⟩⟩, ⟨⟨(fun _ h => nomatch h), (fun _ h => nomatch h)⟩, ⟨(fun _ h => nomatch h), ⟨(fun _ h => nomatch h), (fun _ h => nomatch h)⟩⟩⟩⟩⟩⟩⟩⟩⟩
theorem sTC_ok (l : Launch) (Γ : zG) : ∀ mi, ∀ c ∈ sTC mi, sCon l Γ swC mi c := fun mi c hc => sall (T := sTC) (fun D mi c hc hD ih => by
    obtain ⟨e, he, rfl⟩ := List.mem_map.mp hc
    obtain ⟨h2, h3⟩ := List.mem_filter.mp he
    have h3 : e.1 = mi := beq_iff_eq.mp h3
    rw [← h3]
    exact zallP_get _ (sPC_ok l Γ) mi e h2 (fun mi' c' h' hlt => ih mi' c' h' (by rw [← hD]; exact hlt))) _ mi c hc rfl

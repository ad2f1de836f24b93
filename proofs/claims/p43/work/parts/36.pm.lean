def sQM (l : Launch) (Γ : zG) (L : List (Nat × sCt)) : Prop := ∀ e ∈ L, (∀ mi, ∀ c ∈ sTM mi, c.2.2.2.2.2 < e.2.2.2.2.2.2 → sCon l Γ swM mi c) → sCon l Γ swM e.1 e.2
theorem sqM191 (l : Launch) (Γ : zG) : sQM l Γ [(191, scM0)] :=
  sfm (fun ih => schk_ok (mi := 191) (ct := scM0) ih skM0) <|
  fun _ h => nomatch h
theorem sqM192 (l : Launch) (Γ : zG) : sQM l Γ [(192, scM1)] :=
  sfm (fun ih => schk_ok (mi := 192) (ct := scM1) ih skM1) <|
  fun _ h => nomatch h
theorem sqM193 (l : Launch) (Γ : zG) : sQM l Γ [(193, scM2)] :=
  sfm (fun ih => schk_ok (mi := 193) (ct := scM2) ih skM2) <|
  fun _ h => nomatch h
theorem sqM205 (l : Launch) (Γ : zG) : sQM l Γ [(205, scM3), (205, scM4)] :=
  sfm (fun ih => schk_ok (mi := 205) (ct := scM3) ih skM3) <|
  sfm (fun ih => schk_ok (mi := 205) (ct := scM4) ih skM4) <|
  fun _ h => nomatch h
theorem sqM226 (l : Launch) (Γ : zG) : sQM l Γ [(226, scM5)] :=
  sfm (fun ih => schk_ok (mi := 226) (ct := scM5) ih skM5) <|
  fun _ h => nomatch h
theorem sqM227 (l : Launch) (Γ : zG) : sQM l Γ [(227, scM6)] :=
  sfm (fun ih => schk_ok (mi := 227) (ct := scM6) ih skM6) <|
  fun _ h => nomatch h
theorem sqM228 (l : Launch) (Γ : zG) : sQM l Γ [(228, scM7)] :=
  sfm (fun ih => schk_ok (mi := 228) (ct := scM7) ih skM7) <|
  fun _ h => nomatch h
theorem sqM231 (l : Launch) (Γ : zG) : sQM l Γ [(231, scM8)] :=
  sfm (fun ih => schk_ok (mi := 231) (ct := scM8) ih skM8) <|
  fun _ h => nomatch h
theorem sqM233 (l : Launch) (Γ : zG) : sQM l Γ [(233, scM9), (233, scM10)] :=
  sfm (fun ih => schk_ok (mi := 233) (ct := scM9) ih skM9) <|
  sfm (fun ih => schk_ok (mi := 233) (ct := scM10) ih skM10) <|
  fun _ h => nomatch h
theorem sqM234 (l : Launch) (Γ : zG) : sQM l Γ [(234, scM11)] :=
  sfm (fun ih => schk_ok (mi := 234) (ct := scM11) ih skM11) <|
  fun _ h => nomatch h
theorem sqM235 (l : Launch) (Γ : zG) : sQM l Γ [(235, scM12)] :=
  sfm (fun ih => schk_ok (mi := 235) (ct := scM12) ih skM12) <|
  fun _ h => nomatch h
theorem sqM237 (l : Launch) (Γ : zG) : sQM l Γ [(237, scM13)] :=
  sfm (fun ih => schk_ok (mi := 237) (ct := scM13) ih skM13) <|
  fun _ h => nomatch h
theorem sqM238 (l : Launch) (Γ : zG) : sQM l Γ [(238, scM14), (238, scM15)] :=
  sfm (fun ih => schk_ok (mi := 238) (ct := scM14) ih skM14) <|
  sfm (fun ih => schk_ok (mi := 238) (ct := scM15) ih skM15) <|
  fun _ h => nomatch h
theorem sqM240 (l : Launch) (Γ : zG) : sQM l Γ [(240, scM16), (240, scM17), (240, scM18)] :=
  sfm (fun ih => schk_ok (mi := 240) (ct := scM16) ih skM16) <|
  sfm (fun ih => schk_ok (mi := 240) (ct := scM17) ih skM17) <|
  sfm (fun ih => schk_ok (mi := 240) (ct := scM18) ih skM18) <|
  fun _ h => nomatch h
theorem sqM241 (l : Launch) (Γ : zG) : sQM l Γ [(241, scM19)] :=
  sfm (fun ih => schk_ok (mi := 241) (ct := scM19) ih skM19) <|
  fun _ h => nomatch h
theorem sqM243 (l : Launch) (Γ : zG) : sQM l Γ [(243, scM20)] :=
  sfm (fun ih => schk_ok (mi := 243) (ct := scM20) ih skM20) <|
  fun _ h => nomatch h
theorem sqM244 (l : Launch) (Γ : zG) : sQM l Γ [(244, scM21)] :=
  sfm (fun ih => schk_ok (mi := 244) (ct := scM21) ih skM21) <|
  fun _ h => nomatch h
theorem sqM245 (l : Launch) (Γ : zG) : sQM l Γ [(245, scM22)] :=
  sfm (fun ih => schk_ok (mi := 245) (ct := scM22) ih skM22) <|
  fun _ h => nomatch h
theorem sqM246 (l : Launch) (Γ : zG) : sQM l Γ [(246, scM23)] :=
  sfm (fun ih => schk_ok (mi := 246) (ct := scM23) ih skM23) <|
  fun _ h => nomatch h
theorem sqM247 (l : Launch) (Γ : zG) : sQM l Γ [(247, scM24), (247, scM25), (247, scM26), (247, scM27), (247, scM28), (247, scM29), (247, scM30), (247, scM31), (247, scM32), (247, scM33), (247, scM34), (247, scM35), (247, scM36), (247, scM37), (247, scM38), (247, scM39), (247, scM40), (247, scM41), (247, scM42), (247, scM43), (247, scM44)] :=
  sfm (fun ih => schk_ok (mi := 247) (ct := scM24) ih skM24) <|
  sfm (fun ih => schk_ok (mi := 247) (ct := scM25) ih skM25) <|
  sfm (fun ih => schk_ok (mi := 247) (ct := scM26) ih skM26) <|
  sfm (fun ih => schk_ok (mi := 247) (ct := scM27) ih skM27) <|
  sfm (fun ih => schk_ok (mi := 247) (ct := scM28) ih skM28) <|
  sfm (fun ih => schk_ok (mi := 247) (ct := scM29) ih skM29) <|
  sfm (fun ih => schk_ok (mi := 247) (ct := scM30) ih skM30) <|
  sfm (fun ih => schk_ok (mi := 247) (ct := scM31) ih skM31) <|
  sfm (fun ih => schk_ok (mi := 247) (ct := scM32) ih skM32) <|
  sfm (fun ih => schk_ok (mi := 247) (ct := scM33) ih skM33) <|
  sfm (fun ih => schk_ok (mi := 247) (ct := scM34) ih skM34) <|
  sfm (fun ih => schk_ok (mi := 247) (ct := scM35) ih skM35) <|
  sfm (fun ih => schk_ok (mi := 247) (ct := scM36) ih skM36) <|
  sfm (fun ih => schk_ok (mi := 247) (ct := scM37) ih skM37) <|
  sfm (fun ih => schk_ok (mi := 247) (ct := scM38) ih skM38) <|
  sfm (fun ih => schk_ok (mi := 247) (ct := scM39) ih skM39) <|
  sfm (fun ih => schk_ok (mi := 247) (ct := scM40) ih skM40) <|
  sfm (fun ih => schk_ok (mi := 247) (ct := scM41) ih skM41) <|
  sfm (fun ih => schk_ok (mi := 247) (ct := scM42) ih skM42) <|
  sfm (fun ih => schk_ok (mi := 247) (ct := scM43) ih skM43) <|
  sfm (fun ih => schk_ok (mi := 247) (ct := scM44) ih skM44) <|
  fun _ h => nomatch h
theorem sqM249 (l : Launch) (Γ : zG) : sQM l Γ [(249, scM45)] :=
  sfm (fun ih => schk_ok (mi := 249) (ct := scM45) ih skM45) <|
  fun _ h => nomatch h
theorem sqM251 (l : Launch) (Γ : zG) : sQM l Γ [(251, scM46)] :=
  sfm (fun ih => schk_ok (mi := 251) (ct := scM46) ih skM46) <|
  fun _ h => nomatch h
theorem sqM252 (l : Launch) (Γ : zG) : sQM l Γ [(252, scM47)] :=
  sfm (fun ih => schk_ok (mi := 252) (ct := scM47) ih skM47) <|
  fun _ h => nomatch h
theorem sqM253 (l : Launch) (Γ : zG) : sQM l Γ [(253, scM48), (253, scM49)] :=
  sfm (fun ih => schk_ok (mi := 253) (ct := scM48) ih skM48) <|
  sfm (fun ih => schk_ok (mi := 253) (ct := scM49) ih skM49) <|
  fun _ h => nomatch h
theorem sqM254 (l : Launch) (Γ : zG) : sQM l Γ [(254, scM50), (254, scM51)] :=
  sfm (fun ih => schk_ok (mi := 254) (ct := scM50) ih skM50) <|
  sfm (fun ih => schk_ok (mi := 254) (ct := scM51) ih skM51) <|
  fun _ h => nomatch h
theorem sqM256 (l : Launch) (Γ : zG) : sQM l Γ [(256, scM52), (256, scM53), (256, scM54)] :=
  sfm (fun ih => schk_ok (mi := 256) (ct := scM52) ih skM52) <|
  sfm (fun ih => schk_ok (mi := 256) (ct := scM53) ih skM53) <|
  sfm (fun ih => schk_ok (mi := 256) (ct := scM54) ih skM54) <|
  fun _ h => nomatch h
theorem sqM257 (l : Launch) (Γ : zG) : sQM l Γ [(257, scM55)] :=
  sfm (fun ih => schk_ok (mi := 257) (ct := scM55) ih skM55) <|
  fun _ h => nomatch h
theorem sqM258 (l : Launch) (Γ : zG) : sQM l Γ [(258, scM56)] :=
  sfm (fun ih => schk_ok (mi := 258) (ct := scM56) ih skM56) <|
  fun _ h => nomatch h
theorem sqM259 (l : Launch) (Γ : zG) : sQM l Γ [(259, scM57), (259, scM58)] :=
  sfm (fun ih => schk_ok (mi := 259) (ct := scM57) ih skM57) <|
  sfm (fun ih => schk_ok (mi := 259) (ct := scM58) ih skM58) <|
  fun _ h => nomatch h
theorem sqM260 (l : Launch) (Γ : zG) : sQM l Γ [(260, scM59), (260, scM60)] :=
  sfm (fun ih => schk_ok (mi := 260) (ct := scM59) ih skM59) <|
  sfm (fun ih => schk_ok (mi := 260) (ct := scM60) ih skM60) <|
  fun _ h => nomatch h
theorem sqM261 (l : Launch) (Γ : zG) : sQM l Γ [(261, scM61), (261, scM62)] :=
  sfm (fun ih => schk_ok (mi := 261) (ct := scM61) ih skM61) <|
  sfm (fun ih => schk_ok (mi := 261) (ct := scM62) ih skM62) <|
  fun _ h => nomatch h
theorem sqM262 (l : Launch) (Γ : zG) : sQM l Γ [(262, scM63)] :=
  sfm (fun ih => schk_ok (mi := 262) (ct := scM63) ih skM63) <|
  fun _ h => nomatch h
theorem sqM263 (l : Launch) (Γ : zG) : sQM l Γ [(263, scM64)] :=
  sfm (fun ih => schk_ok (mi := 263) (ct := scM64) ih skM64) <|
  fun _ h => nomatch h
theorem sqM264 (l : Launch) (Γ : zG) : sQM l Γ [(264, scM65)] :=
  sfm (fun ih => schk_ok (mi := 264) (ct := scM65) ih skM65) <|
  fun _ h => nomatch h
theorem sqM265 (l : Launch) (Γ : zG) : sQM l Γ [(265, scM66), (265, scM67)] :=
  sfm (fun ih => schk_ok (mi := 265) (ct := scM66) ih skM66) <|
  sfm (fun ih => schk_ok (mi := 265) (ct := scM67) ih skM67) <|
  fun _ h => nomatch h
theorem sqM266 (l : Launch) (Γ : zG) : sQM l Γ [(266, scM68), (266, scM69)] :=
  sfm (fun ih => schk_ok (mi := 266) (ct := scM68) ih skM68) <|
  sfm (fun ih => schk_ok (mi := 266) (ct := scM69) ih skM69) <|
  fun _ h => nomatch h
theorem sqM267 (l : Launch) (Γ : zG) : sQM l Γ [(267, scM70)] :=
  sfm (fun ih => schk_ok (mi := 267) (ct := scM70) ih skM70) <|
  fun _ h => nomatch h
theorem sqM268 (l : Launch) (Γ : zG) : sQM l Γ [(268, scM71)] :=
  sfm (fun ih => schk_ok (mi := 268) (ct := scM71) ih skM71) <|
  fun _ h => nomatch h
theorem sqM269 (l : Launch) (Γ : zG) : sQM l Γ [(269, scM72)] :=
  sfm (fun ih => schk_ok (mi := 269) (ct := scM72) ih skM72) <|
  fun _ h => nomatch h
theorem sqM271 (l : Launch) (Γ : zG) : sQM l Γ [(271, scM73)] :=
  sfm (fun ih => schk_ok (mi := 271) (ct := scM73) ih skM73) <|
  fun _ h => nomatch h
theorem sqM272 (l : Launch) (Γ : zG) : sQM l Γ [(272, scM74)] :=
  sfm (fun ih => schk_ok (mi := 272) (ct := scM74) ih skM74) <|
  fun _ h => nomatch h
theorem sqM273 (l : Launch) (Γ : zG) : sQM l Γ [(273, scM75)] :=
  sfm (fun ih => schk_ok (mi := 273) (ct := scM75) ih skM75) <|
  fun _ h => nomatch h
theorem sqM275 (l : Launch) (Γ : zG) : sQM l Γ [(275, scM76)] :=
  sfm (fun ih => schk_ok (mi := 275) (ct := scM76) ih skM76) <|
  fun _ h => nomatch h
theorem sqM276 (l : Launch) (Γ : zG) : sQM l Γ [(276, scM77)] :=
  sfm (fun ih => schk_ok (mi := 276) (ct := scM77) ih skM77) <|
  fun _ h => nomatch h
theorem sqM277 (l : Launch) (Γ : zG) : sQM l Γ [(277, scM78)] :=
  sfm (fun ih => schk_ok (mi := 277) (ct := scM78) ih skM78) <|
  fun _ h => nomatch h
theorem sqM278 (l : Launch) (Γ : zG) : sQM l Γ [(278, scM79)] :=
  sfm (fun ih => schk_ok (mi := 278) (ct := scM79) ih skM79) <|
  fun _ h => nomatch h
theorem sqM279 (l : Launch) (Γ : zG) : sQM l Γ [(279, scM80)] :=
  sfm (fun ih => schk_ok (mi := 279) (ct := scM80) ih skM80) <|
  fun _ h => nomatch h
theorem sqM280 (l : Launch) (Γ : zG) : sQM l Γ [(280, scM81), (280, scM82)] :=
  sfm (fun ih => schk_ok (mi := 280) (ct := scM81) ih skM81) <|
  sfm (fun ih => schk_ok (mi := 280) (ct := scM82) ih skM82) <|
  fun _ h => nomatch h
theorem sqM281 (l : Launch) (Γ : zG) : sQM l Γ [(281, scM83)] :=
  sfm (fun ih => schk_ok (mi := 281) (ct := scM83) ih skM83) <|
  fun _ h => nomatch h
theorem sqM282 (l : Launch) (Γ : zG) : sQM l Γ [(282, scM84)] :=
  sfm (fun ih => schk_ok (mi := 282) (ct := scM84) ih skM84) <|
  fun _ h => nomatch h
theorem sqM283 (l : Launch) (Γ : zG) : sQM l Γ [(283, scM85)] :=
  sfm (fun ih => schk_ok (mi := 283) (ct := scM85) ih skM85) <|
  fun _ h => nomatch h
theorem sqM284 (l : Launch) (Γ : zG) : sQM l Γ [(284, scM86)] :=
  sfm (fun ih => schk_ok (mi := 284) (ct := scM86) ih skM86) <|
  fun _ h => nomatch h
theorem sqM286 (l : Launch) (Γ : zG) : sQM l Γ [(286, scM87)] :=
  sfm (fun ih => schk_ok (mi := 286) (ct := scM87) ih skM87) <|
  fun _ h => nomatch h
theorem sqM287 (l : Launch) (Γ : zG) : sQM l Γ [(287, scM88)] :=
  sfm (fun ih => schk_ok (mi := 287) (ct := scM88) ih skM88) <|
  fun _ h => nomatch h
theorem sqM288 (l : Launch) (Γ : zG) : sQM l Γ [(288, scM89)] :=
  sfm (fun ih => schk_ok (mi := 288) (ct := scM89) ih skM89) <|
  fun _ h => nomatch h
theorem sqM289 (l : Launch) (Γ : zG) : sQM l Γ [(289, scM90)] :=
  sfm (fun ih => schk_ok (mi := 289) (ct := scM90) ih skM90) <|
  fun _ h => nomatch h
theorem sqM290 (l : Launch) (Γ : zG) : sQM l Γ [(290, scM91)] :=
  sfm (fun ih => schk_ok (mi := 290) (ct := scM91) ih skM91) <|
  fun _ h => nomatch h
theorem sqM291 (l : Launch) (Γ : zG) : sQM l Γ [(291, scM92)] :=
  sfm (fun ih => schk_ok (mi := 291) (ct := scM92) ih skM92) <|
  fun _ h => nomatch h
theorem sqM292 (l : Launch) (Γ : zG) : sQM l Γ [(292, scM93)] :=
  sfm (fun ih => schk_ok (mi := 292) (ct := scM93) ih skM93) <|
  fun _ h => nomatch h
theorem sqM293 (l : Launch) (Γ : zG) : sQM l Γ [(293, scM94)] :=
  sfm (fun ih => schk_ok (mi := 293) (ct := scM94) ih skM94) <|
  fun _ h => nomatch h
theorem sqM294 (l : Launch) (Γ : zG) : sQM l Γ [(294, scM95)] :=
  sfm (fun ih => schk_ok (mi := 294) (ct := scM95) ih skM95) <|
  fun _ h => nomatch h
theorem sqM295 (l : Launch) (Γ : zG) : sQM l Γ [(295, scM96)] :=
  sfm (fun ih => schk_ok (mi := 295) (ct := scM96) ih skM96) <|
  fun _ h => nomatch h
theorem sqM296 (l : Launch) (Γ : zG) : sQM l Γ [(296, scM97), (296, scM98), (296, scM99), (296, scM100), (296, scM101), (296, scM102), (296, scM103), (296, scM104), (296, scM105), (296, scM106), (296, scM107), (296, scM108), (296, scM109), (296, scM110), (296, scM111), (296, scM112), (296, scM113), (296, scM114), (296, scM115), (296, scM116), (296, scM117), (296, scM118), (296, scM119), (296, scM120), (296, scM121), (296, scM122), (296, scM123), (296, scM124), (296, scM125), (296, scM126), (296, scM127), (296, scM128), (296, scM129), (296, scM130), (296, scM131), (296, scM132), (296, scM133), (296, scM134), (296, scM135), (296, scM136), (296, scM137), (296, scM138), (296, scM139), (296, scM140), (296, scM141), (296, scM142), (296, scM143)] :=
  sfm (fun _ => nlift (mi := 296) (v := 0) (schk_ok (mi := 296) (ct := scM97) (T := sT0) (fun _ _ h => nomatch h) skM97) rfl (Or.inl rfl)) <|
  sfm (fun _ => nlift (mi := 296) (v := 1) (schk_ok (mi := 296) (ct := scM98) (T := sT0) (fun _ _ h => nomatch h) skM98) rfl (Or.inr rfl)) <|
  sfm (fun _ => nlift (mi := 296) (v := 1) (schk_ok (mi := 296) (ct := scM99) (T := sT0) (fun _ _ h => nomatch h) skM99) rfl (Or.inl rfl)) <|
  sfm (fun _ => nlift (mi := 296) (v := 10) (schk_ok (mi := 296) (ct := scM100) (T := sT0) (fun _ _ h => nomatch h) skM100) rfl (Or.inr rfl)) <|
  sfm (fun _ => nlift (mi := 296) (v := 10) (schk_ok (mi := 296) (ct := scM101) (T := sT0) (fun _ _ h => nomatch h) skM101) rfl (Or.inl rfl)) <|
  sfm (fun _ => nlift (mi := 296) (v := 11) (schk_ok (mi := 296) (ct := scM102) (T := sT0) (fun _ _ h => nomatch h) skM102) rfl (Or.inr rfl)) <|
  sfm (fun _ => nlift (mi := 296) (v := 11) (schk_ok (mi := 296) (ct := scM103) (T := sT0) (fun _ _ h => nomatch h) skM103) rfl (Or.inl rfl)) <|
  sfm (fun _ => nlift (mi := 296) (v := 12) (schk_ok (mi := 296) (ct := scM104) (T := sT0) (fun _ _ h => nomatch h) skM104) rfl (Or.inr rfl)) <|
  sfm (fun _ => nlift (mi := 296) (v := 12) (schk_ok (mi := 296) (ct := scM105) (T := sT0) (fun _ _ h => nomatch h) skM105) rfl (Or.inl rfl)) <|
  sfm (fun _ => nlift (mi := 296) (v := 13) (schk_ok (mi := 296) (ct := scM106) (T := sT0) (fun _ _ h => nomatch h) skM106) rfl (Or.inr rfl)) <|
  sfm (fun _ => nlift (mi := 296) (v := 13) (schk_ok (mi := 296) (ct := scM107) (T := sT0) (fun _ _ h => nomatch h) skM107) rfl (Or.inl rfl)) <|
  sfm (fun _ => nlift (mi := 296) (v := 14) (schk_ok (mi := 296) (ct := scM108) (T := sT0) (fun _ _ h => nomatch h) skM108) rfl (Or.inr rfl)) <|
  sfm (fun _ => nlift (mi := 296) (v := 14) (schk_ok (mi := 296) (ct := scM109) (T := sT0) (fun _ _ h => nomatch h) skM109) rfl (Or.inl rfl)) <|
  sfm (fun _ => nlift (mi := 296) (v := 15) (schk_ok (mi := 296) (ct := scM110) (T := sT0) (fun _ _ h => nomatch h) skM110) rfl (Or.inr rfl)) <|
  sfm (fun _ => nlift (mi := 296) (v := 15) (schk_ok (mi := 296) (ct := scM111) (T := sT0) (fun _ _ h => nomatch h) skM111) rfl (Or.inl rfl)) <|
  sfm (fun _ => nlift (mi := 296) (v := 16) (schk_ok (mi := 296) (ct := scM112) (T := sT0) (fun _ _ h => nomatch h) skM112) rfl (Or.inr rfl)) <|
  sfm (fun _ => nlift (mi := 296) (v := 16) (schk_ok (mi := 296) (ct := scM113) (T := sT0) (fun _ _ h => nomatch h) skM113) rfl (Or.inl rfl)) <|
  sfm (fun _ => nlift (mi := 296) (v := 17) (schk_ok (mi := 296) (ct := scM114) (T := sT0) (fun _ _ h => nomatch h) skM114) rfl (Or.inr rfl)) <|
  sfm (fun _ => nlift (mi := 296) (v := 17) (schk_ok (mi := 296) (ct := scM115) (T := sT0) (fun _ _ h => nomatch h) skM115) rfl (Or.inl rfl)) <|
  sfm (fun _ => nlift (mi := 296) (v := 18) (schk_ok (mi := 296) (ct := scM116) (T := sT0) (fun _ _ h => nomatch h) skM116) rfl (Or.inr rfl)) <|
  sfm (fun _ => nlift (mi := 296) (v := 18) (schk_ok (mi := 296) (ct := scM117) (T := sT0) (fun _ _ h => nomatch h) skM117) rfl (Or.inl rfl)) <|
  sfm (fun _ => nlift (mi := 296) (v := 19) (schk_ok (mi := 296) (ct := scM118) (T := sT0) (fun _ _ h => nomatch h) skM118) rfl (Or.inr rfl)) <|
  sfm (fun _ => nlift (mi := 296) (v := 19) (schk_ok (mi := 296) (ct := scM119) (T := sT0) (fun _ _ h => nomatch h) skM119) rfl (Or.inl rfl)) <|
  sfm (fun _ => nlift (mi := 296) (v := 2) (schk_ok (mi := 296) (ct := scM120) (T := sT0) (fun _ _ h => nomatch h) skM120) rfl (Or.inr rfl)) <|
  sfm (fun _ => nlift (mi := 296) (v := 2) (schk_ok (mi := 296) (ct := scM121) (T := sT0) (fun _ _ h => nomatch h) skM121) rfl (Or.inl rfl)) <|
  sfm (fun _ => nlift (mi := 296) (v := 20) (schk_ok (mi := 296) (ct := scM122) (T := sT0) (fun _ _ h => nomatch h) skM122) rfl (Or.inr rfl)) <|
  sfm (fun _ => nlift (mi := 296) (v := 20) (schk_ok (mi := 296) (ct := scM123) (T := sT0) (fun _ _ h => nomatch h) skM123) rfl (Or.inl rfl)) <|
  sfm (fun _ => nlift (mi := 296) (v := 21) (schk_ok (mi := 296) (ct := scM124) (T := sT0) (fun _ _ h => nomatch h) skM124) rfl (Or.inr rfl)) <|
  sfm (fun _ => nlift (mi := 296) (v := 21) (schk_ok (mi := 296) (ct := scM125) (T := sT0) (fun _ _ h => nomatch h) skM125) rfl (Or.inl rfl)) <|
  sfm (fun _ => nlift (mi := 296) (v := 22) (schk_ok (mi := 296) (ct := scM126) (T := sT0) (fun _ _ h => nomatch h) skM126) rfl (Or.inr rfl)) <|
  sfm (fun _ => nlift (mi := 296) (v := 22) (schk_ok (mi := 296) (ct := scM127) (T := sT0) (fun _ _ h => nomatch h) skM127) rfl (Or.inl rfl)) <|
  sfm (fun _ => nlift (mi := 296) (v := 23) (schk_ok (mi := 296) (ct := scM128) (T := sT0) (fun _ _ h => nomatch h) skM128) rfl (Or.inr rfl)) <|
  sfm (fun _ => nlift (mi := 296) (v := 23) (schk_ok (mi := 296) (ct := scM129) (T := sT0) (fun _ _ h => nomatch h) skM129) rfl (Or.inl rfl)) <|
  sfm (fun _ => nlift (mi := 296) (v := 3) (schk_ok (mi := 296) (ct := scM130) (T := sT0) (fun _ _ h => nomatch h) skM130) rfl (Or.inr rfl)) <|
  sfm (fun _ => nlift (mi := 296) (v := 3) (schk_ok (mi := 296) (ct := scM131) (T := sT0) (fun _ _ h => nomatch h) skM131) rfl (Or.inl rfl)) <|
  sfm (fun _ => nlift (mi := 296) (v := 4) (schk_ok (mi := 296) (ct := scM132) (T := sT0) (fun _ _ h => nomatch h) skM132) rfl (Or.inr rfl)) <|
  sfm (fun _ => nlift (mi := 296) (v := 4) (schk_ok (mi := 296) (ct := scM133) (T := sT0) (fun _ _ h => nomatch h) skM133) rfl (Or.inl rfl)) <|
  sfm (fun _ => nlift (mi := 296) (v := 5) (schk_ok (mi := 296) (ct := scM134) (T := sT0) (fun _ _ h => nomatch h) skM134) rfl (Or.inr rfl)) <|
  sfm (fun _ => nlift (mi := 296) (v := 5) (schk_ok (mi := 296) (ct := scM135) (T := sT0) (fun _ _ h => nomatch h) skM135) rfl (Or.inl rfl)) <|
  sfm (fun _ => nlift (mi := 296) (v := 6) (schk_ok (mi := 296) (ct := scM136) (T := sT0) (fun _ _ h => nomatch h) skM136) rfl (Or.inr rfl)) <|
  sfm (fun _ => nlift (mi := 296) (v := 6) (schk_ok (mi := 296) (ct := scM137) (T := sT0) (fun _ _ h => nomatch h) skM137) rfl (Or.inl rfl)) <|
  sfm (fun _ => nlift (mi := 296) (v := 7) (schk_ok (mi := 296) (ct := scM138) (T := sT0) (fun _ _ h => nomatch h) skM138) rfl (Or.inr rfl)) <|
  sfm (fun _ => nlift (mi := 296) (v := 7) (schk_ok (mi := 296) (ct := scM139) (T := sT0) (fun _ _ h => nomatch h) skM139) rfl (Or.inl rfl)) <|
  sfm (fun _ => nlift (mi := 296) (v := 8) (schk_ok (mi := 296) (ct := scM140) (T := sT0) (fun _ _ h => nomatch h) skM140) rfl (Or.inr rfl)) <|
  sfm (fun _ => nlift (mi := 296) (v := 8) (schk_ok (mi := 296) (ct := scM141) (T := sT0) (fun _ _ h => nomatch h) skM141) rfl (Or.inl rfl)) <|
  sfm (fun _ => nlift (mi := 296) (v := 9) (schk_ok (mi := 296) (ct := scM142) (T := sT0) (fun _ _ h => nomatch h) skM142) rfl (Or.inr rfl)) <|
  sfm (fun _ => nlift (mi := 296) (v := 9) (schk_ok (mi := 296) (ct := scM143) (T := sT0) (fun _ _ h => nomatch h) skM143) rfl (Or.inl rfl)) <|
  fun _ h => nomatch h
theorem sqM297 (l : Launch) (Γ : zG) : sQM l Γ [(297, scM144)] :=
  sfm (fun ih => schk_ok (mi := 297) (ct := scM144) ih skM144) <|
  fun _ h => nomatch h
theorem sqM298 (l : Launch) (Γ : zG) : sQM l Γ [(298, scM145)] :=
  sfm (fun ih => schk_ok (mi := 298) (ct := scM145) ih skM145) <|
  fun _ h => nomatch h
theorem sqM299 (l : Launch) (Γ : zG) : sQM l Γ [(299, scM146)] :=
  sfm (fun ih => schk_ok (mi := 299) (ct := scM146) ih skM146) <|
  fun _ h => nomatch h
theorem sqM300 (l : Launch) (Γ : zG) : sQM l Γ [(300, scM147)] :=
  sfm (fun ih => schk_ok (mi := 300) (ct := scM147) ih skM147) <|
  fun _ h => nomatch h
theorem sqM301 (l : Launch) (Γ : zG) : sQM l Γ [(301, scM148)] :=
  sfm (fun ih => schk_ok (mi := 301) (ct := scM148) ih skM148) <|
  fun _ h => nomatch h
theorem sqM302 (l : Launch) (Γ : zG) : sQM l Γ [(302, scM149)] :=
  sfm (fun ih => schk_ok (mi := 302) (ct := scM149) ih skM149) <|
  fun _ h => nomatch h
theorem sqM303 (l : Launch) (Γ : zG) : sQM l Γ [(303, scM150)] :=
  sfm (fun ih => schk_ok (mi := 303) (ct := scM150) ih skM150) <|
  fun _ h => nomatch h
theorem sqM304 (l : Launch) (Γ : zG) : sQM l Γ [(304, scM151)] :=
  sfm (fun ih => schk_ok (mi := 304) (ct := scM151) ih skM151) <|
  fun _ h => nomatch h
theorem sqM305 (l : Launch) (Γ : zG) : sQM l Γ [(305, scM152), (305, scM153)] :=
  sfm (fun ih => schk_ok (mi := 305) (ct := scM152) ih skM152) <|
  sfm (fun ih => schk_ok (mi := 305) (ct := scM153) ih skM153) <|
  fun _ h => nomatch h
theorem sqM306 (l : Launch) (Γ : zG) : sQM l Γ [(306, scM154)] :=
  sfm (fun ih => schk_ok (mi := 306) (ct := scM154) ih skM154) <|
  fun _ h => nomatch h
theorem sqM307 (l : Launch) (Γ : zG) : sQM l Γ [(307, scM155), (307, scM156), (307, scM157), (307, scM158), (307, scM159), (307, scM160), (307, scM161), (307, scM162), (307, scM163), (307, scM164), (307, scM165), (307, scM166), (307, scM167), (307, scM168), (307, scM169), (307, scM170), (307, scM171), (307, scM172), (307, scM173), (307, scM174), (307, scM175)] :=
  sfm (fun ih => schk_ok (mi := 307) (ct := scM155) ih skM155) <|
  sfm (fun ih => schk_ok (mi := 307) (ct := scM156) ih skM156) <|
  sfm (fun ih => schk_ok (mi := 307) (ct := scM157) ih skM157) <|
  sfm (fun ih => schk_ok (mi := 307) (ct := scM158) ih skM158) <|
  sfm (fun ih => schk_ok (mi := 307) (ct := scM159) ih skM159) <|
  sfm (fun ih => schk_ok (mi := 307) (ct := scM160) ih skM160) <|
  sfm (fun ih => schk_ok (mi := 307) (ct := scM161) ih skM161) <|
  sfm (fun ih => schk_ok (mi := 307) (ct := scM162) ih skM162) <|
  sfm (fun ih => schk_ok (mi := 307) (ct := scM163) ih skM163) <|
  sfm (fun ih => schk_ok (mi := 307) (ct := scM164) ih skM164) <|
  sfm (fun ih => schk_ok (mi := 307) (ct := scM165) ih skM165) <|
  sfm (fun ih => schk_ok (mi := 307) (ct := scM166) ih skM166) <|
  sfm (fun ih => schk_ok (mi := 307) (ct := scM167) ih skM167) <|
  sfm (fun ih => schk_ok (mi := 307) (ct := scM168) ih skM168) <|
  sfm (fun ih => schk_ok (mi := 307) (ct := scM169) ih skM169) <|
  sfm (fun ih => schk_ok (mi := 307) (ct := scM170) ih skM170) <|
  sfm (fun ih => schk_ok (mi := 307) (ct := scM171) ih skM171) <|
  sfm (fun ih => schk_ok (mi := 307) (ct := scM172) ih skM172) <|
  sfm (fun ih => schk_ok (mi := 307) (ct := scM173) ih skM173) <|
  sfm (fun ih => schk_ok (mi := 307) (ct := scM174) ih skM174) <|
  sfm (fun ih => schk_ok (mi := 307) (ct := scM175) ih skM175) <|
  fun _ h => nomatch h
theorem sqM308 (l : Launch) (Γ : zG) : sQM l Γ [(308, scM176)] :=
  sfm (fun ih => schk_ok (mi := 308) (ct := scM176) ih skM176) <|
  fun _ h => nomatch h
theorem sqM309 (l : Launch) (Γ : zG) : sQM l Γ [(309, scM177)] :=
  sfm (fun ih => schk_ok (mi := 309) (ct := scM177) ih skM177) <|
  fun _ h => nomatch h
theorem sqM310 (l : Launch) (Γ : zG) : sQM l Γ [(310, scM178)] :=
  sfm (fun ih => schk_ok (mi := 310) (ct := scM178) ih skM178) <|
  fun _ h => nomatch h
theorem sPM_ok (l : Launch) (Γ : zG) : zallP (sQM l Γ) sTMt := ⟨⟨⟨⟨⟨⟨⟨⟨(fun _ h => nomatch h), (fun _ h => nomatch h)⟩, ⟨(fun _ h => nomatch h), (fun _ h => nomatch h)⟩⟩, ⟨⟨(fun _ h => nomatch h), (fun _ h => nomatch h)⟩, ⟨(fun _ h => nomatch h), ⟨(fun _ h => nomatch h), (fun _ h => nomatch h)⟩⟩⟩⟩, ⟨⟨⟨(fun _ h => nomatch h), (fun _ h => nomatch h)⟩, ⟨(fun _ h => nomatch h), ⟨(fun _ h => nomatch h), (fun _ h => nomatch h)⟩⟩⟩, ⟨⟨(fun _ h => nomatch h), (fun _ h => nomatch h)⟩, ⟨(fun _ h => nomatch h), ⟨(fun _ h => nomatch h), (fun _ h => nomatch h)⟩⟩⟩⟩⟩, ⟨⟨⟨⟨(fun _ h => nomatch h), (fun _ h => nomatch h)⟩, ⟨(fun _ h => nomatch h), (fun _ h => nomatch h)⟩⟩, ⟨⟨(fun _ h => nomatch h), (fun _ h => nomatch h)⟩, ⟨(fun _ h => nomatch h), ⟨(fun _ h => nomatch h), (fun _ h => nomatch h)⟩⟩⟩⟩, ⟨⟨⟨(fun _ h => nomatch h), (fun _ h => nomatch h)⟩, ⟨(fun _ h => nomatch h), ⟨(fun _ h => nomatch h), (fun _ h => nomatch h)⟩⟩⟩, ⟨⟨(fun _ h => nomatch h), (fun _ h => nomatch h)⟩, ⟨(fun _ h => nomatch h), ⟨(fun _ h => nomatch h), (fun _ h => nomatch h)⟩⟩⟩⟩⟩⟩, ⟨⟨⟨⟨⟨(fun _ h => nomatch h), (fun _ h => nomatch h)⟩, ⟨(fun _ h => nomatch h), (fun _ h => nomatch h)⟩⟩, ⟨⟨(fun _ h => nomatch h), (fun _ h => nomatch h)⟩, ⟨(fun _ h => nomatch h), ⟨(fun _ h => nomatch h), (fun _ h => nomatch h)⟩⟩⟩⟩, ⟨⟨⟨(fun _ h => nomatch h), (fun _ h => nomatch h)⟩, ⟨(fun _ h => nomatch h), ⟨(fun _ h => nomatch h), (fun _ h => nomatch h)⟩⟩⟩, ⟨⟨(fun _ h => nomatch h), (fun _ h => nomatch h)⟩, ⟨(fun _ h => nomatch h), ⟨(fun _ h => nomatch h), (fun _ h => nomatch h)⟩⟩⟩⟩⟩, ⟨⟨⟨⟨(fun _ h => nomatch h), (fun _ h => nomatch h)⟩, ⟨(fun _ h => nomatch h), ⟨(fun _ h => nomatch h), (fun _ h => nomatch h)⟩⟩⟩, ⟨⟨(fun _ h => nomatch h), (fun _ h => nomatch h)⟩, ⟨(fun _ h => nomatch h), ⟨(fun _ h => nomatch h), (fun _ h => nomatch h)⟩⟩⟩⟩, ⟨⟨⟨(fun _ h => nomatch h), (fun _ h => nomatch h)⟩, ⟨(fun _ h => nomatch h), ⟨(fun _ h => nomatch h), (fun _ h => nomatch h)⟩⟩⟩, ⟨⟨(fun _ h => nomatch h), (fun _ h => nomatch h)⟩, ⟨(fun _ h => nomatch h), ⟨(fun _ h => nomatch h), (fun _ h => nomatch h)⟩⟩⟩⟩⟩⟩⟩, ⟨⟨⟨⟨⟨⟨(fun _ h => nomatch h), (fun _ h => nomatch h)⟩, ⟨(fun _ h => nomatch h), (fun _ h => nomatch h)⟩⟩, ⟨⟨(fun _ h => nomatch h), (fun _ h => nomatch h)⟩, ⟨(fun _ h => nomatch h), ⟨(fun _ h => nomatch h), (fun _ h => nomatch h)⟩⟩⟩⟩, ⟨⟨⟨(fun _ h => nomatch h), (fun _ h => nomatch h)⟩, ⟨(fun _ h => nomatch h), ⟨(fun _ h => nomatch h), (fun _ h => nomatch h)⟩⟩⟩, ⟨⟨(fun _ h => nomatch h), (fun _ h => nomatch h)⟩, ⟨(fun _ h => nomatch h), ⟨(fun _ h => nomatch h), (fun _ h => nomatch h)⟩⟩⟩⟩⟩, ⟨⟨⟨⟨(fun _ h => nomatch h), (fun _ h => nomatch h)⟩, ⟨(fun _ h => nomatch h), ⟨(fun _ h => nomatch h), (fun _ h => nomatch h)⟩⟩⟩, ⟨⟨(fun _ h => nomatch h), (fun _ h => nomatch h)⟩, ⟨(fun _ h => nomatch h), ⟨(fun _ h => nomatch h), (fun _ h => nomatch h)⟩⟩⟩⟩, ⟨⟨⟨(fun _ h => nomatch h), (fun _ h => nomatch h)⟩, ⟨(fun _ h => nomatch h), ⟨(fun _ h => nomatch h), (fun _ h => nomatch h)⟩⟩⟩, ⟨⟨(fun _ h => nomatch h), (fun _ h => nomatch h)⟩, ⟨(fun _ h => nomatch h), ⟨(fun _ h => nomatch h), (fun _ h => nomatch h)⟩⟩⟩⟩⟩⟩, ⟨⟨⟨⟨⟨(fun _ h => nomatch h), (fun _ h => nomatch h)⟩, ⟨(fun _ h => nomatch h), (fun _ h => nomatch h)⟩⟩, ⟨⟨(fun _ h => nomatch h), (fun _ h => nomatch h)⟩, ⟨(fun _ h => nomatch h), ⟨(fun _ h => nomatch h), (fun _ h => nomatch h)⟩⟩⟩⟩, ⟨⟨⟨(fun _ h => nomatch h), (fun _ h => nomatch h)⟩, ⟨(fun _ h => nomatch h), ⟨(fun _ h => nomatch h), (fun _ h => nomatch h)⟩⟩⟩, ⟨⟨(fun _ h => nomatch h), (fun _ h => nomatch h)⟩, ⟨(fun _ h => nomatch h), ⟨(fun _ h => nomatch h), (fun _ h => nomatch h)⟩⟩⟩⟩⟩, ⟨⟨⟨⟨(fun _ h => nomatch h), (fun _ h => nomatch h)⟩, ⟨(fun _ h => nomatch h), ⟨(fun _ h => nomatch h), (fun _ h => nomatch h)⟩⟩⟩, ⟨⟨(fun _ h => nomatch h), (fun _ h => nomatch h)⟩, ⟨(fun _ h => nomatch h), ⟨(fun _ h => nomatch h), (fun _ h => nomatch h)⟩⟩⟩⟩, ⟨⟨⟨(fun _ h => nomatch h), (fun _ h => nomatch h)⟩, ⟨(fun _ h => nomatch h), ⟨(fun _ h => nomatch h), (fun _ h => nomatch h)⟩⟩⟩, ⟨⟨(fun _ h => nomatch h), (fun _ h => nomatch h)⟩, ⟨(fun _ h => nomatch h), ⟨(fun _ h => nomatch h), (fun _ h => nomatch h)⟩⟩⟩⟩⟩⟩⟩⟩, ⟨⟨⟨⟨⟨⟨⟨(fun _ h => nomatch h), (fun _ h => nomatch h)⟩, ⟨(fun _ h => nomatch h), (fun _ h => nomatch h)⟩⟩, ⟨⟨(fun _ h => nomatch h), (fun _ h => nomatch h)⟩, ⟨(fun _ h => nomatch h), ⟨(fun _ h => nomatch h), (fun _ h => nomatch h)⟩⟩⟩⟩, ⟨⟨⟨(fun _ h => nomatch h), (fun _ h => nomatch h)⟩, ⟨(fun _ h => nomatch h), ⟨(fun _ h => nomatch h), (fun _ h => nomatch h)⟩⟩⟩, ⟨⟨(fun _ h => nomatch h), (fun _ h => nomatch h)⟩, ⟨(fun _ h => nomatch h), ⟨(fun _ h => nomatch h), (fun _ h => nomatch h)⟩⟩⟩⟩⟩, ⟨⟨⟨⟨(fun _ h => nomatch h), (fun _ h => nomatch h)⟩, ⟨(fun _ h => nomatch h), ⟨(fun _ h => nomatch h), (fun _ h => nomatch h)⟩⟩⟩, ⟨⟨(fun _ h => nomatch h), (fun _ h => nomatch h)⟩, ⟨(fun _ h => nomatch h), ⟨(fun _ h => nomatch h), (fun _ h => nomatch h)⟩⟩⟩⟩, ⟨⟨⟨(fun _ h => nomatch h), (fun _ h => nomatch h)⟩, ⟨(fun _ h => nomatch h), ⟨(fun _ h => nomatch h), (fun _ h => nomatch h)⟩⟩⟩, ⟨⟨(fun _ h => nomatch h), (fun _ h => nomatch h)⟩, ⟨sqM191 l Γ, ⟨sqM192 l Γ, sqM193 l Γ⟩⟩⟩⟩⟩⟩, ⟨⟨⟨⟨⟨(fun _ h => nomatch h), (fun _ h => nomatch h)⟩, ⟨(fun _ h => nomatch h), (fun _ h => nomatch h)⟩⟩, ⟨⟨(fun _ h => nomatch h), (fun _ h => nomatch h)⟩, ⟨(fun _ h => nomatch h), ⟨(fun _ h => nomatch h), (fun _ h => nomatch h)⟩⟩⟩⟩, ⟨⟨⟨(fun _ h => nomatch h), (fun _ h => nomatch h)⟩, ⟨sqM205 l Γ, ⟨(fun _ h => nomatch h), (fun _ h => nomatch h)⟩⟩⟩, ⟨⟨(fun _ h => nomatch h), (fun _ h => nomatch h)⟩, ⟨(fun _ h => nomatch h), ⟨(fun _ h => nomatch h), (fun _ h => nomatch h)⟩⟩⟩⟩⟩, ⟨⟨⟨⟨(fun _ h => nomatch h), (fun _ h => nomatch h)⟩, ⟨(fun _ h => nomatch h), ⟨(fun _ h => nomatch h), (fun _ h => nomatch h)⟩⟩⟩, ⟨⟨(fun _ h => nomatch h), (fun _ h => nomatch h)⟩, ⟨(fun _ h => nomatch h), ⟨(fun _ h => nomatch h), (fun _ h => nomatch h)⟩⟩⟩⟩, ⟨⟨⟨(fun _ h => nomatch h), (fun _ h => nomatch h)⟩, ⟨(fun _ h => nomatch h), ⟨sqM226 l Γ, sqM227 l Γ⟩⟩⟩, ⟨⟨sqM228 l Γ, (fun _ h => nomatch h)⟩, ⟨(fun _ h => nomatch h), ⟨sqM231 l Γ, (fun _ h => nomatch h)⟩⟩⟩⟩⟩⟩⟩, ⟨⟨⟨⟨⟨⟨sqM233 l Γ, sqM234 l Γ⟩, ⟨sqM235 l Γ, (fun _ h => nomatch h)⟩⟩, ⟨⟨sqM237 l Γ, sqM238 l Γ⟩, ⟨(fun _ h => nomatch h), ⟨sqM240 l Γ, sqM241 l Γ⟩⟩⟩⟩, ⟨⟨⟨(fun _ h => nomatch h), sqM243 l Γ⟩, ⟨sqM244 l Γ, ⟨sqM245 l Γ, sqM246 l Γ⟩⟩⟩, ⟨⟨sqM247 l Γ, (fun _ h => nomatch h)⟩, ⟨sqM249 l Γ, ⟨(fun _ h => nomatch h), sqM251 l Γ⟩⟩⟩⟩⟩, ⟨⟨⟨⟨sqM252 l Γ, sqM253 l Γ⟩, ⟨sqM254 l Γ, ⟨(fun _ h => nomatch h), sqM256 l Γ⟩⟩⟩, ⟨⟨sqM257 l Γ, sqM258 l Γ⟩, ⟨sqM259 l Γ, ⟨sqM260 l Γ, sqM261 l Γ⟩⟩⟩⟩, ⟨⟨⟨sqM262 l Γ, sqM263 l Γ⟩, ⟨sqM264 l Γ, ⟨sqM265 l Γ, sqM266 l Γ⟩⟩⟩, ⟨⟨sqM267 l Γ, sqM268 l Γ⟩, ⟨sqM269 l Γ, ⟨(fun _ h => nomatch h), sqM271 l Γ⟩⟩⟩⟩⟩⟩, ⟨⟨⟨⟨⟨sqM272 l Γ, sqM273 l Γ⟩, ⟨(fun _ h => nomatch h), sqM275 l Γ⟩⟩, ⟨⟨sqM276 l Γ, sqM277 l Γ⟩, ⟨sqM278 l Γ, ⟨sqM279 l Γ, sqM280 l Γ⟩⟩⟩⟩, ⟨⟨⟨sqM281 l Γ, sqM282 l Γ⟩, ⟨sqM283 l Γ, ⟨sqM284 l Γ, (fun _ h => nomatch h)⟩⟩⟩, ⟨⟨sqM286 l Γ, sqM287 l Γ⟩, ⟨sqM288 l Γ, ⟨sqM289 l Γ, sqM290 l Γ⟩⟩⟩⟩⟩, ⟨⟨⟨⟨sqM291 l Γ, sqM292 l Γ⟩, ⟨sqM293 l Γ, ⟨sqM294 l Γ, sqM295 l Γ⟩⟩⟩, ⟨⟨sqM296 l Γ, sqM297 l Γ⟩, ⟨sqM298 l Γ, ⟨sqM299 l Γ, sqM300 l Γ⟩⟩⟩⟩, ⟨⟨⟨sqM301 l Γ, sqM302 l Γ⟩, ⟨sqM303 l Γ, ⟨sqM304 l Γ, sqM305 l Γ⟩⟩⟩, ⟨⟨sqM306 l Γ, sqM307 l Γ⟩, ⟨sqM308 l Γ, ⟨sqM309 l Γ, sqM310 l Γ⟩⟩⟩⟩⟩⟩⟩⟩⟩
theorem sTM_ok (l : Launch) (Γ : zG) : ∀ mi, ∀ c ∈ sTM mi, sCon l Γ swM mi c := fun mi c hc => sall (T := sTM) (fun D mi c hc hD ih => by
    obtain ⟨e, he, rfl⟩ := List.mem_map.mp hc
    obtain ⟨h2, h3⟩ := List.mem_filter.mp he
    have h3 : e.1 = mi := beq_iff_eq.mp h3
    rw [← h3]
    exact zallP_get _ (sPM_ok l Γ) mi e h2 (fun mi' c' h' hlt => ih mi' c' h' (by rw [← hD]; exact hlt))) _ mi c hc rfl

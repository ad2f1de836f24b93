section
-- ===== PART A: goes FIRST, ahead of the names: the tables' words, and 'selects' of the private methods out of them =====
/-- a private method of a class that the tables say can be made, by its rows of tables_1 -/
def lw_okq (q : MethodName × Nat) : Prop := (q.1.cls ≠ "java/lang/invoke/MethodHandle" ∧ q.1.cls ≠ "java/lang/invoke/VarHandle") ∧ Cond.instantiable q.1.cls q.2 ∈ tables_1 ∧ Cond.privateMethod q.1 ∈ tables_1 ∧ Cond.instanceMethod q.1 ∈ tables_1
theorem lw_p0 : lw_okq (⟨"SandHours", "putBytes", "(I)V"⟩, 15) := ⟨⟨by decide +kernel, by decide +kernel⟩, List.mem_of_getElem? (i := 28) (by decide +kernel), List.mem_of_getElem? (i := 525) (by decide +kernel), List.mem_of_getElem? (i := 526) (by decide +kernel)⟩
theorem lw_p1 : lw_okq (⟨"SandHours$Tokens", "cutWord", "()V"⟩, 10) := ⟨⟨by decide +kernel, by decide +kernel⟩, List.mem_of_getElem? (i := 42) (by decide +kernel), List.mem_of_getElem? (i := 556) (by decide +kernel), List.mem_of_getElem? (i := 557) (by decide +kernel)⟩
theorem lw_p2 : lw_okq (⟨"SandHours$Tokens", "cutNumber", "()V"⟩, 10) := ⟨⟨by decide +kernel, by decide +kernel⟩, List.mem_of_getElem? (i := 42) (by decide +kernel), List.mem_of_getElem? (i := 560) (by decide +kernel), List.mem_of_getElem? (i := 561) (by decide +kernel)⟩
theorem lw_p3 : lw_okq (⟨"SandHours$Tokens", "cutSign", "()V"⟩, 10) := ⟨⟨by decide +kernel, by decide +kernel⟩, List.mem_of_getElem? (i := 42) (by decide +kernel), List.mem_of_getElem? (i := 565) (by decide +kernel), List.mem_of_getElem? (i := 566) (by decide +kernel)⟩
theorem lw_p4 : lw_okq (⟨"SandHours$Reader", "readMan", "(LSandHours$Told;)V"⟩, 3) := ⟨⟨by decide +kernel, by decide +kernel⟩, List.mem_of_getElem? (i := 36) (by decide +kernel), List.mem_of_getElem? (i := 576) (by decide +kernel), List.mem_of_getElem? (i := 577) (by decide +kernel)⟩
theorem lw_p5 : lw_okq (⟨"SandHours$Reader", "begin", "(LSandHours$Rows;)V"⟩, 3) := ⟨⟨by decide +kernel, by decide +kernel⟩, List.mem_of_getElem? (i := 36) (by decide +kernel), List.mem_of_getElem? (i := 580) (by decide +kernel), List.mem_of_getElem? (i := 581) (by decide +kernel)⟩
theorem lw_p6 : lw_okq (⟨"SandHours$Reader", "newName", "(LSandHours$Rows;)I"⟩, 3) := ⟨⟨by decide +kernel, by decide +kernel⟩, List.mem_of_getElem? (i := 36) (by decide +kernel), List.mem_of_getElem? (i := 593) (by decide +kernel), List.mem_of_getElem? (i := 594) (by decide +kernel)⟩
theorem lw_p7 : lw_okq (⟨"SandHours$Reader", "finish", "(LSandHours$Rows;)V"⟩, 3) := ⟨⟨by decide +kernel, by decide +kernel⟩, List.mem_of_getElem? (i := 36) (by decide +kernel), List.mem_of_getElem? (i := 605) (by decide +kernel), List.mem_of_getElem? (i := 606) (by decide +kernel)⟩
theorem lw_p8 : lw_okq (⟨"SandHours$Reader", "closeLine", "()V"⟩, 3) := ⟨⟨by decide +kernel, by decide +kernel⟩, List.mem_of_getElem? (i := 36) (by decide +kernel), List.mem_of_getElem? (i := 609) (by decide +kernel), List.mem_of_getElem? (i := 610) (by decide +kernel)⟩
theorem lw_p9 : lw_okq (⟨"SandHours$Reader", "readGlass", "(LSandHours$Told;)V"⟩, 3) := ⟨⟨by decide +kernel, by decide +kernel⟩, List.mem_of_getElem? (i := 36) (by decide +kernel), List.mem_of_getElem? (i := 621) (by decide +kernel), List.mem_of_getElem? (i := 622) (by decide +kernel)⟩
theorem lw_p10 : lw_okq (⟨"SandHours$Reader", "toldName", "(LSandHours$Rows;)I"⟩, 3) := ⟨⟨by decide +kernel, by decide +kernel⟩, List.mem_of_getElem? (i := 36) (by decide +kernel), List.mem_of_getElem? (i := 625) (by decide +kernel), List.mem_of_getElem? (i := 626) (by decide +kernel)⟩
theorem lw_p11 : lw_okq (⟨"SandHours$Reader", "number", "(II)I"⟩, 3) := ⟨⟨by decide +kernel, by decide +kernel⟩, List.mem_of_getElem? (i := 36) (by decide +kernel), List.mem_of_getElem? (i := 629) (by decide +kernel), List.mem_of_getElem? (i := 630) (by decide +kernel)⟩
theorem lw_p12 : lw_okq (⟨"SandHours$Reader", "readTurn", "(LSandHours$Told;)V"⟩, 3) := ⟨⟨by decide +kernel, by decide +kernel⟩, List.mem_of_getElem? (i := 36) (by decide +kernel), List.mem_of_getElem? (i := 633) (by decide +kernel), List.mem_of_getElem? (i := 634) (by decide +kernel)⟩
theorem lw_p13 : lw_okq (⟨"SandHours$Reader", "readPayment", "(LSandHours$Told;)V"⟩, 3) := ⟨⟨by decide +kernel, by decide +kernel⟩, List.mem_of_getElem? (i := 36) (by decide +kernel), List.mem_of_getElem? (i := 637) (by decide +kernel), List.mem_of_getElem? (i := 638) (by decide +kernel)⟩
theorem lw_p14 : lw_okq (⟨"SandHours$Reader", "readSieve", "(LSandHours$Told;)V"⟩, 3) := ⟨⟨by decide +kernel, by decide +kernel⟩, List.mem_of_getElem? (i := 36) (by decide +kernel), List.mem_of_getElem? (i := 641) (by decide +kernel), List.mem_of_getElem? (i := 642) (by decide +kernel)⟩
theorem lw_p15 : lw_okq (⟨"SandHours$Reader", "readDamp", "(LSandHours$Told;)V"⟩, 3) := ⟨⟨by decide +kernel, by decide +kernel⟩, List.mem_of_getElem? (i := 36) (by decide +kernel), List.mem_of_getElem? (i := 645) (by decide +kernel), List.mem_of_getElem? (i := 646) (by decide +kernel)⟩
def lw_privs_1 : List (MethodName × Nat) := [(⟨"SandHours", "putBytes", "(I)V"⟩, 15), (⟨"SandHours$Tokens", "cutWord", "()V"⟩, 10), (⟨"SandHours$Tokens", "cutNumber", "()V"⟩, 10), (⟨"SandHours$Tokens", "cutSign", "()V"⟩, 10), (⟨"SandHours$Reader", "readMan", "(LSandHours$Told;)V"⟩, 3), (⟨"SandHours$Reader", "begin", "(LSandHours$Rows;)V"⟩, 3), (⟨"SandHours$Reader", "newName", "(LSandHours$Rows;)I"⟩, 3), (⟨"SandHours$Reader", "finish", "(LSandHours$Rows;)V"⟩, 3), (⟨"SandHours$Reader", "closeLine", "()V"⟩, 3), (⟨"SandHours$Reader", "readGlass", "(LSandHours$Told;)V"⟩, 3), (⟨"SandHours$Reader", "toldName", "(LSandHours$Rows;)I"⟩, 3), (⟨"SandHours$Reader", "number", "(II)I"⟩, 3), (⟨"SandHours$Reader", "readTurn", "(LSandHours$Told;)V"⟩, 3), (⟨"SandHours$Reader", "readPayment", "(LSandHours$Told;)V"⟩, 3), (⟨"SandHours$Reader", "readSieve", "(LSandHours$Told;)V"⟩, 3), (⟨"SandHours$Reader", "readDamp", "(LSandHours$Told;)V"⟩, 3)]
theorem lw_r1 : ∀ q ∈ lw_privs_1, lw_okq q := List.forall_mem_cons.mpr ⟨lw_p0, List.forall_mem_cons.mpr ⟨lw_p1, List.forall_mem_cons.mpr ⟨lw_p2, List.forall_mem_cons.mpr ⟨lw_p3, List.forall_mem_cons.mpr ⟨lw_p4, List.forall_mem_cons.mpr ⟨lw_p5, List.forall_mem_cons.mpr ⟨lw_p6, List.forall_mem_cons.mpr ⟨lw_p7, List.forall_mem_cons.mpr ⟨lw_p8, List.forall_mem_cons.mpr ⟨lw_p9, List.forall_mem_cons.mpr ⟨lw_p10, List.forall_mem_cons.mpr ⟨lw_p11, List.forall_mem_cons.mpr ⟨lw_p12, List.forall_mem_cons.mpr ⟨lw_p13, List.forall_mem_cons.mpr ⟨lw_p14, List.forall_mem_cons.mpr ⟨lw_p15, fun _ h => absurd h List.not_mem_nil⟩⟩⟩⟩⟩⟩⟩⟩⟩⟩⟩⟩⟩⟩⟩⟩
theorem lw_p16 : lw_okq (⟨"SandHours$Reader", "readSeed", "(LSandHours$Told;)V"⟩, 3) := ⟨⟨by decide +kernel, by decide +kernel⟩, List.mem_of_getElem? (i := 36) (by decide +kernel), List.mem_of_getElem? (i := 649) (by decide +kernel), List.mem_of_getElem? (i := 650) (by decide +kernel)⟩
theorem lw_p17 : lw_okq (⟨"SandHours$Reader", "readLaw", "(LSandHours$Told;)V"⟩, 3) := ⟨⟨by decide +kernel, by decide +kernel⟩, List.mem_of_getElem? (i := 36) (by decide +kernel), List.mem_of_getElem? (i := 654) (by decide +kernel), List.mem_of_getElem? (i := 655) (by decide +kernel)⟩
theorem lw_p18 : lw_okq (⟨"SandHours$LawReader", "takeOperand", "(LSandHours$Tokens;LSandHours$Laws;)V"⟩, 5) := ⟨⟨by decide +kernel, by decide +kernel⟩, List.mem_of_getElem? (i := 137) (by decide +kernel), List.mem_of_getElem? (i := 671) (by decide +kernel), List.mem_of_getElem? (i := 672) (by decide +kernel)⟩
theorem lw_p19 : lw_okq (⟨"SandHours$LawReader", "openOne", "(LSandHours$Tokens;)V"⟩, 5) := ⟨⟨by decide +kernel, by decide +kernel⟩, List.mem_of_getElem? (i := 137) (by decide +kernel), List.mem_of_getElem? (i := 675) (by decide +kernel), List.mem_of_getElem? (i := 676) (by decide +kernel)⟩
theorem lw_p20 : lw_okq (⟨"SandHours$LawReader", "push", "(I)V"⟩, 5) := ⟨⟨by decide +kernel, by decide +kernel⟩, List.mem_of_getElem? (i := 137) (by decide +kernel), List.mem_of_getElem? (i := 680) (by decide +kernel), List.mem_of_getElem? (i := 681) (by decide +kernel)⟩
theorem lw_p21 : lw_okq (⟨"SandHours$LawReader", "countKnot", "(LSandHours$Tokens;LSandHours$Laws;)V"⟩, 5) := ⟨⟨by decide +kernel, by decide +kernel⟩, List.mem_of_getElem? (i := 137) (by decide +kernel), List.mem_of_getElem? (i := 684) (by decide +kernel), List.mem_of_getElem? (i := 685) (by decide +kernel)⟩
theorem lw_p22 : lw_okq (⟨"SandHours$LawReader", "closeOne", "(LSandHours$Laws;)V"⟩, 5) := ⟨⟨by decide +kernel, by decide +kernel⟩, List.mem_of_getElem? (i := 137) (by decide +kernel), List.mem_of_getElem? (i := 692) (by decide +kernel), List.mem_of_getElem? (i := 693) (by decide +kernel)⟩
theorem lw_p23 : lw_okq (⟨"SandHours$LawReader", "release", "(LSandHours$Laws;I)V"⟩, 5) := ⟨⟨by decide +kernel, by decide +kernel⟩, List.mem_of_getElem? (i := 137) (by decide +kernel), List.mem_of_getElem? (i := 696) (by decide +kernel), List.mem_of_getElem? (i := 697) (by decide +kernel)⟩
theorem lw_p24 : lw_okq (⟨"SandHours$LawReader", "takeSign", "(LSandHours$Tokens;LSandHours$Laws;)V"⟩, 5) := ⟨⟨by decide +kernel, by decide +kernel⟩, List.mem_of_getElem? (i := 137) (by decide +kernel), List.mem_of_getElem? (i := 706) (by decide +kernel), List.mem_of_getElem? (i := 707) (by decide +kernel)⟩
theorem lw_p25 : lw_okq (⟨"SandHours", "noMan", "(I)Z"⟩, 15) := ⟨⟨by decide +kernel, by decide +kernel⟩, List.mem_of_getElem? (i := 28) (by decide +kernel), List.mem_of_getElem? (i := 742) (by decide +kernel), List.mem_of_getElem? (i := 743) (by decide +kernel)⟩
theorem lw_p26 : lw_okq (⟨"SandHours", "noGlass", "(I)Z"⟩, 15) := ⟨⟨by decide +kernel, by decide +kernel⟩, List.mem_of_getElem? (i := 28) (by decide +kernel), List.mem_of_getElem? (i := 767) (by decide +kernel), List.mem_of_getElem? (i := 768) (by decide +kernel)⟩
theorem lw_p27 : lw_okq (⟨"SandHours$Undoing", "forgetOldest", "()V"⟩, 5) := ⟨⟨by decide +kernel, by decide +kernel⟩, List.mem_of_getElem? (i := 414) (by decide +kernel), List.mem_of_getElem? (i := 808) (by decide +kernel), List.mem_of_getElem? (i := 809) (by decide +kernel)⟩
theorem lw_p28 : lw_okq (⟨"SandHours$Course", "turnGlasses", "(LSandHours$State;)V"⟩, 6) := ⟨⟨by decide +kernel, by decide +kernel⟩, List.mem_of_getElem? (i := 353) (by decide +kernel), List.mem_of_getElem? (i := 839) (by decide +kernel), List.mem_of_getElem? (i := 840) (by decide +kernel)⟩
theorem lw_p29 : lw_okq (⟨"SandHours$Course", "payPayments", "(LSandHours$State;)V"⟩, 6) := ⟨⟨by decide +kernel, by decide +kernel⟩, List.mem_of_getElem? (i := 353) (by decide +kernel), List.mem_of_getElem? (i := 844) (by decide +kernel), List.mem_of_getElem? (i := 845) (by decide +kernel)⟩
theorem lw_p30 : lw_okq (⟨"SandHours$Course", "taxOf", "(LSandHours$State;I)I"⟩, 6) := ⟨⟨by decide +kernel, by decide +kernel⟩, List.mem_of_getElem? (i := 353) (by decide +kernel), List.mem_of_getElem? (i := 849) (by decide +kernel), List.mem_of_getElem? (i := 850) (by decide +kernel)⟩
theorem lw_p31 : lw_okq (⟨"SandHours$Course", "runSand", "(LSandHours$State;)V"⟩, 6) := ⟨⟨by decide +kernel, by decide +kernel⟩, List.mem_of_getElem? (i := 353) (by decide +kernel), List.mem_of_getElem? (i := 872) (by decide +kernel), List.mem_of_getElem? (i := 873) (by decide +kernel)⟩
def lw_privs_2 : List (MethodName × Nat) := [(⟨"SandHours$Reader", "readSeed", "(LSandHours$Told;)V"⟩, 3), (⟨"SandHours$Reader", "readLaw", "(LSandHours$Told;)V"⟩, 3), (⟨"SandHours$LawReader", "takeOperand", "(LSandHours$Tokens;LSandHours$Laws;)V"⟩, 5), (⟨"SandHours$LawReader", "openOne", "(LSandHours$Tokens;)V"⟩, 5), (⟨"SandHours$LawReader", "push", "(I)V"⟩, 5), (⟨"SandHours$LawReader", "countKnot", "(LSandHours$Tokens;LSandHours$Laws;)V"⟩, 5), (⟨"SandHours$LawReader", "closeOne", "(LSandHours$Laws;)V"⟩, 5), (⟨"SandHours$LawReader", "release", "(LSandHours$Laws;I)V"⟩, 5), (⟨"SandHours$LawReader", "takeSign", "(LSandHours$Tokens;LSandHours$Laws;)V"⟩, 5), (⟨"SandHours", "noMan", "(I)Z"⟩, 15), (⟨"SandHours", "noGlass", "(I)Z"⟩, 15), (⟨"SandHours$Undoing", "forgetOldest", "()V"⟩, 5), (⟨"SandHours$Course", "turnGlasses", "(LSandHours$State;)V"⟩, 6), (⟨"SandHours$Course", "payPayments", "(LSandHours$State;)V"⟩, 6), (⟨"SandHours$Course", "taxOf", "(LSandHours$State;I)I"⟩, 6), (⟨"SandHours$Course", "runSand", "(LSandHours$State;)V"⟩, 6)]
theorem lw_r2 : ∀ q ∈ lw_privs_2, lw_okq q := List.forall_mem_cons.mpr ⟨lw_p16, List.forall_mem_cons.mpr ⟨lw_p17, List.forall_mem_cons.mpr ⟨lw_p18, List.forall_mem_cons.mpr ⟨lw_p19, List.forall_mem_cons.mpr ⟨lw_p20, List.forall_mem_cons.mpr ⟨lw_p21, List.forall_mem_cons.mpr ⟨lw_p22, List.forall_mem_cons.mpr ⟨lw_p23, List.forall_mem_cons.mpr ⟨lw_p24, List.forall_mem_cons.mpr ⟨lw_p25, List.forall_mem_cons.mpr ⟨lw_p26, List.forall_mem_cons.mpr ⟨lw_p27, List.forall_mem_cons.mpr ⟨lw_p28, List.forall_mem_cons.mpr ⟨lw_p29, List.forall_mem_cons.mpr ⟨lw_p30, List.forall_mem_cons.mpr ⟨lw_p31, fun _ h => absurd h List.not_mem_nil⟩⟩⟩⟩⟩⟩⟩⟩⟩⟩⟩⟩⟩⟩⟩⟩
theorem lw_p32 : lw_okq (⟨"SandHours$Course", "blow", "(LSandHours$State;)V"⟩, 6) := ⟨⟨by decide +kernel, by decide +kernel⟩, List.mem_of_getElem? (i := 353) (by decide +kernel), List.mem_of_getElem? (i := 880) (by decide +kernel), List.mem_of_getElem? (i := 881) (by decide +kernel)⟩
theorem lw_p33 : lw_okq (⟨"SandHours", "beginAhead", "()V"⟩, 15) := ⟨⟨by decide +kernel, by decide +kernel⟩, List.mem_of_getElem? (i := 28) (by decide +kernel), List.mem_of_getElem? (i := 889) (by decide +kernel), List.mem_of_getElem? (i := 890) (by decide +kernel)⟩
theorem lw_p34 : lw_okq (⟨"SandHours$Puzzles", "spread", "(LSandHours$Course;LSandHours$State;II)V"⟩, 7) := ⟨⟨by decide +kernel, by decide +kernel⟩, List.mem_of_getElem? (i := 384) (by decide +kernel), List.mem_of_getElem? (i := 944) (by decide +kernel), List.mem_of_getElem? (i := 945) (by decide +kernel)⟩
theorem lw_p35 : lw_okq (⟨"SandHours$Puzzles", "step", "(LSandHours$Course;LSandHours$State;IIII)V"⟩, 7) := ⟨⟨by decide +kernel, by decide +kernel⟩, List.mem_of_getElem? (i := 384) (by decide +kernel), List.mem_of_getElem? (i := 948) (by decide +kernel), List.mem_of_getElem? (i := 949) (by decide +kernel)⟩
theorem lw_p36 : lw_okq (⟨"SandHours$Puzzles", "addRoom", "(III)V"⟩, 7) := ⟨⟨by decide +kernel, by decide +kernel⟩, List.mem_of_getElem? (i := 384) (by decide +kernel), List.mem_of_getElem? (i := 977) (by decide +kernel), List.mem_of_getElem? (i := 978) (by decide +kernel)⟩
theorem lw_p37 : lw_okq (⟨"SandHours$Puzzles", "findWay", "(II)Z"⟩, 7) := ⟨⟨by decide +kernel, by decide +kernel⟩, List.mem_of_getElem? (i := 384) (by decide +kernel), List.mem_of_getElem? (i := 981) (by decide +kernel), List.mem_of_getElem? (i := 982) (by decide +kernel)⟩
theorem lw_p38 : lw_okq (⟨"SandHours$Puzzles", "roomOf", "(II)I"⟩, 7) := ⟨⟨by decide +kernel, by decide +kernel⟩, List.mem_of_getElem? (i := 384) (by decide +kernel), List.mem_of_getElem? (i := 985) (by decide +kernel), List.mem_of_getElem? (i := 986) (by decide +kernel)⟩
theorem lw_p39 : lw_okq (⟨"SandHours$Puzzles", "fillWay", "(II)I"⟩, 7) := ⟨⟨by decide +kernel, by decide +kernel⟩, List.mem_of_getElem? (i := 384) (by decide +kernel), List.mem_of_getElem? (i := 989) (by decide +kernel), List.mem_of_getElem? (i := 990) (by decide +kernel)⟩
theorem lw_p40 : lw_okq (⟨"SandHours", "allSo", "()Z"⟩, 15) := ⟨⟨by decide +kernel, by decide +kernel⟩, List.mem_of_getElem? (i := 28) (by decide +kernel), List.mem_of_getElem? (i := 1116) (by decide +kernel), List.mem_of_getElem? (i := 1117) (by decide +kernel)⟩
theorem lw_p41 : lw_okq (⟨"java/lang/Throwable", "fillInStackTrace", "(I)Ljava/lang/Throwable;"⟩, 6) := ⟨⟨by decide +kernel, by decide +kernel⟩, List.mem_of_getElem? (i := 1210) (by decide +kernel), List.mem_of_getElem? (i := 1208) (by decide +kernel), List.mem_of_getElem? (i := 1209) (by decide +kernel)⟩
theorem lw_p42 : lw_okq (⟨"SandHoursModel", "plain", "()V"⟩, 86) := ⟨⟨by decide +kernel, by decide +kernel⟩, List.mem_of_getElem? (i := 1255) (by decide +kernel), List.mem_of_getElem? (i := 1261) (by decide +kernel), List.mem_of_getElem? (i := 1262) (by decide +kernel)⟩
theorem lw_p43 : lw_okq (⟨"SandHoursModel", "keepText", "()V"⟩, 86) := ⟨⟨by decide +kernel, by decide +kernel⟩, List.mem_of_getElem? (i := 1255) (by decide +kernel), List.mem_of_getElem? (i := 1265) (by decide +kernel), List.mem_of_getElem? (i := 1266) (by decide +kernel)⟩
theorem lw_p44 : lw_okq (⟨"SandHoursModel", "begin", "()V"⟩, 86) := ⟨⟨by decide +kernel, by decide +kernel⟩, List.mem_of_getElem? (i := 1255) (by decide +kernel), List.mem_of_getElem? (i := 1272) (by decide +kernel), List.mem_of_getElem? (i := 1273) (by decide +kernel)⟩
theorem lw_p45 : lw_okq (⟨"SandHoursModel", "atFirst", "(I)V"⟩, 86) := ⟨⟨by decide +kernel, by decide +kernel⟩, List.mem_of_getElem? (i := 1255) (by decide +kernel), List.mem_of_getElem? (i := 1276) (by decide +kernel), List.mem_of_getElem? (i := 1277) (by decide +kernel)⟩
theorem lw_p46 : lw_okq (⟨"SandHoursModel", "plainTried", "()V"⟩, 86) := ⟨⟨by decide +kernel, by decide +kernel⟩, List.mem_of_getElem? (i := 1255) (by decide +kernel), List.mem_of_getElem? (i := 1280) (by decide +kernel), List.mem_of_getElem? (i := 1281) (by decide +kernel)⟩
theorem lw_p47 : lw_okq (⟨"SandHoursModel", "token", "()V"⟩, 86) := ⟨⟨by decide +kernel, by decide +kernel⟩, List.mem_of_getElem? (i := 1255) (by decide +kernel), List.mem_of_getElem? (i := 1555) (by decide +kernel), List.mem_of_getElem? (i := 1556) (by decide +kernel)⟩
def lw_privs_3 : List (MethodName × Nat) := [(⟨"SandHours$Course", "blow", "(LSandHours$State;)V"⟩, 6), (⟨"SandHours", "beginAhead", "()V"⟩, 15), (⟨"SandHours$Puzzles", "spread", "(LSandHours$Course;LSandHours$State;II)V"⟩, 7), (⟨"SandHours$Puzzles", "step", "(LSandHours$Course;LSandHours$State;IIII)V"⟩, 7), (⟨"SandHours$Puzzles", "addRoom", "(III)V"⟩, 7), (⟨"SandHours$Puzzles", "findWay", "(II)Z"⟩, 7), (⟨"SandHours$Puzzles", "roomOf", "(II)I"⟩, 7), (⟨"SandHours$Puzzles", "fillWay", "(II)I"⟩, 7), (⟨"SandHours", "allSo", "()Z"⟩, 15), (⟨"java/lang/Throwable", "fillInStackTrace", "(I)Ljava/lang/Throwable;"⟩, 6), (⟨"SandHoursModel", "plain", "()V"⟩, 86), (⟨"SandHoursModel", "keepText", "()V"⟩, 86), (⟨"SandHoursModel", "begin", "()V"⟩, 86), (⟨"SandHoursModel", "atFirst", "(I)V"⟩, 86), (⟨"SandHoursModel", "plainTried", "()V"⟩, 86), (⟨"SandHoursModel", "token", "()V"⟩, 86)]
theorem lw_r3 : ∀ q ∈ lw_privs_3, lw_okq q := List.forall_mem_cons.mpr ⟨lw_p32, List.forall_mem_cons.mpr ⟨lw_p33, List.forall_mem_cons.mpr ⟨lw_p34, List.forall_mem_cons.mpr ⟨lw_p35, List.forall_mem_cons.mpr ⟨lw_p36, List.forall_mem_cons.mpr ⟨lw_p37, List.forall_mem_cons.mpr ⟨lw_p38, List.forall_mem_cons.mpr ⟨lw_p39, List.forall_mem_cons.mpr ⟨lw_p40, List.forall_mem_cons.mpr ⟨lw_p41, List.forall_mem_cons.mpr ⟨lw_p42, List.forall_mem_cons.mpr ⟨lw_p43, List.forall_mem_cons.mpr ⟨lw_p44, List.forall_mem_cons.mpr ⟨lw_p45, List.forall_mem_cons.mpr ⟨lw_p46, List.forall_mem_cons.mpr ⟨lw_p47, fun _ h => absurd h List.not_mem_nil⟩⟩⟩⟩⟩⟩⟩⟩⟩⟩⟩⟩⟩⟩⟩⟩
theorem lw_p48 : lw_okq (⟨"SandHoursModel", "isSmall", "(I)Z"⟩, 86) := ⟨⟨by decide +kernel, by decide +kernel⟩, List.mem_of_getElem? (i := 1255) (by decide +kernel), List.mem_of_getElem? (i := 1559) (by decide +kernel), List.mem_of_getElem? (i := 1560) (by decide +kernel)⟩
theorem lw_p49 : lw_okq (⟨"SandHoursModel", "wordAt", "(II)I"⟩, 86) := ⟨⟨by decide +kernel, by decide +kernel⟩, List.mem_of_getElem? (i := 1255) (by decide +kernel), List.mem_of_getElem? (i := 1563) (by decide +kernel), List.mem_of_getElem? (i := 1564) (by decide +kernel)⟩
theorem lw_p50 : lw_okq (⟨"SandHoursModel", "packed", "(II)I"⟩, 86) := ⟨⟨by decide +kernel, by decide +kernel⟩, List.mem_of_getElem? (i := 1255) (by decide +kernel), List.mem_of_getElem? (i := 1567) (by decide +kernel), List.mem_of_getElem? (i := 1568) (by decide +kernel)⟩
theorem lw_p51 : lw_okq (⟨"SandHoursModel", "isDigit", "(I)Z"⟩, 86) := ⟨⟨by decide +kernel, by decide +kernel⟩, List.mem_of_getElem? (i := 1255) (by decide +kernel), List.mem_of_getElem? (i := 1571) (by decide +kernel), List.mem_of_getElem? (i := 1572) (by decide +kernel)⟩
theorem lw_p52 : lw_okq (⟨"SandHoursModel", "signToken", "()V"⟩, 86) := ⟨⟨by decide +kernel, by decide +kernel⟩, List.mem_of_getElem? (i := 1255) (by decide +kernel), List.mem_of_getElem? (i := 1576) (by decide +kernel), List.mem_of_getElem? (i := 1577) (by decide +kernel)⟩
theorem lw_p53 : lw_okq (⟨"SandHoursModel", "lineRead", "()Z"⟩, 86) := ⟨⟨by decide +kernel, by decide +kernel⟩, List.mem_of_getElem? (i := 1255) (by decide +kernel), List.mem_of_getElem? (i := 1580) (by decide +kernel), List.mem_of_getElem? (i := 1581) (by decide +kernel)⟩
theorem lw_p54 : lw_okq (⟨"SandHoursModel", "wrong", "(I)Z"⟩, 86) := ⟨⟨by decide +kernel, by decide +kernel⟩, List.mem_of_getElem? (i := 1255) (by decide +kernel), List.mem_of_getElem? (i := 1584) (by decide +kernel), List.mem_of_getElem? (i := 1585) (by decide +kernel)⟩
theorem lw_p55 : lw_okq (⟨"SandHoursModel", "manLine", "()Z"⟩, 86) := ⟨⟨by decide +kernel, by decide +kernel⟩, List.mem_of_getElem? (i := 1255) (by decide +kernel), List.mem_of_getElem? (i := 1588) (by decide +kernel), List.mem_of_getElem? (i := 1589) (by decide +kernel)⟩
theorem lw_p56 : lw_okq (⟨"SandHoursModel", "newName", "([III)Z"⟩, 86) := ⟨⟨by decide +kernel, by decide +kernel⟩, List.mem_of_getElem? (i := 1255) (by decide +kernel), List.mem_of_getElem? (i := 1592) (by decide +kernel), List.mem_of_getElem? (i := 1593) (by decide +kernel)⟩
theorem lw_p57 : lw_okq (⟨"SandHoursModel", "glassLine", "()Z"⟩, 86) := ⟨⟨by decide +kernel, by decide +kernel⟩, List.mem_of_getElem? (i := 1255) (by decide +kernel), List.mem_of_getElem? (i := 1599) (by decide +kernel), List.mem_of_getElem? (i := 1600) (by decide +kernel)⟩
theorem lw_p58 : lw_okq (⟨"SandHoursModel", "thereIn", "([III)Z"⟩, 86) := ⟨⟨by decide +kernel, by decide +kernel⟩, List.mem_of_getElem? (i := 1255) (by decide +kernel), List.mem_of_getElem? (i := 1603) (by decide +kernel), List.mem_of_getElem? (i := 1604) (by decide +kernel)⟩
theorem lw_p59 : lw_okq (⟨"SandHoursModel", "number", "(II)Z"⟩, 86) := ⟨⟨by decide +kernel, by decide +kernel⟩, List.mem_of_getElem? (i := 1255) (by decide +kernel), List.mem_of_getElem? (i := 1607) (by decide +kernel), List.mem_of_getElem? (i := 1608) (by decide +kernel)⟩
theorem lw_p60 : lw_okq (⟨"SandHoursModel", "turnLine", "()Z"⟩, 86) := ⟨⟨by decide +kernel, by decide +kernel⟩, List.mem_of_getElem? (i := 1255) (by decide +kernel), List.mem_of_getElem? (i := 1614) (by decide +kernel), List.mem_of_getElem? (i := 1615) (by decide +kernel)⟩
theorem lw_p61 : lw_okq (⟨"SandHoursModel", "payLine", "()Z"⟩, 86) := ⟨⟨by decide +kernel, by decide +kernel⟩, List.mem_of_getElem? (i := 1255) (by decide +kernel), List.mem_of_getElem? (i := 1618) (by decide +kernel), List.mem_of_getElem? (i := 1619) (by decide +kernel)⟩
theorem lw_p62 : lw_okq (⟨"SandHoursModel", "sieveLine", "()Z"⟩, 86) := ⟨⟨by decide +kernel, by decide +kernel⟩, List.mem_of_getElem? (i := 1255) (by decide +kernel), List.mem_of_getElem? (i := 1622) (by decide +kernel), List.mem_of_getElem? (i := 1623) (by decide +kernel)⟩
theorem lw_p63 : lw_okq (⟨"SandHoursModel", "onceLine", "(II)Z"⟩, 86) := ⟨⟨by decide +kernel, by decide +kernel⟩, List.mem_of_getElem? (i := 1255) (by decide +kernel), List.mem_of_getElem? (i := 1626) (by decide +kernel), List.mem_of_getElem? (i := 1627) (by decide +kernel)⟩
def lw_privs_4 : List (MethodName × Nat) := [(⟨"SandHoursModel", "isSmall", "(I)Z"⟩, 86), (⟨"SandHoursModel", "wordAt", "(II)I"⟩, 86), (⟨"SandHoursModel", "packed", "(II)I"⟩, 86), (⟨"SandHoursModel", "isDigit", "(I)Z"⟩, 86), (⟨"SandHoursModel", "signToken", "()V"⟩, 86), (⟨"SandHoursModel", "lineRead", "()Z"⟩, 86), (⟨"SandHoursModel", "wrong", "(I)Z"⟩, 86), (⟨"SandHoursModel", "manLine", "()Z"⟩, 86), (⟨"SandHoursModel", "newName", "([III)Z"⟩, 86), (⟨"SandHoursModel", "glassLine", "()Z"⟩, 86), (⟨"SandHoursModel", "thereIn", "([III)Z"⟩, 86), (⟨"SandHoursModel", "number", "(II)Z"⟩, 86), (⟨"SandHoursModel", "turnLine", "()Z"⟩, 86), (⟨"SandHoursModel", "payLine", "()Z"⟩, 86), (⟨"SandHoursModel", "sieveLine", "()Z"⟩, 86), (⟨"SandHoursModel", "onceLine", "(II)Z"⟩, 86)]
theorem lw_r4 : ∀ q ∈ lw_privs_4, lw_okq q := List.forall_mem_cons.mpr ⟨lw_p48, List.forall_mem_cons.mpr ⟨lw_p49, List.forall_mem_cons.mpr ⟨lw_p50, List.forall_mem_cons.mpr ⟨lw_p51, List.forall_mem_cons.mpr ⟨lw_p52, List.forall_mem_cons.mpr ⟨lw_p53, List.forall_mem_cons.mpr ⟨lw_p54, List.forall_mem_cons.mpr ⟨lw_p55, List.forall_mem_cons.mpr ⟨lw_p56, List.forall_mem_cons.mpr ⟨lw_p57, List.forall_mem_cons.mpr ⟨lw_p58, List.forall_mem_cons.mpr ⟨lw_p59, List.forall_mem_cons.mpr ⟨lw_p60, List.forall_mem_cons.mpr ⟨lw_p61, List.forall_mem_cons.mpr ⟨lw_p62, List.forall_mem_cons.mpr ⟨lw_p63, fun _ h => absurd h List.not_mem_nil⟩⟩⟩⟩⟩⟩⟩⟩⟩⟩⟩⟩⟩⟩⟩⟩
theorem lw_p64 : lw_okq (⟨"SandHoursModel", "sumRead", "()Z"⟩, 86) := ⟨⟨by decide +kernel, by decide +kernel⟩, List.mem_of_getElem? (i := 1255) (by decide +kernel), List.mem_of_getElem? (i := 1630) (by decide +kernel), List.mem_of_getElem? (i := 1631) (by decide +kernel)⟩
theorem lw_p65 : lw_okq (⟨"SandHoursModel", "isSign", "(I)Z"⟩, 86) := ⟨⟨by decide +kernel, by decide +kernel⟩, List.mem_of_getElem? (i := 1255) (by decide +kernel), List.mem_of_getElem? (i := 1634) (by decide +kernel), List.mem_of_getElem? (i := 1635) (by decide +kernel)⟩
theorem lw_p66 : lw_okq (⟨"SandHoursModel", "leafRead", "()Z"⟩, 86) := ⟨⟨by decide +kernel, by decide +kernel⟩, List.mem_of_getElem? (i := 1255) (by decide +kernel), List.mem_of_getElem? (i := 1638) (by decide +kernel), List.mem_of_getElem? (i := 1639) (by decide +kernel)⟩
theorem lw_p67 : lw_okq (⟨"SandHoursModel", "waitsFor", "(I)V"⟩, 86) := ⟨⟨by decide +kernel, by decide +kernel⟩, List.mem_of_getElem? (i := 1255) (by decide +kernel), List.mem_of_getElem? (i := 1642) (by decide +kernel), List.mem_of_getElem? (i := 1643) (by decide +kernel)⟩
theorem lw_p68 : lw_okq (⟨"SandHoursModel", "isKey", "(I)Z"⟩, 86) := ⟨⟨by decide +kernel, by decide +kernel⟩, List.mem_of_getElem? (i := 1255) (by decide +kernel), List.mem_of_getElem? (i := 1646) (by decide +kernel), List.mem_of_getElem? (i := 1647) (by decide +kernel)⟩
theorem lw_p69 : lw_okq (⟨"SandHoursModel", "isCounted", "()Z"⟩, 86) := ⟨⟨by decide +kernel, by decide +kernel⟩, List.mem_of_getElem? (i := 1255) (by decide +kernel), List.mem_of_getElem? (i := 1650) (by decide +kernel), List.mem_of_getElem? (i := 1651) (by decide +kernel)⟩
theorem lw_p70 : lw_okq (⟨"SandHoursModel", "nameMet", "()I"⟩, 86) := ⟨⟨by decide +kernel, by decide +kernel⟩, List.mem_of_getElem? (i := 1255) (by decide +kernel), List.mem_of_getElem? (i := 1654) (by decide +kernel), List.mem_of_getElem? (i := 1655) (by decide +kernel)⟩
theorem lw_p71 : lw_okq (⟨"SandHoursModel", "grown", "(III)V"⟩, 86) := ⟨⟨by decide +kernel, by decide +kernel⟩, List.mem_of_getElem? (i := 1255) (by decide +kernel), List.mem_of_getElem? (i := 1658) (by decide +kernel), List.mem_of_getElem? (i := 1659) (by decide +kernel)⟩
theorem lw_p72 : lw_okq (⟨"SandHoursModel", "signs", "()Z"⟩, 86) := ⟨⟨by decide +kernel, by decide +kernel⟩, List.mem_of_getElem? (i := 1255) (by decide +kernel), List.mem_of_getElem? (i := 1662) (by decide +kernel), List.mem_of_getElem? (i := 1663) (by decide +kernel)⟩
theorem lw_p73 : lw_okq (⟨"SandHoursModel", "bind", "(I)V"⟩, 86) := ⟨⟨by decide +kernel, by decide +kernel⟩, List.mem_of_getElem? (i := 1255) (by decide +kernel), List.mem_of_getElem? (i := 1666) (by decide +kernel), List.mem_of_getElem? (i := 1667) (by decide +kernel)⟩
theorem lw_p74 : lw_okq (⟨"SandHoursModel", "dropHeld", "()I"⟩, 86) := ⟨⟨by decide +kernel, by decide +kernel⟩, List.mem_of_getElem? (i := 1255) (by decide +kernel), List.mem_of_getElem? (i := 1673) (by decide +kernel), List.mem_of_getElem? (i := 1674) (by decide +kernel)⟩
theorem lw_p75 : lw_okq (⟨"SandHoursModel", "isGlass", "(I)Z"⟩, 86) := ⟨⟨by decide +kernel, by decide +kernel⟩, List.mem_of_getElem? (i := 1255) (by decide +kernel), List.mem_of_getElem? (i := 1689) (by decide +kernel), List.mem_of_getElem? (i := 1690) (by decide +kernel)⟩
theorem lw_p76 : lw_okq (⟨"SandHoursModel", "fails", "(I)I"⟩, 86) := ⟨⟨by decide +kernel, by decide +kernel⟩, List.mem_of_getElem? (i := 1255) (by decide +kernel), List.mem_of_getElem? (i := 1693) (by decide +kernel), List.mem_of_getElem? (i := 1694) (by decide +kernel)⟩
theorem lw_p77 : lw_okq (⟨"SandHoursModel", "isMan", "(I)Z"⟩, 86) := ⟨⟨by decide +kernel, by decide +kernel⟩, List.mem_of_getElem? (i := 1255) (by decide +kernel), List.mem_of_getElem? (i := 1701) (by decide +kernel), List.mem_of_getElem? (i := 1702) (by decide +kernel)⟩
theorem lw_p78 : lw_okq (⟨"SandHoursModel", "wealthOf", "(II)I"⟩, 86) := ⟨⟨by decide +kernel, by decide +kernel⟩, List.mem_of_getElem? (i := 1255) (by decide +kernel), List.mem_of_getElem? (i := 1705) (by decide +kernel), List.mem_of_getElem? (i := 1706) (by decide +kernel)⟩
theorem lw_p79 : lw_okq (⟨"SandHoursModel", "glassesOf", "(IZ)I"⟩, 86) := ⟨⟨by decide +kernel, by decide +kernel⟩, List.mem_of_getElem? (i := 1255) (by decide +kernel), List.mem_of_getElem? (i := 1709) (by decide +kernel), List.mem_of_getElem? (i := 1710) (by decide +kernel)⟩
def lw_privs_5 : List (MethodName × Nat) := [(⟨"SandHoursModel", "sumRead", "()Z"⟩, 86), (⟨"SandHoursModel", "isSign", "(I)Z"⟩, 86), (⟨"SandHoursModel", "leafRead", "()Z"⟩, 86), (⟨"SandHoursModel", "waitsFor", "(I)V"⟩, 86), (⟨"SandHoursModel", "isKey", "(I)Z"⟩, 86), (⟨"SandHoursModel", "isCounted", "()Z"⟩, 86), (⟨"SandHoursModel", "nameMet", "()I"⟩, 86), (⟨"SandHoursModel", "grown", "(III)V"⟩, 86), (⟨"SandHoursModel", "signs", "()Z"⟩, 86), (⟨"SandHoursModel", "bind", "(I)V"⟩, 86), (⟨"SandHoursModel", "dropHeld", "()I"⟩, 86), (⟨"SandHoursModel", "isGlass", "(I)Z"⟩, 86), (⟨"SandHoursModel", "fails", "(I)I"⟩, 86), (⟨"SandHoursModel", "isMan", "(I)Z"⟩, 86), (⟨"SandHoursModel", "wealthOf", "(II)I"⟩, 86), (⟨"SandHoursModel", "glassesOf", "(IZ)I"⟩, 86)]
theorem lw_r5 : ∀ q ∈ lw_privs_5, lw_okq q := List.forall_mem_cons.mpr ⟨lw_p64, List.forall_mem_cons.mpr ⟨lw_p65, List.forall_mem_cons.mpr ⟨lw_p66, List.forall_mem_cons.mpr ⟨lw_p67, List.forall_mem_cons.mpr ⟨lw_p68, List.forall_mem_cons.mpr ⟨lw_p69, List.forall_mem_cons.mpr ⟨lw_p70, List.forall_mem_cons.mpr ⟨lw_p71, List.forall_mem_cons.mpr ⟨lw_p72, List.forall_mem_cons.mpr ⟨lw_p73, List.forall_mem_cons.mpr ⟨lw_p74, List.forall_mem_cons.mpr ⟨lw_p75, List.forall_mem_cons.mpr ⟨lw_p76, List.forall_mem_cons.mpr ⟨lw_p77, List.forall_mem_cons.mpr ⟨lw_p78, List.forall_mem_cons.mpr ⟨lw_p79, fun _ h => absurd h List.not_mem_nil⟩⟩⟩⟩⟩⟩⟩⟩⟩⟩⟩⟩⟩⟩⟩⟩
theorem lw_p80 : lw_okq (⟨"SandHoursModel", "isPayment", "(I)Z"⟩, 86) := ⟨⟨by decide +kernel, by decide +kernel⟩, List.mem_of_getElem? (i := 1255) (by decide +kernel), List.mem_of_getElem? (i := 1717) (by decide +kernel), List.mem_of_getElem? (i := 1718) (by decide +kernel)⟩
theorem lw_p81 : lw_okq (⟨"SandHoursModel", "layNames", "(II)V"⟩, 86) := ⟨⟨by decide +kernel, by decide +kernel⟩, List.mem_of_getElem? (i := 1255) (by decide +kernel), List.mem_of_getElem? (i := 1726) (by decide +kernel), List.mem_of_getElem? (i := 1727) (by decide +kernel)⟩
theorem lw_p82 : lw_okq (⟨"SandHoursModel", "neckIn", "(I)I"⟩, 86) := ⟨⟨by decide +kernel, by decide +kernel⟩, List.mem_of_getElem? (i := 1255) (by decide +kernel), List.mem_of_getElem? (i := 1730) (by decide +kernel), List.mem_of_getElem? (i := 1731) (by decide +kernel)⟩
theorem lw_p83 : lw_okq (⟨"SandHoursModel", "lawOf", "(I)J"⟩, 86) := ⟨⟨by decide +kernel, by decide +kernel⟩, List.mem_of_getElem? (i := 1255) (by decide +kernel), List.mem_of_getElem? (i := 1734) (by decide +kernel), List.mem_of_getElem? (i := 1735) (by decide +kernel)⟩
theorem lw_p84 : lw_okq (⟨"SandHoursModel", "valueOf", "(I)J"⟩, 86) := ⟨⟨by decide +kernel, by decide +kernel⟩, List.mem_of_getElem? (i := 1255) (by decide +kernel), List.mem_of_getElem? (i := 1738) (by decide +kernel), List.mem_of_getElem? (i := 1739) (by decide +kernel)⟩
theorem lw_p85 : lw_okq (⟨"SandHoursModel", "bounded", "(J)J"⟩, 86) := ⟨⟨by decide +kernel, by decide +kernel⟩, List.mem_of_getElem? (i := 1255) (by decide +kernel), List.mem_of_getElem? (i := 1742) (by decide +kernel), List.mem_of_getElem? (i := 1743) (by decide +kernel)⟩
theorem lw_p86 : lw_okq (⟨"SandHoursModel", "times", "(JJ)J"⟩, 86) := ⟨⟨by decide +kernel, by decide +kernel⟩, List.mem_of_getElem? (i := 1255) (by decide +kernel), List.mem_of_getElem? (i := 1748) (by decide +kernel), List.mem_of_getElem? (i := 1749) (by decide +kernel)⟩
theorem lw_p87 : lw_okq (⟨"SandHoursModel", "remember", "()V"⟩, 86) := ⟨⟨by decide +kernel, by decide +kernel⟩, List.mem_of_getElem? (i := 1255) (by decide +kernel), List.mem_of_getElem? (i := 1759) (by decide +kernel), List.mem_of_getElem? (i := 1760) (by decide +kernel)⟩
theorem lw_p88 : lw_okq (⟨"SandHoursModel", "put", "([II)V"⟩, 86) := ⟨⟨by decide +kernel, by decide +kernel⟩, List.mem_of_getElem? (i := 1255) (by decide +kernel), List.mem_of_getElem? (i := 1763) (by decide +kernel), List.mem_of_getElem? (i := 1764) (by decide +kernel)⟩
theorem lw_p89 : lw_okq (⟨"SandHoursModel", "over", "(I)V"⟩, 86) := ⟨⟨by decide +kernel, by decide +kernel⟩, List.mem_of_getElem? (i := 1255) (by decide +kernel), List.mem_of_getElem? (i := 1767) (by decide +kernel), List.mem_of_getElem? (i := 1768) (by decide +kernel)⟩
theorem lw_p90 : lw_okq (⟨"SandHoursModel", "areTwo", "(II)Z"⟩, 86) := ⟨⟨by decide +kernel, by decide +kernel⟩, List.mem_of_getElem? (i := 1255) (by decide +kernel), List.mem_of_getElem? (i := 1775) (by decide +kernel), List.mem_of_getElem? (i := 1776) (by decide +kernel)⟩
theorem lw_p91 : lw_okq (⟨"SandHoursModel", "minuteGoes", "(I)V"⟩, 86) := ⟨⟨by decide +kernel, by decide +kernel⟩, List.mem_of_getElem? (i := 1255) (by decide +kernel), List.mem_of_getElem? (i := 1787) (by decide +kernel), List.mem_of_getElem? (i := 1788) (by decide +kernel)⟩
theorem lw_p92 : lw_okq (⟨"SandHoursModel", "pays", "(II)V"⟩, 86) := ⟨⟨by decide +kernel, by decide +kernel⟩, List.mem_of_getElem? (i := 1255) (by decide +kernel), List.mem_of_getElem? (i := 1791) (by decide +kernel), List.mem_of_getElem? (i := 1792) (by decide +kernel)⟩
theorem lw_p93 : lw_okq (⟨"SandHoursModel", "boundLaw", "(II)I"⟩, 86) := ⟨⟨by decide +kernel, by decide +kernel⟩, List.mem_of_getElem? (i := 1255) (by decide +kernel), List.mem_of_getElem? (i := 1798) (by decide +kernel), List.mem_of_getElem? (i := 1799) (by decide +kernel)⟩
theorem lw_p94 : lw_okq (⟨"SandHoursModel", "isDamp", "()Z"⟩, 86) := ⟨⟨by decide +kernel, by decide +kernel⟩, List.mem_of_getElem? (i := 1255) (by decide +kernel), List.mem_of_getElem? (i := 1803) (by decide +kernel), List.mem_of_getElem? (i := 1804) (by decide +kernel)⟩
theorem lw_p95 : lw_okq (⟨"SandHoursModel", "number1", "(I)I"⟩, 86) := ⟨⟨by decide +kernel, by decide +kernel⟩, List.mem_of_getElem? (i := 1255) (by decide +kernel), List.mem_of_getElem? (i := 1807) (by decide +kernel), List.mem_of_getElem? (i := 1808) (by decide +kernel)⟩
def lw_privs_6 : List (MethodName × Nat) := [(⟨"SandHoursModel", "isPayment", "(I)Z"⟩, 86), (⟨"SandHoursModel", "layNames", "(II)V"⟩, 86), (⟨"SandHoursModel", "neckIn", "(I)I"⟩, 86), (⟨"SandHoursModel", "lawOf", "(I)J"⟩, 86), (⟨"SandHoursModel", "valueOf", "(I)J"⟩, 86), (⟨"SandHoursModel", "bounded", "(J)J"⟩, 86), (⟨"SandHoursModel", "times", "(JJ)J"⟩, 86), (⟨"SandHoursModel", "remember", "()V"⟩, 86), (⟨"SandHoursModel", "put", "([II)V"⟩, 86), (⟨"SandHoursModel", "over", "(I)V"⟩, 86), (⟨"SandHoursModel", "areTwo", "(II)Z"⟩, 86), (⟨"SandHoursModel", "minuteGoes", "(I)V"⟩, 86), (⟨"SandHoursModel", "pays", "(II)V"⟩, 86), (⟨"SandHoursModel", "boundLaw", "(II)I"⟩, 86), (⟨"SandHoursModel", "isDamp", "()Z"⟩, 86), (⟨"SandHoursModel", "number1", "(I)I"⟩, 86)]
theorem lw_r6 : ∀ q ∈ lw_privs_6, lw_okq q := List.forall_mem_cons.mpr ⟨lw_p80, List.forall_mem_cons.mpr ⟨lw_p81, List.forall_mem_cons.mpr ⟨lw_p82, List.forall_mem_cons.mpr ⟨lw_p83, List.forall_mem_cons.mpr ⟨lw_p84, List.forall_mem_cons.mpr ⟨lw_p85, List.forall_mem_cons.mpr ⟨lw_p86, List.forall_mem_cons.mpr ⟨lw_p87, List.forall_mem_cons.mpr ⟨lw_p88, List.forall_mem_cons.mpr ⟨lw_p89, List.forall_mem_cons.mpr ⟨lw_p90, List.forall_mem_cons.mpr ⟨lw_p91, List.forall_mem_cons.mpr ⟨lw_p92, List.forall_mem_cons.mpr ⟨lw_p93, List.forall_mem_cons.mpr ⟨lw_p94, List.forall_mem_cons.mpr ⟨lw_p95, fun _ h => absurd h List.not_mem_nil⟩⟩⟩⟩⟩⟩⟩⟩⟩⟩⟩⟩⟩⟩⟩⟩
theorem lw_p96 : lw_okq (⟨"SandHoursModel", "runs", "(II)V"⟩, 86) := ⟨⟨by decide +kernel, by decide +kernel⟩, List.mem_of_getElem? (i := 1255) (by decide +kernel), List.mem_of_getElem? (i := 1815) (by decide +kernel), List.mem_of_getElem? (i := 1816) (by decide +kernel)⟩
theorem lw_p97 : lw_okq (⟨"SandHoursModel", "flowOf", "(II)I"⟩, 86) := ⟨⟨by decide +kernel, by decide +kernel⟩, List.mem_of_getElem? (i := 1255) (by decide +kernel), List.mem_of_getElem? (i := 1819) (by decide +kernel), List.mem_of_getElem? (i := 1820) (by decide +kernel)⟩
theorem lw_p98 : lw_okq (⟨"SandHoursModel", "winds", "(II)V"⟩, 86) := ⟨⟨by decide +kernel, by decide +kernel⟩, List.mem_of_getElem? (i := 1255) (by decide +kernel), List.mem_of_getElem? (i := 1823) (by decide +kernel), List.mem_of_getElem? (i := 1824) (by decide +kernel)⟩
theorem lw_p99 : lw_okq (⟨"SandHoursModel", "layTried", "()V"⟩, 86) := ⟨⟨by decide +kernel, by decide +kernel⟩, List.mem_of_getElem? (i := 1255) (by decide +kernel), List.mem_of_getElem? (i := 1831) (by decide +kernel), List.mem_of_getElem? (i := 1832) (by decide +kernel)⟩
theorem lw_p100 : lw_okq (⟨"SandHoursModel", "goMany", "(I)V"⟩, 86) := ⟨⟨by decide +kernel, by decide +kernel⟩, List.mem_of_getElem? (i := 1255) (by decide +kernel), List.mem_of_getElem? (i := 1835) (by decide +kernel), List.mem_of_getElem? (i := 1836) (by decide +kernel)⟩
theorem lw_p101 : lw_okq (⟨"SandHoursModel", "emptiedAll", "(I)I"⟩, 86) := ⟨⟨by decide +kernel, by decide +kernel⟩, List.mem_of_getElem? (i := 1255) (by decide +kernel), List.mem_of_getElem? (i := 1839) (by decide +kernel), List.mem_of_getElem? (i := 1840) (by decide +kernel)⟩
theorem lw_p102 : lw_okq (⟨"SandHoursModel", "shortMany", "(I)I"⟩, 86) := ⟨⟨by decide +kernel, by decide +kernel⟩, List.mem_of_getElem? (i := 1255) (by decide +kernel), List.mem_of_getElem? (i := 1843) (by decide +kernel), List.mem_of_getElem? (i := 1844) (by decide +kernel)⟩
theorem lw_p103 : lw_okq (⟨"SandHoursModel", "oneMinute", "(III)V"⟩, 86) := ⟨⟨by decide +kernel, by decide +kernel⟩, List.mem_of_getElem? (i := 1255) (by decide +kernel), List.mem_of_getElem? (i := 1865) (by decide +kernel), List.mem_of_getElem? (i := 1866) (by decide +kernel)⟩
theorem lw_p104 : lw_okq (⟨"SandHoursModel", "richestOf", "(I)I"⟩, 86) := ⟨⟨by decide +kernel, by decide +kernel⟩, List.mem_of_getElem? (i := 1255) (by decide +kernel), List.mem_of_getElem? (i := 1899) (by decide +kernel), List.mem_of_getElem? (i := 1900) (by decide +kernel)⟩
theorem lw_p105 : lw_okq (⟨"SandHoursModel", "restAt", "(II)I"⟩, 86) := ⟨⟨by decide +kernel, by decide +kernel⟩, List.mem_of_getElem? (i := 1255) (by decide +kernel), List.mem_of_getElem? (i := 1911) (by decide +kernel), List.mem_of_getElem? (i := 1912) (by decide +kernel)⟩
theorem lw_p106 : lw_okq (⟨"SandHoursModel", "hasBy", "(III)I"⟩, 86) := ⟨⟨by decide +kernel, by decide +kernel⟩, List.mem_of_getElem? (i := 1255) (by decide +kernel), List.mem_of_getElem? (i := 1915) (by decide +kernel), List.mem_of_getElem? (i := 1916) (by decide +kernel)⟩
theorem lw_p107 : lw_okq (⟨"SandHoursModel", "letBy", "(II)I"⟩, 86) := ⟨⟨by decide +kernel, by decide +kernel⟩, List.mem_of_getElem? (i := 1255) (by decide +kernel), List.mem_of_getElem? (i := 1930) (by decide +kernel), List.mem_of_getElem? (i := 1931) (by decide +kernel)⟩
theorem lw_p108 : lw_okq (⟨"SandHoursModel", "noted", "(IIII)I"⟩, 86) := ⟨⟨by decide +kernel, by decide +kernel⟩, List.mem_of_getElem? (i := 1255) (by decide +kernel), List.mem_of_getElem? (i := 1962) (by decide +kernel), List.mem_of_getElem? (i := 1963) (by decide +kernel)⟩
theorem lw_p109 : lw_okq (⟨"SandHoursModel", "knownBy", "()I"⟩, 86) := ⟨⟨by decide +kernel, by decide +kernel⟩, List.mem_of_getElem? (i := 1255) (by decide +kernel), List.mem_of_getElem? (i := 1978) (by decide +kernel), List.mem_of_getElem? (i := 1979) (by decide +kernel)⟩
theorem lw_p110 : lw_okq (⟨"SandHoursModel", "fits", "(II)Z"⟩, 86) := ⟨⟨by decide +kernel, by decide +kernel⟩, List.mem_of_getElem? (i := 1255) (by decide +kernel), List.mem_of_getElem? (i := 1982) (by decide +kernel), List.mem_of_getElem? (i := 1983) (by decide +kernel)⟩
theorem lw_p111 : lw_okq (⟨"SandHoursModel", "isSo", "(I)Z"⟩, 86) := ⟨⟨by decide +kernel, by decide +kernel⟩, List.mem_of_getElem? (i := 1255) (by decide +kernel), List.mem_of_getElem? (i := 1986) (by decide +kernel), List.mem_of_getElem? (i := 1987) (by decide +kernel)⟩
def lw_privs_7 : List (MethodName × Nat) := [(⟨"SandHoursModel", "runs", "(II)V"⟩, 86), (⟨"SandHoursModel", "flowOf", "(II)I"⟩, 86), (⟨"SandHoursModel", "winds", "(II)V"⟩, 86), (⟨"SandHoursModel", "layTried", "()V"⟩, 86), (⟨"SandHoursModel", "goMany", "(I)V"⟩, 86), (⟨"SandHoursModel", "emptiedAll", "(I)I"⟩, 86), (⟨"SandHoursModel", "shortMany", "(I)I"⟩, 86), (⟨"SandHoursModel", "oneMinute", "(III)V"⟩, 86), (⟨"SandHoursModel", "richestOf", "(I)I"⟩, 86), (⟨"SandHoursModel", "restAt", "(II)I"⟩, 86), (⟨"SandHoursModel", "hasBy", "(III)I"⟩, 86), (⟨"SandHoursModel", "letBy", "(II)I"⟩, 86), (⟨"SandHoursModel", "noted", "(IIII)I"⟩, 86), (⟨"SandHoursModel", "knownBy", "()I"⟩, 86), (⟨"SandHoursModel", "fits", "(II)Z"⟩, 86), (⟨"SandHoursModel", "isSo", "(I)Z"⟩, 86)]
theorem lw_r7 : ∀ q ∈ lw_privs_7, lw_okq q := List.forall_mem_cons.mpr ⟨lw_p96, List.forall_mem_cons.mpr ⟨lw_p97, List.forall_mem_cons.mpr ⟨lw_p98, List.forall_mem_cons.mpr ⟨lw_p99, List.forall_mem_cons.mpr ⟨lw_p100, List.forall_mem_cons.mpr ⟨lw_p101, List.forall_mem_cons.mpr ⟨lw_p102, List.forall_mem_cons.mpr ⟨lw_p103, List.forall_mem_cons.mpr ⟨lw_p104, List.forall_mem_cons.mpr ⟨lw_p105, List.forall_mem_cons.mpr ⟨lw_p106, List.forall_mem_cons.mpr ⟨lw_p107, List.forall_mem_cons.mpr ⟨lw_p108, List.forall_mem_cons.mpr ⟨lw_p109, List.forall_mem_cons.mpr ⟨lw_p110, List.forall_mem_cons.mpr ⟨lw_p111, fun _ h => absurd h List.not_mem_nil⟩⟩⟩⟩⟩⟩⟩⟩⟩⟩⟩⟩⟩⟩⟩⟩
theorem lw_p112 : lw_okq (⟨"SandHoursModel", "grains", "(I)I"⟩, 86) := ⟨⟨by decide +kernel, by decide +kernel⟩, List.mem_of_getElem? (i := 1255) (by decide +kernel), List.mem_of_getElem? (i := 1998) (by decide +kernel), List.mem_of_getElem? (i := 1999) (by decide +kernel)⟩
theorem lw_p113 : lw_okq (⟨"SandHoursModel", "take", "([II)V"⟩, 86) := ⟨⟨by decide +kernel, by decide +kernel⟩, List.mem_of_getElem? (i := 1255) (by decide +kernel), List.mem_of_getElem? (i := 2006) (by decide +kernel), List.mem_of_getElem? (i := 2007) (by decide +kernel)⟩
def lw_privs_8 : List (MethodName × Nat) := [(⟨"SandHoursModel", "grains", "(I)I"⟩, 86), (⟨"SandHoursModel", "take", "([II)V"⟩, 86)]
theorem lw_r8 : ∀ q ∈ lw_privs_8, lw_okq q := List.forall_mem_cons.mpr ⟨lw_p112, List.forall_mem_cons.mpr ⟨lw_p113, fun _ h => absurd h List.not_mem_nil⟩⟩
def lw_privs : List (MethodName × Nat) := lw_privs_1 ++ (lw_privs_2 ++ (lw_privs_3 ++ (lw_privs_4 ++ (lw_privs_5 ++ (lw_privs_6 ++ (lw_privs_7 ++ (lw_privs_8)))))))
def lw_tbl : List Cond := k2_sels lw_privs ++ tables_1
theorem lw_privs_ok : ∀ q ∈ lw_privs, lw_okq q := by
  show ∀ q ∈ lw_privs_1 ++ (lw_privs_2 ++ (lw_privs_3 ++ (lw_privs_4 ++ (lw_privs_5 ++ (lw_privs_6 ++ (lw_privs_7 ++ (lw_privs_8))))))), lw_okq q
  exact List.forall_mem_append.mpr ⟨lw_r1, List.forall_mem_append.mpr ⟨lw_r2, List.forall_mem_append.mpr ⟨lw_r3, List.forall_mem_append.mpr ⟨lw_r4, List.forall_mem_append.mpr ⟨lw_r5, List.forall_mem_append.mpr ⟨lw_r6, List.forall_mem_append.mpr ⟨lw_r7, lw_r8⟩⟩⟩⟩⟩⟩⟩

def zT0 : u_T := fun k => ([("SandHours", "tape", "[B", true), ("SandHours", "tapeLength", "I", false), ("SandHours", "lastFault", "I", false), ("SandHours", "lastPlace", "I", false), ("SandHours", "reader", "LSandHours$Reader;", true), ("SandHours", "told", "LSandHours$Told;", false), ("SandHours", "draft", "LSandHours$Told;", false), ("SandHours", "now", "LSandHours$State;", true), ("SandHours", "image", "LSandHours$State;", true), ("SandHours", "hasImage", "Z", false), ("SandHours", "then", "LSandHours$State;", true), ("SandHours", "course", "LSandHours$Course;", true), ("SandHours", "puzzles", "LSandHours$Puzzles;", true), ("SandHours", "undoing", "LSandHours$Undoing;", true), ("SandHours", "seen", "LSandHours$Seen;", true)] : List (String × String × String × Bool)).getD k ("", "", "", false)
def zT1 : u_T := fun k => ([("SandHours$Reader", "tokens", "LSandHours$Tokens;", true), ("SandHours$Reader", "lawReader", "LSandHours$LawReader;", true), ("SandHours$Reader", "row", "[I", true)] : List (String × String × String × Bool)).getD k ("", "", "", false)
def zT2 : u_T := fun k => ([("SandHours$Tokens", "words", "[I", true), ("SandHours$Tokens", "bytes", "[B", false), ("SandHours$Tokens", "length", "I", false), ("SandHours$Tokens", "at", "I", false), ("SandHours$Tokens", "kind", "I", false), ("SandHours$Tokens", "place", "I", false), ("SandHours$Tokens", "letters", "I", false), ("SandHours$Tokens", "value", "I", false), ("SandHours$Tokens", "faultKind", "I", false), ("SandHours$Tokens", "faultPlace", "I", false)] : List (String × String × String × Bool)).getD k ("", "", "", false)
def zT3 : u_T := fun k => ([("SandHours$LawReader", "waiting", "[I", true), ("SandHours$LawReader", "height", "I", false), ("SandHours$LawReader", "open", "I", false), ("SandHours$LawReader", "operandDue", "Z", false), ("SandHours$LawReader", "notMayStand", "Z", false)] : List (String × String × String × Bool)).getD k ("", "", "", false)
def zT4 : u_T := fun k => ([("SandHours$Told", "men", "LSandHours$Rows;", true), ("SandHours$Told", "glasses", "LSandHours$Rows;", true), ("SandHours$Told", "turns", "LSandHours$Rows;", true), ("SandHours$Told", "payments", "LSandHours$Rows;", true), ("SandHours$Told", "sieves", "LSandHours$Rows;", true), ("SandHours$Told", "laws", "LSandHours$Laws;", true), ("SandHours$Told", "damp", "I", false), ("SandHours$Told", "seed", "I", false), ("SandHours$Told", "dampTold", "Z", false), ("SandHours$Told", "seedTold", "Z", false)] : List (String × String × String × Bool)).getD k ("", "", "", false)
def zT5 : u_T := fun k => ([("SandHours$Rows", "most", "I", true), ("SandHours$Rows", "width", "I", true), ("SandHours$Rows", "cells", "[I", true), ("SandHours$Rows", "size", "I", false)] : List (String × String × String × Bool)).getD k ("", "", "", false)
def zT6 : u_T := fun k => ([("SandHours$Laws", "code", "[I", true), ("SandHours$Laws", "length", "I", false), ("SandHours$Laws", "knots", "I", false), ("SandHours$Laws", "from", "[I", true), ("SandHours$Laws", "to", "[I", true), ("SandHours$Laws", "names", "[I", true), ("SandHours$Laws", "stack", "[J", true)] : List (String × String × String × Bool)).getD k ("", "", "", false)
def zT7 : u_T := fun k => ([("SandHours$State", "minute", "I", false), ("SandHours$State", "number", "J", false), ("SandHours$State", "taxed", "I", false), ("SandHours$State", "wet", "I", false), ("SandHours$State", "above", "[I", true), ("SandHours$State", "below", "[I", true), ("SandHours$State", "emptied", "[I", true), ("SandHours$State", "paid", "[I", true), ("SandHours$State", "done", "[I", true)] : List (String × String × String × Bool)).getD k ("", "", "", false)
def zT8 : u_T := fun k => ([("SandHours$Course", "told", "LSandHours$Told;", false), ("SandHours$Course", "drawn", "Z", false), ("SandHours$Course", "leftOut", "I", false), ("SandHours$Course", "unpaying", "I", false), ("SandHours$Course", "oddGlass", "I", false), ("SandHours$Course", "oddNeck", "I", false)] : List (String × String × String × Bool)).getD k ("", "", "", false)
def zT9 : u_T := fun k => ([("SandHours$Puzzles", "costs", "[I", false), ("SandHours$Puzzles", "nextCosts", "[I", false), ("SandHours$Puzzles", "room", "[I", true), ("SandHours$Puzzles", "cameFrom", "[I", true), ("SandHours$Puzzles", "queue", "[I", true), ("SandHours$Puzzles", "restAt", "[I", true), ("SandHours$Puzzles", "restCount", "I", false)] : List (String × String × String × Bool)).getD k ("", "", "", false)
def zT10 : u_T := fun k => ([("SandHours$Undoing", "kinds", "[I", true), ("SandHours$Undoing", "ones", "[I", true), ("SandHours$Undoing", "others", "[I", true), ("SandHours$Undoing", "grains", "[I", true), ("SandHours$Undoing", "size", "I", false)] : List (String × String × String × Bool)).getD k ("", "", "", false)
def zT11 : u_T := fun k => ([("SandHours$Seen", "minutes", "[I", true), ("SandHours$Seen", "glasses", "[I", true), ("SandHours$Seen", "belows", "[I", true), ("SandHours$Seen", "atLeast", "[Z", true), ("SandHours$Seen", "strikes", "[I", true), ("SandHours$Seen", "struck", "[Z", true), ("SandHours$Seen", "size", "I", false), ("SandHours$Seen", "knownBy", "I", false), ("SandHours$Seen", "lastMinute", "I", false)] : List (String × String × String × Bool)).getD k ("", "", "", false)
def zT12 : u_T := fun k => ([("SandHoursModel", "tape", "[I", true), ("SandHoursModel", "tapeSize", "I", false), ("SandHoursModel", "thrown", "I", false), ("SandHoursModel", "words", "[I", true), ("SandHoursModel", "fault", "I", false), ("SandHoursModel", "faultPlace", "I", false), ("SandHoursModel", "stop", "I", false), ("SandHoursModel", "next", "I", false), ("SandHoursModel", "kind", "I", false), ("SandHoursModel", "which", "I", false), ("SandHoursModel", "at", "I", false), ("SandHoursModel", "got", "I", false), ("SandHoursModel", "people", "I", false), ("SandHoursModel", "glasses", "I", false), ("SandHoursModel", "turns", "I", false), ("SandHoursModel", "payments", "I", false), ("SandHoursModel", "sieves", "I", false), ("SandHoursModel", "knots", "I", false), ("SandHoursModel", "peopleRead", "I", false), ("SandHoursModel", "glassesRead", "I", false), ("SandHoursModel", "turnsRead", "I", false), ("SandHoursModel", "paymentsRead", "I", false), ("SandHoursModel", "sievesRead", "I", false), ("SandHoursModel", "knotsRead", "I", false), ("SandHoursModel", "onceTold", "[Z", true), ("SandHoursModel", "once", "[I", true), ("SandHoursModel", "manName", "[I", true), ("SandHoursModel", "glassName", "[I", true), ("SandHoursModel", "glassMan", "[I", true), ("SandHoursModel", "glassAbove", "[I", true), ("SandHoursModel", "glassBelow", "[I", true), ("SandHoursModel", "glassNeck", "[I", true), ("SandHoursModel", "glassCoarse", "[I", true), ("SandHoursModel", "turnGlass", "[I", true), ("SandHoursModel", "turnAt", "[I", true), ("SandHoursModel", "payFrom", "[I", true), ("SandHoursModel", "payTo", "[I", true), ("SandHoursModel", "payAt", "[I", true), ("SandHoursModel", "payMuch", "[I", true), ("SandHoursModel", "sieveMesh", "[I", true), ("SandHoursModel", "lawTold", "[Z", true), ("SandHoursModel", "first", "[I", true), ("SandHoursModel", "last", "[I", true), ("SandHoursModel", "knot", "[I", true), ("SandHoursModel", "part", "[I", true), ("SandHoursModel", "other", "[I", true), ("SandHoursModel", "wait", "[I", true), ("SandHoursModel", "held", "[I", true), ("SandHoursModel", "waits", "I", false), ("SandHoursModel", "helds", "I", false), ("SandHoursModel", "brackets", "I", false), ("SandHoursModel", "counted", "I", false), ("SandHoursModel", "wants", "Z", false), ("SandHoursModel", "mayNot", "Z", false), ("SandHoursModel", "names", "[J", true), ("SandHoursModel", "value", "[J", true), ("SandHoursModel", "isError", "Z", false), ("SandHoursModel", "above", "[I", true), ("SandHoursModel", "below", "[I", true), ("SandHoursModel", "wet", "[Z", true), ("SandHoursModel", "emptied", "[I", true), ("SandHoursModel", "paid", "[I", true), ("SandHoursModel", "payIs", "[I", true), ("SandHoursModel", "taxed", "[I", true), ("SandHoursModel", "minute", "[I", true), ("SandHoursModel", "drawn", "J", false), ("SandHoursModel", "draws", "Z", false), ("SandHoursModel", "noDamp", "Z", false), ("SandHoursModel", "noWind", "Z", false), ("SandHoursModel", "noTax", "Z", false), ("SandHoursModel", "noTurns", "Z", false), ("SandHoursModel", "mute", "I", false), ("SandHoursModel", "neckOf", "I", false), ("SandHoursModel", "neckBy", "I", false), ("SandHoursModel", "turned", "[I", true), ("SandHoursModel", "turnedThen", "[I", true), ("SandHoursModel", "seenMany", "I", false), ("SandHoursModel", "knownTold", "I", false), ("SandHoursModel", "seen1", "[I", true), ("SandHoursModel", "counts", "[Z", true), ("SandHoursModel", "undos", "I", false), ("SandHoursModel", "undo", "[I", true), ("SandHoursModel", "hasImage", "Z", false), ("SandHoursModel", "image", "[I", true), ("SandHoursModel", "imageRest", "[I", true), ("SandHoursModel", "imageDrawn", "J", false)] : List (String × String × String × Bool)).getD k ("", "", "", false)
abbrev classes : List vw_C := [("SandHours", zT0, 15), ("SandHours$Reader", zT1, 3), ("SandHours$Tokens", zT2, 10), ("SandHours$LawReader", zT3, 5), ("SandHours$Told", zT4, 10), ("SandHours$Rows", zT5, 4), ("SandHours$Laws", zT6, 7), ("SandHours$State", zT7, 9), ("SandHours$Course", zT8, 6), ("SandHours$Puzzles", zT9, 7), ("SandHours$Undoing", zT10, 5), ("SandHours$Seen", zT11, 9), ("SandHoursModel", zT12, 86)]
/-- what a field holds: 0 an int, 1 a long, 2 a reference, 3 a boolean -/
def zkd : List (List Nat) := [[2, 0, 0, 0, 2, 2, 2, 2, 2, 3, 2, 2, 2, 2, 2], [2, 2, 2], [2, 2, 0, 0, 0, 0, 0, 0, 0, 0], [2, 0, 0, 3, 3], [2, 2, 2, 2, 2, 2, 0, 0, 3, 3], [0, 0, 2, 0], [2, 0, 0, 2, 2, 2, 2], [0, 1, 0, 0, 2, 2, 2, 2, 2], [2, 3, 0, 0, 0, 0], [2, 2, 2, 2, 2, 2, 0], [2, 2, 2, 2, 0], [2, 2, 2, 2, 2, 2, 0, 0, 0], [2, 0, 0, 2, 0, 0, 0, 0, 0, 0, 0, 0, 0, 0, 0, 0, 0, 0, 0, 0, 0, 0, 0, 0, 2, 2, 2, 2, 2, 2, 2, 2, 2, 2, 2, 2, 2, 2, 2, 2, 2, 2, 2, 2, 2, 2, 2, 2, 0, 0, 0, 0, 3, 3, 2, 2, 3, 2, 2, 2, 2, 2, 2, 2, 2, 1, 3, 3, 3, 3, 3, 0, 0, 0, 2, 2, 0, 0, 2, 2, 0, 2, 3, 2, 2, 1]]
end
section
/-! An executor of bytecode over a world of numbered cells: cell q of the world lies at bs + q. A reference .ref q with q < 1000000 is the world's cell q; others are things from outside (String constants, statics). -/
abbrev zHI : Type := Nat → Nat → Int32
abbrev zHL : Type := Nat → Nat → Int64
abbrev zHP : Type := Nat → Nat → Option Nat
/-- (0, class): an object; (1, n) int[n]; (2, n) byte[n]; (3, n) boolean[n]; (4, n) long[n] -/
abbrev zSh : Type := Nat × Nat
/-- shapes, ints (and booleans, bytes), longs, references -/
abbrev zH : Type := List zSh × zHI × zHL × zHP
abbrev zL : Type := List (Nat × Value)
/-- its pc, the instruction, its length, what it links -/
abbrev zEn : Type := Nat × Instr × Nat × List Nat
/-- name, bytes, locals, what it returns, cells and slots that it makes, instructions -/
abbrev zM : Type := MethodName × ByteArray × Nat × Option FieldType × Nat × Nat × Lean.RArray zEn
def zu2 {α : Type} (f : Nat → Nat → α) (k j : Nat) (v : α) : Nat → Nat → α := fun a b => if a = k then (if b = j then v else f a b) else f a b
def zur {α : Type} (f : Nat → Nat → α) (k : Nat) (g : Nat → α) : Nat → Nat → α := fun a b => if a = k then g b else f a b
def zget : zL → Nat → Option Value
  | [], _ => none
  | q :: r, i => if q.1 = i then some q.2 else zget r i
def zset (l : zL) (i : Nat) (v : Value) : zL := (i, v) :: l.filter (fun q => !(q.1 == i) && !(q.1 + 1 == i && q.2.category == 2))
def zset2 (l : zL) (i : Nat) (v : Value) : zL := (i, v) :: l.filter (fun q => !(q.1 == i) && (!(q.1 == i + 1) && !(q.1 + 1 == i && q.2.category == 2)))
def zkind (ci k : Nat) : Nat := (zkd.getD ci []).getD k 0
def zsI (h : zH) (q k : Nat) (v : Int32) : zH := (h.1, zu2 h.2.1 q k v, h.2.2)
def zsL (h : zH) (q k : Nat) (v : Int64) : zH := (h.1, h.2.1, zu2 h.2.2.1 q k v, h.2.2.2)
def zsP (h : zH) (q k : Nat) (v : Option Nat) : zH := (h.1, h.2.1, h.2.2.1, zu2 h.2.2.2 q k v)
/-- a new cell, all zero -/
def znew (h : zH) (s : zSh) : zH := (h.1 ++ [s], zur h.2.1 h.1.length (fun _ => 0), zur h.2.2.1 h.1.length (fun _ => 0), zur h.2.2.2 h.1.length (fun _ => none))
def zcp (h : zH) (q0 q1 sp dp n : Nat) : zH := (h.1, zur h.2.1 q1 (va_cpy (h.2.1 q0) (h.2.1 q1) sp dp n), h.2.2)
/-- what fields of things from outside hold -/
def zof (q fk : Nat) : Option Value := if q = 1000000 then (if fk = 0 then some (.ref 1000001) else some (.int 0)) else none
/-- the bytes of the String constant that Tokens reads -/
def zwords : List Int32 := ("man   glass turn  pay   sieve damp  seed  law   flow  tax   wind  above below neck  coarsewet   paid  minutenot   and   or    ".toList).map (fun c => Int32.ofNat c.toNat)
def zst (sk : Nat) : Value := if sk = 0 then .int 1 else .ref 1000009
def zwd (st : List Value) : Nat := (st.map fun v => v.category).sum
section ZX
variable {ρ : Type} (bad : ρ)
def zsw (C : Nat → ρ) (x : Int32) (d : Nat) : List Nat → ρ
  | v :: t :: r => if x = Int32.ofNat v then C t else zsw C x d r
  | _ => C d
def zgetf (h : zH) (ci k q : Nat) (C : Value → ρ) : ρ :=
  match h.1[q]? with
  | some (0, c') => if c' = ci then (match zkind ci k with
      | 1 => C (.long (h.2.2.1 q k))
      | 2 => (match h.2.2.2 q k with
        | none => C .null
        | some r => C (.ref r))
      | _ => C (.int (h.2.1 q k))) else bad
  | _ => bad
def zputf (h : zH) (ci k q : Nat) (v : Value) (C : zH → ρ) : ρ :=
  match h.1[q]? with
  | some (0, c') => if c' = ci then (match zkind ci k, v with
      | 0, .int x => C (zsI h q k x)
      | 1, .long x => C (zsL h q k x)
      | 2, .null => C (zsP h q k none)
      | 2, .ref r => C (zsP h q k (some r))
      | 3, .int x => if x = 0 ∨ x = 1 then C (zsI h q k x) else bad
      | _, _ => bad) else bad
  | _ => bad
/-- one instruction: G a call, K the return, C what goes on (cells, slots, pc, locals, stack, world) -/
def zins (M : zM) (al : Bool) (G : Nat → List Value → zH → (Option Value → zH → ρ) → ρ) (mcs : Nat → Nat × Nat) (K : Option Value → zH → ρ) (C : Nat → Nat → Nat → zL → List Value → zH → ρ) (cs ss pc : Nat) (l : zL) (st : List Value) (h : zH) (ex : List Nat) (i : Instr) : ρ :=
  match i with
  | .iconst n => C cs ss (pc + 1) l (.int (Int32.ofInt n) :: st) h
  | .bipush n => C cs ss (pc + 2) l (.int (Int8.ofInt n).toInt32 :: st) h
  | .sipush n => C cs ss (pc + 3) l (.int (Int16.ofInt n).toInt32 :: st) h
  | .lconst n => C cs ss (pc + 1) l (.long (Int64.ofNat (n : Nat)) :: st) h
  | .ldc _ => (match ex with
    | [v, _] => C cs ss (pc + 2) l (.int (Int32.ofNat v) :: st) h
    | [s] => C cs ss (pc + 2) l (.ref s :: st) h
    | _ => bad)
  | .ldc_w _ => (match ex with
    | [v, _] => C cs ss (pc + 3) l (.int (Int32.ofNat v) :: st) h
    | _ => bad)
  | .ldc2_w _ => (match ex with
    | [v, _] => C cs ss (pc + 3) l (.long (Int64.ofNat v) :: st) h
    | _ => bad)
  | .iload j => (match zget l j with
    | some (.int x) => C cs ss (pc + 2) l (.int x :: st) h
    | _ => bad)
  | .iload_n j => (match zget l j with
    | some (.int x) => C cs ss (pc + 1) l (.int x :: st) h
    | _ => bad)
  | .lload j => (match zget l j with
    | some (.long x) => C cs ss (pc + 2) l (.long x :: st) h
    | _ => bad)
  | .lload_n j => (match zget l j with
    | some (.long x) => C cs ss (pc + 1) l (.long x :: st) h
    | _ => bad)
  | .aload j => (match zget l j with
    | some (.ref x) => C cs ss (pc + 2) l (.ref x :: st) h
    | _ => bad)
  | .aload_n j => (match zget l j with
    | some (.ref x) => C cs ss (pc + 1) l (.ref x :: st) h
    | _ => bad)
  | .istore j => (match st with
    | .int x :: st' => if j < M.2.2.1 then C cs ss (pc + 2) (zset l j (.int x)) st' h else bad
    | _ => bad)
  | .istore_n j => (match st with
    | .int x :: st' => if (j : Nat) < M.2.2.1 then C cs ss (pc + 1) (zset l j (.int x)) st' h else bad
    | _ => bad)
  | .lstore j => (match st with
    | .long x :: st' => if j + 1 < M.2.2.1 then C cs ss (pc + 2) (zset2 l j (.long x)) st' h else bad
    | _ => bad)
  | .lstore_n j => (match st with
    | .long x :: st' => if (j : Nat) + 1 < M.2.2.1 then C cs ss (pc + 1) (zset2 l j (.long x)) st' h else bad
    | _ => bad)
  | .astore j => (match st with
    | .ref x :: st' => if j < M.2.2.1 then C cs ss (pc + 2) (zset l j (.ref x)) st' h else bad
    | _ => bad)
  | .astore_n j => (match st with
    | .ref x :: st' => if (j : Nat) < M.2.2.1 then C cs ss (pc + 1) (zset l j (.ref x)) st' h else bad
    | _ => bad)
  | .iinc j n => (match zget l j with
    | some (.int x) => if j < M.2.2.1 then C cs ss (pc + 3) (zset l j (.int (x + Int32.ofInt n))) st h else bad
    | _ => bad)
  | .iadd => (match st with
    | .int y :: .int x :: st' => C cs ss (pc + 1) l (.int (x + y) :: st') h
    | _ => bad)
  | .isub => (match st with
    | .int y :: .int x :: st' => C cs ss (pc + 1) l (.int (x - y) :: st') h
    | _ => bad)
  | .imul => (match st with
    | .int y :: .int x :: st' => C cs ss (pc + 1) l (.int (x * y) :: st') h
    | _ => bad)
  | .iand => (match st with
    | .int y :: .int x :: st' => C cs ss (pc + 1) l (.int (x &&& y) :: st') h
    | _ => bad)
  | .ior => (match st with
    | .int y :: .int x :: st' => C cs ss (pc + 1) l (.int (x ||| y) :: st') h
    | _ => bad)
  | .ixor => (match st with
    | .int y :: .int x :: st' => C cs ss (pc + 1) l (.int (x ^^^ y) :: st') h
    | _ => bad)
  | .idiv => (match st with
    | .int y :: .int x :: st' => if y = 0 then bad else C cs ss (pc + 1) l (.int (x / y) :: st') h
    | _ => bad)
  | .irem => (match st with
    | .int y :: .int x :: st' => if y = 0 then bad else C cs ss (pc + 1) l (.int (x - x / y * y) :: st') h
    | _ => bad)
  | .ineg => (match st with
    | .int x :: st' => C cs ss (pc + 1) l (.int (-x) :: st') h
    | _ => bad)
  | .ishl => (match st with
    | .int y :: .int x :: st' => C cs ss (pc + 1) l (.int (x <<< (y &&& 31)) :: st') h
    | _ => bad)
  | .ishr => (match st with
    | .int y :: .int x :: st' => C cs ss (pc + 1) l (.int (x >>> (y &&& 31)) :: st') h
    | _ => bad)
  | .iushr => (match st with
    | .int y :: .int x :: st' => C cs ss (pc + 1) l (.int (x.toUInt32 >>> (y.toUInt32 &&& Int32.toUInt32 31)).toInt32 :: st') h
    | _ => bad)
  | .ladd => (match st with
    | .long y :: .long x :: st' => C cs ss (pc + 1) l (.long (x + y) :: st') h
    | _ => bad)
  | .lsub => (match st with
    | .long y :: .long x :: st' => C cs ss (pc + 1) l (.long (x - y) :: st') h
    | _ => bad)
  | .lmul => (match st with
    | .long y :: .long x :: st' => C cs ss (pc + 1) l (.long (x * y) :: st') h
    | _ => bad)
  | .land => (match st with
    | .long y :: .long x :: st' => C cs ss (pc + 1) l (.long (x &&& y) :: st') h
    | _ => bad)
  | .ldiv => (match st with
    | .long y :: .long x :: st' => if y = 0 then bad else C cs ss (pc + 1) l (.long (x / y) :: st') h
    | _ => bad)
  | .lrem => (match st with
    | .long y :: .long x :: st' => if y = 0 then bad else C cs ss (pc + 1) l (.long (x - x / y * y) :: st') h
    | _ => bad)
  | .lneg => (match st with
    | .long x :: st' => C cs ss (pc + 1) l (.long (-x) :: st') h
    | _ => bad)
  | .lcmp => (match st with
    | .long y :: .long x :: st' => C cs ss (pc + 1) l (.int (lg_cmp x y) :: st') h
    | _ => bad)
  | .i2l => (match st with
    | .int x :: st' => C cs ss (pc + 1) l (.long x.toInt64 :: st') h
    | _ => bad)
  | .l2i => (match st with
    | .long x :: st' => C cs ss (pc + 1) l (.int x.toInt32 :: st') h
    | _ => bad)
  | .i2b => (match st with
    | .int x :: st' => C cs ss (pc + 1) l (.int x.toInt8.toInt32 :: st') h
    | _ => bad)
  | .i2c => (match st with
    | .int x :: st' => C cs ss (pc + 1) l (.int (x.toUInt32 % 65536).toInt32 :: st') h
    | _ => bad)
  | .dup => (match st with
    | v :: st' => if v.category = 1 then C cs ss (pc + 1) l (v :: v :: st') h else bad
    | _ => bad)
  | .pop => (match st with
    | v :: st' => if v.category = 1 then C cs ss (pc + 1) l st' h else bad
    | _ => bad)
  | .dup2 => (match st with
    | v :: w :: st' => if v.category = 1 then (if w.category = 1 then C cs ss (pc + 1) l (v :: w :: v :: w :: st') h else bad) else bad
    | _ => bad)
  | .ifCond .eq _ => (match ex, st with
    | [t], .int x :: st' => if x = 0 then C cs ss t l st' h else C cs ss (pc + 3) l st' h
    | _, _ => bad)
  | .ifCond .ne _ => (match ex, st with
    | [t], .int x :: st' => if x = 0 then C cs ss (pc + 3) l st' h else C cs ss t l st' h
    | _, _ => bad)
  | .ifCond .lt _ => (match ex, st with
    | [t], .int x :: st' => if x < 0 then C cs ss t l st' h else C cs ss (pc + 3) l st' h
    | _, _ => bad)
  | .ifCond .ge _ => (match ex, st with
    | [t], .int x :: st' => if 0 ≤ x then C cs ss t l st' h else C cs ss (pc + 3) l st' h
    | _, _ => bad)
  | .ifCond .gt _ => (match ex, st with
    | [t], .int x :: st' => if 0 < x then C cs ss t l st' h else C cs ss (pc + 3) l st' h
    | _, _ => bad)
  | .ifCond .le _ => (match ex, st with
    | [t], .int x :: st' => if x ≤ 0 then C cs ss t l st' h else C cs ss (pc + 3) l st' h
    | _, _ => bad)
  | .if_icmp .eq _ => (match ex, st with
    | [t], .int y :: .int x :: st' => if x = y then C cs ss t l st' h else C cs ss (pc + 3) l st' h
    | _, _ => bad)
  | .if_icmp .ne _ => (match ex, st with
    | [t], .int y :: .int x :: st' => if x = y then C cs ss (pc + 3) l st' h else C cs ss t l st' h
    | _, _ => bad)
  | .if_icmp .lt _ => (match ex, st with
    | [t], .int y :: .int x :: st' => if x < y then C cs ss t l st' h else C cs ss (pc + 3) l st' h
    | _, _ => bad)
  | .if_icmp .ge _ => (match ex, st with
    | [t], .int y :: .int x :: st' => if y ≤ x then C cs ss t l st' h else C cs ss (pc + 3) l st' h
    | _, _ => bad)
  | .if_icmp .gt _ => (match ex, st with
    | [t], .int y :: .int x :: st' => if y < x then C cs ss t l st' h else C cs ss (pc + 3) l st' h
    | _, _ => bad)
  | .if_icmp .le _ => (match ex, st with
    | [t], .int y :: .int x :: st' => if x ≤ y then C cs ss t l st' h else C cs ss (pc + 3) l st' h
    | _, _ => bad)
  | .goto _ => (match ex with
    | [t] => C cs ss t l st h
    | _ => bad)
  | .tableswitch .. => (match ex, st with
    | d :: r, .int x :: st' => zsw (fun t => C cs ss t l st' h) x d r
    | _, _ => bad)
  | .lookupswitch .. => (match ex, st with
    | d :: r, .int x :: st' => zsw (fun t => C cs ss t l st' h) x d r
    | _, _ => bad)
  | .getfield _ => (match ex, st with
    | [ci, k, _, _], .ref q :: st' => if q < 1000000 then zgetf bad h ci k q (fun v => C cs ss (pc + 3) l (v :: st') h) else bad
    | [fk], .ref q :: st' => (match zof q fk with
      | some v => C cs ss (pc + 3) l (v :: st') h
      | none => bad)
    | _, _ => bad)
  | .putfield _ => (match ex, st with
    | [ci, k, _, _], v :: .ref q :: st' => if q < 1000000 then zputf bad h ci k q v (fun h' => C cs ss (pc + 3) l st' h') else bad
    | _, _ => bad)
  | .getstatic _ => (match ex with
    | [sk, _] => C cs ss (pc + 3) l (zst sk :: st) h
    | _ => bad)
  | .iaload => (match st with
    | .int j :: .ref q :: st' => (match h.1[q]? with
      | some (1, n) => if j < 0 ∨ n ≤ j.toNatClampNeg then bad else C cs ss (pc + 1) l (.int (h.2.1 q j.toNatClampNeg) :: st') h
      | _ => bad)
    | _ => bad)
  | .laload => (match st with
    | .int j :: .ref q :: st' => (match h.1[q]? with
      | some (4, n) => if j < 0 ∨ n ≤ j.toNatClampNeg then bad else C cs ss (pc + 1) l (.long (h.2.2.1 q j.toNatClampNeg) :: st') h
      | _ => bad)
    | _ => bad)
  | .baload => (match st with
    | .int j :: .ref q :: st' => if q < 1000000 then (match h.1[q]? with
      | some (2, n) => if j < 0 ∨ n ≤ j.toNatClampNeg then bad else C cs ss (pc + 1) l (.int (h.2.1 q j.toNatClampNeg) :: st') h
      | some (3, n) => if j < 0 ∨ n ≤ j.toNatClampNeg then bad else C cs ss (pc + 1) l (.int (h.2.1 q j.toNatClampNeg) :: st') h
      | _ => bad) else if q = 1000001 then (if j < 0 ∨ 126 ≤ j.toNatClampNeg then bad else C cs ss (pc + 1) l (.int (zwords.getD j.toNatClampNeg 0) :: st') h) else bad
    | _ => bad)
  | .iastore => (match st with
    | .int x :: .int j :: .ref q :: st' => (match h.1[q]? with
      | some (1, n) => if j < 0 ∨ n ≤ j.toNatClampNeg then bad else C cs ss (pc + 1) l st' (zsI h q j.toNatClampNeg x)
      | _ => bad)
    | _ => bad)
  | .lastore => (match st with
    | .long x :: .int j :: .ref q :: st' => (match h.1[q]? with
      | some (4, n) => if j < 0 ∨ n ≤ j.toNatClampNeg then bad else C cs ss (pc + 1) l st' (zsL h q j.toNatClampNeg x)
      | _ => bad)
    | _ => bad)
  | .bastore => (match st with
    | .int x :: .int j :: .ref q :: st' => (match h.1[q]? with
      | some (2, n) => if j < 0 ∨ n ≤ j.toNatClampNeg then bad else C cs ss (pc + 1) l st' (zsI h q j.toNatClampNeg x.toInt8.toInt32)
      | some (3, n) => if j < 0 ∨ n ≤ j.toNatClampNeg then bad else C cs ss (pc + 1) l st' (zsI h q j.toNatClampNeg (x &&& 1))
      | _ => bad)
    | _ => bad)
  | .arraylength => (match st with
    | .ref q :: st' => if q < 1000000 then (match h.1[q]? with
      | some (0, _) => bad
      | some (1, n) => C cs ss (pc + 1) l (.int (Int32.ofNat n) :: st') h
      | some (2, n) => C cs ss (pc + 1) l (.int (Int32.ofNat n) :: st') h
      | some (3, n) => C cs ss (pc + 1) l (.int (Int32.ofNat n) :: st') h
      | some (4, n) => C cs ss (pc + 1) l (.int (Int32.ofNat n) :: st') h
      | _ => bad) else if q = 1000001 then C cs ss (pc + 1) l (.int 126 :: st') h else bad
    | _ => bad)
  | .new _ => (match ex with
    | [ci, n, _, _, _] => if al = true ∧ h.1.length < 1000000 ∧ cs + 1 ≤ M.2.2.2.2.1 ∧ ss + n ≤ M.2.2.2.2.2.1 then C (cs + 1) (ss + n) (pc + 3) l (.ref h.1.length :: st) (znew h (0, ci)) else bad
    | _ => bad)
  | .newarray _ => (match ex, st with
    | [t, _], .int n :: st' => if al = true ∧ ¬ n < 0 ∧ n.toNatClampNeg ≤ 100000 ∧ h.1.length < 1000000 ∧ cs + 1 ≤ M.2.2.2.2.1 ∧ ss + n.toNatClampNeg ≤ M.2.2.2.2.2.1 then C (cs + 1) (ss + n.toNatClampNeg) (pc + 2) l (.ref h.1.length :: st') (znew h (t, n.toNatClampNeg)) else bad
    | _, _ => bad)
  | .invokevirtual _ => (match ex with
    | [mi, n, ci, _, _, _, _, _, _] => (match st.drop n with
      | .ref q :: rest => if zwd rest ≤ 8 ∧ (st.take n).length = n ∧ cs + (mcs mi).1 ≤ M.2.2.2.2.1 ∧ ss + (mcs mi).2 ≤ M.2.2.2.2.2.1 then (match h.1[q]? with
        | some (0, c') => if c' = ci ∧ q < 1000000 then G mi (.ref q :: (st.take n).reverse) h (fun r h' => C (cs + (mcs mi).1) (ss + (mcs mi).2) (pc + 3) l (r.toList ++ rest) h') else bad
        | _ => if q = 1000000 ∧ ci = 999 then G mi (.ref q :: (st.take n).reverse) h (fun r h' => C (cs + (mcs mi).1) (ss + (mcs mi).2) (pc + 3) l (r.toList ++ rest) h') else bad) else bad
      | _ => bad)
    | _ => bad)
  | .invokespecial _ => (match ex with
    | [mi, n, _, _, _, _, _] => (match st.drop n with
      | .ref q :: rest => if zwd rest ≤ 8 ∧ (st.take n).length = n ∧ q < 1000000 ∧ cs + (mcs mi).1 ≤ M.2.2.2.2.1 ∧ ss + (mcs mi).2 ≤ M.2.2.2.2.2.1 then G mi (.ref q :: (st.take n).reverse) h (fun r h' => C (cs + (mcs mi).1) (ss + (mcs mi).2) (pc + 3) l (r.toList ++ rest) h') else bad
      | _ => bad)
    | [_, _, _] => (match st with
      | .ref q :: rest => if zwd rest ≤ 8 ∧ q < 1000000 then C cs ss (pc + 3) l rest h else bad
      | _ => bad)
    | _ => bad)
  | .invokestatic _ => (match ex with
    | [mi, n, _, _, _, _, _] => if zwd (st.drop n) ≤ 8 ∧ (st.take n).length = n ∧ cs + (mcs mi).1 ≤ M.2.2.2.2.1 ∧ ss + (mcs mi).2 ≤ M.2.2.2.2.2.1 then G mi (st.take n).reverse h (fun r h' => C (cs + (mcs mi).1) (ss + (mcs mi).2) (pc + 3) l (r.toList ++ st.drop n) h') else bad
    | [_, _, _, _] => (match st with
      | .int n :: .int dp :: .ref q1 :: .int sp :: .ref q0 :: rest => (match h.1[q0]?, h.1[q1]? with
        | some (1, n0), some (1, n1) => if zwd rest ≤ 8 ∧ ¬ sp < 0 ∧ ¬ dp < 0 ∧ ¬ n < 0 ∧ sp.toNatClampNeg + n.toNatClampNeg ≤ n0 ∧ dp.toNatClampNeg + n.toNatClampNeg ≤ n1 ∧ q0 < 1000000 ∧ q1 < 1000000 then C cs ss (pc + 3) l rest (zcp h q0 q1 sp.toNatClampNeg dp.toNatClampNeg n.toNatClampNeg) else bad
        | _, _ => bad)
      | _ => bad)
    | _ => bad)
  | .ireturn => (match st with
    | [.int v] => (match M.2.2.2.1 with
      | some .int => K (some (.int v)) h
      | some ty => if narrow ty (.int v) = .int v then K (some (.int v)) h else bad
      | none => bad)
    | _ => bad)
  | .lreturn => (match st with
    | [.long v] => if M.2.2.2.1 = some .long then K (some (.long v)) h else bad
    | _ => bad)
  | .return_ => (match st with
    | [] => if M.2.2.2.1 = none then K none h else bad
    | _ => bad)
  | _ => bad
def zstep (M : zM) (al : Bool) (G : Nat → List Value → zH → (Option Value → zH → ρ) → ρ) (mcs : Nat → Nat × Nat) (K : Option Value → zH → ρ) (C : Nat → Nat → Nat → zL → List Value → zH → ρ) (cs ss pc : Nat) (l : zL) (st : List Value) (h : zH) : ρ :=
  if (M.2.2.2.2.2.2.get pc).1 = pc then zins bad M al G mcs K C cs ss pc l st h (M.2.2.2.2.2.2.get pc).2.2.2 (M.2.2.2.2.2.2.get pc).2.1 else bad
end ZX
end

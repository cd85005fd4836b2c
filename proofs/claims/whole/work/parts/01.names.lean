-- ===== PART A: goes FIRST, ahead of the names: the tables' words, and 'selects' of the private methods out of them =====
/-- a private method of a class that the tables say can be made, by its rows of tables_1 -/
def lw_okq (q : MethodName × Nat) : Prop := (q.1.cls ≠ "java/lang/invoke/MethodHandle" ∧ q.1.cls ≠ "java/lang/invoke/VarHandle") ∧ Cond.instantiable q.1.cls q.2 ∈ tables_1 ∧ Cond.privateMethod q.1 ∈ tables_1 ∧ Cond.instanceMethod q.1 ∈ tables_1
theorem lw_p0 : lw_okq (⟨"PetalPictures", "shelfAt", "(I)LPetalPictures$Shelf;"⟩, 10) := ⟨⟨by decide +kernel, by decide +kernel⟩, List.mem_of_getElem? (i := 18) (by decide +kernel), List.mem_of_getElem? (i := 198) (by decide +kernel), List.mem_of_getElem? (i := 199) (by decide +kernel)⟩
theorem lw_p1 : lw_okq (⟨"PetalPictures", "refuse", "(I)I"⟩, 10) := ⟨⟨by decide +kernel, by decide +kernel⟩, List.mem_of_getElem? (i := 18) (by decide +kernel), List.mem_of_getElem? (i := 202) (by decide +kernel), List.mem_of_getElem? (i := 203) (by decide +kernel)⟩
theorem lw_p2 : lw_okq (⟨"PetalPictures$Shelf", "cut", "(J)J"⟩, 5) := ⟨⟨by decide +kernel, by decide +kernel⟩, List.mem_of_getElem? (i := 140) (by decide +kernel), List.mem_of_getElem? (i := 244) (by decide +kernel), List.mem_of_getElem? (i := 245) (by decide +kernel)⟩
theorem lw_p3 : lw_okq (⟨"PetalPictures", "saidAs", "(II)I"⟩, 10) := ⟨⟨by decide +kernel, by decide +kernel⟩, List.mem_of_getElem? (i := 18) (by decide +kernel), List.mem_of_getElem? (i := 324) (by decide +kernel), List.mem_of_getElem? (i := 325) (by decide +kernel)⟩
theorem lw_p4 : lw_okq (⟨"PetalPictures$Village", "takeLetters", "(LPetalPictures$Shelf;)V"⟩, 4) := ⟨⟨by decide +kernel, by decide +kernel⟩, List.mem_of_getElem? (i := 84) (by decide +kernel), List.mem_of_getElem? (i := 432) (by decide +kernel), List.mem_of_getElem? (i := 433) (by decide +kernel)⟩
theorem lw_p5 : lw_okq (⟨"PetalPictures$Village", "readItem", "(LPetalPictures$Board;)V"⟩, 4) := ⟨⟨by decide +kernel, by decide +kernel⟩, List.mem_of_getElem? (i := 84) (by decide +kernel), List.mem_of_getElem? (i := 446) (by decide +kernel), List.mem_of_getElem? (i := 447) (by decide +kernel)⟩
theorem lw_p6 : lw_okq (⟨"PetalPictures$Village", "readWord", "()I"⟩, 4) := ⟨⟨by decide +kernel, by decide +kernel⟩, List.mem_of_getElem? (i := 84) (by decide +kernel), List.mem_of_getElem? (i := 450) (by decide +kernel), List.mem_of_getElem? (i := 451) (by decide +kernel)⟩
theorem lw_p7 : lw_okq (⟨"PetalPictures$Village", "lettersAlike", "(Ljava/lang/String;)I"⟩, 4) := ⟨⟨by decide +kernel, by decide +kernel⟩, List.mem_of_getElem? (i := 84) (by decide +kernel), List.mem_of_getElem? (i := 464) (by decide +kernel), List.mem_of_getElem? (i := 465) (by decide +kernel)⟩
theorem lw_p8 : lw_okq (⟨"PetalPictures$Village", "letterAt", "(I)I"⟩, 4) := ⟨⟨by decide +kernel, by decide +kernel⟩, List.mem_of_getElem? (i := 84) (by decide +kernel), List.mem_of_getElem? (i := 478) (by decide +kernel), List.mem_of_getElem? (i := 479) (by decide +kernel)⟩
theorem lw_p9 : lw_okq (⟨"PetalPictures$Village", "fail", "(I)V"⟩, 4) := ⟨⟨by decide +kernel, by decide +kernel⟩, List.mem_of_getElem? (i := 84) (by decide +kernel), List.mem_of_getElem? (i := 521) (by decide +kernel), List.mem_of_getElem? (i := 522) (by decide +kernel)⟩
theorem lw_p10 : lw_okq (⟨"PetalPictures$Village", "readStuff", "(LPetalPictures$Board;I)V"⟩, 4) := ⟨⟨by decide +kernel, by decide +kernel⟩, List.mem_of_getElem? (i := 84) (by decide +kernel), List.mem_of_getElem? (i := 525) (by decide +kernel), List.mem_of_getElem? (i := 526) (by decide +kernel)⟩
theorem lw_p11 : lw_okq (⟨"PetalPictures$Village", "readNumber", "(II)I"⟩, 4) := ⟨⟨by decide +kernel, by decide +kernel⟩, List.mem_of_getElem? (i := 84) (by decide +kernel), List.mem_of_getElem? (i := 530) (by decide +kernel), List.mem_of_getElem? (i := 531) (by decide +kernel)⟩
theorem lw_p12 : lw_okq (⟨"PetalPictures$Village", "readSign", "(C)V"⟩, 4) := ⟨⟨by decide +kernel, by decide +kernel⟩, List.mem_of_getElem? (i := 84) (by decide +kernel), List.mem_of_getElem? (i := 534) (by decide +kernel), List.mem_of_getElem? (i := 535) (by decide +kernel)⟩
theorem lw_p13 : lw_okq (⟨"PetalPictures$Village", "isDigit", "(I)Z"⟩, 4) := ⟨⟨by decide +kernel, by decide +kernel⟩, List.mem_of_getElem? (i := 84) (by decide +kernel), List.mem_of_getElem? (i := 538) (by decide +kernel), List.mem_of_getElem? (i := 539) (by decide +kernel)⟩
theorem lw_p14 : lw_okq (⟨"PetalPictures$Village", "readCell", "(LPetalPictures$Board;)V"⟩, 4) := ⟨⟨by decide +kernel, by decide +kernel⟩, List.mem_of_getElem? (i := 84) (by decide +kernel), List.mem_of_getElem? (i := 543) (by decide +kernel), List.mem_of_getElem? (i := 544) (by decide +kernel)⟩
theorem lw_p15 : lw_okq (⟨"PetalPictures$Village", "readPlan", "(LPetalPictures$Board;)V"⟩, 4) := ⟨⟨by decide +kernel, by decide +kernel⟩, List.mem_of_getElem? (i := 84) (by decide +kernel), List.mem_of_getElem? (i := 548) (by decide +kernel), List.mem_of_getElem? (i := 549) (by decide +kernel)⟩
def lw_privs_1 : List (MethodName × Nat) := [(⟨"PetalPictures", "shelfAt", "(I)LPetalPictures$Shelf;"⟩, 10), (⟨"PetalPictures", "refuse", "(I)I"⟩, 10), (⟨"PetalPictures$Shelf", "cut", "(J)J"⟩, 5), (⟨"PetalPictures", "saidAs", "(II)I"⟩, 10), (⟨"PetalPictures$Village", "takeLetters", "(LPetalPictures$Shelf;)V"⟩, 4), (⟨"PetalPictures$Village", "readItem", "(LPetalPictures$Board;)V"⟩, 4), (⟨"PetalPictures$Village", "readWord", "()I"⟩, 4), (⟨"PetalPictures$Village", "lettersAlike", "(Ljava/lang/String;)I"⟩, 4), (⟨"PetalPictures$Village", "letterAt", "(I)I"⟩, 4), (⟨"PetalPictures$Village", "fail", "(I)V"⟩, 4), (⟨"PetalPictures$Village", "readStuff", "(LPetalPictures$Board;I)V"⟩, 4), (⟨"PetalPictures$Village", "readNumber", "(II)I"⟩, 4), (⟨"PetalPictures$Village", "readSign", "(C)V"⟩, 4), (⟨"PetalPictures$Village", "isDigit", "(I)Z"⟩, 4), (⟨"PetalPictures$Village", "readCell", "(LPetalPictures$Board;)V"⟩, 4), (⟨"PetalPictures$Village", "readPlan", "(LPetalPictures$Board;)V"⟩, 4)]
theorem lw_r1 : ∀ q ∈ lw_privs_1, lw_okq q := List.forall_mem_cons.mpr ⟨lw_p0, List.forall_mem_cons.mpr ⟨lw_p1, List.forall_mem_cons.mpr ⟨lw_p2, List.forall_mem_cons.mpr ⟨lw_p3, List.forall_mem_cons.mpr ⟨lw_p4, List.forall_mem_cons.mpr ⟨lw_p5, List.forall_mem_cons.mpr ⟨lw_p6, List.forall_mem_cons.mpr ⟨lw_p7, List.forall_mem_cons.mpr ⟨lw_p8, List.forall_mem_cons.mpr ⟨lw_p9, List.forall_mem_cons.mpr ⟨lw_p10, List.forall_mem_cons.mpr ⟨lw_p11, List.forall_mem_cons.mpr ⟨lw_p12, List.forall_mem_cons.mpr ⟨lw_p13, List.forall_mem_cons.mpr ⟨lw_p14, List.forall_mem_cons.mpr ⟨lw_p15, fun _ h => absurd h List.not_mem_nil⟩⟩⟩⟩⟩⟩⟩⟩⟩⟩⟩⟩⟩⟩⟩⟩
theorem lw_p16 : lw_okq (⟨"PetalPictures$Village", "readLaying", "(LPetalPictures$Board;)V"⟩, 4) := ⟨⟨by decide +kernel, by decide +kernel⟩, List.mem_of_getElem? (i := 84) (by decide +kernel), List.mem_of_getElem? (i := 557) (by decide +kernel), List.mem_of_getElem? (i := 558) (by decide +kernel)⟩
theorem lw_p17 : lw_okq (⟨"PetalPictures$Board", "takeOver", "(II)V"⟩, 15) := ⟨⟨by decide +kernel, by decide +kernel⟩, List.mem_of_getElem? (i := 28) (by decide +kernel), List.mem_of_getElem? (i := 571) (by decide +kernel), List.mem_of_getElem? (i := 572) (by decide +kernel)⟩
theorem lw_p18 : lw_okq (⟨"PetalPictures$Village", "readSide", "(LPetalPictures$Board;)V"⟩, 4) := ⟨⟨by decide +kernel, by decide +kernel⟩, List.mem_of_getElem? (i := 84) (by decide +kernel), List.mem_of_getElem? (i := 575) (by decide +kernel), List.mem_of_getElem? (i := 576) (by decide +kernel)⟩
theorem lw_p19 : lw_okq (⟨"PetalPictures$Village", "readHours", "(LPetalPictures$Board;)V"⟩, 4) := ⟨⟨by decide +kernel, by decide +kernel⟩, List.mem_of_getElem? (i := 84) (by decide +kernel), List.mem_of_getElem? (i := 591) (by decide +kernel), List.mem_of_getElem? (i := 592) (by decide +kernel)⟩
theorem lw_p20 : lw_okq (⟨"PetalPictures$Board", "dryForAnHour", "()V"⟩, 15) := ⟨⟨by decide +kernel, by decide +kernel⟩, List.mem_of_getElem? (i := 28) (by decide +kernel), List.mem_of_getElem? (i := 602) (by decide +kernel), List.mem_of_getElem? (i := 603) (by decide +kernel)⟩
theorem lw_p21 : lw_okq (⟨"PetalPictures$Work", "begin", "(LPetalPictures$Board;)V"⟩, 3) := ⟨⟨by decide +kernel, by decide +kernel⟩, List.mem_of_getElem? (i := 103) (by decide +kernel), List.mem_of_getElem? (i := 763) (by decide +kernel), List.mem_of_getElem? (i := 764) (by decide +kernel)⟩
theorem lw_p22 : lw_okq (⟨"PetalPictures$Work", "finish", "(I)I"⟩, 3) := ⟨⟨by decide +kernel, by decide +kernel⟩, List.mem_of_getElem? (i := 103) (by decide +kernel), List.mem_of_getElem? (i := 776) (by decide +kernel), List.mem_of_getElem? (i := 777) (by decide +kernel)⟩
theorem lw_p23 : lw_okq (⟨"PetalPictures$Work", "takeCells", "(LPetalPictures$Board;II)I"⟩, 3) := ⟨⟨by decide +kernel, by decide +kernel⟩, List.mem_of_getElem? (i := 103) (by decide +kernel), List.mem_of_getElem? (i := 780) (by decide +kernel), List.mem_of_getElem? (i := 781) (by decide +kernel)⟩
theorem lw_p24 : lw_okq (⟨"PetalPictures$Work", "fullestIdleColumn", "()I"⟩, 3) := ⟨⟨by decide +kernel, by decide +kernel⟩, List.mem_of_getElem? (i := 103) (by decide +kernel), List.mem_of_getElem? (i := 784) (by decide +kernel), List.mem_of_getElem? (i := 785) (by decide +kernel)⟩
theorem lw_p25 : lw_okq (⟨"PetalPictures$Work", "takeNextOf", "(LPetalPictures$Board;II)V"⟩, 3) := ⟨⟨by decide +kernel, by decide +kernel⟩, List.mem_of_getElem? (i := 103) (by decide +kernel), List.mem_of_getElem? (i := 788) (by decide +kernel), List.mem_of_getElem? (i := 789) (by decide +kernel)⟩
theorem lw_p26 : lw_okq (⟨"PetalPictures$Board", "drawBelow", "(I)I"⟩, 15) := ⟨⟨by decide +kernel, by decide +kernel⟩, List.mem_of_getElem? (i := 28) (by decide +kernel), List.mem_of_getElem? (i := 866) (by decide +kernel), List.mem_of_getElem? (i := 867) (by decide +kernel)⟩
theorem lw_p27 : lw_okq (⟨"PetalPictures$Acts", "noteBegun", "(I)V"⟩, 5) := ⟨⟨by decide +kernel, by decide +kernel⟩, List.mem_of_getElem? (i := 119) (by decide +kernel), List.mem_of_getElem? (i := 914) (by decide +kernel), List.mem_of_getElem? (i := 915) (by decide +kernel)⟩
theorem lw_p28 : lw_okq (⟨"PetalPictures", "refusalsOf", "(I)I"⟩, 10) := ⟨⟨by decide +kernel, by decide +kernel⟩, List.mem_of_getElem? (i := 18) (by decide +kernel), List.mem_of_getElem? (i := 947) (by decide +kernel), List.mem_of_getElem? (i := 948) (by decide +kernel)⟩
theorem lw_p29 : lw_okq (⟨"PetalPicturesModel", "isShelf", "(I)Z"⟩, 39) := ⟨⟨by decide +kernel, by decide +kernel⟩, List.mem_of_getElem? (i := 951) (by decide +kernel), List.mem_of_getElem? (i := 1079) (by decide +kernel), List.mem_of_getElem? (i := 1080) (by decide +kernel)⟩
theorem lw_p30 : lw_okq (⟨"PetalPicturesModel", "no", "(I)I"⟩, 39) := ⟨⟨by decide +kernel, by decide +kernel⟩, List.mem_of_getElem? (i := 951) (by decide +kernel), List.mem_of_getElem? (i := 1083) (by decide +kernel), List.mem_of_getElem? (i := 1084) (by decide +kernel)⟩
theorem lw_p31 : lw_okq (⟨"PetalPicturesModel", "isStuff", "(I)Z"⟩, 39) := ⟨⟨by decide +kernel, by decide +kernel⟩, List.mem_of_getElem? (i := 951) (by decide +kernel), List.mem_of_getElem? (i := 1103) (by decide +kernel), List.mem_of_getElem? (i := 1104) (by decide +kernel)⟩
def lw_privs_2 : List (MethodName × Nat) := [(⟨"PetalPictures$Village", "readLaying", "(LPetalPictures$Board;)V"⟩, 4), (⟨"PetalPictures$Board", "takeOver", "(II)V"⟩, 15), (⟨"PetalPictures$Village", "readSide", "(LPetalPictures$Board;)V"⟩, 4), (⟨"PetalPictures$Village", "readHours", "(LPetalPictures$Board;)V"⟩, 4), (⟨"PetalPictures$Board", "dryForAnHour", "()V"⟩, 15), (⟨"PetalPictures$Work", "begin", "(LPetalPictures$Board;)V"⟩, 3), (⟨"PetalPictures$Work", "finish", "(I)I"⟩, 3), (⟨"PetalPictures$Work", "takeCells", "(LPetalPictures$Board;II)I"⟩, 3), (⟨"PetalPictures$Work", "fullestIdleColumn", "()I"⟩, 3), (⟨"PetalPictures$Work", "takeNextOf", "(LPetalPictures$Board;II)V"⟩, 3), (⟨"PetalPictures$Board", "drawBelow", "(I)I"⟩, 15), (⟨"PetalPictures$Acts", "noteBegun", "(I)V"⟩, 5), (⟨"PetalPictures", "refusalsOf", "(I)I"⟩, 10), (⟨"PetalPicturesModel", "isShelf", "(I)Z"⟩, 39), (⟨"PetalPicturesModel", "no", "(I)I"⟩, 39), (⟨"PetalPicturesModel", "isStuff", "(I)Z"⟩, 39)]
theorem lw_r2 : ∀ q ∈ lw_privs_2, lw_okq q := List.forall_mem_cons.mpr ⟨lw_p16, List.forall_mem_cons.mpr ⟨lw_p17, List.forall_mem_cons.mpr ⟨lw_p18, List.forall_mem_cons.mpr ⟨lw_p19, List.forall_mem_cons.mpr ⟨lw_p20, List.forall_mem_cons.mpr ⟨lw_p21, List.forall_mem_cons.mpr ⟨lw_p22, List.forall_mem_cons.mpr ⟨lw_p23, List.forall_mem_cons.mpr ⟨lw_p24, List.forall_mem_cons.mpr ⟨lw_p25, List.forall_mem_cons.mpr ⟨lw_p26, List.forall_mem_cons.mpr ⟨lw_p27, List.forall_mem_cons.mpr ⟨lw_p28, List.forall_mem_cons.mpr ⟨lw_p29, List.forall_mem_cons.mpr ⟨lw_p30, List.forall_mem_cons.mpr ⟨lw_p31, fun _ h => absurd h List.not_mem_nil⟩⟩⟩⟩⟩⟩⟩⟩⟩⟩⟩⟩⟩⟩⟩⟩
theorem lw_p32 : lw_okq (⟨"PetalPicturesModel", "count", "([II)I"⟩, 39) := ⟨⟨by decide +kernel, by decide +kernel⟩, List.mem_of_getElem? (i := 951) (by decide +kernel), List.mem_of_getElem? (i := 1115) (by decide +kernel), List.mem_of_getElem? (i := 1116) (by decide +kernel)⟩
theorem lw_p33 : lw_okq (⟨"PetalPicturesModel", "freshOf", "(IIII)I"⟩, 39) := ⟨⟨by decide +kernel, by decide +kernel⟩, List.mem_of_getElem? (i := 951) (by decide +kernel), List.mem_of_getElem? (i := 1119) (by decide +kernel), List.mem_of_getElem? (i := 1120) (by decide +kernel)⟩
theorem lw_p34 : lw_okq (⟨"PetalPicturesModel", "brownOf", "(IIII)I"⟩, 39) := ⟨⟨by decide +kernel, by decide +kernel⟩, List.mem_of_getElem? (i := 951) (by decide +kernel), List.mem_of_getElem? (i := 1123) (by decide +kernel), List.mem_of_getElem? (i := 1124) (by decide +kernel)⟩
theorem lw_p35 : lw_okq (⟨"PetalPicturesModel", "adds", "(III)I"⟩, 39) := ⟨⟨by decide +kernel, by decide +kernel⟩, List.mem_of_getElem? (i := 951) (by decide +kernel), List.mem_of_getElem? (i := 1131) (by decide +kernel), List.mem_of_getElem? (i := 1132) (by decide +kernel)⟩
theorem lw_p36 : lw_okq (⟨"PetalPicturesModel", "isCell", "(I)Z"⟩, 39) := ⟨⟨by decide +kernel, by decide +kernel⟩, List.mem_of_getElem? (i := 951) (by decide +kernel), List.mem_of_getElem? (i := 1143) (by decide +kernel), List.mem_of_getElem? (i := 1144) (by decide +kernel)⟩
theorem lw_p37 : lw_okq (⟨"PetalPicturesModel", "noTen", "(I)I"⟩, 39) := ⟨⟨by decide +kernel, by decide +kernel⟩, List.mem_of_getElem? (i := 951) (by decide +kernel), List.mem_of_getElem? (i := 1151) (by decide +kernel), List.mem_of_getElem? (i := 1152) (by decide +kernel)⟩
theorem lw_p38 : lw_okq (⟨"PetalPicturesModel", "mayLay", "(I)Z"⟩, 39) := ⟨⟨by decide +kernel, by decide +kernel⟩, List.mem_of_getElem? (i := 951) (by decide +kernel), List.mem_of_getElem? (i := 1163) (by decide +kernel), List.mem_of_getElem? (i := 1164) (by decide +kernel)⟩
theorem lw_p39 : lw_okq (⟨"PetalPicturesModel", "puts", "(II)V"⟩, 39) := ⟨⟨by decide +kernel, by decide +kernel⟩, List.mem_of_getElem? (i := 951) (by decide +kernel), List.mem_of_getElem? (i := 1171) (by decide +kernel), List.mem_of_getElem? (i := 1172) (by decide +kernel)⟩
theorem lw_p40 : lw_okq (⟨"PetalPicturesModel", "laidMany", "()I"⟩, 39) := ⟨⟨by decide +kernel, by decide +kernel⟩, List.mem_of_getElem? (i := 951) (by decide +kernel), List.mem_of_getElem? (i := 1175) (by decide +kernel), List.mem_of_getElem? (i := 1176) (by decide +kernel)⟩
theorem lw_p41 : lw_okq (⟨"PetalPicturesModel", "goes", "(I)V"⟩, 39) := ⟨⟨by decide +kernel, by decide +kernel⟩, List.mem_of_getElem? (i := 951) (by decide +kernel), List.mem_of_getElem? (i := 1195) (by decide +kernel), List.mem_of_getElem? (i := 1196) (by decide +kernel)⟩
theorem lw_p42 : lw_okq (⟨"PetalPicturesModel", "inSun", "(I)Z"⟩, 39) := ⟨⟨by decide +kernel, by decide +kernel⟩, List.mem_of_getElem? (i := 951) (by decide +kernel), List.mem_of_getElem? (i := 1199) (by decide +kernel), List.mem_of_getElem? (i := 1200) (by decide +kernel)⟩
theorem lw_p43 : lw_okq (⟨"PetalPicturesModel", "dries", "(I)I"⟩, 39) := ⟨⟨by decide +kernel, by decide +kernel⟩, List.mem_of_getElem? (i := 951) (by decide +kernel), List.mem_of_getElem? (i := 1203) (by decide +kernel), List.mem_of_getElem? (i := 1204) (by decide +kernel)⟩
theorem lw_p44 : lw_okq (⟨"PetalPicturesModel", "wanted", "(I)I"⟩, 39) := ⟨⟨by decide +kernel, by decide +kernel⟩, List.mem_of_getElem? (i := 951) (by decide +kernel), List.mem_of_getElem? (i := 1211) (by decide +kernel), List.mem_of_getElem? (i := 1212) (by decide +kernel)⟩
theorem lw_p45 : lw_okq (⟨"PetalPicturesModel", "whole", "([IZ)V"⟩, 39) := ⟨⟨by decide +kernel, by decide +kernel⟩, List.mem_of_getElem? (i := 951) (by decide +kernel), List.mem_of_getElem? (i := 1215) (by decide +kernel), List.mem_of_getElem? (i := 1216) (by decide +kernel)⟩
theorem lw_p46 : lw_okq (⟨"PetalPicturesModel", "carries", "([II[IIZ)I"⟩, 39) := ⟨⟨by decide +kernel, by decide +kernel⟩, List.mem_of_getElem? (i := 951) (by decide +kernel), List.mem_of_getElem? (i := 1219) (by decide +kernel), List.mem_of_getElem? (i := 1220) (by decide +kernel)⟩
theorem lw_p47 : lw_okq (⟨"PetalPicturesModel", "item", "()Z"⟩, 39) := ⟨⟨by decide +kernel, by decide +kernel⟩, List.mem_of_getElem? (i := 951) (by decide +kernel), List.mem_of_getElem? (i := 1223) (by decide +kernel), List.mem_of_getElem? (i := 1224) (by decide +kernel)⟩
def lw_privs_3 : List (MethodName × Nat) := [(⟨"PetalPicturesModel", "count", "([II)I"⟩, 39), (⟨"PetalPicturesModel", "freshOf", "(IIII)I"⟩, 39), (⟨"PetalPicturesModel", "brownOf", "(IIII)I"⟩, 39), (⟨"PetalPicturesModel", "adds", "(III)I"⟩, 39), (⟨"PetalPicturesModel", "isCell", "(I)Z"⟩, 39), (⟨"PetalPicturesModel", "noTen", "(I)I"⟩, 39), (⟨"PetalPicturesModel", "mayLay", "(I)Z"⟩, 39), (⟨"PetalPicturesModel", "puts", "(II)V"⟩, 39), (⟨"PetalPicturesModel", "laidMany", "()I"⟩, 39), (⟨"PetalPicturesModel", "goes", "(I)V"⟩, 39), (⟨"PetalPicturesModel", "inSun", "(I)Z"⟩, 39), (⟨"PetalPicturesModel", "dries", "(I)I"⟩, 39), (⟨"PetalPicturesModel", "wanted", "(I)I"⟩, 39), (⟨"PetalPicturesModel", "whole", "([IZ)V"⟩, 39), (⟨"PetalPicturesModel", "carries", "([II[IIZ)I"⟩, 39), (⟨"PetalPicturesModel", "item", "()Z"⟩, 39)]
theorem lw_r3 : ∀ q ∈ lw_privs_3, lw_okq q := List.forall_mem_cons.mpr ⟨lw_p32, List.forall_mem_cons.mpr ⟨lw_p33, List.forall_mem_cons.mpr ⟨lw_p34, List.forall_mem_cons.mpr ⟨lw_p35, List.forall_mem_cons.mpr ⟨lw_p36, List.forall_mem_cons.mpr ⟨lw_p37, List.forall_mem_cons.mpr ⟨lw_p38, List.forall_mem_cons.mpr ⟨lw_p39, List.forall_mem_cons.mpr ⟨lw_p40, List.forall_mem_cons.mpr ⟨lw_p41, List.forall_mem_cons.mpr ⟨lw_p42, List.forall_mem_cons.mpr ⟨lw_p43, List.forall_mem_cons.mpr ⟨lw_p44, List.forall_mem_cons.mpr ⟨lw_p45, List.forall_mem_cons.mpr ⟨lw_p46, List.forall_mem_cons.mpr ⟨lw_p47, fun _ h => absurd h List.not_mem_nil⟩⟩⟩⟩⟩⟩⟩⟩⟩⟩⟩⟩⟩⟩⟩⟩
theorem lw_p48 : lw_okq (⟨"PetalPicturesModel", "isWordAt", "(I)Z"⟩, 39) := ⟨⟨by decide +kernel, by decide +kernel⟩, List.mem_of_getElem? (i := 951) (by decide +kernel), List.mem_of_getElem? (i := 1227) (by decide +kernel), List.mem_of_getElem? (i := 1228) (by decide +kernel)⟩
theorem lw_p49 : lw_okq (⟨"PetalPicturesModel", "faulty", "(I)Z"⟩, 39) := ⟨⟨by decide +kernel, by decide +kernel⟩, List.mem_of_getElem? (i := 951) (by decide +kernel), List.mem_of_getElem? (i := 1231) (by decide +kernel), List.mem_of_getElem? (i := 1232) (by decide +kernel)⟩
theorem lw_p50 : lw_okq (⟨"PetalPicturesModel", "word", "()I"⟩, 39) := ⟨⟨by decide +kernel, by decide +kernel⟩, List.mem_of_getElem? (i := 951) (by decide +kernel), List.mem_of_getElem? (i := 1235) (by decide +kernel), List.mem_of_getElem? (i := 1236) (by decide +kernel)⟩
theorem lw_p51 : lw_okq (⟨"PetalPicturesModel", "number", "()Z"⟩, 39) := ⟨⟨by decide +kernel, by decide +kernel⟩, List.mem_of_getElem? (i := 951) (by decide +kernel), List.mem_of_getElem? (i := 1239) (by decide +kernel), List.mem_of_getElem? (i := 1240) (by decide +kernel)⟩
theorem lw_p52 : lw_okq (⟨"PetalPicturesModel", "isDigit", "()Z"⟩, 39) := ⟨⟨by decide +kernel, by decide +kernel⟩, List.mem_of_getElem? (i := 951) (by decide +kernel), List.mem_of_getElem? (i := 1243) (by decide +kernel), List.mem_of_getElem? (i := 1244) (by decide +kernel)⟩
theorem lw_p53 : lw_okq (⟨"PetalPicturesModel", "isSo", "(II)Z"⟩, 39) := ⟨⟨by decide +kernel, by decide +kernel⟩, List.mem_of_getElem? (i := 951) (by decide +kernel), List.mem_of_getElem? (i := 1247) (by decide +kernel), List.mem_of_getElem? (i := 1248) (by decide +kernel)⟩
theorem lw_p54 : lw_okq (⟨"PetalPicturesModel", "isHour", "(I)Z"⟩, 39) := ⟨⟨by decide +kernel, by decide +kernel⟩, List.mem_of_getElem? (i := 951) (by decide +kernel), List.mem_of_getElem? (i := 1260) (by decide +kernel), List.mem_of_getElem? (i := 1261) (by decide +kernel)⟩
theorem lw_p55 : lw_okq (⟨"PetalPicturesModel", "freshAt", "(II)I"⟩, 39) := ⟨⟨by decide +kernel, by decide +kernel⟩, List.mem_of_getElem? (i := 951) (by decide +kernel), List.mem_of_getElem? (i := 1264) (by decide +kernel), List.mem_of_getElem? (i := 1265) (by decide +kernel)⟩
theorem lw_p56 : lw_okq (⟨"PetalPicturesModel", "beautyAt", "(II)I"⟩, 39) := ⟨⟨by decide +kernel, by decide +kernel⟩, List.mem_of_getElem? (i := 951) (by decide +kernel), List.mem_of_getElem? (i := 1272) (by decide +kernel), List.mem_of_getElem? (i := 1273) (by decide +kernel)⟩
theorem lw_p57 : lw_okq (⟨"PetalPicturesModel", "looksAt", "(I)I"⟩, 39) := ⟨⟨by decide +kernel, by decide +kernel⟩, List.mem_of_getElem? (i := 951) (by decide +kernel), List.mem_of_getElem? (i := 1280) (by decide +kernel), List.mem_of_getElem? (i := 1281) (by decide +kernel)⟩
theorem lw_p58 : lw_okq (⟨"PetalPicturesModel", "areHours", "(II)Z"⟩, 39) := ⟨⟨by decide +kernel, by decide +kernel⟩, List.mem_of_getElem? (i := 951) (by decide +kernel), List.mem_of_getElem? (i := 1288) (by decide +kernel), List.mem_of_getElem? (i := 1289) (by decide +kernel)⟩
theorem lw_p59 : lw_okq (⟨"PetalPicturesModel", "allOf", "(II)I"⟩, 39) := ⟨⟨by decide +kernel, by decide +kernel⟩, List.mem_of_getElem? (i := 951) (by decide +kernel), List.mem_of_getElem? (i := 1296) (by decide +kernel), List.mem_of_getElem? (i := 1297) (by decide +kernel)⟩
theorem lw_p60 : lw_okq (⟨"PetalPicturesModel", "isOpen", "(I)Z"⟩, 39) := ⟨⟨by decide +kernel, by decide +kernel⟩, List.mem_of_getElem? (i := 951) (by decide +kernel), List.mem_of_getElem? (i := 1312) (by decide +kernel), List.mem_of_getElem? (i := 1313) (by decide +kernel)⟩
theorem lw_p61 : lw_okq (⟨"PetalPicturesModel", "doneBy", "(I)I"⟩, 39) := ⟨⟨by decide +kernel, by decide +kernel⟩, List.mem_of_getElem? (i := 951) (by decide +kernel), List.mem_of_getElem? (i := 1320) (by decide +kernel), List.mem_of_getElem? (i := 1321) (by decide +kernel)⟩
theorem lw_p62 : lw_okq (⟨"PetalPicturesModel", "seeks", "(II)V"⟩, 39) := ⟨⟨by decide +kernel, by decide +kernel⟩, List.mem_of_getElem? (i := 951) (by decide +kernel), List.mem_of_getElem? (i := 1324) (by decide +kernel), List.mem_of_getElem? (i := 1325) (by decide +kernel)⟩
theorem lw_p63 : lw_okq (⟨"PetalPicturesModel", "takesAt", "(I)I"⟩, 39) := ⟨⟨by decide +kernel, by decide +kernel⟩, List.mem_of_getElem? (i := 951) (by decide +kernel), List.mem_of_getElem? (i := 1328) (by decide +kernel), List.mem_of_getElem? (i := 1329) (by decide +kernel)⟩
def lw_privs_4 : List (MethodName × Nat) := [(⟨"PetalPicturesModel", "isWordAt", "(I)Z"⟩, 39), (⟨"PetalPicturesModel", "faulty", "(I)Z"⟩, 39), (⟨"PetalPicturesModel", "word", "()I"⟩, 39), (⟨"PetalPicturesModel", "number", "()Z"⟩, 39), (⟨"PetalPicturesModel", "isDigit", "()Z"⟩, 39), (⟨"PetalPicturesModel", "isSo", "(II)Z"⟩, 39), (⟨"PetalPicturesModel", "isHour", "(I)Z"⟩, 39), (⟨"PetalPicturesModel", "freshAt", "(II)I"⟩, 39), (⟨"PetalPicturesModel", "beautyAt", "(II)I"⟩, 39), (⟨"PetalPicturesModel", "looksAt", "(I)I"⟩, 39), (⟨"PetalPicturesModel", "areHours", "(II)Z"⟩, 39), (⟨"PetalPicturesModel", "allOf", "(II)I"⟩, 39), (⟨"PetalPicturesModel", "isOpen", "(I)Z"⟩, 39), (⟨"PetalPicturesModel", "doneBy", "(I)I"⟩, 39), (⟨"PetalPicturesModel", "seeks", "(II)V"⟩, 39), (⟨"PetalPicturesModel", "takesAt", "(I)I"⟩, 39)]
theorem lw_r4 : ∀ q ∈ lw_privs_4, lw_okq q := List.forall_mem_cons.mpr ⟨lw_p48, List.forall_mem_cons.mpr ⟨lw_p49, List.forall_mem_cons.mpr ⟨lw_p50, List.forall_mem_cons.mpr ⟨lw_p51, List.forall_mem_cons.mpr ⟨lw_p52, List.forall_mem_cons.mpr ⟨lw_p53, List.forall_mem_cons.mpr ⟨lw_p54, List.forall_mem_cons.mpr ⟨lw_p55, List.forall_mem_cons.mpr ⟨lw_p56, List.forall_mem_cons.mpr ⟨lw_p57, List.forall_mem_cons.mpr ⟨lw_p58, List.forall_mem_cons.mpr ⟨lw_p59, List.forall_mem_cons.mpr ⟨lw_p60, List.forall_mem_cons.mpr ⟨lw_p61, List.forall_mem_cons.mpr ⟨lw_p62, List.forall_mem_cons.mpr ⟨lw_p63, fun _ h => absurd h List.not_mem_nil⟩⟩⟩⟩⟩⟩⟩⟩⟩⟩⟩⟩⟩⟩⟩⟩
theorem lw_p64 : lw_okq (⟨"PetalPicturesModel", "leftOf", "(I)I"⟩, 39) := ⟨⟨by decide +kernel, by decide +kernel⟩, List.mem_of_getElem? (i := 951) (by decide +kernel), List.mem_of_getElem? (i := 1332) (by decide +kernel), List.mem_of_getElem? (i := 1333) (by decide +kernel)⟩
theorem lw_p65 : lw_okq (⟨"PetalPicturesModel", "bars", "(II)I"⟩, 39) := ⟨⟨by decide +kernel, by decide +kernel⟩, List.mem_of_getElem? (i := 951) (by decide +kernel), List.mem_of_getElem? (i := 1356) (by decide +kernel), List.mem_of_getElem? (i := 1357) (by decide +kernel)⟩
theorem lw_p66 : lw_okq (⟨"PetalPicturesModel", "intAt", "(II)I"⟩, 39) := ⟨⟨by decide +kernel, by decide +kernel⟩, List.mem_of_getElem? (i := 951) (by decide +kernel), List.mem_of_getElem? (i := 1360) (by decide +kernel), List.mem_of_getElem? (i := 1361) (by decide +kernel)⟩
theorem lw_p67 : lw_okq (⟨"PetalPicturesModel", "draw", "(I)I"⟩, 39) := ⟨⟨by decide +kernel, by decide +kernel⟩, List.mem_of_getElem? (i := 951) (by decide +kernel), List.mem_of_getElem? (i := 1380) (by decide +kernel), List.mem_of_getElem? (i := 1381) (by decide +kernel)⟩
theorem lw_p68 : lw_okq (⟨"PetalPicturesModel", "laying", "(II)I"⟩, 39) := ⟨⟨by decide +kernel, by decide +kernel⟩, List.mem_of_getElem? (i := 951) (by decide +kernel), List.mem_of_getElem? (i := 1393) (by decide +kernel), List.mem_of_getElem? (i := 1394) (by decide +kernel)⟩
theorem lw_p69 : lw_okq (⟨"PetalPicturesModel", "body", "(I)V"⟩, 39) := ⟨⟨by decide +kernel, by decide +kernel⟩, List.mem_of_getElem? (i := 951) (by decide +kernel), List.mem_of_getElem? (i := 1397) (by decide +kernel), List.mem_of_getElem? (i := 1398) (by decide +kernel)⟩
theorem lw_p70 : lw_okq (⟨"PetalPicturesModel", "fading", "(II)I"⟩, 39) := ⟨⟨by decide +kernel, by decide +kernel⟩, List.mem_of_getElem? (i := 951) (by decide +kernel), List.mem_of_getElem? (i := 1401) (by decide +kernel), List.mem_of_getElem? (i := 1402) (by decide +kernel)⟩
theorem lw_p71 : lw_okq (⟨"PetalPicturesModel", "showing", "(II)I"⟩, 39) := ⟨⟨by decide +kernel, by decide +kernel⟩, List.mem_of_getElem? (i := 951) (by decide +kernel), List.mem_of_getElem? (i := 1405) (by decide +kernel), List.mem_of_getElem? (i := 1406) (by decide +kernel)⟩
def lw_privs_5 : List (MethodName × Nat) := [(⟨"PetalPicturesModel", "leftOf", "(I)I"⟩, 39), (⟨"PetalPicturesModel", "bars", "(II)I"⟩, 39), (⟨"PetalPicturesModel", "intAt", "(II)I"⟩, 39), (⟨"PetalPicturesModel", "draw", "(I)I"⟩, 39), (⟨"PetalPicturesModel", "laying", "(II)I"⟩, 39), (⟨"PetalPicturesModel", "body", "(I)V"⟩, 39), (⟨"PetalPicturesModel", "fading", "(II)I"⟩, 39), (⟨"PetalPicturesModel", "showing", "(II)I"⟩, 39)]
theorem lw_r5 : ∀ q ∈ lw_privs_5, lw_okq q := List.forall_mem_cons.mpr ⟨lw_p64, List.forall_mem_cons.mpr ⟨lw_p65, List.forall_mem_cons.mpr ⟨lw_p66, List.forall_mem_cons.mpr ⟨lw_p67, List.forall_mem_cons.mpr ⟨lw_p68, List.forall_mem_cons.mpr ⟨lw_p69, List.forall_mem_cons.mpr ⟨lw_p70, List.forall_mem_cons.mpr ⟨lw_p71, fun _ h => absurd h List.not_mem_nil⟩⟩⟩⟩⟩⟩⟩⟩
def lw_privs : List (MethodName × Nat) := lw_privs_1 ++ (lw_privs_2 ++ (lw_privs_3 ++ (lw_privs_4 ++ (lw_privs_5))))
def lw_tbl : List Cond := k2_sels lw_privs ++ tables_1
theorem lw_privs_ok : ∀ q ∈ lw_privs, lw_okq q := by
  show ∀ q ∈ lw_privs_1 ++ (lw_privs_2 ++ (lw_privs_3 ++ (lw_privs_4 ++ (lw_privs_5)))), lw_okq q
  exact List.forall_mem_append.mpr ⟨lw_r1, List.forall_mem_append.mpr ⟨lw_r2, List.forall_mem_append.mpr ⟨lw_r3, List.forall_mem_append.mpr ⟨lw_r4, lw_r5⟩⟩⟩⟩

/-! names, fields and their types: rows of the printed names -/
def RX0 : String := "PetalPictures$Acts"
def TX0 : u_T := fun k => match k with
  | 0 => ("PetalPictures$Acts", "kept", "[I", true)
  | 1 => ("PetalPictures$Acts", "ran", "I", false)
  | 2 => ("PetalPictures$Acts", "kind", "I", false)
  | 3 => ("PetalPictures$Acts", "m", "I", false)
  | _ => ("PetalPictures$Acts", "k", "I", false)
def tyX0 : Nat → FieldType := fun k => match k with
  | 0 => .array .int
  | 1 => .int
  | 2 => .int
  | 3 => .int
  | _ => .int
abbrev wsX00 : List Cond := u_ws RX0 TX0 5
theorem nmX0 : ∀ a, a < 5 → ∀ b, b < 5 → a ≠ b → (TX0 a).2.1 ≠ (TX0 b).2.1 := by decide +kernel
theorem tyX0_ok : ∀ k, k < 5 → parseFieldDescriptor (TX0 k).2.2.1 = some (tyX0 k) := by decide +kernel
abbrev cX0_init : ByteArray := prog_2_method_1_code
def yX0_init : MethodName := ⟨RX0, "<init>", "()V"⟩
abbrev cX0_forget : ByteArray := prog_2_method_2_code
def yX0_forget : MethodName := ⟨RX0, "forget", "()V"⟩
abbrev cX0_bodiesRun : ByteArray := prog_2_method_3_code
def yX0_bodiesRun : MethodName := ⟨RX0, "bodiesRun", "()I"⟩
abbrev cX0_bodyAt : ByteArray := prog_2_method_4_code
def yX0_bodyAt : MethodName := ⟨RX0, "bodyAt", "(I)I"⟩
abbrev cX0_perform : ByteArray := prog_2_method_5_code
def yX0_perform : MethodName := ⟨RX0, "perform", "(LPetalPictures$Board;III)I"⟩
abbrev cX0_noteBegun : ByteArray := prog_2_method_6_code
def yX0_noteBegun : MethodName := ⟨RX0, "noteBegun", "(I)V"⟩
abbrev cX0_ownBody : ByteArray := prog_2_method_7_code
def yX0_ownBody : MethodName := ⟨RX0, "ownBody", "(II)I"⟩
abbrev cX0_kindWithBody : ByteArray := prog_2_method_8_code
def yX0_kindWithBody : MethodName := ⟨RX0, "kindWithBody", "(II)I"⟩
abbrev cX0_runBody : ByteArray := prog_2_method_9_code
def yX0_runBody : MethodName := ⟨RX0, "runBody", "(LPetalPictures$Acts;IIII)I"⟩
def RX1 : String := "PetalPictures$Board"
def TX1 : u_T := fun k => match k with
  | 0 => ("PetalPictures$Board", "kinds", "[I", true)
  | 1 => ("PetalPictures$Board", "colours", "[I", true)
  | 2 => ("PetalPictures$Board", "as", "[I", true)
  | 3 => ("PetalPictures$Board", "stuffs", "I", false)
  | 4 => ("PetalPictures$Board", "drawing", "[I", true)
  | 5 => ("PetalPictures$Board", "laid", "[I", true)
  | 6 => ("PetalPictures$Board", "planned", "[I", true)
  | 7 => ("PetalPictures$Board", "sun", "[I", true)
  | 8 => ("PetalPictures$Board", "shade", "[I", true)
  | 9 => ("PetalPictures$Board", "sprays", "[I", true)
  | 10 => ("PetalPictures$Board", "sunny", "I", false)
  | 11 => ("PetalPictures$Board", "wet", "I", false)
  | 12 => ("PetalPictures$Board", "hour", "I", false)
  | 13 => ("PetalPictures$Board", "cracks", "I", false)
  | _ => ("PetalPictures$Board", "draws", "I", false)
def tyX1 : Nat → FieldType := fun k => match k with
  | 0 => .array .int
  | 1 => .array .int
  | 2 => .array .int
  | 3 => .int
  | 4 => .array .int
  | 5 => .array .int
  | 6 => .array .int
  | 7 => .array .int
  | 8 => .array .int
  | 9 => .array .int
  | 10 => .int
  | 11 => .int
  | 12 => .int
  | 13 => .int
  | _ => .int
abbrev wsX10 : List Cond := u_ws RX1 TX1 15
theorem nmX1 : ∀ a, a < 15 → ∀ b, b < 15 → a ≠ b → (TX1 a).2.1 ≠ (TX1 b).2.1 := by decide +kernel
theorem tyX1_ok : ∀ k, k < 15 → parseFieldDescriptor (TX1 k).2.2.1 = some (tyX1 k) := by decide +kernel
abbrev cX1_init : ByteArray := prog_3_method_1_code
def yX1_init : MethodName := ⟨RX1, "<init>", "()V"⟩
abbrev cX1_becomeLike : ByteArray := prog_3_method_2_code
def yX1_becomeLike : MethodName := ⟨RX1, "becomeLike", "(LPetalPictures$Board;)V"⟩
abbrev cX1_isStuff : ByteArray := prog_3_method_3_code
def yX1_isStuff : MethodName := ⟨RX1, "isStuff", "(I)Z"⟩
abbrev cX1_stuffCount : ByteArray := prog_3_method_4_code
def yX1_stuffCount : MethodName := ⟨RX1, "stuffCount", "()I"⟩
abbrev cX1_hasRoom : ByteArray := prog_3_method_5_code
def yX1_hasRoom : MethodName := ⟨RX1, "hasRoom", "()Z"⟩
abbrev cX1_addStuff : ByteArray := prog_3_method_6_code
def yX1_addStuff : MethodName := ⟨RX1, "addStuff", "(III)I"⟩
abbrev cX1_kindOf : ByteArray := prog_3_method_7_code
def yX1_kindOf : MethodName := ⟨RX1, "kindOf", "(I)I"⟩
abbrev cX1_colourOf : ByteArray := prog_3_method_8_code
def yX1_colourOf : MethodName := ⟨RX1, "colourOf", "(I)I"⟩
abbrev cX1_aOf : ByteArray := prog_3_method_9_code
def yX1_aOf : MethodName := ⟨RX1, "aOf", "(I)I"⟩
abbrev cX1_cellsLaidWith : ByteArray := prog_3_method_10_code
def yX1_cellsLaidWith : MethodName := ⟨RX1, "cellsLaidWith", "(I)I"⟩
abbrev cX1_cellsPlannedWith : ByteArray := prog_3_method_11_code
def yX1_cellsPlannedWith : MethodName := ⟨RX1, "cellsPlannedWith", "(I)I"⟩
abbrev cX1_countOf : ByteArray := prog_3_method_12_code
def yX1_countOf : MethodName := ⟨RX1, "countOf", "([II)I"⟩
abbrev cX1_drawnAt : ByteArray := prog_3_method_13_code
def yX1_drawnAt : MethodName := ⟨RX1, "drawnAt", "(I)I"⟩
abbrev cX1_laidAt : ByteArray := prog_3_method_14_code
def yX1_laidAt : MethodName := ⟨RX1, "laidAt", "(I)I"⟩
abbrev cX1_plannedAt : ByteArray := prog_3_method_15_code
def yX1_plannedAt : MethodName := ⟨RX1, "plannedAt", "(I)I"⟩
abbrev cX1_sunAt : ByteArray := prog_3_method_16_code
def yX1_sunAt : MethodName := ⟨RX1, "sunAt", "(I)I"⟩
abbrev cX1_shadeAt : ByteArray := prog_3_method_17_code
def yX1_shadeAt : MethodName := ⟨RX1, "shadeAt", "(I)I"⟩
abbrev cX1_spraysAt : ByteArray := prog_3_method_18_code
def yX1_spraysAt : MethodName := ⟨RX1, "spraysAt", "(I)I"⟩
abbrev cX1_laidCount : ByteArray := prog_3_method_19_code
def yX1_laidCount : MethodName := ⟨RX1, "laidCount", "()I"⟩
abbrev cX1_isPlannedBare : ByteArray := prog_3_method_20_code
def yX1_isPlannedBare : MethodName := ⟨RX1, "isPlannedBare", "(I)Z"⟩
abbrev cX1_draw : ByteArray := prog_3_method_21_code
def yX1_draw : MethodName := ⟨RX1, "draw", "(II)V"⟩
abbrev cX1_planFor : ByteArray := prog_3_method_22_code
def yX1_planFor : MethodName := ⟨RX1, "planFor", "(II)V"⟩
abbrev cX1_mayBeLaid : ByteArray := prog_3_method_23_code
def yX1_mayBeLaid : MethodName := ⟨RX1, "mayBeLaid", "(I)Z"⟩
abbrev cX1_layOn : ByteArray := prog_3_method_24_code
def yX1_layOn : MethodName := ⟨RX1, "layOn", "(II)V"⟩
abbrev cX1_makeBare : ByteArray := prog_3_method_25_code
def yX1_makeBare : MethodName := ⟨RX1, "makeBare", "(I)V"⟩
abbrev cX1_takeOver : ByteArray := prog_3_method_26_code
def yX1_takeOver : MethodName := ⟨RX1, "takeOver", "(II)V"⟩
abbrev cX1_wetness : ByteArray := prog_3_method_27_code
def yX1_wetness : MethodName := ⟨RX1, "wetness", "()I"⟩
abbrev cX1_sunnySide : ByteArray := prog_3_method_28_code
def yX1_sunnySide : MethodName := ⟨RX1, "sunnySide", "()I"⟩
abbrev cX1_hourNow : ByteArray := prog_3_method_29_code
def yX1_hourNow : MethodName := ⟨RX1, "hourNow", "()I"⟩
abbrev cX1_crackCount : ByteArray := prog_3_method_30_code
def yX1_crackCount : MethodName := ⟨RX1, "crackCount", "()I"⟩
abbrev cX1_turnTo : ByteArray := prog_3_method_31_code
def yX1_turnTo : MethodName := ⟨RX1, "turnTo", "(I)V"⟩
abbrev cX1_driedByAnHour : ByteArray := prog_3_method_32_code
def yX1_driedByAnHour : MethodName := ⟨RX1, "driedByAnHour", "()I"⟩
abbrev cX1_wetBySpray : ByteArray := prog_3_method_33_code
def yX1_wetBySpray : MethodName := ⟨RX1, "wetBySpray", "(I)I"⟩
abbrev cX1_isInSun : ByteArray := prog_3_method_34_code
def yX1_isInSun : MethodName := ⟨RX1, "isInSun", "(II)Z"⟩
abbrev cX1_sprayOnce : ByteArray := prog_3_method_35_code
def yX1_sprayOnce : MethodName := ⟨RX1, "sprayOnce", "()V"⟩
abbrev cX1_passHours : ByteArray := prog_3_method_36_code
def yX1_passHours : MethodName := ⟨RX1, "passHours", "(I)V"⟩
abbrev cX1_dryForAnHour : ByteArray := prog_3_method_37_code
def yX1_dryForAnHour : MethodName := ⟨RX1, "dryForAnHour", "()V"⟩
abbrev cX1_seedNow : ByteArray := prog_3_method_38_code
def yX1_seedNow : MethodName := ⟨RX1, "seedNow", "()I"⟩
abbrev cX1_sow : ByteArray := prog_3_method_39_code
def yX1_sow : MethodName := ⟨RX1, "sow", "(I)V"⟩
abbrev cX1_drawBelow : ByteArray := prog_3_method_40_code
def yX1_drawBelow : MethodName := ⟨RX1, "drawBelow", "(I)I"⟩
abbrev cX1_passDays : ByteArray := prog_3_method_41_code
def yX1_passDays : MethodName := ⟨RX1, "passDays", "(I)I"⟩
def RX2 : String := "PetalPictures$Kind"
def TX2 : u_T := fun k => match k with
  | _ => ("", "", "", false)
def tyX2 : Nat → FieldType := fun k => match k with
  | _ => .int
abbrev wsX20 : List Cond := u_ws RX2 TX2 0
theorem nmX2 : ∀ a, a < 0 → ∀ b, b < 0 → a ≠ b → (TX2 a).2.1 ≠ (TX2 b).2.1 := by decide +kernel
theorem tyX2_ok : ∀ k, k < 0 → parseFieldDescriptor (TX2 k).2.2.1 = some (tyX2 k) := by decide +kernel
abbrev cX2_above : ByteArray := prog_4_method_2_code
def yX2_above : MethodName := ⟨RX2, "above", "(I)I"⟩
abbrev cX2_isUnder : ByteArray := prog_4_method_3_code
def yX2_isUnder : MethodName := ⟨RX2, "isUnder", "(II)Z"⟩
abbrev cX2_brown : ByteArray := prog_4_method_4_code
def yX2_brown : MethodName := ⟨RX2, "brown", "(IIII)I"⟩
abbrev cX2_freshness : ByteArray := prog_4_method_5_code
def yX2_freshness : MethodName := ⟨RX2, "freshness", "(IIIII)I"⟩
def RX3 : String := "PetalPictures$Shelf"
def TX3 : u_T := fun k => match k with
  | 0 => ("PetalPictures$Shelf", "elements", "[J", true)
  | 1 => ("PetalPictures$Shelf", "content", "I", false)
  | 2 => ("PetalPictures$Shelf", "sort", "I", false)
  | 3 => ("PetalPictures$Shelf", "size", "I", false)
  | _ => ("PetalPictures$Shelf", "stuffNumber", "I", false)
def tyX3 : Nat → FieldType := fun k => match k with
  | 0 => .array .long
  | 1 => .int
  | 2 => .int
  | 3 => .int
  | _ => .int
abbrev wsX30 : List Cond := u_ws RX3 TX3 5
theorem nmX3 : ∀ a, a < 5 → ∀ b, b < 5 → a ≠ b → (TX3 a).2.1 ≠ (TX3 b).2.1 := by decide +kernel
theorem tyX3_ok : ∀ k, k < 5 → parseFieldDescriptor (TX3 k).2.2.1 = some (tyX3 k) := by decide +kernel
abbrev cX3_init : ByteArray := prog_5_method_1_code
def yX3_init : MethodName := ⟨RX3, "<init>", "()V"⟩
abbrev cX3_holdsRow : ByteArray := prog_5_method_2_code
def yX3_holdsRow : MethodName := ⟨RX3, "holdsRow", "()Z"⟩
abbrev cX3_holdsStuff : ByteArray := prog_5_method_3_code
def yX3_holdsStuff : MethodName := ⟨RX3, "holdsStuff", "()Z"⟩
abbrev cX3_stuffHeld : ByteArray := prog_5_method_4_code
def yX3_stuffHeld : MethodName := ⟨RX3, "stuffHeld", "()I"⟩
abbrev cX3_rowSize : ByteArray := prog_5_method_5_code
def yX3_rowSize : MethodName := ⟨RX3, "rowSize", "()I"⟩
abbrev cX3_told : ByteArray := prog_5_method_6_code
def yX3_told : MethodName := ⟨RX3, "told", "()I"⟩
abbrev cX3_rowTrouble : ByteArray := prog_5_method_7_code
def yX3_rowTrouble : MethodName := ⟨RX3, "rowTrouble", "()I"⟩
abbrev cX3_isOfOtherSort : ByteArray := prog_5_method_8_code
def yX3_isOfOtherSort : MethodName := ⟨RX3, "isOfOtherSort", "(LPetalPictures$Shelf;)Z"⟩
abbrev cX3_takeNothing : ByteArray := prog_5_method_9_code
def yX3_takeNothing : MethodName := ⟨RX3, "takeNothing", "()V"⟩
abbrev cX3_takeStuff : ByteArray := prog_5_method_10_code
def yX3_takeStuff : MethodName := ⟨RX3, "takeStuff", "(I)V"⟩
abbrev cX3_takeRow : ByteArray := prog_5_method_11_code
def yX3_takeRow : MethodName := ⟨RX3, "takeRow", "(II)V"⟩
abbrev cX3_hasElement : ByteArray := prog_5_method_12_code
def yX3_hasElement : MethodName := ⟨RX3, "hasElement", "(I)Z"⟩
abbrev cX3_hasElements : ByteArray := prog_5_method_13_code
def yX3_hasElements : MethodName := ⟨RX3, "hasElements", "(II)Z"⟩
abbrev cX3_put : ByteArray := prog_5_method_14_code
def yX3_put : MethodName := ⟨RX3, "put", "(IJ)V"⟩
abbrev cX3_cut : ByteArray := prog_5_method_15_code
def yX3_cut : MethodName := ⟨RX3, "cut", "(J)J"⟩
abbrev cX3_elementAt : ByteArray := prog_5_method_16_code
def yX3_elementAt : MethodName := ⟨RX3, "elementAt", "(I)J"⟩
abbrev cX3_toldAt : ByteArray := prog_5_method_17_code
def yX3_toldAt : MethodName := ⟨RX3, "toldAt", "(I)I"⟩
abbrev cX3_copyTo : ByteArray := prog_5_method_18_code
def yX3_copyTo : MethodName := ⟨RX3, "copyTo", "(LPetalPictures$Shelf;III)V"⟩
def RX4 : String := "PetalPictures$Thought"
def TX4 : u_T := fun k => match k with
  | _ => ("", "", "", false)
def tyX4 : Nat → FieldType := fun k => match k with
  | _ => .int
abbrev wsX40 : List Cond := u_ws RX4 TX4 0
theorem nmX4 : ∀ a, a < 0 → ∀ b, b < 0 → a ≠ b → (TX4 a).2.1 ≠ (TX4 b).2.1 := by decide +kernel
theorem tyX4_ok : ∀ k, k < 0 → parseFieldDescriptor (TX4 k).2.2.1 = some (tyX4 k) := by decide +kernel
abbrev cX4_freshBehind : ByteArray := prog_6_method_2_code
def yX4_freshBehind : MethodName := ⟨RX4, "freshBehind", "(LPetalPictures$Board;III)I"⟩
abbrev cX4_hasItsColour : ByteArray := prog_6_method_3_code
def yX4_hasItsColour : MethodName := ⟨RX4, "hasItsColour", "(LPetalPictures$Board;I)Z"⟩
abbrev cX4_beautyBehind : ByteArray := prog_6_method_4_code
def yX4_beautyBehind : MethodName := ⟨RX4, "beautyBehind", "(LPetalPictures$Board;III)I"⟩
abbrev cX4_looksBehind : ByteArray := prog_6_method_5_code
def yX4_looksBehind : MethodName := ⟨RX4, "looksBehind", "(LPetalPictures$Board;II)I"⟩
abbrev cX4_worstHour : ByteArray := prog_6_method_6_code
def yX4_worstHour : MethodName := ⟨RX4, "worstHour", "(LPetalPictures$Board;II)I"⟩
abbrev cX4_looksTogether : ByteArray := prog_6_method_7_code
def yX4_looksTogether : MethodName := ⟨RX4, "looksTogether", "(LPetalPictures$Board;III)I"⟩
abbrev cX4_bestSide : ByteArray := prog_6_method_8_code
def yX4_bestSide : MethodName := ⟨RX4, "bestSide", "(LPetalPictures$Board;II)I"⟩
abbrev cX4_bestStuff : ByteArray := prog_6_method_9_code
def yX4_bestStuff : MethodName := ⟨RX4, "bestStuff", "(LPetalPictures$Board;IIII)I"⟩
abbrev cX4_worthLaidNow : ByteArray := prog_6_method_10_code
def yX4_worthLaidNow : MethodName := ⟨RX4, "worthLaidNow", "(LPetalPictures$Board;IZIII)I"⟩
abbrev cX4_nextCell : ByteArray := prog_6_method_11_code
def yX4_nextCell : MethodName := ⟨RX4, "nextCell", "(LPetalPictures$Board;)I"⟩
abbrev cX4_firstDryHour : ByteArray := prog_6_method_12_code
def yX4_firstDryHour : MethodName := ⟨RX4, "firstDryHour", "(LPetalPictures$Board;)I"⟩
abbrev cX4_spraysNeeded : ByteArray := prog_6_method_13_code
def yX4_spraysNeeded : MethodName := ⟨RX4, "spraysNeeded", "(LPetalPictures$Board;I)I"⟩
abbrev cX4_stuffsAsFresh : ByteArray := prog_6_method_14_code
def yX4_stuffsAsFresh : MethodName := ⟨RX4, "stuffsAsFresh", "(LPetalPictures$Board;IIII)I"⟩
abbrev cX4_hourAsTold : ByteArray := prog_6_method_15_code
def yX4_hourAsTold : MethodName := ⟨RX4, "hourAsTold", "(LPetalPictures$Board;LPetalPictures$Shelf;)I"⟩
abbrev cX4_isAsTold : ByteArray := prog_6_method_16_code
def yX4_isAsTold : MethodName := ⟨RX4, "isAsTold", "(LPetalPictures$Board;LPetalPictures$Shelf;I)Z"⟩
abbrev cX4_coloursLacking : ByteArray := prog_6_method_17_code
def yX4_coloursLacking : MethodName := ⟨RX4, "coloursLacking", "(LPetalPictures$Board;)I"⟩
abbrev cX4_cellsWrong : ByteArray := prog_6_method_18_code
def yX4_cellsWrong : MethodName := ⟨RX4, "cellsWrong", "(LPetalPictures$Board;)I"⟩
abbrev cX4_firstBadLaying : ByteArray := prog_6_method_19_code
def yX4_firstBadLaying : MethodName := ⟨RX4, "firstBadLaying", "(LPetalPictures$Board;LPetalPictures$Shelf;I)I"⟩
def RX5 : String := "PetalPictures$Village"
def TX5 : u_T := fun k => match k with
  | 0 => ("PetalPictures$Village", "letters", "[I", true)
  | 1 => ("PetalPictures$Village", "size", "I", false)
  | 2 => ("PetalPictures$Village", "at", "I", false)
  | _ => ("PetalPictures$Village", "fault", "I", false)
def tyX5 : Nat → FieldType := fun k => match k with
  | 0 => .array .int
  | 1 => .int
  | 2 => .int
  | _ => .int
abbrev wsX50 : List Cond := u_ws RX5 TX5 4
theorem nmX5 : ∀ a, a < 4 → ∀ b, b < 4 → a ≠ b → (TX5 a).2.1 ≠ (TX5 b).2.1 := by decide +kernel
theorem tyX5_ok : ∀ k, k < 4 → parseFieldDescriptor (TX5 k).2.2.1 = some (tyX5 k) := by decide +kernel
abbrev cX5_init : ByteArray := prog_7_method_1_code
def yX5_init : MethodName := ⟨RX5, "<init>", "()V"⟩
abbrev cX5_faultFound : ByteArray := prog_7_method_2_code
def yX5_faultFound : MethodName := ⟨RX5, "faultFound", "()I"⟩
abbrev cX5_tell : ByteArray := prog_7_method_3_code
def yX5_tell : MethodName := ⟨RX5, "tell", "(LPetalPictures$Shelf;LPetalPictures$Board;)I"⟩
abbrev cX5_takeLetters : ByteArray := prog_7_method_4_code
def yX5_takeLetters : MethodName := ⟨RX5, "takeLetters", "(LPetalPictures$Shelf;)V"⟩
abbrev cX5_fail : ByteArray := prog_7_method_5_code
def yX5_fail : MethodName := ⟨RX5, "fail", "(I)V"⟩
abbrev cX5_wordOf : ByteArray := prog_7_method_6_code
def yX5_wordOf : MethodName := ⟨RX5, "wordOf", "(I)Ljava/lang/String;"⟩
abbrev cX5_readItem : ByteArray := prog_7_method_7_code
def yX5_readItem : MethodName := ⟨RX5, "readItem", "(LPetalPictures$Board;)V"⟩
abbrev cX5_readWord : ByteArray := prog_7_method_8_code
def yX5_readWord : MethodName := ⟨RX5, "readWord", "()I"⟩
abbrev cX5_lettersAlike : ByteArray := prog_7_method_9_code
def yX5_lettersAlike : MethodName := ⟨RX5, "lettersAlike", "(Ljava/lang/String;)I"⟩
abbrev cX5_letterAt : ByteArray := prog_7_method_10_code
def yX5_letterAt : MethodName := ⟨RX5, "letterAt", "(I)I"⟩
abbrev cX5_readSign : ByteArray := prog_7_method_11_code
def yX5_readSign : MethodName := ⟨RX5, "readSign", "(C)V"⟩
abbrev cX5_isDigit : ByteArray := prog_7_method_12_code
def yX5_isDigit : MethodName := ⟨RX5, "isDigit", "(I)Z"⟩
abbrev cX5_readNumber : ByteArray := prog_7_method_13_code
def yX5_readNumber : MethodName := ⟨RX5, "readNumber", "(II)I"⟩
abbrev cX5_readStuff : ByteArray := prog_7_method_14_code
def yX5_readStuff : MethodName := ⟨RX5, "readStuff", "(LPetalPictures$Board;I)V"⟩
abbrev cX5_readCell : ByteArray := prog_7_method_15_code
def yX5_readCell : MethodName := ⟨RX5, "readCell", "(LPetalPictures$Board;)V"⟩
abbrev cX5_readPlan : ByteArray := prog_7_method_16_code
def yX5_readPlan : MethodName := ⟨RX5, "readPlan", "(LPetalPictures$Board;)V"⟩
abbrev cX5_readLaying : ByteArray := prog_7_method_17_code
def yX5_readLaying : MethodName := ⟨RX5, "readLaying", "(LPetalPictures$Board;)V"⟩
abbrev cX5_readSide : ByteArray := prog_7_method_18_code
def yX5_readSide : MethodName := ⟨RX5, "readSide", "(LPetalPictures$Board;)V"⟩
abbrev cX5_readHours : ByteArray := prog_7_method_19_code
def yX5_readHours : MethodName := ⟨RX5, "readHours", "(LPetalPictures$Board;)V"⟩
def RX6 : String := "PetalPictures$Work"
def TX6 : u_T := fun k => match k with
  | 0 => ("PetalPictures$Work", "rowReached", "[I", true)
  | 1 => ("PetalPictures$Work", "minutesLeft", "[I", true)
  | _ => ("PetalPictures$Work", "endsAt", "[I", true)
def tyX6 : Nat → FieldType := fun k => match k with
  | 0 => .array .int
  | 1 => .array .int
  | _ => .array .int
abbrev wsX60 : List Cond := u_ws RX6 TX6 3
theorem nmX6 : ∀ a, a < 3 → ∀ b, b < 3 → a ≠ b → (TX6 a).2.1 ≠ (TX6 b).2.1 := by decide +kernel
theorem tyX6_ok : ∀ k, k < 3 → parseFieldDescriptor (TX6 k).2.2.1 = some (tyX6 k) := by decide +kernel
abbrev cX6_init : ByteArray := prog_8_method_1_code
def yX6_init : MethodName := ⟨RX6, "<init>", "()V"⟩
abbrev cX6_lastMinute : ByteArray := prog_8_method_2_code
def yX6_lastMinute : MethodName := ⟨RX6, "lastMinute", "(LPetalPictures$Board;I)I"⟩
abbrev cX6_minutesFor : ByteArray := prog_8_method_3_code
def yX6_minutesFor : MethodName := ⟨RX6, "minutesFor", "(LPetalPictures$Board;I)I"⟩
abbrev cX6_begin : ByteArray := prog_8_method_4_code
def yX6_begin : MethodName := ⟨RX6, "begin", "(LPetalPictures$Board;)V"⟩
abbrev cX6_finish : ByteArray := prog_8_method_5_code
def yX6_finish : MethodName := ⟨RX6, "finish", "(I)I"⟩
abbrev cX6_takeCells : ByteArray := prog_8_method_6_code
def yX6_takeCells : MethodName := ⟨RX6, "takeCells", "(LPetalPictures$Board;II)I"⟩
abbrev cX6_fullestIdleColumn : ByteArray := prog_8_method_7_code
def yX6_fullestIdleColumn : MethodName := ⟨RX6, "fullestIdleColumn", "()I"⟩
abbrev cX6_takeNextOf : ByteArray := prog_8_method_8_code
def yX6_takeNextOf : MethodName := ⟨RX6, "takeNextOf", "(LPetalPictures$Board;II)V"⟩
def RX7 : String := "PetalPictures"
def TX7 : u_T := fun k => match k with
  | 0 => ("PetalPictures", "shelves", "[LPetalPictures$Shelf;", true)
  | 1 => ("PetalPictures", "board", "LPetalPictures$Board;", true)
  | 2 => ("PetalPictures", "draft", "LPetalPictures$Board;", true)
  | 3 => ("PetalPictures", "image", "LPetalPictures$Board;", true)
  | 4 => ("PetalPictures", "imageTaken", "Z", false)
  | 5 => ("PetalPictures", "reader", "LPetalPictures$Village;", true)
  | 6 => ("PetalPictures", "latestFault", "I", false)
  | 7 => ("PetalPictures", "work", "LPetalPictures$Work;", true)
  | 8 => ("PetalPictures", "acts", "LPetalPictures$Acts;", true)
  | _ => ("PetalPictures", "refused", "[I", true)
def tyX7 : Nat → FieldType := fun k => match k with
  | 0 => .array (.object "PetalPictures$Shelf")
  | 1 => .object "PetalPictures$Board"
  | 2 => .object "PetalPictures$Board"
  | 3 => .object "PetalPictures$Board"
  | 4 => .boolean
  | 5 => .object "PetalPictures$Village"
  | 6 => .int
  | 7 => .object "PetalPictures$Work"
  | 8 => .object "PetalPictures$Acts"
  | _ => .array .int
abbrev wsX70 : List Cond := u_ws RX7 TX7 10
theorem nmX7 : ∀ a, a < 10 → ∀ b, b < 10 → a ≠ b → (TX7 a).2.1 ≠ (TX7 b).2.1 := by decide +kernel
theorem tyX7_ok : ∀ k, k < 10 → parseFieldDescriptor (TX7 k).2.2.1 = some (tyX7 k) := by decide +kernel
abbrev cX7_init : ByteArray := prog_1_method_1_code
def yX7_init : MethodName := ⟨RX7, "<init>", "()V"⟩
abbrev cX7_row : ByteArray := prog_1_method_2_code
def yX7_row : MethodName := ⟨RX7, "row", "(III)I"⟩
abbrev cX7_set : ByteArray := prog_1_method_3_code
def yX7_set : MethodName := ⟨RX7, "set", "(IIJ)I"⟩
abbrev cX7_copy : ByteArray := prog_1_method_4_code
def yX7_copy : MethodName := ⟨RX7, "copy", "(IIIII)I"⟩
abbrev cX7_element : ByteArray := prog_1_method_5_code
def yX7_element : MethodName := ⟨RX7, "element", "(II)J"⟩
abbrev cX7_show : ByteArray := prog_1_method_6_code
def yX7_show : MethodName := ⟨RX7, "show", "(II)I"⟩
abbrev cX7_holds : ByteArray := prog_1_method_7_code
def yX7_holds : MethodName := ⟨RX7, "holds", "(I)I"⟩
abbrev cX7_says : ByteArray := prog_1_method_8_code
def yX7_says : MethodName := ⟨RX7, "says", "(II)I"⟩
abbrev cX7_stuff : ByteArray := prog_1_method_9_code
def yX7_stuff : MethodName := ⟨RX7, "stuff", "(III)I"⟩
abbrev cX7_stuffOf : ByteArray := prog_1_method_10_code
def yX7_stuffOf : MethodName := ⟨RX7, "stuffOf", "(II)I"⟩
abbrev cX7_cell : ByteArray := prog_1_method_11_code
def yX7_cell : MethodName := ⟨RX7, "cell", "(II)I"⟩
abbrev cX7_cellOf : ByteArray := prog_1_method_12_code
def yX7_cellOf : MethodName := ⟨RX7, "cellOf", "(II)I"⟩
abbrev cX7_plan : ByteArray := prog_1_method_13_code
def yX7_plan : MethodName := ⟨RX7, "plan", "(II)I"⟩
abbrev cX7_village : ByteArray := prog_1_method_14_code
def yX7_village : MethodName := ⟨RX7, "village", "(I)I"⟩
abbrev cX7_fault : ByteArray := prog_1_method_15_code
def yX7_fault : MethodName := ⟨RX7, "fault", "()I"⟩
abbrev cX7_may : ByteArray := prog_1_method_16_code
def yX7_may : MethodName := ⟨RX7, "may", "(I)I"⟩
abbrev cX7_lay : ByteArray := prog_1_method_17_code
def yX7_lay : MethodName := ⟨RX7, "lay", "(II)I"⟩
abbrev cX7_strip : ByteArray := prog_1_method_18_code
def yX7_strip : MethodName := ⟨RX7, "strip", "(I)I"⟩
abbrev cX7_spray : ByteArray := prog_1_method_19_code
def yX7_spray : MethodName := ⟨RX7, "spray", "()I"⟩
abbrev cX7_side : ByteArray := prog_1_method_20_code
def yX7_side : MethodName := ⟨RX7, "side", "(I)I"⟩
abbrev cX7_hours : ByteArray := prog_1_method_21_code
def yX7_hours : MethodName := ⟨RX7, "hours", "(I)I"⟩
abbrev cX7_fresh : ByteArray := prog_1_method_22_code
def yX7_fresh : MethodName := ⟨RX7, "fresh", "(II)I"⟩
abbrev cX7_beauty : ByteArray := prog_1_method_23_code
def yX7_beauty : MethodName := ⟨RX7, "beauty", "(II)I"⟩
abbrev cX7_looks : ByteArray := prog_1_method_24_code
def yX7_looks : MethodName := ⟨RX7, "looks", "(I)I"⟩
abbrev cX7_worst : ByteArray := prog_1_method_25_code
def yX7_worst : MethodName := ⟨RX7, "worst", "(II)I"⟩
abbrev cX7_all : ByteArray := prog_1_method_26_code
def yX7_all : MethodName := ⟨RX7, "all", "(II)I"⟩
abbrev cX7_best : ByteArray := prog_1_method_27_code
def yX7_best : MethodName := ⟨RX7, "best", "(IIII)I"⟩
abbrev cX7_turn : ByteArray := prog_1_method_28_code
def yX7_turn : MethodName := ⟨RX7, "turn", "(II)I"⟩
abbrev cX7_next : ByteArray := prog_1_method_29_code
def yX7_next : MethodName := ⟨RX7, "next", "()I"⟩
abbrev cX7_done : ByteArray := prog_1_method_30_code
def yX7_done : MethodName := ⟨RX7, "done", "(I)I"⟩
abbrev cX7_women : ByteArray := prog_1_method_31_code
def yX7_women : MethodName := ⟨RX7, "women", "(I)I"⟩
abbrev cX7_dry : ByteArray := prog_1_method_32_code
def yX7_dry : MethodName := ⟨RX7, "dry", "()I"⟩
abbrev cX7_sprayings : ByteArray := prog_1_method_33_code
def yX7_sprayings : MethodName := ⟨RX7, "sprayings", "(I)I"⟩
abbrev cX7_was : ByteArray := prog_1_method_34_code
def yX7_was : MethodName := ⟨RX7, "was", "(IIII)I"⟩
abbrev cX7_age : ByteArray := prog_1_method_35_code
def yX7_age : MethodName := ⟨RX7, "age", "(II)I"⟩
abbrev cX7_lacking : ByteArray := prog_1_method_36_code
def yX7_lacking : MethodName := ⟨RX7, "lacking", "()I"⟩
abbrev cX7_wrong : ByteArray := prog_1_method_37_code
def yX7_wrong : MethodName := ⟨RX7, "wrong", "()I"⟩
abbrev cX7_judge : ByteArray := prog_1_method_38_code
def yX7_judge : MethodName := ⟨RX7, "judge", "(II)I"⟩
abbrev cX7_days : ByteArray := prog_1_method_39_code
def yX7_days : MethodName := ⟨RX7, "days", "(I)I"⟩
abbrev cX7_seed : ByteArray := prog_1_method_40_code
def yX7_seed : MethodName := ⟨RX7, "seed", "(I)I"⟩
abbrev cX7_act : ByteArray := prog_1_method_41_code
def yX7_act : MethodName := ⟨RX7, "act", "(III)I"⟩
abbrev cX7_trace : ByteArray := prog_1_method_42_code
def yX7_trace : MethodName := ⟨RX7, "trace", "(I)I"⟩
abbrev cX7_image : ByteArray := prog_1_method_43_code
def yX7_image : MethodName := ⟨RX7, "image", "()I"⟩
abbrev cX7_restore : ByteArray := prog_1_method_44_code
def yX7_restore : MethodName := ⟨RX7, "restore", "()I"⟩
abbrev cX7_status : ByteArray := prog_1_method_45_code
def yX7_status : MethodName := ⟨RX7, "status", "(I)I"⟩
abbrev cX7_shelfAt : ByteArray := prog_1_method_46_code
def yX7_shelfAt : MethodName := ⟨RX7, "shelfAt", "(I)LPetalPictures$Shelf;"⟩
abbrev cX7_isCell : ByteArray := prog_1_method_47_code
def yX7_isCell : MethodName := ⟨RX7, "isCell", "(I)Z"⟩
abbrev cX7_isHour : ByteArray := prog_1_method_48_code
def yX7_isHour : MethodName := ⟨RX7, "isHour", "(I)Z"⟩
abbrev cX7_areHours : ByteArray := prog_1_method_49_code
def yX7_areHours : MethodName := ⟨RX7, "areHours", "(II)Z"⟩
abbrev cX7_refuse : ByteArray := prog_1_method_50_code
def yX7_refuse : MethodName := ⟨RX7, "refuse", "(I)I"⟩
abbrev cX7_refusalsOf : ByteArray := prog_1_method_51_code
def yX7_refusalsOf : MethodName := ⟨RX7, "refusalsOf", "(I)I"⟩
abbrev cX7_tellingTrouble : ByteArray := prog_1_method_52_code
def yX7_tellingTrouble : MethodName := ⟨RX7, "tellingTrouble", "(LPetalPictures$Shelf;I)I"⟩
abbrev cX7_saidAs : ByteArray := prog_1_method_53_code
def yX7_saidAs : MethodName := ⟨RX7, "saidAs", "(II)I"⟩
def RX8 : String := "PetalPicturesModel"
def TX8 : u_T := fun k => match k with
  | 0 => ("PetalPicturesModel", "stuffs", "I", false)
  | 1 => ("PetalPicturesModel", "side", "I", false)
  | 2 => ("PetalPicturesModel", "wet", "I", false)
  | 3 => ("PetalPicturesModel", "hour", "I", false)
  | 4 => ("PetalPicturesModel", "cracks", "I", false)
  | 5 => ("PetalPicturesModel", "seed", "I", false)
  | 6 => ("PetalPicturesModel", "fault", "I", false)
  | 7 => ("PetalPicturesModel", "refused", "[I", true)
  | 8 => ("PetalPicturesModel", "kind", "[I", true)
  | 9 => ("PetalPicturesModel", "colour", "[I", true)
  | 10 => ("PetalPicturesModel", "part", "[I", true)
  | 11 => ("PetalPicturesModel", "drawn", "[I", true)
  | 12 => ("PetalPicturesModel", "laid", "[I", true)
  | 13 => ("PetalPicturesModel", "planned", "[I", true)
  | 14 => ("PetalPicturesModel", "suns", "[I", true)
  | 15 => ("PetalPicturesModel", "shades", "[I", true)
  | 16 => ("PetalPicturesModel", "sprays", "[I", true)
  | 17 => ("PetalPicturesModel", "held", "[I", true)
  | 18 => ("PetalPicturesModel", "sort", "[I", true)
  | 19 => ("PetalPicturesModel", "size", "[I", true)
  | 20 => ("PetalPicturesModel", "shown", "[I", true)
  | 21 => ("PetalPicturesModel", "cells", "[J", true)
  | 22 => ("PetalPicturesModel", "carried", "[J", true)
  | 23 => ("PetalPicturesModel", "words", "[I", true)
  | 24 => ("PetalPicturesModel", "tell", "[I", true)
  | 25 => ("PetalPicturesModel", "base", "I", false)
  | 26 => ("PetalPicturesModel", "at", "I", false)
  | 27 => ("PetalPicturesModel", "end", "I", false)
  | 28 => ("PetalPicturesModel", "told", "I", false)
  | 29 => ("PetalPicturesModel", "wrongAt", "I", false)
  | 30 => ("PetalPicturesModel", "had", "[I", true)
  | 31 => ("PetalPicturesModel", "kept", "[I", true)
  | 32 => ("PetalPicturesModel", "lowest", "[I", true)
  | 33 => ("PetalPicturesModel", "minutes", "[I", true)
  | 34 => ("PetalPicturesModel", "worked", "[I", true)
  | 35 => ("PetalPicturesModel", "ahead", "[I", true)
  | 36 => ("PetalPicturesModel", "trace", "[I", true)
  | 37 => ("PetalPicturesModel", "ran", "I", false)
  | _ => ("PetalPicturesModel", "isKept", "Z", false)
def tyX8 : Nat → FieldType := fun k => match k with
  | 0 => .int
  | 1 => .int
  | 2 => .int
  | 3 => .int
  | 4 => .int
  | 5 => .int
  | 6 => .int
  | 7 => .array .int
  | 8 => .array .int
  | 9 => .array .int
  | 10 => .array .int
  | 11 => .array .int
  | 12 => .array .int
  | 13 => .array .int
  | 14 => .array .int
  | 15 => .array .int
  | 16 => .array .int
  | 17 => .array .int
  | 18 => .array .int
  | 19 => .array .int
  | 20 => .array .int
  | 21 => .array .long
  | 22 => .array .long
  | 23 => .array .int
  | 24 => .array .int
  | 25 => .int
  | 26 => .int
  | 27 => .int
  | 28 => .int
  | 29 => .int
  | 30 => .array .int
  | 31 => .array .int
  | 32 => .array .int
  | 33 => .array .int
  | 34 => .array .int
  | 35 => .array .int
  | 36 => .array .int
  | 37 => .int
  | _ => .boolean
abbrev wsX80 : List Cond := u_ws RX8 TX8 39
theorem nmX8 : ∀ a, a < 39 → ∀ b, b < 39 → a ≠ b → (TX8 a).2.1 ≠ (TX8 b).2.1 := by decide +kernel
theorem tyX8_ok : ∀ k, k < 39 → parseFieldDescriptor (TX8 k).2.2.1 = some (tyX8 k) := by decide +kernel
abbrev cX8_init : ByteArray := prog_10_method_1_code
def yX8_init : MethodName := ⟨RX8, "<init>", "()V"⟩
abbrev cX8_no : ByteArray := prog_10_method_2_code
def yX8_no : MethodName := ⟨RX8, "no", "(I)I"⟩
abbrev cX8_noTen : ByteArray := prog_10_method_3_code
def yX8_noTen : MethodName := ⟨RX8, "noTen", "(I)I"⟩
abbrev cX8_isShelf : ByteArray := prog_10_method_4_code
def yX8_isShelf : MethodName := ⟨RX8, "isShelf", "(I)Z"⟩
abbrev cX8_isStuff : ByteArray := prog_10_method_5_code
def yX8_isStuff : MethodName := ⟨RX8, "isStuff", "(I)Z"⟩
abbrev cX8_isCell : ByteArray := prog_10_method_6_code
def yX8_isCell : MethodName := ⟨RX8, "isCell", "(I)Z"⟩
abbrev cX8_row : ByteArray := prog_10_method_7_code
def yX8_row : MethodName := ⟨RX8, "row", "(III)I"⟩
abbrev cX8_set : ByteArray := prog_10_method_8_code
def yX8_set : MethodName := ⟨RX8, "set", "(IIJ)I"⟩
abbrev cX8_copy : ByteArray := prog_10_method_9_code
def yX8_copy : MethodName := ⟨RX8, "copy", "(IIIII)I"⟩
abbrev cX8_element : ByteArray := prog_10_method_10_code
def yX8_element : MethodName := ⟨RX8, "element", "(II)J"⟩
abbrev cX8_show : ByteArray := prog_10_method_11_code
def yX8_show : MethodName := ⟨RX8, "show", "(II)I"⟩
abbrev cX8_holds : ByteArray := prog_10_method_12_code
def yX8_holds : MethodName := ⟨RX8, "holds", "(I)I"⟩
abbrev cX8_count : ByteArray := prog_10_method_13_code
def yX8_count : MethodName := ⟨RX8, "count", "([II)I"⟩
abbrev cX8_says : ByteArray := prog_10_method_14_code
def yX8_says : MethodName := ⟨RX8, "says", "(II)I"⟩
abbrev cX8_wanted : ByteArray := prog_10_method_15_code
def yX8_wanted : MethodName := ⟨RX8, "wanted", "(I)I"⟩
abbrev cX8_intAt : ByteArray := prog_10_method_16_code
def yX8_intAt : MethodName := ⟨RX8, "intAt", "(II)I"⟩
abbrev cX8_bars : ByteArray := prog_10_method_17_code
def yX8_bars : MethodName := ⟨RX8, "bars", "(II)I"⟩
abbrev cX8_adds : ByteArray := prog_10_method_18_code
def yX8_adds : MethodName := ⟨RX8, "adds", "(III)I"⟩
abbrev cX8_stuff : ByteArray := prog_10_method_19_code
def yX8_stuff : MethodName := ⟨RX8, "stuff", "(III)I"⟩
abbrev cX8_stuffOf : ByteArray := prog_10_method_20_code
def yX8_stuffOf : MethodName := ⟨RX8, "stuffOf", "(II)I"⟩
abbrev cX8_cell : ByteArray := prog_10_method_21_code
def yX8_cell : MethodName := ⟨RX8, "cell", "(II)I"⟩
abbrev cX8_cellOf : ByteArray := prog_10_method_22_code
def yX8_cellOf : MethodName := ⟨RX8, "cellOf", "(II)I"⟩
abbrev cX8_plan : ByteArray := prog_10_method_23_code
def yX8_plan : MethodName := ⟨RX8, "plan", "(II)I"⟩
abbrev cX8_mayLay : ByteArray := prog_10_method_24_code
def yX8_mayLay : MethodName := ⟨RX8, "mayLay", "(I)Z"⟩
abbrev cX8_may : ByteArray := prog_10_method_25_code
def yX8_may : MethodName := ⟨RX8, "may", "(I)I"⟩
abbrev cX8_laidMany : ByteArray := prog_10_method_26_code
def yX8_laidMany : MethodName := ⟨RX8, "laidMany", "()I"⟩
abbrev cX8_puts : ByteArray := prog_10_method_27_code
def yX8_puts : MethodName := ⟨RX8, "puts", "(II)V"⟩
abbrev cX8_lay : ByteArray := prog_10_method_28_code
def yX8_lay : MethodName := ⟨RX8, "lay", "(II)I"⟩
abbrev cX8_strip : ByteArray := prog_10_method_29_code
def yX8_strip : MethodName := ⟨RX8, "strip", "(I)I"⟩
abbrev cX8_spray : ByteArray := prog_10_method_30_code
def yX8_spray : MethodName := ⟨RX8, "spray", "()I"⟩
abbrev cX8_side : ByteArray := prog_10_method_31_code
def yX8_side : MethodName := ⟨RX8, "side", "(I)I"⟩
abbrev cX8_inSun : ByteArray := prog_10_method_32_code
def yX8_inSun : MethodName := ⟨RX8, "inSun", "(I)Z"⟩
abbrev cX8_dries : ByteArray := prog_10_method_33_code
def yX8_dries : MethodName := ⟨RX8, "dries", "(I)I"⟩
abbrev cX8_goes : ByteArray := prog_10_method_34_code
def yX8_goes : MethodName := ⟨RX8, "goes", "(I)V"⟩
abbrev cX8_isHour : ByteArray := prog_10_method_35_code
def yX8_isHour : MethodName := ⟨RX8, "isHour", "(I)Z"⟩
abbrev cX8_hours : ByteArray := prog_10_method_36_code
def yX8_hours : MethodName := ⟨RX8, "hours", "(I)I"⟩
abbrev cX8_faulty : ByteArray := prog_10_method_37_code
def yX8_faulty : MethodName := ⟨RX8, "faulty", "(I)Z"⟩
abbrev cX8_isWordAt : ByteArray := prog_10_method_38_code
def yX8_isWordAt : MethodName := ⟨RX8, "isWordAt", "(I)Z"⟩
abbrev cX8_word : ByteArray := prog_10_method_39_code
def yX8_word : MethodName := ⟨RX8, "word", "()I"⟩
abbrev cX8_isDigit : ByteArray := prog_10_method_40_code
def yX8_isDigit : MethodName := ⟨RX8, "isDigit", "()Z"⟩
abbrev cX8_number : ByteArray := prog_10_method_41_code
def yX8_number : MethodName := ⟨RX8, "number", "()Z"⟩
abbrev cX8_isSo : ByteArray := prog_10_method_42_code
def yX8_isSo : MethodName := ⟨RX8, "isSo", "(II)Z"⟩
abbrev cX8_item : ByteArray := prog_10_method_43_code
def yX8_item : MethodName := ⟨RX8, "item", "()Z"⟩
abbrev cX8_carries : ByteArray := prog_10_method_44_code
def yX8_carries : MethodName := ⟨RX8, "carries", "([II[IIZ)I"⟩
abbrev cX8_whole : ByteArray := prog_10_method_45_code
def yX8_whole : MethodName := ⟨RX8, "whole", "([IZ)V"⟩
abbrev cX8_village : ByteArray := prog_10_method_46_code
def yX8_village : MethodName := ⟨RX8, "village", "(I)I"⟩
abbrev cX8_fault : ByteArray := prog_10_method_47_code
def yX8_fault : MethodName := ⟨RX8, "fault", "()I"⟩
abbrev cX8_brownOf : ByteArray := prog_10_method_48_code
def yX8_brownOf : MethodName := ⟨RX8, "brownOf", "(IIII)I"⟩
abbrev cX8_freshOf : ByteArray := prog_10_method_49_code
def yX8_freshOf : MethodName := ⟨RX8, "freshOf", "(IIII)I"⟩
abbrev cX8_freshAt : ByteArray := prog_10_method_50_code
def yX8_freshAt : MethodName := ⟨RX8, "freshAt", "(II)I"⟩
abbrev cX8_beautyAt : ByteArray := prog_10_method_51_code
def yX8_beautyAt : MethodName := ⟨RX8, "beautyAt", "(II)I"⟩
abbrev cX8_looksAt : ByteArray := prog_10_method_52_code
def yX8_looksAt : MethodName := ⟨RX8, "looksAt", "(I)I"⟩
abbrev cX8_fresh : ByteArray := prog_10_method_53_code
def yX8_fresh : MethodName := ⟨RX8, "fresh", "(II)I"⟩
abbrev cX8_beauty : ByteArray := prog_10_method_54_code
def yX8_beauty : MethodName := ⟨RX8, "beauty", "(II)I"⟩
abbrev cX8_looks : ByteArray := prog_10_method_55_code
def yX8_looks : MethodName := ⟨RX8, "looks", "(I)I"⟩
abbrev cX8_areHours : ByteArray := prog_10_method_56_code
def yX8_areHours : MethodName := ⟨RX8, "areHours", "(II)Z"⟩
abbrev cX8_worst : ByteArray := prog_10_method_57_code
def yX8_worst : MethodName := ⟨RX8, "worst", "(II)I"⟩
abbrev cX8_allOf : ByteArray := prog_10_method_58_code
def yX8_allOf : MethodName := ⟨RX8, "allOf", "(II)I"⟩
abbrev cX8_all : ByteArray := prog_10_method_59_code
def yX8_all : MethodName := ⟨RX8, "all", "(II)I"⟩
abbrev cX8_best : ByteArray := prog_10_method_60_code
def yX8_best : MethodName := ⟨RX8, "best", "(IIII)I"⟩
abbrev cX8_turn : ByteArray := prog_10_method_61_code
def yX8_turn : MethodName := ⟨RX8, "turn", "(II)I"⟩
abbrev cX8_isOpen : ByteArray := prog_10_method_62_code
def yX8_isOpen : MethodName := ⟨RX8, "isOpen", "(I)Z"⟩
abbrev cX8_next : ByteArray := prog_10_method_63_code
def yX8_next : MethodName := ⟨RX8, "next", "()I"⟩
abbrev cX8_takesAt : ByteArray := prog_10_method_64_code
def yX8_takesAt : MethodName := ⟨RX8, "takesAt", "(I)I"⟩
abbrev cX8_seeks : ByteArray := prog_10_method_65_code
def yX8_seeks : MethodName := ⟨RX8, "seeks", "(II)V"⟩
abbrev cX8_leftOf : ByteArray := prog_10_method_66_code
def yX8_leftOf : MethodName := ⟨RX8, "leftOf", "(I)I"⟩
abbrev cX8_doneBy : ByteArray := prog_10_method_67_code
def yX8_doneBy : MethodName := ⟨RX8, "doneBy", "(I)I"⟩
abbrev cX8_done : ByteArray := prog_10_method_68_code
def yX8_done : MethodName := ⟨RX8, "done", "(I)I"⟩
abbrev cX8_women : ByteArray := prog_10_method_69_code
def yX8_women : MethodName := ⟨RX8, "women", "(I)I"⟩
abbrev cX8_dry : ByteArray := prog_10_method_70_code
def yX8_dry : MethodName := ⟨RX8, "dry", "()I"⟩
abbrev cX8_sprayings : ByteArray := prog_10_method_71_code
def yX8_sprayings : MethodName := ⟨RX8, "sprayings", "(I)I"⟩
abbrev cX8_was : ByteArray := prog_10_method_72_code
def yX8_was : MethodName := ⟨RX8, "was", "(IIII)I"⟩
abbrev cX8_age : ByteArray := prog_10_method_73_code
def yX8_age : MethodName := ⟨RX8, "age", "(II)I"⟩
abbrev cX8_lacking : ByteArray := prog_10_method_74_code
def yX8_lacking : MethodName := ⟨RX8, "lacking", "()I"⟩
abbrev cX8_wrong : ByteArray := prog_10_method_75_code
def yX8_wrong : MethodName := ⟨RX8, "wrong", "()I"⟩
abbrev cX8_judge : ByteArray := prog_10_method_76_code
def yX8_judge : MethodName := ⟨RX8, "judge", "(II)I"⟩
abbrev cX8_draw : ByteArray := prog_10_method_77_code
def yX8_draw : MethodName := ⟨RX8, "draw", "(I)I"⟩
abbrev cX8_days : ByteArray := prog_10_method_78_code
def yX8_days : MethodName := ⟨RX8, "days", "(I)I"⟩
abbrev cX8_seed : ByteArray := prog_10_method_79_code
def yX8_seed : MethodName := ⟨RX8, "seed", "(I)I"⟩
abbrev cX8_body : ByteArray := prog_10_method_80_code
def yX8_body : MethodName := ⟨RX8, "body", "(I)V"⟩
abbrev cX8_laying : ByteArray := prog_10_method_81_code
def yX8_laying : MethodName := ⟨RX8, "laying", "(II)I"⟩
abbrev cX8_fading : ByteArray := prog_10_method_82_code
def yX8_fading : MethodName := ⟨RX8, "fading", "(II)I"⟩
abbrev cX8_showing : ByteArray := prog_10_method_83_code
def yX8_showing : MethodName := ⟨RX8, "showing", "(II)I"⟩
abbrev cX8_act : ByteArray := prog_10_method_84_code
def yX8_act : MethodName := ⟨RX8, "act", "(III)I"⟩
abbrev cX8_trace : ByteArray := prog_10_method_85_code
def yX8_trace : MethodName := ⟨RX8, "trace", "(I)I"⟩
abbrev cX8_image : ByteArray := prog_10_method_86_code
def yX8_image : MethodName := ⟨RX8, "image", "()I"⟩
abbrev cX8_restore : ByteArray := prog_10_method_87_code
def yX8_restore : MethodName := ⟨RX8, "restore", "()I"⟩
abbrev cX8_status : ByteArray := prog_10_method_88_code
def yX8_status : MethodName := ⟨RX8, "status", "(I)I"⟩
def RJx145de : String := "java/io/Serializable"
def RJx9f9b0 : String := "java/lang/CharSequence"
def RJxb160c : String := "java/lang/Comparable"
def RJ9 : String := "java/lang/Math"
abbrev cJ9_max_7cf53 : ByteArray := prog_11_method_65_code
def yJ9_max_7cf53 : MethodName := ⟨RJ9, "max", "(II)I"⟩
abbrev cJ9_min_7cf53 : ByteArray := prog_11_method_69_code
def yJ9_min_7cf53 : MethodName := ⟨RJ9, "min", "(II)I"⟩
def RJ0 : String := "java/lang/String"
abbrev cJ0_length_8abf5 : ByteArray := prog_12_method_54_code
def yJ0_length_8abf5 : MethodName := ⟨RJ0, "length", "()I"⟩
abbrev cJ0_charAt_5068e : ByteArray := prog_12_method_56_code
def yJ0_charAt_5068e : MethodName := ⟨RJ0, "charAt", "(I)C"⟩
abbrev cJ0_coder_7d493 : ByteArray := prog_12_method_152_code
def yJ0_coder_7d493 : MethodName := ⟨RJ0, "coder", "()B"⟩
abbrev cJ0_isLatin1_aae02 : ByteArray := prog_12_method_154_code
def yJ0_isLatin1_aae02 : MethodName := ⟨RJ0, "isLatin1", "()Z"⟩
abbrev cJ0_checkIndex_df160 : ByteArray := prog_12_method_155_code
def yJ0_checkIndex_df160 : MethodName := ⟨RJ0, "checkIndex", "(II)V"⟩
def RJ1 : String := "java/lang/StringLatin1"
abbrev cJ1_charAt_3b067 : ByteArray := prog_13_method_2_code
def yJ1_charAt_3b067 : MethodName := ⟨RJ1, "charAt", "([BI)C"⟩
def RJ2 : String := "java/lang/StringUTF16"
abbrev cJ2_getChar_3b067 : ByteArray := prog_14_method_5_code
def yJ2_getChar_3b067 : MethodName := ⟨RJ2, "getChar", "([BI)C"⟩
abbrev cJ2_length_9d52b : ByteArray := prog_14_method_6_code
def yJ2_length_9d52b : MethodName := ⟨RJ2, "length", "([B)I"⟩
abbrev cJ2_charAt_3b067 : ByteArray := prog_14_method_83_code
def yJ2_charAt_3b067 : MethodName := ⟨RJ2, "charAt", "([BI)C"⟩
abbrev cJ2_checkIndex_2214a : ByteArray := prog_14_method_91_code
def yJ2_checkIndex_2214a : MethodName := ⟨RJ2, "checkIndex", "(I[B)V"⟩
def RJ10 : String := "java/lang/System"
def RJxfd54e : String := "java/lang/constant/Constable"
def RJx3cf43 : String := "java/lang/constant/ConstantDesc"
def RJ7 : String := "java/util/Arrays"
abbrev cJ7_fill_d0a16 : ByteArray := prog_16_method_101_code
def yJ7_fill_d0a16 : MethodName := ⟨RJ7, "fill", "([JJ)V"⟩
abbrev cJ7_fill_53178 : ByteArray := prog_16_method_103_code
def yJ7_fill_53178 : MethodName := ⟨RJ7, "fill", "([II)V"⟩
def RJ3 : String := "jdk/internal/util/Preconditions"
abbrev cJ3_checkIndex_8e157 : ByteArray := prog_17_method_11_code
def yJ3_checkIndex_8e157 : MethodName := ⟨RJ3, "checkIndex", "(IILjava/util/function/BiFunction;)I"⟩
def RL : String := "PetalPicturesLaw"
abbrev vwCl : List vw_C := [(RX0, TX0, 5), (RX1, TX1, 15), (RX3, TX3, 5), (RX5, TX5, 4), (RX6, TX6, 3), (RX7, TX7, 10), (RX8, TX8, 39)]
theorem iwX0 : ∀ w ∈ wsX00, w ∈ lw_tbl := by decide +kernel
theorem iwX1 : ∀ w ∈ wsX10, w ∈ lw_tbl := by decide +kernel
theorem iwX3 : ∀ w ∈ wsX30, w ∈ lw_tbl := by decide +kernel
theorem iwX5 : ∀ w ∈ wsX50, w ∈ lw_tbl := by decide +kernel
theorem iwX6 : ∀ w ∈ wsX60, w ∈ lw_tbl := by decide +kernel
theorem iwX7 : ∀ w ∈ wsX70, w ∈ lw_tbl := by decide +kernel
theorem iwX8 : ∀ w ∈ wsX80, w ∈ lw_tbl := by decide +kernel

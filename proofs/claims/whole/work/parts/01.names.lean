-- ===== PART A: goes FIRST, ahead of the names: the tables' words, and 'selects' of the private methods out of them =====
/-- a private method of a class that the tables say can be made, by its rows of tables_1 -/
def lw_okq (q : MethodName × Nat) : Prop := (q.1.cls ≠ "java/lang/invoke/MethodHandle" ∧ q.1.cls ≠ "java/lang/invoke/VarHandle") ∧ Cond.instantiable q.1.cls q.2 ∈ tables_1 ∧ Cond.privateMethod q.1 ∈ tables_1 ∧ Cond.instanceMethod q.1 ∈ tables_1
theorem lw_p0 : lw_okq (⟨"PassedDark", "refuse", "(I)I"⟩, 14) := ⟨⟨by decide +kernel, by decide +kernel⟩, List.mem_of_getElem? (i := 22) (by decide +kernel), List.mem_of_getElem? (i := 426) (by decide +kernel), List.mem_of_getElem? (i := 427) (by decide +kernel)⟩
theorem lw_p1 : lw_okq (⟨"PassedDark", "refuseAct", "(I)Z"⟩, 14) := ⟨⟨by decide +kernel, by decide +kernel⟩, List.mem_of_getElem? (i := 22) (by decide +kernel), List.mem_of_getElem? (i := 438) (by decide +kernel), List.mem_of_getElem? (i := 439) (by decide +kernel)⟩
theorem lw_p2 : lw_okq (⟨"PassedDark$Course", "clear", "()V"⟩, 17) := ⟨⟨by decide +kernel, by decide +kernel⟩, List.mem_of_getElem? (i := 292) (by decide +kernel), List.mem_of_getElem? (i := 450) (by decide +kernel), List.mem_of_getElem? (i := 451) (by decide +kernel)⟩
theorem lw_p3 : lw_okq (⟨"PassedDark$Course", "goesOn", "()Z"⟩, 17) := ⟨⟨by decide +kernel, by decide +kernel⟩, List.mem_of_getElem? (i := 292) (by decide +kernel), List.mem_of_getElem? (i := 554) (by decide +kernel), List.mem_of_getElem? (i := 555) (by decide +kernel)⟩
theorem lw_p4 : lw_okq (⟨"PassedDark$Course", "roomFor", "(II)I"⟩, 17) := ⟨⟨by decide +kernel, by decide +kernel⟩, List.mem_of_getElem? (i := 292) (by decide +kernel), List.mem_of_getElem? (i := 561) (by decide +kernel), List.mem_of_getElem? (i := 562) (by decide +kernel)⟩
theorem lw_p5 : lw_okq (⟨"PassedDark$Grammar", "test", "()V"⟩, 4) := ⟨⟨by decide +kernel, by decide +kernel⟩, List.mem_of_getElem? (i := 114) (by decide +kernel), List.mem_of_getElem? (i := 573) (by decide +kernel), List.mem_of_getElem? (i := 574) (by decide +kernel)⟩
theorem lw_p6 : lw_okq (⟨"PassedDark$Grammar", "both", "()V"⟩, 4) := ⟨⟨by decide +kernel, by decide +kernel⟩, List.mem_of_getElem? (i := 114) (by decide +kernel), List.mem_of_getElem? (i := 577) (by decide +kernel), List.mem_of_getElem? (i := 578) (by decide +kernel)⟩
theorem lw_p7 : lw_okq (⟨"PassedDark$Grammar", "fact", "()V"⟩, 4) := ⟨⟨by decide +kernel, by decide +kernel⟩, List.mem_of_getElem? (i := 114) (by decide +kernel), List.mem_of_getElem? (i := 581) (by decide +kernel), List.mem_of_getElem? (i := 582) (by decide +kernel)⟩
theorem lw_p8 : lw_okq (⟨"PassedDark$Grammar", "opens", "()Z"⟩, 4) := ⟨⟨by decide +kernel, by decide +kernel⟩, List.mem_of_getElem? (i := 114) (by decide +kernel), List.mem_of_getElem? (i := 586) (by decide +kernel), List.mem_of_getElem? (i := 587) (by decide +kernel)⟩
theorem lw_p9 : lw_okq (⟨"PassedDark$Grammar", "sum", "()V"⟩, 4) := ⟨⟨by decide +kernel, by decide +kernel⟩, List.mem_of_getElem? (i := 114) (by decide +kernel), List.mem_of_getElem? (i := 602) (by decide +kernel), List.mem_of_getElem? (i := 603) (by decide +kernel)⟩
theorem lw_p10 : lw_okq (⟨"PassedDark$Grammar", "product", "()V"⟩, 4) := ⟨⟨by decide +kernel, by decide +kernel⟩, List.mem_of_getElem? (i := 114) (by decide +kernel), List.mem_of_getElem? (i := 606) (by decide +kernel), List.mem_of_getElem? (i := 607) (by decide +kernel)⟩
theorem lw_p11 : lw_okq (⟨"PassedDark$Grammar", "part", "()V"⟩, 4) := ⟨⟨by decide +kernel, by decide +kernel⟩, List.mem_of_getElem? (i := 114) (by decide +kernel), List.mem_of_getElem? (i := 610) (by decide +kernel), List.mem_of_getElem? (i := 611) (by decide +kernel)⟩
theorem lw_p12 : lw_okq (⟨"PassedDark$Grammar", "pair", "(I)V"⟩, 4) := ⟨⟨by decide +kernel, by decide +kernel⟩, List.mem_of_getElem? (i := 114) (by decide +kernel), List.mem_of_getElem? (i := 616) (by decide +kernel), List.mem_of_getElem? (i := 617) (by decide +kernel)⟩
theorem lw_p13 : lw_okq (⟨"PassedDark$Grammar", "allows", "(I)Z"⟩, 4) := ⟨⟨by decide +kernel, by decide +kernel⟩, List.mem_of_getElem? (i := 114) (by decide +kernel), List.mem_of_getElem? (i := 620) (by decide +kernel), List.mem_of_getElem? (i := 621) (by decide +kernel)⟩
theorem lw_p14 : lw_okq (⟨"PassedDark$Grammar", "named", "(I)V"⟩, 4) := ⟨⟨by decide +kernel, by decide +kernel⟩, List.mem_of_getElem? (i := 114) (by decide +kernel), List.mem_of_getElem? (i := 624) (by decide +kernel), List.mem_of_getElem? (i := 625) (by decide +kernel)⟩
theorem lw_p15 : lw_okq (⟨"PassedDark$Course", "readBearer", "()V"⟩, 17) := ⟨⟨by decide +kernel, by decide +kernel⟩, List.mem_of_getElem? (i := 292) (by decide +kernel), List.mem_of_getElem? (i := 629) (by decide +kernel), List.mem_of_getElem? (i := 630) (by decide +kernel)⟩
def lw_privs_1 : List (MethodName × Nat) := [(⟨"PassedDark", "refuse", "(I)I"⟩, 14), (⟨"PassedDark", "refuseAct", "(I)Z"⟩, 14), (⟨"PassedDark$Course", "clear", "()V"⟩, 17), (⟨"PassedDark$Course", "goesOn", "()Z"⟩, 17), (⟨"PassedDark$Course", "roomFor", "(II)I"⟩, 17), (⟨"PassedDark$Grammar", "test", "()V"⟩, 4), (⟨"PassedDark$Grammar", "both", "()V"⟩, 4), (⟨"PassedDark$Grammar", "fact", "()V"⟩, 4), (⟨"PassedDark$Grammar", "opens", "()Z"⟩, 4), (⟨"PassedDark$Grammar", "sum", "()V"⟩, 4), (⟨"PassedDark$Grammar", "product", "()V"⟩, 4), (⟨"PassedDark$Grammar", "part", "()V"⟩, 4), (⟨"PassedDark$Grammar", "pair", "(I)V"⟩, 4), (⟨"PassedDark$Grammar", "allows", "(I)Z"⟩, 4), (⟨"PassedDark$Grammar", "named", "(I)V"⟩, 4), (⟨"PassedDark$Course", "readBearer", "()V"⟩, 17)]
theorem lw_r1 : ∀ q ∈ lw_privs_1, lw_okq q := List.forall_mem_cons.mpr ⟨lw_p0, List.forall_mem_cons.mpr ⟨lw_p1, List.forall_mem_cons.mpr ⟨lw_p2, List.forall_mem_cons.mpr ⟨lw_p3, List.forall_mem_cons.mpr ⟨lw_p4, List.forall_mem_cons.mpr ⟨lw_p5, List.forall_mem_cons.mpr ⟨lw_p6, List.forall_mem_cons.mpr ⟨lw_p7, List.forall_mem_cons.mpr ⟨lw_p8, List.forall_mem_cons.mpr ⟨lw_p9, List.forall_mem_cons.mpr ⟨lw_p10, List.forall_mem_cons.mpr ⟨lw_p11, List.forall_mem_cons.mpr ⟨lw_p12, List.forall_mem_cons.mpr ⟨lw_p13, List.forall_mem_cons.mpr ⟨lw_p14, List.forall_mem_cons.mpr ⟨lw_p15, fun _ h => absurd h List.not_mem_nil⟩⟩⟩⟩⟩⟩⟩⟩⟩⟩⟩⟩⟩⟩⟩⟩
theorem lw_p16 : lw_okq (⟨"PassedDark$Course", "readName", "(I)V"⟩, 17) := ⟨⟨by decide +kernel, by decide +kernel⟩, List.mem_of_getElem? (i := 292) (by decide +kernel), List.mem_of_getElem? (i := 633) (by decide +kernel), List.mem_of_getElem? (i := 634) (by decide +kernel)⟩
theorem lw_p17 : lw_okq (⟨"PassedDark$Course", "writeName", "(I)V"⟩, 17) := ⟨⟨by decide +kernel, by decide +kernel⟩, List.mem_of_getElem? (i := 292) (by decide +kernel), List.mem_of_getElem? (i := 638) (by decide +kernel), List.mem_of_getElem? (i := 639) (by decide +kernel)⟩
theorem lw_p18 : lw_okq (⟨"PassedDark$Course", "isTaken", "(I)Z"⟩, 17) := ⟨⟨by decide +kernel, by decide +kernel⟩, List.mem_of_getElem? (i := 292) (by decide +kernel), List.mem_of_getElem? (i := 643) (by decide +kernel), List.mem_of_getElem? (i := 644) (by decide +kernel)⟩
theorem lw_p19 : lw_okq (⟨"PassedDark$Course", "isSameName", "(II)Z"⟩, 17) := ⟨⟨by decide +kernel, by decide +kernel⟩, List.mem_of_getElem? (i := 292) (by decide +kernel), List.mem_of_getElem? (i := 651) (by decide +kernel), List.mem_of_getElem? (i := 652) (by decide +kernel)⟩
theorem lw_p20 : lw_okq (⟨"PassedDark$Course", "readNumber", "(III)I"⟩, 17) := ⟨⟨by decide +kernel, by decide +kernel⟩, List.mem_of_getElem? (i := 292) (by decide +kernel), List.mem_of_getElem? (i := 663) (by decide +kernel), List.mem_of_getElem? (i := 664) (by decide +kernel)⟩
theorem lw_p21 : lw_okq (⟨"PassedDark$Course", "readHouse", "()V"⟩, 17) := ⟨⟨by decide +kernel, by decide +kernel⟩, List.mem_of_getElem? (i := 292) (by decide +kernel), List.mem_of_getElem? (i := 667) (by decide +kernel), List.mem_of_getElem? (i := 668) (by decide +kernel)⟩
theorem lw_p22 : lw_okq (⟨"PassedDark$Course", "putDefaults", "()V"⟩, 17) := ⟨⟨by decide +kernel, by decide +kernel⟩, List.mem_of_getElem? (i := 292) (by decide +kernel), List.mem_of_getElem? (i := 671) (by decide +kernel), List.mem_of_getElem? (i := 672) (by decide +kernel)⟩
theorem lw_p23 : lw_okq (⟨"PassedDark", "keepFault", "()V"⟩, 14) := ⟨⟨by decide +kernel, by decide +kernel⟩, List.mem_of_getElem? (i := 22) (by decide +kernel), List.mem_of_getElem? (i := 677) (by decide +kernel), List.mem_of_getElem? (i := 678) (by decide +kernel)⟩
theorem lw_p24 : lw_okq (⟨"PassedDark", "takesNow", "(I)Z"⟩, 14) := ⟨⟨by decide +kernel, by decide +kernel⟩, List.mem_of_getElem? (i := 22) (by decide +kernel), List.mem_of_getElem? (i := 736) (by decide +kernel), List.mem_of_getElem? (i := 737) (by decide +kernel)⟩
theorem lw_p25 : lw_okq (⟨"PassedDark$Script", "pop", "()I"⟩, 7) := ⟨⟨by decide +kernel, by decide +kernel⟩, List.mem_of_getElem? (i := 82) (by decide +kernel), List.mem_of_getElem? (i := 764) (by decide +kernel), List.mem_of_getElem? (i := 765) (by decide +kernel)⟩
theorem lw_p26 : lw_okq (⟨"PassedDark", "comes", "(III)Z"⟩, 14) := ⟨⟨by decide +kernel, by decide +kernel⟩, List.mem_of_getElem? (i := 22) (by decide +kernel), List.mem_of_getElem? (i := 809) (by decide +kernel), List.mem_of_getElem? (i := 810) (by decide +kernel)⟩
theorem lw_p27 : lw_okq (⟨"PassedDark$Ahead", "alight", "(LPassedDark$Course;LPassedDark$State;I)I"⟩, 10) := ⟨⟨by decide +kernel, by decide +kernel⟩, List.mem_of_getElem? (i := 156) (by decide +kernel), List.mem_of_getElem? (i := 919) (by decide +kernel), List.mem_of_getElem? (i := 920) (by decide +kernel)⟩
theorem lw_p28 : lw_okq (⟨"PassedDark$Ahead", "agrees", "(I)Z"⟩, 10) := ⟨⟨by decide +kernel, by decide +kernel⟩, List.mem_of_getElem? (i := 156) (by decide +kernel), List.mem_of_getElem? (i := 941) (by decide +kernel), List.mem_of_getElem? (i := 942) (by decide +kernel)⟩
theorem lw_p29 : lw_okq (⟨"PassedDark$Ahead", "countPassers", "(LPassedDark$Course;LPassedDark$State;I)V"⟩, 10) := ⟨⟨by decide +kernel, by decide +kernel⟩, List.mem_of_getElem? (i := 156) (by decide +kernel), List.mem_of_getElem? (i := 958) (by decide +kernel), List.mem_of_getElem? (i := 959) (by decide +kernel)⟩
theorem lw_p30 : lw_okq (⟨"PassedDark", "waits", "(I)Z"⟩, 14) := ⟨⟨by decide +kernel, by decide +kernel⟩, List.mem_of_getElem? (i := 22) (by decide +kernel), List.mem_of_getElem? (i := 966) (by decide +kernel), List.mem_of_getElem? (i := 967) (by decide +kernel)⟩
theorem lw_p31 : lw_okq (⟨"PassedDark", "runKept", "()I"⟩, 14) := ⟨⟨by decide +kernel, by decide +kernel⟩, List.mem_of_getElem? (i := 22) (by decide +kernel), List.mem_of_getElem? (i := 993) (by decide +kernel), List.mem_of_getElem? (i := 994) (by decide +kernel)⟩
def lw_privs_2 : List (MethodName × Nat) := [(⟨"PassedDark$Course", "readName", "(I)V"⟩, 17), (⟨"PassedDark$Course", "writeName", "(I)V"⟩, 17), (⟨"PassedDark$Course", "isTaken", "(I)Z"⟩, 17), (⟨"PassedDark$Course", "isSameName", "(II)Z"⟩, 17), (⟨"PassedDark$Course", "readNumber", "(III)I"⟩, 17), (⟨"PassedDark$Course", "readHouse", "()V"⟩, 17), (⟨"PassedDark$Course", "putDefaults", "()V"⟩, 17), (⟨"PassedDark", "keepFault", "()V"⟩, 14), (⟨"PassedDark", "takesNow", "(I)Z"⟩, 14), (⟨"PassedDark$Script", "pop", "()I"⟩, 7), (⟨"PassedDark", "comes", "(III)Z"⟩, 14), (⟨"PassedDark$Ahead", "alight", "(LPassedDark$Course;LPassedDark$State;I)I"⟩, 10), (⟨"PassedDark$Ahead", "agrees", "(I)Z"⟩, 10), (⟨"PassedDark$Ahead", "countPassers", "(LPassedDark$Course;LPassedDark$State;I)V"⟩, 10), (⟨"PassedDark", "waits", "(I)Z"⟩, 14), (⟨"PassedDark", "runKept", "()I"⟩, 14)]
theorem lw_r2 : ∀ q ∈ lw_privs_2, lw_okq q := List.forall_mem_cons.mpr ⟨lw_p16, List.forall_mem_cons.mpr ⟨lw_p17, List.forall_mem_cons.mpr ⟨lw_p18, List.forall_mem_cons.mpr ⟨lw_p19, List.forall_mem_cons.mpr ⟨lw_p20, List.forall_mem_cons.mpr ⟨lw_p21, List.forall_mem_cons.mpr ⟨lw_p22, List.forall_mem_cons.mpr ⟨lw_p23, List.forall_mem_cons.mpr ⟨lw_p24, List.forall_mem_cons.mpr ⟨lw_p25, List.forall_mem_cons.mpr ⟨lw_p26, List.forall_mem_cons.mpr ⟨lw_p27, List.forall_mem_cons.mpr ⟨lw_p28, List.forall_mem_cons.mpr ⟨lw_p29, List.forall_mem_cons.mpr ⟨lw_p30, List.forall_mem_cons.mpr ⟨lw_p31, fun _ h => absurd h List.not_mem_nil⟩⟩⟩⟩⟩⟩⟩⟩⟩⟩⟩⟩⟩⟩⟩⟩
theorem lw_p32 : lw_okq (⟨"PassedDark", "draw", "(I)I"⟩, 14) := ⟨⟨by decide +kernel, by decide +kernel⟩, List.mem_of_getElem? (i := 22) (by decide +kernel), List.mem_of_getElem? (i := 1006) (by decide +kernel), List.mem_of_getElem? (i := 1007) (by decide +kernel)⟩
theorem lw_p33 : lw_okq (⟨"PassedDark$Question", "valueOf", "(LPassedDark$Course;LPassedDark$State;I)I"⟩, 5) := ⟨⟨by decide +kernel, by decide +kernel⟩, List.mem_of_getElem? (i := 76) (by decide +kernel), List.mem_of_getElem? (i := 1051) (by decide +kernel), List.mem_of_getElem? (i := 1052) (by decide +kernel)⟩
theorem lw_p34 : lw_okq (⟨"PassedDark$Picture", "drawHead", "(IIII)V"⟩, 2) := ⟨⟨by decide +kernel, by decide +kernel⟩, List.mem_of_getElem? (i := 276) (by decide +kernel), List.mem_of_getElem? (i := 1082) (by decide +kernel), List.mem_of_getElem? (i := 1083) (by decide +kernel)⟩
theorem lw_p35 : lw_okq (⟨"PassedDark$Picture", "add", "(I)V"⟩, 2) := ⟨⟨by decide +kernel, by decide +kernel⟩, List.mem_of_getElem? (i := 276) (by decide +kernel), List.mem_of_getElem? (i := 1086) (by decide +kernel), List.mem_of_getElem? (i := 1087) (by decide +kernel)⟩
theorem lw_p36 : lw_okq (⟨"PassedDark$Picture", "finish", "()V"⟩, 2) := ⟨⟨by decide +kernel, by decide +kernel⟩, List.mem_of_getElem? (i := 276) (by decide +kernel), List.mem_of_getElem? (i := 1092) (by decide +kernel), List.mem_of_getElem? (i := 1093) (by decide +kernel)⟩
theorem lw_p37 : lw_okq (⟨"PassedDarkModel", "courseTold", "()V"⟩, 110) := ⟨⟨by decide +kernel, by decide +kernel⟩, List.mem_of_getElem? (i := 1136) (by decide +kernel), List.mem_of_getElem? (i := 1487) (by decide +kernel), List.mem_of_getElem? (i := 1488) (by decide +kernel)⟩
theorem lw_p38 : lw_okq (⟨"PassedDarkModel", "asks", "([C)V"⟩, 110) := ⟨⟨by decide +kernel, by decide +kernel⟩, List.mem_of_getElem? (i := 1136) (by decide +kernel), List.mem_of_getElem? (i := 1491) (by decide +kernel), List.mem_of_getElem? (i := 1492) (by decide +kernel)⟩
theorem lw_p39 : lw_okq (⟨"PassedDarkModel", "takes", "([C)Z"⟩, 110) := ⟨⟨by decide +kernel, by decide +kernel⟩, List.mem_of_getElem? (i := 1136) (by decide +kernel), List.mem_of_getElem? (i := 1495) (by decide +kernel), List.mem_of_getElem? (i := 1496) (by decide +kernel)⟩
theorem lw_p40 : lw_okq (⟨"PassedDarkModel", "isHere", "([C)Z"⟩, 110) := ⟨⟨by decide +kernel, by decide +kernel⟩, List.mem_of_getElem? (i := 1136) (by decide +kernel), List.mem_of_getElem? (i := 1499) (by decide +kernel), List.mem_of_getElem? (i := 1500) (by decide +kernel)⟩
theorem lw_p41 : lw_okq (⟨"PassedDarkModel", "look", "()I"⟩, 110) := ⟨⟨by decide +kernel, by decide +kernel⟩, List.mem_of_getElem? (i := 1136) (by decide +kernel), List.mem_of_getElem? (i := 1503) (by decide +kernel), List.mem_of_getElem? (i := 1504) (by decide +kernel)⟩
theorem lw_p42 : lw_okq (⟨"PassedDarkModel", "fail", "(II)V"⟩, 110) := ⟨⟨by decide +kernel, by decide +kernel⟩, List.mem_of_getElem? (i := 1136) (by decide +kernel), List.mem_of_getElem? (i := 1510) (by decide +kernel), List.mem_of_getElem? (i := 1511) (by decide +kernel)⟩
theorem lw_p43 : lw_okq (⟨"PassedDarkModel", "number", "(II)I"⟩, 110) := ⟨⟨by decide +kernel, by decide +kernel⟩, List.mem_of_getElem? (i := 1136) (by decide +kernel), List.mem_of_getElem? (i := 1514) (by decide +kernel), List.mem_of_getElem? (i := 1515) (by decide +kernel)⟩
theorem lw_p44 : lw_okq (⟨"PassedDarkModel", "asksSign", "(I)V"⟩, 110) := ⟨⟨by decide +kernel, by decide +kernel⟩, List.mem_of_getElem? (i := 1136) (by decide +kernel), List.mem_of_getElem? (i := 1524) (by decide +kernel), List.mem_of_getElem? (i := 1525) (by decide +kernel)⟩
theorem lw_p45 : lw_okq (⟨"PassedDarkModel", "takesSign", "(I)Z"⟩, 110) := ⟨⟨by decide +kernel, by decide +kernel⟩, List.mem_of_getElem? (i := 1136) (by decide +kernel), List.mem_of_getElem? (i := 1528) (by decide +kernel), List.mem_of_getElem? (i := 1529) (by decide +kernel)⟩
theorem lw_p46 : lw_okq (⟨"PassedDarkModel", "statementTold", "()V"⟩, 110) := ⟨⟨by decide +kernel, by decide +kernel⟩, List.mem_of_getElem? (i := 1136) (by decide +kernel), List.mem_of_getElem? (i := 1532) (by decide +kernel), List.mem_of_getElem? (i := 1533) (by decide +kernel)⟩
theorem lw_p47 : lw_okq (⟨"PassedDarkModel", "bearerTold", "(I)V"⟩, 110) := ⟨⟨by decide +kernel, by decide +kernel⟩, List.mem_of_getElem? (i := 1136) (by decide +kernel), List.mem_of_getElem? (i := 1536) (by decide +kernel), List.mem_of_getElem? (i := 1537) (by decide +kernel)⟩
def lw_privs_3 : List (MethodName × Nat) := [(⟨"PassedDark", "draw", "(I)I"⟩, 14), (⟨"PassedDark$Question", "valueOf", "(LPassedDark$Course;LPassedDark$State;I)I"⟩, 5), (⟨"PassedDark$Picture", "drawHead", "(IIII)V"⟩, 2), (⟨"PassedDark$Picture", "add", "(I)V"⟩, 2), (⟨"PassedDark$Picture", "finish", "()V"⟩, 2), (⟨"PassedDarkModel", "courseTold", "()V"⟩, 110), (⟨"PassedDarkModel", "asks", "([C)V"⟩, 110), (⟨"PassedDarkModel", "takes", "([C)Z"⟩, 110), (⟨"PassedDarkModel", "isHere", "([C)Z"⟩, 110), (⟨"PassedDarkModel", "look", "()I"⟩, 110), (⟨"PassedDarkModel", "fail", "(II)V"⟩, 110), (⟨"PassedDarkModel", "number", "(II)I"⟩, 110), (⟨"PassedDarkModel", "asksSign", "(I)V"⟩, 110), (⟨"PassedDarkModel", "takesSign", "(I)Z"⟩, 110), (⟨"PassedDarkModel", "statementTold", "()V"⟩, 110), (⟨"PassedDarkModel", "bearerTold", "(I)V"⟩, 110)]
theorem lw_r3 : ∀ q ∈ lw_privs_3, lw_okq q := List.forall_mem_cons.mpr ⟨lw_p32, List.forall_mem_cons.mpr ⟨lw_p33, List.forall_mem_cons.mpr ⟨lw_p34, List.forall_mem_cons.mpr ⟨lw_p35, List.forall_mem_cons.mpr ⟨lw_p36, List.forall_mem_cons.mpr ⟨lw_p37, List.forall_mem_cons.mpr ⟨lw_p38, List.forall_mem_cons.mpr ⟨lw_p39, List.forall_mem_cons.mpr ⟨lw_p40, List.forall_mem_cons.mpr ⟨lw_p41, List.forall_mem_cons.mpr ⟨lw_p42, List.forall_mem_cons.mpr ⟨lw_p43, List.forall_mem_cons.mpr ⟨lw_p44, List.forall_mem_cons.mpr ⟨lw_p45, List.forall_mem_cons.mpr ⟨lw_p46, List.forall_mem_cons.mpr ⟨lw_p47, fun _ h => absurd h List.not_mem_nil⟩⟩⟩⟩⟩⟩⟩⟩⟩⟩⟩⟩⟩⟩⟩⟩
theorem lw_p48 : lw_okq (⟨"PassedDarkModel", "newName", "()J"⟩, 110) := ⟨⟨by decide +kernel, by decide +kernel⟩, List.mem_of_getElem? (i := 1136) (by decide +kernel), List.mem_of_getElem? (i := 1540) (by decide +kernel), List.mem_of_getElem? (i := 1541) (by decide +kernel)⟩
theorem lw_p49 : lw_okq (⟨"PassedDarkModel", "name", "()J"⟩, 110) := ⟨⟨by decide +kernel, by decide +kernel⟩, List.mem_of_getElem? (i := 1136) (by decide +kernel), List.mem_of_getElem? (i := 1544) (by decide +kernel), List.mem_of_getElem? (i := 1545) (by decide +kernel)⟩
theorem lw_p50 : lw_okq (⟨"PassedDarkModel", "isOwnHere", "()Z"⟩, 110) := ⟨⟨by decide +kernel, by decide +kernel⟩, List.mem_of_getElem? (i := 1136) (by decide +kernel), List.mem_of_getElem? (i := 1548) (by decide +kernel), List.mem_of_getElem? (i := 1549) (by decide +kernel)⟩
theorem lw_p51 : lw_okq (⟨"PassedDarkModel", "houseTold", "(I)V"⟩, 110) := ⟨⟨by decide +kernel, by decide +kernel⟩, List.mem_of_getElem? (i := 1136) (by decide +kernel), List.mem_of_getElem? (i := 1554) (by decide +kernel), List.mem_of_getElem? (i := 1555) (by decide +kernel)⟩
theorem lw_p52 : lw_okq (⟨"PassedDarkModel", "codesTold", "(II)V"⟩, 110) := ⟨⟨by decide +kernel, by decide +kernel⟩, List.mem_of_getElem? (i := 1136) (by decide +kernel), List.mem_of_getElem? (i := 1558) (by decide +kernel), List.mem_of_getElem? (i := 1559) (by decide +kernel)⟩
theorem lw_p53 : lw_okq (⟨"PassedDarkModel", "qTest", "()V"⟩, 110) := ⟨⟨by decide +kernel, by decide +kernel⟩, List.mem_of_getElem? (i := 1136) (by decide +kernel), List.mem_of_getElem? (i := 1562) (by decide +kernel), List.mem_of_getElem? (i := 1563) (by decide +kernel)⟩
theorem lw_p54 : lw_okq (⟨"PassedDarkModel", "qOpens", "(II)V"⟩, 110) := ⟨⟨by decide +kernel, by decide +kernel⟩, List.mem_of_getElem? (i := 1136) (by decide +kernel), List.mem_of_getElem? (i := 1566) (by decide +kernel), List.mem_of_getElem? (i := 1567) (by decide +kernel)⟩
theorem lw_p55 : lw_okq (⟨"PassedDarkModel", "qFact", "()V"⟩, 110) := ⟨⟨by decide +kernel, by decide +kernel⟩, List.mem_of_getElem? (i := 1136) (by decide +kernel), List.mem_of_getElem? (i := 1570) (by decide +kernel), List.mem_of_getElem? (i := 1571) (by decide +kernel)⟩
theorem lw_p56 : lw_okq (⟨"PassedDarkModel", "qCode", "(I)V"⟩, 110) := ⟨⟨by decide +kernel, by decide +kernel⟩, List.mem_of_getElem? (i := 1136) (by decide +kernel), List.mem_of_getElem? (i := 1574) (by decide +kernel), List.mem_of_getElem? (i := 1575) (by decide +kernel)⟩
theorem lw_p57 : lw_okq (⟨"PassedDarkModel", "qSums", "()V"⟩, 110) := ⟨⟨by decide +kernel, by decide +kernel⟩, List.mem_of_getElem? (i := 1136) (by decide +kernel), List.mem_of_getElem? (i := 1578) (by decide +kernel), List.mem_of_getElem? (i := 1579) (by decide +kernel)⟩
theorem lw_p58 : lw_okq (⟨"PassedDarkModel", "qPartTold", "()V"⟩, 110) := ⟨⟨by decide +kernel, by decide +kernel⟩, List.mem_of_getElem? (i := 1136) (by decide +kernel), List.mem_of_getElem? (i := 1582) (by decide +kernel), List.mem_of_getElem? (i := 1583) (by decide +kernel)⟩
theorem lw_p59 : lw_okq (⟨"PassedDarkModel", "qWordOf", "(II)I"⟩, 110) := ⟨⟨by decide +kernel, by decide +kernel⟩, List.mem_of_getElem? (i := 1136) (by decide +kernel), List.mem_of_getElem? (i := 1586) (by decide +kernel), List.mem_of_getElem? (i := 1587) (by decide +kernel)⟩
theorem lw_p60 : lw_okq (⟨"PassedDarkModel", "qWordHere", "()I"⟩, 110) := ⟨⟨by decide +kernel, by decide +kernel⟩, List.mem_of_getElem? (i := 1136) (by decide +kernel), List.mem_of_getElem? (i := 1590) (by decide +kernel), List.mem_of_getElem? (i := 1591) (by decide +kernel)⟩
theorem lw_p61 : lw_okq (⟨"PassedDarkModel", "isAllowed", "(I)Z"⟩, 110) := ⟨⟨by decide +kernel, by decide +kernel⟩, List.mem_of_getElem? (i := 1136) (by decide +kernel), List.mem_of_getElem? (i := 1594) (by decide +kernel), List.mem_of_getElem? (i := 1595) (by decide +kernel)⟩
theorem lw_p62 : lw_okq (⟨"PassedDarkModel", "qAsksWord", "(I)V"⟩, 110) := ⟨⟨by decide +kernel, by decide +kernel⟩, List.mem_of_getElem? (i := 1136) (by decide +kernel), List.mem_of_getElem? (i := 1601) (by decide +kernel), List.mem_of_getElem? (i := 1602) (by decide +kernel)⟩
theorem lw_p63 : lw_okq (⟨"PassedDarkModel", "qEndsPart", "()V"⟩, 110) := ⟨⟨by decide +kernel, by decide +kernel⟩, List.mem_of_getElem? (i := 1136) (by decide +kernel), List.mem_of_getElem? (i := 1605) (by decide +kernel), List.mem_of_getElem? (i := 1606) (by decide +kernel)⟩
def lw_privs_4 : List (MethodName × Nat) := [(⟨"PassedDarkModel", "newName", "()J"⟩, 110), (⟨"PassedDarkModel", "name", "()J"⟩, 110), (⟨"PassedDarkModel", "isOwnHere", "()Z"⟩, 110), (⟨"PassedDarkModel", "houseTold", "(I)V"⟩, 110), (⟨"PassedDarkModel", "codesTold", "(II)V"⟩, 110), (⟨"PassedDarkModel", "qTest", "()V"⟩, 110), (⟨"PassedDarkModel", "qOpens", "(II)V"⟩, 110), (⟨"PassedDarkModel", "qFact", "()V"⟩, 110), (⟨"PassedDarkModel", "qCode", "(I)V"⟩, 110), (⟨"PassedDarkModel", "qSums", "()V"⟩, 110), (⟨"PassedDarkModel", "qPartTold", "()V"⟩, 110), (⟨"PassedDarkModel", "qWordOf", "(II)I"⟩, 110), (⟨"PassedDarkModel", "qWordHere", "()I"⟩, 110), (⟨"PassedDarkModel", "isAllowed", "(I)Z"⟩, 110), (⟨"PassedDarkModel", "qAsksWord", "(I)V"⟩, 110), (⟨"PassedDarkModel", "qEndsPart", "()V"⟩, 110)]
theorem lw_r4 : ∀ q ∈ lw_privs_4, lw_okq q := List.forall_mem_cons.mpr ⟨lw_p48, List.forall_mem_cons.mpr ⟨lw_p49, List.forall_mem_cons.mpr ⟨lw_p50, List.forall_mem_cons.mpr ⟨lw_p51, List.forall_mem_cons.mpr ⟨lw_p52, List.forall_mem_cons.mpr ⟨lw_p53, List.forall_mem_cons.mpr ⟨lw_p54, List.forall_mem_cons.mpr ⟨lw_p55, List.forall_mem_cons.mpr ⟨lw_p56, List.forall_mem_cons.mpr ⟨lw_p57, List.forall_mem_cons.mpr ⟨lw_p58, List.forall_mem_cons.mpr ⟨lw_p59, List.forall_mem_cons.mpr ⟨lw_p60, List.forall_mem_cons.mpr ⟨lw_p61, List.forall_mem_cons.mpr ⟨lw_p62, List.forall_mem_cons.mpr ⟨lw_p63, fun _ h => absurd h List.not_mem_nil⟩⟩⟩⟩⟩⟩⟩⟩⟩⟩⟩⟩⟩⟩⟩⟩
theorem lw_p64 : lw_okq (⟨"PassedDarkModel", "qDrops", "()V"⟩, 110) := ⟨⟨by decide +kernel, by decide +kernel⟩, List.mem_of_getElem? (i := 1136) (by decide +kernel), List.mem_of_getElem? (i := 1609) (by decide +kernel), List.mem_of_getElem? (i := 1610) (by decide +kernel)⟩
theorem lw_p65 : lw_okq (⟨"PassedDarkModel", "qGoesOn", "()Z"⟩, 110) := ⟨⟨by decide +kernel, by decide +kernel⟩, List.mem_of_getElem? (i := 1136) (by decide +kernel), List.mem_of_getElem? (i := 1613) (by decide +kernel), List.mem_of_getElem? (i := 1614) (by decide +kernel)⟩
theorem lw_p66 : lw_okq (⟨"PassedDarkModel", "qBracket", "()I"⟩, 110) := ⟨⟨by decide +kernel, by decide +kernel⟩, List.mem_of_getElem? (i := 1136) (by decide +kernel), List.mem_of_getElem? (i := 1617) (by decide +kernel), List.mem_of_getElem? (i := 1618) (by decide +kernel)⟩
theorem lw_p67 : lw_okq (⟨"PassedDarkModel", "qDropsToBracket", "()V"⟩, 110) := ⟨⟨by decide +kernel, by decide +kernel⟩, List.mem_of_getElem? (i := 1136) (by decide +kernel), List.mem_of_getElem? (i := 1624) (by decide +kernel), List.mem_of_getElem? (i := 1625) (by decide +kernel)⟩
theorem lw_p68 : lw_okq (⟨"PassedDarkModel", "qIsOn", "(I)Z"⟩, 110) := ⟨⟨by decide +kernel, by decide +kernel⟩, List.mem_of_getElem? (i := 1136) (by decide +kernel), List.mem_of_getElem? (i := 1628) (by decide +kernel), List.mem_of_getElem? (i := 1629) (by decide +kernel)⟩
theorem lw_p69 : lw_okq (⟨"PassedDarkModel", "qDropsNots", "()V"⟩, 110) := ⟨⟨by decide +kernel, by decide +kernel⟩, List.mem_of_getElem? (i := 1136) (by decide +kernel), List.mem_of_getElem? (i := 1632) (by decide +kernel), List.mem_of_getElem? (i := 1633) (by decide +kernel)⟩
theorem lw_p70 : lw_okq (⟨"PassedDarkModel", "qGoesOnTest", "()Z"⟩, 110) := ⟨⟨by decide +kernel, by decide +kernel⟩, List.mem_of_getElem? (i := 1136) (by decide +kernel), List.mem_of_getElem? (i := 1636) (by decide +kernel), List.mem_of_getElem? (i := 1637) (by decide +kernel)⟩
theorem lw_p71 : lw_okq (⟨"PassedDarkModel", "qHasSquare", "()Z"⟩, 110) := ⟨⟨by decide +kernel, by decide +kernel⟩, List.mem_of_getElem? (i := 1136) (by decide +kernel), List.mem_of_getElem? (i := 1640) (by decide +kernel), List.mem_of_getElem? (i := 1641) (by decide +kernel)⟩
theorem lw_p72 : lw_okq (⟨"PassedDarkModel", "stands", "()V"⟩, 110) := ⟨⟨by decide +kernel, by decide +kernel⟩, List.mem_of_getElem? (i := 1136) (by decide +kernel), List.mem_of_getElem? (i := 1644) (by decide +kernel), List.mem_of_getElem? (i := 1645) (by decide +kernel)⟩
theorem lw_p73 : lw_okq (⟨"PassedDarkModel", "passedSet", "()I"⟩, 110) := ⟨⟨by decide +kernel, by decide +kernel⟩, List.mem_of_getElem? (i := 1136) (by decide +kernel), List.mem_of_getElem? (i := 1656) (by decide +kernel), List.mem_of_getElem? (i := 1657) (by decide +kernel)⟩
theorem lw_p74 : lw_okq (⟨"PassedDarkModel", "houseMany", "()I"⟩, 110) := ⟨⟨by decide +kernel, by decide +kernel⟩, List.mem_of_getElem? (i := 1136) (by decide +kernel), List.mem_of_getElem? (i := 1660) (by decide +kernel), List.mem_of_getElem? (i := 1661) (by decide +kernel)⟩
theorem lw_p75 : lw_okq (⟨"PassedDarkModel", "isThrough", "()Z"⟩, 110) := ⟨⟨by decide +kernel, by decide +kernel⟩, List.mem_of_getElem? (i := 1136) (by decide +kernel), List.mem_of_getElem? (i := 1667) (by decide +kernel), List.mem_of_getElem? (i := 1668) (by decide +kernel)⟩
theorem lw_p76 : lw_okq (⟨"PassedDarkModel", "mileMany", "()I"⟩, 110) := ⟨⟨by decide +kernel, by decide +kernel⟩, List.mem_of_getElem? (i := 1136) (by decide +kernel), List.mem_of_getElem? (i := 1671) (by decide +kernel), List.mem_of_getElem? (i := 1672) (by decide +kernel)⟩
theorem lw_p77 : lw_okq (⟨"PassedDarkModel", "isOut", "()Z"⟩, 110) := ⟨⟨by decide +kernel, by decide +kernel⟩, List.mem_of_getElem? (i := 1136) (by decide +kernel), List.mem_of_getElem? (i := 1675) (by decide +kernel), List.mem_of_getElem? (i := 1676) (by decide +kernel)⟩
theorem lw_p78 : lw_okq (⟨"PassedDarkModel", "isBearer", "(J)Z"⟩, 110) := ⟨⟨by decide +kernel, by decide +kernel⟩, List.mem_of_getElem? (i := 1136) (by decide +kernel), List.mem_of_getElem? (i := 1688) (by decide +kernel), List.mem_of_getElem? (i := 1689) (by decide +kernel)⟩
theorem lw_p79 : lw_okq (⟨"PassedDarkModel", "bearerMany", "()I"⟩, 110) := ⟨⟨by decide +kernel, by decide +kernel⟩, List.mem_of_getElem? (i := 1136) (by decide +kernel), List.mem_of_getElem? (i := 1692) (by decide +kernel), List.mem_of_getElem? (i := 1693) (by decide +kernel)⟩
def lw_privs_5 : List (MethodName × Nat) := [(⟨"PassedDarkModel", "qDrops", "()V"⟩, 110), (⟨"PassedDarkModel", "qGoesOn", "()Z"⟩, 110), (⟨"PassedDarkModel", "qBracket", "()I"⟩, 110), (⟨"PassedDarkModel", "qDropsToBracket", "()V"⟩, 110), (⟨"PassedDarkModel", "qIsOn", "(I)Z"⟩, 110), (⟨"PassedDarkModel", "qDropsNots", "()V"⟩, 110), (⟨"PassedDarkModel", "qGoesOnTest", "()Z"⟩, 110), (⟨"PassedDarkModel", "qHasSquare", "()Z"⟩, 110), (⟨"PassedDarkModel", "stands", "()V"⟩, 110), (⟨"PassedDarkModel", "passedSet", "()I"⟩, 110), (⟨"PassedDarkModel", "houseMany", "()I"⟩, 110), (⟨"PassedDarkModel", "isThrough", "()Z"⟩, 110), (⟨"PassedDarkModel", "mileMany", "()I"⟩, 110), (⟨"PassedDarkModel", "isOut", "()Z"⟩, 110), (⟨"PassedDarkModel", "isBearer", "(J)Z"⟩, 110), (⟨"PassedDarkModel", "bearerMany", "()I"⟩, 110)]
theorem lw_r5 : ∀ q ∈ lw_privs_5, lw_okq q := List.forall_mem_cons.mpr ⟨lw_p64, List.forall_mem_cons.mpr ⟨lw_p65, List.forall_mem_cons.mpr ⟨lw_p66, List.forall_mem_cons.mpr ⟨lw_p67, List.forall_mem_cons.mpr ⟨lw_p68, List.forall_mem_cons.mpr ⟨lw_p69, List.forall_mem_cons.mpr ⟨lw_p70, List.forall_mem_cons.mpr ⟨lw_p71, List.forall_mem_cons.mpr ⟨lw_p72, List.forall_mem_cons.mpr ⟨lw_p73, List.forall_mem_cons.mpr ⟨lw_p74, List.forall_mem_cons.mpr ⟨lw_p75, List.forall_mem_cons.mpr ⟨lw_p76, List.forall_mem_cons.mpr ⟨lw_p77, List.forall_mem_cons.mpr ⟨lw_p78, List.forall_mem_cons.mpr ⟨lw_p79, fun _ h => absurd h List.not_mem_nil⟩⟩⟩⟩⟩⟩⟩⟩⟩⟩⟩⟩⟩⟩⟩⟩
theorem lw_p80 : lw_okq (⟨"PassedDarkModel", "mileOf", "(I)I"⟩, 110) := ⟨⟨by decide +kernel, by decide +kernel⟩, List.mem_of_getElem? (i := 1136) (by decide +kernel), List.mem_of_getElem? (i := 1696) (by decide +kernel), List.mem_of_getElem? (i := 1697) (by decide +kernel)⟩
theorem lw_p81 : lw_okq (⟨"PassedDarkModel", "paceOf", "(I)I"⟩, 110) := ⟨⟨by decide +kernel, by decide +kernel⟩, List.mem_of_getElem? (i := 1136) (by decide +kernel), List.mem_of_getElem? (i := 1700) (by decide +kernel), List.mem_of_getElem? (i := 1701) (by decide +kernel)⟩
theorem lw_p82 : lw_okq (⟨"PassedDarkModel", "doesTake", "(I)Z"⟩, 110) := ⟨⟨by decide +kernel, by decide +kernel⟩, List.mem_of_getElem? (i := 1136) (by decide +kernel), List.mem_of_getElem? (i := 1704) (by decide +kernel), List.mem_of_getElem? (i := 1705) (by decide +kernel)⟩
theorem lw_p83 : lw_okq (⟨"PassedDarkModel", "isCoded", "(I)Z"⟩, 110) := ⟨⟨by decide +kernel, by decide +kernel⟩, List.mem_of_getElem? (i := 1136) (by decide +kernel), List.mem_of_getElem? (i := 1708) (by decide +kernel), List.mem_of_getElem? (i := 1709) (by decide +kernel)⟩
theorem lw_p84 : lw_okq (⟨"PassedDarkModel", "lightAt", "(II)I"⟩, 110) := ⟨⟨by decide +kernel, by decide +kernel⟩, List.mem_of_getElem? (i := 1136) (by decide +kernel), List.mem_of_getElem? (i := 1712) (by decide +kernel), List.mem_of_getElem? (i := 1713) (by decide +kernel)⟩
theorem lw_p85 : lw_okq (⟨"PassedDarkModel", "codesTell", "(I)J"⟩, 110) := ⟨⟨by decide +kernel, by decide +kernel⟩, List.mem_of_getElem? (i := 1136) (by decide +kernel), List.mem_of_getElem? (i := 1716) (by decide +kernel), List.mem_of_getElem? (i := 1717) (by decide +kernel)⟩
theorem lw_p86 : lw_okq (⟨"PassedDarkModel", "qPuts", "(J)V"⟩, 110) := ⟨⟨by decide +kernel, by decide +kernel⟩, List.mem_of_getElem? (i := 1136) (by decide +kernel), List.mem_of_getElem? (i := 1720) (by decide +kernel), List.mem_of_getElem? (i := 1721) (by decide +kernel)⟩
theorem lw_p87 : lw_okq (⟨"PassedDarkModel", "qPartOf", "(II)J"⟩, 110) := ⟨⟨by decide +kernel, by decide +kernel⟩, List.mem_of_getElem? (i := 1136) (by decide +kernel), List.mem_of_getElem? (i := 1724) (by decide +kernel), List.mem_of_getElem? (i := 1725) (by decide +kernel)⟩
theorem lw_p88 : lw_okq (⟨"PassedDarkModel", "qJoins", "(I)V"⟩, 110) := ⟨⟨by decide +kernel, by decide +kernel⟩, List.mem_of_getElem? (i := 1136) (by decide +kernel), List.mem_of_getElem? (i := 1728) (by decide +kernel), List.mem_of_getElem? (i := 1729) (by decide +kernel)⟩
theorem lw_p89 : lw_okq (⟨"PassedDarkModel", "isHouse", "(I)Z"⟩, 110) := ⟨⟨by decide +kernel, by decide +kernel⟩, List.mem_of_getElem? (i := 1136) (by decide +kernel), List.mem_of_getElem? (i := 1750) (by decide +kernel), List.mem_of_getElem? (i := 1751) (by decide +kernel)⟩
theorem lw_p90 : lw_okq (⟨"PassedDarkModel", "houseMile", "(I)I"⟩, 110) := ⟨⟨by decide +kernel, by decide +kernel⟩, List.mem_of_getElem? (i := 1136) (by decide +kernel), List.mem_of_getElem? (i := 1754) (by decide +kernel), List.mem_of_getElem? (i := 1755) (by decide +kernel)⟩
theorem lw_p91 : lw_okq (⟨"PassedDarkModel", "isMile", "(I)Z"⟩, 110) := ⟨⟨by decide +kernel, by decide +kernel⟩, List.mem_of_getElem? (i := 1136) (by decide +kernel), List.mem_of_getElem? (i := 1762) (by decide +kernel), List.mem_of_getElem? (i := 1763) (by decide +kernel)⟩
theorem lw_p92 : lw_okq (⟨"PassedDarkModel", "isAhead", "(III)Z"⟩, 110) := ⟨⟨by decide +kernel, by decide +kernel⟩, List.mem_of_getElem? (i := 1136) (by decide +kernel), List.mem_of_getElem? (i := 1766) (by decide +kernel), List.mem_of_getElem? (i := 1767) (by decide +kernel)⟩
theorem lw_p93 : lw_okq (⟨"PassedDarkModel", "putsAside", "()V"⟩, 110) := ⟨⟨by decide +kernel, by decide +kernel⟩, List.mem_of_getElem? (i := 1136) (by decide +kernel), List.mem_of_getElem? (i := 1779) (by decide +kernel), List.mem_of_getElem? (i := 1780) (by decide +kernel)⟩
theorem lw_p94 : lw_okq (⟨"PassedDarkModel", "hoursGo", "(I)V"⟩, 110) := ⟨⟨by decide +kernel, by decide +kernel⟩, List.mem_of_getElem? (i := 1136) (by decide +kernel), List.mem_of_getElem? (i := 1783) (by decide +kernel), List.mem_of_getElem? (i := 1784) (by decide +kernel)⟩
theorem lw_p95 : lw_okq (⟨"PassedDarkModel", "hourGoes", "()V"⟩, 110) := ⟨⟨by decide +kernel, by decide +kernel⟩, List.mem_of_getElem? (i := 1136) (by decide +kernel), List.mem_of_getElem? (i := 1787) (by decide +kernel), List.mem_of_getElem? (i := 1788) (by decide +kernel)⟩
def lw_privs_6 : List (MethodName × Nat) := [(⟨"PassedDarkModel", "mileOf", "(I)I"⟩, 110), (⟨"PassedDarkModel", "paceOf", "(I)I"⟩, 110), (⟨"PassedDarkModel", "doesTake", "(I)Z"⟩, 110), (⟨"PassedDarkModel", "isCoded", "(I)Z"⟩, 110), (⟨"PassedDarkModel", "lightAt", "(II)I"⟩, 110), (⟨"PassedDarkModel", "codesTell", "(I)J"⟩, 110), (⟨"PassedDarkModel", "qPuts", "(J)V"⟩, 110), (⟨"PassedDarkModel", "qPartOf", "(II)J"⟩, 110), (⟨"PassedDarkModel", "qJoins", "(I)V"⟩, 110), (⟨"PassedDarkModel", "isHouse", "(I)Z"⟩, 110), (⟨"PassedDarkModel", "houseMile", "(I)I"⟩, 110), (⟨"PassedDarkModel", "isMile", "(I)Z"⟩, 110), (⟨"PassedDarkModel", "isAhead", "(III)Z"⟩, 110), (⟨"PassedDarkModel", "putsAside", "()V"⟩, 110), (⟨"PassedDarkModel", "hoursGo", "(I)V"⟩, 110), (⟨"PassedDarkModel", "hourGoes", "()V"⟩, 110)]
theorem lw_r6 : ∀ q ∈ lw_privs_6, lw_okq q := List.forall_mem_cons.mpr ⟨lw_p80, List.forall_mem_cons.mpr ⟨lw_p81, List.forall_mem_cons.mpr ⟨lw_p82, List.forall_mem_cons.mpr ⟨lw_p83, List.forall_mem_cons.mpr ⟨lw_p84, List.forall_mem_cons.mpr ⟨lw_p85, List.forall_mem_cons.mpr ⟨lw_p86, List.forall_mem_cons.mpr ⟨lw_p87, List.forall_mem_cons.mpr ⟨lw_p88, List.forall_mem_cons.mpr ⟨lw_p89, List.forall_mem_cons.mpr ⟨lw_p90, List.forall_mem_cons.mpr ⟨lw_p91, List.forall_mem_cons.mpr ⟨lw_p92, List.forall_mem_cons.mpr ⟨lw_p93, List.forall_mem_cons.mpr ⟨lw_p94, List.forall_mem_cons.mpr ⟨lw_p95, fun _ h => absurd h List.not_mem_nil⟩⟩⟩⟩⟩⟩⟩⟩⟩⟩⟩⟩⟩⟩⟩⟩
theorem lw_p96 : lw_okq (⟨"PassedDarkModel", "isRun", "()V"⟩, 110) := ⟨⟨by decide +kernel, by decide +kernel⟩, List.mem_of_getElem? (i := 1136) (by decide +kernel), List.mem_of_getElem? (i := 1791) (by decide +kernel), List.mem_of_getElem? (i := 1792) (by decide +kernel)⟩
theorem lw_p97 : lw_okq (⟨"PassedDarkModel", "takerAt", "(I)I"⟩, 110) := ⟨⟨by decide +kernel, by decide +kernel⟩, List.mem_of_getElem? (i := 1136) (by decide +kernel), List.mem_of_getElem? (i := 1795) (by decide +kernel), List.mem_of_getElem? (i := 1796) (by decide +kernel)⟩
theorem lw_p98 : lw_okq (⟨"PassedDarkModel", "isAside", "(I)Z"⟩, 110) := ⟨⟨by decide +kernel, by decide +kernel⟩, List.mem_of_getElem? (i := 1136) (by decide +kernel), List.mem_of_getElem? (i := 1799) (by decide +kernel), List.mem_of_getElem? (i := 1800) (by decide +kernel)⟩
theorem lw_p99 : lw_okq (⟨"PassedDarkModel", "passes", "(II)V"⟩, 110) := ⟨⟨by decide +kernel, by decide +kernel⟩, List.mem_of_getElem? (i := 1136) (by decide +kernel), List.mem_of_getElem? (i := 1803) (by decide +kernel), List.mem_of_getElem? (i := 1804) (by decide +kernel)⟩
theorem lw_p100 : lw_okq (⟨"PassedDarkModel", "waned", "(IIZ)I"⟩, 110) := ⟨⟨by decide +kernel, by decide +kernel⟩, List.mem_of_getElem? (i := 1136) (by decide +kernel), List.mem_of_getElem? (i := 1807) (by decide +kernel), List.mem_of_getElem? (i := 1808) (by decide +kernel)⟩
theorem lw_p101 : lw_okq (⟨"PassedDarkModel", "isKept", "(I)V"⟩, 110) := ⟨⟨by decide +kernel, by decide +kernel⟩, List.mem_of_getElem? (i := 1136) (by decide +kernel), List.mem_of_getElem? (i := 1811) (by decide +kernel), List.mem_of_getElem? (i := 1812) (by decide +kernel)⟩
theorem lw_p102 : lw_okq (⟨"PassedDarkModel", "takesBack", "()V"⟩, 110) := ⟨⟨by decide +kernel, by decide +kernel⟩, List.mem_of_getElem? (i := 1136) (by decide +kernel), List.mem_of_getElem? (i := 1815) (by decide +kernel), List.mem_of_getElem? (i := 1816) (by decide +kernel)⟩
theorem lw_p103 : lw_okq (⟨"PassedDarkModel", "triesAnew", "()V"⟩, 110) := ⟨⟨by decide +kernel, by decide +kernel⟩, List.mem_of_getElem? (i := 1136) (by decide +kernel), List.mem_of_getElem? (i := 1819) (by decide +kernel), List.mem_of_getElem? (i := 1820) (by decide +kernel)⟩
theorem lw_p104 : lw_okq (⟨"PassedDarkModel", "hoursThrough", "()I"⟩, 110) := ⟨⟨by decide +kernel, by decide +kernel⟩, List.mem_of_getElem? (i := 1136) (by decide +kernel), List.mem_of_getElem? (i := 1827) (by decide +kernel), List.mem_of_getElem? (i := 1828) (by decide +kernel)⟩
theorem lw_p105 : lw_okq (⟨"PassedDarkModel", "strongThrough", "()I"⟩, 110) := ⟨⟨by decide +kernel, by decide +kernel⟩, List.mem_of_getElem? (i := 1136) (by decide +kernel), List.mem_of_getElem? (i := 1839) (by decide +kernel), List.mem_of_getElem? (i := 1840) (by decide +kernel)⟩
theorem lw_p106 : lw_okq (⟨"PassedDarkModel", "trips", "(I)V"⟩, 110) := ⟨⟨by decide +kernel, by decide +kernel⟩, List.mem_of_getElem? (i := 1136) (by decide +kernel), List.mem_of_getElem? (i := 1855) (by decide +kernel), List.mem_of_getElem? (i := 1856) (by decide +kernel)⟩
theorem lw_p107 : lw_okq (⟨"PassedDarkModel", "refuses", "(I)I"⟩, 110) := ⟨⟨by decide +kernel, by decide +kernel⟩, List.mem_of_getElem? (i := 1136) (by decide +kernel), List.mem_of_getElem? (i := 1863) (by decide +kernel), List.mem_of_getElem? (i := 1864) (by decide +kernel)⟩
theorem lw_p108 : lw_okq (⟨"PassedDarkModel", "laysStrengths", "()V"⟩, 110) := ⟨⟨by decide +kernel, by decide +kernel⟩, List.mem_of_getElem? (i := 1136) (by decide +kernel), List.mem_of_getElem? (i := 1871) (by decide +kernel), List.mem_of_getElem? (i := 1872) (by decide +kernel)⟩
theorem lw_p109 : lw_okq (⟨"PassedDarkModel", "isAsSeen", "(I)Z"⟩, 110) := ⟨⟨by decide +kernel, by decide +kernel⟩, List.mem_of_getElem? (i := 1136) (by decide +kernel), List.mem_of_getElem? (i := 1875) (by decide +kernel), List.mem_of_getElem? (i := 1876) (by decide +kernel)⟩
theorem lw_p110 : lw_okq (⟨"PassedDarkModel", "mostAlike", "(II)I"⟩, 110) := ⟨⟨by decide +kernel, by decide +kernel⟩, List.mem_of_getElem? (i := 1136) (by decide +kernel), List.mem_of_getElem? (i := 1883) (by decide +kernel), List.mem_of_getElem? (i := 1884) (by decide +kernel)⟩
theorem lw_p111 : lw_okq (⟨"PassedDarkModel", "doesWait", "(I)Z"⟩, 110) := ⟨⟨by decide +kernel, by decide +kernel⟩, List.mem_of_getElem? (i := 1136) (by decide +kernel), List.mem_of_getElem? (i := 1895) (by decide +kernel), List.mem_of_getElem? (i := 1896) (by decide +kernel)⟩
def lw_privs_7 : List (MethodName × Nat) := [(⟨"PassedDarkModel", "isRun", "()V"⟩, 110), (⟨"PassedDarkModel", "takerAt", "(I)I"⟩, 110), (⟨"PassedDarkModel", "isAside", "(I)Z"⟩, 110), (⟨"PassedDarkModel", "passes", "(II)V"⟩, 110), (⟨"PassedDarkModel", "waned", "(IIZ)I"⟩, 110), (⟨"PassedDarkModel", "isKept", "(I)V"⟩, 110), (⟨"PassedDarkModel", "takesBack", "()V"⟩, 110), (⟨"PassedDarkModel", "triesAnew", "()V"⟩, 110), (⟨"PassedDarkModel", "hoursThrough", "()I"⟩, 110), (⟨"PassedDarkModel", "strongThrough", "()I"⟩, 110), (⟨"PassedDarkModel", "trips", "(I)V"⟩, 110), (⟨"PassedDarkModel", "refuses", "(I)I"⟩, 110), (⟨"PassedDarkModel", "laysStrengths", "()V"⟩, 110), (⟨"PassedDarkModel", "isAsSeen", "(I)Z"⟩, 110), (⟨"PassedDarkModel", "mostAlike", "(II)I"⟩, 110), (⟨"PassedDarkModel", "doesWait", "(I)Z"⟩, 110)]
theorem lw_r7 : ∀ q ∈ lw_privs_7, lw_okq q := List.forall_mem_cons.mpr ⟨lw_p96, List.forall_mem_cons.mpr ⟨lw_p97, List.forall_mem_cons.mpr ⟨lw_p98, List.forall_mem_cons.mpr ⟨lw_p99, List.forall_mem_cons.mpr ⟨lw_p100, List.forall_mem_cons.mpr ⟨lw_p101, List.forall_mem_cons.mpr ⟨lw_p102, List.forall_mem_cons.mpr ⟨lw_p103, List.forall_mem_cons.mpr ⟨lw_p104, List.forall_mem_cons.mpr ⟨lw_p105, List.forall_mem_cons.mpr ⟨lw_p106, List.forall_mem_cons.mpr ⟨lw_p107, List.forall_mem_cons.mpr ⟨lw_p108, List.forall_mem_cons.mpr ⟨lw_p109, List.forall_mem_cons.mpr ⟨lw_p110, List.forall_mem_cons.mpr ⟨lw_p111, fun _ h => absurd h List.not_mem_nil⟩⟩⟩⟩⟩⟩⟩⟩⟩⟩⟩⟩⟩⟩⟩⟩
theorem lw_p112 : lw_okq (⟨"PassedDarkModel", "isChanged", "(ZII)Z"⟩, 110) := ⟨⟨by decide +kernel, by decide +kernel⟩, List.mem_of_getElem? (i := 1136) (by decide +kernel), List.mem_of_getElem? (i := 1899) (by decide +kernel), List.mem_of_getElem? (i := 1900) (by decide +kernel)⟩
theorem lw_p113 : lw_okq (⟨"PassedDarkModel", "keeps", "()V"⟩, 110) := ⟨⟨by decide +kernel, by decide +kernel⟩, List.mem_of_getElem? (i := 1136) (by decide +kernel), List.mem_of_getElem? (i := 1903) (by decide +kernel), List.mem_of_getElem? (i := 1904) (by decide +kernel)⟩
theorem lw_p114 : lw_okq (⟨"PassedDarkModel", "drawOf", "(I)I"⟩, 110) := ⟨⟨by decide +kernel, by decide +kernel⟩, List.mem_of_getElem? (i := 1136) (by decide +kernel), List.mem_of_getElem? (i := 1928) (by decide +kernel), List.mem_of_getElem? (i := 1929) (by decide +kernel)⟩
theorem lw_p115 : lw_okq (⟨"PassedDarkModel", "qKind", "()I"⟩, 110) := ⟨⟨by decide +kernel, by decide +kernel⟩, List.mem_of_getElem? (i := 1136) (by decide +kernel), List.mem_of_getElem? (i := 1941) (by decide +kernel), List.mem_of_getElem? (i := 1942) (by decide +kernel)⟩
theorem lw_p116 : lw_okq (⟨"PassedDarkModel", "laysLit", "()V"⟩, 110) := ⟨⟨by decide +kernel, by decide +kernel⟩, List.mem_of_getElem? (i := 1136) (by decide +kernel), List.mem_of_getElem? (i := 1946) (by decide +kernel), List.mem_of_getElem? (i := 1947) (by decide +kernel)⟩
theorem lw_p117 : lw_okq (⟨"PassedDarkModel", "qTold", "(I)J"⟩, 110) := ⟨⟨by decide +kernel, by decide +kernel⟩, List.mem_of_getElem? (i := 1136) (by decide +kernel), List.mem_of_getElem? (i := 1950) (by decide +kernel), List.mem_of_getElem? (i := 1951) (by decide +kernel)⟩
theorem lw_p118 : lw_okq (⟨"PassedDarkModel", "qOf", "(IJI)J"⟩, 110) := ⟨⟨by decide +kernel, by decide +kernel⟩, List.mem_of_getElem? (i := 1136) (by decide +kernel), List.mem_of_getElem? (i := 1954) (by decide +kernel), List.mem_of_getElem? (i := 1955) (by decide +kernel)⟩
theorem lw_p119 : lw_okq (⟨"PassedDarkModel", "qTakes", "(IJI)V"⟩, 110) := ⟨⟨by decide +kernel, by decide +kernel⟩, List.mem_of_getElem? (i := 1136) (by decide +kernel), List.mem_of_getElem? (i := 1959) (by decide +kernel), List.mem_of_getElem? (i := 1960) (by decide +kernel)⟩
theorem lw_p120 : lw_okq (⟨"PassedDarkModel", "writes", "(I)V"⟩, 110) := ⟨⟨by decide +kernel, by decide +kernel⟩, List.mem_of_getElem? (i := 1136) (by decide +kernel), List.mem_of_getElem? (i := 1967) (by decide +kernel), List.mem_of_getElem? (i := 1968) (by decide +kernel)⟩
theorem lw_p121 : lw_okq (⟨"PassedDarkModel", "isImage", "(I)Z"⟩, 110) := ⟨⟨by decide +kernel, by decide +kernel⟩, List.mem_of_getElem? (i := 1136) (by decide +kernel), List.mem_of_getElem? (i := 1982) (by decide +kernel), List.mem_of_getElem? (i := 1983) (by decide +kernel)⟩
theorem lw_p122 : lw_okq (⟨"PassedDarkModel", "canHave", "()Z"⟩, 110) := ⟨⟨by decide +kernel, by decide +kernel⟩, List.mem_of_getElem? (i := 1136) (by decide +kernel), List.mem_of_getElem? (i := 1986) (by decide +kernel), List.mem_of_getElem? (i := 1987) (by decide +kernel)⟩
def lw_privs_8 : List (MethodName × Nat) := [(⟨"PassedDarkModel", "isChanged", "(ZII)Z"⟩, 110), (⟨"PassedDarkModel", "keeps", "()V"⟩, 110), (⟨"PassedDarkModel", "drawOf", "(I)I"⟩, 110), (⟨"PassedDarkModel", "qKind", "()I"⟩, 110), (⟨"PassedDarkModel", "laysLit", "()V"⟩, 110), (⟨"PassedDarkModel", "qTold", "(I)J"⟩, 110), (⟨"PassedDarkModel", "qOf", "(IJI)J"⟩, 110), (⟨"PassedDarkModel", "qTakes", "(IJI)V"⟩, 110), (⟨"PassedDarkModel", "writes", "(I)V"⟩, 110), (⟨"PassedDarkModel", "isImage", "(I)Z"⟩, 110), (⟨"PassedDarkModel", "canHave", "()Z"⟩, 110)]
theorem lw_r8 : ∀ q ∈ lw_privs_8, lw_okq q := List.forall_mem_cons.mpr ⟨lw_p112, List.forall_mem_cons.mpr ⟨lw_p113, List.forall_mem_cons.mpr ⟨lw_p114, List.forall_mem_cons.mpr ⟨lw_p115, List.forall_mem_cons.mpr ⟨lw_p116, List.forall_mem_cons.mpr ⟨lw_p117, List.forall_mem_cons.mpr ⟨lw_p118, List.forall_mem_cons.mpr ⟨lw_p119, List.forall_mem_cons.mpr ⟨lw_p120, List.forall_mem_cons.mpr ⟨lw_p121, List.forall_mem_cons.mpr ⟨lw_p122, fun _ h => absurd h List.not_mem_nil⟩⟩⟩⟩⟩⟩⟩⟩⟩⟩⟩
def lw_privs : List (MethodName × Nat) := lw_privs_1 ++ (lw_privs_2 ++ (lw_privs_3 ++ (lw_privs_4 ++ (lw_privs_5 ++ (lw_privs_6 ++ (lw_privs_7 ++ (lw_privs_8)))))))
def lw_tbl : List Cond := k2_sels lw_privs ++ tables_1
theorem lw_privs_ok : ∀ q ∈ lw_privs, lw_okq q := by
  show ∀ q ∈ lw_privs_1 ++ (lw_privs_2 ++ (lw_privs_3 ++ (lw_privs_4 ++ (lw_privs_5 ++ (lw_privs_6 ++ (lw_privs_7 ++ (lw_privs_8))))))), lw_okq q
  exact List.forall_mem_append.mpr ⟨lw_r1, List.forall_mem_append.mpr ⟨lw_r2, List.forall_mem_append.mpr ⟨lw_r3, List.forall_mem_append.mpr ⟨lw_r4, List.forall_mem_append.mpr ⟨lw_r5, List.forall_mem_append.mpr ⟨lw_r6, List.forall_mem_append.mpr ⟨lw_r7, lw_r8⟩⟩⟩⟩⟩⟩⟩
theorem goodIn_r {big : List Cond} (ws : List Cond) (ps : List Nat) (hp : ws = ps.filterMap (fun i => big[i]?)) (h : ws.all goodWord = true) : GoodIn big ws := by
  intro w hw
  have h1 := List.all_eq_true.mp h w hw
  rw [hp] at hw
  obtain ⟨i, -, hi⟩ := List.mem_filterMap.mp hw
  have hm : w ∈ big := by first | exact List.mem_of_getElem? hi | exact List.getElem?_mem hi
  exact ⟨hm, good_of_word h1⟩
theorem goodIn_app {big a b : List Cond} (ha : GoodIn big a) (hb : GoodIn big b) : GoodIn big (a ++ b) := fun w h => (List.mem_append.mp h).elim (ha w) (hb w)
theorem goodIn_ca {big a b : List Cond} {c : Cond} (ha : GoodIn big (c :: a)) (hb : GoodIn big b) : GoodIn big (c :: (a ++ b)) := fun w h => (List.mem_cons.mp h).elim (fun e => ha w (List.mem_cons.mpr (Or.inl e))) (fun h => (List.mem_append.mp h).elim (fun h => ha w (List.mem_cons.mpr (Or.inr h))) (hb w))
theorem goodIn_sub {big ws : List Cond} (hm : ∀ w ∈ ws, w ∈ big) (h : ws.all goodWord = true) : GoodIn big ws := fun w hw => ⟨hm w hw, good_of_word (List.all_eq_true.mp h w hw)⟩
def RX0 : String := "PassedDark$Ahead"
def TX0 : u_T := fun k => match k with
  | 0 => ("PassedDark$Ahead", "runner", "LPassedDark$Runner;", true)
  | 1 => ("PassedDark$Ahead", "start", "LPassedDark$State;", true)
  | 2 => ("PassedDark$Ahead", "trial", "LPassedDark$State;", true)
  | 3 => ("PassedDark$Ahead", "rows", "I", false)
  | 4 => ("PassedDark$Ahead", "seenHours", "[I", true)
  | 5 => ("PassedDark$Ahead", "seenHouses", "[I", true)
  | 6 => ("PassedDark$Ahead", "seenFlags", "[I", true)
  | 7 => ("PassedDark$Ahead", "fitting", "[Z", true)
  | 8 => ("PassedDark$Ahead", "left", "I", false)
  | _ => ("PassedDark$Ahead", "passers", "[I", true)
def tyX0 : Nat → FieldType := fun k => match k with
  | 0 => .object "PassedDark$Runner"
  | 1 => .object "PassedDark$State"
  | 2 => .object "PassedDark$State"
  | 3 => .int
  | 4 => .array .int
  | 5 => .array .int
  | 6 => .array .int
  | 7 => .array .boolean
  | 8 => .int
  | _ => .array .int
abbrev wsX00 : List Cond := u_ws RX0 TX0 10
theorem nmX0 : ∀ a, a < 10 → ∀ b, b < 10 → a ≠ b → (TX0 a).2.1 ≠ (TX0 b).2.1 := by decide +kernel
theorem tyX0_ok : ∀ k, k < 10 → parseFieldDescriptor (TX0 k).2.2.1 = some (tyX0 k) := by decide +kernel
abbrev cX0_init : ByteArray := prog_2_method_1_code
def yX0_init : MethodName := ⟨RX0, "<init>", "(LPassedDark$Runner;)V"⟩
abbrev cX0_forget : ByteArray := prog_2_method_2_code
def yX0_forget : MethodName := ⟨RX0, "forget", "()V"⟩
abbrev cX0_behind : ByteArray := prog_2_method_3_code
def yX0_behind : MethodName := ⟨RX0, "behind", "(LPassedDark$Course;LPassedDark$State;II)I"⟩
abbrev cX0_hoursToThrough : ByteArray := prog_2_method_4_code
def yX0_hoursToThrough : MethodName := ⟨RX0, "hoursToThrough", "(LPassedDark$Course;LPassedDark$State;)I"⟩
abbrev cX0_fewest : ByteArray := prog_2_method_5_code
def yX0_fewest : MethodName := ⟨RX0, "fewest", "(LPassedDark$Course;LPassedDark$State;)I"⟩
abbrev cX0_bestPost : ByteArray := prog_2_method_6_code
def yX0_bestPost : MethodName := ⟨RX0, "bestPost", "(LPassedDark$Course;LPassedDark$State;II)I"⟩
abbrev cX0_bestChange : ByteArray := prog_2_method_7_code
def yX0_bestChange : MethodName := ⟨RX0, "bestChange", "(LPassedDark$Course;LPassedDark$State;I)I"⟩
abbrev cX0_leastStrength : ByteArray := prog_2_method_8_code
def yX0_leastStrength : MethodName := ⟨RX0, "leastStrength", "(LPassedDark$Course;LPassedDark$State;)I"⟩
abbrev cX0_rowsAlight : ByteArray := prog_2_method_9_code
def yX0_rowsAlight : MethodName := ⟨RX0, "rowsAlight", "(LPassedDark$Course;LPassedDark$State;)I"⟩
abbrev cX0_alight : ByteArray := prog_2_method_10_code
def yX0_alight : MethodName := ⟨RX0, "alight", "(LPassedDark$Course;LPassedDark$State;I)I"⟩
abbrev cX0_readSeen : ByteArray := prog_2_method_11_code
def yX0_readSeen : MethodName := ⟨RX0, "readSeen", "(LPassedDark$Tape;LPassedDark$Course;)Z"⟩
abbrev cX0_sift : ByteArray := prog_2_method_12_code
def yX0_sift : MethodName := ⟨RX0, "sift", "(LPassedDark$Course;LPassedDark$State;)V"⟩
abbrev cX0_agrees : ByteArray := prog_2_method_13_code
def yX0_agrees : MethodName := ⟨RX0, "agrees", "(I)Z"⟩
abbrev cX0_strengthLeft : ByteArray := prog_2_method_14_code
def yX0_strengthLeft : MethodName := ⟨RX0, "strengthLeft", "(I)I"⟩
abbrev cX0_mostTelling : ByteArray := prog_2_method_15_code
def yX0_mostTelling : MethodName := ⟨RX0, "mostTelling", "(LPassedDark$Course;LPassedDark$State;I)I"⟩
abbrev cX0_countPassers : ByteArray := prog_2_method_16_code
def yX0_countPassers : MethodName := ⟨RX0, "countPassers", "(LPassedDark$Course;LPassedDark$State;I)V"⟩
def RX1 : String := "PassedDark$Course"
def TX1 : u_T := fun k => match k with
  | 0 => ("PassedDark$Course", "statements", "I", false)
  | 1 => ("PassedDark$Course", "miles", "I", false)
  | 2 => ("PassedDark$Course", "bearers", "I", false)
  | 3 => ("PassedDark$Course", "houses", "I", false)
  | 4 => ("PassedDark$Course", "dark", "I", false)
  | 5 => ("PassedDark$Course", "trip", "I", false)
  | 6 => ("PassedDark$Course", "starts", "[I", true)
  | 7 => ("PassedDark$Course", "paces", "[I", true)
  | 8 => ("PassedDark$Course", "sites", "[I", true)
  | 9 => ("PassedDark$Course", "cares", "[I", true)
  | 10 => ("PassedDark$Course", "values", "[I", true)
  | 11 => ("PassedDark$Course", "names", "[I", true)
  | 12 => ("PassedDark$Course", "script", "LPassedDark$Script;", true)
  | 13 => ("PassedDark$Course", "tape", "LPassedDark$Tape;", true)
  | 14 => ("PassedDark$Course", "grammar", "LPassedDark$Grammar;", true)
  | 15 => ("PassedDark$Course", "begins", "[I", true)
  | _ => ("PassedDark$Course", "ends", "[I", true)
def tyX1 : Nat → FieldType := fun k => match k with
  | 0 => .int
  | 1 => .int
  | 2 => .int
  | 3 => .int
  | 4 => .int
  | 5 => .int
  | 6 => .array .int
  | 7 => .array .int
  | 8 => .array .int
  | 9 => .array .int
  | 10 => .array .int
  | 11 => .array .int
  | 12 => .object "PassedDark$Script"
  | 13 => .object "PassedDark$Tape"
  | 14 => .object "PassedDark$Grammar"
  | 15 => .array .int
  | _ => .array .int
abbrev wsX10 : List Cond := u_ws RX1 TX1 17
theorem nmX1 : ∀ a, a < 17 → ∀ b, b < 17 → a ≠ b → (TX1 a).2.1 ≠ (TX1 b).2.1 := by decide +kernel
theorem tyX1_ok : ∀ k, k < 17 → parseFieldDescriptor (TX1 k).2.2.1 = some (tyX1 k) := by decide +kernel
abbrev cX1_init : ByteArray := prog_3_method_1_code
def yX1_init : MethodName := ⟨RX1, "<init>", "(LPassedDark$Tape;)V"⟩
abbrev cX1_hasMile : ByteArray := prog_3_method_2_code
def yX1_hasMile : MethodName := ⟨RX1, "hasMile", "(I)Z"⟩
abbrev cX1_hasBearer : ByteArray := prog_3_method_3_code
def yX1_hasBearer : MethodName := ⟨RX1, "hasBearer", "(I)Z"⟩
abbrev cX1_hasHouse : ByteArray := prog_3_method_4_code
def yX1_hasHouse : MethodName := ⟨RX1, "hasHouse", "(I)Z"⟩
abbrev cX1_letterAt : ByteArray := prog_3_method_5_code
def yX1_letterAt : MethodName := ⟨RX1, "letterAt", "(II)I"⟩
abbrev cX1_lightAt : ByteArray := prog_3_method_6_code
def yX1_lightAt : MethodName := ⟨RX1, "lightAt", "(II)I"⟩
abbrev cX1_start : ByteArray := prog_3_method_7_code
def yX1_start : MethodName := ⟨RX1, "start", "(I)V"⟩
abbrev cX1_read : ByteArray := prog_3_method_8_code
def yX1_read : MethodName := ⟨RX1, "read", "()V"⟩
abbrev cX1_formulaOf : ByteArray := prog_3_method_9_code
def yX1_formulaOf : MethodName := ⟨RX1, "formulaOf", "(I)I"⟩
abbrev cX1_roomFor : ByteArray := prog_3_method_10_code
def yX1_roomFor : MethodName := ⟨RX1, "roomFor", "(II)I"⟩
abbrev cX1_goesOn : ByteArray := prog_3_method_11_code
def yX1_goesOn : MethodName := ⟨RX1, "goesOn", "()Z"⟩
abbrev cX1_clear : ByteArray := prog_3_method_12_code
def yX1_clear : MethodName := ⟨RX1, "clear", "()V"⟩
abbrev cX1_readBearer : ByteArray := prog_3_method_13_code
def yX1_readBearer : MethodName := ⟨RX1, "readBearer", "()V"⟩
abbrev cX1_readHouse : ByteArray := prog_3_method_14_code
def yX1_readHouse : MethodName := ⟨RX1, "readHouse", "()V"⟩
abbrev cX1_readNumber : ByteArray := prog_3_method_15_code
def yX1_readNumber : MethodName := ⟨RX1, "readNumber", "(III)I"⟩
abbrev cX1_readName : ByteArray := prog_3_method_16_code
def yX1_readName : MethodName := ⟨RX1, "readName", "(I)V"⟩
abbrev cX1_writeName : ByteArray := prog_3_method_17_code
def yX1_writeName : MethodName := ⟨RX1, "writeName", "(I)V"⟩
abbrev cX1_isTaken : ByteArray := prog_3_method_18_code
def yX1_isTaken : MethodName := ⟨RX1, "isTaken", "(I)Z"⟩
abbrev cX1_isSameName : ByteArray := prog_3_method_19_code
def yX1_isSameName : MethodName := ⟨RX1, "isSameName", "(II)Z"⟩
abbrev cX1_putDefaults : ByteArray := prog_3_method_20_code
def yX1_putDefaults : MethodName := ⟨RX1, "putDefaults", "()V"⟩
def RX2 : String := "PassedDark$Grammar"
def TX2 : u_T := fun k => match k with
  | 0 => ("PassedDark$Grammar", "tape", "LPassedDark$Tape;", true)
  | 1 => ("PassedDark$Grammar", "script", "LPassedDark$Script;", true)
  | 2 => ("PassedDark$Grammar", "allowed", "I", false)
  | _ => ("PassedDark$Grammar", "open", "I", false)
def tyX2 : Nat → FieldType := fun k => match k with
  | 0 => .object "PassedDark$Tape"
  | 1 => .object "PassedDark$Script"
  | 2 => .int
  | _ => .int
abbrev wsX20 : List Cond := u_ws RX2 TX2 4
theorem nmX2 : ∀ a, a < 4 → ∀ b, b < 4 → a ≠ b → (TX2 a).2.1 ≠ (TX2 b).2.1 := by decide +kernel
theorem tyX2_ok : ∀ k, k < 4 → parseFieldDescriptor (TX2 k).2.2.1 = some (tyX2 k) := by decide +kernel
abbrev cX2_init : ByteArray := prog_4_method_1_code
def yX2_init : MethodName := ⟨RX2, "<init>", "(LPassedDark$Tape;LPassedDark$Script;)V"⟩
abbrev cX2_begin : ByteArray := prog_4_method_2_code
def yX2_begin : MethodName := ⟨RX2, "begin", "(I)V"⟩
abbrev cX2_test : ByteArray := prog_4_method_3_code
def yX2_test : MethodName := ⟨RX2, "test", "()V"⟩
abbrev cX2_both : ByteArray := prog_4_method_4_code
def yX2_both : MethodName := ⟨RX2, "both", "()V"⟩
abbrev cX2_fact : ByteArray := prog_4_method_5_code
def yX2_fact : MethodName := ⟨RX2, "fact", "()V"⟩
abbrev cX2_sum : ByteArray := prog_4_method_6_code
def yX2_sum : MethodName := ⟨RX2, "sum", "()V"⟩
abbrev cX2_product : ByteArray := prog_4_method_7_code
def yX2_product : MethodName := ⟨RX2, "product", "()V"⟩
abbrev cX2_part : ByteArray := prog_4_method_8_code
def yX2_part : MethodName := ⟨RX2, "part", "()V"⟩
abbrev cX2_pair : ByteArray := prog_4_method_9_code
def yX2_pair : MethodName := ⟨RX2, "pair", "(I)V"⟩
abbrev cX2_named : ByteArray := prog_4_method_10_code
def yX2_named : MethodName := ⟨RX2, "named", "(I)V"⟩
abbrev cX2_allows : ByteArray := prog_4_method_11_code
def yX2_allows : MethodName := ⟨RX2, "allows", "(I)Z"⟩
abbrev cX2_opens : ByteArray := prog_4_method_12_code
def yX2_opens : MethodName := ⟨RX2, "opens", "()Z"⟩
def RX3 : String := "PassedDark$Past"
def TX3 : u_T := fun k => match k with
  | 0 => ("PassedDark$Past", "log", "[I", true)
  | 1 => ("PassedDark$Past", "logged", "I", false)
  | 2 => ("PassedDark$Past", "before", "[I", true)
  | 3 => ("PassedDark$Past", "newest", "I", false)
  | _ => ("PassedDark$Past", "acts", "I", false)
def tyX3 : Nat → FieldType := fun k => match k with
  | 0 => .array .int
  | 1 => .int
  | 2 => .array .int
  | 3 => .int
  | _ => .int
abbrev wsX30 : List Cond := u_ws RX3 TX3 5
theorem nmX3 : ∀ a, a < 5 → ∀ b, b < 5 → a ≠ b → (TX3 a).2.1 ≠ (TX3 b).2.1 := by decide +kernel
theorem tyX3_ok : ∀ k, k < 5 → parseFieldDescriptor (TX3 k).2.2.1 = some (tyX3 k) := by decide +kernel
abbrev cX3_init : ByteArray := prog_5_method_1_code
def yX3_init : MethodName := ⟨RX3, "<init>", "()V"⟩
abbrev cX3_clear : ByteArray := prog_5_method_2_code
def yX3_clear : MethodName := ⟨RX3, "clear", "()V"⟩
abbrev cX3_told : ByteArray := prog_5_method_3_code
def yX3_told : MethodName := ⟨RX3, "told", "()I"⟩
abbrev cX3_keep : ByteArray := prog_5_method_4_code
def yX3_keep : MethodName := ⟨RX3, "keep", "(IIII)V"⟩
abbrev cX3_keptAt : ByteArray := prog_5_method_5_code
def yX3_keptAt : MethodName := ⟨RX3, "keptAt", "(II)I"⟩
abbrev cX3_remember : ByteArray := prog_5_method_6_code
def yX3_remember : MethodName := ⟨RX3, "remember", "(LPassedDark$State;)V"⟩
abbrev cX3_goBack : ByteArray := prog_5_method_7_code
def yX3_goBack : MethodName := ⟨RX3, "goBack", "(LPassedDark$State;)Z"⟩
def RX4 : String := "PassedDark$Picture"
def TX4 : u_T := fun k => match k with
  | 0 => ("PassedDark$Picture", "bytes", "[I", true)
  | _ => ("PassedDark$Picture", "size", "I", false)
def tyX4 : Nat → FieldType := fun k => match k with
  | 0 => .array .int
  | _ => .int
abbrev wsX40 : List Cond := u_ws RX4 TX4 2
theorem nmX4 : ∀ a, a < 2 → ∀ b, b < 2 → a ≠ b → (TX4 a).2.1 ≠ (TX4 b).2.1 := by decide +kernel
theorem tyX4_ok : ∀ k, k < 2 → parseFieldDescriptor (TX4 k).2.2.1 = some (tyX4 k) := by decide +kernel
abbrev cX4_init : ByteArray := prog_6_method_1_code
def yX4_init : MethodName := ⟨RX4, "<init>", "()V"⟩
abbrev cX4_byteAt : ByteArray := prog_6_method_2_code
def yX4_byteAt : MethodName := ⟨RX4, "byteAt", "(I)I"⟩
abbrev cX4_drawNothing : ByteArray := prog_6_method_3_code
def yX4_drawNothing : MethodName := ⟨RX4, "drawNothing", "()V"⟩
abbrev cX4_draw : ByteArray := prog_6_method_4_code
def yX4_draw : MethodName := ⟨RX4, "draw", "(LPassedDark$Course;LPassedDark$State;)V"⟩
abbrev cX4_isOf : ByteArray := prog_6_method_5_code
def yX4_isOf : MethodName := ⟨RX4, "isOf", "(LPassedDark$Course;LPassedDark$Tape;)Z"⟩
abbrev cX4_apply : ByteArray := prog_6_method_6_code
def yX4_apply : MethodName := ⟨RX4, "apply", "(LPassedDark$Course;LPassedDark$Tape;LPassedDark$State;)V"⟩
abbrev cX4_hourOf : ByteArray := prog_6_method_7_code
def yX4_hourOf : MethodName := ⟨RX4, "hourOf", "(LPassedDark$Tape;)I"⟩
abbrev cX4_isHolder : ByteArray := prog_6_method_8_code
def yX4_isHolder : MethodName := ⟨RX4, "isHolder", "(LPassedDark$Course;LPassedDark$Tape;)Z"⟩
abbrev cX4_drawHead : ByteArray := prog_6_method_9_code
def yX4_drawHead : MethodName := ⟨RX4, "drawHead", "(IIII)V"⟩
abbrev cX4_add : ByteArray := prog_6_method_10_code
def yX4_add : MethodName := ⟨RX4, "add", "(I)V"⟩
abbrev cX4_finish : ByteArray := prog_6_method_11_code
def yX4_finish : MethodName := ⟨RX4, "finish", "()V"⟩
abbrev cX4_check : ByteArray := prog_6_method_12_code
def yX4_check : MethodName := ⟨RX4, "check", "(LPassedDark$Tape;I)I"⟩
def RX5 : String := "PassedDark$Question"
def TX5 : u_T := fun k => match k with
  | 0 => ("PassedDark$Question", "tape", "LPassedDark$Tape;", true)
  | 1 => ("PassedDark$Question", "script", "LPassedDark$Script;", true)
  | 2 => ("PassedDark$Question", "grammar", "LPassedDark$Grammar;", true)
  | 3 => ("PassedDark$Question", "values", "[I", true)
  | _ => ("PassedDark$Question", "sort", "I", false)
def tyX5 : Nat → FieldType := fun k => match k with
  | 0 => .object "PassedDark$Tape"
  | 1 => .object "PassedDark$Script"
  | 2 => .object "PassedDark$Grammar"
  | 3 => .array .int
  | _ => .int
abbrev wsX50 : List Cond := u_ws RX5 TX5 5
theorem nmX5 : ∀ a, a < 5 → ∀ b, b < 5 → a ≠ b → (TX5 a).2.1 ≠ (TX5 b).2.1 := by decide +kernel
theorem tyX5_ok : ∀ k, k < 5 → parseFieldDescriptor (TX5 k).2.2.1 = some (tyX5 k) := by decide +kernel
abbrev cX5_init : ByteArray := prog_7_method_1_code
def yX5_init : MethodName := ⟨RX5, "<init>", "(LPassedDark$Tape;)V"⟩
abbrev cX5_read : ByteArray := prog_7_method_2_code
def yX5_read : MethodName := ⟨RX5, "read", "()V"⟩
abbrev cX5_answer : ByteArray := prog_7_method_3_code
def yX5_answer : MethodName := ⟨RX5, "answer", "(LPassedDark$Course;LPassedDark$State;)J"⟩
abbrev cX5_valueOf : ByteArray := prog_7_method_4_code
def yX5_valueOf : MethodName := ⟨RX5, "valueOf", "(LPassedDark$Course;LPassedDark$State;I)I"⟩
abbrev cX5_lit : ByteArray := prog_7_method_5_code
def yX5_lit : MethodName := ⟨RX5, "lit", "(LPassedDark$Course;II)I"⟩
abbrev cX5_from : ByteArray := prog_7_method_6_code
def yX5_from : MethodName := ⟨RX5, "from", "(LPassedDark$Course;LPassedDark$State;II)I"⟩
def RX6 : String := "PassedDark$Runner"
def TX6 : u_T := fun k => match k with
  | _ => ("", "", "", false)
def tyX6 : Nat → FieldType := fun k => match k with
  | _ => .int
abbrev wsX60 : List Cond := u_ws RX6 TX6 0
theorem nmX6 : ∀ a, a < 0 → ∀ b, b < 0 → a ≠ b → (TX6 a).2.1 ≠ (TX6 b).2.1 := by decide +kernel
theorem tyX6_ok : ∀ k, k < 0 → parseFieldDescriptor (TX6 k).2.2.1 = some (tyX6 k) := by decide +kernel
abbrev cX6_init : ByteArray := prog_8_method_1_code
def yX6_init : MethodName := ⟨RX6, "<init>", "()V"⟩
abbrev cX6_runHour : ByteArray := prog_8_method_2_code
def yX6_runHour : MethodName := ⟨RX6, "runHour", "(LPassedDark$Course;LPassedDark$State;)I"⟩
abbrev cX6_wouldTake : ByteArray := prog_8_method_3_code
def yX6_wouldTake : MethodName := ⟨RX6, "wouldTake", "(LPassedDark$Course;LPassedDark$State;II)Z"⟩
abbrev cX6_waned : ByteArray := prog_8_method_4_code
def yX6_waned : MethodName := ⟨RX6, "waned", "(LPassedDark$Course;LPassedDark$State;IIII)I"⟩
def RX7 : String := "PassedDark$Script"
def TX7 : u_T := fun k => match k with
  | 0 => ("PassedDark$Script", "code", "[I", true)
  | 1 => ("PassedDark$Script", "heap", "[I", true)
  | 2 => ("PassedDark$Script", "size", "I", false)
  | 3 => ("PassedDark$Script", "at", "I", false)
  | 4 => ("PassedDark$Script", "stop", "I", false)
  | 5 => ("PassedDark$Script", "top", "I", false)
  | _ => ("PassedDark$Script", "asked", "I", false)
def tyX7 : Nat → FieldType := fun k => match k with
  | 0 => .array .int
  | 1 => .array .int
  | 2 => .int
  | 3 => .int
  | 4 => .int
  | 5 => .int
  | _ => .int
abbrev wsX70 : List Cond := u_ws RX7 TX7 7
theorem nmX7 : ∀ a, a < 7 → ∀ b, b < 7 → a ≠ b → (TX7 a).2.1 ≠ (TX7 b).2.1 := by decide +kernel
theorem tyX7_ok : ∀ k, k < 7 → parseFieldDescriptor (TX7 k).2.2.1 = some (tyX7 k) := by decide +kernel
abbrev cX7_init : ByteArray := prog_9_method_1_code
def yX7_init : MethodName := ⟨RX7, "<init>", "()V"⟩
abbrev cX7_put : ByteArray := prog_9_method_2_code
def yX7_put : MethodName := ⟨RX7, "put", "(I)V"⟩
abbrev cX7_putDone : ByteArray := prog_9_method_3_code
def yX7_putDone : MethodName := ⟨RX7, "putDone", "(I)V"⟩
abbrev cX7_start : ByteArray := prog_9_method_4_code
def yX7_start : MethodName := ⟨RX7, "start", "(II)V"⟩
abbrev cX7_work : ByteArray := prog_9_method_5_code
def yX7_work : MethodName := ⟨RX7, "work", "([I)I"⟩
abbrev cX7_push : ByteArray := prog_9_method_6_code
def yX7_push : MethodName := ⟨RX7, "push", "(I)V"⟩
abbrev cX7_pop : ByteArray := prog_9_method_7_code
def yX7_pop : MethodName := ⟨RX7, "pop", "()I"⟩
abbrev cX7_joined : ByteArray := prog_9_method_8_code
def yX7_joined : MethodName := ⟨RX7, "joined", "(III)I"⟩
abbrev cX7_limited : ByteArray := prog_9_method_9_code
def yX7_limited : MethodName := ⟨RX7, "limited", "(J)I"⟩
def RX8 : String := "PassedDark$State"
def TX8 : u_T := fun k => match k with
  | 0 => ("PassedDark$State", "hour", "I", false)
  | 1 => ("PassedDark$State", "mile", "I", false)
  | 2 => ("PassedDark$State", "strength", "I", false)
  | 3 => ("PassedDark$State", "bearer", "I", false)
  | 4 => ("PassedDark$State", "asides", "I", false)
  | 5 => ("PassedDark$State", "passed", "I", false)
  | _ => ("PassedDark$State", "miles", "[I", true)
def tyX8 : Nat → FieldType := fun k => match k with
  | 0 => .int
  | 1 => .int
  | 2 => .int
  | 3 => .int
  | 4 => .int
  | 5 => .int
  | _ => .array .int
abbrev wsX80 : List Cond := u_ws RX8 TX8 7
theorem nmX8 : ∀ a, a < 7 → ∀ b, b < 7 → a ≠ b → (TX8 a).2.1 ≠ (TX8 b).2.1 := by decide +kernel
theorem tyX8_ok : ∀ k, k < 7 → parseFieldDescriptor (TX8 k).2.2.1 = some (tyX8 k) := by decide +kernel
abbrev cX8_init : ByteArray := prog_10_method_1_code
def yX8_init : MethodName := ⟨RX8, "<init>", "()V"⟩
abbrev cX8_begin : ByteArray := prog_10_method_2_code
def yX8_begin : MethodName := ⟨RX8, "begin", "(LPassedDark$Course;)V"⟩
abbrev cX8_copy : ByteArray := prog_10_method_3_code
def yX8_copy : MethodName := ⟨RX8, "copy", "(LPassedDark$State;)V"⟩
abbrev cX8_store : ByteArray := prog_10_method_4_code
def yX8_store : MethodName := ⟨RX8, "store", "([II)V"⟩
abbrev cX8_load : ByteArray := prog_10_method_5_code
def yX8_load : MethodName := ⟨RX8, "load", "([II)V"⟩
abbrev cX8_isAside : ByteArray := prog_10_method_6_code
def yX8_isAside : MethodName := ⟨RX8, "isAside", "(I)Z"⟩
abbrev cX8_hasPassed : ByteArray := prog_10_method_7_code
def yX8_hasPassed : MethodName := ⟨RX8, "hasPassed", "(I)Z"⟩
abbrev cX8_isThrough : ByteArray := prog_10_method_8_code
def yX8_isThrough : MethodName := ⟨RX8, "isThrough", "(LPassedDark$Course;)Z"⟩
abbrev cX8_isAlight : ByteArray := prog_10_method_9_code
def yX8_isAlight : MethodName := ⟨RX8, "isAlight", "()Z"⟩
abbrev cX8_waitsAt : ByteArray := prog_10_method_10_code
def yX8_waitsAt : MethodName := ⟨RX8, "waitsAt", "(II)Z"⟩
abbrev cX8_passHouses : ByteArray := prog_10_method_11_code
def yX8_passHouses : MethodName := ⟨RX8, "passHouses", "(LPassedDark$Course;I)V"⟩
abbrev cX8_advance : ByteArray := prog_10_method_12_code
def yX8_advance : MethodName := ⟨RX8, "advance", "(II)V"⟩
abbrev cX8_swapMiles : ByteArray := prog_10_method_13_code
def yX8_swapMiles : MethodName := ⟨RX8, "swapMiles", "(II)V"⟩
def RX9 : String := "PassedDark$Tape"
def TX9 : u_T := fun k => match k with
  | 0 => ("PassedDark$Tape", "bytes", "[B", true)
  | 1 => ("PassedDark$Tape", "length", "I", false)
  | 2 => ("PassedDark$Tape", "kind", "I", false)
  | 3 => ("PassedDark$Tape", "start", "I", false)
  | 4 => ("PassedDark$Tape", "behind", "I", false)
  | 5 => ("PassedDark$Tape", "value", "I", false)
  | 6 => ("PassedDark$Tape", "fault", "I", false)
  | _ => ("PassedDark$Tape", "place", "I", false)
def tyX9 : Nat → FieldType := fun k => match k with
  | 0 => .array .byte
  | 1 => .int
  | 2 => .int
  | 3 => .int
  | 4 => .int
  | 5 => .int
  | 6 => .int
  | _ => .int
abbrev wsX90 : List Cond := u_ws RX9 TX9 8
theorem nmX9 : ∀ a, a < 8 → ∀ b, b < 8 → a ≠ b → (TX9 a).2.1 ≠ (TX9 b).2.1 := by decide +kernel
theorem tyX9_ok : ∀ k, k < 8 → parseFieldDescriptor (TX9 k).2.2.1 = some (tyX9 k) := by decide +kernel
abbrev cX9_init : ByteArray := prog_11_method_1_code
def yX9_init : MethodName := ⟨RX9, "<init>", "()V"⟩
abbrev cX9_append : ByteArray := prog_11_method_2_code
def yX9_append : MethodName := ⟨RX9, "append", "(I)V"⟩
abbrev cX9_byteAt : ByteArray := prog_11_method_3_code
def yX9_byteAt : MethodName := ⟨RX9, "byteAt", "(I)I"⟩
abbrev cX9_begin : ByteArray := prog_11_method_4_code
def yX9_begin : MethodName := ⟨RX9, "begin", "()V"⟩
abbrev cX9_fail : ByteArray := prog_11_method_5_code
def yX9_fail : MethodName := ⟨RX9, "fail", "(II)V"⟩
abbrev cX9_failHere : ByteArray := prog_11_method_6_code
def yX9_failHere : MethodName := ⟨RX9, "failHere", "(I)V"⟩
abbrev cX9_next : ByteArray := prog_11_method_7_code
def yX9_next : MethodName := ⟨RX9, "next", "()V"⟩
abbrev cX9_isWord : ByteArray := prog_11_method_8_code
def yX9_isWord : MethodName := ⟨RX9, "isWord", "(I)Z"⟩
abbrev cX9_expect : ByteArray := prog_11_method_9_code
def yX9_expect : MethodName := ⟨RX9, "expect", "(I)V"⟩
abbrev cX9_expectWord : ByteArray := prog_11_method_10_code
def yX9_expectWord : MethodName := ⟨RX9, "expectWord", "(I)V"⟩
abbrev cX9_expectNumber : ByteArray := prog_11_method_11_code
def yX9_expectNumber : MethodName := ⟨RX9, "expectNumber", "(II)I"⟩
abbrev cX9_isBlank : ByteArray := prog_11_method_12_code
def yX9_isBlank : MethodName := ⟨RX9, "isBlank", "(I)Z"⟩
abbrev cX9_isLetter : ByteArray := prog_11_method_13_code
def yX9_isLetter : MethodName := ⟨RX9, "isLetter", "(I)Z"⟩
abbrev cX9_isDigit : ByteArray := prog_11_method_14_code
def yX9_isDigit : MethodName := ⟨RX9, "isDigit", "(I)Z"⟩
def RX10 : String := "PassedDark$Words"
def TX10 : u_T := fun k => match k with
  | _ => ("", "", "", false)
def tyX10 : Nat → FieldType := fun k => match k with
  | _ => .int
abbrev wsX100 : List Cond := u_ws RX10 TX10 0
theorem nmX10 : ∀ a, a < 0 → ∀ b, b < 0 → a ≠ b → (TX10 a).2.1 ≠ (TX10 b).2.1 := by decide +kernel
theorem tyX10_ok : ∀ k, k < 0 → parseFieldDescriptor (TX10 k).2.2.1 = some (tyX10 k) := by decide +kernel
abbrev cX10_codeOf : ByteArray := prog_12_method_2_code
def yX10_codeOf : MethodName := ⟨RX10, "codeOf", "([BII)I"⟩
def RX11 : String := "PassedDark"
def TX11 : u_T := fun k => match k with
  | 0 => ("PassedDark", "tape", "LPassedDark$Tape;", true)
  | 1 => ("PassedDark", "question", "LPassedDark$Question;", true)
  | 2 => ("PassedDark", "runner", "LPassedDark$Runner;", true)
  | 3 => ("PassedDark", "ahead", "LPassedDark$Ahead;", true)
  | 4 => ("PassedDark", "past", "LPassedDark$Past;", true)
  | 5 => ("PassedDark", "picture", "LPassedDark$Picture;", true)
  | 6 => ("PassedDark", "now", "LPassedDark$State;", true)
  | 7 => ("PassedDark", "refused", "[I", true)
  | 8 => ("PassedDark", "held", "LPassedDark$Course;", false)
  | 9 => ("PassedDark", "spare", "LPassedDark$Course;", false)
  | 10 => ("PassedDark", "there", "Z", false)
  | 11 => ("PassedDark", "draws", "J", false)
  | 12 => ("PassedDark", "faultCode", "I", false)
  | _ => ("PassedDark", "faultPlace", "I", false)
def tyX11 : Nat → FieldType := fun k => match k with
  | 0 => .object "PassedDark$Tape"
  | 1 => .object "PassedDark$Question"
  | 2 => .object "PassedDark$Runner"
  | 3 => .object "PassedDark$Ahead"
  | 4 => .object "PassedDark$Past"
  | 5 => .object "PassedDark$Picture"
  | 6 => .object "PassedDark$State"
  | 7 => .array .int
  | 8 => .object "PassedDark$Course"
  | 9 => .object "PassedDark$Course"
  | 10 => .boolean
  | 11 => .long
  | 12 => .int
  | _ => .int
abbrev wsX110 : List Cond := u_ws RX11 TX11 14
theorem nmX11 : ∀ a, a < 14 → ∀ b, b < 14 → a ≠ b → (TX11 a).2.1 ≠ (TX11 b).2.1 := by decide +kernel
theorem tyX11_ok : ∀ k, k < 14 → parseFieldDescriptor (TX11 k).2.2.1 = some (tyX11 k) := by decide +kernel
abbrev cX11_init : ByteArray := prog_1_method_1_code
def yX11_init : MethodName := ⟨RX11, "<init>", "()V"⟩
abbrev cX11_feed : ByteArray := prog_1_method_2_code
def yX11_feed : MethodName := ⟨RX11, "feed", "(IIIII)I"⟩
abbrev cX11_end : ByteArray := prog_1_method_3_code
def yX11_end : MethodName := ⟨RX11, "end", "(I)Z"⟩
abbrev cX11_course : ByteArray := prog_1_method_4_code
def yX11_course : MethodName := ⟨RX11, "course", "()I"⟩
abbrev cX11_fault : ByteArray := prog_1_method_5_code
def yX11_fault : MethodName := ⟨RX11, "fault", "(I)I"⟩
abbrev cX11_has : ByteArray := prog_1_method_6_code
def yX11_has : MethodName := ⟨RX11, "has", "(I)I"⟩
abbrev cX11_letter : ByteArray := prog_1_method_7_code
def yX11_letter : MethodName := ⟨RX11, "letter", "(III)I"⟩
abbrev cX11_bearer : ByteArray := prog_1_method_8_code
def yX11_bearer : MethodName := ⟨RX11, "bearer", "(II)I"⟩
abbrev cX11_house : ByteArray := prog_1_method_9_code
def yX11_house : MethodName := ⟨RX11, "house", "(II)I"⟩
abbrev cX11_light : ByteArray := prog_1_method_10_code
def yX11_light : MethodName := ⟨RX11, "light", "(II)I"⟩
abbrev cX11_kept : ByteArray := prog_1_method_11_code
def yX11_kept : MethodName := ⟨RX11, "kept", "(II)I"⟩
abbrev cX11_later : ByteArray := prog_1_method_12_code
def yX11_later : MethodName := ⟨RX11, "later", "(II)I"⟩
abbrev cX11_through : ByteArray := prog_1_method_13_code
def yX11_through : MethodName := ⟨RX11, "through", "()I"⟩
abbrev cX11_few : ByteArray := prog_1_method_14_code
def yX11_few : MethodName := ⟨RX11, "few", "()I"⟩
abbrev cX11_post : ByteArray := prog_1_method_15_code
def yX11_post : MethodName := ⟨RX11, "post", "(II)I"⟩
abbrev cX11_change : ByteArray := prog_1_method_16_code
def yX11_change : MethodName := ⟨RX11, "change", "(I)I"⟩
abbrev cX11_least : ByteArray := prog_1_method_17_code
def yX11_least : MethodName := ⟨RX11, "least", "()I"⟩
abbrev cX11_odds : ByteArray := prog_1_method_18_code
def yX11_odds : MethodName := ⟨RX11, "odds", "()I"⟩
abbrev cX11_see : ByteArray := prog_1_method_19_code
def yX11_see : MethodName := ⟨RX11, "see", "()I"⟩
abbrev cX11_strengths : ByteArray := prog_1_method_20_code
def yX11_strengths : MethodName := ⟨RX11, "strengths", "(I)I"⟩
abbrev cX11_tells : ByteArray := prog_1_method_21_code
def yX11_tells : MethodName := ⟨RX11, "tells", "(I)I"⟩
abbrev cX11_place : ByteArray := prog_1_method_22_code
def yX11_place : MethodName := ⟨RX11, "place", "(II)Z"⟩
abbrev cX11_aside : ByteArray := prog_1_method_23_code
def yX11_aside : MethodName := ⟨RX11, "aside", "(II)Z"⟩
abbrev cX11_kindle : ByteArray := prog_1_method_24_code
def yX11_kindle : MethodName := ⟨RX11, "kindle", "(I)Z"⟩
abbrev cX11_hours : ByteArray := prog_1_method_25_code
def yX11_hours : MethodName := ⟨RX11, "hours", "(I)I"⟩
abbrev cX11_chance : ByteArray := prog_1_method_26_code
def yX11_chance : MethodName := ⟨RX11, "chance", "(I)I"⟩
abbrev cX11_undo : ByteArray := prog_1_method_27_code
def yX11_undo : MethodName := ⟨RX11, "undo", "()Z"⟩
abbrev cX11_seed : ByteArray := prog_1_method_28_code
def yX11_seed : MethodName := ⟨RX11, "seed", "(I)Z"⟩
abbrev cX11_ask : ByteArray := prog_1_method_29_code
def yX11_ask : MethodName := ⟨RX11, "ask", "()J"⟩
abbrev cX11_image : ByteArray := prog_1_method_30_code
def yX11_image : MethodName := ⟨RX11, "image", "()I"⟩
abbrev cX11_octet : ByteArray := prog_1_method_31_code
def yX11_octet : MethodName := ⟨RX11, "octet", "(I)I"⟩
abbrev cX11_on : ByteArray := prog_1_method_32_code
def yX11_on : MethodName := ⟨RX11, "on", "()Z"⟩
abbrev cX11_status : ByteArray := prog_1_method_33_code
def yX11_status : MethodName := ⟨RX11, "status", "(I)I"⟩
abbrev cX11_keepFault : ByteArray := prog_1_method_34_code
def yX11_keepFault : MethodName := ⟨RX11, "keepFault", "()V"⟩
abbrev cX11_refuse : ByteArray := prog_1_method_35_code
def yX11_refuse : MethodName := ⟨RX11, "refuse", "(I)I"⟩
abbrev cX11_refuseAct : ByteArray := prog_1_method_36_code
def yX11_refuseAct : MethodName := ⟨RX11, "refuseAct", "(I)Z"⟩
abbrev cX11_comes : ByteArray := prog_1_method_37_code
def yX11_comes : MethodName := ⟨RX11, "comes", "(III)Z"⟩
abbrev cX11_waits : ByteArray := prog_1_method_38_code
def yX11_waits : MethodName := ⟨RX11, "waits", "(I)Z"⟩
abbrev cX11_takesNow : ByteArray := prog_1_method_39_code
def yX11_takesNow : MethodName := ⟨RX11, "takesNow", "(I)Z"⟩
abbrev cX11_runKept : ByteArray := prog_1_method_40_code
def yX11_runKept : MethodName := ⟨RX11, "runKept", "()I"⟩
abbrev cX11_draw : ByteArray := prog_1_method_41_code
def yX11_draw : MethodName := ⟨RX11, "draw", "(I)I"⟩
def RX12 : String := "PassedDarkModel"
def TX12 : u_T := fun k => match k with
  | 0 => ("PassedDarkModel", "tape", "[I", true)
  | 1 => ("PassedDarkModel", "taped", "I", false)
  | 2 => ("PassedDarkModel", "at", "I", false)
  | 3 => ("PassedDarkModel", "end", "I", false)
  | 4 => ("PassedDarkModel", "ended", "I", false)
  | 5 => ("PassedDarkModel", "bad", "I", false)
  | 6 => ("PassedDarkModel", "badPlace", "I", false)
  | 7 => ("PassedDarkModel", "fault", "I", false)
  | 8 => ("PassedDarkModel", "faultPlace", "I", false)
  | 9 => ("PassedDarkModel", "refused", "[I", true)
  | 10 => ("PassedDarkModel", "numberPlace", "I", false)
  | 11 => ("PassedDarkModel", "courseWord", "[C", true)
  | 12 => ("PassedDarkModel", "bearerWord", "[C", true)
  | 13 => ("PassedDarkModel", "atWord", "[C", true)
  | 14 => ("PassedDarkModel", "paceWord", "[C", true)
  | 15 => ("PassedDarkModel", "houseWord", "[C", true)
  | 16 => ("PassedDarkModel", "careWord", "[C", true)
  | 17 => ("PassedDarkModel", "darkWord", "[C", true)
  | 18 => ("PassedDarkModel", "lightWord", "[C", true)
  | 19 => ("PassedDarkModel", "wanesWord", "[C", true)
  | 20 => ("PassedDarkModel", "takesWord", "[C", true)
  | 21 => ("PassedDarkModel", "tripWord", "[C", true)
  | 22 => ("PassedDarkModel", "strengthWord", "[C", true)
  | 23 => ("PassedDarkModel", "hourWord", "[C", true)
  | 24 => ("PassedDarkModel", "mileWord", "[C", true)
  | 25 => ("PassedDarkModel", "handedWord", "[C", true)
  | 26 => ("PassedDarkModel", "runWord", "[C", true)
  | 27 => ("PassedDarkModel", "farWord", "[C", true)
  | 28 => ("PassedDarkModel", "numberWord", "[C", true)
  | 29 => ("PassedDarkModel", "passedWord", "[C", true)
  | 30 => ("PassedDarkModel", "litWord", "[C", true)
  | 31 => ("PassedDarkModel", "fromWord", "[C", true)
  | 32 => ("PassedDarkModel", "orWord", "[C", true)
  | 33 => ("PassedDarkModel", "andWord", "[C", true)
  | 34 => ("PassedDarkModel", "notWord", "[C", true)
  | 35 => ("PassedDarkModel", "allWord", "[C", true)
  | 36 => ("PassedDarkModel", "minWord", "[C", true)
  | 37 => ("PassedDarkModel", "maxWord", "[C", true)
  | 38 => ("PassedDarkModel", "namePlace", "I", false)
  | 39 => ("PassedDarkModel", "many", "[I", true)
  | 40 => ("PassedDarkModel", "names", "[J", true)
  | 41 => ("PassedDarkModel", "bearers", "[I", true)
  | 42 => ("PassedDarkModel", "houses", "[I", true)
  | 43 => ("PassedDarkModel", "codeFrom", "[I", true)
  | 44 => ("PassedDarkModel", "codeEnd", "[I", true)
  | 45 => ("PassedDarkModel", "codes", "[I", true)
  | 46 => ("PassedDarkModel", "coded", "I", false)
  | 47 => ("PassedDarkModel", "statements", "I", false)
  | 48 => ("PassedDarkModel", "isTold", "Z", false)
  | 49 => ("PassedDarkModel", "textKind", "I", false)
  | 50 => ("PassedDarkModel", "now", "[I", true)
  | 51 => ("PassedDarkModel", "was0", "[I", true)
  | 52 => ("PassedDarkModel", "askHour", "I", false)
  | 53 => ("PassedDarkModel", "askMile", "I", false)
  | 54 => ("PassedDarkModel", "askStrength", "I", false)
  | 55 => ("PassedDarkModel", "askLight", "I", false)
  | 56 => ("PassedDarkModel", "askPace", "I", false)
  | 57 => ("PassedDarkModel", "askHanded", "I", false)
  | 58 => ("PassedDarkModel", "askRun", "I", false)
  | 59 => ("PassedDarkModel", "askFar", "I", false)
  | 60 => ("PassedDarkModel", "askHouse", "I", false)
  | 61 => ("PassedDarkModel", "litBy", "[I", true)
  | 62 => ("PassedDarkModel", "isThought", "Z", false)
  | 63 => ("PassedDarkModel", "runMany", "I", false)
  | 64 => ("PassedDarkModel", "rowMany", "I", false)
  | 65 => ("PassedDarkModel", "rows", "[I", true)
  | 66 => ("PassedDarkModel", "fits", "[Z", true)
  | 67 => ("PassedDarkModel", "fitMany", "I", false)
  | 68 => ("PassedDarkModel", "ways", "[I", true)
  | 69 => ("PassedDarkModel", "kept0", "[I", true)
  | 70 => ("PassedDarkModel", "undoable", "I", false)
  | 71 => ("PassedDarkModel", "newest", "I", false)
  | 72 => ("PassedDarkModel", "seeded", "J", false)
  | 73 => ("PassedDarkModel", "firstAsked", "[C", true)
  | 74 => ("PassedDarkModel", "lastAsked", "[C", true)
  | 75 => ("PassedDarkModel", "oftenAsked", "[C", true)
  | 76 => ("PassedDarkModel", "totalAsked", "[C", true)
  | 77 => ("PassedDarkModel", "mostAsked", "[C", true)
  | 78 => ("PassedDarkModel", "leastAsked", "[C", true)
  | 79 => ("PassedDarkModel", "notAsked", "[C", true)
  | 80 => ("PassedDarkModel", "andAsked", "[C", true)
  | 81 => ("PassedDarkModel", "orAsked", "[C", true)
  | 82 => ("PassedDarkModel", "allAsked", "[C", true)
  | 83 => ("PassedDarkModel", "minAsked", "[C", true)
  | 84 => ("PassedDarkModel", "maxAsked", "[C", true)
  | 85 => ("PassedDarkModel", "hourAsked", "[C", true)
  | 86 => ("PassedDarkModel", "mileAsked", "[C", true)
  | 87 => ("PassedDarkModel", "strengthAsked", "[C", true)
  | 88 => ("PassedDarkModel", "lightAsked", "[C", true)
  | 89 => ("PassedDarkModel", "paceAsked", "[C", true)
  | 90 => ("PassedDarkModel", "handedAsked", "[C", true)
  | 91 => ("PassedDarkModel", "runAsked", "[C", true)
  | 92 => ("PassedDarkModel", "farAsked", "[C", true)
  | 93 => ("PassedDarkModel", "numberAsked", "[C", true)
  | 94 => ("PassedDarkModel", "careAsked", "[C", true)
  | 95 => ("PassedDarkModel", "passedAsked", "[C", true)
  | 96 => ("PassedDarkModel", "litofAsked", "[C", true)
  | 97 => ("PassedDarkModel", "fromofAsked", "[C", true)
  | 98 => ("PassedDarkModel", "qCodes", "[I", true)
  | 99 => ("PassedDarkModel", "qCoded", "I", false)
  | 100 => ("PassedDarkModel", "qWait", "[I", true)
  | 101 => ("PassedDarkModel", "qWaits", "I", false)
  | 102 => ("PassedDarkModel", "qOpened", "I", false)
  | 103 => ("PassedDarkModel", "qBase", "I", false)
  | 104 => ("PassedDarkModel", "qPile", "[J", true)
  | 105 => ("PassedDarkModel", "qPiled", "I", false)
  | 106 => ("PassedDarkModel", "qAnswer", "J", false)
  | 107 => ("PassedDarkModel", "qIsNew", "Z", false)
  | 108 => ("PassedDarkModel", "octet", "[I", true)
  | _ => ("PassedDarkModel", "octets", "I", false)
def tyX12 : Nat → FieldType := fun k => match k with
  | 0 => .array .int
  | 1 => .int
  | 2 => .int
  | 3 => .int
  | 4 => .int
  | 5 => .int
  | 6 => .int
  | 7 => .int
  | 8 => .int
  | 9 => .array .int
  | 10 => .int
  | 11 => .array .char
  | 12 => .array .char
  | 13 => .array .char
  | 14 => .array .char
  | 15 => .array .char
  | 16 => .array .char
  | 17 => .array .char
  | 18 => .array .char
  | 19 => .array .char
  | 20 => .array .char
  | 21 => .array .char
  | 22 => .array .char
  | 23 => .array .char
  | 24 => .array .char
  | 25 => .array .char
  | 26 => .array .char
  | 27 => .array .char
  | 28 => .array .char
  | 29 => .array .char
  | 30 => .array .char
  | 31 => .array .char
  | 32 => .array .char
  | 33 => .array .char
  | 34 => .array .char
  | 35 => .array .char
  | 36 => .array .char
  | 37 => .array .char
  | 38 => .int
  | 39 => .array .int
  | 40 => .array .long
  | 41 => .array .int
  | 42 => .array .int
  | 43 => .array .int
  | 44 => .array .int
  | 45 => .array .int
  | 46 => .int
  | 47 => .int
  | 48 => .boolean
  | 49 => .int
  | 50 => .array .int
  | 51 => .array .int
  | 52 => .int
  | 53 => .int
  | 54 => .int
  | 55 => .int
  | 56 => .int
  | 57 => .int
  | 58 => .int
  | 59 => .int
  | 60 => .int
  | 61 => .array .int
  | 62 => .boolean
  | 63 => .int
  | 64 => .int
  | 65 => .array .int
  | 66 => .array .boolean
  | 67 => .int
  | 68 => .array .int
  | 69 => .array .int
  | 70 => .int
  | 71 => .int
  | 72 => .long
  | 73 => .array .char
  | 74 => .array .char
  | 75 => .array .char
  | 76 => .array .char
  | 77 => .array .char
  | 78 => .array .char
  | 79 => .array .char
  | 80 => .array .char
  | 81 => .array .char
  | 82 => .array .char
  | 83 => .array .char
  | 84 => .array .char
  | 85 => .array .char
  | 86 => .array .char
  | 87 => .array .char
  | 88 => .array .char
  | 89 => .array .char
  | 90 => .array .char
  | 91 => .array .char
  | 92 => .array .char
  | 93 => .array .char
  | 94 => .array .char
  | 95 => .array .char
  | 96 => .array .char
  | 97 => .array .char
  | 98 => .array .int
  | 99 => .int
  | 100 => .array .int
  | 101 => .int
  | 102 => .int
  | 103 => .int
  | 104 => .array .long
  | 105 => .int
  | 106 => .long
  | 107 => .boolean
  | 108 => .array .int
  | _ => .int
abbrev wsX120 : List Cond := u_ws RX12 TX12 110
theorem nmX12 : ∀ a, a < 110 → ∀ b, b < 110 → a ≠ b → (TX12 a).2.1 ≠ (TX12 b).2.1 := by decide +kernel
theorem tyX12_ok : ∀ k, k < 110 → parseFieldDescriptor (TX12 k).2.2.1 = some (tyX12 k) := by decide +kernel
abbrev cX12_init : ByteArray := prog_14_method_1_code
def yX12_init : MethodName := ⟨RX12, "<init>", "()V"⟩
abbrev cX12_isIn : ByteArray := prog_14_method_2_code
def yX12_isIn : MethodName := ⟨RX12, "isIn", "(JJJ)Z"⟩
abbrev cX12_cut : ByteArray := prog_14_method_3_code
def yX12_cut : MethodName := ⟨RX12, "cut", "(JI)I"⟩
abbrev cX12_farFrom : ByteArray := prog_14_method_4_code
def yX12_farFrom : MethodName := ⟨RX12, "farFrom", "(II)I"⟩
abbrev cX12_feed : ByteArray := prog_14_method_5_code
def yX12_feed : MethodName := ⟨RX12, "feed", "(IIIII)I"⟩
abbrev cX12_end : ByteArray := prog_14_method_6_code
def yX12_end : MethodName := ⟨RX12, "end", "(I)Z"⟩
abbrev cX12_fail : ByteArray := prog_14_method_7_code
def yX12_fail : MethodName := ⟨RX12, "fail", "(II)V"⟩
abbrev cX12_isLetter : ByteArray := prog_14_method_8_code
def yX12_isLetter : MethodName := ⟨RX12, "isLetter", "(I)Z"⟩
abbrev cX12_isDigit : ByteArray := prog_14_method_9_code
def yX12_isDigit : MethodName := ⟨RX12, "isDigit", "(I)Z"⟩
abbrev cX12_look : ByteArray := prog_14_method_10_code
def yX12_look : MethodName := ⟨RX12, "look", "()I"⟩
abbrev cX12_isHere : ByteArray := prog_14_method_11_code
def yX12_isHere : MethodName := ⟨RX12, "isHere", "([C)Z"⟩
abbrev cX12_takes : ByteArray := prog_14_method_12_code
def yX12_takes : MethodName := ⟨RX12, "takes", "([C)Z"⟩
abbrev cX12_asks : ByteArray := prog_14_method_13_code
def yX12_asks : MethodName := ⟨RX12, "asks", "([C)V"⟩
abbrev cX12_takesSign : ByteArray := prog_14_method_14_code
def yX12_takesSign : MethodName := ⟨RX12, "takesSign", "(I)Z"⟩
abbrev cX12_asksSign : ByteArray := prog_14_method_15_code
def yX12_asksSign : MethodName := ⟨RX12, "asksSign", "(I)V"⟩
abbrev cX12_number : ByteArray := prog_14_method_16_code
def yX12_number : MethodName := ⟨RX12, "number", "(II)I"⟩
abbrev cX12_isOwnHere : ByteArray := prog_14_method_17_code
def yX12_isOwnHere : MethodName := ⟨RX12, "isOwnHere", "()Z"⟩
abbrev cX12_name : ByteArray := prog_14_method_18_code
def yX12_name : MethodName := ⟨RX12, "name", "()J"⟩
abbrev cX12_isAllowed : ByteArray := prog_14_method_19_code
def yX12_isAllowed : MethodName := ⟨RX12, "isAllowed", "(I)Z"⟩
abbrev cX12_courseTold : ByteArray := prog_14_method_20_code
def yX12_courseTold : MethodName := ⟨RX12, "courseTold", "()V"⟩
abbrev cX12_newName : ByteArray := prog_14_method_21_code
def yX12_newName : MethodName := ⟨RX12, "newName", "()J"⟩
abbrev cX12_bearerTold : ByteArray := prog_14_method_22_code
def yX12_bearerTold : MethodName := ⟨RX12, "bearerTold", "(I)V"⟩
abbrev cX12_houseTold : ByteArray := prog_14_method_23_code
def yX12_houseTold : MethodName := ⟨RX12, "houseTold", "(I)V"⟩
abbrev cX12_codesTold : ByteArray := prog_14_method_24_code
def yX12_codesTold : MethodName := ⟨RX12, "codesTold", "(II)V"⟩
abbrev cX12_statementTold : ByteArray := prog_14_method_25_code
def yX12_statementTold : MethodName := ⟨RX12, "statementTold", "()V"⟩
abbrev cX12_course : ByteArray := prog_14_method_26_code
def yX12_course : MethodName := ⟨RX12, "course", "()I"⟩
abbrev cX12_stands : ByteArray := prog_14_method_27_code
def yX12_stands : MethodName := ⟨RX12, "stands", "()V"⟩
abbrev cX12_fault : ByteArray := prog_14_method_28_code
def yX12_fault : MethodName := ⟨RX12, "fault", "(I)I"⟩
abbrev cX12_mileMany : ByteArray := prog_14_method_29_code
def yX12_mileMany : MethodName := ⟨RX12, "mileMany", "()I"⟩
abbrev cX12_bearerMany : ByteArray := prog_14_method_30_code
def yX12_bearerMany : MethodName := ⟨RX12, "bearerMany", "()I"⟩
abbrev cX12_houseMany : ByteArray := prog_14_method_31_code
def yX12_houseMany : MethodName := ⟨RX12, "houseMany", "()I"⟩
abbrev cX12_isBearer : ByteArray := prog_14_method_32_code
def yX12_isBearer : MethodName := ⟨RX12, "isBearer", "(J)Z"⟩
abbrev cX12_isHouse : ByteArray := prog_14_method_33_code
def yX12_isHouse : MethodName := ⟨RX12, "isHouse", "(I)Z"⟩
abbrev cX12_isMile : ByteArray := prog_14_method_34_code
def yX12_isMile : MethodName := ⟨RX12, "isMile", "(I)Z"⟩
abbrev cX12_houseMile : ByteArray := prog_14_method_35_code
def yX12_houseMile : MethodName := ⟨RX12, "houseMile", "(I)I"⟩
abbrev cX12_paceOf : ByteArray := prog_14_method_36_code
def yX12_paceOf : MethodName := ⟨RX12, "paceOf", "(I)I"⟩
abbrev cX12_mileOf : ByteArray := prog_14_method_37_code
def yX12_mileOf : MethodName := ⟨RX12, "mileOf", "(I)I"⟩
abbrev cX12_isAside : ByteArray := prog_14_method_38_code
def yX12_isAside : MethodName := ⟨RX12, "isAside", "(I)Z"⟩
abbrev cX12_isCoded : ByteArray := prog_14_method_39_code
def yX12_isCoded : MethodName := ⟨RX12, "isCoded", "(I)Z"⟩
abbrev cX12_codesTell : ByteArray := prog_14_method_40_code
def yX12_codesTell : MethodName := ⟨RX12, "codesTell", "(I)J"⟩
abbrev cX12_lightAt : ByteArray := prog_14_method_41_code
def yX12_lightAt : MethodName := ⟨RX12, "lightAt", "(II)I"⟩
abbrev cX12_laysLit : ByteArray := prog_14_method_42_code
def yX12_laysLit : MethodName := ⟨RX12, "laysLit", "()V"⟩
abbrev cX12_doesTake : ByteArray := prog_14_method_43_code
def yX12_doesTake : MethodName := ⟨RX12, "doesTake", "(I)Z"⟩
abbrev cX12_isOut : ByteArray := prog_14_method_44_code
def yX12_isOut : MethodName := ⟨RX12, "isOut", "()Z"⟩
abbrev cX12_isThrough : ByteArray := prog_14_method_45_code
def yX12_isThrough : MethodName := ⟨RX12, "isThrough", "()Z"⟩
abbrev cX12_takerAt : ByteArray := prog_14_method_46_code
def yX12_takerAt : MethodName := ⟨RX12, "takerAt", "(I)I"⟩
abbrev cX12_passes : ByteArray := prog_14_method_47_code
def yX12_passes : MethodName := ⟨RX12, "passes", "(II)V"⟩
abbrev cX12_waned : ByteArray := prog_14_method_48_code
def yX12_waned : MethodName := ⟨RX12, "waned", "(IIZ)I"⟩
abbrev cX12_isKept : ByteArray := prog_14_method_49_code
def yX12_isKept : MethodName := ⟨RX12, "isKept", "(I)V"⟩
abbrev cX12_isRun : ByteArray := prog_14_method_50_code
def yX12_isRun : MethodName := ⟨RX12, "isRun", "()V"⟩
abbrev cX12_hourGoes : ByteArray := prog_14_method_51_code
def yX12_hourGoes : MethodName := ⟨RX12, "hourGoes", "()V"⟩
abbrev cX12_hoursGo : ByteArray := prog_14_method_52_code
def yX12_hoursGo : MethodName := ⟨RX12, "hoursGo", "(I)V"⟩
abbrev cX12_putsAside : ByteArray := prog_14_method_53_code
def yX12_putsAside : MethodName := ⟨RX12, "putsAside", "()V"⟩
abbrev cX12_triesAnew : ByteArray := prog_14_method_54_code
def yX12_triesAnew : MethodName := ⟨RX12, "triesAnew", "()V"⟩
abbrev cX12_takesBack : ByteArray := prog_14_method_55_code
def yX12_takesBack : MethodName := ⟨RX12, "takesBack", "()V"⟩
abbrev cX12_isAhead : ByteArray := prog_14_method_56_code
def yX12_isAhead : MethodName := ⟨RX12, "isAhead", "(III)Z"⟩
abbrev cX12_bits : ByteArray := prog_14_method_57_code
def yX12_bits : MethodName := ⟨RX12, "bits", "(I)I"⟩
abbrev cX12_passedSet : ByteArray := prog_14_method_58_code
def yX12_passedSet : MethodName := ⟨RX12, "passedSet", "()I"⟩
abbrev cX12_has : ByteArray := prog_14_method_59_code
def yX12_has : MethodName := ⟨RX12, "has", "(I)I"⟩
abbrev cX12_letter : ByteArray := prog_14_method_60_code
def yX12_letter : MethodName := ⟨RX12, "letter", "(III)I"⟩
abbrev cX12_bearer : ByteArray := prog_14_method_61_code
def yX12_bearer : MethodName := ⟨RX12, "bearer", "(II)I"⟩
abbrev cX12_house : ByteArray := prog_14_method_62_code
def yX12_house : MethodName := ⟨RX12, "house", "(II)I"⟩
abbrev cX12_light : ByteArray := prog_14_method_63_code
def yX12_light : MethodName := ⟨RX12, "light", "(II)I"⟩
abbrev cX12_kept : ByteArray := prog_14_method_64_code
def yX12_kept : MethodName := ⟨RX12, "kept", "(II)I"⟩
abbrev cX12_later : ByteArray := prog_14_method_65_code
def yX12_later : MethodName := ⟨RX12, "later", "(II)I"⟩
abbrev cX12_hoursThrough : ByteArray := prog_14_method_66_code
def yX12_hoursThrough : MethodName := ⟨RX12, "hoursThrough", "()I"⟩
abbrev cX12_through : ByteArray := prog_14_method_67_code
def yX12_through : MethodName := ⟨RX12, "through", "()I"⟩
abbrev cX12_few : ByteArray := prog_14_method_68_code
def yX12_few : MethodName := ⟨RX12, "few", "()I"⟩
abbrev cX12_strongThrough : ByteArray := prog_14_method_69_code
def yX12_strongThrough : MethodName := ⟨RX12, "strongThrough", "()I"⟩
abbrev cX12_post : ByteArray := prog_14_method_70_code
def yX12_post : MethodName := ⟨RX12, "post", "(II)I"⟩
abbrev cX12_change : ByteArray := prog_14_method_71_code
def yX12_change : MethodName := ⟨RX12, "change", "(I)I"⟩
abbrev cX12_least : ByteArray := prog_14_method_72_code
def yX12_least : MethodName := ⟨RX12, "least", "()I"⟩
abbrev cX12_trips : ByteArray := prog_14_method_73_code
def yX12_trips : MethodName := ⟨RX12, "trips", "(I)V"⟩
abbrev cX12_odds : ByteArray := prog_14_method_74_code
def yX12_odds : MethodName := ⟨RX12, "odds", "()I"⟩
abbrev cX12_refuses : ByteArray := prog_14_method_75_code
def yX12_refuses : MethodName := ⟨RX12, "refuses", "(I)I"⟩
abbrev cX12_see : ByteArray := prog_14_method_76_code
def yX12_see : MethodName := ⟨RX12, "see", "()I"⟩
abbrev cX12_isAsSeen : ByteArray := prog_14_method_77_code
def yX12_isAsSeen : MethodName := ⟨RX12, "isAsSeen", "(I)Z"⟩
abbrev cX12_laysStrengths : ByteArray := prog_14_method_78_code
def yX12_laysStrengths : MethodName := ⟨RX12, "laysStrengths", "()V"⟩
abbrev cX12_strengths : ByteArray := prog_14_method_79_code
def yX12_strengths : MethodName := ⟨RX12, "strengths", "(I)I"⟩
abbrev cX12_mostAlike : ByteArray := prog_14_method_80_code
def yX12_mostAlike : MethodName := ⟨RX12, "mostAlike", "(II)I"⟩
abbrev cX12_tells : ByteArray := prog_14_method_81_code
def yX12_tells : MethodName := ⟨RX12, "tells", "(I)I"⟩
abbrev cX12_keeps : ByteArray := prog_14_method_82_code
def yX12_keeps : MethodName := ⟨RX12, "keeps", "()V"⟩
abbrev cX12_undo : ByteArray := prog_14_method_83_code
def yX12_undo : MethodName := ⟨RX12, "undo", "()Z"⟩
abbrev cX12_isChanged : ByteArray := prog_14_method_84_code
def yX12_isChanged : MethodName := ⟨RX12, "isChanged", "(ZII)Z"⟩
abbrev cX12_doesWait : ByteArray := prog_14_method_85_code
def yX12_doesWait : MethodName := ⟨RX12, "doesWait", "(I)Z"⟩
abbrev cX12_place : ByteArray := prog_14_method_86_code
def yX12_place : MethodName := ⟨RX12, "place", "(II)Z"⟩
abbrev cX12_aside : ByteArray := prog_14_method_87_code
def yX12_aside : MethodName := ⟨RX12, "aside", "(II)Z"⟩
abbrev cX12_kindle : ByteArray := prog_14_method_88_code
def yX12_kindle : MethodName := ⟨RX12, "kindle", "(I)Z"⟩
abbrev cX12_hours : ByteArray := prog_14_method_89_code
def yX12_hours : MethodName := ⟨RX12, "hours", "(I)I"⟩
abbrev cX12_seed : ByteArray := prog_14_method_90_code
def yX12_seed : MethodName := ⟨RX12, "seed", "(I)Z"⟩
abbrev cX12_drawOf : ByteArray := prog_14_method_91_code
def yX12_drawOf : MethodName := ⟨RX12, "drawOf", "(I)I"⟩
abbrev cX12_chance : ByteArray := prog_14_method_92_code
def yX12_chance : MethodName := ⟨RX12, "chance", "(I)I"⟩
abbrev cX12_qCode : ByteArray := prog_14_method_93_code
def yX12_qCode : MethodName := ⟨RX12, "qCode", "(I)V"⟩
abbrev cX12_qOpens : ByteArray := prog_14_method_94_code
def yX12_qOpens : MethodName := ⟨RX12, "qOpens", "(II)V"⟩
abbrev cX12_qIsOn : ByteArray := prog_14_method_95_code
def yX12_qIsOn : MethodName := ⟨RX12, "qIsOn", "(I)Z"⟩
abbrev cX12_qDrops : ByteArray := prog_14_method_96_code
def yX12_qDrops : MethodName := ⟨RX12, "qDrops", "()V"⟩
abbrev cX12_qIsBracket : ByteArray := prog_14_method_97_code
def yX12_qIsBracket : MethodName := ⟨RX12, "qIsBracket", "(I)Z"⟩
abbrev cX12_qBracket : ByteArray := prog_14_method_98_code
def yX12_qBracket : MethodName := ⟨RX12, "qBracket", "()I"⟩
abbrev cX12_qDropsToBracket : ByteArray := prog_14_method_99_code
def yX12_qDropsToBracket : MethodName := ⟨RX12, "qDropsToBracket", "()V"⟩
abbrev cX12_qWordHere : ByteArray := prog_14_method_100_code
def yX12_qWordHere : MethodName := ⟨RX12, "qWordHere", "()I"⟩
abbrev cX12_qWordOf : ByteArray := prog_14_method_101_code
def yX12_qWordOf : MethodName := ⟨RX12, "qWordOf", "(II)I"⟩
abbrev cX12_qAsksWord : ByteArray := prog_14_method_102_code
def yX12_qAsksWord : MethodName := ⟨RX12, "qAsksWord", "(I)V"⟩
abbrev cX12_qEndsPart : ByteArray := prog_14_method_103_code
def yX12_qEndsPart : MethodName := ⟨RX12, "qEndsPart", "()V"⟩
abbrev cX12_qPartTold : ByteArray := prog_14_method_104_code
def yX12_qPartTold : MethodName := ⟨RX12, "qPartTold", "()V"⟩
abbrev cX12_qGoesOn : ByteArray := prog_14_method_105_code
def yX12_qGoesOn : MethodName := ⟨RX12, "qGoesOn", "()Z"⟩
abbrev cX12_qSums : ByteArray := prog_14_method_106_code
def yX12_qSums : MethodName := ⟨RX12, "qSums", "()V"⟩
abbrev cX12_qFact : ByteArray := prog_14_method_107_code
def yX12_qFact : MethodName := ⟨RX12, "qFact", "()V"⟩
abbrev cX12_qHasSquare : ByteArray := prog_14_method_108_code
def yX12_qHasSquare : MethodName := ⟨RX12, "qHasSquare", "()Z"⟩
abbrev cX12_qDropsNots : ByteArray := prog_14_method_109_code
def yX12_qDropsNots : MethodName := ⟨RX12, "qDropsNots", "()V"⟩
abbrev cX12_qTest : ByteArray := prog_14_method_110_code
def yX12_qTest : MethodName := ⟨RX12, "qTest", "()V"⟩
abbrev cX12_qGoesOnTest : ByteArray := prog_14_method_111_code
def yX12_qGoesOnTest : MethodName := ⟨RX12, "qGoesOnTest", "()Z"⟩
abbrev cX12_qClip : ByteArray := prog_14_method_112_code
def yX12_qClip : MethodName := ⟨RX12, "qClip", "(J)J"⟩
abbrev cX12_qFloor : ByteArray := prog_14_method_113_code
def yX12_qFloor : MethodName := ⟨RX12, "qFloor", "(JJ)J"⟩
abbrev cX12_qPuts : ByteArray := prog_14_method_114_code
def yX12_qPuts : MethodName := ⟨RX12, "qPuts", "(J)V"⟩
abbrev cX12_qJoins : ByteArray := prog_14_method_115_code
def yX12_qJoins : MethodName := ⟨RX12, "qJoins", "(I)V"⟩
abbrev cX12_qPartOf : ByteArray := prog_14_method_116_code
def yX12_qPartOf : MethodName := ⟨RX12, "qPartOf", "(II)J"⟩
abbrev cX12_qOf : ByteArray := prog_14_method_117_code
def yX12_qOf : MethodName := ⟨RX12, "qOf", "(IJI)J"⟩
abbrev cX12_qTold : ByteArray := prog_14_method_118_code
def yX12_qTold : MethodName := ⟨RX12, "qTold", "(I)J"⟩
abbrev cX12_qKind : ByteArray := prog_14_method_119_code
def yX12_qKind : MethodName := ⟨RX12, "qKind", "()I"⟩
abbrev cX12_qTakes : ByteArray := prog_14_method_120_code
def yX12_qTakes : MethodName := ⟨RX12, "qTakes", "(IJI)V"⟩
abbrev cX12_ask : ByteArray := prog_14_method_121_code
def yX12_ask : MethodName := ⟨RX12, "ask", "()J"⟩
abbrev cX12_checked : ByteArray := prog_14_method_122_code
def yX12_checked : MethodName := ⟨RX12, "checked", "([II)I"⟩
abbrev cX12_writes : ByteArray := prog_14_method_123_code
def yX12_writes : MethodName := ⟨RX12, "writes", "(I)V"⟩
abbrev cX12_image : ByteArray := prog_14_method_124_code
def yX12_image : MethodName := ⟨RX12, "image", "()I"⟩
abbrev cX12_octet : ByteArray := prog_14_method_125_code
def yX12_octet : MethodName := ⟨RX12, "octet", "(I)I"⟩
abbrev cX12_canHave : ByteArray := prog_14_method_126_code
def yX12_canHave : MethodName := ⟨RX12, "canHave", "()Z"⟩
abbrev cX12_isImage : ByteArray := prog_14_method_127_code
def yX12_isImage : MethodName := ⟨RX12, "isImage", "(I)Z"⟩
abbrev cX12_on : ByteArray := prog_14_method_128_code
def yX12_on : MethodName := ⟨RX12, "on", "()Z"⟩
abbrev cX12_status : ByteArray := prog_14_method_129_code
def yX12_status : MethodName := ⟨RX12, "status", "(I)I"⟩
def RJ6 : String := "java/lang/Integer"
abbrev cJ6_bitCount_0f7a4 : ByteArray := prog_15_method_49_code
def yJ6_bitCount_0f7a4 : MethodName := ⟨RJ6, "bitCount", "(I)I"⟩
def RJ9 : String := "java/lang/Math"
abbrev cJ9_floorDiv_7cf53 : ByteArray := prog_16_method_47_code
def yJ9_floorDiv_7cf53 : MethodName := ⟨RJ9, "floorDiv", "(II)I"⟩
abbrev cJ9_abs_0f7a4 : ByteArray := prog_16_method_59_code
def yJ9_abs_0f7a4 : MethodName := ⟨RJ9, "abs", "(I)I"⟩
abbrev cJ9_max_7cf53 : ByteArray := prog_16_method_65_code
def yJ9_max_7cf53 : MethodName := ⟨RJ9, "max", "(II)I"⟩
abbrev cJ9_max_f86c9 : ByteArray := prog_16_method_66_code
def yJ9_max_f86c9 : MethodName := ⟨RJ9, "max", "(JJ)J"⟩
abbrev cJ9_min_7cf53 : ByteArray := prog_16_method_69_code
def yJ9_min_7cf53 : MethodName := ⟨RJ9, "min", "(II)I"⟩
abbrev cJ9_min_f86c9 : ByteArray := prog_16_method_70_code
def yJ9_min_f86c9 : MethodName := ⟨RJ9, "min", "(JJ)J"⟩
def RJ0 : String := "java/lang/String"
abbrev cJ0_length_8abf5 : ByteArray := prog_17_method_54_code
def yJ0_length_8abf5 : MethodName := ⟨RJ0, "length", "()I"⟩
abbrev cJ0_charAt_5068e : ByteArray := prog_17_method_56_code
def yJ0_charAt_5068e : MethodName := ⟨RJ0, "charAt", "(I)C"⟩
abbrev cJ0_coder_7d493 : ByteArray := prog_17_method_152_code
def yJ0_coder_7d493 : MethodName := ⟨RJ0, "coder", "()B"⟩
abbrev cJ0_isLatin1_aae02 : ByteArray := prog_17_method_154_code
def yJ0_isLatin1_aae02 : MethodName := ⟨RJ0, "isLatin1", "()Z"⟩
abbrev cJ0_checkIndex_df160 : ByteArray := prog_17_method_155_code
def yJ0_checkIndex_df160 : MethodName := ⟨RJ0, "checkIndex", "(II)V"⟩
def RJ1 : String := "java/lang/StringLatin1"
abbrev cJ1_charAt_3b067 : ByteArray := prog_18_method_2_code
def yJ1_charAt_3b067 : MethodName := ⟨RJ1, "charAt", "([BI)C"⟩
def RJ2 : String := "java/lang/StringUTF16"
abbrev cJ2_getChar_3b067 : ByteArray := prog_19_method_5_code
def yJ2_getChar_3b067 : MethodName := ⟨RJ2, "getChar", "([BI)C"⟩
abbrev cJ2_length_9d52b : ByteArray := prog_19_method_6_code
def yJ2_length_9d52b : MethodName := ⟨RJ2, "length", "([B)I"⟩
abbrev cJ2_charAt_3b067 : ByteArray := prog_19_method_83_code
def yJ2_charAt_3b067 : MethodName := ⟨RJ2, "charAt", "([BI)C"⟩
abbrev cJ2_checkIndex_2214a : ByteArray := prog_19_method_91_code
def yJ2_checkIndex_2214a : MethodName := ⟨RJ2, "checkIndex", "(I[B)V"⟩
def RJ10 : String := "java/lang/System"
def RJ3 : String := "jdk/internal/util/Preconditions"
abbrev cJ3_checkIndex_8e157 : ByteArray := prog_21_method_11_code
def yJ3_checkIndex_8e157 : MethodName := ⟨RJ3, "checkIndex", "(IILjava/util/function/BiFunction;)I"⟩
def RL : String := "PassedDarkLaw"
abbrev cL_law : ByteArray := code
def yL_law : MethodName := ⟨RL, "law", "([I)Z"⟩
abbrev vwCl : List vw_C := [(RX0, TX0, 10), (RX1, TX1, 17), (RX2, TX2, 4), (RX3, TX3, 5), (RX4, TX4, 2), (RX5, TX5, 5), (RX6, TX6, 0), (RX7, TX7, 7), (RX8, TX8, 7), (RX9, TX9, 8), (RX11, TX11, 14), (RX12, TX12, 110)]

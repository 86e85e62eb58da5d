section
def lw_okq (q : MethodName × Nat) : Prop := (q.1.cls ≠ "java/lang/invoke/MethodHandle" ∧ q.1.cls ≠ "java/lang/invoke/VarHandle") ∧ Cond.instantiable q.1.cls q.2 ∈ tables_1 ∧ Cond.privateMethod q.1 ∈ tables_1 ∧ Cond.instanceMethod q.1 ∈ tables_1
theorem lw_p0 : lw_okq (⟨"LetterWalls", "error", "(I)I"⟩, 11) := ⟨⟨by decide +kernel, by decide +kernel⟩, List.mem_of_getElem? (i := 24) (by decide +kernel), List.mem_of_getElem? (i := 373) (by decide +kernel), List.mem_of_getElem? (i := 374) (by decide +kernel)⟩
theorem lw_p1 : lw_okq (⟨"LetterWalls$Laws", "leadsToEnd", "(LLetterWalls$Word;LLetterWalls$Row;I)Z"⟩, 4) := ⟨⟨by decide +kernel, by decide +kernel⟩, List.mem_of_getElem? (i := 208) (by decide +kernel), List.mem_of_getElem? (i := 442) (by decide +kernel), List.mem_of_getElem? (i := 443) (by decide +kernel)⟩
theorem lw_p2 : lw_okq (⟨"LetterWalls$Laws", "countFromBegin", "(LLetterWalls$Tongue;LLetterWalls$Row;)V"⟩, 4) := ⟨⟨by decide +kernel, by decide +kernel⟩, List.mem_of_getElem? (i := 208) (by decide +kernel), List.mem_of_getElem? (i := 458) (by decide +kernel), List.mem_of_getElem? (i := 459) (by decide +kernel)⟩
theorem lw_p3 : lw_okq (⟨"LetterWalls$Laws", "waysInto", "(II)I"⟩, 4) := ⟨⟨by decide +kernel, by decide +kernel⟩, List.mem_of_getElem? (i := 208) (by decide +kernel), List.mem_of_getElem? (i := 463) (by decide +kernel), List.mem_of_getElem? (i := 464) (by decide +kernel)⟩
theorem lw_p4 : lw_okq (⟨"LetterWalls$Parser", "level", "(II)V"⟩, 7) := ⟨⟨by decide +kernel, by decide +kernel⟩, List.mem_of_getElem? (i := 250) (by decide +kernel), List.mem_of_getElem? (i := 550) (by decide +kernel), List.mem_of_getElem? (i := 551) (by decide +kernel)⟩
theorem lw_p5 : lw_okq (⟨"LetterWalls$Parser", "operand", "(I)V"⟩, 7) := ⟨⟨by decide +kernel, by decide +kernel⟩, List.mem_of_getElem? (i := 250) (by decide +kernel), List.mem_of_getElem? (i := 554) (by decide +kernel), List.mem_of_getElem? (i := 555) (by decide +kernel)⟩
theorem lw_p6 : lw_okq (⟨"LetterWalls$Parser", "next", "()I"⟩, 7) := ⟨⟨by decide +kernel, by decide +kernel⟩, List.mem_of_getElem? (i := 250) (by decide +kernel), List.mem_of_getElem? (i := 558) (by decide +kernel), List.mem_of_getElem? (i := 559) (by decide +kernel)⟩
theorem lw_p7 : lw_okq (⟨"LetterWalls$Parser", "number", "()V"⟩, 7) := ⟨⟨by decide +kernel, by decide +kernel⟩, List.mem_of_getElem? (i := 250) (by decide +kernel), List.mem_of_getElem? (i := 565) (by decide +kernel), List.mem_of_getElem? (i := 566) (by decide +kernel)⟩
theorem lw_p8 : lw_okq (⟨"LetterWalls$Parser", "emit", "(I)V"⟩, 7) := ⟨⟨by decide +kernel, by decide +kernel⟩, List.mem_of_getElem? (i := 250) (by decide +kernel), List.mem_of_getElem? (i := 569) (by decide +kernel), List.mem_of_getElem? (i := 570) (by decide +kernel)⟩
theorem lw_p9 : lw_okq (⟨"LetterWalls$Parser", "close", "()V"⟩, 7) := ⟨⟨by decide +kernel, by decide +kernel⟩, List.mem_of_getElem? (i := 250) (by decide +kernel), List.mem_of_getElem? (i := 655) (by decide +kernel), List.mem_of_getElem? (i := 656) (by decide +kernel)⟩
theorem lw_p10 : lw_okq (⟨"LetterWalls$Parser", "failHere", "()V"⟩, 7) := ⟨⟨by decide +kernel, by decide +kernel⟩, List.mem_of_getElem? (i := 250) (by decide +kernel), List.mem_of_getElem? (i := 659) (by decide +kernel), List.mem_of_getElem? (i := 660) (by decide +kernel)⟩
theorem lw_p11 : lw_okq (⟨"LetterWalls$Laws", "lowestThatLeadsOn", "(LLetterWalls$Tongue;LLetterWalls$Row;II)I"⟩, 4) := ⟨⟨by decide +kernel, by decide +kernel⟩, List.mem_of_getElem? (i := 208) (by decide +kernel), List.mem_of_getElem? (i := 688) (by decide +kernel), List.mem_of_getElem? (i := 689) (by decide +kernel)⟩
theorem lw_p12 : lw_okq (⟨"LetterWalls", "readsWith", "(III)Z"⟩, 11) := ⟨⟨by decide +kernel, by decide +kernel⟩, List.mem_of_getElem? (i := 24) (by decide +kernel), List.mem_of_getElem? (i := 711) (by decide +kernel), List.mem_of_getElem? (i := 712) (by decide +kernel)⟩
theorem lw_p13 : lw_okq (⟨"LetterWalls", "othersAt", "(II)I"⟩, 11) := ⟨⟨by decide +kernel, by decide +kernel⟩, List.mem_of_getElem? (i := 24) (by decide +kernel), List.mem_of_getElem? (i := 719) (by decide +kernel), List.mem_of_getElem? (i := 720) (by decide +kernel)⟩
theorem lw_p14 : lw_okq (⟨"LetterWalls$Laws", "leastInto", "(II)I"⟩, 4) := ⟨⟨by decide +kernel, by decide +kernel⟩, List.mem_of_getElem? (i := 208) (by decide +kernel), List.mem_of_getElem? (i := 742) (by decide +kernel), List.mem_of_getElem? (i := 743) (by decide +kernel)⟩
theorem lw_p15 : lw_okq (⟨"LetterWalls", "unlikeWish", "(LLetterWalls$Sheet;)I"⟩, 11) := ⟨⟨by decide +kernel, by decide +kernel⟩, List.mem_of_getElem? (i := 24) (by decide +kernel), List.mem_of_getElem? (i := 763) (by decide +kernel), List.mem_of_getElem? (i := 764) (by decide +kernel)⟩
def lw_privs_1 : List (MethodName × Nat) := [(⟨"LetterWalls", "error", "(I)I"⟩, 11), (⟨"LetterWalls$Laws", "leadsToEnd", "(LLetterWalls$Word;LLetterWalls$Row;I)Z"⟩, 4), (⟨"LetterWalls$Laws", "countFromBegin", "(LLetterWalls$Tongue;LLetterWalls$Row;)V"⟩, 4), (⟨"LetterWalls$Laws", "waysInto", "(II)I"⟩, 4), (⟨"LetterWalls$Parser", "level", "(II)V"⟩, 7), (⟨"LetterWalls$Parser", "operand", "(I)V"⟩, 7), (⟨"LetterWalls$Parser", "next", "()I"⟩, 7), (⟨"LetterWalls$Parser", "number", "()V"⟩, 7), (⟨"LetterWalls$Parser", "emit", "(I)V"⟩, 7), (⟨"LetterWalls$Parser", "close", "()V"⟩, 7), (⟨"LetterWalls$Parser", "failHere", "()V"⟩, 7), (⟨"LetterWalls$Laws", "lowestThatLeadsOn", "(LLetterWalls$Tongue;LLetterWalls$Row;II)I"⟩, 4), (⟨"LetterWalls", "readsWith", "(III)Z"⟩, 11), (⟨"LetterWalls", "othersAt", "(II)I"⟩, 11), (⟨"LetterWalls$Laws", "leastInto", "(II)I"⟩, 4), (⟨"LetterWalls", "unlikeWish", "(LLetterWalls$Sheet;)I"⟩, 11)]
theorem lw_r1 : ∀ q ∈ lw_privs_1, lw_okq q := List.forall_mem_cons.mpr ⟨lw_p0, List.forall_mem_cons.mpr ⟨lw_p1, List.forall_mem_cons.mpr ⟨lw_p2, List.forall_mem_cons.mpr ⟨lw_p3, List.forall_mem_cons.mpr ⟨lw_p4, List.forall_mem_cons.mpr ⟨lw_p5, List.forall_mem_cons.mpr ⟨lw_p6, List.forall_mem_cons.mpr ⟨lw_p7, List.forall_mem_cons.mpr ⟨lw_p8, List.forall_mem_cons.mpr ⟨lw_p9, List.forall_mem_cons.mpr ⟨lw_p10, List.forall_mem_cons.mpr ⟨lw_p11, List.forall_mem_cons.mpr ⟨lw_p12, List.forall_mem_cons.mpr ⟨lw_p13, List.forall_mem_cons.mpr ⟨lw_p14, List.forall_mem_cons.mpr ⟨lw_p15, fun _ h => absurd h List.not_mem_nil⟩⟩⟩⟩⟩⟩⟩⟩⟩⟩⟩⟩⟩⟩⟩⟩
theorem lw_p16 : lw_okq (⟨"LetterWalls$Builder", "extend", "(III)V"⟩, 6) := ⟨⟨by decide +kernel, by decide +kernel⟩, List.mem_of_getElem? (i := 280) (by decide +kernel), List.mem_of_getElem? (i := 808) (by decide +kernel), List.mem_of_getElem? (i := 809) (by decide +kernel)⟩
theorem lw_p17 : lw_okq (⟨"LetterWalls$Builder", "note", "(II)V"⟩, 6) := ⟨⟨by decide +kernel, by decide +kernel⟩, List.mem_of_getElem? (i := 280) (by decide +kernel), List.mem_of_getElem? (i := 812) (by decide +kernel), List.mem_of_getElem? (i := 813) (by decide +kernel)⟩
theorem lw_p18 : lw_okq (⟨"LetterWalls$Builder", "take", "(LLetterWalls$Word;)Z"⟩, 6) := ⟨⟨by decide +kernel, by decide +kernel⟩, List.mem_of_getElem? (i := 280) (by decide +kernel), List.mem_of_getElem? (i := 817) (by decide +kernel), List.mem_of_getElem? (i := 818) (by decide +kernel)⟩
theorem lw_p19 : lw_okq (⟨"LetterWalls$Builder", "giveBack", "(LLetterWalls$Word;)V"⟩, 6) := ⟨⟨by decide +kernel, by decide +kernel⟩, List.mem_of_getElem? (i := 280) (by decide +kernel), List.mem_of_getElem? (i := 822) (by decide +kernel), List.mem_of_getElem? (i := 823) (by decide +kernel)⟩
theorem lw_p20 : lw_okq (⟨"LetterWalls", "passYear", "()I"⟩, 11) := ⟨⟨by decide +kernel, by decide +kernel⟩, List.mem_of_getElem? (i := 24) (by decide +kernel), List.mem_of_getElem? (i := 830) (by decide +kernel), List.mem_of_getElem? (i := 831) (by decide +kernel)⟩
theorem lw_p21 : lw_okq (⟨"LetterWalls$Speaker", "speak", "(IIII)I"⟩, 6) := ⟨⟨by decide +kernel, by decide +kernel⟩, List.mem_of_getElem? (i := 307) (by decide +kernel), List.mem_of_getElem? (i := 852) (by decide +kernel), List.mem_of_getElem? (i := 853) (by decide +kernel)⟩
theorem lw_p22 : lw_okq (⟨"LetterWalls$Speaker", "note", "(I)V"⟩, 6) := ⟨⟨by decide +kernel, by decide +kernel⟩, List.mem_of_getElem? (i := 307) (by decide +kernel), List.mem_of_getElem? (i := 858) (by decide +kernel), List.mem_of_getElem? (i := 859) (by decide +kernel)⟩
theorem lw_p23 : lw_okq (⟨"LetterWalls$Speaker", "sound", "(IIII)I"⟩, 6) := ⟨⟨by decide +kernel, by decide +kernel⟩, List.mem_of_getElem? (i := 307) (by decide +kernel), List.mem_of_getElem? (i := 863) (by decide +kernel), List.mem_of_getElem? (i := 864) (by decide +kernel)⟩
theorem lw_p24 : lw_okq (⟨"LetterWalls$Speaker", "quotient", "(II)I"⟩, 6) := ⟨⟨by decide +kernel, by decide +kernel⟩, List.mem_of_getElem? (i := 307) (by decide +kernel), List.mem_of_getElem? (i := 867) (by decide +kernel), List.mem_of_getElem? (i := 868) (by decide +kernel)⟩
theorem lw_p25 : lw_okq (⟨"LetterWallsModel", "error", "(I)I"⟩, 28) := ⟨⟨by decide +kernel, by decide +kernel⟩, List.mem_of_getElem? (i := 957) (by decide +kernel), List.mem_of_getElem? (i := 1055) (by decide +kernel), List.mem_of_getElem? (i := 1056) (by decide +kernel)⟩
theorem lw_p26 : lw_okq (⟨"LetterWallsModel", "whole", "()Z"⟩, 28) := ⟨⟨by decide +kernel, by decide +kernel⟩, List.mem_of_getElem? (i := 957) (by decide +kernel), List.mem_of_getElem? (i := 1065) (by decide +kernel), List.mem_of_getElem? (i := 1066) (by decide +kernel)⟩
theorem lw_p27 : lw_okq (⟨"LetterWallsModel", "both", "()Z"⟩, 28) := ⟨⟨by decide +kernel, by decide +kernel⟩, List.mem_of_getElem? (i := 957) (by decide +kernel), List.mem_of_getElem? (i := 1069) (by decide +kernel), List.mem_of_getElem? (i := 1070) (by decide +kernel)⟩
theorem lw_p28 : lw_okq (⟨"LetterWallsModel", "compared", "()Z"⟩, 28) := ⟨⟨by decide +kernel, by decide +kernel⟩, List.mem_of_getElem? (i := 957) (by decide +kernel), List.mem_of_getElem? (i := 1073) (by decide +kernel), List.mem_of_getElem? (i := 1074) (by decide +kernel)⟩
theorem lw_p29 : lw_okq (⟨"LetterWallsModel", "sum", "()Z"⟩, 28) := ⟨⟨by decide +kernel, by decide +kernel⟩, List.mem_of_getElem? (i := 957) (by decide +kernel), List.mem_of_getElem? (i := 1077) (by decide +kernel), List.mem_of_getElem? (i := 1078) (by decide +kernel)⟩
theorem lw_p30 : lw_okq (⟨"LetterWallsModel", "product", "()Z"⟩, 28) := ⟨⟨by decide +kernel, by decide +kernel⟩, List.mem_of_getElem? (i := 957) (by decide +kernel), List.mem_of_getElem? (i := 1081) (by decide +kernel), List.mem_of_getElem? (i := 1082) (by decide +kernel)⟩
theorem lw_p31 : lw_okq (⟨"LetterWallsModel", "one", "()Z"⟩, 28) := ⟨⟨by decide +kernel, by decide +kernel⟩, List.mem_of_getElem? (i := 957) (by decide +kernel), List.mem_of_getElem? (i := 1085) (by decide +kernel), List.mem_of_getElem? (i := 1086) (by decide +kernel)⟩
def lw_privs_2 : List (MethodName × Nat) := [(⟨"LetterWalls$Builder", "extend", "(III)V"⟩, 6), (⟨"LetterWalls$Builder", "note", "(II)V"⟩, 6), (⟨"LetterWalls$Builder", "take", "(LLetterWalls$Word;)Z"⟩, 6), (⟨"LetterWalls$Builder", "giveBack", "(LLetterWalls$Word;)V"⟩, 6), (⟨"LetterWalls", "passYear", "()I"⟩, 11), (⟨"LetterWalls$Speaker", "speak", "(IIII)I"⟩, 6), (⟨"LetterWalls$Speaker", "note", "(I)V"⟩, 6), (⟨"LetterWalls$Speaker", "sound", "(IIII)I"⟩, 6), (⟨"LetterWalls$Speaker", "quotient", "(II)I"⟩, 6), (⟨"LetterWallsModel", "error", "(I)I"⟩, 28), (⟨"LetterWallsModel", "whole", "()Z"⟩, 28), (⟨"LetterWallsModel", "both", "()Z"⟩, 28), (⟨"LetterWallsModel", "compared", "()Z"⟩, 28), (⟨"LetterWallsModel", "sum", "()Z"⟩, 28), (⟨"LetterWallsModel", "product", "()Z"⟩, 28), (⟨"LetterWallsModel", "one", "()Z"⟩, 28)]
theorem lw_r2 : ∀ q ∈ lw_privs_2, lw_okq q := List.forall_mem_cons.mpr ⟨lw_p16, List.forall_mem_cons.mpr ⟨lw_p17, List.forall_mem_cons.mpr ⟨lw_p18, List.forall_mem_cons.mpr ⟨lw_p19, List.forall_mem_cons.mpr ⟨lw_p20, List.forall_mem_cons.mpr ⟨lw_p21, List.forall_mem_cons.mpr ⟨lw_p22, List.forall_mem_cons.mpr ⟨lw_p23, List.forall_mem_cons.mpr ⟨lw_p24, List.forall_mem_cons.mpr ⟨lw_p25, List.forall_mem_cons.mpr ⟨lw_p26, List.forall_mem_cons.mpr ⟨lw_p27, List.forall_mem_cons.mpr ⟨lw_p28, List.forall_mem_cons.mpr ⟨lw_p29, List.forall_mem_cons.mpr ⟨lw_p30, List.forall_mem_cons.mpr ⟨lw_p31, fun _ h => absurd h List.not_mem_nil⟩⟩⟩⟩⟩⟩⟩⟩⟩⟩⟩⟩⟩⟩⟩⟩
theorem lw_p32 : lw_okq (⟨"LetterWallsModel", "look", "()I"⟩, 28) := ⟨⟨by decide +kernel, by decide +kernel⟩, List.mem_of_getElem? (i := 957) (by decide +kernel), List.mem_of_getElem? (i := 1089) (by decide +kernel), List.mem_of_getElem? (i := 1090) (by decide +kernel)⟩
theorem lw_p33 : lw_okq (⟨"LetterWallsModel", "isName", "(I)Z"⟩, 28) := ⟨⟨by decide +kernel, by decide +kernel⟩, List.mem_of_getElem? (i := 957) (by decide +kernel), List.mem_of_getElem? (i := 1093) (by decide +kernel), List.mem_of_getElem? (i := 1094) (by decide +kernel)⟩
theorem lw_p34 : lw_okq (⟨"LetterWallsModel", "lays", "(II)V"⟩, 28) := ⟨⟨by decide +kernel, by decide +kernel⟩, List.mem_of_getElem? (i := 957) (by decide +kernel), List.mem_of_getElem? (i := 1097) (by decide +kernel), List.mem_of_getElem? (i := 1098) (by decide +kernel)⟩
theorem lw_p35 : lw_okq (⟨"LetterWallsModel", "opens", "()Z"⟩, 28) := ⟨⟨by decide +kernel, by decide +kernel⟩, List.mem_of_getElem? (i := 957) (by decide +kernel), List.mem_of_getElem? (i := 1101) (by decide +kernel), List.mem_of_getElem? (i := 1102) (by decide +kernel)⟩
theorem lw_p36 : lw_okq (⟨"LetterWallsModel", "hasText", "(I)Z"⟩, 28) := ⟨⟨by decide +kernel, by decide +kernel⟩, List.mem_of_getElem? (i := 957) (by decide +kernel), List.mem_of_getElem? (i := 1109) (by decide +kernel), List.mem_of_getElem? (i := 1110) (by decide +kernel)⟩
theorem lw_p37 : lw_okq (⟨"LetterWallsModel", "isWall", "(I)Z"⟩, 28) := ⟨⟨by decide +kernel, by decide +kernel⟩, List.mem_of_getElem? (i := 957) (by decide +kernel), List.mem_of_getElem? (i := 1121) (by decide +kernel), List.mem_of_getElem? (i := 1122) (by decide +kernel)⟩
theorem lw_p38 : lw_okq (⟨"LetterWallsModel", "reads", "(I)V"⟩, 28) := ⟨⟨by decide +kernel, by decide +kernel⟩, List.mem_of_getElem? (i := 957) (by decide +kernel), List.mem_of_getElem? (i := 1125) (by decide +kernel), List.mem_of_getElem? (i := 1126) (by decide +kernel)⟩
theorem lw_p39 : lw_okq (⟨"LetterWallsModel", "takes", "(I)V"⟩, 28) := ⟨⟨by decide +kernel, by decide +kernel⟩, List.mem_of_getElem? (i := 957) (by decide +kernel), List.mem_of_getElem? (i := 1129) (by decide +kernel), List.mem_of_getElem? (i := 1130) (by decide +kernel)⟩
theorem lw_p40 : lw_okq (⟨"LetterWallsModel", "its", "(II)I"⟩, 28) := ⟨⟨by decide +kernel, by decide +kernel⟩, List.mem_of_getElem? (i := 957) (by decide +kernel), List.mem_of_getElem? (i := 1133) (by decide +kernel), List.mem_of_getElem? (i := 1134) (by decide +kernel)⟩
theorem lw_p41 : lw_okq (⟨"LetterWallsModel", "at", "(II)I"⟩, 28) := ⟨⟨by decide +kernel, by decide +kernel⟩, List.mem_of_getElem? (i := 957) (by decide +kernel), List.mem_of_getElem? (i := 1137) (by decide +kernel), List.mem_of_getElem? (i := 1138) (by decide +kernel)⟩
theorem lw_p42 : lw_okq (⟨"LetterWallsModel", "turns", "()V"⟩, 28) := ⟨⟨by decide +kernel, by decide +kernel⟩, List.mem_of_getElem? (i := 957) (by decide +kernel), List.mem_of_getElem? (i := 1141) (by decide +kernel), List.mem_of_getElem? (i := 1142) (by decide +kernel)⟩
theorem lw_p43 : lw_okq (⟨"LetterWallsModel", "worked", "(I)I"⟩, 28) := ⟨⟨by decide +kernel, by decide +kernel⟩, List.mem_of_getElem? (i := 957) (by decide +kernel), List.mem_of_getElem? (i := 1145) (by decide +kernel), List.mem_of_getElem? (i := 1146) (by decide +kernel)⟩
theorem lw_p44 : lw_okq (⟨"LetterWallsModel", "doesRead", "(I)Z"⟩, 28) := ⟨⟨by decide +kernel, by decide +kernel⟩, List.mem_of_getElem? (i := 957) (by decide +kernel), List.mem_of_getElem? (i := 1155) (by decide +kernel), List.mem_of_getElem? (i := 1156) (by decide +kernel)⟩
theorem lw_p45 : lw_okq (⟨"LetterWallsModel", "findWays", "()I"⟩, 28) := ⟨⟨by decide +kernel, by decide +kernel⟩, List.mem_of_getElem? (i := 957) (by decide +kernel), List.mem_of_getElem? (i := 1159) (by decide +kernel), List.mem_of_getElem? (i := 1160) (by decide +kernel)⟩
theorem lw_p46 : lw_okq (⟨"LetterWallsModel", "sortOf", "(I)I"⟩, 28) := ⟨⟨by decide +kernel, by decide +kernel⟩, List.mem_of_getElem? (i := 957) (by decide +kernel), List.mem_of_getElem? (i := 1163) (by decide +kernel), List.mem_of_getElem? (i := 1164) (by decide +kernel)⟩
theorem lw_p47 : lw_okq (⟨"LetterWallsModel", "unlike", "(II)I"⟩, 28) := ⟨⟨by decide +kernel, by decide +kernel⟩, List.mem_of_getElem? (i := 957) (by decide +kernel), List.mem_of_getElem? (i := 1170) (by decide +kernel), List.mem_of_getElem? (i := 1171) (by decide +kernel)⟩
def lw_privs_3 : List (MethodName × Nat) := [(⟨"LetterWallsModel", "look", "()I"⟩, 28), (⟨"LetterWallsModel", "isName", "(I)Z"⟩, 28), (⟨"LetterWallsModel", "lays", "(II)V"⟩, 28), (⟨"LetterWallsModel", "opens", "()Z"⟩, 28), (⟨"LetterWallsModel", "hasText", "(I)Z"⟩, 28), (⟨"LetterWallsModel", "isWall", "(I)Z"⟩, 28), (⟨"LetterWallsModel", "reads", "(I)V"⟩, 28), (⟨"LetterWallsModel", "takes", "(I)V"⟩, 28), (⟨"LetterWallsModel", "its", "(II)I"⟩, 28), (⟨"LetterWallsModel", "at", "(II)I"⟩, 28), (⟨"LetterWallsModel", "turns", "()V"⟩, 28), (⟨"LetterWallsModel", "worked", "(I)I"⟩, 28), (⟨"LetterWallsModel", "doesRead", "(I)Z"⟩, 28), (⟨"LetterWallsModel", "findWays", "()I"⟩, 28), (⟨"LetterWallsModel", "sortOf", "(I)I"⟩, 28), (⟨"LetterWallsModel", "unlike", "(II)I"⟩, 28)]
theorem lw_r3 : ∀ q ∈ lw_privs_3, lw_okq q := List.forall_mem_cons.mpr ⟨lw_p32, List.forall_mem_cons.mpr ⟨lw_p33, List.forall_mem_cons.mpr ⟨lw_p34, List.forall_mem_cons.mpr ⟨lw_p35, List.forall_mem_cons.mpr ⟨lw_p36, List.forall_mem_cons.mpr ⟨lw_p37, List.forall_mem_cons.mpr ⟨lw_p38, List.forall_mem_cons.mpr ⟨lw_p39, List.forall_mem_cons.mpr ⟨lw_p40, List.forall_mem_cons.mpr ⟨lw_p41, List.forall_mem_cons.mpr ⟨lw_p42, List.forall_mem_cons.mpr ⟨lw_p43, List.forall_mem_cons.mpr ⟨lw_p44, List.forall_mem_cons.mpr ⟨lw_p45, List.forall_mem_cons.mpr ⟨lw_p46, List.forall_mem_cons.mpr ⟨lw_p47, fun _ h => absurd h List.not_mem_nil⟩⟩⟩⟩⟩⟩⟩⟩⟩⟩⟩⟩⟩⟩⟩⟩
theorem lw_p48 : lw_okq (⟨"LetterWallsModel", "lengthOf", "(I)I"⟩, 28) := ⟨⟨by decide +kernel, by decide +kernel⟩, List.mem_of_getElem? (i := 957) (by decide +kernel), List.mem_of_getElem? (i := 1174) (by decide +kernel), List.mem_of_getElem? (i := 1175) (by decide +kernel)⟩
theorem lw_p49 : lw_okq (⟨"LetterWallsModel", "letterOf", "(II)I"⟩, 28) := ⟨⟨by decide +kernel, by decide +kernel⟩, List.mem_of_getElem? (i := 957) (by decide +kernel), List.mem_of_getElem? (i := 1178) (by decide +kernel), List.mem_of_getElem? (i := 1179) (by decide +kernel)⟩
theorem lw_p50 : lw_okq (⟨"LetterWallsModel", "stuck", "()I"⟩, 28) := ⟨⟨by decide +kernel, by decide +kernel⟩, List.mem_of_getElem? (i := 957) (by decide +kernel), List.mem_of_getElem? (i := 1186) (by decide +kernel), List.mem_of_getElem? (i := 1187) (by decide +kernel)⟩
theorem lw_p51 : lw_okq (⟨"LetterWallsModel", "costOf", "(I)I"⟩, 28) := ⟨⟨by decide +kernel, by decide +kernel⟩, List.mem_of_getElem? (i := 957) (by decide +kernel), List.mem_of_getElem? (i := 1190) (by decide +kernel), List.mem_of_getElem? (i := 1191) (by decide +kernel)⟩
theorem lw_p52 : lw_okq (⟨"LetterWallsModel", "priceOf", "(I)I"⟩, 28) := ⟨⟨by decide +kernel, by decide +kernel⟩, List.mem_of_getElem? (i := 957) (by decide +kernel), List.mem_of_getElem? (i := 1194) (by decide +kernel), List.mem_of_getElem? (i := 1195) (by decide +kernel)⟩
theorem lw_p53 : lw_okq (⟨"LetterWallsModel", "isPlace", "(II)Z"⟩, 28) := ⟨⟨by decide +kernel, by decide +kernel⟩, List.mem_of_getElem? (i := 957) (by decide +kernel), List.mem_of_getElem? (i := 1213) (by decide +kernel), List.mem_of_getElem? (i := 1214) (by decide +kernel)⟩
theorem lw_p54 : lw_okq (⟨"LetterWallsModel", "isWord", "(I)Z"⟩, 28) := ⟨⟨by decide +kernel, by decide +kernel⟩, List.mem_of_getElem? (i := 957) (by decide +kernel), List.mem_of_getElem? (i := 1233) (by decide +kernel), List.mem_of_getElem? (i := 1234) (by decide +kernel)⟩
theorem lw_p55 : lw_okq (⟨"LetterWallsModel", "findSaid", "()V"⟩, 28) := ⟨⟨by decide +kernel, by decide +kernel⟩, List.mem_of_getElem? (i := 957) (by decide +kernel), List.mem_of_getElem? (i := 1245) (by decide +kernel), List.mem_of_getElem? (i := 1246) (by decide +kernel)⟩
theorem lw_p56 : lw_okq (⟨"LetterWallsModel", "readsWithDoor", "(III)Z"⟩, 28) := ⟨⟨by decide +kernel, by decide +kernel⟩, List.mem_of_getElem? (i := 957) (by decide +kernel), List.mem_of_getElem? (i := 1253) (by decide +kernel), List.mem_of_getElem? (i := 1254) (by decide +kernel)⟩
theorem lw_p57 : lw_okq (⟨"LetterWallsModel", "othersAt", "(II)I"⟩, 28) := ⟨⟨by decide +kernel, by decide +kernel⟩, List.mem_of_getElem? (i := 957) (by decide +kernel), List.mem_of_getElem? (i := 1265) (by decide +kernel), List.mem_of_getElem? (i := 1266) (by decide +kernel)⟩
theorem lw_p58 : lw_okq (⟨"LetterWallsModel", "letters", "(I)I"⟩, 28) := ⟨⟨by decide +kernel, by decide +kernel⟩, List.mem_of_getElem? (i := 957) (by decide +kernel), List.mem_of_getElem? (i := 1304) (by decide +kernel), List.mem_of_getElem? (i := 1305) (by decide +kernel)⟩
theorem lw_p59 : lw_okq (⟨"LetterWallsModel", "toHeap", "(II)V"⟩, 28) := ⟨⟨by decide +kernel, by decide +kernel⟩, List.mem_of_getElem? (i := 957) (by decide +kernel), List.mem_of_getElem? (i := 1312) (by decide +kernel), List.mem_of_getElem? (i := 1313) (by decide +kernel)⟩
theorem lw_p60 : lw_okq (⟨"LetterWallsModel", "builds1", "(IIII)V"⟩, 28) := ⟨⟨by decide +kernel, by decide +kernel⟩, List.mem_of_getElem? (i := 957) (by decide +kernel), List.mem_of_getElem? (i := 1320) (by decide +kernel), List.mem_of_getElem? (i := 1321) (by decide +kernel)⟩
theorem lw_p61 : lw_okq (⟨"LetterWallsModel", "takesLetters", "(I)Z"⟩, 28) := ⟨⟨by decide +kernel, by decide +kernel⟩, List.mem_of_getElem? (i := 957) (by decide +kernel), List.mem_of_getElem? (i := 1324) (by decide +kernel), List.mem_of_getElem? (i := 1325) (by decide +kernel)⟩
theorem lw_p62 : lw_okq (⟨"LetterWallsModel", "givesLetters", "(I)V"⟩, 28) := ⟨⟨by decide +kernel, by decide +kernel⟩, List.mem_of_getElem? (i := 957) (by decide +kernel), List.mem_of_getElem? (i := 1328) (by decide +kernel), List.mem_of_getElem? (i := 1329) (by decide +kernel)⟩
theorem lw_p63 : lw_okq (⟨"LetterWallsModel", "draw", "()I"⟩, 28) := ⟨⟨by decide +kernel, by decide +kernel⟩, List.mem_of_getElem? (i := 957) (by decide +kernel), List.mem_of_getElem? (i := 1336) (by decide +kernel), List.mem_of_getElem? (i := 1337) (by decide +kernel)⟩
def lw_privs_4 : List (MethodName × Nat) := [(⟨"LetterWallsModel", "lengthOf", "(I)I"⟩, 28), (⟨"LetterWallsModel", "letterOf", "(II)I"⟩, 28), (⟨"LetterWallsModel", "stuck", "()I"⟩, 28), (⟨"LetterWallsModel", "costOf", "(I)I"⟩, 28), (⟨"LetterWallsModel", "priceOf", "(I)I"⟩, 28), (⟨"LetterWallsModel", "isPlace", "(II)Z"⟩, 28), (⟨"LetterWallsModel", "isWord", "(I)Z"⟩, 28), (⟨"LetterWallsModel", "findSaid", "()V"⟩, 28), (⟨"LetterWallsModel", "readsWithDoor", "(III)Z"⟩, 28), (⟨"LetterWallsModel", "othersAt", "(II)I"⟩, 28), (⟨"LetterWallsModel", "letters", "(I)I"⟩, 28), (⟨"LetterWallsModel", "toHeap", "(II)V"⟩, 28), (⟨"LetterWallsModel", "builds1", "(IIII)V"⟩, 28), (⟨"LetterWallsModel", "takesLetters", "(I)Z"⟩, 28), (⟨"LetterWallsModel", "givesLetters", "(I)V"⟩, 28), (⟨"LetterWallsModel", "draw", "()I"⟩, 28)]
theorem lw_r4 : ∀ q ∈ lw_privs_4, lw_okq q := List.forall_mem_cons.mpr ⟨lw_p48, List.forall_mem_cons.mpr ⟨lw_p49, List.forall_mem_cons.mpr ⟨lw_p50, List.forall_mem_cons.mpr ⟨lw_p51, List.forall_mem_cons.mpr ⟨lw_p52, List.forall_mem_cons.mpr ⟨lw_p53, List.forall_mem_cons.mpr ⟨lw_p54, List.forall_mem_cons.mpr ⟨lw_p55, List.forall_mem_cons.mpr ⟨lw_p56, List.forall_mem_cons.mpr ⟨lw_p57, List.forall_mem_cons.mpr ⟨lw_p58, List.forall_mem_cons.mpr ⟨lw_p59, List.forall_mem_cons.mpr ⟨lw_p60, List.forall_mem_cons.mpr ⟨lw_p61, List.forall_mem_cons.mpr ⟨lw_p62, List.forall_mem_cons.mpr ⟨lw_p63, fun _ h => absurd h List.not_mem_nil⟩⟩⟩⟩⟩⟩⟩⟩⟩⟩⟩⟩⟩⟩⟩⟩
theorem lw_p64 : lw_okq (⟨"LetterWallsModel", "kindNow", "()I"⟩, 28) := ⟨⟨by decide +kernel, by decide +kernel⟩, List.mem_of_getElem? (i := 957) (by decide +kernel), List.mem_of_getElem? (i := 1349) (by decide +kernel), List.mem_of_getElem? (i := 1350) (by decide +kernel)⟩
theorem lw_p65 : lw_okq (⟨"LetterWallsModel", "readsBy", "(II)I"⟩, 28) := ⟨⟨by decide +kernel, by decide +kernel⟩, List.mem_of_getElem? (i := 957) (by decide +kernel), List.mem_of_getElem? (i := 1353) (by decide +kernel), List.mem_of_getElem? (i := 1354) (by decide +kernel)⟩
theorem lw_p66 : lw_okq (⟨"LetterWallsModel", "begins", "(I)V"⟩, 28) := ⟨⟨by decide +kernel, by decide +kernel⟩, List.mem_of_getElem? (i := 957) (by decide +kernel), List.mem_of_getElem? (i := 1357) (by decide +kernel), List.mem_of_getElem? (i := 1358) (by decide +kernel)⟩
theorem lw_p67 : lw_okq (⟨"LetterWallsModel", "saysBy", "(II)I"⟩, 28) := ⟨⟨by decide +kernel, by decide +kernel⟩, List.mem_of_getElem? (i := 957) (by decide +kernel), List.mem_of_getElem? (i := 1364) (by decide +kernel), List.mem_of_getElem? (i := 1365) (by decide +kernel)⟩
theorem lw_p68 : lw_okq (⟨"LetterWallsModel", "mNow", "()I"⟩, 28) := ⟨⟨by decide +kernel, by decide +kernel⟩, List.mem_of_getElem? (i := 957) (by decide +kernel), List.mem_of_getElem? (i := 1368) (by decide +kernel), List.mem_of_getElem? (i := 1369) (by decide +kernel)⟩
theorem lw_p69 : lw_okq (⟨"LetterWallsModel", "fallsBy", "(II)I"⟩, 28) := ⟨⟨by decide +kernel, by decide +kernel⟩, List.mem_of_getElem? (i := 957) (by decide +kernel), List.mem_of_getElem? (i := 1372) (by decide +kernel), List.mem_of_getElem? (i := 1373) (by decide +kernel)⟩
theorem lw_p70 : lw_okq (⟨"LetterWallsModel", "mendsBy", "(II)I"⟩, 28) := ⟨⟨by decide +kernel, by decide +kernel⟩, List.mem_of_getElem? (i := 957) (by decide +kernel), List.mem_of_getElem? (i := 1376) (by decide +kernel), List.mem_of_getElem? (i := 1377) (by decide +kernel)⟩
def lw_privs_5 : List (MethodName × Nat) := [(⟨"LetterWallsModel", "kindNow", "()I"⟩, 28), (⟨"LetterWallsModel", "readsBy", "(II)I"⟩, 28), (⟨"LetterWallsModel", "begins", "(I)V"⟩, 28), (⟨"LetterWallsModel", "saysBy", "(II)I"⟩, 28), (⟨"LetterWallsModel", "mNow", "()I"⟩, 28), (⟨"LetterWallsModel", "fallsBy", "(II)I"⟩, 28), (⟨"LetterWallsModel", "mendsBy", "(II)I"⟩, 28)]
theorem lw_r5 : ∀ q ∈ lw_privs_5, lw_okq q := List.forall_mem_cons.mpr ⟨lw_p64, List.forall_mem_cons.mpr ⟨lw_p65, List.forall_mem_cons.mpr ⟨lw_p66, List.forall_mem_cons.mpr ⟨lw_p67, List.forall_mem_cons.mpr ⟨lw_p68, List.forall_mem_cons.mpr ⟨lw_p69, List.forall_mem_cons.mpr ⟨lw_p70, fun _ h => absurd h List.not_mem_nil⟩⟩⟩⟩⟩⟩⟩
def lw_privs : List (MethodName × Nat) := lw_privs_1 ++ (lw_privs_2 ++ (lw_privs_3 ++ (lw_privs_4 ++ (lw_privs_5))))
def lw_tbl : List Cond := k2_sels lw_privs ++ tables_1
theorem lw_privs_ok : ∀ q ∈ lw_privs, lw_okq q := by
  show ∀ q ∈ lw_privs_1 ++ (lw_privs_2 ++ (lw_privs_3 ++ (lw_privs_4 ++ (lw_privs_5)))), lw_okq q
  exact List.forall_mem_append.mpr ⟨lw_r1, List.forall_mem_append.mpr ⟨lw_r2, List.forall_mem_append.mpr ⟨lw_r3, List.forall_mem_append.mpr ⟨lw_r4, lw_r5⟩⟩⟩⟩
theorem zl_bump : True := trivial
def RX0 : String := "LetterWalls$Builder"
def TX0 : u_T := fun k => match k with
  | 0 => ("LetterWalls$Builder", "left", "[I", true)
  | 1 => ("LetterWalls$Builder", "tongue", "LLetterWalls$Tongue;", false)
  | 2 => ("LetterWalls$Builder", "most", "I", false)
  | 3 => ("LetterWalls$Builder", "found", "I", false)
  | 4 => ("LetterWalls$Builder", "first", "I", false)
  | _ => ("LetterWalls$Builder", "firstSize", "I", false)
def tyX0 : Nat → FieldType := fun k => match k with
  | 0 => .array .int
  | 1 => .object "LetterWalls$Tongue"
  | 2 => .int
  | 3 => .int
  | 4 => .int
  | _ => .int
abbrev wsX00 : List Cond := u_ws RX0 TX0 6
theorem nmX0 : ∀ a, a < 6 → ∀ b, b < 6 → a ≠ b → (TX0 a).2.1 ≠ (TX0 b).2.1 := by decide +kernel
theorem tyX0_ok : ∀ k, k < 6 → parseFieldDescriptor (TX0 k).2.2.1 = some (tyX0 k) := by decide +kernel
abbrev cX0_init : ByteArray := prog_2_method_1_code
def yX0_init : MethodName := ⟨RX0, "<init>", "()V"⟩
abbrev cX0_search : ByteArray := prog_2_method_2_code
def yX0_search : MethodName := ⟨RX0, "search", "(LLetterWalls$Tongue;[II)V"⟩
abbrev cX0_extend : ByteArray := prog_2_method_3_code
def yX0_extend : MethodName := ⟨RX0, "extend", "(III)V"⟩
abbrev cX0_note : ByteArray := prog_2_method_4_code
def yX0_note : MethodName := ⟨RX0, "note", "(II)V"⟩
abbrev cX0_take : ByteArray := prog_2_method_5_code
def yX0_take : MethodName := ⟨RX0, "take", "(LLetterWalls$Word;)Z"⟩
abbrev cX0_giveBack : ByteArray := prog_2_method_6_code
def yX0_giveBack : MethodName := ⟨RX0, "giveBack", "(LLetterWalls$Word;)V"⟩
def RX1 : String := "LetterWalls$Laws"
def TX1 : u_T := fun k => match k with
  | 0 => ("LetterWalls$Laws", "ends", "[I", true)
  | 1 => ("LetterWalls$Laws", "kept", "[I", true)
  | 2 => ("LetterWalls$Laws", "said", "[I", true)
  | _ => ("LetterWalls$Laws", "saidSize", "I", false)
def tyX1 : Nat → FieldType := fun k => match k with
  | 0 => .array .int
  | 1 => .array .int
  | 2 => .array .int
  | _ => .int
abbrev wsX10 : List Cond := u_ws RX1 TX1 4
theorem nmX1 : ∀ a, a < 4 → ∀ b, b < 4 → a ≠ b → (TX1 a).2.1 ≠ (TX1 b).2.1 := by decide +kernel
theorem tyX1_ok : ∀ k, k < 4 → parseFieldDescriptor (TX1 k).2.2.1 = some (tyX1 k) := by decide +kernel
abbrev cX1_init : ByteArray := prog_3_method_1_code
def yX1_init : MethodName := ⟨RX1, "<init>", "()V"⟩
abbrev cX1_hold : ByteArray := prog_3_method_2_code
def yX1_hold : MethodName := ⟨RX1, "hold", "(LLetterWalls$Tongue;LLetterWalls$Row;)Z"⟩
abbrev cX1_leadsToEnd : ByteArray := prog_3_method_3_code
def yX1_leadsToEnd : MethodName := ⟨RX1, "leadsToEnd", "(LLetterWalls$Word;LLetterWalls$Row;I)Z"⟩
abbrev cX1_find : ByteArray := prog_3_method_4_code
def yX1_find : MethodName := ⟨RX1, "find", "(LLetterWalls$Tongue;LLetterWalls$Row;)Z"⟩
abbrev cX1_lowestThatLeadsOn : ByteArray := prog_3_method_5_code
def yX1_lowestThatLeadsOn : MethodName := ⟨RX1, "lowestThatLeadsOn", "(LLetterWalls$Tongue;LLetterWalls$Row;II)I"⟩
abbrev cX1_firstNotSaid : ByteArray := prog_3_method_6_code
def yX1_firstNotSaid : MethodName := ⟨RX1, "firstNotSaid", "([II)I"⟩
abbrev cX1_countFromBegin : ByteArray := prog_3_method_7_code
def yX1_countFromBegin : MethodName := ⟨RX1, "countFromBegin", "(LLetterWalls$Tongue;LLetterWalls$Row;)V"⟩
abbrev cX1_waysInto : ByteArray := prog_3_method_8_code
def yX1_waysInto : MethodName := ⟨RX1, "waysInto", "(II)I"⟩
abbrev cX1_countWays : ByteArray := prog_3_method_9_code
def yX1_countWays : MethodName := ⟨RX1, "countWays", "(LLetterWalls$Tongue;LLetterWalls$Row;)I"⟩
abbrev cX1_stuckAt : ByteArray := prog_3_method_10_code
def yX1_stuckAt : MethodName := ⟨RX1, "stuckAt", "(LLetterWalls$Tongue;LLetterWalls$Row;)I"⟩
abbrev cX1_fewestUnlike : ByteArray := prog_3_method_11_code
def yX1_fewestUnlike : MethodName := ⟨RX1, "fewestUnlike", "(LLetterWalls$Tongue;LLetterWalls$Row;)I"⟩
abbrev cX1_leastInto : ByteArray := prog_3_method_12_code
def yX1_leastInto : MethodName := ⟨RX1, "leastInto", "(II)I"⟩
def RX2 : String := "LetterWalls$Parser"
def TX2 : u_T := fun k => match k with
  | 0 => ("LetterWalls$Parser", "bytes", "[I", true)
  | 1 => ("LetterWalls$Parser", "signs", "[I", true)
  | 2 => ("LetterWalls$Parser", "size", "I", false)
  | 3 => ("LetterWalls$Parser", "at", "I", false)
  | 4 => ("LetterWalls$Parser", "signCount", "I", false)
  | 5 => ("LetterWalls$Parser", "fault", "I", false)
  | _ => ("LetterWalls$Parser", "names", "Ljava/lang/String;", false)
def tyX2 : Nat → FieldType := fun k => match k with
  | 0 => .array .int
  | 1 => .array .int
  | 2 => .int
  | 3 => .int
  | 4 => .int
  | 5 => .int
  | _ => .object "java/lang/String"
abbrev wsX20 : List Cond := u_ws RX2 TX2 7
theorem nmX2 : ∀ a, a < 7 → ∀ b, b < 7 → a ≠ b → (TX2 a).2.1 ≠ (TX2 b).2.1 := by decide +kernel
theorem tyX2_ok : ∀ k, k < 7 → parseFieldDescriptor (TX2 k).2.2.1 = some (tyX2 k) := by decide +kernel
abbrev cX2_init : ByteArray := prog_4_method_1_code
def yX2_init : MethodName := ⟨RX2, "<init>", "()V"⟩
abbrev cX2_faultOf : ByteArray := prog_4_method_2_code
def yX2_faultOf : MethodName := ⟨RX2, "faultOf", "([IILjava/lang/String;)I"⟩
abbrev cX2_handTo : ByteArray := prog_4_method_3_code
def yX2_handTo : MethodName := ⟨RX2, "handTo", "(LLetterWalls$Text;)V"⟩
abbrev cX2_next : ByteArray := prog_4_method_4_code
def yX2_next : MethodName := ⟨RX2, "next", "()I"⟩
abbrev cX2_failHere : ByteArray := prog_4_method_5_code
def yX2_failHere : MethodName := ⟨RX2, "failHere", "()V"⟩
abbrev cX2_emit : ByteArray := prog_4_method_6_code
def yX2_emit : MethodName := ⟨RX2, "emit", "(I)V"⟩
abbrev cX2_level : ByteArray := prog_4_method_7_code
def yX2_level : MethodName := ⟨RX2, "level", "(II)V"⟩
abbrev cX2_rankOf : ByteArray := prog_4_method_8_code
def yX2_rankOf : MethodName := ⟨RX2, "rankOf", "(I)I"⟩
abbrev cX2_operand : ByteArray := prog_4_method_9_code
def yX2_operand : MethodName := ⟨RX2, "operand", "(I)V"⟩
abbrev cX2_close : ByteArray := prog_4_method_10_code
def yX2_close : MethodName := ⟨RX2, "close", "()V"⟩
abbrev cX2_number : ByteArray := prog_4_method_11_code
def yX2_number : MethodName := ⟨RX2, "number", "()V"⟩
abbrev cX2_isDigit : ByteArray := prog_4_method_12_code
def yX2_isDigit : MethodName := ⟨RX2, "isDigit", "(I)Z"⟩
def RX3 : String := "LetterWalls$Row"
def TX3 : u_T := fun k => match k with
  | 0 => ("LetterWalls$Row", "letters", "[I", true)
  | _ => ("LetterWalls$Row", "size", "I", false)
def tyX3 : Nat → FieldType := fun k => match k with
  | 0 => .array .int
  | _ => .int
abbrev wsX30 : List Cond := u_ws RX3 TX3 2
theorem nmX3 : ∀ a, a < 2 → ∀ b, b < 2 → a ≠ b → (TX3 a).2.1 ≠ (TX3 b).2.1 := by decide +kernel
theorem tyX3_ok : ∀ k, k < 2 → parseFieldDescriptor (TX3 k).2.2.1 = some (tyX3 k) := by decide +kernel
abbrev cX3_init : ByteArray := prog_5_method_1_code
def yX3_init : MethodName := ⟨RX3, "<init>", "()V"⟩
abbrev cX3_append : ByteArray := prog_5_method_2_code
def yX3_append : MethodName := ⟨RX3, "append", "(LLetterWalls$Wall;)V"⟩
abbrev cX3_reverse : ByteArray := prog_5_method_3_code
def yX3_reverse : MethodName := ⟨RX3, "reverse", "()V"⟩
abbrev cX3_leaveOutSeconds : ByteArray := prog_5_method_4_code
def yX3_leaveOutSeconds : MethodName := ⟨RX3, "leaveOutSeconds", "()V"⟩
abbrev cX3_mirrorLetters : ByteArray := prog_5_method_5_code
def yX3_mirrorLetters : MethodName := ⟨RX3, "mirrorLetters", "()V"⟩
abbrev cX3_turnBy : ByteArray := prog_5_method_6_code
def yX3_turnBy : MethodName := ⟨RX3, "turnBy", "(LLetterWalls$Text;I)V"⟩
def RX4 : String := "LetterWalls$Sheet"
def TX4 : u_T := fun k => match k with
  | 0 => ("LetterWalls$Sheet", "numbers", "[I", true)
  | 1 => ("LetterWalls$Sheet", "bits", "I", false)
  | _ => ("LetterWalls$Sheet", "size", "I", false)
def tyX4 : Nat → FieldType := fun k => match k with
  | 0 => .array .int
  | 1 => .int
  | _ => .int
abbrev wsX40 : List Cond := u_ws RX4 TX4 3
theorem nmX4 : ∀ a, a < 3 → ∀ b, b < 3 → a ≠ b → (TX4 a).2.1 ≠ (TX4 b).2.1 := by decide +kernel
theorem tyX4_ok : ∀ k, k < 3 → parseFieldDescriptor (TX4 k).2.2.1 = some (tyX4 k) := by decide +kernel
abbrev cX4_init : ByteArray := prog_6_method_1_code
def yX4_init : MethodName := ⟨RX4, "<init>", "()V"⟩
abbrev cX4_isMissing : ByteArray := prog_6_method_2_code
def yX4_isMissing : MethodName := ⟨RX4, "isMissing", "()Z"⟩
abbrev cX4_begin : ByteArray := prog_6_method_3_code
def yX4_begin : MethodName := ⟨RX4, "begin", "(II)V"⟩
abbrev cX4_write : ByteArray := prog_6_method_4_code
def yX4_write : MethodName := ⟨RX4, "write", "(II)V"⟩
abbrev cX4_holds : ByteArray := prog_6_method_5_code
def yX4_holds : MethodName := ⟨RX4, "holds", "(II)Z"⟩
def RX5 : String := "LetterWalls$Speaker"
def TX5 : u_T := fun k => match k with
  | 0 => ("LetterWalls$Speaker", "trace", "[I", true)
  | 1 => ("LetterWalls$Speaker", "traced", "I", false)
  | 2 => ("LetterWalls$Speaker", "parted", "Z", false)
  | 3 => ("LetterWalls$Speaker", "kind", "I", false)
  | 4 => ("LetterWalls$Speaker", "m", "I", false)
  | _ => ("LetterWalls$Speaker", "k", "I", false)
def tyX5 : Nat → FieldType := fun k => match k with
  | 0 => .array .int
  | 1 => .int
  | 2 => .boolean
  | 3 => .int
  | 4 => .int
  | _ => .int
abbrev wsX50 : List Cond := u_ws RX5 TX5 6
theorem nmX5 : ∀ a, a < 6 → ∀ b, b < 6 → a ≠ b → (TX5 a).2.1 ≠ (TX5 b).2.1 := by decide +kernel
theorem tyX5_ok : ∀ k, k < 6 → parseFieldDescriptor (TX5 k).2.2.1 = some (tyX5 k) := by decide +kernel
abbrev cX5_init : ByteArray := prog_7_method_1_code
def yX5_init : MethodName := ⟨RX5, "<init>", "()V"⟩
abbrev cX5_answer : ByteArray := prog_7_method_2_code
def yX5_answer : MethodName := ⟨RX5, "answer", "(LLetterWalls$Wall;III)I"⟩
abbrev cX5_speak : ByteArray := prog_7_method_3_code
def yX5_speak : MethodName := ⟨RX5, "speak", "(IIII)I"⟩
abbrev cX5_note : ByteArray := prog_7_method_4_code
def yX5_note : MethodName := ⟨RX5, "note", "(I)V"⟩
abbrev cX5_sound : ByteArray := prog_7_method_5_code
def yX5_sound : MethodName := ⟨RX5, "sound", "(IIII)I"⟩
abbrev cX5_quotient : ByteArray := prog_7_method_6_code
def yX5_quotient : MethodName := ⟨RX5, "quotient", "(II)I"⟩
def RX6 : String := "LetterWalls$Text"
def TX6 : u_T := fun k => match k with
  | 0 => ("LetterWalls$Text", "signs", "[I", true)
  | 1 => ("LetterWalls$Text", "stack", "[I", true)
  | 2 => ("LetterWalls$Text", "named", "[I", true)
  | _ => ("LetterWalls$Text", "size", "I", false)
def tyX6 : Nat → FieldType := fun k => match k with
  | 0 => .array .int
  | 1 => .array .int
  | 2 => .array .int
  | _ => .int
abbrev wsX60 : List Cond := u_ws RX6 TX6 4
theorem nmX6 : ∀ a, a < 4 → ∀ b, b < 4 → a ≠ b → (TX6 a).2.1 ≠ (TX6 b).2.1 := by decide +kernel
theorem tyX6_ok : ∀ k, k < 4 → parseFieldDescriptor (TX6 k).2.2.1 = some (tyX6 k) := by decide +kernel
abbrev cX6_init : ByteArray := prog_8_method_1_code
def yX6_init : MethodName := ⟨RX6, "<init>", "()V"⟩
abbrev cX6_isTold : ByteArray := prog_8_method_2_code
def yX6_isTold : MethodName := ⟨RX6, "isTold", "()Z"⟩
abbrev cX6_copyFrom : ByteArray := prog_8_method_3_code
def yX6_copyFrom : MethodName := ⟨RX6, "copyFrom", "(LLetterWalls$Text;)V"⟩
abbrev cX6_worth : ByteArray := prog_8_method_4_code
def yX6_worth : MethodName := ⟨RX6, "worth", "(IIII)I"⟩
abbrev cX6_joined : ByteArray := prog_8_method_5_code
def yX6_joined : MethodName := ⟨RX6, "joined", "(III)I"⟩
def RX7 : String := "LetterWalls$Tongue"
def TX7 : u_T := fun k => match k with
  | 0 => ("LetterWalls$Tongue", "words", "[LLetterWalls$Word;", true)
  | _ => ("LetterWalls$Tongue", "size", "I", false)
def tyX7 : Nat → FieldType := fun k => match k with
  | 0 => .array (.object "LetterWalls$Word")
  | _ => .int
abbrev wsX70 : List Cond := u_ws RX7 TX7 2
theorem nmX7 : ∀ a, a < 2 → ∀ b, b < 2 → a ≠ b → (TX7 a).2.1 ≠ (TX7 b).2.1 := by decide +kernel
theorem tyX7_ok : ∀ k, k < 2 → parseFieldDescriptor (TX7 k).2.2.1 = some (tyX7 k) := by decide +kernel
abbrev cX7_init : ByteArray := prog_9_method_1_code
def yX7_init : MethodName := ⟨RX7, "<init>", "()V"⟩
abbrev cX7_has : ByteArray := prog_9_method_2_code
def yX7_has : MethodName := ⟨RX7, "has", "(I)Z"⟩
abbrev cX7_copyFrom : ByteArray := prog_9_method_3_code
def yX7_copyFrom : MethodName := ⟨RX7, "copyFrom", "(LLetterWalls$Tongue;)V"⟩
def RX8 : String := "LetterWalls$Town"
def TX8 : u_T := fun k => match k with
  | 0 => ("LetterWalls$Town", "walls", "[LLetterWalls$Wall;", true)
  | 1 => ("LetterWalls$Town", "tongue", "LLetterWalls$Tongue;", true)
  | 2 => ("LetterWalls$Town", "turns", "LLetterWalls$Text;", true)
  | 3 => ("LetterWalls$Town", "prices", "LLetterWalls$Text;", true)
  | 4 => ("LetterWalls$Town", "tape", "[I", true)
  | 5 => ("LetterWalls$Town", "heaped", "[I", true)
  | 6 => ("LetterWalls$Town", "waiting", "[I", true)
  | 7 => ("LetterWalls$Town", "wallCount", "I", false)
  | 8 => ("LetterWalls$Town", "taped", "I", false)
  | 9 => ("LetterWalls$Town", "waits", "I", false)
  | 10 => ("LetterWalls$Town", "season", "I", false)
  | 11 => ("LetterWalls$Town", "purse", "I", false)
  | _ => ("LetterWalls$Town", "z", "I", false)
def tyX8 : Nat → FieldType := fun k => match k with
  | 0 => .array (.object "LetterWalls$Wall")
  | 1 => .object "LetterWalls$Tongue"
  | 2 => .object "LetterWalls$Text"
  | 3 => .object "LetterWalls$Text"
  | 4 => .array .int
  | 5 => .array .int
  | 6 => .array .int
  | 7 => .int
  | 8 => .int
  | 9 => .int
  | 10 => .int
  | 11 => .int
  | _ => .int
abbrev wsX80 : List Cond := u_ws RX8 TX8 13
theorem nmX8 : ∀ a, a < 13 → ∀ b, b < 13 → a ≠ b → (TX8 a).2.1 ≠ (TX8 b).2.1 := by decide +kernel
theorem tyX8_ok : ∀ k, k < 13 → parseFieldDescriptor (TX8 k).2.2.1 = some (tyX8 k) := by decide +kernel
abbrev cX8_init : ByteArray := prog_10_method_1_code
def yX8_init : MethodName := ⟨RX8, "<init>", "()V"⟩
abbrev cX8_copyFrom : ByteArray := prog_10_method_2_code
def yX8_copyFrom : MethodName := ⟨RX8, "copyFrom", "(LLetterWalls$Town;)V"⟩
abbrev cX8_hasWall : ByteArray := prog_10_method_3_code
def yX8_hasWall : MethodName := ⟨RX8, "hasWall", "(I)Z"⟩
abbrev cX8_hasPlace : ByteArray := prog_10_method_4_code
def yX8_hasPlace : MethodName := ⟨RX8, "hasPlace", "(II)Z"⟩
abbrev cX8_textOf : ByteArray := prog_10_method_5_code
def yX8_textOf : MethodName := ⟨RX8, "textOf", "(I)LLetterWalls$Text;"⟩
abbrev cX8_spell : ByteArray := prog_10_method_6_code
def yX8_spell : MethodName := ⟨RX8, "spell", "(LLetterWalls$Wall;ILLetterWalls$Row;)V"⟩
abbrev cX8_priceOf : ByteArray := prog_10_method_7_code
def yX8_priceOf : MethodName := ⟨RX8, "priceOf", "(I)I"⟩
abbrev cX8_costOf : ByteArray := prog_10_method_8_code
def yX8_costOf : MethodName := ⟨RX8, "costOf", "(LLetterWalls$Wall;)I"⟩
abbrev cX8_countHeap : ByteArray := prog_10_method_9_code
def yX8_countHeap : MethodName := ⟨RX8, "countHeap", "()I"⟩
abbrev cX8_dropBrick : ByteArray := prog_10_method_10_code
def yX8_dropBrick : MethodName := ⟨RX8, "dropBrick", "(LLetterWalls$Wall;I)V"⟩
abbrev cX8_draw : ByteArray := prog_10_method_11_code
def yX8_draw : MethodName := ⟨RX8, "draw", "()I"⟩
def RX9 : String := "LetterWalls$Wall"
def TX9 : u_T := fun k => match k with
  | 0 => ("LetterWalls$Wall", "stones", "[I", true)
  | 1 => ("LetterWalls$Wall", "kind", "I", false)
  | 2 => ("LetterWalls$Wall", "m", "I", false)
  | _ => ("LetterWalls$Wall", "size", "I", false)
def tyX9 : Nat → FieldType := fun k => match k with
  | 0 => .array .int
  | 1 => .int
  | 2 => .int
  | _ => .int
abbrev wsX90 : List Cond := u_ws RX9 TX9 4
theorem nmX9 : ∀ a, a < 4 → ∀ b, b < 4 → a ≠ b → (TX9 a).2.1 ≠ (TX9 b).2.1 := by decide +kernel
theorem tyX9_ok : ∀ k, k < 4 → parseFieldDescriptor (TX9 k).2.2.1 = some (tyX9 k) := by decide +kernel
abbrev cX9_init : ByteArray := prog_11_method_1_code
def yX9_init : MethodName := ⟨RX9, "<init>", "()V"⟩
abbrev cX9_begin : ByteArray := prog_11_method_2_code
def yX9_begin : MethodName := ⟨RX9, "begin", "(III)V"⟩
abbrev cX9_copyFrom : ByteArray := prog_11_method_3_code
def yX9_copyFrom : MethodName := ⟨RX9, "copyFrom", "(LLetterWalls$Wall;)V"⟩
abbrev cX9_openFrom : ByteArray := prog_11_method_4_code
def yX9_openFrom : MethodName := ⟨RX9, "openFrom", "(II)V"⟩
abbrev cX9_countLetters : ByteArray := prog_11_method_5_code
def yX9_countLetters : MethodName := ⟨RX9, "countLetters", "()I"⟩
def RX10 : String := "LetterWalls$Word"
def TX10 : u_T := fun k => match k with
  | 0 => ("LetterWalls$Word", "letters", "[I", true)
  | 1 => ("LetterWalls$Word", "sort", "I", false)
  | _ => ("LetterWalls$Word", "size", "I", false)
def tyX10 : Nat → FieldType := fun k => match k with
  | 0 => .array .int
  | 1 => .int
  | _ => .int
abbrev wsX100 : List Cond := u_ws RX10 TX10 3
theorem nmX10 : ∀ a, a < 3 → ∀ b, b < 3 → a ≠ b → (TX10 a).2.1 ≠ (TX10 b).2.1 := by decide +kernel
theorem tyX10_ok : ∀ k, k < 3 → parseFieldDescriptor (TX10 k).2.2.1 = some (tyX10 k) := by decide +kernel
abbrev cX10_init : ByteArray := prog_12_method_1_code
def yX10_init : MethodName := ⟨RX10, "<init>", "()V"⟩
abbrev cX10_begin : ByteArray := prog_12_method_2_code
def yX10_begin : MethodName := ⟨RX10, "begin", "(II)V"⟩
abbrev cX10_copyFrom : ByteArray := prog_12_method_3_code
def yX10_copyFrom : MethodName := ⟨RX10, "copyFrom", "(LLetterWalls$Word;)V"⟩
abbrev cX10_standsAt : ByteArray := prog_12_method_4_code
def yX10_standsAt : MethodName := ⟨RX10, "standsAt", "(LLetterWalls$Row;I)Z"⟩
abbrev cX10_unlikeAt : ByteArray := prog_12_method_5_code
def yX10_unlikeAt : MethodName := ⟨RX10, "unlikeAt", "(LLetterWalls$Row;I)I"⟩
def RX11 : String := "LetterWalls"
def TX11 : u_T := fun k => match k with
  | 0 => ("LetterWalls", "now", "LLetterWalls$Town;", true)
  | 1 => ("LetterWalls", "kept", "LLetterWalls$Town;", true)
  | 2 => ("LetterWalls", "sheets", "[LLetterWalls$Sheet;", true)
  | 3 => ("LetterWalls", "laws", "LLetterWalls$Laws;", true)
  | 4 => ("LetterWalls", "row", "LLetterWalls$Row;", true)
  | 5 => ("LetterWalls", "trial", "LLetterWalls$Wall;", true)
  | 6 => ("LetterWalls", "parser", "LLetterWalls$Parser;", true)
  | 7 => ("LetterWalls", "builder", "LLetterWalls$Builder;", true)
  | 8 => ("LetterWalls", "speaker", "LLetterWalls$Speaker;", true)
  | 9 => ("LetterWalls", "errorsTold", "[I", true)
  | _ => ("LetterWalls", "images", "I", false)
def tyX11 : Nat → FieldType := fun k => match k with
  | 0 => .object "LetterWalls$Town"
  | 1 => .object "LetterWalls$Town"
  | 2 => .array (.object "LetterWalls$Sheet")
  | 3 => .object "LetterWalls$Laws"
  | 4 => .object "LetterWalls$Row"
  | 5 => .object "LetterWalls$Wall"
  | 6 => .object "LetterWalls$Parser"
  | 7 => .object "LetterWalls$Builder"
  | 8 => .object "LetterWalls$Speaker"
  | 9 => .array .int
  | _ => .int
abbrev wsX110 : List Cond := u_ws RX11 TX11 11
theorem nmX11 : ∀ a, a < 11 → ∀ b, b < 11 → a ≠ b → (TX11 a).2.1 ≠ (TX11 b).2.1 := by decide +kernel
theorem tyX11_ok : ∀ k, k < 11 → parseFieldDescriptor (TX11 k).2.2.1 = some (tyX11 k) := by decide +kernel
abbrev cX11_init : ByteArray := prog_1_method_1_code
def yX11_init : MethodName := ⟨RX11, "<init>", "()V"⟩
abbrev cX11_wall : ByteArray := prog_1_method_2_code
def yX11_wall : MethodName := ⟨RX11, "wall", "(II)I"⟩
abbrev cX11_wallIs : ByteArray := prog_1_method_3_code
def yX11_wallIs : MethodName := ⟨RX11, "wallIs", "(II)I"⟩
abbrev cX11_as : ByteArray := prog_1_method_4_code
def yX11_as : MethodName := ⟨RX11, "as", "(II)I"⟩
abbrev cX11_set : ByteArray := prog_1_method_5_code
def yX11_set : MethodName := ⟨RX11, "set", "(III)I"⟩
abbrev cX11_brick : ByteArray := prog_1_method_6_code
def yX11_brick : MethodName := ⟨RX11, "brick", "(III)I"⟩
abbrev cX11_brickOf : ByteArray := prog_1_method_7_code
def yX11_brickOf : MethodName := ⟨RX11, "brickOf", "(II)I"⟩
abbrev cX11_readAs : ByteArray := prog_1_method_8_code
def yX11_readAs : MethodName := ⟨RX11, "readAs", "(II)I"⟩
abbrev cX11_word : ByteArray := prog_1_method_9_code
def yX11_word : MethodName := ⟨RX11, "word", "(II)I"⟩
abbrev cX11_letter : ByteArray := prog_1_method_10_code
def yX11_letter : MethodName := ⟨RX11, "letter", "(II)I"⟩
abbrev cX11_wordIs : ByteArray := prog_1_method_11_code
def yX11_wordIs : MethodName := ⟨RX11, "wordIs", "(II)I"⟩
abbrev cX11_feed : ByteArray := prog_1_method_12_code
def yX11_feed : MethodName := ⟨RX11, "feed", "(JI)I"⟩
abbrev cX11_text : ByteArray := prog_1_method_13_code
def yX11_text : MethodName := ⟨RX11, "text", "(I)I"⟩
abbrev cX11_untell : ByteArray := prog_1_method_14_code
def yX11_untell : MethodName := ⟨RX11, "untell", "(I)I"⟩
abbrev cX11_says : ByteArray := prog_1_method_15_code
def yX11_says : MethodName := ⟨RX11, "says", "(II)I"⟩
abbrev cX11_doors : ByteArray := prog_1_method_16_code
def yX11_doors : MethodName := ⟨RX11, "doors", "(II)I"⟩
abbrev cX11_spare : ByteArray := prog_1_method_17_code
def yX11_spare : MethodName := ⟨RX11, "spare", "(I)I"⟩
abbrev cX11_others : ByteArray := prog_1_method_18_code
def yX11_others : MethodName := ⟨RX11, "others", "(II)I"⟩
abbrev cX11_steps : ByteArray := prog_1_method_19_code
def yX11_steps : MethodName := ⟨RX11, "steps", "(I)I"⟩
abbrev cX11_mends : ByteArray := prog_1_method_20_code
def yX11_mends : MethodName := ⟨RX11, "mends", "(I)I"⟩
abbrev cX11_wish : ByteArray := prog_1_method_21_code
def yX11_wish : MethodName := ⟨RX11, "wish", "(II)I"⟩
abbrev cX11_heap : ByteArray := prog_1_method_22_code
def yX11_heap : MethodName := ⟨RX11, "heap", "(II)I"⟩
abbrev cX11_price : ByteArray := prog_1_method_23_code
def yX11_price : MethodName := ⟨RX11, "price", "(I)I"⟩
abbrev cX11_have : ByteArray := prog_1_method_24_code
def yX11_have : MethodName := ⟨RX11, "have", "(II)I"⟩
abbrev cX11_lay : ByteArray := prog_1_method_25_code
def yX11_lay : MethodName := ⟨RX11, "lay", "(IIII)I"⟩
abbrev cX11_falls : ByteArray := prog_1_method_26_code
def yX11_falls : MethodName := ⟨RX11, "falls", "(I)I"⟩
abbrev cX11_builds : ByteArray := prog_1_method_27_code
def yX11_builds : MethodName := ⟨RX11, "builds", "(II)I"⟩
abbrev cX11_years : ByteArray := prog_1_method_28_code
def yX11_years : MethodName := ⟨RX11, "years", "(I)I"⟩
abbrev cX11_seed : ByteArray := prog_1_method_29_code
def yX11_seed : MethodName := ⟨RX11, "seed", "(I)I"⟩
abbrev cX11_voice : ByteArray := prog_1_method_30_code
def yX11_voice : MethodName := ⟨RX11, "voice", "(III)I"⟩
abbrev cX11_body : ByteArray := prog_1_method_31_code
def yX11_body : MethodName := ⟨RX11, "body", "(I)I"⟩
abbrev cX11_sheet : ByteArray := prog_1_method_32_code
def yX11_sheet : MethodName := ⟨RX11, "sheet", "(III)I"⟩
abbrev cX11_put : ByteArray := prog_1_method_33_code
def yX11_put : MethodName := ⟨RX11, "put", "(III)I"⟩
abbrev cX11_move : ByteArray := prog_1_method_34_code
def yX11_move : MethodName := ⟨RX11, "move", "(IIIII)I"⟩
abbrev cX11_bricks : ByteArray := prog_1_method_35_code
def yX11_bricks : MethodName := ⟨RX11, "bricks", "(II)I"⟩
abbrev cX11_image : ByteArray := prog_1_method_36_code
def yX11_image : MethodName := ⟨RX11, "image", "()I"⟩
abbrev cX11_restore : ByteArray := prog_1_method_37_code
def yX11_restore : MethodName := ⟨RX11, "restore", "()I"⟩
abbrev cX11_tell : ByteArray := prog_1_method_38_code
def yX11_tell : MethodName := ⟨RX11, "tell", "(I)I"⟩
abbrev cX11_check : ByteArray := prog_1_method_39_code
def yX11_check : MethodName := ⟨RX11, "check", "(I)I"⟩
abbrev cX11_count : ByteArray := prog_1_method_40_code
def yX11_count : MethodName := ⟨RX11, "count", "(I)I"⟩
abbrev cX11_told : ByteArray := prog_1_method_41_code
def yX11_told : MethodName := ⟨RX11, "told", "(I)I"⟩
abbrev cX11_error : ByteArray := prog_1_method_42_code
def yX11_error : MethodName := ⟨RX11, "error", "(I)I"⟩
abbrev cX11_isLetter : ByteArray := prog_1_method_43_code
def yX11_isLetter : MethodName := ⟨RX11, "isLetter", "(I)Z"⟩
abbrev cX11_isSheet : ByteArray := prog_1_method_44_code
def yX11_isSheet : MethodName := ⟨RX11, "isSheet", "(I)Z"⟩
abbrev cX11_isUnder : ByteArray := prog_1_method_45_code
def yX11_isUnder : MethodName := ⟨RX11, "isUnder", "(II)Z"⟩
abbrev cX11_readsWith : ByteArray := prog_1_method_46_code
def yX11_readsWith : MethodName := ⟨RX11, "readsWith", "(III)Z"⟩
abbrev cX11_othersAt : ByteArray := prog_1_method_47_code
def yX11_othersAt : MethodName := ⟨RX11, "othersAt", "(II)I"⟩
abbrev cX11_unlikeWish : ByteArray := prog_1_method_48_code
def yX11_unlikeWish : MethodName := ⟨RX11, "unlikeWish", "(LLetterWalls$Sheet;)I"⟩
abbrev cX11_passYear : ByteArray := prog_1_method_49_code
def yX11_passYear : MethodName := ⟨RX11, "passYear", "()I"⟩
def RX12 : String := "LetterWallsModel"
def TX12 : u_T := fun k => match k with
  | 0 => ("LetterWallsModel", "s", "[I", true)
  | 1 => ("LetterWallsModel", "kept", "[I", true)
  | 2 => ("LetterWallsModel", "images", "I", false)
  | 3 => ("LetterWallsModel", "errors", "[I", true)
  | 4 => ("LetterWallsModel", "at", "I", false)
  | 5 => ("LetterWallsModel", "open", "I", false)
  | 6 => ("LetterWallsModel", "steps", "I", false)
  | 7 => ("LetterWallsModel", "use", "I", false)
  | 8 => ("LetterWallsModel", "step", "[I", true)
  | 9 => ("LetterWallsModel", "named", "[I", true)
  | 10 => ("LetterWallsModel", "pile", "[I", true)
  | 11 => ("LetterWallsModel", "row", "[I", true)
  | 12 => ("LetterWallsModel", "many", "I", false)
  | 13 => ("LetterWallsModel", "ways", "[I", true)
  | 14 => ("LetterWallsModel", "said", "[I", true)
  | 15 => ("LetterWallsModel", "words", "I", false)
  | 16 => ("LetterWallsModel", "stood", "[I", true)
  | 17 => ("LetterWallsModel", "built", "I", false)
  | 18 => ("LetterWallsModel", "first", "I", false)
  | 19 => ("LetterWallsModel", "firstWords", "I", false)
  | 20 => ("LetterWallsModel", "trace", "[I", true)
  | 21 => ("LetterWallsModel", "traced", "I", false)
  | 22 => ("LetterWallsModel", "speaks", "I", false)
  | 23 => ("LetterWallsModel", "isParted", "Z", false)
  | 24 => ("LetterWallsModel", "bits", "[I", true)
  | 25 => ("LetterWallsModel", "sizes", "[I", true)
  | 26 => ("LetterWallsModel", "number", "[I", true)
  | _ => ("LetterWallsModel", "aside", "[I", true)
def tyX12 : Nat → FieldType := fun k => match k with
  | 0 => .array .int
  | 1 => .array .int
  | 2 => .int
  | 3 => .array .int
  | 4 => .int
  | 5 => .int
  | 6 => .int
  | 7 => .int
  | 8 => .array .int
  | 9 => .array .int
  | 10 => .array .int
  | 11 => .array .int
  | 12 => .int
  | 13 => .array .int
  | 14 => .array .int
  | 15 => .int
  | 16 => .array .int
  | 17 => .int
  | 18 => .int
  | 19 => .int
  | 20 => .array .int
  | 21 => .int
  | 22 => .int
  | 23 => .boolean
  | 24 => .array .int
  | 25 => .array .int
  | 26 => .array .int
  | _ => .array .int
abbrev wsX120 : List Cond := u_ws RX12 TX12 28
theorem nmX12 : ∀ a, a < 28 → ∀ b, b < 28 → a ≠ b → (TX12 a).2.1 ≠ (TX12 b).2.1 := by decide +kernel
theorem tyX12_ok : ∀ k, k < 28 → parseFieldDescriptor (TX12 k).2.2.1 = some (tyX12 k) := by decide +kernel
abbrev cX12_init : ByteArray := prog_14_method_1_code
def yX12_init : MethodName := ⟨RX12, "<init>", "()V"⟩
abbrev cX12_error : ByteArray := prog_14_method_2_code
def yX12_error : MethodName := ⟨RX12, "error", "(I)I"⟩
abbrev cX12_in : ByteArray := prog_14_method_3_code
def yX12_in : MethodName := ⟨RX12, "in", "(III)Z"⟩
abbrev cX12_held : ByteArray := prog_14_method_4_code
def yX12_held : MethodName := ⟨RX12, "held", "(III)I"⟩
abbrev cX12_carry : ByteArray := prog_14_method_5_code
def yX12_carry : MethodName := ⟨RX12, "carry", "([I[I)V"⟩
abbrev cX12_isWall : ByteArray := prog_14_method_6_code
def yX12_isWall : MethodName := ⟨RX12, "isWall", "(I)Z"⟩
abbrev cX12_isWord : ByteArray := prog_14_method_7_code
def yX12_isWord : MethodName := ⟨RX12, "isWord", "(I)Z"⟩
abbrev cX12_isLetter : ByteArray := prog_14_method_8_code
def yX12_isLetter : MethodName := ⟨RX12, "isLetter", "(I)Z"⟩
abbrev cX12_its : ByteArray := prog_14_method_9_code
def yX12_its : MethodName := ⟨RX12, "its", "(II)I"⟩
abbrev cX12_isPlace : ByteArray := prog_14_method_10_code
def yX12_isPlace : MethodName := ⟨RX12, "isPlace", "(II)Z"⟩
abbrev cX12_at : ByteArray := prog_14_method_11_code
def yX12_at : MethodName := ⟨RX12, "at", "(II)I"⟩
abbrev cX12_sortOf : ByteArray := prog_14_method_12_code
def yX12_sortOf : MethodName := ⟨RX12, "sortOf", "(I)I"⟩
abbrev cX12_lengthOf : ByteArray := prog_14_method_13_code
def yX12_lengthOf : MethodName := ⟨RX12, "lengthOf", "(I)I"⟩
abbrev cX12_letterOf : ByteArray := prog_14_method_14_code
def yX12_letterOf : MethodName := ⟨RX12, "letterOf", "(II)I"⟩
abbrev cX12_feed : ByteArray := prog_14_method_15_code
def yX12_feed : MethodName := ⟨RX12, "feed", "(JI)I"⟩
abbrev cX12_look : ByteArray := prog_14_method_16_code
def yX12_look : MethodName := ⟨RX12, "look", "()I"⟩
abbrev cX12_isName : ByteArray := prog_14_method_17_code
def yX12_isName : MethodName := ⟨RX12, "isName", "(I)Z"⟩
abbrev cX12_lays : ByteArray := prog_14_method_18_code
def yX12_lays : MethodName := ⟨RX12, "lays", "(II)V"⟩
abbrev cX12_whole : ByteArray := prog_14_method_19_code
def yX12_whole : MethodName := ⟨RX12, "whole", "()Z"⟩
abbrev cX12_both : ByteArray := prog_14_method_20_code
def yX12_both : MethodName := ⟨RX12, "both", "()Z"⟩
abbrev cX12_compared : ByteArray := prog_14_method_21_code
def yX12_compared : MethodName := ⟨RX12, "compared", "()Z"⟩
abbrev cX12_sum : ByteArray := prog_14_method_22_code
def yX12_sum : MethodName := ⟨RX12, "sum", "()Z"⟩
abbrev cX12_product : ByteArray := prog_14_method_23_code
def yX12_product : MethodName := ⟨RX12, "product", "()Z"⟩
abbrev cX12_opens : ByteArray := prog_14_method_24_code
def yX12_opens : MethodName := ⟨RX12, "opens", "()Z"⟩
abbrev cX12_one : ByteArray := prog_14_method_25_code
def yX12_one : MethodName := ⟨RX12, "one", "()Z"⟩
abbrev cX12_hasText : ByteArray := prog_14_method_26_code
def yX12_hasText : MethodName := ⟨RX12, "hasText", "(I)Z"⟩
abbrev cX12_text : ByteArray := prog_14_method_27_code
def yX12_text : MethodName := ⟨RX12, "text", "(I)I"⟩
abbrev cX12_untell : ByteArray := prog_14_method_28_code
def yX12_untell : MethodName := ⟨RX12, "untell", "(I)I"⟩
abbrev cX12_joined : ByteArray := prog_14_method_29_code
def yX12_joined : MethodName := ⟨RX12, "joined", "(III)I"⟩
abbrev cX12_worked : ByteArray := prog_14_method_30_code
def yX12_worked : MethodName := ⟨RX12, "worked", "(I)I"⟩
abbrev cX12_takes : ByteArray := prog_14_method_31_code
def yX12_takes : MethodName := ⟨RX12, "takes", "(I)V"⟩
abbrev cX12_turns : ByteArray := prog_14_method_32_code
def yX12_turns : MethodName := ⟨RX12, "turns", "()V"⟩
abbrev cX12_reads : ByteArray := prog_14_method_33_code
def yX12_reads : MethodName := ⟨RX12, "reads", "(I)V"⟩
abbrev cX12_behind : ByteArray := prog_14_method_34_code
def yX12_behind : MethodName := ⟨RX12, "behind", "(II)I"⟩
abbrev cX12_unlike : ByteArray := prog_14_method_35_code
def yX12_unlike : MethodName := ⟨RX12, "unlike", "(II)I"⟩
abbrev cX12_findWays : ByteArray := prog_14_method_36_code
def yX12_findWays : MethodName := ⟨RX12, "findWays", "()I"⟩
abbrev cX12_doesRead : ByteArray := prog_14_method_37_code
def yX12_doesRead : MethodName := ⟨RX12, "doesRead", "(I)Z"⟩
abbrev cX12_stuck : ByteArray := prog_14_method_38_code
def yX12_stuck : MethodName := ⟨RX12, "stuck", "()I"⟩
abbrev cX12_findSaid : ByteArray := prog_14_method_39_code
def yX12_findSaid : MethodName := ⟨RX12, "findSaid", "()V"⟩
abbrev cX12_wall : ByteArray := prog_14_method_40_code
def yX12_wall : MethodName := ⟨RX12, "wall", "(II)I"⟩
abbrev cX12_wallIs : ByteArray := prog_14_method_41_code
def yX12_wallIs : MethodName := ⟨RX12, "wallIs", "(II)I"⟩
abbrev cX12_isUnder : ByteArray := prog_14_method_42_code
def yX12_isUnder : MethodName := ⟨RX12, "isUnder", "(II)Z"⟩
abbrev cX12_as : ByteArray := prog_14_method_43_code
def yX12_as : MethodName := ⟨RX12, "as", "(II)I"⟩
abbrev cX12_set : ByteArray := prog_14_method_44_code
def yX12_set : MethodName := ⟨RX12, "set", "(III)I"⟩
abbrev cX12_brick : ByteArray := prog_14_method_45_code
def yX12_brick : MethodName := ⟨RX12, "brick", "(III)I"⟩
abbrev cX12_brickOf : ByteArray := prog_14_method_46_code
def yX12_brickOf : MethodName := ⟨RX12, "brickOf", "(II)I"⟩
abbrev cX12_readAs : ByteArray := prog_14_method_47_code
def yX12_readAs : MethodName := ⟨RX12, "readAs", "(II)I"⟩
abbrev cX12_word : ByteArray := prog_14_method_48_code
def yX12_word : MethodName := ⟨RX12, "word", "(II)I"⟩
abbrev cX12_letter : ByteArray := prog_14_method_49_code
def yX12_letter : MethodName := ⟨RX12, "letter", "(II)I"⟩
abbrev cX12_wordIs : ByteArray := prog_14_method_50_code
def yX12_wordIs : MethodName := ⟨RX12, "wordIs", "(II)I"⟩
abbrev cX12_says : ByteArray := prog_14_method_51_code
def yX12_says : MethodName := ⟨RX12, "says", "(II)I"⟩
abbrev cX12_readsWithDoor : ByteArray := prog_14_method_52_code
def yX12_readsWithDoor : MethodName := ⟨RX12, "readsWithDoor", "(III)Z"⟩
abbrev cX12_doors : ByteArray := prog_14_method_53_code
def yX12_doors : MethodName := ⟨RX12, "doors", "(II)I"⟩
abbrev cX12_spare : ByteArray := prog_14_method_54_code
def yX12_spare : MethodName := ⟨RX12, "spare", "(I)I"⟩
abbrev cX12_othersAt : ByteArray := prog_14_method_55_code
def yX12_othersAt : MethodName := ⟨RX12, "othersAt", "(II)I"⟩
abbrev cX12_others : ByteArray := prog_14_method_56_code
def yX12_others : MethodName := ⟨RX12, "others", "(II)I"⟩
abbrev cX12_bitsOf : ByteArray := prog_14_method_57_code
def yX12_bitsOf : MethodName := ⟨RX12, "bitsOf", "(I)I"⟩
abbrev cX12_steps : ByteArray := prog_14_method_58_code
def yX12_steps : MethodName := ⟨RX12, "steps", "(I)I"⟩
abbrev cX12_mends : ByteArray := prog_14_method_59_code
def yX12_mends : MethodName := ⟨RX12, "mends", "(I)I"⟩
abbrev cX12_wish : ByteArray := prog_14_method_60_code
def yX12_wish : MethodName := ⟨RX12, "wish", "(II)I"⟩
abbrev cX12_heap : ByteArray := prog_14_method_61_code
def yX12_heap : MethodName := ⟨RX12, "heap", "(II)I"⟩
abbrev cX12_priceOf : ByteArray := prog_14_method_62_code
def yX12_priceOf : MethodName := ⟨RX12, "priceOf", "(I)I"⟩
abbrev cX12_price : ByteArray := prog_14_method_63_code
def yX12_price : MethodName := ⟨RX12, "price", "(I)I"⟩
abbrev cX12_costOf : ByteArray := prog_14_method_64_code
def yX12_costOf : MethodName := ⟨RX12, "costOf", "(I)I"⟩
abbrev cX12_have : ByteArray := prog_14_method_65_code
def yX12_have : MethodName := ⟨RX12, "have", "(II)I"⟩
abbrev cX12_letters : ByteArray := prog_14_method_66_code
def yX12_letters : MethodName := ⟨RX12, "letters", "(I)I"⟩
abbrev cX12_lay : ByteArray := prog_14_method_67_code
def yX12_lay : MethodName := ⟨RX12, "lay", "(IIII)I"⟩
abbrev cX12_toHeap : ByteArray := prog_14_method_68_code
def yX12_toHeap : MethodName := ⟨RX12, "toHeap", "(II)V"⟩
abbrev cX12_falls : ByteArray := prog_14_method_69_code
def yX12_falls : MethodName := ⟨RX12, "falls", "(I)I"⟩
abbrev cX12_takesLetters : ByteArray := prog_14_method_70_code
def yX12_takesLetters : MethodName := ⟨RX12, "takesLetters", "(I)Z"⟩
abbrev cX12_givesLetters : ByteArray := prog_14_method_71_code
def yX12_givesLetters : MethodName := ⟨RX12, "givesLetters", "(I)V"⟩
abbrev cX12_builds1 : ByteArray := prog_14_method_72_code
def yX12_builds1 : MethodName := ⟨RX12, "builds1", "(IIII)V"⟩
abbrev cX12_builds : ByteArray := prog_14_method_73_code
def yX12_builds : MethodName := ⟨RX12, "builds", "(II)I"⟩
abbrev cX12_draw : ByteArray := prog_14_method_74_code
def yX12_draw : MethodName := ⟨RX12, "draw", "()I"⟩
abbrev cX12_years : ByteArray := prog_14_method_75_code
def yX12_years : MethodName := ⟨RX12, "years", "(I)I"⟩
abbrev cX12_seed : ByteArray := prog_14_method_76_code
def yX12_seed : MethodName := ⟨RX12, "seed", "(I)I"⟩
abbrev cX12_begins : ByteArray := prog_14_method_77_code
def yX12_begins : MethodName := ⟨RX12, "begins", "(I)V"⟩
abbrev cX12_above : ByteArray := prog_14_method_78_code
def yX12_above : MethodName := ⟨RX12, "above", "(I)I"⟩
abbrev cX12_kindNow : ByteArray := prog_14_method_79_code
def yX12_kindNow : MethodName := ⟨RX12, "kindNow", "()I"⟩
abbrev cX12_mNow : ByteArray := prog_14_method_80_code
def yX12_mNow : MethodName := ⟨RX12, "mNow", "()I"⟩
abbrev cX12_readsBy : ByteArray := prog_14_method_81_code
def yX12_readsBy : MethodName := ⟨RX12, "readsBy", "(II)I"⟩
abbrev cX12_saysBy : ByteArray := prog_14_method_82_code
def yX12_saysBy : MethodName := ⟨RX12, "saysBy", "(II)I"⟩
abbrev cX12_fallsBy : ByteArray := prog_14_method_83_code
def yX12_fallsBy : MethodName := ⟨RX12, "fallsBy", "(II)I"⟩
abbrev cX12_mendsBy : ByteArray := prog_14_method_84_code
def yX12_mendsBy : MethodName := ⟨RX12, "mendsBy", "(II)I"⟩
abbrev cX12_voice : ByteArray := prog_14_method_85_code
def yX12_voice : MethodName := ⟨RX12, "voice", "(III)I"⟩
abbrev cX12_body : ByteArray := prog_14_method_86_code
def yX12_body : MethodName := ⟨RX12, "body", "(I)I"⟩
abbrev cX12_isSheet : ByteArray := prog_14_method_87_code
def yX12_isSheet : MethodName := ⟨RX12, "isSheet", "(I)Z"⟩
abbrev cX12_sheet : ByteArray := prog_14_method_88_code
def yX12_sheet : MethodName := ⟨RX12, "sheet", "(III)I"⟩
abbrev cX12_put : ByteArray := prog_14_method_89_code
def yX12_put : MethodName := ⟨RX12, "put", "(III)I"⟩
abbrev cX12_move : ByteArray := prog_14_method_90_code
def yX12_move : MethodName := ⟨RX12, "move", "(IIIII)I"⟩
abbrev cX12_bricks : ByteArray := prog_14_method_91_code
def yX12_bricks : MethodName := ⟨RX12, "bricks", "(II)I"⟩
abbrev cX12_image : ByteArray := prog_14_method_92_code
def yX12_image : MethodName := ⟨RX12, "image", "()I"⟩
abbrev cX12_restore : ByteArray := prog_14_method_93_code
def yX12_restore : MethodName := ⟨RX12, "restore", "()I"⟩
abbrev cX12_tell : ByteArray := prog_14_method_94_code
def yX12_tell : MethodName := ⟨RX12, "tell", "(I)I"⟩
abbrev cX12_check : ByteArray := prog_14_method_95_code
def yX12_check : MethodName := ⟨RX12, "check", "(I)I"⟩
abbrev cX12_count : ByteArray := prog_14_method_96_code
def yX12_count : MethodName := ⟨RX12, "count", "(I)I"⟩
abbrev cX12_told : ByteArray := prog_14_method_97_code
def yX12_told : MethodName := ⟨RX12, "told", "(I)I"⟩
def RJ0 : String := "java/lang/String"
def TJ0 : u_T := fun k => match k with
  | _ => ("", "", "", false)
def tyJ0 : Nat → FieldType := fun k => match k with
  | _ => .int
abbrev wsJ00 : List Cond := u_ws RJ0 TJ0 0
theorem nmJ0 : ∀ a, a < 0 → ∀ b, b < 0 → a ≠ b → (TJ0 a).2.1 ≠ (TJ0 b).2.1 := by decide +kernel
theorem tyJ0_ok : ∀ k, k < 0 → parseFieldDescriptor (TJ0 k).2.2.1 = some (tyJ0 k) := by decide +kernel
abbrev cJ0_length_8abf5 : ByteArray := prog_18_method_54_code
def yJ0_length_8abf5 : MethodName := ⟨RJ0, "length", "()I"⟩
abbrev cJ0_indexOf_0f7a4 : ByteArray := prog_18_method_79_code
def yJ0_indexOf_0f7a4 : MethodName := ⟨RJ0, "indexOf", "(I)I"⟩
abbrev cJ0_indexOf_7cf53 : ByteArray := prog_18_method_80_code
def yJ0_indexOf_7cf53 : MethodName := ⟨RJ0, "indexOf", "(II)I"⟩
abbrev cJ0_coder_7d493 : ByteArray := prog_18_method_152_code
def yJ0_coder_7d493 : MethodName := ⟨RJ0, "coder", "()B"⟩
abbrev cJ0_isLatin1_aae02 : ByteArray := prog_18_method_154_code
def yJ0_isLatin1_aae02 : MethodName := ⟨RJ0, "isLatin1", "()Z"⟩
abbrev cJ0_checkBoundsBeginEnd_23922 : ByteArray := prog_18_method_158_code
def yJ0_checkBoundsBeginEnd_23922 : MethodName := ⟨RJ0, "checkBoundsBeginEnd", "(III)V"⟩
def RJ1 : String := "java/lang/StringLatin1"
def TJ1 : u_T := fun k => match k with
  | _ => ("", "", "", false)
def tyJ1 : Nat → FieldType := fun k => match k with
  | _ => .int
abbrev wsJ10 : List Cond := u_ws RJ1 TJ1 0
theorem nmJ1 : ∀ a, a < 0 → ∀ b, b < 0 → a ≠ b → (TJ1 a).2.1 ≠ (TJ1 b).2.1 := by decide +kernel
theorem tyJ1_ok : ∀ k, k < 0 → parseFieldDescriptor (TJ1 k).2.2.1 = some (tyJ1 k) := by decide +kernel
abbrev cJ1_canEncode_9a6ad : ByteArray := prog_19_method_4_code
def yJ1_canEncode_9a6ad : MethodName := ⟨RJ1, "canEncode", "(I)Z"⟩
abbrev cJ1_indexOf_4cfef : ByteArray := prog_19_method_22_code
def yJ1_indexOf_4cfef : MethodName := ⟨RJ1, "indexOf", "([BIII)I"⟩
abbrev cJ1_indexOfChar_4cfef : ByteArray := prog_19_method_23_code
def yJ1_indexOfChar_4cfef : MethodName := ⟨RJ1, "indexOfChar", "([BIII)I"⟩
def RJ7 : String := "java/util/Arrays"
def TJ7 : u_T := fun k => match k with
  | _ => ("", "", "", false)
def tyJ7 : Nat → FieldType := fun k => match k with
  | _ => .int
abbrev wsJ70 : List Cond := u_ws RJ7 TJ7 0
theorem nmJ7 : ∀ a, a < 0 → ∀ b, b < 0 → a ≠ b → (TJ7 a).2.1 ≠ (TJ7 b).2.1 := by decide +kernel
theorem tyJ7_ok : ∀ k, k < 0 → parseFieldDescriptor (TJ7 k).2.2.1 = some (tyJ7 k) := by decide +kernel
abbrev cJ7_fill_53178 : ByteArray := prog_22_method_103_code
def yJ7_fill_53178 : MethodName := ⟨RJ7, "fill", "([II)V"⟩
def RJ6 : String := "java/lang/Integer"
def TJ6 : u_T := fun k => match k with
  | _ => ("", "", "", false)
def tyJ6 : Nat → FieldType := fun k => match k with
  | _ => .int
abbrev wsJ60 : List Cond := u_ws RJ6 TJ6 0
theorem nmJ6 : ∀ a, a < 0 → ∀ b, b < 0 → a ≠ b → (TJ6 a).2.1 ≠ (TJ6 b).2.1 := by decide +kernel
theorem tyJ6_ok : ∀ k, k < 0 → parseFieldDescriptor (TJ6 k).2.2.1 = some (tyJ6 k) := by decide +kernel
abbrev cJ6_bitCount_0f7a4 : ByteArray := prog_16_method_49_code
def yJ6_bitCount_0f7a4 : MethodName := ⟨RJ6, "bitCount", "(I)I"⟩
def RJ9 : String := "java/lang/Math"
def TJ9 : u_T := fun k => match k with
  | _ => ("", "", "", false)
def tyJ9 : Nat → FieldType := fun k => match k with
  | _ => .int
abbrev wsJ90 : List Cond := u_ws RJ9 TJ9 0
theorem nmJ9 : ∀ a, a < 0 → ∀ b, b < 0 → a ≠ b → (TJ9 a).2.1 ≠ (TJ9 b).2.1 := by decide +kernel
theorem tyJ9_ok : ∀ k, k < 0 → parseFieldDescriptor (TJ9 k).2.2.1 = some (tyJ9 k) := by decide +kernel
abbrev cJ9_max_7cf53 : ByteArray := prog_17_method_65_code
def yJ9_max_7cf53 : MethodName := ⟨RJ9, "max", "(II)I"⟩
abbrev cJ9_min_7cf53 : ByteArray := prog_17_method_69_code
def yJ9_min_7cf53 : MethodName := ⟨RJ9, "min", "(II)I"⟩
def WS : List Cond := lw_tbl.filter goodWord
theorem zw_mem {w : Cond} (i : Nat) (h : lw_tbl[i]? = some w) (hg : goodWord w = true) : w ∈ WS := List.mem_filter.mpr ⟨List.mem_of_getElem? h, hg⟩
theorem zw_good : ∀ w ∈ WS, goodWord w = true := fun _ h => (List.mem_filter.mp h).2
theorem zw_in : ∀ w ∈ WS, w ∈ lw_tbl := fun _ h => (List.mem_filter.mp h).1
theorem zw_GoodIn (big : List Cond) (h : ∀ w ∈ WS, w ∈ big) : GoodIn big WS := fun w hw => ⟨h w hw, good_of_word (zw_good w hw)⟩
end
section
abbrev zW : Type := Nat → Nat → Int32
def zlet {α β : Type} (a : α) (f : α → β) : β := f a
def zset (w : zW) (k : Nat) (f : Nat → Int32) : zW := fun j => if j = k then f else w j
def zupd (w : zW) (k i : Nat) (v : Int32) : zW := zset w k (upd (w k) i v)
def zin (i : Int32) (n : Nat) : Bool := decide (¬ (i < 0 ∨ n ≤ i.toNatClampNeg))
def mI (n : Nat) : Int32 := -(nI n)
def zb {α β : Type} (x : Option α) (f : α → Option β) : Option β := match x with | none => none | some a => f a
def zb2 {α β γ : Type} (x : Option (α × β)) (f : α → β → Option γ) : Option γ := match x with | none => none | some q => f q.1 q.2
def zld {β : Type} (w : zW) (k n : Nat) (i : Int32) (f : Int32 → Option β) : Option β := if zin i n = true then f (w k i.toNatClampNeg) else none
def zsto {β : Type} (w : zW) (k n : Nat) (i v : Int32) (f : zW → Option β) : Option β := if zin i n = true then f (zupd w k i.toNatClampNeg v) else none
def zguard {β : Type} (b : Bool) (x : Option β) : Option β := if b = true then x else none
def zbool (x : Int32) : Bool := decide (x = 0 ∨ x = 1)
def zcpyok (sp dp n : Int32) (n0 n1 : Nat) : Bool := decide (¬ sp < 0 ∧ ¬ dp < 0 ∧ ¬ n < 0 ∧ sp.toNatClampNeg + n.toNatClampNeg ≤ n0 ∧ dp.toNatClampNeg + n.toNatClampNeg ≤ n1)
def zcopy (w : zW) (a b : Nat) (sp dp n : Int32) : zW := zset w b (va_cpy (w a) (w b) sp.toNatClampNeg dp.toNatClampNeg n.toNatClampNeg)
def ztabL : Nat → List Int32
  | 0 => [mI 1, nI 0, nI 0, nI 0, nI 1, nI 3, nI 0]
  | 1 => [nI 1, nI 2, nI 3, nI 4, nI 0]
  | 2 => [nI 1, nI 2, nI 4, nI 12, nI 16]
  | _ => [nI 10, nI 20, nI 0, nI 0, nI 50, nI 0, nI 70, nI 11, nI 0, nI 30, nI 0, nI 0, nI 60, nI 71, nI 12, nI 0, nI 0, nI 40, nI 51, nI 0, nI 0, nI 13, nI 21, nI 0, nI 0, nI 0, nI 0, nI 0]
def ztab (t j : Nat) : Int32 := (ztabL t).getD j 0
def ztld {β : Type} (t n : Nat) (i : Int32) (f : Int32 → Option β) : Option β := if zin i n = true then f (ztab t i.toNatClampNeg) else none
theorem zin_vp {i : Int32} {n : Nat} (h : zin i n = true) : vp_in i n := (of_decide_eq_true h : ¬ (i < 0 ∨ n ≤ i.toNatClampNeg))
theorem zb_some {α β : Type} {x : Option α} {f : α → Option β} {r : β} (h : zb x f = some r) : ∃ a, x = some a ∧ f a = some r := by
  cases x with
  | none => cases h
  | some a => exact ⟨a, rfl, h⟩
theorem zb2_some {α β γ : Type} {x : Option (α × β)} {f : α → β → Option γ} {r : γ} (h : zb2 x f = some r) : ∃ a b, x = some (a, b) ∧ f a b = some r := by
  cases x with
  | none => cases h
  | some q => exact ⟨q.1, q.2, rfl, h⟩
theorem zite_some {β : Type} {b : Bool} {x : Option β} {r : β} (h : (if b = true then x else none) = some r) : b = true ∧ x = some r := by
  by_cases hb : b = true
  · rw [if_pos hb] at h; exact ⟨hb, h⟩
  · rw [if_neg hb] at h; cases h
def zNC : Nat := 144
def shpL : List (Nat × Nat) := [(11, 0), (8, 0), (21, 6), (7, 0), (22, 12), (10, 0), (20, 6), (10, 0), (20, 6), (10, 0), (20, 6), (10, 0), (20, 6), (10, 0), (20, 6), (10, 0), (20, 6), (10, 0), (20, 6), (10, 0), (20, 6), (10, 0), (20, 6), (10, 0), (20, 6), (10, 0), (20, 6), (10, 0), (20, 6), (6, 0), (20, 60), (20, 60), (20, 4), (6, 0), (20, 60), (20, 60), (20, 4), (20, 60), (20, 27), (20, 24), (9, 0), (20, 24), (9, 0), (20, 24), (9, 0), (20, 24), (9, 0), (20, 24), (9, 0), (20, 24), (9, 0), (20, 24), (8, 0), (21, 6), (7, 0), (22, 12), (10, 0), (20, 6), (10, 0), (20, 6), (10, 0), (20, 6), (10, 0), (20, 6), (10, 0), (20, 6), (10, 0), (20, 6), (10, 0), (20, 6), (10, 0), (20, 6), (10, 0), (20, 6), (10, 0), (20, 6), (10, 0), (20, 6), (10, 0), (20, 6), (6, 0), (20, 60), (20, 60), (20, 4), (6, 0), (20, 60), (20, 60), (20, 4), (20, 60), (20, 27), (20, 24), (9, 0), (20, 24), (9, 0), (20, 24), (9, 0), (20, 24), (9, 0), (20, 24), (9, 0), (20, 24), (9, 0), (20, 24), (23, 4), (4, 0), (20, 24), (4, 0), (20, 24), (4, 0), (20, 24), (4, 0), (20, 24), (1, 0), (20, 49), (20, 245), (20, 48), (3, 0), (20, 48), (9, 0), (20, 24), (2, 0), (20, 60), (20, 60), (0, 0), (20, 27), (5, 0), (20, 30), (20, 7), (12, 0), (20, 628), (20, 628), (20, 7), (20, 124), (20, 128), (20, 64), (20, 48), (20, 245), (20, 48), (20, 24), (20, 30), (20, 4), (20, 4), (20, 96), (20, 24)]
def shp (k : Nat) : Nat × Nat := shpL.getD k (99, 0)
theorem shp_lt {k t n : Nat} (h : shp k = (t, n)) (ht : t < 99) : k < zNC := by
  rcases Nat.lt_or_ge k zNC with q | q
  · exact q
  · have : shpL.length ≤ k := q
    rw [shp, List.getD_eq_getElem?_getD, List.getElem?_eq_none this] at h
    have h1 : (99 : Nat) = t := congrArg Prod.fst h
    omega
abbrev zG : Type := va_G × (Nat → Nat) × (Nat → ClassId) × (Nat → Nat) × (Nat → Nat) × (Nat → Nat)
def zD (G : zG) : va_G := G.1
def zα (G : zG) (k : Nat) : Nat := G.2.1 k
def zcl (G : zG) (k : Nat) : ClassId := G.2.2.1 k
def zsa (G : zG) (k : Nat) : Nat := G.2.2.2.1 k
def zaK (G : zG) (k : Nat) : Nat := G.2.2.2.2.1 k
def zaV (G : zG) (k : Nat) : Nat := G.2.2.2.2.2 k
def zstr (G : zG) (c : Int32) : Nat := zaK G (if c = 1 then 1 else if c = 2 then 2 else 0)
abbrev zclasses : List vw_C := [(RX0, TX0, 6), (RX1, TX1, 4), (RX2, TX2, 7), (RX3, TX3, 2), (RX4, TX4, 3), (RX5, TX5, 6), (RX6, TX6, 4), (RX7, TX7, 2), (RX8, TX8, 13), (RX9, TX9, 4), (RX10, TX10, 3), (RX11, TX11, 11), (RX12, TX12, 28)]
abbrev ztys (G : zG) : List (ClassId × FieldType) := [(zcl G 0, .int), (zcl G 1, .object RX9), (zcl G 2, .object RX10), (zcl G 3, .object RX4)]
def zstep : Nat → Nat
  | 21 => 38
  | _ => 1
def zfs (G : zG) (r : Nat → Int32) (k : Nat) : Nat → List Value
  | 0 => [.ref (zα G (k + 1)), (if r 1 = 0 then .null else .ref (zα G 3)), .int (r 2), .int (r 3), .int (r 4), .int (r 5)]
  | 1 => [.ref (zα G (k + 1)), .ref (zα G (k + 2)), .ref (zα G (k + 3)), .int (r 3)]
  | 2 => [.ref (zα G (k + 1)), .ref (zα G (k + 2)), .int (r 2), .int (r 3), .int (r 4), .int (r 5), .ref (zstr G (r 6))]
  | 3 => [.ref (zα G (k + 1)), .int (r 1)]
  | 4 => [.ref (zα G (k + 1)), .int (r 1), .int (r 2)]
  | 5 => [.ref (zα G (k + 1)), .int (r 1), .int (r 2), .int (r 3), .int (r 4), .int (r 5)]
  | 6 => [.ref (zα G (k + 1)), .ref (zα G (k + 2)), .ref (zα G (k + 3)), .int (r 3)]
  | 7 => [.ref (zα G (k + 1)), .int (r 1)]
  | 8 => [.ref (zα G (k + 1)), .ref (zα G (k + 2)), .ref (zα G (k + 28)), .ref (zα G (k + 32)), .ref (zα G (k + 36)), .ref (zα G (k + 37)), .ref (zα G (k + 38)), .int (r 7), .int (r 8), .int (r 9), .int (r 10), .int (r 11), .int (r 12)]
  | 9 => [.ref (zα G (k + 1)), .int (r 1), .int (r 2), .int (r 3)]
  | 10 => [.ref (zα G (k + 1)), .int (r 1), .int (r 2)]
  | 11 => [.ref (zα G (k + 1)), .ref (zα G (k + 52)), .ref (zα G (k + 103)), .ref (zα G (k + 112)), .ref (zα G (k + 116)), .ref (zα G (k + 118)), .ref (zα G (k + 120)), .ref (zα G (k + 123)), .ref (zα G (k + 125)), .ref (zα G (k + 127)), .int (r 10)]
  | 12 => [.ref (zα G (k + 1)), .ref (zα G (k + 2)), .int (r 2), .ref (zα G (k + 3)), .int (r 4), .int (r 5), .int (r 6), .int (r 7), .ref (zα G (k + 4)), .ref (zα G (k + 5)), .ref (zα G (k + 6)), .ref (zα G (k + 7)), .int (r 12), .ref (zα G (k + 8)), .ref (zα G (k + 9)), .int (r 15), .ref (zα G (k + 10)), .int (r 17), .int (r 18), .int (r 19), .ref (zα G (k + 11)), .int (r 21), .int (r 22), .int (r 23), .ref (zα G (k + 12)), .ref (zα G (k + 13)), .ref (zα G (k + 14)), .ref (zα G (k + 15))]
  | _ => []
def zcell (G : zG) (r : Nat → Int32) (k : Nat) : va_E := if (shp k).1 < 20 then .inr ((shp k).1, zfs G r k (shp k).1) else if (shp k).1 = 20 then .inl (zcl G 0, (shp k).2, .inl r) else .inl (zcl G ((shp k).1 - 20), (shp k).2, .inr (.inr (.inr (.inr (fun i => some (zα G (k + zstep (shp k).1 + 2 * i)))))))
def zP (G : zG) (w : zW) : va_W := (List.range zNC).map (fun k => (zα G k, zcell G (w k) k))
def zgood (G : zG) : Prop := ∀ i j : Nat, i < zNC → j < zNC → zα G i = zα G j → i = j
def zA (G : zG) : Nat → Prop := fun q => ∃ k : Nat, k < zNC ∧ q = zα G k
def zS (G : zG) (A : Nat → Prop) (U : State) (H : Heap) : Prop :=
  va_Z "LetterWalls" "ABOVE" "[I" (.ref (zsa G 0)) A U H ∧ va_T .int (zsa G 0) 7 (fun j => .int (ztab 0 j)) A U H ∧ va_Z "LetterWalls" "LEADS_TO" "[I" (.ref (zsa G 1)) A U H ∧ va_T .int (zsa G 1) 5 (fun j => .int (ztab 1 j)) A U H ∧ va_Z "LetterWalls" "COMES_IN" "[I" (.ref (zsa G 2)) A U H ∧ va_T .int (zsa G 2) 5 (fun j => .int (ztab 2 j)) A U H ∧ va_Z "LetterWalls" "BODIES" "[I" (.ref (zsa G 3)) A U H ∧ va_T .int (zsa G 3) 28 (fun j => .int (ztab 3 j)) A U H ∧ va_Z "java/lang/String" "COMPACT_STRINGS" "Z" (.int 1) A U H ∧ vk_S 3 [0, 4, 3] [[], [108, 105, 110, 109], [108, 115, 104]] (zaK G) (zaV G) A U H ∧ vk_R "LetterWalls$Parser" 18 "" (zaK G 0) U ∧ vk_R "LetterWalls" 167 "linm" (zaK G 1) U ∧ vk_R "LetterWalls" 169 "lsh" (zaK G 2) U
theorem zP_at (G : zG) (w : zW) {k : Nat} (h : k < zNC) : (zP G w)[k]? = some (zα G k, zcell G (w k) k) := by
  rw [zP, List.getElem?_map, List.getElem?_range h]; rfl
theorem zcell_o (G : zG) (r : Nat → Int32) {k t n : Nat} (h : shp k = (t, n)) (ht : t < 20) : zcell G r k = .inr (t, zfs G r k t) := by
  rw [zcell, h]; exact if_pos ht
theorem zcell_i (G : zG) (r : Nat → Int32) {k n : Nat} (h : shp k = (20, n)) : zcell G r k = .inl (zcl G 0, n, .inl r) := by
  rw [zcell, h]; rfl
theorem zcell_a (G : zG) (r : Nat → Int32) {k t n : Nat} (h : shp k = (t, n)) (ht : 20 < t) : zcell G r k = .inl (zcl G (t - 20), n, .inr (.inr (.inr (.inr (fun i => some (zα G (k + zstep t + 2 * i))))))) := by
  rw [zcell, h]
  show (if t < 20 then _ else if t = 20 then _ else _) = _
  rw [if_neg (by omega), if_neg (by omega)]
theorem zP_len (G : zG) (w : zW) : (zP G w).length = zNC := by simp [zP]
theorem zP_set (G : zG) (w : zW) {k : Nat} (hk : k < zNC) (f : Nat → Int32) (c : va_E) (hc : zcell G f k = c) : (zP G w).set k (zα G k, c) = zP G (zset w k f) := by
  subst hc
  apply List.ext_getElem?
  intro j
  by_cases hj : j < zNC
  · by_cases e : j = k
    · subst e
      rw [List.getElem?_set_self (by rw [zP_len]; exact hj), zP_at G _ hj]
      simp [zset]
    · rw [List.getElem?_set_ne (Ne.symm e), zP_at G _ hj, zP_at G _ hj]
      simp [zset, e]
  · rw [List.getElem?_eq_none (by rw [List.length_set, zP_len]; omega), List.getElem?_eq_none (by rw [zP_len]; omega)]
theorem zall {P : Nat → Prop} {t n : Nat} (h : ∀ k, k < zNC → shp k = (t, n) → P k) (ht : t < 99) : ∀ k, shp k = (t, n) → P k := fun k hk => h k (shp_lt hk ht) hk
theorem zallA {t n st : Nat} {q : Nat × Nat} (h : ∀ k, k < zNC → shp k = (t, n) → ∀ i, i < n → shp (k + st + 2 * i) = q) (ht : t < 99) (k : Nat) (hk : shp k = (t, n)) (i : Int32) (hi : zin i n = true) : shp (k + st + 2 * i.toNatClampNeg) = q :=
  h k (shp_lt hk ht) hk _ (Nat.not_le.mp fun e => zin_vp hi (Or.inr e))
theorem zD_of {G : zG} (hg : zgood G) {A : Nat → Prop} (hA : ∀ k : Nat, k < zNC → A (zα G k)) (w : zW) : va_D A (zP G w) := by
  refine ⟨fun i j p q hi hj e => ?_, fun k q hk => ?_⟩
  · have h1 : i < zNC := by have := (List.getElem?_eq_some_iff.mp hi).1; rwa [zP_len] at this
    have h2 : j < zNC := by have := (List.getElem?_eq_some_iff.mp hj).1; rwa [zP_len] at this
    rw [zP_at G w h1] at hi
    rw [zP_at G w h2] at hj
    cases hi; cases hj
    exact hg i j h1 h2 e
  · have h1 : k < zNC := by have := (List.getElem?_eq_some_iff.mp hk).1; rwa [zP_len] at this
    rw [zP_at G w h1] at hk
    cases hk
    exact hA k h1
theorem zS.moved {G : zG} {A : Nat → Prop} {s U : State} {H : Heap} (hW : s.WarmedH U.vm) (h : zS G A s H) : zS G A U H := by
  obtain ⟨a1, a2, a3, a4, a5, a6, a7, a8, b1, b2, b3, b4, b5⟩ := h
  have hv := hW.alike
  exact ⟨a1.moved hv, a2.moved hv, a3.moved hv, a4.moved hv, a5.moved hv, a6.moved hv, a7.moved hv, a8.moved hv, b1.moved hv, b2.moved hv, b3.warm hW, b4.warm hW, b5.warm hW⟩
theorem zS.same {G : zG} {A : Nat → Prop} {s U : State} {H : Heap} (hv : U.vm = s.vm) (h : zS G A s H) : zS G A U H := by
  obtain ⟨a1, a2, a3, a4, a5, a6, a7, a8, b1, b2, b3, b4, b5⟩ := h
  have ha : s.vm.Alike U.vm := by rw [hv]; exact Vm.Alike.refl _
  exact ⟨a1.moved ha, a2.moved ha, a3.moved ha, a4.moved ha, a5.moved ha, a6.moved ha, a7.moved ha, a8.moved ha, b1.moved ha, b2.moved ha, b3.same hv, b4.same hv, b5.same hv⟩
theorem zS.kept {G : zG} {A : Nat → Prop} {U : State} {H H1 : Heap} (h : zS G A U H) (hq : ∀ a : Nat, a < H.size → ¬ A a → H1[a]? = H[a]?) : zS G A U H1 := by
  obtain ⟨a1, a2, a3, a4, a5, a6, a7, a8, b1, b2, b3, b4, b5⟩ := h
  exact ⟨a1.kept hq, a2.kept hq, a3.kept hq, a4.kept hq, a5.kept hq, a6.kept hq, a7.kept hq, a8.kept hq, b1.kept hq, b2.kept hq, b3, b4, b5⟩
theorem zS.narrow {G : zG} {A B : Nat → Prop} {U : State} {H : Heap} (h : zS G A U H) (hq : ∀ a : Nat, B a → A a) : zS G B U H := by
  obtain ⟨a1, a2, a3, a4, a5, a6, a7, a8, b1, b2, b3, b4, b5⟩ := h
  exact ⟨a1.narrow hq, a2.narrow hq, a3.narrow hq, a4.narrow hq, a5.narrow hq, a6.narrow hq, a7.narrow hq, a8.narrow hq, b1.narrow hq, b2.narrow hq, b3, b4, b5⟩
def zhas (ls : Array Slot) (L : List (Option Value)) : Prop := ls.size = L.length ∧ lv_wf ls ∧ ∀ (i : Nat) (v : Value), L[i]? = some (some v) → ls[i]? = some (.val v)
def zls (L : List (Option Value)) : List (Nat × Value) := (List.range L.length).filterMap fun i => match L[i]? with
  | some (some v) => some (i, v)
  | _ => none
theorem zhas.toLv {ls : Array Slot} {L : List (Option Value)} (h : zhas ls L) : lv_has ls L.length (zls L) := by
  refine ⟨h.1, h.2.1, fun q hq => ?_⟩
  obtain ⟨i, -, hi⟩ := List.mem_filterMap.mp hq
  cases e : L[i]? with
  | none => rw [e] at hi; cases hi
  | some o =>
    cases o with
    | none => rw [e] at hi; cases hi
    | some v =>
      rw [e] at hi
      cases hi
      exact h.2.2 i v e
def zno2 (L : List (Option Value)) : Nat → Bool
  | 0 => true
  | i + 1 => match L[i]? with
    | some (some v) => v.category == 1
    | _ => true
theorem zhas.store {ls ls' : Array Slot} {L : List (Option Value)} {i : Nat} {v : Value} (h : zhas ls L) (hn : zno2 L i = true)
    (h' : lv_has ls' L.length ((i, v) :: (zls L).filter (fun q => !(q.1 == i) && !(q.1 + 1 == i && q.2.category == 2)))) : zhas ls' (L.set i (some v)) := by
  refine ⟨by rw [List.length_set]; exact h'.1, h'.2.1, fun j u hj => ?_⟩
  by_cases e : j = i
  · subst e
    by_cases hl : j < L.length
    · rw [List.getElem?_set_self hl] at hj
      cases hj
      exact h'.2.2 (j, v) List.mem_cons_self
    · rw [List.getElem?_eq_none (by rw [List.length_set]; omega)] at hj
      cases hj
  · rw [List.getElem?_set_ne (Ne.symm e)] at hj
    refine h'.2.2 (j, u) (List.mem_cons_of_mem _ (List.mem_filter.mpr ⟨?_, ?_⟩))
    · have hl : j < L.length := (List.getElem?_eq_some_iff.mp hj).1
      exact List.mem_filterMap.mpr ⟨j, List.mem_range.mpr hl, by rw [hj]⟩
    · simp only [Bool.and_eq_true, Bool.not_eq_true', beq_eq_false_iff_ne, ne_eq, Bool.and_eq_false_iff]
      refine ⟨e, ?_⟩
      by_cases e2 : j + 1 = i
      · subst e2
        right
        simp only [zno2, hj] at hn
        have : u.category = 1 := by simpa using hn
        omega
      · exact Or.inl e2
def zsub : List (Option Value) → List (Option Value) → Prop
  | [], [] => True
  | none :: a, _ :: b => zsub a b
  | some v :: a, some u :: b => v = u ∧ zsub a b
  | _, _ => False
theorem zsub_spec : ∀ (L1 L2 : List (Option Value)), zsub L1 L2 → L1.length = L2.length ∧ ∀ (i : Nat) (v : Value), L1[i]? = some (some v) → L2[i]? = some (some v)
  | [], [], _ => ⟨rfl, fun i v h => by cases h⟩
  | [], _ :: _, h => by cases h
  | none :: a, [], h => by cases h
  | some v :: a, [], h => by cases h
  | none :: a, x :: b, h => by
    obtain ⟨h1, h2⟩ := zsub_spec a b h
    refine ⟨by simp [h1], fun i v hi => ?_⟩
    cases i with
    | zero => cases hi
    | succ i => exact h2 i v hi
  | some v :: a, none :: b, h => by cases h
  | some v :: a, some u :: b, h => by
    obtain ⟨hvu, h⟩ := h
    subst hvu
    obtain ⟨h1, h2⟩ := zsub_spec a b h
    refine ⟨by simp [h1], fun i v hi => ?_⟩
    cases i with
    | zero => exact hi
    | succ i => exact h2 i v hi
abbrev zX : Type := Program × Launch × Env × Room × State × MethodId × Array Value × List Frame × Method × Code × (Nat → Prop) × Nat × Nat × (State → Prop)
def zZ (G : zG) (X : zX) (w : zW) (pc : Nat) (L : List (Option Value)) (st : List Value) : Prop := match X with
  | (p, l, e, R, s, m, args, below, meth, c, A, cells, slots, Q) => ∀ (H : Heap) (locs : List Loc) (ls : Array Slot), va_P (zD G) zclasses (zP G w) H → va_S A s.heap H locs → zhas ls L → W p l e R s m args below meth c H locs cells slots Q (F0 m pc ls st)
def zOk (G : zG) (X : zX) (cc : ByteArray) (nL : Nat) (own : String) (h : Nat) : Prop := match X with
  | (p, l, e, R, s, m, args, below, meth, c, A, cells, slots, Q) => p.tables.exec = Jvm.exec ∧ c.code = cc ∧ c.maxLocals = nL ∧ s.vm.findClass own = some m.cls ∧ (∀ q ∈ WS, q.before args s = true) ∧ va_K (zD G) zclasses (ztys G) s ∧ zS G A s s.heap ∧ zgood G ∧ (∀ k : Nat, k < zNC → A (zα G k)) ∧ h ≤ R.frames ∧ 40 * h ≤ R.locals ∧ cells ≤ R.cells ∧ slots ≤ R.slots
theorem z_weak {G : zG} {X : zX} {w : zW} {pc : Nat} {L L' : List (Option Value)} {st : List Value} (h : zsub L' L) (k : zZ G X w pc L' st) : zZ G X w pc L st := by
  obtain ⟨p, l, e, R, s, m, args, below, meth, c, A, cells, slots, Q⟩ := X
  obtain ⟨h1, h2⟩ := zsub_spec _ _ h
  intro H locs ls hP hS hl
  exact k H locs ls hP hS ⟨hl.1.trans h1.symm, hl.2.1, fun i v hi => hl.2.2 i v (h2 i v hi)⟩
theorem z_eq {G : zG} {X : zX} {w : zW} {pc : Nat} {L L' : List (Option Value)} {st st' : List Value} (hL : L = L') (hs : st = st') (k : zZ G X w pc L' st') : zZ G X w pc L st := by
  subst hL; subst hs; exact k

theorem zf0_2 (G : zG) (r : Nat → Int32) (k : Nat) (v : Int32) : zfs G (upd r 2 v) k 0 = (zfs G r k 0).set 2 (.int v) := by simp [zfs, upd]
theorem zf0_3 (G : zG) (r : Nat → Int32) (k : Nat) (v : Int32) : zfs G (upd r 3 v) k 0 = (zfs G r k 0).set 3 (.int v) := by simp [zfs, upd]
theorem zf0_4 (G : zG) (r : Nat → Int32) (k : Nat) (v : Int32) : zfs G (upd r 4 v) k 0 = (zfs G r k 0).set 4 (.int v) := by simp [zfs, upd]
theorem zf0_5 (G : zG) (r : Nat → Int32) (k : Nat) (v : Int32) : zfs G (upd r 5 v) k 0 = (zfs G r k 0).set 5 (.int v) := by simp [zfs, upd]
theorem zf1_3 (G : zG) (r : Nat → Int32) (k : Nat) (v : Int32) : zfs G (upd r 3 v) k 1 = (zfs G r k 1).set 3 (.int v) := by simp [zfs, upd]
theorem zf2_2 (G : zG) (r : Nat → Int32) (k : Nat) (v : Int32) : zfs G (upd r 2 v) k 2 = (zfs G r k 2).set 2 (.int v) := by simp [zfs, upd]
theorem zf2_3 (G : zG) (r : Nat → Int32) (k : Nat) (v : Int32) : zfs G (upd r 3 v) k 2 = (zfs G r k 2).set 3 (.int v) := by simp [zfs, upd]
theorem zf2_4 (G : zG) (r : Nat → Int32) (k : Nat) (v : Int32) : zfs G (upd r 4 v) k 2 = (zfs G r k 2).set 4 (.int v) := by simp [zfs, upd]
theorem zf2_5 (G : zG) (r : Nat → Int32) (k : Nat) (v : Int32) : zfs G (upd r 5 v) k 2 = (zfs G r k 2).set 5 (.int v) := by simp [zfs, upd]
theorem zf3_1 (G : zG) (r : Nat → Int32) (k : Nat) (v : Int32) : zfs G (upd r 1 v) k 3 = (zfs G r k 3).set 1 (.int v) := by simp [zfs, upd]
theorem zf4_1 (G : zG) (r : Nat → Int32) (k : Nat) (v : Int32) : zfs G (upd r 1 v) k 4 = (zfs G r k 4).set 1 (.int v) := by simp [zfs, upd]
theorem zf4_2 (G : zG) (r : Nat → Int32) (k : Nat) (v : Int32) : zfs G (upd r 2 v) k 4 = (zfs G r k 4).set 2 (.int v) := by simp [zfs, upd]
theorem zf5_1 (G : zG) (r : Nat → Int32) (k : Nat) (v : Int32) : zfs G (upd r 1 v) k 5 = (zfs G r k 5).set 1 (.int v) := by simp [zfs, upd]
theorem zf5_2 (G : zG) (r : Nat → Int32) (k : Nat) (v : Int32) : zfs G (upd r 2 v) k 5 = (zfs G r k 5).set 2 (.int v) := by simp [zfs, upd]
theorem zf5_3 (G : zG) (r : Nat → Int32) (k : Nat) (v : Int32) : zfs G (upd r 3 v) k 5 = (zfs G r k 5).set 3 (.int v) := by simp [zfs, upd]
theorem zf5_4 (G : zG) (r : Nat → Int32) (k : Nat) (v : Int32) : zfs G (upd r 4 v) k 5 = (zfs G r k 5).set 4 (.int v) := by simp [zfs, upd]
theorem zf5_5 (G : zG) (r : Nat → Int32) (k : Nat) (v : Int32) : zfs G (upd r 5 v) k 5 = (zfs G r k 5).set 5 (.int v) := by simp [zfs, upd]
theorem zf6_3 (G : zG) (r : Nat → Int32) (k : Nat) (v : Int32) : zfs G (upd r 3 v) k 6 = (zfs G r k 6).set 3 (.int v) := by simp [zfs, upd]
theorem zf7_1 (G : zG) (r : Nat → Int32) (k : Nat) (v : Int32) : zfs G (upd r 1 v) k 7 = (zfs G r k 7).set 1 (.int v) := by simp [zfs, upd]
theorem zf8_7 (G : zG) (r : Nat → Int32) (k : Nat) (v : Int32) : zfs G (upd r 7 v) k 8 = (zfs G r k 8).set 7 (.int v) := by simp [zfs, upd]
theorem zf8_8 (G : zG) (r : Nat → Int32) (k : Nat) (v : Int32) : zfs G (upd r 8 v) k 8 = (zfs G r k 8).set 8 (.int v) := by simp [zfs, upd]
theorem zf8_9 (G : zG) (r : Nat → Int32) (k : Nat) (v : Int32) : zfs G (upd r 9 v) k 8 = (zfs G r k 8).set 9 (.int v) := by simp [zfs, upd]
theorem zf8_10 (G : zG) (r : Nat → Int32) (k : Nat) (v : Int32) : zfs G (upd r 10 v) k 8 = (zfs G r k 8).set 10 (.int v) := by simp [zfs, upd]
theorem zf8_11 (G : zG) (r : Nat → Int32) (k : Nat) (v : Int32) : zfs G (upd r 11 v) k 8 = (zfs G r k 8).set 11 (.int v) := by simp [zfs, upd]
theorem zf8_12 (G : zG) (r : Nat → Int32) (k : Nat) (v : Int32) : zfs G (upd r 12 v) k 8 = (zfs G r k 8).set 12 (.int v) := by simp [zfs, upd]
theorem zf9_1 (G : zG) (r : Nat → Int32) (k : Nat) (v : Int32) : zfs G (upd r 1 v) k 9 = (zfs G r k 9).set 1 (.int v) := by simp [zfs, upd]
theorem zf9_2 (G : zG) (r : Nat → Int32) (k : Nat) (v : Int32) : zfs G (upd r 2 v) k 9 = (zfs G r k 9).set 2 (.int v) := by simp [zfs, upd]
theorem zf9_3 (G : zG) (r : Nat → Int32) (k : Nat) (v : Int32) : zfs G (upd r 3 v) k 9 = (zfs G r k 9).set 3 (.int v) := by simp [zfs, upd]
theorem zf10_1 (G : zG) (r : Nat → Int32) (k : Nat) (v : Int32) : zfs G (upd r 1 v) k 10 = (zfs G r k 10).set 1 (.int v) := by simp [zfs, upd]
theorem zf10_2 (G : zG) (r : Nat → Int32) (k : Nat) (v : Int32) : zfs G (upd r 2 v) k 10 = (zfs G r k 10).set 2 (.int v) := by simp [zfs, upd]
theorem zf11_10 (G : zG) (r : Nat → Int32) (k : Nat) (v : Int32) : zfs G (upd r 10 v) k 11 = (zfs G r k 11).set 10 (.int v) := by simp [zfs, upd]
theorem zf12_2 (G : zG) (r : Nat → Int32) (k : Nat) (v : Int32) : zfs G (upd r 2 v) k 12 = (zfs G r k 12).set 2 (.int v) := by simp [zfs, upd]
theorem zf12_4 (G : zG) (r : Nat → Int32) (k : Nat) (v : Int32) : zfs G (upd r 4 v) k 12 = (zfs G r k 12).set 4 (.int v) := by simp [zfs, upd]
theorem zf12_5 (G : zG) (r : Nat → Int32) (k : Nat) (v : Int32) : zfs G (upd r 5 v) k 12 = (zfs G r k 12).set 5 (.int v) := by simp [zfs, upd]
theorem zf12_6 (G : zG) (r : Nat → Int32) (k : Nat) (v : Int32) : zfs G (upd r 6 v) k 12 = (zfs G r k 12).set 6 (.int v) := by simp [zfs, upd]
theorem zf12_7 (G : zG) (r : Nat → Int32) (k : Nat) (v : Int32) : zfs G (upd r 7 v) k 12 = (zfs G r k 12).set 7 (.int v) := by simp [zfs, upd]
theorem zf12_12 (G : zG) (r : Nat → Int32) (k : Nat) (v : Int32) : zfs G (upd r 12 v) k 12 = (zfs G r k 12).set 12 (.int v) := by simp [zfs, upd]
theorem zf12_15 (G : zG) (r : Nat → Int32) (k : Nat) (v : Int32) : zfs G (upd r 15 v) k 12 = (zfs G r k 12).set 15 (.int v) := by simp [zfs, upd]
theorem zf12_17 (G : zG) (r : Nat → Int32) (k : Nat) (v : Int32) : zfs G (upd r 17 v) k 12 = (zfs G r k 12).set 17 (.int v) := by simp [zfs, upd]
theorem zf12_18 (G : zG) (r : Nat → Int32) (k : Nat) (v : Int32) : zfs G (upd r 18 v) k 12 = (zfs G r k 12).set 18 (.int v) := by simp [zfs, upd]
theorem zf12_19 (G : zG) (r : Nat → Int32) (k : Nat) (v : Int32) : zfs G (upd r 19 v) k 12 = (zfs G r k 12).set 19 (.int v) := by simp [zfs, upd]
theorem zf12_21 (G : zG) (r : Nat → Int32) (k : Nat) (v : Int32) : zfs G (upd r 21 v) k 12 = (zfs G r k 12).set 21 (.int v) := by simp [zfs, upd]
theorem zf12_22 (G : zG) (r : Nat → Int32) (k : Nat) (v : Int32) : zfs G (upd r 22 v) k 12 = (zfs G r k 12).set 22 (.int v) := by simp [zfs, upd]
theorem zf12_23 (G : zG) (r : Nat → Int32) (k : Nat) (v : Int32) : zfs G (upd r 23 v) k 12 = (zfs G r k 12).set 23 (.int v) := by simp [zfs, upd]
theorem zf0_1 (G : zG) (r : Nat → Int32) (k : Nat) : zfs G (upd r 1 1) k 0 = (zfs G r k 0).set 1 (.ref (zα G 3)) := by simp [zfs, upd]
theorem zf2_6 (G : zG) (r : Nat → Int32) (k : Nat) (v : Int32) : zfs G (upd r 6 v) k 2 = (zfs G r k 2).set 6 (.ref (zstr G v)) := by simp [zfs, upd]
theorem zr0_left : ∀ k : Nat, shp k = (0, 0) → shp (k + 1) = (20, 27) := zall (by decide +kernel) (by decide)
theorem zr1_ends : ∀ k : Nat, shp k = (1, 0) → shp (k + 1) = (20, 49) := zall (by decide +kernel) (by decide)
theorem zr1_kept : ∀ k : Nat, shp k = (1, 0) → shp (k + 2) = (20, 245) := zall (by decide +kernel) (by decide)
theorem zr1_said : ∀ k : Nat, shp k = (1, 0) → shp (k + 3) = (20, 48) := zall (by decide +kernel) (by decide)
theorem zr2_bytes : ∀ k : Nat, shp k = (2, 0) → shp (k + 1) = (20, 60) := zall (by decide +kernel) (by decide)
theorem zr2_signs : ∀ k : Nat, shp k = (2, 0) → shp (k + 2) = (20, 60) := zall (by decide +kernel) (by decide)
theorem zr3_letters : ∀ k : Nat, shp k = (3, 0) → shp (k + 1) = (20, 48) := zall (by decide +kernel) (by decide)
theorem zr4_numbers : ∀ k : Nat, shp k = (4, 0) → shp (k + 1) = (20, 24) := zall (by decide +kernel) (by decide)
theorem zr5_trace : ∀ k : Nat, shp k = (5, 0) → shp (k + 1) = (20, 30) := zall (by decide +kernel) (by decide)
theorem zr6_signs : ∀ k : Nat, shp k = (6, 0) → shp (k + 1) = (20, 60) := zall (by decide +kernel) (by decide)
theorem zr6_stack : ∀ k : Nat, shp k = (6, 0) → shp (k + 2) = (20, 60) := zall (by decide +kernel) (by decide)
theorem zr6_named : ∀ k : Nat, shp k = (6, 0) → shp (k + 3) = (20, 4) := zall (by decide +kernel) (by decide)
theorem zr7_words : ∀ k : Nat, shp k = (7, 0) → shp (k + 1) = (22, 12) := zall (by decide +kernel) (by decide)
theorem zr8_walls : ∀ k : Nat, shp k = (8, 0) → shp (k + 1) = (21, 6) := zall (by decide +kernel) (by decide)
theorem zr8_tongue : ∀ k : Nat, shp k = (8, 0) → shp (k + 2) = (7, 0) := zall (by decide +kernel) (by decide)
theorem zr8_turns : ∀ k : Nat, shp k = (8, 0) → shp (k + 28) = (6, 0) := zall (by decide +kernel) (by decide)
theorem zr8_prices : ∀ k : Nat, shp k = (8, 0) → shp (k + 32) = (6, 0) := zall (by decide +kernel) (by decide)
theorem zr8_tape : ∀ k : Nat, shp k = (8, 0) → shp (k + 36) = (20, 60) := zall (by decide +kernel) (by decide)
theorem zr8_heaped : ∀ k : Nat, shp k = (8, 0) → shp (k + 37) = (20, 27) := zall (by decide +kernel) (by decide)
theorem zr8_waiting : ∀ k : Nat, shp k = (8, 0) → shp (k + 38) = (20, 24) := zall (by decide +kernel) (by decide)
theorem zr9_stones : ∀ k : Nat, shp k = (9, 0) → shp (k + 1) = (20, 24) := zall (by decide +kernel) (by decide)
theorem zr10_letters : ∀ k : Nat, shp k = (10, 0) → shp (k + 1) = (20, 6) := zall (by decide +kernel) (by decide)
theorem zr11_now : ∀ k : Nat, shp k = (11, 0) → shp (k + 1) = (8, 0) := zall (by decide +kernel) (by decide)
theorem zr11_kept : ∀ k : Nat, shp k = (11, 0) → shp (k + 52) = (8, 0) := zall (by decide +kernel) (by decide)
theorem zr11_sheets : ∀ k : Nat, shp k = (11, 0) → shp (k + 103) = (23, 4) := zall (by decide +kernel) (by decide)
theorem zr11_laws : ∀ k : Nat, shp k = (11, 0) → shp (k + 112) = (1, 0) := zall (by decide +kernel) (by decide)
theorem zr11_row : ∀ k : Nat, shp k = (11, 0) → shp (k + 116) = (3, 0) := zall (by decide +kernel) (by decide)
theorem zr11_trial : ∀ k : Nat, shp k = (11, 0) → shp (k + 118) = (9, 0) := zall (by decide +kernel) (by decide)
theorem zr11_parser : ∀ k : Nat, shp k = (11, 0) → shp (k + 120) = (2, 0) := zall (by decide +kernel) (by decide)
theorem zr11_builder : ∀ k : Nat, shp k = (11, 0) → shp (k + 123) = (0, 0) := zall (by decide +kernel) (by decide)
theorem zr11_speaker : ∀ k : Nat, shp k = (11, 0) → shp (k + 125) = (5, 0) := zall (by decide +kernel) (by decide)
theorem zr11_errorsTold : ∀ k : Nat, shp k = (11, 0) → shp (k + 127) = (20, 7) := zall (by decide +kernel) (by decide)
theorem zr12_s : ∀ k : Nat, shp k = (12, 0) → shp (k + 1) = (20, 628) := zall (by decide +kernel) (by decide)
theorem zr12_kept : ∀ k : Nat, shp k = (12, 0) → shp (k + 2) = (20, 628) := zall (by decide +kernel) (by decide)
theorem zr12_errors : ∀ k : Nat, shp k = (12, 0) → shp (k + 3) = (20, 7) := zall (by decide +kernel) (by decide)
theorem zr12_step : ∀ k : Nat, shp k = (12, 0) → shp (k + 4) = (20, 124) := zall (by decide +kernel) (by decide)
theorem zr12_named : ∀ k : Nat, shp k = (12, 0) → shp (k + 5) = (20, 128) := zall (by decide +kernel) (by decide)
theorem zr12_pile : ∀ k : Nat, shp k = (12, 0) → shp (k + 6) = (20, 64) := zall (by decide +kernel) (by decide)
theorem zr12_row : ∀ k : Nat, shp k = (12, 0) → shp (k + 7) = (20, 48) := zall (by decide +kernel) (by decide)
theorem zr12_ways : ∀ k : Nat, shp k = (12, 0) → shp (k + 8) = (20, 245) := zall (by decide +kernel) (by decide)
theorem zr12_said : ∀ k : Nat, shp k = (12, 0) → shp (k + 9) = (20, 48) := zall (by decide +kernel) (by decide)
theorem zr12_stood : ∀ k : Nat, shp k = (12, 0) → shp (k + 10) = (20, 24) := zall (by decide +kernel) (by decide)
theorem zr12_trace : ∀ k : Nat, shp k = (12, 0) → shp (k + 11) = (20, 30) := zall (by decide +kernel) (by decide)
theorem zr12_bits : ∀ k : Nat, shp k = (12, 0) → shp (k + 12) = (20, 4) := zall (by decide +kernel) (by decide)
theorem zr12_sizes : ∀ k : Nat, shp k = (12, 0) → shp (k + 13) = (20, 4) := zall (by decide +kernel) (by decide)
theorem zr12_number : ∀ k : Nat, shp k = (12, 0) → shp (k + 14) = (20, 96) := zall (by decide +kernel) (by decide)
theorem zr12_aside : ∀ k : Nat, shp k = (12, 0) → shp (k + 15) = (20, 24) := zall (by decide +kernel) (by decide)
theorem ze21 (k : Nat) (h : shp k = (21, 6)) (i : Int32) (hi : zin i 6 = true) : shp (k + 38 + 2 * i.toNatClampNeg) = (9, 0) := zallA (by decide +kernel) (by decide) k h i hi
theorem ze22 (k : Nat) (h : shp k = (22, 12)) (i : Int32) (hi : zin i 12 = true) : shp (k + 1 + 2 * i.toNatClampNeg) = (10, 0) := zallA (by decide +kernel) (by decide) k h i hi
theorem ze23 (k : Nat) (h : shp k = (23, 4)) (i : Int32) (hi : zin i 4 = true) : shp (k + 1 + 2 * i.toNatClampNeg) = (4, 0) := zallA (by decide +kernel) (by decide) k h i hi
end
section
theorem zpos {ρ : Type} {r : ρ} {c : Prop} {inst : Decidable c} {A B : Option ρ} (h : @ite _ c inst A B = some r) (q : c) : A = some r := by rw [if_pos q] at h; exact h
theorem zneg {ρ : Type} {r : ρ} {c : Prop} {inst : Decidable c} {A B : Option ρ} (h : @ite _ c inst A B = some r) (q : ¬ c) : B = some r := by rw [if_neg q] at h; exact h
theorem z_iconst {G : zG} {X : zX} {w : zW} {cc : ByteArray} {nL : Nat} {own : String} {h0 : Nat} {L : List (Option Value)} {st : List Value} {n : Int} {v : Int32} (pc : Nat) (hX : zOk G X cc nL own h0) (d : decode cc pc = .ok (.iconst n, 1)) (hv : Int32.ofInt n = v) (k : zZ G X w (pc + 1) L (.int v :: st)) : zZ G X w pc L st := by
  obtain ⟨p, l, e, R, s, m, args, below, meth, c, A, cells, slots, Q⟩ := X
  obtain ⟨hx, hb, hml, hown, hts, hK, hS0, hg, hA, hfr, hlo, hce, hsl⟩ := hX
  intro H locs ls hP hS hl
  exact lv_iconst hx hb d hv (k H locs ls hP hS hl)
theorem z_bipush {G : zG} {X : zX} {w : zW} {cc : ByteArray} {nL : Nat} {own : String} {h0 : Nat} {L : List (Option Value)} {st : List Value} {n : Int} {v : Int32} (pc : Nat) (hX : zOk G X cc nL own h0) (d : decode cc pc = .ok (.bipush n, 2)) (hv : (Int8.ofInt n).toInt32 = v) (k : zZ G X w (pc + 2) L (.int v :: st)) : zZ G X w pc L st := by
  obtain ⟨p, l, e, R, s, m, args, below, meth, c, A, cells, slots, Q⟩ := X
  obtain ⟨hx, hb, hml, hown, hts, hK, hS0, hg, hA, hfr, hlo, hce, hsl⟩ := hX
  intro H locs ls hP hS hl
  exact lv_bipush hx hb d hv (k H locs ls hP hS hl)
theorem z_sipush {G : zG} {X : zX} {w : zW} {cc : ByteArray} {nL : Nat} {own : String} {h0 : Nat} {L : List (Option Value)} {st : List Value} {n : Int} {v : Int32} (pc : Nat) (hX : zOk G X cc nL own h0) (d : decode cc pc = .ok (.sipush n, 3)) (hv : (Int16.ofInt n).toInt32 = v) (k : zZ G X w (pc + 3) L (.int v :: st)) : zZ G X w pc L st := by
  obtain ⟨p, l, e, R, s, m, args, below, meth, c, A, cells, slots, Q⟩ := X
  obtain ⟨hx, hb, hml, hown, hts, hK, hS0, hg, hA, hfr, hlo, hce, hsl⟩ := hX
  intro H locs ls hP hS hl
  exact lv_sipush hx hb d hv (k H locs ls hP hS hl)
theorem z_ldc {G : zG} {X : zX} {w : zW} {cc : ByteArray} {nL : Nat} {own : String} {h0 : Nat} {L : List (Option Value)} {st : List Value} {i : Nat} {v u : Int32} (pc : Nat) (hX : zOk G X cc nL own h0) (d : decode cc pc = .ok (.ldc i, 2)) (hw : Cond.constant own i u ∈ WS) (hv : u = v) (k : zZ G X w (pc + 2) L (.int v :: st)) : zZ G X w pc L st := by
  subst hv
  obtain ⟨p, l, e, R, s, m, args, below, meth, c, A, cells, slots, Q⟩ := X
  obtain ⟨hx, hb, hml, hown, hts, hK, hS0, hg, hA, hfr, hlo, hce, hsl⟩ := hX
  intro H locs ls hP hS hl
  exact lv_ldc hx hb hown (hts _ hw) d (k H locs ls hP hS hl)
theorem z_ldc_w {G : zG} {X : zX} {w : zW} {cc : ByteArray} {nL : Nat} {own : String} {h0 : Nat} {L : List (Option Value)} {st : List Value} {i : Nat} {v u : Int32} (pc : Nat) (hX : zOk G X cc nL own h0) (d : decode cc pc = .ok (.ldc_w i, 3)) (hw : Cond.constant own i u ∈ WS) (hv : u = v) (k : zZ G X w (pc + 3) L (.int v :: st)) : zZ G X w pc L st := by
  subst hv
  obtain ⟨p, l, e, R, s, m, args, below, meth, c, A, cells, slots, Q⟩ := X
  obtain ⟨hx, hb, hml, hown, hts, hK, hS0, hg, hA, hfr, hlo, hce, hsl⟩ := hX
  intro H locs ls hP hS hl
  exact lv_ldcw hx hb hown (hts _ hw) d (k H locs ls hP hS hl)
theorem z_ldc2 {G : zG} {X : zX} {w : zW} {cc : ByteArray} {nL : Nat} {own : String} {h0 : Nat} {L : List (Option Value)} {st : List Value} {i : Nat} {v : Int64} (pc : Nat) (hX : zOk G X cc nL own h0) (d : decode cc pc = .ok (.ldc2_w i, 3)) (hw : Cond.constantLong own i v ∈ WS) (k : zZ G X w (pc + 3) L (.long v :: st)) : zZ G X w pc L st := by
  obtain ⟨p, l, e, R, s, m, args, below, meth, c, A, cells, slots, Q⟩ := X
  obtain ⟨hx, hb, hml, hown, hts, hK, hS0, hg, hA, hfr, hlo, hce, hsl⟩ := hX
  intro H locs ls hP hS hl
  exact lv_ldc2 hx hb hown (hts _ hw) d (k H locs ls hP hS hl)
theorem z_iload {G : zG} {X : zX} {w : zW} {cc : ByteArray} {nL : Nat} {own : String} {h0 : Nat} {L : List (Option Value)} {st : List Value} {i : Nat} {x : Int32} (pc : Nat) (hX : zOk G X cc nL own h0) (d : decode cc pc = .ok (.iload i, 2)) (hL : L[i]? = some (some (.int x))) (k : zZ G X w (pc + 2) L (.int x :: st)) : zZ G X w pc L st := by
  obtain ⟨p, l, e, R, s, m, args, below, meth, c, A, cells, slots, Q⟩ := X
  obtain ⟨hx, hb, hml, hown, hts, hK, hS0, hg, hA, hfr, hlo, hce, hsl⟩ := hX
  intro H locs ls hP hS hl
  exact lv_iload hx hb d (hl.2.2 _ _ hL) (k H locs ls hP hS hl)
theorem z_iload_n {G : zG} {X : zX} {w : zW} {cc : ByteArray} {nL : Nat} {own : String} {h0 : Nat} {L : List (Option Value)} {st : List Value} {j : Fin 4} {x : Int32} (pc : Nat) (hX : zOk G X cc nL own h0) (d : decode cc pc = .ok (.iload_n j, 1)) (hL : L[(j : Nat)]? = some (some (.int x))) (k : zZ G X w (pc + 1) L (.int x :: st)) : zZ G X w pc L st := by
  obtain ⟨p, l, e, R, s, m, args, below, meth, c, A, cells, slots, Q⟩ := X
  obtain ⟨hx, hb, hml, hown, hts, hK, hS0, hg, hA, hfr, hlo, hce, hsl⟩ := hX
  intro H locs ls hP hS hl
  exact lv_iload_n hx hb d rfl (hl.2.2 _ _ hL) (k H locs ls hP hS hl)
theorem z_lload {G : zG} {X : zX} {w : zW} {cc : ByteArray} {nL : Nat} {own : String} {h0 : Nat} {L : List (Option Value)} {st : List Value} {i : Nat} {x : Int64} (pc : Nat) (hX : zOk G X cc nL own h0) (d : decode cc pc = .ok (.lload i, 2)) (hL : L[i]? = some (some (.long x))) (k : zZ G X w (pc + 2) L (.long x :: st)) : zZ G X w pc L st := by
  obtain ⟨p, l, e, R, s, m, args, below, meth, c, A, cells, slots, Q⟩ := X
  obtain ⟨hx, hb, hml, hown, hts, hK, hS0, hg, hA, hfr, hlo, hce, hsl⟩ := hX
  intro H locs ls hP hS hl
  exact lv_lload hx hb d (hl.2.2 _ _ hL) (k H locs ls hP hS hl)
theorem z_lload_n {G : zG} {X : zX} {w : zW} {cc : ByteArray} {nL : Nat} {own : String} {h0 : Nat} {L : List (Option Value)} {st : List Value} {j : Fin 4} {x : Int64} (pc : Nat) (hX : zOk G X cc nL own h0) (d : decode cc pc = .ok (.lload_n j, 1)) (hL : L[(j : Nat)]? = some (some (.long x))) (k : zZ G X w (pc + 1) L (.long x :: st)) : zZ G X w pc L st := by
  obtain ⟨p, l, e, R, s, m, args, below, meth, c, A, cells, slots, Q⟩ := X
  obtain ⟨hx, hb, hml, hown, hts, hK, hS0, hg, hA, hfr, hlo, hce, hsl⟩ := hX
  intro H locs ls hP hS hl
  exact lv_lload_n hx hb d rfl (hl.2.2 _ _ hL) (k H locs ls hP hS hl)
theorem z_aload {G : zG} {X : zX} {w : zW} {cc : ByteArray} {nL : Nat} {own : String} {h0 : Nat} {L : List (Option Value)} {st : List Value} {i : Nat} {x : Nat} (pc : Nat) (hX : zOk G X cc nL own h0) (d : decode cc pc = .ok (.aload i, 2)) (hL : L[i]? = some (some (.ref x))) (k : zZ G X w (pc + 2) L (.ref x :: st)) : zZ G X w pc L st := by
  obtain ⟨p, l, e, R, s, m, args, below, meth, c, A, cells, slots, Q⟩ := X
  obtain ⟨hx, hb, hml, hown, hts, hK, hS0, hg, hA, hfr, hlo, hce, hsl⟩ := hX
  intro H locs ls hP hS hl
  exact lv_aload hx hb d (hl.2.2 _ _ hL) (k H locs ls hP hS hl)
theorem z_aload_n {G : zG} {X : zX} {w : zW} {cc : ByteArray} {nL : Nat} {own : String} {h0 : Nat} {L : List (Option Value)} {st : List Value} {j : Fin 4} {x : Nat} (pc : Nat) (hX : zOk G X cc nL own h0) (d : decode cc pc = .ok (.aload_n j, 1)) (hL : L[(j : Nat)]? = some (some (.ref x))) (k : zZ G X w (pc + 1) L (.ref x :: st)) : zZ G X w pc L st := by
  obtain ⟨p, l, e, R, s, m, args, below, meth, c, A, cells, slots, Q⟩ := X
  obtain ⟨hx, hb, hml, hown, hts, hK, hS0, hg, hA, hfr, hlo, hce, hsl⟩ := hX
  intro H locs ls hP hS hl
  exact lv_aload_n hx hb d rfl (hl.2.2 _ _ hL) (k H locs ls hP hS hl)
theorem z_iadd {G : zG} {X : zX} {w : zW} {cc : ByteArray} {nL : Nat} {own : String} {h0 : Nat} {L : List (Option Value)} {st : List Value} {x y : Int32} (pc : Nat) (hX : zOk G X cc nL own h0) (d : decode cc pc = .ok (.iadd, 1)) (k : zZ G X w (pc + 1) L (.int (x + y) :: st)) : zZ G X w pc L (.int y :: .int x :: st) := by
  obtain ⟨p, l, e, R, s, m, args, below, meth, c, A, cells, slots, Q⟩ := X
  obtain ⟨hx, hb, hml, hown, hts, hK, hS0, hg, hA, hfr, hlo, hce, hsl⟩ := hX
  intro H locs ls hP hS hl
  exact lv_iadd hx hb d (k H locs ls hP hS hl)
theorem z_isub {G : zG} {X : zX} {w : zW} {cc : ByteArray} {nL : Nat} {own : String} {h0 : Nat} {L : List (Option Value)} {st : List Value} {x y : Int32} (pc : Nat) (hX : zOk G X cc nL own h0) (d : decode cc pc = .ok (.isub, 1)) (k : zZ G X w (pc + 1) L (.int (x - y) :: st)) : zZ G X w pc L (.int y :: .int x :: st) := by
  obtain ⟨p, l, e, R, s, m, args, below, meth, c, A, cells, slots, Q⟩ := X
  obtain ⟨hx, hb, hml, hown, hts, hK, hS0, hg, hA, hfr, hlo, hce, hsl⟩ := hX
  intro H locs ls hP hS hl
  exact lv_isub hx hb d (k H locs ls hP hS hl)
theorem z_imul {G : zG} {X : zX} {w : zW} {cc : ByteArray} {nL : Nat} {own : String} {h0 : Nat} {L : List (Option Value)} {st : List Value} {x y : Int32} (pc : Nat) (hX : zOk G X cc nL own h0) (d : decode cc pc = .ok (.imul, 1)) (k : zZ G X w (pc + 1) L (.int (x * y) :: st)) : zZ G X w pc L (.int y :: .int x :: st) := by
  obtain ⟨p, l, e, R, s, m, args, below, meth, c, A, cells, slots, Q⟩ := X
  obtain ⟨hx, hb, hml, hown, hts, hK, hS0, hg, hA, hfr, hlo, hce, hsl⟩ := hX
  intro H locs ls hP hS hl
  exact lv_imul hx hb d (k H locs ls hP hS hl)
theorem z_iand {G : zG} {X : zX} {w : zW} {cc : ByteArray} {nL : Nat} {own : String} {h0 : Nat} {L : List (Option Value)} {st : List Value} {x y : Int32} (pc : Nat) (hX : zOk G X cc nL own h0) (d : decode cc pc = .ok (.iand, 1)) (k : zZ G X w (pc + 1) L (.int (x &&& y) :: st)) : zZ G X w pc L (.int y :: .int x :: st) := by
  obtain ⟨p, l, e, R, s, m, args, below, meth, c, A, cells, slots, Q⟩ := X
  obtain ⟨hx, hb, hml, hown, hts, hK, hS0, hg, hA, hfr, hlo, hce, hsl⟩ := hX
  intro H locs ls hP hS hl
  exact lv_iand hx hb d (k H locs ls hP hS hl)
theorem z_ior {G : zG} {X : zX} {w : zW} {cc : ByteArray} {nL : Nat} {own : String} {h0 : Nat} {L : List (Option Value)} {st : List Value} {x y : Int32} (pc : Nat) (hX : zOk G X cc nL own h0) (d : decode cc pc = .ok (.ior, 1)) (k : zZ G X w (pc + 1) L (.int (x ||| y) :: st)) : zZ G X w pc L (.int y :: .int x :: st) := by
  obtain ⟨p, l, e, R, s, m, args, below, meth, c, A, cells, slots, Q⟩ := X
  obtain ⟨hx, hb, hml, hown, hts, hK, hS0, hg, hA, hfr, hlo, hce, hsl⟩ := hX
  intro H locs ls hP hS hl
  exact lv_ior hx hb d (k H locs ls hP hS hl)
theorem z_ixor {G : zG} {X : zX} {w : zW} {cc : ByteArray} {nL : Nat} {own : String} {h0 : Nat} {L : List (Option Value)} {st : List Value} {x y : Int32} (pc : Nat) (hX : zOk G X cc nL own h0) (d : decode cc pc = .ok (.ixor, 1)) (k : zZ G X w (pc + 1) L (.int (x ^^^ y) :: st)) : zZ G X w pc L (.int y :: .int x :: st) := by
  obtain ⟨p, l, e, R, s, m, args, below, meth, c, A, cells, slots, Q⟩ := X
  obtain ⟨hx, hb, hml, hown, hts, hK, hS0, hg, hA, hfr, hlo, hce, hsl⟩ := hX
  intro H locs ls hP hS hl
  exact lv_ixor hx hb d (k H locs ls hP hS hl)
theorem z_ishl {G : zG} {X : zX} {w : zW} {cc : ByteArray} {nL : Nat} {own : String} {h0 : Nat} {L : List (Option Value)} {st : List Value} {x y : Int32} (pc : Nat) (hX : zOk G X cc nL own h0) (d : decode cc pc = .ok (.ishl, 1)) (k : zZ G X w (pc + 1) L (.int (x <<< (y &&& 31)) :: st)) : zZ G X w pc L (.int y :: .int x :: st) := by
  obtain ⟨p, l, e, R, s, m, args, below, meth, c, A, cells, slots, Q⟩ := X
  obtain ⟨hx, hb, hml, hown, hts, hK, hS0, hg, hA, hfr, hlo, hce, hsl⟩ := hX
  intro H locs ls hP hS hl
  exact lv_ishl hx hb d (k H locs ls hP hS hl)
theorem z_ishr {G : zG} {X : zX} {w : zW} {cc : ByteArray} {nL : Nat} {own : String} {h0 : Nat} {L : List (Option Value)} {st : List Value} {x y : Int32} (pc : Nat) (hX : zOk G X cc nL own h0) (d : decode cc pc = .ok (.ishr, 1)) (k : zZ G X w (pc + 1) L (.int (x >>> (y &&& 31)) :: st)) : zZ G X w pc L (.int y :: .int x :: st) := by
  obtain ⟨p, l, e, R, s, m, args, below, meth, c, A, cells, slots, Q⟩ := X
  obtain ⟨hx, hb, hml, hown, hts, hK, hS0, hg, hA, hfr, hlo, hce, hsl⟩ := hX
  intro H locs ls hP hS hl
  exact lv_ishr hx hb d (k H locs ls hP hS hl)
theorem z_land {G : zG} {X : zX} {w : zW} {cc : ByteArray} {nL : Nat} {own : String} {h0 : Nat} {L : List (Option Value)} {st : List Value} {x y : Int64} (pc : Nat) (hX : zOk G X cc nL own h0) (d : decode cc pc = .ok (.land, 1)) (k : zZ G X w (pc + 1) L (.long (x &&& y) :: st)) : zZ G X w pc L (.long y :: .long x :: st) := by
  obtain ⟨p, l, e, R, s, m, args, below, meth, c, A, cells, slots, Q⟩ := X
  obtain ⟨hx, hb, hml, hown, hts, hK, hS0, hg, hA, hfr, hlo, hce, hsl⟩ := hX
  intro H locs ls hP hS hl
  exact lv_land hx hb d (k H locs ls hP hS hl)
theorem z_lor {G : zG} {X : zX} {w : zW} {cc : ByteArray} {nL : Nat} {own : String} {h0 : Nat} {L : List (Option Value)} {st : List Value} {x y : Int64} (pc : Nat) (hX : zOk G X cc nL own h0) (d : decode cc pc = .ok (.lor, 1)) (k : zZ G X w (pc + 1) L (.long (x ||| y) :: st)) : zZ G X w pc L (.long y :: .long x :: st) := by
  obtain ⟨p, l, e, R, s, m, args, below, meth, c, A, cells, slots, Q⟩ := X
  obtain ⟨hx, hb, hml, hown, hts, hK, hS0, hg, hA, hfr, hlo, hce, hsl⟩ := hX
  intro H locs ls hP hS hl
  exact lv_lor hx hb d (k H locs ls hP hS hl)
theorem z_ineg {G : zG} {X : zX} {w : zW} {cc : ByteArray} {nL : Nat} {own : String} {h0 : Nat} {L : List (Option Value)} {st : List Value} {x : Int32} (pc : Nat) (hX : zOk G X cc nL own h0) (d : decode cc pc = .ok (.ineg, 1)) (k : zZ G X w (pc + 1) L (.int (-x) :: st)) : zZ G X w pc L (.int x :: st) := by
  obtain ⟨p, l, e, R, s, m, args, below, meth, c, A, cells, slots, Q⟩ := X
  obtain ⟨hx, hb, hml, hown, hts, hK, hS0, hg, hA, hfr, hlo, hce, hsl⟩ := hX
  intro H locs ls hP hS hl
  exact lv_ineg hx hb d (k H locs ls hP hS hl)
theorem z_iushr {G : zG} {X : zX} {w : zW} {cc : ByteArray} {nL : Nat} {own : String} {h0 : Nat} {L : List (Option Value)} {st : List Value} {x y : Int32} (pc : Nat) (hX : zOk G X cc nL own h0) (d : decode cc pc = .ok (.iushr, 1)) (k : zZ G X w (pc + 1) L (.int (x.toUInt32 >>> (y.toUInt32 &&& Int32.toUInt32 31)).toInt32 :: st)) : zZ G X w pc L (.int y :: .int x :: st) := by
  obtain ⟨p, l, e, R, s, m, args, below, meth, c, A, cells, slots, Q⟩ := X
  obtain ⟨hx, hb, hml, hown, hts, hK, hS0, hg, hA, hfr, hlo, hce, hsl⟩ := hX
  intro H locs ls hP hS hl
  exact lv_iushr hx hb d rfl (k H locs ls hP hS hl)
theorem z_lushr {G : zG} {X : zX} {w : zW} {cc : ByteArray} {nL : Nat} {own : String} {h0 : Nat} {L : List (Option Value)} {st : List Value} {x : Int64} {y : Int32} (pc : Nat) (hX : zOk G X cc nL own h0) (d : decode cc pc = .ok (.lushr, 1)) (k : zZ G X w (pc + 1) L (.long (x.toUInt64 >>> (y.toInt64.toUInt64 &&& Int64.toUInt64 63)).toInt64 :: st)) : zZ G X w pc L (.int y :: .long x :: st) := by
  obtain ⟨p, l, e, R, s, m, args, below, meth, c, A, cells, slots, Q⟩ := X
  obtain ⟨hx, hb, hml, hown, hts, hK, hS0, hg, hA, hfr, hlo, hce, hsl⟩ := hX
  intro H locs ls hP hS hl
  exact lv_lushr hx hb d rfl (k H locs ls hP hS hl)
theorem z_lshl {G : zG} {X : zX} {w : zW} {cc : ByteArray} {nL : Nat} {own : String} {h0 : Nat} {L : List (Option Value)} {st : List Value} {x : Int64} {y : Int32} (pc : Nat) (hX : zOk G X cc nL own h0) (d : decode cc pc = .ok (.lshl, 1)) (k : zZ G X w (pc + 1) L (.long (x <<< (y.toInt64 &&& 63)) :: st)) : zZ G X w pc L (.int y :: .long x :: st) := by
  obtain ⟨p, l, e, R, s, m, args, below, meth, c, A, cells, slots, Q⟩ := X
  obtain ⟨hx, hb, hml, hown, hts, hK, hS0, hg, hA, hfr, hlo, hce, hsl⟩ := hX
  intro H locs ls hP hS hl
  exact lv_lshl hx hb d rfl (k H locs ls hP hS hl)
theorem z_lshr {G : zG} {X : zX} {w : zW} {cc : ByteArray} {nL : Nat} {own : String} {h0 : Nat} {L : List (Option Value)} {st : List Value} {x : Int64} {y : Int32} (pc : Nat) (hX : zOk G X cc nL own h0) (d : decode cc pc = .ok (.lshr, 1)) (k : zZ G X w (pc + 1) L (.long (x >>> (y.toInt64 &&& 63)) :: st)) : zZ G X w pc L (.int y :: .long x :: st) := by
  obtain ⟨p, l, e, R, s, m, args, below, meth, c, A, cells, slots, Q⟩ := X
  obtain ⟨hx, hb, hml, hown, hts, hK, hS0, hg, hA, hfr, hlo, hce, hsl⟩ := hX
  intro H locs ls hP hS hl
  exact lv_lshr hx hb d rfl (k H locs ls hP hS hl)
theorem z_i2l {G : zG} {X : zX} {w : zW} {cc : ByteArray} {nL : Nat} {own : String} {h0 : Nat} {L : List (Option Value)} {st : List Value} {x : Int32} (pc : Nat) (hX : zOk G X cc nL own h0) (d : decode cc pc = .ok (.i2l, 1)) (k : zZ G X w (pc + 1) L (.long x.toInt64 :: st)) : zZ G X w pc L (.int x :: st) := by
  obtain ⟨p, l, e, R, s, m, args, below, meth, c, A, cells, slots, Q⟩ := X
  obtain ⟨hx, hb, hml, hown, hts, hK, hS0, hg, hA, hfr, hlo, hce, hsl⟩ := hX
  intro H locs ls hP hS hl
  exact lv_i2l hx hb d rfl (k H locs ls hP hS hl)
theorem z_l2i {G : zG} {X : zX} {w : zW} {cc : ByteArray} {nL : Nat} {own : String} {h0 : Nat} {L : List (Option Value)} {st : List Value} {x : Int64} (pc : Nat) (hX : zOk G X cc nL own h0) (d : decode cc pc = .ok (.l2i, 1)) (k : zZ G X w (pc + 1) L (.int x.toInt32 :: st)) : zZ G X w pc L (.long x :: st) := by
  obtain ⟨p, l, e, R, s, m, args, below, meth, c, A, cells, slots, Q⟩ := X
  obtain ⟨hx, hb, hml, hown, hts, hK, hS0, hg, hA, hfr, hlo, hce, hsl⟩ := hX
  intro H locs ls hP hS hl
  exact lv_l2i hx hb d rfl (k H locs ls hP hS hl)
theorem z_i2b {G : zG} {X : zX} {w : zW} {cc : ByteArray} {nL : Nat} {own : String} {h0 : Nat} {L : List (Option Value)} {st : List Value} {x : Int32} (pc : Nat) (hX : zOk G X cc nL own h0) (d : decode cc pc = .ok (.i2b, 1)) (k : zZ G X w (pc + 1) L (.int x.toInt8.toInt32 :: st)) : zZ G X w pc L (.int x :: st) := by
  obtain ⟨p, l, e, R, s, m, args, below, meth, c, A, cells, slots, Q⟩ := X
  obtain ⟨hx, hb, hml, hown, hts, hK, hS0, hg, hA, hfr, hlo, hce, hsl⟩ := hX
  intro H locs ls hP hS hl
  exact lv_i2b hx hb d rfl (k H locs ls hP hS hl)
theorem z_i2s {G : zG} {X : zX} {w : zW} {cc : ByteArray} {nL : Nat} {own : String} {h0 : Nat} {L : List (Option Value)} {st : List Value} {x : Int32} (pc : Nat) (hX : zOk G X cc nL own h0) (d : decode cc pc = .ok (.i2s, 1)) (k : zZ G X w (pc + 1) L (.int x.toInt16.toInt32 :: st)) : zZ G X w pc L (.int x :: st) := by
  obtain ⟨p, l, e, R, s, m, args, below, meth, c, A, cells, slots, Q⟩ := X
  obtain ⟨hx, hb, hml, hown, hts, hK, hS0, hg, hA, hfr, hlo, hce, hsl⟩ := hX
  intro H locs ls hP hS hl
  exact lv_i2s hx hb d rfl (k H locs ls hP hS hl)
theorem z_i2c {G : zG} {X : zX} {w : zW} {cc : ByteArray} {nL : Nat} {own : String} {h0 : Nat} {L : List (Option Value)} {st : List Value} {x : Int32} (pc : Nat) (hX : zOk G X cc nL own h0) (d : decode cc pc = .ok (.i2c, 1)) (k : zZ G X w (pc + 1) L (.int (x.toUInt32 % 65536).toInt32 :: st)) : zZ G X w pc L (.int x :: st) := by
  obtain ⟨p, l, e, R, s, m, args, below, meth, c, A, cells, slots, Q⟩ := X
  obtain ⟨hx, hb, hml, hown, hts, hK, hS0, hg, hA, hfr, hlo, hce, hsl⟩ := hX
  intro H locs ls hP hS hl
  exact lv_i2c hx hb d rfl (k H locs ls hP hS hl)
theorem z_idivc {G : zG} {X : zX} {w : zW} {cc : ByteArray} {nL : Nat} {own : String} {h0 : Nat} {L : List (Option Value)} {st : List Value} {x y : Int32} (pc : Nat) (hX : zOk G X cc nL own h0) (d : decode cc pc = .ok (.idiv, 1)) (hy : ¬ y = 0) (k : zZ G X w (pc + 1) L (.int (x / y) :: st)) : zZ G X w pc L (.int y :: .int x :: st) := by
  obtain ⟨p, l, e, R, s, m, args, below, meth, c, A, cells, slots, Q⟩ := X
  obtain ⟨hx, hb, hml, hown, hts, hK, hS0, hg, hA, hfr, hlo, hce, hsl⟩ := hX
  intro H locs ls hP hS hl
  exact lv_idiv hx hb d hy (k H locs ls hP hS hl)
theorem z_idiv {G : zG} {X : zX} {w : zW} {cc : ByteArray} {nL : Nat} {own : String} {h0 : Nat} {L : List (Option Value)} {st : List Value} {ρ : Type} {r : ρ} {x y : Int32} {E : Option ρ} (pc : Nat) (hX : zOk G X cc nL own h0) (d : decode cc pc = .ok (.idiv, 1)) (h : zguard (decide (¬ y = 0)) E = some r) (k : E = some r → zZ G X w (pc + 1) L (.int (x / y) :: st)) : zZ G X w pc L (.int y :: .int x :: st) := by
  obtain ⟨hy, h⟩ := zite_some h
  exact z_idivc pc hX d (of_decide_eq_true hy) (k h)
theorem z_iremc {G : zG} {X : zX} {w : zW} {cc : ByteArray} {nL : Nat} {own : String} {h0 : Nat} {L : List (Option Value)} {st : List Value} {x y : Int32} (pc : Nat) (hX : zOk G X cc nL own h0) (d : decode cc pc = .ok (.irem, 1)) (hy : ¬ y = 0) (k : zZ G X w (pc + 1) L (.int (x - x / y * y) :: st)) : zZ G X w pc L (.int y :: .int x :: st) := by
  obtain ⟨p, l, e, R, s, m, args, below, meth, c, A, cells, slots, Q⟩ := X
  obtain ⟨hx, hb, hml, hown, hts, hK, hS0, hg, hA, hfr, hlo, hce, hsl⟩ := hX
  intro H locs ls hP hS hl
  exact lv_irem hx hb d hy (k H locs ls hP hS hl)
theorem z_irem {G : zG} {X : zX} {w : zW} {cc : ByteArray} {nL : Nat} {own : String} {h0 : Nat} {L : List (Option Value)} {st : List Value} {ρ : Type} {r : ρ} {x y : Int32} {E : Option ρ} (pc : Nat) (hX : zOk G X cc nL own h0) (d : decode cc pc = .ok (.irem, 1)) (h : zguard (decide (¬ y = 0)) E = some r) (k : E = some r → zZ G X w (pc + 1) L (.int (x - x / y * y) :: st)) : zZ G X w pc L (.int y :: .int x :: st) := by
  obtain ⟨hy, h⟩ := zite_some h
  exact z_iremc pc hX d (of_decide_eq_true hy) (k h)
theorem z_dup {G : zG} {X : zX} {w : zW} {cc : ByteArray} {nL : Nat} {own : String} {h0 : Nat} {L : List (Option Value)} {st : List Value} {v : Value} (pc : Nat) (hX : zOk G X cc nL own h0) (d : decode cc pc = .ok (.dup, 1)) (hv : v.category = 1) (k : zZ G X w (pc + 1) L (v :: v :: st)) : zZ G X w pc L (v :: st) := by
  obtain ⟨p, l, e, R, s, m, args, below, meth, c, A, cells, slots, Q⟩ := X
  obtain ⟨hx, hb, hml, hown, hts, hK, hS0, hg, hA, hfr, hlo, hce, hsl⟩ := hX
  intro H locs ls hP hS hl
  exact lv_dup hx hb d hv (k H locs ls hP hS hl)
theorem z_dup2 {G : zG} {X : zX} {w : zW} {cc : ByteArray} {nL : Nat} {own : String} {h0 : Nat} {L : List (Option Value)} {st : List Value} {v u : Value} (pc : Nat) (hX : zOk G X cc nL own h0) (d : decode cc pc = .ok (.dup2, 1)) (hv : v.category = 1) (hu : u.category = 1) (k : zZ G X w (pc + 1) L (v :: u :: v :: u :: st)) : zZ G X w pc L (v :: u :: st) := by
  obtain ⟨p, l, e, R, s, m, args, below, meth, c, A, cells, slots, Q⟩ := X
  obtain ⟨hx, hb, hml, hown, hts, hK, hS0, hg, hA, hfr, hlo, hce, hsl⟩ := hX
  intro H locs ls hP hS hl
  exact lv_dup2_11 hx hb d hv hu (k H locs ls hP hS hl)
theorem z_pop {G : zG} {X : zX} {w : zW} {cc : ByteArray} {nL : Nat} {own : String} {h0 : Nat} {L : List (Option Value)} {st : List Value} {v : Value} (pc : Nat) (hX : zOk G X cc nL own h0) (d : decode cc pc = .ok (.pop, 1)) (hv : v.category = 1) (k : zZ G X w (pc + 1) L st) : zZ G X w pc L (v :: st) := by
  obtain ⟨p, l, e, R, s, m, args, below, meth, c, A, cells, slots, Q⟩ := X
  obtain ⟨hx, hb, hml, hown, hts, hK, hS0, hg, hA, hfr, hlo, hce, hsl⟩ := hX
  intro H locs ls hP hS hl
  exact lv_pop hx hb d hv (k H locs ls hP hS hl)
theorem z_goto {G : zG} {X : zX} {w : zW} {cc : ByteArray} {nL : Nat} {own : String} {h0 : Nat} {L : List (Option Value)} {st : List Value} {off : Int} (pc tgt : Nat) (hX : zOk G X cc nL own h0) (d : decode cc pc = .ok (.goto off, 3)) (ht : (pc : Int) + off = (tgt : Int)) (k : zZ G X w tgt L st) : zZ G X w pc L st := by
  obtain ⟨p, l, e, R, s, m, args, below, meth, c, A, cells, slots, Q⟩ := X
  obtain ⟨hx, hb, hml, hown, hts, hK, hS0, hg, hA, hfr, hlo, hce, hsl⟩ := hX
  intro H locs ls hP hS hl
  exact lv_goto hx hb d ht (k H locs ls hP hS hl)
theorem z_icmp_eq {G : zG} {X : zX} {w : zW} {cc : ByteArray} {nL : Nat} {own : String} {h0 : Nat} {L : List (Option Value)} {st : List Value} {x y : Int32} {ρ : Type} {r : ρ} {inst : Decidable (x = y)} {E1 E2 : Option ρ} {off : Int} (pc tgt : Nat) (hX : zOk G X cc nL own h0) (d : decode cc pc = .ok (.if_icmp .eq off, 3)) (ht : (pc : Int) + off = (tgt : Int)) (h : @ite _ (x = y) inst E1 E2 = some r) (kt : x = y → E1 = some r → zZ G X w tgt L st) (kf : ¬ x = y → E2 = some r → zZ G X w (pc + 3) L st) : zZ G X w pc L (.int y :: .int x :: st) := by
  obtain ⟨p, l, e, R, s, m, args, below, meth, c, A, cells, slots, Q⟩ := X
  obtain ⟨hx, hb, hml, hown, hts, hK, hS0, hg, hA, hfr, hlo, hce, hsl⟩ := hX
  intro H locs ls hP hS hl
  exact lv_icmp_eq hx hb d ht (fun q => kt q (zpos h q) H locs ls hP hS hl) (fun q => kf q (zneg h q) H locs ls hP hS hl)
theorem z_icmp_ne {G : zG} {X : zX} {w : zW} {cc : ByteArray} {nL : Nat} {own : String} {h0 : Nat} {L : List (Option Value)} {st : List Value} {x y : Int32} {ρ : Type} {r : ρ} {inst : Decidable (x = y)} {E1 E2 : Option ρ} {off : Int} (pc tgt : Nat) (hX : zOk G X cc nL own h0) (d : decode cc pc = .ok (.if_icmp .ne off, 3)) (ht : (pc : Int) + off = (tgt : Int)) (h : @ite _ (x = y) inst E1 E2 = some r) (kt : ¬ x = y → E2 = some r → zZ G X w tgt L st) (kf : x = y → E1 = some r → zZ G X w (pc + 3) L st) : zZ G X w pc L (.int y :: .int x :: st) := by
  obtain ⟨p, l, e, R, s, m, args, below, meth, c, A, cells, slots, Q⟩ := X
  obtain ⟨hx, hb, hml, hown, hts, hK, hS0, hg, hA, hfr, hlo, hce, hsl⟩ := hX
  intro H locs ls hP hS hl
  exact lv_icmp_ne hx hb d ht (fun q => kt q (zneg h q) H locs ls hP hS hl) (fun q => kf q (zpos h q) H locs ls hP hS hl)
theorem z_icmp_lt {G : zG} {X : zX} {w : zW} {cc : ByteArray} {nL : Nat} {own : String} {h0 : Nat} {L : List (Option Value)} {st : List Value} {x y : Int32} {ρ : Type} {r : ρ} {inst : Decidable (x < y)} {E1 E2 : Option ρ} {off : Int} (pc tgt : Nat) (hX : zOk G X cc nL own h0) (d : decode cc pc = .ok (.if_icmp .lt off, 3)) (ht : (pc : Int) + off = (tgt : Int)) (h : @ite _ (x < y) inst E1 E2 = some r) (kt : x < y → E1 = some r → zZ G X w tgt L st) (kf : ¬ x < y → E2 = some r → zZ G X w (pc + 3) L st) : zZ G X w pc L (.int y :: .int x :: st) := by
  obtain ⟨p, l, e, R, s, m, args, below, meth, c, A, cells, slots, Q⟩ := X
  obtain ⟨hx, hb, hml, hown, hts, hK, hS0, hg, hA, hfr, hlo, hce, hsl⟩ := hX
  intro H locs ls hP hS hl
  exact lv_icmp_lt hx hb d ht (fun q => kt q (zpos h q) H locs ls hP hS hl) (fun q => kf q (zneg h q) H locs ls hP hS hl)
theorem z_icmp_ge {G : zG} {X : zX} {w : zW} {cc : ByteArray} {nL : Nat} {own : String} {h0 : Nat} {L : List (Option Value)} {st : List Value} {x y : Int32} {ρ : Type} {r : ρ} {inst : Decidable (x < y)} {E1 E2 : Option ρ} {off : Int} (pc tgt : Nat) (hX : zOk G X cc nL own h0) (d : decode cc pc = .ok (.if_icmp .ge off, 3)) (ht : (pc : Int) + off = (tgt : Int)) (h : @ite _ (x < y) inst E1 E2 = some r) (kt : ¬ x < y → E2 = some r → zZ G X w tgt L st) (kf : x < y → E1 = some r → zZ G X w (pc + 3) L st) : zZ G X w pc L (.int y :: .int x :: st) := by
  obtain ⟨p, l, e, R, s, m, args, below, meth, c, A, cells, slots, Q⟩ := X
  obtain ⟨hx, hb, hml, hown, hts, hK, hS0, hg, hA, hfr, hlo, hce, hsl⟩ := hX
  intro H locs ls hP hS hl
  refine lv_icmp_ge hx hb d ht (fun q => ?_) (fun q => ?_)
  · have q : ¬ x < y := Int32.not_lt.mpr q
    exact kt q (zneg h q) H locs ls hP hS hl
  · have q : x < y := Int32.not_le.mp q
    exact kf q (zpos h q) H locs ls hP hS hl
theorem z_icmp_gt {G : zG} {X : zX} {w : zW} {cc : ByteArray} {nL : Nat} {own : String} {h0 : Nat} {L : List (Option Value)} {st : List Value} {x y : Int32} {ρ : Type} {r : ρ} {inst : Decidable (y < x)} {E1 E2 : Option ρ} {off : Int} (pc tgt : Nat) (hX : zOk G X cc nL own h0) (d : decode cc pc = .ok (.if_icmp .gt off, 3)) (ht : (pc : Int) + off = (tgt : Int)) (h : @ite _ (y < x) inst E1 E2 = some r) (kt : y < x → E1 = some r → zZ G X w tgt L st) (kf : ¬ y < x → E2 = some r → zZ G X w (pc + 3) L st) : zZ G X w pc L (.int y :: .int x :: st) := by
  obtain ⟨p, l, e, R, s, m, args, below, meth, c, A, cells, slots, Q⟩ := X
  obtain ⟨hx, hb, hml, hown, hts, hK, hS0, hg, hA, hfr, hlo, hce, hsl⟩ := hX
  intro H locs ls hP hS hl
  exact lv_icmp_gt hx hb d ht (fun q => kt q (zpos h q) H locs ls hP hS hl) (fun q => kf q (zneg h q) H locs ls hP hS hl)
theorem z_icmp_le {G : zG} {X : zX} {w : zW} {cc : ByteArray} {nL : Nat} {own : String} {h0 : Nat} {L : List (Option Value)} {st : List Value} {x y : Int32} {ρ : Type} {r : ρ} {inst : Decidable (y < x)} {E1 E2 : Option ρ} {off : Int} (pc tgt : Nat) (hX : zOk G X cc nL own h0) (d : decode cc pc = .ok (.if_icmp .le off, 3)) (ht : (pc : Int) + off = (tgt : Int)) (h : @ite _ (y < x) inst E1 E2 = some r) (kt : ¬ y < x → E2 = some r → zZ G X w tgt L st) (kf : y < x → E1 = some r → zZ G X w (pc + 3) L st) : zZ G X w pc L (.int y :: .int x :: st) := by
  obtain ⟨p, l, e, R, s, m, args, below, meth, c, A, cells, slots, Q⟩ := X
  obtain ⟨hx, hb, hml, hown, hts, hK, hS0, hg, hA, hfr, hlo, hce, hsl⟩ := hX
  intro H locs ls hP hS hl
  refine lv_icmp_le hx hb d ht (fun q => ?_) (fun q => ?_)
  · have q : ¬ y < x := Int32.not_lt.mpr q
    exact kt q (zneg h q) H locs ls hP hS hl
  · have q : y < x := Int32.not_le.mp q
    exact kf q (zpos h q) H locs ls hP hS hl
theorem z_if_eq {G : zG} {X : zX} {w : zW} {cc : ByteArray} {nL : Nat} {own : String} {h0 : Nat} {L : List (Option Value)} {st : List Value} {x : Int32} {ρ : Type} {r : ρ} {inst : Decidable (x = nI 0)} {E1 E2 : Option ρ} {off : Int} (pc tgt : Nat) (hX : zOk G X cc nL own h0) (d : decode cc pc = .ok (.ifCond .eq off, 3)) (ht : (pc : Int) + off = (tgt : Int)) (h : @ite _ (x = nI 0) inst E1 E2 = some r) (kt : x = nI 0 → E1 = some r → zZ G X w tgt L st) (kf : ¬ x = nI 0 → E2 = some r → zZ G X w (pc + 3) L st) : zZ G X w pc L (.int x :: st) := by
  obtain ⟨p, l, e, R, s, m, args, below, meth, c, A, cells, slots, Q⟩ := X
  obtain ⟨hx, hb, hml, hown, hts, hK, hS0, hg, hA, hfr, hlo, hce, hsl⟩ := hX
  intro H locs ls hP hS hl
  exact lv_if_eq hx hb d ht (fun q => kt q (zpos h q) H locs ls hP hS hl) (fun q => kf q (zneg h q) H locs ls hP hS hl)
theorem z_if_ne {G : zG} {X : zX} {w : zW} {cc : ByteArray} {nL : Nat} {own : String} {h0 : Nat} {L : List (Option Value)} {st : List Value} {x : Int32} {ρ : Type} {r : ρ} {inst : Decidable (x = nI 0)} {E1 E2 : Option ρ} {off : Int} (pc tgt : Nat) (hX : zOk G X cc nL own h0) (d : decode cc pc = .ok (.ifCond .ne off, 3)) (ht : (pc : Int) + off = (tgt : Int)) (h : @ite _ (x = nI 0) inst E1 E2 = some r) (kt : ¬ x = nI 0 → E2 = some r → zZ G X w tgt L st) (kf : x = nI 0 → E1 = some r → zZ G X w (pc + 3) L st) : zZ G X w pc L (.int x :: st) := by
  obtain ⟨p, l, e, R, s, m, args, below, meth, c, A, cells, slots, Q⟩ := X
  obtain ⟨hx, hb, hml, hown, hts, hK, hS0, hg, hA, hfr, hlo, hce, hsl⟩ := hX
  intro H locs ls hP hS hl
  exact lv_if_ne hx hb d ht (fun q => kt q (zneg h q) H locs ls hP hS hl) (fun q => kf q (zpos h q) H locs ls hP hS hl)
theorem z_if_lt {G : zG} {X : zX} {w : zW} {cc : ByteArray} {nL : Nat} {own : String} {h0 : Nat} {L : List (Option Value)} {st : List Value} {x : Int32} {ρ : Type} {r : ρ} {inst : Decidable (x < nI 0)} {E1 E2 : Option ρ} {off : Int} (pc tgt : Nat) (hX : zOk G X cc nL own h0) (d : decode cc pc = .ok (.ifCond .lt off, 3)) (ht : (pc : Int) + off = (tgt : Int)) (h : @ite _ (x < nI 0) inst E1 E2 = some r) (kt : x < nI 0 → E1 = some r → zZ G X w tgt L st) (kf : ¬ x < nI 0 → E2 = some r → zZ G X w (pc + 3) L st) : zZ G X w pc L (.int x :: st) := by
  obtain ⟨p, l, e, R, s, m, args, below, meth, c, A, cells, slots, Q⟩ := X
  obtain ⟨hx, hb, hml, hown, hts, hK, hS0, hg, hA, hfr, hlo, hce, hsl⟩ := hX
  intro H locs ls hP hS hl
  exact lv_if_lt hx hb d ht (fun q => kt q (zpos h q) H locs ls hP hS hl) (fun q => kf q (zneg h q) H locs ls hP hS hl)
theorem z_if_ge {G : zG} {X : zX} {w : zW} {cc : ByteArray} {nL : Nat} {own : String} {h0 : Nat} {L : List (Option Value)} {st : List Value} {x : Int32} {ρ : Type} {r : ρ} {inst : Decidable (x < nI 0)} {E1 E2 : Option ρ} {off : Int} (pc tgt : Nat) (hX : zOk G X cc nL own h0) (d : decode cc pc = .ok (.ifCond .ge off, 3)) (ht : (pc : Int) + off = (tgt : Int)) (h : @ite _ (x < nI 0) inst E1 E2 = some r) (kt : ¬ x < nI 0 → E2 = some r → zZ G X w tgt L st) (kf : x < nI 0 → E1 = some r → zZ G X w (pc + 3) L st) : zZ G X w pc L (.int x :: st) := by
  obtain ⟨p, l, e, R, s, m, args, below, meth, c, A, cells, slots, Q⟩ := X
  obtain ⟨hx, hb, hml, hown, hts, hK, hS0, hg, hA, hfr, hlo, hce, hsl⟩ := hX
  intro H locs ls hP hS hl
  refine lv_if_ge hx hb d ht (fun q => ?_) (fun q => ?_)
  · have q : ¬ x < nI 0 := Int32.not_lt.mpr q
    exact kt q (zneg h q) H locs ls hP hS hl
  · have q : x < nI 0 := Int32.not_le.mp q
    exact kf q (zpos h q) H locs ls hP hS hl
theorem z_if_gt {G : zG} {X : zX} {w : zW} {cc : ByteArray} {nL : Nat} {own : String} {h0 : Nat} {L : List (Option Value)} {st : List Value} {x : Int32} {ρ : Type} {r : ρ} {inst : Decidable (nI 0 < x)} {E1 E2 : Option ρ} {off : Int} (pc tgt : Nat) (hX : zOk G X cc nL own h0) (d : decode cc pc = .ok (.ifCond .gt off, 3)) (ht : (pc : Int) + off = (tgt : Int)) (h : @ite _ (nI 0 < x) inst E1 E2 = some r) (kt : nI 0 < x → E1 = some r → zZ G X w tgt L st) (kf : ¬ nI 0 < x → E2 = some r → zZ G X w (pc + 3) L st) : zZ G X w pc L (.int x :: st) := by
  obtain ⟨p, l, e, R, s, m, args, below, meth, c, A, cells, slots, Q⟩ := X
  obtain ⟨hx, hb, hml, hown, hts, hK, hS0, hg, hA, hfr, hlo, hce, hsl⟩ := hX
  intro H locs ls hP hS hl
  exact lv_if_gt hx hb d ht (fun q => kt q (zpos h q) H locs ls hP hS hl) (fun q => kf q (zneg h q) H locs ls hP hS hl)
theorem z_if_le {G : zG} {X : zX} {w : zW} {cc : ByteArray} {nL : Nat} {own : String} {h0 : Nat} {L : List (Option Value)} {st : List Value} {x : Int32} {ρ : Type} {r : ρ} {inst : Decidable (nI 0 < x)} {E1 E2 : Option ρ} {off : Int} (pc tgt : Nat) (hX : zOk G X cc nL own h0) (d : decode cc pc = .ok (.ifCond .le off, 3)) (ht : (pc : Int) + off = (tgt : Int)) (h : @ite _ (nI 0 < x) inst E1 E2 = some r) (kt : ¬ nI 0 < x → E2 = some r → zZ G X w tgt L st) (kf : nI 0 < x → E1 = some r → zZ G X w (pc + 3) L st) : zZ G X w pc L (.int x :: st) := by
  obtain ⟨p, l, e, R, s, m, args, below, meth, c, A, cells, slots, Q⟩ := X
  obtain ⟨hx, hb, hml, hown, hts, hK, hS0, hg, hA, hfr, hlo, hce, hsl⟩ := hX
  intro H locs ls hP hS hl
  refine lv_if_le hx hb d ht (fun q => ?_) (fun q => ?_)
  · have q : ¬ nI 0 < x := Int32.not_lt.mpr q
    exact kt q (zneg h q) H locs ls hP hS hl
  · have q : nI 0 < x := Int32.not_le.mp q
    exact kf q (zpos h q) H locs ls hP hS hl
theorem z_istore {G : zG} {X : zX} {w : zW} {cc : ByteArray} {nL : Nat} {own : String} {h0 : Nat} {L : List (Option Value)} {st : List Value} {i : Nat} {x : Int32} (pc : Nat) (L1 : List (Option Value)) (hX : zOk G X cc nL own h0) (d : decode cc pc = .ok (.istore i, 2)) (hn : i < L.length) (h2 : zno2 L i = true) (hL : L.set i (some (.int x)) = L1) (k : zZ G X w (pc + 2) L1 st) : zZ G X w pc L (.int x :: st) := by
  subst hL
  obtain ⟨p, l, e, R, s, m, args, below, meth, c, A, cells, slots, Q⟩ := X
  obtain ⟨hx, hb, hml, hown, hts, hK, hS0, hg, hA, hfr, hlo, hce, hsl⟩ := hX
  intro H locs ls hP hS hl
  exact lv_istore hx hb d hl.toLv hn rfl (fun ls2 h3 => k H locs ls2 hP hS (hl.store h2 h3))
theorem z_istore_n {G : zG} {X : zX} {w : zW} {cc : ByteArray} {nL : Nat} {own : String} {h0 : Nat} {L : List (Option Value)} {st : List Value} {j : Fin 4} {x : Int32} (pc : Nat) (L1 : List (Option Value)) (hX : zOk G X cc nL own h0) (d : decode cc pc = .ok (.istore_n j, 1)) (hn : (j : Nat) < L.length) (h2 : zno2 L (j : Nat) = true) (hL : L.set (j : Nat) (some (.int x)) = L1) (k : zZ G X w (pc + 1) L1 st) : zZ G X w pc L (.int x :: st) := by
  subst hL
  obtain ⟨p, l, e, R, s, m, args, below, meth, c, A, cells, slots, Q⟩ := X
  obtain ⟨hx, hb, hml, hown, hts, hK, hS0, hg, hA, hfr, hlo, hce, hsl⟩ := hX
  intro H locs ls hP hS hl
  exact lv_istore_n hx hb d rfl hl.toLv hn rfl (fun ls2 h3 => k H locs ls2 hP hS (hl.store h2 h3))
theorem z_astore {G : zG} {X : zX} {w : zW} {cc : ByteArray} {nL : Nat} {own : String} {h0 : Nat} {L : List (Option Value)} {st : List Value} {i : Nat} {x : Nat} (pc : Nat) (L1 : List (Option Value)) (hX : zOk G X cc nL own h0) (d : decode cc pc = .ok (.astore i, 2)) (hn : i < L.length) (h2 : zno2 L i = true) (hL : L.set i (some (.ref x)) = L1) (k : zZ G X w (pc + 2) L1 st) : zZ G X w pc L (.ref x :: st) := by
  subst hL
  obtain ⟨p, l, e, R, s, m, args, below, meth, c, A, cells, slots, Q⟩ := X
  obtain ⟨hx, hb, hml, hown, hts, hK, hS0, hg, hA, hfr, hlo, hce, hsl⟩ := hX
  intro H locs ls hP hS hl
  exact lv_astore hx hb d hl.toLv hn rfl (fun ls2 h3 => k H locs ls2 hP hS (hl.store h2 h3))
theorem z_astore_n {G : zG} {X : zX} {w : zW} {cc : ByteArray} {nL : Nat} {own : String} {h0 : Nat} {L : List (Option Value)} {st : List Value} {j : Fin 4} {x : Nat} (pc : Nat) (L1 : List (Option Value)) (hX : zOk G X cc nL own h0) (d : decode cc pc = .ok (.astore_n j, 1)) (hn : (j : Nat) < L.length) (h2 : zno2 L (j : Nat) = true) (hL : L.set (j : Nat) (some (.ref x)) = L1) (k : zZ G X w (pc + 1) L1 st) : zZ G X w pc L (.ref x :: st) := by
  subst hL
  obtain ⟨p, l, e, R, s, m, args, below, meth, c, A, cells, slots, Q⟩ := X
  obtain ⟨hx, hb, hml, hown, hts, hK, hS0, hg, hA, hfr, hlo, hce, hsl⟩ := hX
  intro H locs ls hP hS hl
  exact lv_astore_n hx hb d rfl hl.toLv hn rfl (fun ls2 h3 => k H locs ls2 hP hS (hl.store h2 h3))
theorem z_iinc {G : zG} {X : zX} {w : zW} {cc : ByteArray} {nL : Nat} {own : String} {h0 : Nat} {L : List (Option Value)} {st : List Value} {i : Nat} {n : Int} {x v : Int32} (pc : Nat) (L1 : List (Option Value)) (hX : zOk G X cc nL own h0) (d : decode cc pc = .ok (.iinc i n, 3)) (hi : L[i]? = some (some (.int x))) (hv : Int32.ofInt n = v) (h2 : zno2 L i = true) (hL : L.set i (some (.int (x + v))) = L1) (k : zZ G X w (pc + 3) L1 st) : zZ G X w pc L st := by
  subst hL
  subst hv
  obtain ⟨p, l, e, R, s, m, args, below, meth, c, A, cells, slots, Q⟩ := X
  obtain ⟨hx, hb, hml, hown, hts, hK, hS0, hg, hA, hfr, hlo, hce, hsl⟩ := hX
  intro H locs ls hP hS hl
  have hn : i < L.length := (List.getElem?_eq_some_iff.mp hi).1
  have hm : (i, Value.int x) ∈ zls L := List.mem_filterMap.mpr ⟨i, List.mem_range.mpr hn, by rw [hi]⟩
  obtain ⟨q, hq⟩ := List.getElem?_of_mem hm
  exact lv_iinc hx hb d hl.toLv hq rfl hn rfl (fun ls2 h3 => k H locs ls2 hP hS (hl.store h2 h3))
theorem z_tsIn {G : zG} {X : zX} {w : zW} {cc : ByteArray} {nL : Nat} {own : String} {h0 : Nat} {L : List (Option Value)} {st : List Value} {dflt lo hi : Int} {offs : Array Int} {len : Nat} {x : Int32} {off : Int} (pc tgt : Nat) (v : Int) (hX : zOk G X cc nL own h0) (d : decode cc pc = .ok (.tableswitch dflt lo hi offs, len)) (hx0 : x.toInt = v) (h1 : ¬ v < lo) (h2 : ¬ hi < v) (ho : offs[(v - lo).toNat]? = some off) (ht : (pc : Int) + off = (tgt : Int)) (k : zZ G X w tgt L st) : zZ G X w pc L (.int x :: st) := by
  subst hx0
  obtain ⟨p, l, e, R, s, m, args, below, meth, c, A, cells, slots, Q⟩ := X
  obtain ⟨hx, hb, hml, hown, hts, hK, hS0, hg, hA, hfr, hlo, hce, hsl⟩ := hX
  intro H locs ls hP hS hl
  exact lv_tableIn hx hb d h1 h2 ho ht (k H locs ls hP hS hl)
theorem z_tsOut {G : zG} {X : zX} {w : zW} {cc : ByteArray} {nL : Nat} {own : String} {h0 : Nat} {L : List (Option Value)} {st : List Value} {dflt lo hi : Int} {offs : Array Int} {len : Nat} {x : Int32} (pc tgt : Nat) (hX : zOk G X cc nL own h0) (d : decode cc pc = .ok (.tableswitch dflt lo hi offs, len)) (h : x.toInt < lo ∨ hi < x.toInt) (ht : (pc : Int) + dflt = (tgt : Int)) (k : zZ G X w tgt L st) : zZ G X w pc L (.int x :: st) := by
  obtain ⟨p, l, e, R, s, m, args, below, meth, c, A, cells, slots, Q⟩ := X
  obtain ⟨hx, hb, hml, hown, hts, hK, hS0, hg, hA, hfr, hlo, hce, hsl⟩ := hX
  intro H locs ls hP hS hl
  exact lv_tableOut hx hb d h ht (k H locs ls hP hS hl)
theorem z_lsw {G : zG} {X : zX} {w : zW} {cc : ByteArray} {nL : Nat} {own : String} {h0 : Nat} {L : List (Option Value)} {st : List Value} {dflt : Int} {ps : Array (Int × Int)} {len : Nat} {x : Int32} {off : Int} (pc tgt : Nat) (hX : zOk G X cc nL own h0) (d : decode cc pc = .ok (.lookupswitch dflt ps, len)) (hp : (ps.toList.zip (ps.toList.drop 1)).all (fun (a, next) => a.1 < next.1) = true) (ho : Op.lookupswitch.offset ps.toList dflt x.toInt = off) (ht : (pc : Int) + off = (tgt : Int)) (k : zZ G X w tgt L st) : zZ G X w pc L (.int x :: st) := by
  obtain ⟨p, l, e, R, s, m, args, below, meth, c, A, cells, slots, Q⟩ := X
  obtain ⟨hx, hb, hml, hown, hts, hK, hS0, hg, hA, hfr, hlo, hce, hsl⟩ := hX
  intro H locs ls hP hS hl
  exact lv_lookup hx hb d hp ho ht (k H locs ls hP hS hl)
theorem z_get {G : zG} {X : zX} {w : zW} {cc : ByteArray} {nL : Nat} {own : String} {h0 : Nat} {L : List (Option Value)} {st : List Value} {ref n ds C : String} {T : u_T} {N t idx a : Nat} {v : Value} (pc : Nat) (j : Nat) (hX : zOk G X cc nL own h0) (d : decode cc pc = .ok (.getfield idx, 3)) (hs : shp a = (t, 0)) (ht : t < 20) (hc : zclasses[t]? = some (C, T, N)) (hi : ∀ q ∈ u_ws C T N, q ∈ WS) (hj : j < N) (hlink : Cond.fieldLink own idx ref (T j).2.1 (T j).2.2.1 ∈ WS) (href : (T j).1 = ref) (hv : (zfs G (w a) a t)[j]? = some v) (k : zZ G X w (pc + 3) L (v :: st)) : zZ G X w pc L (.ref (zα G a) :: st) := by
  obtain ⟨p, l, e, R, s, m, args, below, meth, c, A, cells, slots, Q⟩ := X
  obtain ⟨hx, hb, hml, hown, hts, hK, hS0, hg, hA, hfr, hlo, hce, hsl⟩ := hX
  intro H locs ls hP hS hl
  have he : (zP G w)[a]? = some (zα G a, .inr (t, zfs G (w a) a t)) := by rw [zP_at G w (shp_lt hs (by omega)), zcell_o G (w a) hs ht]
  exact va_get hx hb hts hi hown hK hP a he hc j hj (hts _ hlink) (fun q hq => by rw [← href]; exact hq) hv d (k H locs ls hP hS hl)
theorem z_put {G : zG} {X : zX} {w : zW} {cc : ByteArray} {nL : Nat} {own : String} {h0 : Nat} {L : List (Option Value)} {st : List Value} {ref n ds C : String} {T : u_T} {N t idx a : Nat} {v : Value} {ty : FieldType} {f : Nat → Int32} (tyf : Nat → FieldType) (pc : Nat) (j : Nat) (hX : zOk G X cc nL own h0) (d : decode cc pc = .ok (.putfield idx, 3)) (hs : shp a = (t, 0)) (ht : t < 20) (hc : zclasses[t]? = some (C, T, N)) (hi : ∀ q ∈ u_ws C T N, q ∈ WS) (hty : ∀ k, k < N → parseFieldDescriptor (T k).2.2.1 = some (tyf k)) (hnm : ∀ a, a < N → ∀ b, b < N → a ≠ b → (T a).2.1 ≠ (T b).2.1) (hj : j < N) (hlink : Cond.fieldLink own idx ref (T j).2.1 (T j).2.2.1 ∈ WS) (href : (T j).1 = ref) (hfin : (T j).2.2.2 = false) (hd : parseFieldDescriptor (T j).2.2.1 = some ty) (hn : narrow ty v = v) (hfit : fits ty v = true) (hlen : (zfs G (w a) a t).length = N) (hv : zfs G f a t = (zfs G (w a) a t).set j v) (k : zZ G X (zset w a f) (pc + 3) L st) : zZ G X w pc L (v :: .ref (zα G a) :: st) := by
  obtain ⟨p, l, e, R, s, m, args, below, meth, c, A, cells, slots, Q⟩ := X
  obtain ⟨hx, hb, hml, hown, hts, hK, hS0, hg, hA, hfr, hlo, hce, hsl⟩ := hX
  intro H locs ls hP hS hl
  have ha : a < zNC := shp_lt hs (by omega)
  have he : (zP G w)[a]? = some (zα G a, .inr (t, zfs G (w a) a t)) := by rw [zP_at G w ha, zcell_o G (w a) hs ht]
  have hset : (zP G w).set a (zα G a, .inr (t, (zfs G (w a) a t).set j v)) = zP G (zset w a f) := zP_set G w ha f _ (by rw [zcell_o G f hs ht, hv])
  refine va_put hx hb hts hi tyf hty hnm hown hK hP (zD_of hg hA w) hS a he hc j hj (hts _ hlink) (fun q hq => by rw [← href]; exact hq) hfin hd hn hfit (by rw [hlen]; exact hj) d (fun H1 locs1 hP1 hD1 hS1 => ?_)
  rw [hset] at hP1
  exact k H1 locs1 ls hP1 hS1 hl
theorem z_iald {G : zG} {X : zX} {w : zW} {cc : ByteArray} {nL : Nat} {own : String} {h0 : Nat} {L : List (Option Value)} {st : List Value} {ρ : Type} {r : ρ} {a n : Nat} {i : Int32} {f : Int32 → Option ρ} (pc : Nat) (hX : zOk G X cc nL own h0) (d : decode cc pc = .ok (.iaload, 1)) (hs : shp a = (20, n)) (h : zld w a n i f = some r) (k : ∀ v : Int32, zin i n = true → f v = some r → zZ G X w (pc + 1) L (.int v :: st)) : zZ G X w pc L (.int i :: .ref (zα G a) :: st) := by
  obtain ⟨hin, h⟩ := zite_some h
  obtain ⟨p, l, e, R, s, m, args, below, meth, c, A, cells, slots, Q⟩ := X
  obtain ⟨hx, hb, hml, hown, hts, hK, hS0, hg, hA, hfr, hlo, hce, hsl⟩ := hX
  intro H locs ls hP hS hl
  have he : (zP G w)[a]? = some (zα G a, .inl (zcl G 0, n, .inl (w a))) := by rw [zP_at G w (shp_lt hs (by decide)), zcell_i G (w a) hs]
  exact va_iald hx hb hK hP a 0 he rfl (zin_vp hin) d (k _ hin h H locs ls hP hS hl)
theorem z_ialdc {G : zG} {X : zX} {w : zW} {cc : ByteArray} {nL : Nat} {own : String} {h0 : Nat} {L : List (Option Value)} {st : List Value} {a n j : Nat} {i : Int32} (pc : Nat) (hX : zOk G X cc nL own h0) (d : decode cc pc = .ok (.iaload, 1)) (hs : shp a = (20, n)) (hin : zin i n = true) (hj : i.toNatClampNeg = j) (k : zZ G X w (pc + 1) L (.int (w a j) :: st)) : zZ G X w pc L (.int i :: .ref (zα G a) :: st) := by
  subst hj
  obtain ⟨p, l, e, R, s, m, args, below, meth, c, A, cells, slots, Q⟩ := X
  obtain ⟨hx, hb, hml, hown, hts, hK, hS0, hg, hA, hfr, hlo, hce, hsl⟩ := hX
  intro H locs ls hP hS hl
  have he : (zP G w)[a]? = some (zα G a, .inl (zcl G 0, n, .inl (w a))) := by rw [zP_at G w (shp_lt hs (by decide)), zcell_i G (w a) hs]
  exact va_iald hx hb hK hP a 0 he rfl (zin_vp hin) d (k H locs ls hP hS hl)
theorem z_iastc {G : zG} {X : zX} {w : zW} {cc : ByteArray} {nL : Nat} {own : String} {h0 : Nat} {L : List (Option Value)} {st : List Value} {a n j : Nat} {i x : Int32} (pc : Nat) (hX : zOk G X cc nL own h0) (d : decode cc pc = .ok (.iastore, 1)) (hs : shp a = (20, n)) (hin : zin i n = true) (hj : i.toNatClampNeg = j) (k : zZ G X (zupd w a j x) (pc + 1) L st) : zZ G X w pc L (.int x :: .int i :: .ref (zα G a) :: st) := by
  subst hj
  obtain ⟨p, l, e, R, s, m, args, below, meth, c, A, cells, slots, Q⟩ := X
  obtain ⟨hx, hb, hml, hown, hts, hK, hS0, hg, hA, hfr, hlo, hce, hsl⟩ := hX
  intro H locs ls hP hS hl
  have ha : a < zNC := shp_lt hs (by decide)
  have he : (zP G w)[a]? = some (zα G a, .inl (zcl G 0, n, .inl (w a))) := by rw [zP_at G w ha, zcell_i G (w a) hs]
  refine va_iast hx hb hK hP (zD_of hg hA w) hS a 0 he rfl (zin_vp hin) d (fun H1 locs1 hP1 hD1 hS1 => ?_)
  rw [zP_set G w ha (upd (w a) i.toNatClampNeg x) _ (zcell_i G _ hs)] at hP1
  exact k H1 locs1 ls hP1 hS1 hl
theorem z_iast {G : zG} {X : zX} {w : zW} {cc : ByteArray} {nL : Nat} {own : String} {h0 : Nat} {L : List (Option Value)} {st : List Value} {ρ : Type} {r : ρ} {a n : Nat} {i x : Int32} {f : zW → Option ρ} (pc : Nat) (hX : zOk G X cc nL own h0) (d : decode cc pc = .ok (.iastore, 1)) (hs : shp a = (20, n)) (h : zsto w a n i x f = some r) (k : ∀ w1 : zW, f w1 = some r → zZ G X w1 (pc + 1) L st) : zZ G X w pc L (.int x :: .int i :: .ref (zα G a) :: st) := by
  obtain ⟨hin, h⟩ := zite_some h
  exact z_iastc pc hX d hs hin rfl (k _ h)
theorem z_w {G : zG} {X : zX} {ρ : Type} {r : ρ} {w1 : zW} {f : zW → Option ρ} {pc : Nat} {L : List (Option Value)} {st : List Value} (h : zlet w1 f = some r) (k : ∀ w2 : zW, f w2 = some r → zZ G X w2 pc L st) : zZ G X w1 pc L st := k w1 h
theorem z_i {ρ : Type} {r : ρ} {x : Int32} {f : Int32 → Option ρ} {C : Int32 → Prop} (h : zlet x f = some r) (k : ∀ y : Int32, f y = some r → C y) : C x := k x h
theorem z_alen {G : zG} {X : zX} {w : zW} {cc : ByteArray} {nL : Nat} {own : String} {h0 : Nat} {L : List (Option Value)} {st : List Value} {a n : Nat} (pc : Nat) (hX : zOk G X cc nL own h0) (d : decode cc pc = .ok (.arraylength, 1)) (hs : shp a = (20, n)) (k : zZ G X w (pc + 1) L (.int (nI n) :: st)) : zZ G X w pc L (.ref (zα G a) :: st) := by
  obtain ⟨p, l, e, R, s, m, args, below, meth, c, A, cells, slots, Q⟩ := X
  obtain ⟨hx, hb, hml, hown, hts, hK, hS0, hg, hA, hfr, hlo, hce, hsl⟩ := hX
  intro H locs ls hP hS hl
  have he : (zP G w)[a]? = some (zα G a, .inl (zcl G 0, n, .inl (w a))) := by rw [zP_at G w (shp_lt hs (by decide)), zcell_i G (w a) hs]
  exact va_alen hx hb hK hP a 0 he (ty := .int) rfl rfl d (k H locs ls hP hS hl)
theorem z_aald {G : zG} {X : zX} {w : zW} {cc : ByteArray} {nL : Nat} {own : String} {h0 : Nat} {L : List (Option Value)} {st : List Value} {ρ : Type} {r : ρ} {a t n : Nat} {i : Int32} {E : Option ρ} (pc : Nat) (hX : zOk G X cc nL own h0) (d : decode cc pc = .ok (.aaload, 1)) (hs : shp a = (t, n)) (ht : t = 21 ∨ t = 22 ∨ t = 23) (h : zguard (zin i n) E = some r) (k : zin i n = true → E = some r → zZ G X w (pc + 1) L (.ref (zα G (a + zstep t + 2 * i.toNatClampNeg)) :: st)) : zZ G X w pc L (.int i :: .ref (zα G a) :: st) := by
  obtain ⟨hin, h⟩ := zite_some h
  obtain ⟨p, l, e, R, s, m, args, below, meth, c, A, cells, slots, Q⟩ := X
  obtain ⟨hx, hb, hml, hown, hts, hK, hS0, hg, hA, hfr, hlo, hce, hsl⟩ := hX
  intro H locs ls hP hS hl
  have he : (zP G w)[a]? = some (zα G a, .inl (zcl G (t - 20), n, .inr (.inr (.inr (.inr (fun i => some (zα G (a + zstep t + 2 * i)))))))) := by rw [zP_at G w (shp_lt hs (by omega)), zcell_a G (w a) hs (by omega)]
  rcases ht with rfl | rfl | rfl
  · exact va_aldq hx hb hK hP a 1 he (C := RX9) rfl (zin_vp hin) d (k hin h H locs ls hP hS hl)
  · exact va_aldq hx hb hK hP a 2 he (C := RX10) rfl (zin_vp hin) d (k hin h H locs ls hP hS hl)
  · exact va_aldq hx hb hK hP a 3 he (C := RX4) rfl (zin_vp hin) d (k hin h H locs ls hP hS hl)
theorem z_gets {G : zG} {X : zX} {w : zW} {cc : ByteArray} {nL : Nat} {own : String} {h0 : Nat} {L : List (Option Value)} {st : List Value} {C n ds : String} {idx : Nat} {v : Value} (pc : Nat) (hX : zOk G X cc nL own h0) (d : decode cc pc = .ok (.getstatic idx, 3)) (hZ : ∀ A U H1, zS G A U H1 → va_Z C n ds v A U H1) (hlink : Cond.fieldLink own idx C n ds ∈ WS ∨ ∃ ho, Cond.fieldLinkNest own idx C n ds ho ∈ WS) (k : zZ G X w (pc + 3) L (v :: st)) : zZ G X w pc L st := by
  obtain ⟨p, l, e, R, s, m, args, below, meth, c, A, cells, slots, Q⟩ := X
  obtain ⟨hx, hb, hml, hown, hts, hK, hS0, hg, hA, hfr, hlo, hce, hsl⟩ := hX
  intro H locs ls hP hS hl
  rcases hlink with hlink | ⟨ho, hlink⟩
  · exact va_gets hx hb (hZ _ _ _ hS0) hS hown (hts _ hlink) (fun q hq => hq) d (k H locs ls hP hS hl)
  · exact va_getsN hx hb (hZ _ _ _ hS0) hS hown (hts _ hlink) (fun q hq => hq) d (k H locs ls hP hS hl)
theorem z_sald {G : zG} {X : zX} {w : zW} {cc : ByteArray} {nL : Nat} {own : String} {h0 : Nat} {L : List (Option Value)} {st : List Value} {ρ : Type} {r : ρ} {t n : Nat} {i : Int32} {f : Int32 → Option ρ} (pc : Nat) (hX : zOk G X cc nL own h0) (d : decode cc pc = .ok (.iaload, 1)) (hT : ∀ A U H1, zS G A U H1 → va_T .int (zsa G t) n (fun j => .int (ztab t j)) A U H1) (h : ztld t n i f = some r) (k : ∀ v : Int32, f v = some r → zZ G X w (pc + 1) L (.int v :: st)) : zZ G X w pc L (.int i :: .ref (zsa G t) :: st) := by
  obtain ⟨hin, h⟩ := zite_some h
  obtain ⟨p, l, e, R, s, m, args, below, meth, c, A, cells, slots, Q⟩ := X
  obtain ⟨hx, hb, hml, hown, hts, hK, hS0, hg, hA, hfr, hlo, hce, hsl⟩ := hX
  intro H locs ls hP hS hl
  exact va_ti hx hb (hT _ _ _ hS0) hS (zin_vp hin) rfl d (k _ h H locs ls hP hS hl)
theorem zSz0 {G : zG} (A : Nat → Prop) (U : State) (H : Heap) (h : zS G A U H) : va_Z "LetterWalls" "ABOVE" "[I" (.ref (zsa G 0)) A U H := h.1
theorem zSt0 {G : zG} (A : Nat → Prop) (U : State) (H : Heap) (h : zS G A U H) : va_T .int (zsa G 0) 7 (fun j => .int (ztab 0 j)) A U H := h.2.1
theorem zSz1 {G : zG} (A : Nat → Prop) (U : State) (H : Heap) (h : zS G A U H) : va_Z "LetterWalls" "LEADS_TO" "[I" (.ref (zsa G 1)) A U H := h.2.2.1
theorem zSt1 {G : zG} (A : Nat → Prop) (U : State) (H : Heap) (h : zS G A U H) : va_T .int (zsa G 1) 5 (fun j => .int (ztab 1 j)) A U H := h.2.2.2.1
theorem zSz2 {G : zG} (A : Nat → Prop) (U : State) (H : Heap) (h : zS G A U H) : va_Z "LetterWalls" "COMES_IN" "[I" (.ref (zsa G 2)) A U H := h.2.2.2.2.1
theorem zSt2 {G : zG} (A : Nat → Prop) (U : State) (H : Heap) (h : zS G A U H) : va_T .int (zsa G 2) 5 (fun j => .int (ztab 2 j)) A U H := h.2.2.2.2.2.1
theorem zSz3 {G : zG} (A : Nat → Prop) (U : State) (H : Heap) (h : zS G A U H) : va_Z "LetterWalls" "BODIES" "[I" (.ref (zsa G 3)) A U H := h.2.2.2.2.2.2.1
theorem zSt3 {G : zG} (A : Nat → Prop) (U : State) (H : Heap) (h : zS G A U H) : va_T .int (zsa G 3) 28 (fun j => .int (ztab 3 j)) A U H := h.2.2.2.2.2.2.2.1
theorem z_ldcS {G : zG} {X : zX} {w : zW} {cc : ByteArray} {nL : Nat} {own : String} {h0 : Nat} {L : List (Option Value)} {st : List Value} {tx : String} {q i : Nat} (pc : Nat) (hX : zOk G X cc nL own h0) (d : decode cc pc = .ok (.ldc i, 2)) (hR : ∀ A U H1, zS G A U H1 → vk_R own i tx q U) (k : zZ G X w (pc + 2) L (.ref q :: st)) : zZ G X w pc L st := by
  obtain ⟨p, l, e, R, s, m, args, below, meth, c, A, cells, slots, Q⟩ := X
  obtain ⟨hx, hb, hml, hown, hts, hK, hS0, hg, hA, hfr, hlo, hce, hsl⟩ := hX
  intro H locs ls hP hS hl
  exact va_ldcS hx hb hown (hR _ _ _ hS0) d (k H locs ls hP hS hl)
theorem z_ifnonnull {G : zG} {X : zX} {w : zW} {cc : ByteArray} {nL : Nat} {own : String} {h0 : Nat} {L : List (Option Value)} {st : List Value} {off : Int} {x : Nat} (pc tgt : Nat) (hX : zOk G X cc nL own h0) (d : decode cc pc = .ok (.ifnonnull off, 3)) (ht : (pc : Int) + off = (tgt : Int)) (k : zZ G X w tgt L st) : zZ G X w pc L (.ref x :: st) := by
  obtain ⟨p, l, e, R, s, m, args, below, meth, c, A, cells, slots, Q⟩ := X
  obtain ⟨hx, hb, hml, hown, hts, hK, hS0, hg, hA, hfr, hlo, hce, hsl⟩ := hX
  intro H locs ls hP hS hl
  exact lv_ifnonnull hx hb d ht (k H locs ls hP hS hl)
theorem z_ifnull {G : zG} {X : zX} {w : zW} {cc : ByteArray} {nL : Nat} {own : String} {h0 : Nat} {L : List (Option Value)} {st : List Value} {off : Int} {x : Nat} (pc : Nat) (hX : zOk G X cc nL own h0) (d : decode cc pc = .ok (.ifnull off, 3)) (k : zZ G X w (pc + 3) L st) : zZ G X w pc L (.ref x :: st) := by
  obtain ⟨p, l, e, R, s, m, args, below, meth, c, A, cells, slots, Q⟩ := X
  obtain ⟨hx, hb, hml, hown, hts, hK, hS0, hg, hA, hfr, hlo, hce, hsl⟩ := hX
  intro H locs ls hP hS hl
  exact lv_ifnull hx hb d (k H locs ls hP hS hl)
theorem z_mmin {G : zG} {X : zX} {w : zW} {cc : ByteArray} {nL : Nat} {own : String} {h0 : Nat} {L : List (Option Value)} {st : List Value} {x y : Int32} {idx : Nat} (pc : Nat) (hX : zOk G X cc nL own h0) (d : decode cc pc = .ok (.invokestatic idx, 3)) (h1 : Cond.methodLink own idx Lib.Math.min.name ∈ WS) (h2 : Cond.static Lib.Math.min.name ∈ WS) (h3 : Cond.initialized "java/lang/Math" ∈ WS) (h4 : Cond.code Lib.Math.min.name Lib.Math.min.code 2 (some .int) ∈ WS) (hn : L.length = nL) (hh : 1 ≤ h0) (hr : (st.map fun v => v.category).sum ≤ 8) (k : zZ G X w (pc + 3) L (.int (if y < x then y else x) :: st)) : zZ G X w pc L (.int y :: .int x :: st) := by
  obtain ⟨p, l, e, R, s, m, args, below, meth, c, A, cells, slots, Q⟩ := X
  obtain ⟨hx, hb, hml, hown, hts, hK, hS0, hg, hA, hfr, hlo, hce, hsl⟩ := hX
  intro H locs ls hP hS hl
  exact va_mmin hx hb (hml.trans (hn.symm.trans hl.1.symm)) hown (hts _ h1) (hts _ h2) (hts _ h3) (hts _ h4) (by omega) (by omega) hce hsl d (k H locs ls hP hS hl)
theorem z_mmax {G : zG} {X : zX} {w : zW} {cc : ByteArray} {nL : Nat} {own : String} {h0 : Nat} {L : List (Option Value)} {st : List Value} {x y : Int32} {idx : Nat} (pc : Nat) (hX : zOk G X cc nL own h0) (d : decode cc pc = .ok (.invokestatic idx, 3)) (h1 : Cond.methodLink own idx Lib.Math.max.name ∈ WS) (h2 : Cond.static Lib.Math.max.name ∈ WS) (h3 : Cond.initialized "java/lang/Math" ∈ WS) (h4 : Cond.code Lib.Math.max.name Lib.Math.max.code 2 (some .int) ∈ WS) (hn : L.length = nL) (hh : 1 ≤ h0) (hr : (st.map fun v => v.category).sum ≤ 8) (k : zZ G X w (pc + 3) L (.int (if x < y then y else x) :: st)) : zZ G X w pc L (.int y :: .int x :: st) := by
  obtain ⟨p, l, e, R, s, m, args, below, meth, c, A, cells, slots, Q⟩ := X
  obtain ⟨hx, hb, hml, hown, hts, hK, hS0, hg, hA, hfr, hlo, hce, hsl⟩ := hX
  intro H locs ls hP hS hl
  exact va_mmax hx hb (hml.trans (hn.symm.trans hl.1.symm)) hown (hts _ h1) (hts _ h2) (hts _ h3) (hts _ h4) (by omega) (by omega) hce hsl d (k H locs ls hP hS hl)
theorem z_copy {G : zG} {X : zX} {w : zW} {cc : ByteArray} {nL : Nat} {own : String} {h0 : Nat} {L : List (Option Value)} {st : List Value} {ρ : Type} {r : ρ} {E : Option ρ} {a b n0 n1 idx : Nat} {sp dp n : Int32} (pc : Nat) (hX : zOk G X cc nL own h0) (d : decode cc pc = .ok (.invokestatic idx, 3)) (h1 : Cond.methodLink own idx arraycopyName ∈ WS) (h2 : Cond.native arraycopyName ∈ WS) (h3 : Cond.static arraycopyName ∈ WS) (h4 : Cond.initialized "java/lang/System" ∈ WS) (hsa : shp a = (20, n0)) (hsb : shp b = (20, n1)) (hn : L.length = nL) (hh : 1 ≤ h0) (hr : (st.map fun v => v.category).sum ≤ 8) (h : zguard (zcpyok sp dp n n0 n1) E = some r) (k : E = some r → zZ G X (zcopy w a b sp dp n) (pc + 3) L st) : zZ G X w pc L (.int n :: .int dp :: .ref (zα G b) :: .int sp :: .ref (zα G a) :: st) := by
  obtain ⟨hok, h⟩ := zite_some h
  obtain ⟨o1, o2, o3, o4, o5⟩ := of_decide_eq_true hok
  obtain ⟨p, l, e, R, s, m, args, below, meth, c, A, cells, slots, Q⟩ := X
  obtain ⟨hx, hb, hml, hown, hts, hK, hS0, hg, hA, hfr, hlo, hce, hsl⟩ := hX
  intro H locs ls hP hS hl
  have hb0 : b < zNC := shp_lt hsb (by decide)
  have ea : (zP G w)[a]? = some (zα G a, .inl (zcl G 0, n0, .inl (w a))) := by rw [zP_at G w (shp_lt hsa (by decide)), zcell_i G (w a) hsa]
  have eb : (zP G w)[b]? = some (zα G b, .inl (zcl G 0, n1, .inl (w b))) := by rw [zP_at G w hb0, zcell_i G (w b) hsb]
  have hw : nativeFrameWords "java/lang/System" "arraycopy" 5 ≤ 20 := by decide
  refine va_copyi hx hb (hml.trans (hn.symm.trans hl.1.symm)) hown (hts _ h1) (hts _ h2) (hts _ h3) (hts _ h4) hK hP (zD_of hg hA w) hS a b 0 0 ea eb (ty := .int) rfl rfl rfl o1 o2 o3 o4 o5 (fun _ _ => rfl) (by omega) (by omega) d (fun H1 locs1 hP1 hD1 hS1 => ?_)
  rw [zP_set G w hb0 (va_cpy (w a) (w b) sp.toNatClampNeg dp.toNatClampNeg n.toNatClampNeg) _ (zcell_i G _ hsb)] at hP1
  exact k h H1 locs1 ls hP1 hS1 hl
end
section
def zrm (h : Nat) : Room := { frames := h, cells := 0, slots := 0, locals := 40 * h }
def zB (G : zG) (w : zW) (U : State) : Prop := va_P (zD G) zclasses (zP G w) U.heap ∧ va_K (zD G) zclasses (ztys G) U ∧ zS G (zA G) U U.heap
def zQ (G : zG) (res : Option Value) (w : zW) : Array Value → State → Outcome → State → Prop := fun _ st oc t => oc = .returned res ∧ zB G w t ∧ va_F (zA G) st t
def zws (y : MethodName) (cc : ByteArray) (nL : Nat) (ret : Option FieldType) : List Cond := Cond.code y cc nL ret :: WS
def zMet (G : zG) (l : Launch) (y : MethodName) (cc : ByteArray) (nL : Nat) (ret : Option FieldType) (h : Nat) (args : List Value) (w : zW) (res : Option Value) (w1 : zW) : Prop :=
  Met l y (zws y cc nL ret) (zrm h) (va_Pc args (zB G w)) (zQ G res w1) 0 0 (zA G)
theorem zB_same {G : zG} {w : zW} {s U : State} (hh : U.heap = s.heap) (hv : U.vm = s.vm) (h : zB G w s) : zB G w U := by
  obtain ⟨h1, h2, h3⟩ := h
  refine ⟨by rw [hh]; exact h1, va_K.moved (by rw [hv]; exact Vm.Alike.refl _) h2, ?_⟩
  rw [hh]
  exact h3.same hv
theorem zblind (G : zG) (w : zW) (args : List Value) : FrameBlind (va_Pc args (zB G w)) := fun a U g mk h => ⟨h.1, zB_same rfl rfl h.2⟩
/-- what a method's world is at a call -/
theorem zB_call {G : zG} {X : zX} {cc : ByteArray} {nL : Nat} {own : String} {h0 : Nat} (hX : zOk G X cc nL own h0) {w : zW} : ∀ (H : Heap) (locs : List Loc), va_P (zD G) zclasses (zP G w) H → va_S X.2.2.2.2.2.2.2.2.2.2.1 X.2.2.2.2.1.heap H locs → ∀ U : State, U.heap = H → X.2.2.2.2.1.WarmedH U.vm → zB G w U := by
  obtain ⟨p, l, e, R, s, m, args, below, meth, c, A, cells, slots, Q⟩ := X
  obtain ⟨hx, hb, hml, hown, hts, hK, hS0, hg, hA, hfr, hlo, hce, hsl⟩ := hX
  intro H locs hP hS U hU hW
  refine ⟨by rw [hU]; exact hP, va_K.moved hW.alike hK, ?_⟩
  rw [hU]
  exact ((hS0.moved hW).kept hS.2.1).narrow (fun q hq => by obtain ⟨k, hk, rfl⟩ := hq; exact hA k hk)
/-- behind a call -/
theorem z_run {G : zG} {p : Program} {l : Launch} {e : Env} {R : Room} {s : State} {m : MethodId} {args : Array Value} {below : List Frame} {meth : Method} {c : Code} {A : Nat → Prop} {cells slots : Nat} {Q : State → Prop} {w1 : zW} {pc : Nat} {L : List (Option Value)} {st0 rest : List Value} {res : Option Value} {a : Array Value} {H : Heap} {locs : List Loc} {ls : Array Slot}
    (hr : va_Run p l e R s m args below meth c H locs cells slots 0 0 (F0 m pc ls st0) rest (zQ G res w1 a) (zA G)) (hS : va_S A s.heap H locs) (hA : ∀ k : Nat, k < zNC → A (zα G k)) (hl : zhas ls L)
    (kk : zZ G (p, l, e, R, s, m, args, below, meth, c, A, cells, slots, Q) w1 (pc + 3) L (res.toList ++ rest)) : W p l e R s m args below meth c H locs cells slots Q (F0 m pc ls st0) := by
  intro T hT X
  obtain ⟨v, st₀, t, T', L1, h0, X', hL, e1, e2, ⟨hv, hB, hz, hk⟩, st⟩ := hr T hT X
  cases hv
  rw [h0] at hz hk
  have hAz : ∀ q, zA G q → A q := fun q hq => by obtain ⟨k, hk, rfl⟩ := hq; exact hA k hk
  obtain ⟨t2, a1, b1⟩ := kk T'.heap (locs ++ L1) ls (by rw [e1]; exact hB.1)
    ⟨Nat.le_trans hS.1 (by rw [e1]; exact hz), fun q h1 h2 => by rw [e1, hk q (Nat.lt_of_lt_of_le h1 hS.1) (fun z => h2 (hAz q z))]; exact hS.2.1 q h1 h2, fun q hq => by
      rcases List.mem_append.mp hq with h | h
      · exact hS.2.2 q h
      · exact hAz _ (hL q h)⟩ hl T' rfl X'
  exact ⟨t2, st t2 a1, b1⟩
theorem zGood_ws {y : MethodName} {cc : ByteArray} {nL : Nat} {ret : Option FieldType} (h : Cond.code y cc nL ret ∈ WS) : GoodIn WS (zws y cc nL ret) := fun w hw => by
  rcases List.mem_cons.mp hw with rfl | hw
  · exact ⟨h, good_of_word (zw_good _ h)⟩
  · exact ⟨hw, good_of_word (zw_good _ hw)⟩
section ZCALL
variable {G : zG} {X : zX} {w w1 : zW} {cc : ByteArray} {nL : Nat} {own : String} {h0 : Nat} {L : List (Option Value)} {rest : List Value} {l : Launch} {y : MethodName} {bytes : ByteArray} {maxL : Nat} {ret : Option FieldType} {hc idx n : Nat} {As : List Value} {res : Option Value}
/-- invokevirtual on an object of the picture -/
theorem z_callV {st0 : List Value} {b t N : Nat} {C : String} {T : u_T} (pc : Nat) (hX : zOk G X cc nL own h0) (d : decode cc pc = .ok (.invokevirtual idx, 3)) (hM : zMet G X.2.1 y bytes maxL ret hc (.ref (zα G b) :: As) w res w1)
    (k1 : Cond.methodLink own idx y ∈ WS) (k2 : Cond.instanceMethod y ∈ WS) (k3 : Cond.selects C y y ∈ WS) (k4 : Cond.initialized y.cls ∈ WS) (k5 : Cond.code y bytes maxL ret ∈ WS)
    (hd : y.cls ≠ "java/lang/invoke/MethodHandle" ∧ y.cls ≠ "java/lang/invoke/VarHandle" ∧ (parseMethodDescriptor y.desc).map (fun d => d.parameters.length) = some n)
    (hs : shp b = (t, 0)) (ht : t < 20) (hcl : zclasses[t]? = some (C, T, N)) (hn : As.length = n) (hL : L.length = nL) (hst : st0 = As.reverse ++ .ref (zα G b) :: rest) (hr : (rest.map fun v => v.category).sum ≤ 8) (hh : hc + 1 ≤ h0) (hm : maxL ≤ 21)
    (kk : zZ G X w1 (pc + 3) L (res.toList ++ rest)) : zZ G X w pc L st0 := by
  have hB := zB_call hX (w := w)
  obtain ⟨p, l, e, R, s, m, args, below, meth, c, A, cells, slots, Q⟩ := X
  obtain ⟨hx, hb, hml, hown, hts, hK, hS0, hg, hA, hfr, hlo, hce, hsl⟩ := hX
  intro H locs ls hP hS hl
  have he : (zP G w)[b]? = some (zα G b, .inr (t, zfs G (w b) b t)) := by rw [zP_at G w (shp_lt hs (by omega)), zcell_o G (w b) hs ht]
  refine z_run (va_runV (As := As) (rest := rest) ⟨hx, hb, hml, hown, hts⟩ hM
    ⟨⟨rfl, rfl, ?_, ?_, pay_in hts (zGood_ws k5), List.mem_cons_self, hts _ k5, hts _ k4, ⟨hd.1, hd.2.1⟩, ?_, hts _ k1⟩, hts _ k2, hts _ k3⟩
    ⟨zblind G w _, va_recv hK hP hcl he, fun U hU hW => ⟨rfl, hB H locs hP hS U hU hW⟩⟩ rfl hn (hl.1.trans hL) hst (lv_room hr) d ⟨by simpa using hce, by simpa using hsl⟩) hS hA hl kk
  · show hc + 1 ≤ R.frames
    omega
  · show 8 + (maxL + 11) + 40 * hc ≤ R.locals
    omega
  · intro sig h
    have h2 := hd.2.2
    rw [h] at h2
    exact (Option.some.inj h2).symm
/-- invokestatic -/
theorem z_callS {st0 : List Value} (pc : Nat) (hX : zOk G X cc nL own h0) (d : decode cc pc = .ok (.invokestatic idx, 3)) (hM : zMet G X.2.1 y bytes maxL ret hc As w res w1)
    (k1 : Cond.methodLink own idx y ∈ WS) (k2 : Cond.static y ∈ WS) (k4 : Cond.initialized y.cls ∈ WS) (k5 : Cond.code y bytes maxL ret ∈ WS)
    (hd : y.cls ≠ "java/lang/invoke/MethodHandle" ∧ y.cls ≠ "java/lang/invoke/VarHandle" ∧ (parseMethodDescriptor y.desc).map (fun d => d.parameters.length) = some n)
    (hn : As.length = n) (hL : L.length = nL) (hst : st0 = As.reverse ++ rest) (hr : (rest.map fun v => v.category).sum ≤ 8) (hh : hc + 1 ≤ h0) (hm : maxL ≤ 21)
    (kk : zZ G X w1 (pc + 3) L (res.toList ++ rest)) : zZ G X w pc L st0 := by
  have hB := zB_call hX (w := w)
  obtain ⟨p, l, e, R, s, m, args, below, meth, c, A, cells, slots, Q⟩ := X
  obtain ⟨hx, hb, hml, hown, hts, hK, hS0, hg, hA, hfr, hlo, hce, hsl⟩ := hX
  intro H locs ls hP hS hl
  refine z_run (va_runS (As := As) (rest := rest) ⟨hx, hb, hml, hown, hts⟩ hM
    ⟨⟨rfl, rfl, ?_, ?_, pay_in hts (zGood_ws k5), List.mem_cons_self, hts _ k5, hts _ k4, ⟨hd.1, hd.2.1⟩, ?_, hts _ k1⟩, hts _ k2⟩
    ⟨zblind G w _, fun U hU hW => ⟨rfl, hB H locs hP hS U hU hW⟩⟩ rfl hn (hl.1.trans hL) hst (lv_room hr) d ⟨by simpa using hce, by simpa using hsl⟩) hS hA hl kk
  · show hc + 1 ≤ R.frames
    omega
  · show 8 + (maxL + 11) + 40 * hc ≤ R.locals
    omega
  · intro sig h
    have h2 := hd.2.2
    rw [h] at h2
    exact (Option.some.inj h2).symm
/-- invokestatic of a nest mate's private method -/
theorem z_callSN {st0 : List Value} {host : String} (pc : Nat) (hX : zOk G X cc nL own h0) (d : decode cc pc = .ok (.invokestatic idx, 3)) (hM : zMet G X.2.1 y bytes maxL ret hc As w res w1)
    (k1 : Cond.methodLinkNest own idx y host ∈ WS) (k2 : Cond.static y ∈ WS) (k4 : Cond.initialized y.cls ∈ WS) (k5 : Cond.code y bytes maxL ret ∈ WS)
    (hd : y.cls ≠ "java/lang/invoke/MethodHandle" ∧ y.cls ≠ "java/lang/invoke/VarHandle" ∧ (parseMethodDescriptor y.desc).map (fun d => d.parameters.length) = some n)
    (hn : As.length = n) (hL : L.length = nL) (hst : st0 = As.reverse ++ rest) (hr : (rest.map fun v => v.category).sum ≤ 8) (hh : hc + 1 ≤ h0) (hm : maxL ≤ 21)
    (kk : zZ G X w1 (pc + 3) L (res.toList ++ rest)) : zZ G X w pc L st0 := by
  have hB := zB_call hX (w := w)
  obtain ⟨p, l, e, R, s, m, args, below, meth, c, A, cells, slots, Q⟩ := X
  obtain ⟨hx, hb, hml, hown, hts, hK, hS0, hg, hA, hfr, hlo, hce, hsl⟩ := hX
  intro H locs ls hP hS hl
  refine z_run (va_runSN (As := As) (rest := rest) ⟨hx, hb, hml, hown, hts⟩ hM
    ⟨⟨⟨rfl, rfl, ?_, ?_, pay_in hts (zGood_ws k5), List.mem_cons_self⟩, hts _ k5, hts _ k4, ⟨hd.1, hd.2.1⟩, ?_, hts _ k1⟩, hts _ k2, trivial⟩
    ⟨zblind G w _, fun U hU hW => ⟨rfl, hB H locs hP hS U hU hW⟩⟩ rfl hn (hl.1.trans hL) hst (lv_room hr) d ⟨by simpa using hce, by simpa using hsl⟩) hS hA hl kk
  · show hc + 1 ≤ R.frames
    omega
  · show 8 + (maxL + 11) + 40 * hc ≤ R.locals
    omega
  · intro sig h
    have h2 := hd.2.2
    rw [h] at h2
    exact (Option.some.inj h2).symm
end ZCALL
def zent : List Value → List (Option Value)
  | [] => []
  | v :: vs => if v.category = 2 then some v :: none :: zent vs else some v :: zent vs
theorem zent_spec : ∀ (vs : List Value) (i j : Nat) (v : Value), (zent vs)[j]? = some (some v) → (i + j, v) ∈ lv_args i vs
  | [], i, j, v, h => by cases h
  | u :: vs, i, j, v, h => by
    by_cases hc : u.category = 2
    · rw [zent, if_pos hc] at h
      rw [lv_args, if_pos hc]
      match j with
      | 0 => cases h; exact List.mem_cons_self
      | 1 => cases h
      | j + 2 =>
        have := zent_spec vs (i + 2) j v h
        exact List.mem_cons_of_mem _ (by rw [show i + (j + 2) = i + 2 + j by omega]; exact this)
    · rw [zent, if_neg hc] at h
      rw [lv_args, if_neg hc]
      match j with
      | 0 => cases h; exact List.mem_cons_self
      | j + 1 =>
        have := zent_spec vs (i + 1) j v h
        exact List.mem_cons_of_mem _ (by rw [show i + (j + 1) = i + 1 + j by omega]; exact this)
def zEI (G : zG) (X : zX) (cc : ByteArray) (ty : FieldType) (v : Int32) (w : zW) : Prop := ∀ (pc : Nat) (L : List (Option Value)), narrow ty (.int v) = .int v → decode cc pc = .ok (.ireturn, 1) → zZ G X w pc L [.int v]
def zEV (G : zG) (X : zX) (cc : ByteArray) (w : zW) : Prop := ∀ (pc : Nat) (L : List (Option Value)), decode cc pc = .ok (.return_, 1) → zZ G X w pc L []
def zEA (G : zG) (X : zX) (cc : ByteArray) (a : Nat) (w : zW) : Prop := ∀ (pc : Nat) (L : List (Option Value)), decode cc pc = .ok (.areturn, 1) → zZ G X w pc L [.ref a]
theorem zQ_end {G : zG} {s t : State} {A : Nat → Prop} {res : Option Value} {w : zW} {H : Heap} {locs : List Loc} {a : Array Value} (hg : zgood G) (hK : va_K (zD G) zclasses (ztys G) s) (hS0 : zS G (zA G) s s.heap) (hP : va_P (zD G) zclasses (zP G w) H) (hS : va_S (zA G) s.heap H locs) (ht : t.heap = H) (hW : s.WarmedH t.vm) : zQ G res w a s (.returned res) t := by
  refine ⟨rfl, ⟨by rw [ht]; exact hP, va_K.moved hW.alike hK, ?_⟩, hS.F ht⟩
  rw [ht]
  exact (hS0.moved hW).kept hS.2.1
section ZOF
variable {G : zG} {l : Launch} {y : MethodName} {cc : ByteArray} {nL h : Nat} {args : List Value} {w w1 : zW} {L0 : List (Option Value)}
theorem zMet_of {ret : Option FieldType} {res : Option Value} (hG : zgood G) (hy : plainName y.cls = true) (hlen : (lg_sl args).length ≤ nL) (hL : zent args ++ List.replicate (nL - (zent args).length) none = L0) (hn : L0.length = nL)
    (body : ∀ X : zX, X.2.1 = l → zOk G X cc nL y.cls h → (∀ (ty : FieldType) (v : Int32), ret = some ty → res = some (.int v) → zEI G X cc ty v w1) → (ret = none → res = none → zEV G X cc w1) → (∀ (a : Nat), (∃ n, ret = some (.object n)) → res = some (.ref a) → zEA G X cc a w1) → zZ G X w 0 L0 []) :
    zMet G l y cc nL ret h args w res w1 := by
  refine Met.ofW (cc := cc) (maxL := nL) (ret := ret) hy rfl ?_
  intro p e s m a below meth c s₁ B hml hv
  obtain ⟨rfl, hP, hK, hS0⟩ := hv
  have hts0 := atoms_spec (ws := zws y cc nL ret) B.pre
  have hts : ∀ q ∈ WS, q.before args.toArray s = true := fun q hq => hts0 q (List.mem_cons_of_mem _ hq)
  have hlocks := B.notSynchronized
  have hent := lv_entry args (n := nL) hlen
  have hS : va_S (zA G) s.heap s.heap [] := va_S.rf
  have hX : zOk G (p, l, e, zrm h, s, m, args.toArray, below, meth, c, zA G, 0, 0, MQ below (zQ G res w1) args.toArray s 0 0 (zA G)) cc nL y.cls h :=
    ⟨B.exec, B.bytes, hml, findClass_of_methodNamed B.named, hts, hK, hS0, hG, fun k hk => ⟨k, hk, rfl⟩, Nat.le_refl _, Nat.le_refl _, Nat.le_refl _, Nat.le_refl _⟩
  rw [lg_entry_eq]
  refine body _ rfl hX ?_ ?_ ?_ s.heap [] _ hP hS ⟨hent.1.trans hn.symm, hent.2.1, fun i v hi => ?_⟩
  · rintro ty v rfl rfl pc L hnar hd H locs ls hP1 hS1 hl
    exact W.zret B.exec B.bytes B.returns hnar (fun t ht hW => zQ_end (A := zA G) hG hK hS0 hP1 hS1 ht hW) hS1.2.2 hd
  · rintro rfl rfl pc L hd H locs ls hP1 hS1 hl
    exact W.vret B.exec B.bytes B.returns (fun t ht hW => zQ_end (A := zA G) hG hK hS0 hP1 hS1 ht hW) hS1.2.2 hd
  · rintro a ⟨n, rfl⟩ rfl pc L hd H locs ls hP1 hS1 hl
    exact W.aret B.exec B.bytes B.returns (Or.inl ⟨n, rfl⟩) (Or.inr ⟨a, rfl⟩) (fun t ht hW => zQ_end (A := zA G) hG hK hS0 hP1 hS1 ht hW) hS1.2.2 hd
  · subst hL
    have hi2 : (zent args)[i]? = some (some v) := by
      by_cases hl : i < (zent args).length
      · rwa [List.getElem?_append_left hl] at hi
      · rw [List.getElem?_append_right (by omega)] at hi
        have hq := List.mem_of_getElem? hi
        exact absurd (List.eq_of_mem_replicate hq) (by simp)
    have := zent_spec args 0 i v hi2
    rw [Nat.zero_add] at this
    exact hent.2.2 _ this
end ZOF
theorem znar_bool {x : Int32} (h : zbool x = true) : narrow .boolean (.int x) = .int x := by
  rcases of_decide_eq_true h with rfl | rfl <;> rfl
theorem z_endI {G : zG} {X : zX} {cc : ByteArray} {ty : FieldType} {v r : Int32} {w : zW} {L : List (Option Value)} (pc : Nat) (hE : zEI G X cc ty r w) (hn : narrow ty (.int v) = .int v) (h : some v = some r) (d : decode cc pc = .ok (.ireturn, 1)) : zZ G X w pc L [.int v] := by
  cases h
  exact hE pc L hn d
theorem z_endI2 {G : zG} {X : zX} {cc : ByteArray} {ty : FieldType} {v r : Int32} {w w1 : zW} {L : List (Option Value)} (pc : Nat) (hE : zEI G X cc ty r w1) (hn : narrow ty (.int v) = .int v) (h : some (v, w) = some (r, w1)) (d : decode cc pc = .ok (.ireturn, 1)) : zZ G X w pc L [.int v] := by
  cases h
  exact hE pc L hn d
theorem z_endV {G : zG} {X : zX} {cc : ByteArray} {w w1 : zW} {L : List (Option Value)} (pc : Nat) (hE : zEV G X cc w1) (h : some w = some w1) (d : decode cc pc = .ok (.return_, 1)) : zZ G X w pc L [] := by
  cases h
  exact hE pc L d
theorem z_endA {G : zG} {X : zX} {cc : ByteArray} {a r : Nat} {w : zW} {L : List (Option Value)} (pc : Nat) (hE : zEA G X cc (zα G r) w) (h : some a = some r) (d : decode cc pc = .ok (.areturn, 1)) : zZ G X w pc L [.ref (zα G a)] := by
  cases h
  exact hE pc L d
end

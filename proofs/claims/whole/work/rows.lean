section
-- ===== PART A: goes FIRST, ahead of the names: the tables' words, and 'selects' of the private methods out of them =====
/-- a private method of a class that the tables say can be made, by its rows of tables_1 -/
def lw_okq (q : MethodName × Nat) : Prop := (q.1.cls ≠ "java/lang/invoke/MethodHandle" ∧ q.1.cls ≠ "java/lang/invoke/VarHandle") ∧ Cond.instantiable q.1.cls q.2 ∈ tables_1 ∧ Cond.privateMethod q.1 ∈ tables_1 ∧ Cond.instanceMethod q.1 ∈ tables_1
theorem lw_p0 : lw_okq (⟨"GrudgeDesk$Script", "readDeed", "()Z"⟩, 10) := ⟨⟨by decide +kernel, by decide +kernel⟩, List.mem_of_getElem? (i := 55) (by decide +kernel), List.mem_of_getElem? (i := 308) (by decide +kernel), List.mem_of_getElem? (i := 309) (by decide +kernel)⟩
theorem lw_p1 : lw_okq (⟨"GrudgeDesk$Script", "passLetters", "()V"⟩, 10) := ⟨⟨by decide +kernel, by decide +kernel⟩, List.mem_of_getElem? (i := 55) (by decide +kernel), List.mem_of_getElem? (i := 312) (by decide +kernel), List.mem_of_getElem? (i := 313) (by decide +kernel)⟩
theorem lw_p2 : lw_okq (⟨"GrudgeDesk$Script", "here", "()I"⟩, 10) := ⟨⟨by decide +kernel, by decide +kernel⟩, List.mem_of_getElem? (i := 55) (by decide +kernel), List.mem_of_getElem? (i := 316) (by decide +kernel), List.mem_of_getElem? (i := 317) (by decide +kernel)⟩
theorem lw_p3 : lw_okq (⟨"GrudgeDesk$Script", "kindOf", "(I)I"⟩, 10) := ⟨⟨by decide +kernel, by decide +kernel⟩, List.mem_of_getElem? (i := 55) (by decide +kernel), List.mem_of_getElem? (i := 320) (by decide +kernel), List.mem_of_getElem? (i := 321) (by decide +kernel)⟩
theorem lw_p4 : lw_okq (⟨"GrudgeDesk$Script", "spells", "(ILjava/lang/String;)Z"⟩, 10) := ⟨⟨by decide +kernel, by decide +kernel⟩, List.mem_of_getElem? (i := 55) (by decide +kernel), List.mem_of_getElem? (i := 325) (by decide +kernel), List.mem_of_getElem? (i := 326) (by decide +kernel)⟩
theorem lw_p5 : lw_okq (⟨"GrudgeDesk$Script", "failAt", "(I)Z"⟩, 10) := ⟨⟨by decide +kernel, by decide +kernel⟩, List.mem_of_getElem? (i := 55) (by decide +kernel), List.mem_of_getElem? (i := 382) (by decide +kernel), List.mem_of_getElem? (i := 383) (by decide +kernel)⟩
theorem lw_p6 : lw_okq (⟨"GrudgeDesk$Script", "readArguments", "(I)Z"⟩, 10) := ⟨⟨by decide +kernel, by decide +kernel⟩, List.mem_of_getElem? (i := 55) (by decide +kernel), List.mem_of_getElem? (i := 386) (by decide +kernel), List.mem_of_getElem? (i := 387) (by decide +kernel)⟩
theorem lw_p7 : lw_okq (⟨"GrudgeDesk$Script", "readBlank", "()Z"⟩, 10) := ⟨⟨by decide +kernel, by decide +kernel⟩, List.mem_of_getElem? (i := 55) (by decide +kernel), List.mem_of_getElem? (i := 390) (by decide +kernel), List.mem_of_getElem? (i := 391) (by decide +kernel)⟩
theorem lw_p8 : lw_okq (⟨"GrudgeDesk$Script", "readNumber", "()Z"⟩, 10) := ⟨⟨by decide +kernel, by decide +kernel⟩, List.mem_of_getElem? (i := 55) (by decide +kernel), List.mem_of_getElem? (i := 394) (by decide +kernel), List.mem_of_getElem? (i := 395) (by decide +kernel)⟩
theorem lw_p9 : lw_okq (⟨"GrudgeDesk$Script", "isFigureHere", "()Z"⟩, 10) := ⟨⟨by decide +kernel, by decide +kernel⟩, List.mem_of_getElem? (i := 55) (by decide +kernel), List.mem_of_getElem? (i := 398) (by decide +kernel), List.mem_of_getElem? (i := 399) (by decide +kernel)⟩
theorem lw_p10 : lw_okq (⟨"GrudgeDesk$Script", "keepIn", "([I)Z"⟩, 10) := ⟨⟨by decide +kernel, by decide +kernel⟩, List.mem_of_getElem? (i := 55) (by decide +kernel), List.mem_of_getElem? (i := 402) (by decide +kernel), List.mem_of_getElem? (i := 403) (by decide +kernel)⟩
theorem lw_p11 : lw_okq (⟨"GrudgeDesk$Script", "readGroup", "()Z"⟩, 10) := ⟨⟨by decide +kernel, by decide +kernel⟩, List.mem_of_getElem? (i := 55) (by decide +kernel), List.mem_of_getElem? (i := 406) (by decide +kernel), List.mem_of_getElem? (i := 407) (by decide +kernel)⟩
theorem lw_p12 : lw_okq (⟨"GrudgeDesk$Script", "readPerson", "()Z"⟩, 10) := ⟨⟨by decide +kernel, by decide +kernel⟩, List.mem_of_getElem? (i := 55) (by decide +kernel), List.mem_of_getElem? (i := 413) (by decide +kernel), List.mem_of_getElem? (i := 414) (by decide +kernel)⟩
theorem lw_p13 : lw_okq (⟨"GrudgeDesk$Script", "isDone", "(IIILGrudgeDesk$Game;)Z"⟩, 10) := ⟨⟨by decide +kernel, by decide +kernel⟩, List.mem_of_getElem? (i := 55) (by decide +kernel), List.mem_of_getElem? (i := 421) (by decide +kernel), List.mem_of_getElem? (i := 422) (by decide +kernel)⟩
theorem lw_p14 : lw_okq (⟨"GrudgeDesk$Script", "turnsDual", "(LGrudgeDesk$Game;)Z"⟩, 10) := ⟨⟨by decide +kernel, by decide +kernel⟩, List.mem_of_getElem? (i := 55) (by decide +kernel), List.mem_of_getElem? (i := 435) (by decide +kernel), List.mem_of_getElem? (i := 436) (by decide +kernel)⟩
theorem lw_p15 : lw_okq (⟨"GrudgeDesk$Script", "takesNext", "(LGrudgeDesk$Game;)Z"⟩, 10) := ⟨⟨by decide +kernel, by decide +kernel⟩, List.mem_of_getElem? (i := 55) (by decide +kernel), List.mem_of_getElem? (i := 440) (by decide +kernel), List.mem_of_getElem? (i := 441) (by decide +kernel)⟩
def lw_privs_1 : List (MethodName × Nat) := [(⟨"GrudgeDesk$Script", "readDeed", "()Z"⟩, 10), (⟨"GrudgeDesk$Script", "passLetters", "()V"⟩, 10), (⟨"GrudgeDesk$Script", "here", "()I"⟩, 10), (⟨"GrudgeDesk$Script", "kindOf", "(I)I"⟩, 10), (⟨"GrudgeDesk$Script", "spells", "(ILjava/lang/String;)Z"⟩, 10), (⟨"GrudgeDesk$Script", "failAt", "(I)Z"⟩, 10), (⟨"GrudgeDesk$Script", "readArguments", "(I)Z"⟩, 10), (⟨"GrudgeDesk$Script", "readBlank", "()Z"⟩, 10), (⟨"GrudgeDesk$Script", "readNumber", "()Z"⟩, 10), (⟨"GrudgeDesk$Script", "isFigureHere", "()Z"⟩, 10), (⟨"GrudgeDesk$Script", "keepIn", "([I)Z"⟩, 10), (⟨"GrudgeDesk$Script", "readGroup", "()Z"⟩, 10), (⟨"GrudgeDesk$Script", "readPerson", "()Z"⟩, 10), (⟨"GrudgeDesk$Script", "isDone", "(IIILGrudgeDesk$Game;)Z"⟩, 10), (⟨"GrudgeDesk$Script", "turnsDual", "(LGrudgeDesk$Game;)Z"⟩, 10), (⟨"GrudgeDesk$Script", "takesNext", "(LGrudgeDesk$Game;)Z"⟩, 10)]
theorem lw_r1 : ∀ q ∈ lw_privs_1, lw_okq q := List.forall_mem_cons.mpr ⟨lw_p0, List.forall_mem_cons.mpr ⟨lw_p1, List.forall_mem_cons.mpr ⟨lw_p2, List.forall_mem_cons.mpr ⟨lw_p3, List.forall_mem_cons.mpr ⟨lw_p4, List.forall_mem_cons.mpr ⟨lw_p5, List.forall_mem_cons.mpr ⟨lw_p6, List.forall_mem_cons.mpr ⟨lw_p7, List.forall_mem_cons.mpr ⟨lw_p8, List.forall_mem_cons.mpr ⟨lw_p9, List.forall_mem_cons.mpr ⟨lw_p10, List.forall_mem_cons.mpr ⟨lw_p11, List.forall_mem_cons.mpr ⟨lw_p12, List.forall_mem_cons.mpr ⟨lw_p13, List.forall_mem_cons.mpr ⟨lw_p14, List.forall_mem_cons.mpr ⟨lw_p15, fun _ h => absurd h List.not_mem_nil⟩⟩⟩⟩⟩⟩⟩⟩⟩⟩⟩⟩⟩⟩⟩⟩
theorem lw_p16 : lw_okq (⟨"GrudgeDesk$Script", "turnsZero", "(LGrudgeDesk$Game;)Z"⟩, 10) := ⟨⟨by decide +kernel, by decide +kernel⟩, List.mem_of_getElem? (i := 55) (by decide +kernel), List.mem_of_getElem? (i := 447) (by decide +kernel), List.mem_of_getElem? (i := 448) (by decide +kernel)⟩
theorem lw_p17 : lw_okq (⟨"GrudgeDesk$Script", "swaps", "(IILGrudgeDesk$Game;)Z"⟩, 10) := ⟨⟨by decide +kernel, by decide +kernel⟩, List.mem_of_getElem? (i := 55) (by decide +kernel), List.mem_of_getElem? (i := 459) (by decide +kernel), List.mem_of_getElem? (i := 460) (by decide +kernel)⟩
theorem lw_p18 : lw_okq (⟨"GrudgeDesk", "solved", "()LGrudgeDesk$Stages;"⟩, 12) := ⟨⟨by decide +kernel, by decide +kernel⟩, List.mem_of_getElem? (i := 20) (by decide +kernel), List.mem_of_getElem? (i := 477) (by decide +kernel), List.mem_of_getElem? (i := 478) (by decide +kernel)⟩
theorem lw_p19 : lw_okq (⟨"GrudgeDesk$Stages", "begin", "(LGrudgeDesk$Game;)V"⟩, 16) := ⟨⟨by decide +kernel, by decide +kernel⟩, List.mem_of_getElem? (i := 93) (by decide +kernel), List.mem_of_getElem? (i := 485) (by decide +kernel), List.mem_of_getElem? (i := 486) (by decide +kernel)⟩
theorem lw_p20 : lw_okq (⟨"GrudgeDesk$Stages", "closeStage", "()V"⟩, 16) := ⟨⟨by decide +kernel, by decide +kernel⟩, List.mem_of_getElem? (i := 93) (by decide +kernel), List.mem_of_getElem? (i := 511) (by decide +kernel), List.mem_of_getElem? (i := 512) (by decide +kernel)⟩
theorem lw_p21 : lw_okq (⟨"GrudgeDesk$Stages", "tieFixed", "(LGrudgeDesk$Game;)V"⟩, 16) := ⟨⟨by decide +kernel, by decide +kernel⟩, List.mem_of_getElem? (i := 93) (by decide +kernel), List.mem_of_getElem? (i := 521) (by decide +kernel), List.mem_of_getElem? (i := 522) (by decide +kernel)⟩
theorem lw_p22 : lw_okq (⟨"GrudgeDesk$Stages", "wayChanging", "(I)I"⟩, 16) := ⟨⟨by decide +kernel, by decide +kernel⟩, List.mem_of_getElem? (i := 93) (by decide +kernel), List.mem_of_getElem? (i := 525) (by decide +kernel), List.mem_of_getElem? (i := 526) (by decide +kernel)⟩
theorem lw_p23 : lw_okq (⟨"GrudgeDesk$Stages", "goes", "(II)J"⟩, 16) := ⟨⟨by decide +kernel, by decide +kernel⟩, List.mem_of_getElem? (i := 93) (by decide +kernel), List.mem_of_getElem? (i := 529) (by decide +kernel), List.mem_of_getElem? (i := 530) (by decide +kernel)⟩
theorem lw_p24 : lw_okq (⟨"GrudgeDesk$Stages", "movePoint", "(III)V"⟩, 16) := ⟨⟨by decide +kernel, by decide +kernel⟩, List.mem_of_getElem? (i := 93) (by decide +kernel), List.mem_of_getElem? (i := 533) (by decide +kernel), List.mem_of_getElem? (i := 534) (by decide +kernel)⟩
theorem lw_p25 : lw_okq (⟨"GrudgeDesk$Stages", "dropWay", "(II)V"⟩, 16) := ⟨⟨by decide +kernel, by decide +kernel⟩, List.mem_of_getElem? (i := 93) (by decide +kernel), List.mem_of_getElem? (i := 546) (by decide +kernel), List.mem_of_getElem? (i := 547) (by decide +kernel)⟩
theorem lw_p26 : lw_okq (⟨"GrudgeDesk$Stages", "bend", "(IIJJ)V"⟩, 16) := ⟨⟨by decide +kernel, by decide +kernel⟩, List.mem_of_getElem? (i := 93) (by decide +kernel), List.mem_of_getElem? (i := 550) (by decide +kernel), List.mem_of_getElem? (i := 551) (by decide +kernel)⟩
theorem lw_p27 : lw_okq (⟨"GrudgeDesk$Stages", "gatherOpen", "(LGrudgeDesk$Game;)V"⟩, 16) := ⟨⟨by decide +kernel, by decide +kernel⟩, List.mem_of_getElem? (i := 93) (by decide +kernel), List.mem_of_getElem? (i := 555) (by decide +kernel), List.mem_of_getElem? (i := 556) (by decide +kernel)⟩
theorem lw_p28 : lw_okq (⟨"GrudgeDesk$Stages", "offerSingles", "()V"⟩, 16) := ⟨⟨by decide +kernel, by decide +kernel⟩, List.mem_of_getElem? (i := 93) (by decide +kernel), List.mem_of_getElem? (i := 559) (by decide +kernel), List.mem_of_getElem? (i := 560) (by decide +kernel)⟩
theorem lw_p29 : lw_okq (⟨"GrudgeDesk$Stages", "offerPairs", "()V"⟩, 16) := ⟨⟨by decide +kernel, by decide +kernel⟩, List.mem_of_getElem? (i := 93) (by decide +kernel), List.mem_of_getElem? (i := 564) (by decide +kernel), List.mem_of_getElem? (i := 565) (by decide +kernel)⟩
theorem lw_p30 : lw_okq (⟨"GrudgeDesk$Stages", "leftTurn", "(II)J"⟩, 16) := ⟨⟨by decide +kernel, by decide +kernel⟩, List.mem_of_getElem? (i := 93) (by decide +kernel), List.mem_of_getElem? (i := 568) (by decide +kernel), List.mem_of_getElem? (i := 569) (by decide +kernel)⟩
theorem lw_p31 : lw_okq (⟨"GrudgeDesk$Stages", "offerTriples", "()V"⟩, 16) := ⟨⟨by decide +kernel, by decide +kernel⟩, List.mem_of_getElem? (i := 93) (by decide +kernel), List.mem_of_getElem? (i := 575) (by decide +kernel), List.mem_of_getElem? (i := 576) (by decide +kernel)⟩
def lw_privs_2 : List (MethodName × Nat) := [(⟨"GrudgeDesk$Script", "turnsZero", "(LGrudgeDesk$Game;)Z"⟩, 10), (⟨"GrudgeDesk$Script", "swaps", "(IILGrudgeDesk$Game;)Z"⟩, 10), (⟨"GrudgeDesk", "solved", "()LGrudgeDesk$Stages;"⟩, 12), (⟨"GrudgeDesk$Stages", "begin", "(LGrudgeDesk$Game;)V"⟩, 16), (⟨"GrudgeDesk$Stages", "closeStage", "()V"⟩, 16), (⟨"GrudgeDesk$Stages", "tieFixed", "(LGrudgeDesk$Game;)V"⟩, 16), (⟨"GrudgeDesk$Stages", "wayChanging", "(I)I"⟩, 16), (⟨"GrudgeDesk$Stages", "goes", "(II)J"⟩, 16), (⟨"GrudgeDesk$Stages", "movePoint", "(III)V"⟩, 16), (⟨"GrudgeDesk$Stages", "dropWay", "(II)V"⟩, 16), (⟨"GrudgeDesk$Stages", "bend", "(IIJJ)V"⟩, 16), (⟨"GrudgeDesk$Stages", "gatherOpen", "(LGrudgeDesk$Game;)V"⟩, 16), (⟨"GrudgeDesk$Stages", "offerSingles", "()V"⟩, 16), (⟨"GrudgeDesk$Stages", "offerPairs", "()V"⟩, 16), (⟨"GrudgeDesk$Stages", "leftTurn", "(II)J"⟩, 16), (⟨"GrudgeDesk$Stages", "offerTriples", "()V"⟩, 16)]
theorem lw_r2 : ∀ q ∈ lw_privs_2, lw_okq q := List.forall_mem_cons.mpr ⟨lw_p16, List.forall_mem_cons.mpr ⟨lw_p17, List.forall_mem_cons.mpr ⟨lw_p18, List.forall_mem_cons.mpr ⟨lw_p19, List.forall_mem_cons.mpr ⟨lw_p20, List.forall_mem_cons.mpr ⟨lw_p21, List.forall_mem_cons.mpr ⟨lw_p22, List.forall_mem_cons.mpr ⟨lw_p23, List.forall_mem_cons.mpr ⟨lw_p24, List.forall_mem_cons.mpr ⟨lw_p25, List.forall_mem_cons.mpr ⟨lw_p26, List.forall_mem_cons.mpr ⟨lw_p27, List.forall_mem_cons.mpr ⟨lw_p28, List.forall_mem_cons.mpr ⟨lw_p29, List.forall_mem_cons.mpr ⟨lw_p30, List.forall_mem_cons.mpr ⟨lw_p31, fun _ h => absurd h List.not_mem_nil⟩⟩⟩⟩⟩⟩⟩⟩⟩⟩⟩⟩⟩⟩⟩⟩
theorem lw_p32 : lw_okq (⟨"GrudgeDesk$Stages", "offerThree", "(IIIJJJ)V"⟩, 16) := ⟨⟨by decide +kernel, by decide +kernel⟩, List.mem_of_getElem? (i := 93) (by decide +kernel), List.mem_of_getElem? (i := 579) (by decide +kernel), List.mem_of_getElem? (i := 580) (by decide +kernel)⟩
theorem lw_p33 : lw_okq (⟨"GrudgeDesk$Shares", "countAhead", "(I)I"⟩, 5) := ⟨⟨by decide +kernel, by decide +kernel⟩, List.mem_of_getElem? (i := 99) (by decide +kernel), List.mem_of_getElem? (i := 643) (by decide +kernel), List.mem_of_getElem? (i := 644) (by decide +kernel)⟩
theorem lw_p34 : lw_okq (⟨"GrudgeDesk", "fairWere", "(II)LGrudgeDesk$Shares;"⟩, 12) := ⟨⟨by decide +kernel, by decide +kernel⟩, List.mem_of_getElem? (i := 20) (by decide +kernel), List.mem_of_getElem? (i := 691) (by decide +kernel), List.mem_of_getElem? (i := 692) (by decide +kernel)⟩
theorem lw_p35 : lw_okq (⟨"GrudgeDesk$Weights", "sumWith", "(I)J"⟩, 3) := ⟨⟨by decide +kernel, by decide +kernel⟩, List.mem_of_getElem? (i := 186) (by decide +kernel), List.mem_of_getElem? (i := 817) (by decide +kernel), List.mem_of_getElem? (i := 818) (by decide +kernel)⟩
theorem lw_p36 : lw_okq (⟨"GrudgeDeskModel", "isGroup", "(I)Z"⟩, 44) := ⟨⟨by decide +kernel, by decide +kernel⟩, List.mem_of_getElem? (i := 859) (by decide +kernel), List.mem_of_getElem? (i := 1011) (by decide +kernel), List.mem_of_getElem? (i := 1012) (by decide +kernel)⟩
theorem lw_p37 : lw_okq (⟨"GrudgeDeskModel", "all", "()I"⟩, 44) := ⟨⟨by decide +kernel, by decide +kernel⟩, List.mem_of_getElem? (i := 859) (by decide +kernel), List.mem_of_getElem? (i := 1015) (by decide +kernel), List.mem_of_getElem? (i := 1016) (by decide +kernel)⟩
theorem lw_p38 : lw_okq (⟨"GrudgeDeskModel", "deed", "()V"⟩, 44) := ⟨⟨by decide +kernel, by decide +kernel⟩, List.mem_of_getElem? (i := 859) (by decide +kernel), List.mem_of_getElem? (i := 1043) (by decide +kernel), List.mem_of_getElem? (i := 1044) (by decide +kernel)⟩
theorem lw_p39 : lw_okq (⟨"GrudgeDeskModel", "sort", "()I"⟩, 44) := ⟨⟨by decide +kernel, by decide +kernel⟩, List.mem_of_getElem? (i := 859) (by decide +kernel), List.mem_of_getElem? (i := 1047) (by decide +kernel), List.mem_of_getElem? (i := 1048) (by decide +kernel)⟩
theorem lw_p40 : lw_okq (⟨"GrudgeDeskModel", "letters", "()I"⟩, 44) := ⟨⟨by decide +kernel, by decide +kernel⟩, List.mem_of_getElem? (i := 859) (by decide +kernel), List.mem_of_getElem? (i := 1051) (by decide +kernel), List.mem_of_getElem? (i := 1052) (by decide +kernel)⟩
theorem lw_p41 : lw_okq (⟨"GrudgeDeskModel", "here", "()I"⟩, 44) := ⟨⟨by decide +kernel, by decide +kernel⟩, List.mem_of_getElem? (i := 859) (by decide +kernel), List.mem_of_getElem? (i := 1055) (by decide +kernel), List.mem_of_getElem? (i := 1056) (by decide +kernel)⟩
theorem lw_p42 : lw_okq (⟨"GrudgeDeskModel", "isWord", "(IIIIIII)Z"⟩, 44) := ⟨⟨by decide +kernel, by decide +kernel⟩, List.mem_of_getElem? (i := 859) (by decide +kernel), List.mem_of_getElem? (i := 1061) (by decide +kernel), List.mem_of_getElem? (i := 1062) (by decide +kernel)⟩
theorem lw_p43 : lw_okq (⟨"GrudgeDeskModel", "isLetter", "(III)Z"⟩, 44) := ⟨⟨by decide +kernel, by decide +kernel⟩, List.mem_of_getElem? (i := 859) (by decide +kernel), List.mem_of_getElem? (i := 1065) (by decide +kernel), List.mem_of_getElem? (i := 1066) (by decide +kernel)⟩
theorem lw_p44 : lw_okq (⟨"GrudgeDeskModel", "wrong", "(I)V"⟩, 44) := ⟨⟨by decide +kernel, by decide +kernel⟩, List.mem_of_getElem? (i := 859) (by decide +kernel), List.mem_of_getElem? (i := 1069) (by decide +kernel), List.mem_of_getElem? (i := 1070) (by decide +kernel)⟩
theorem lw_p45 : lw_okq (⟨"GrudgeDeskModel", "number", "()I"⟩, 44) := ⟨⟨by decide +kernel, by decide +kernel⟩, List.mem_of_getElem? (i := 859) (by decide +kernel), List.mem_of_getElem? (i := 1073) (by decide +kernel), List.mem_of_getElem? (i := 1074) (by decide +kernel)⟩
theorem lw_p46 : lw_okq (⟨"GrudgeDeskModel", "blank", "()V"⟩, 44) := ⟨⟨by decide +kernel, by decide +kernel⟩, List.mem_of_getElem? (i := 859) (by decide +kernel), List.mem_of_getElem? (i := 1077) (by decide +kernel), List.mem_of_getElem? (i := 1078) (by decide +kernel)⟩
theorem lw_p47 : lw_okq (⟨"GrudgeDeskModel", "group", "()I"⟩, 44) := ⟨⟨by decide +kernel, by decide +kernel⟩, List.mem_of_getElem? (i := 859) (by decide +kernel), List.mem_of_getElem? (i := 1083) (by decide +kernel), List.mem_of_getElem? (i := 1084) (by decide +kernel)⟩
def lw_privs_3 : List (MethodName × Nat) := [(⟨"GrudgeDesk$Stages", "offerThree", "(IIIJJJ)V"⟩, 16), (⟨"GrudgeDesk$Shares", "countAhead", "(I)I"⟩, 5), (⟨"GrudgeDesk", "fairWere", "(II)LGrudgeDesk$Shares;"⟩, 12), (⟨"GrudgeDesk$Weights", "sumWith", "(I)J"⟩, 3), (⟨"GrudgeDeskModel", "isGroup", "(I)Z"⟩, 44), (⟨"GrudgeDeskModel", "all", "()I"⟩, 44), (⟨"GrudgeDeskModel", "deed", "()V"⟩, 44), (⟨"GrudgeDeskModel", "sort", "()I"⟩, 44), (⟨"GrudgeDeskModel", "letters", "()I"⟩, 44), (⟨"GrudgeDeskModel", "here", "()I"⟩, 44), (⟨"GrudgeDeskModel", "isWord", "(IIIIIII)Z"⟩, 44), (⟨"GrudgeDeskModel", "isLetter", "(III)Z"⟩, 44), (⟨"GrudgeDeskModel", "wrong", "(I)V"⟩, 44), (⟨"GrudgeDeskModel", "number", "()I"⟩, 44), (⟨"GrudgeDeskModel", "blank", "()V"⟩, 44), (⟨"GrudgeDeskModel", "group", "()I"⟩, 44)]
theorem lw_r3 : ∀ q ∈ lw_privs_3, lw_okq q := List.forall_mem_cons.mpr ⟨lw_p32, List.forall_mem_cons.mpr ⟨lw_p33, List.forall_mem_cons.mpr ⟨lw_p34, List.forall_mem_cons.mpr ⟨lw_p35, List.forall_mem_cons.mpr ⟨lw_p36, List.forall_mem_cons.mpr ⟨lw_p37, List.forall_mem_cons.mpr ⟨lw_p38, List.forall_mem_cons.mpr ⟨lw_p39, List.forall_mem_cons.mpr ⟨lw_p40, List.forall_mem_cons.mpr ⟨lw_p41, List.forall_mem_cons.mpr ⟨lw_p42, List.forall_mem_cons.mpr ⟨lw_p43, List.forall_mem_cons.mpr ⟨lw_p44, List.forall_mem_cons.mpr ⟨lw_p45, List.forall_mem_cons.mpr ⟨lw_p46, List.forall_mem_cons.mpr ⟨lw_p47, fun _ h => absurd h List.not_mem_nil⟩⟩⟩⟩⟩⟩⟩⟩⟩⟩⟩⟩⟩⟩⟩⟩
theorem lw_p48 : lw_okq (⟨"GrudgeDeskModel", "person", "()I"⟩, 44) := ⟨⟨by decide +kernel, by decide +kernel⟩, List.mem_of_getElem? (i := 859) (by decide +kernel), List.mem_of_getElem? (i := 1087) (by decide +kernel), List.mem_of_getElem? (i := 1088) (by decide +kernel)⟩
theorem lw_p49 : lw_okq (⟨"GrudgeDeskModel", "isDone", "(I)Z"⟩, 44) := ⟨⟨by decide +kernel, by decide +kernel⟩, List.mem_of_getElem? (i := 859) (by decide +kernel), List.mem_of_getElem? (i := 1091) (by decide +kernel), List.mem_of_getElem? (i := 1092) (by decide +kernel)⟩
theorem lw_p50 : lw_okq (⟨"GrudgeDeskModel", "isOne", "(I)Z"⟩, 44) := ⟨⟨by decide +kernel, by decide +kernel⟩, List.mem_of_getElem? (i := 859) (by decide +kernel), List.mem_of_getElem? (i := 1097) (by decide +kernel), List.mem_of_getElem? (i := 1098) (by decide +kernel)⟩
theorem lw_p51 : lw_okq (⟨"GrudgeDeskModel", "alone", "(I)I"⟩, 44) := ⟨⟨by decide +kernel, by decide +kernel⟩, List.mem_of_getElem? (i := 859) (by decide +kernel), List.mem_of_getElem? (i := 1101) (by decide +kernel), List.mem_of_getElem? (i := 1102) (by decide +kernel)⟩
theorem lw_p52 : lw_okq (⟨"GrudgeDeskModel", "becomes", "()Z"⟩, 44) := ⟨⟨by decide +kernel, by decide +kernel⟩, List.mem_of_getElem? (i := 859) (by decide +kernel), List.mem_of_getElem? (i := 1111) (by decide +kernel), List.mem_of_getElem? (i := 1112) (by decide +kernel)⟩
theorem lw_p53 : lw_okq (⟨"GrudgeDeskModel", "reckon", "()V"⟩, 44) := ⟨⟨by decide +kernel, by decide +kernel⟩, List.mem_of_getElem? (i := 859) (by decide +kernel), List.mem_of_getElem? (i := 1119) (by decide +kernel), List.mem_of_getElem? (i := 1120) (by decide +kernel)⟩
theorem lw_p54 : lw_okq (⟨"GrudgeDeskModel", "corners", "(II)V"⟩, 44) := ⟨⟨by decide +kernel, by decide +kernel⟩, List.mem_of_getElem? (i := 859) (by decide +kernel), List.mem_of_getElem? (i := 1123) (by decide +kernel), List.mem_of_getElem? (i := 1124) (by decide +kernel)⟩
theorem lw_p55 : lw_okq (⟨"GrudgeDeskModel", "isSolved", "(Z)Z"⟩, 44) := ⟨⟨by decide +kernel, by decide +kernel⟩, List.mem_of_getElem? (i := 859) (by decide +kernel), List.mem_of_getElem? (i := 1127) (by decide +kernel), List.mem_of_getElem? (i := 1128) (by decide +kernel)⟩
theorem lw_p56 : lw_okq (⟨"GrudgeDeskModel", "setsUp", "(Z)V"⟩, 44) := ⟨⟨by decide +kernel, by decide +kernel⟩, List.mem_of_getElem? (i := 859) (by decide +kernel), List.mem_of_getElem? (i := 1131) (by decide +kernel), List.mem_of_getElem? (i := 1132) (by decide +kernel)⟩
theorem lw_p57 : lw_okq (⟨"GrudgeDeskModel", "swaps", "(II)V"⟩, 44) := ⟨⟨by decide +kernel, by decide +kernel⟩, List.mem_of_getElem? (i := 859) (by decide +kernel), List.mem_of_getElem? (i := 1135) (by decide +kernel), List.mem_of_getElem? (i := 1136) (by decide +kernel)⟩
theorem lw_p58 : lw_okq (⟨"GrudgeDeskModel", "corner", "()V"⟩, 44) := ⟨⟨by decide +kernel, by decide +kernel⟩, List.mem_of_getElem? (i := 859) (by decide +kernel), List.mem_of_getElem? (i := 1139) (by decide +kernel), List.mem_of_getElem? (i := 1140) (by decide +kernel)⟩
theorem lw_p59 : lw_okq (⟨"GrudgeDeskModel", "sumOf", "(I)J"⟩, 44) := ⟨⟨by decide +kernel, by decide +kernel⟩, List.mem_of_getElem? (i := 859) (by decide +kernel), List.mem_of_getElem? (i := 1143) (by decide +kernel), List.mem_of_getElem? (i := 1144) (by decide +kernel)⟩
theorem lw_p60 : lw_okq (⟨"GrudgeDeskModel", "fix", "()V"⟩, 44) := ⟨⟨by decide +kernel, by decide +kernel⟩, List.mem_of_getElem? (i := 859) (by decide +kernel), List.mem_of_getElem? (i := 1148) (by decide +kernel), List.mem_of_getElem? (i := 1149) (by decide +kernel)⟩
theorem lw_p61 : lw_okq (⟨"GrudgeDeskModel", "isMore", "(I)Z"⟩, 44) := ⟨⟨by decide +kernel, by decide +kernel⟩, List.mem_of_getElem? (i := 859) (by decide +kernel), List.mem_of_getElem? (i := 1155) (by decide +kernel), List.mem_of_getElem? (i := 1156) (by decide +kernel)⟩
theorem lw_p62 : lw_okq (⟨"GrudgeDeskModel", "lowers", "()Z"⟩, 44) := ⟨⟨by decide +kernel, by decide +kernel⟩, List.mem_of_getElem? (i := 859) (by decide +kernel), List.mem_of_getElem? (i := 1159) (by decide +kernel), List.mem_of_getElem? (i := 1160) (by decide +kernel)⟩
theorem lw_p63 : lw_okq (⟨"GrudgeDeskModel", "lead", "(I)I"⟩, 44) := ⟨⟨by decide +kernel, by decide +kernel⟩, List.mem_of_getElem? (i := 859) (by decide +kernel), List.mem_of_getElem? (i := 1163) (by decide +kernel), List.mem_of_getElem? (i := 1164) (by decide +kernel)⟩
def lw_privs_4 : List (MethodName × Nat) := [(⟨"GrudgeDeskModel", "person", "()I"⟩, 44), (⟨"GrudgeDeskModel", "isDone", "(I)Z"⟩, 44), (⟨"GrudgeDeskModel", "isOne", "(I)Z"⟩, 44), (⟨"GrudgeDeskModel", "alone", "(I)I"⟩, 44), (⟨"GrudgeDeskModel", "becomes", "()Z"⟩, 44), (⟨"GrudgeDeskModel", "reckon", "()V"⟩, 44), (⟨"GrudgeDeskModel", "corners", "(II)V"⟩, 44), (⟨"GrudgeDeskModel", "isSolved", "(Z)Z"⟩, 44), (⟨"GrudgeDeskModel", "setsUp", "(Z)V"⟩, 44), (⟨"GrudgeDeskModel", "swaps", "(II)V"⟩, 44), (⟨"GrudgeDeskModel", "corner", "()V"⟩, 44), (⟨"GrudgeDeskModel", "sumOf", "(I)J"⟩, 44), (⟨"GrudgeDeskModel", "fix", "()V"⟩, 44), (⟨"GrudgeDeskModel", "isMore", "(I)Z"⟩, 44), (⟨"GrudgeDeskModel", "lowers", "()Z"⟩, 44), (⟨"GrudgeDeskModel", "lead", "(I)I"⟩, 44)]
theorem lw_r4 : ∀ q ∈ lw_privs_4, lw_okq q := List.forall_mem_cons.mpr ⟨lw_p48, List.forall_mem_cons.mpr ⟨lw_p49, List.forall_mem_cons.mpr ⟨lw_p50, List.forall_mem_cons.mpr ⟨lw_p51, List.forall_mem_cons.mpr ⟨lw_p52, List.forall_mem_cons.mpr ⟨lw_p53, List.forall_mem_cons.mpr ⟨lw_p54, List.forall_mem_cons.mpr ⟨lw_p55, List.forall_mem_cons.mpr ⟨lw_p56, List.forall_mem_cons.mpr ⟨lw_p57, List.forall_mem_cons.mpr ⟨lw_p58, List.forall_mem_cons.mpr ⟨lw_p59, List.forall_mem_cons.mpr ⟨lw_p60, List.forall_mem_cons.mpr ⟨lw_p61, List.forall_mem_cons.mpr ⟨lw_p62, List.forall_mem_cons.mpr ⟨lw_p63, fun _ h => absurd h List.not_mem_nil⟩⟩⟩⟩⟩⟩⟩⟩⟩⟩⟩⟩⟩⟩⟩⟩
theorem lw_p64 : lw_okq (⟨"GrudgeDeskModel", "isStage", "(I)Z"⟩, 44) := ⟨⟨by decide +kernel, by decide +kernel⟩, List.mem_of_getElem? (i := 859) (by decide +kernel), List.mem_of_getElem? (i := 1171) (by decide +kernel), List.mem_of_getElem? (i := 1172) (by decide +kernel)⟩
theorem lw_p65 : lw_okq (⟨"GrudgeDeskModel", "isPart", "(I)Z"⟩, 44) := ⟨⟨by decide +kernel, by decide +kernel⟩, List.mem_of_getElem? (i := 859) (by decide +kernel), List.mem_of_getElem? (i := 1183) (by decide +kernel), List.mem_of_getElem? (i := 1184) (by decide +kernel)⟩
theorem lw_p66 : lw_okq (⟨"GrudgeDeskModel", "fairAbove", "(I)J"⟩, 44) := ⟨⟨by decide +kernel, by decide +kernel⟩, List.mem_of_getElem? (i := 859) (by decide +kernel), List.mem_of_getElem? (i := 1191) (by decide +kernel), List.mem_of_getElem? (i := 1192) (by decide +kernel)⟩
theorem lw_p67 : lw_okq (⟨"GrudgeDeskModel", "fairBelow", "(I)J"⟩, 44) := ⟨⟨by decide +kernel, by decide +kernel⟩, List.mem_of_getElem? (i := 859) (by decide +kernel), List.mem_of_getElem? (i := 1195) (by decide +kernel), List.mem_of_getElem? (i := 1196) (by decide +kernel)⟩
theorem lw_p68 : lw_okq (⟨"GrudgeDeskModel", "cheaper", "(II)V"⟩, 44) := ⟨⟨by decide +kernel, by decide +kernel⟩, List.mem_of_getElem? (i := 859) (by decide +kernel), List.mem_of_getElem? (i := 1219) (by decide +kernel), List.mem_of_getElem? (i := 1220) (by decide +kernel)⟩
theorem lw_p69 : lw_okq (⟨"GrudgeDeskModel", "turns", "(II)V"⟩, 44) := ⟨⟨by decide +kernel, by decide +kernel⟩, List.mem_of_getElem? (i := 859) (by decide +kernel), List.mem_of_getElem? (i := 1227) (by decide +kernel), List.mem_of_getElem? (i := 1228) (by decide +kernel)⟩
theorem lw_p70 : lw_okq (⟨"GrudgeDeskModel", "isAgainst", "(III)Z"⟩, 44) := ⟨⟨by decide +kernel, by decide +kernel⟩, List.mem_of_getElem? (i := 859) (by decide +kernel), List.mem_of_getElem? (i := 1248) (by decide +kernel), List.mem_of_getElem? (i := 1249) (by decide +kernel)⟩
theorem lw_p71 : lw_okq (⟨"GrudgeDeskModel", "tellsShares", "(II)I"⟩, 44) := ⟨⟨by decide +kernel, by decide +kernel⟩, List.mem_of_getElem? (i := 859) (by decide +kernel), List.mem_of_getElem? (i := 1269) (by decide +kernel), List.mem_of_getElem? (i := 1270) (by decide +kernel)⟩
theorem lw_p72 : lw_okq (⟨"GrudgeDeskModel", "toldGrudge", "(I)J"⟩, 44) := ⟨⟨by decide +kernel, by decide +kernel⟩, List.mem_of_getElem? (i := 859) (by decide +kernel), List.mem_of_getElem? (i := 1280) (by decide +kernel), List.mem_of_getElem? (i := 1281) (by decide +kernel)⟩
theorem lw_p73 : lw_okq (⟨"GrudgeDeskModel", "shareOf", "(I)J"⟩, 44) := ⟨⟨by decide +kernel, by decide +kernel⟩, List.mem_of_getElem? (i := 859) (by decide +kernel), List.mem_of_getElem? (i := 1284) (by decide +kernel), List.mem_of_getElem? (i := 1285) (by decide +kernel)⟩
theorem lw_p74 : lw_okq (⟨"GrudgeDeskModel", "isGood", "()Z"⟩, 44) := ⟨⟨by decide +kernel, by decide +kernel⟩, List.mem_of_getElem? (i := 859) (by decide +kernel), List.mem_of_getElem? (i := 1292) (by decide +kernel), List.mem_of_getElem? (i := 1293) (by decide +kernel)⟩
theorem lw_p75 : lw_okq (⟨"GrudgeDeskModel", "toldAt", "(I)I"⟩, 44) := ⟨⟨by decide +kernel, by decide +kernel⟩, List.mem_of_getElem? (i := 859) (by decide +kernel), List.mem_of_getElem? (i := 1300) (by decide +kernel), List.mem_of_getElem? (i := 1301) (by decide +kernel)⟩
theorem lw_p76 : lw_okq (⟨"GrudgeDeskModel", "fairBelow1", "(I)J"⟩, 44) := ⟨⟨by decide +kernel, by decide +kernel⟩, List.mem_of_getElem? (i := 859) (by decide +kernel), List.mem_of_getElem? (i := 1316) (by decide +kernel), List.mem_of_getElem? (i := 1317) (by decide +kernel)⟩
theorem lw_p77 : lw_okq (⟨"GrudgeDeskModel", "tellsWeights", "(II)I"⟩, 44) := ⟨⟨by decide +kernel, by decide +kernel⟩, List.mem_of_getElem? (i := 859) (by decide +kernel), List.mem_of_getElem? (i := 1324) (by decide +kernel), List.mem_of_getElem? (i := 1325) (by decide +kernel)⟩
theorem lw_p78 : lw_okq (⟨"GrudgeDeskModel", "weight", "(I)J"⟩, 44) := ⟨⟨by decide +kernel, by decide +kernel⟩, List.mem_of_getElem? (i := 859) (by decide +kernel), List.mem_of_getElem? (i := 1328) (by decide +kernel), List.mem_of_getElem? (i := 1329) (by decide +kernel)⟩
theorem lw_p79 : lw_okq (⟨"GrudgeDeskModel", "tilted", "()I"⟩, 44) := ⟨⟨by decide +kernel, by decide +kernel⟩, List.mem_of_getElem? (i := 859) (by decide +kernel), List.mem_of_getElem? (i := 1332) (by decide +kernel), List.mem_of_getElem? (i := 1333) (by decide +kernel)⟩
def lw_privs_5 : List (MethodName × Nat) := [(⟨"GrudgeDeskModel", "isStage", "(I)Z"⟩, 44), (⟨"GrudgeDeskModel", "isPart", "(I)Z"⟩, 44), (⟨"GrudgeDeskModel", "fairAbove", "(I)J"⟩, 44), (⟨"GrudgeDeskModel", "fairBelow", "(I)J"⟩, 44), (⟨"GrudgeDeskModel", "cheaper", "(II)V"⟩, 44), (⟨"GrudgeDeskModel", "turns", "(II)V"⟩, 44), (⟨"GrudgeDeskModel", "isAgainst", "(III)Z"⟩, 44), (⟨"GrudgeDeskModel", "tellsShares", "(II)I"⟩, 44), (⟨"GrudgeDeskModel", "toldGrudge", "(I)J"⟩, 44), (⟨"GrudgeDeskModel", "shareOf", "(I)J"⟩, 44), (⟨"GrudgeDeskModel", "isGood", "()Z"⟩, 44), (⟨"GrudgeDeskModel", "toldAt", "(I)I"⟩, 44), (⟨"GrudgeDeskModel", "fairBelow1", "(I)J"⟩, 44), (⟨"GrudgeDeskModel", "tellsWeights", "(II)I"⟩, 44), (⟨"GrudgeDeskModel", "weight", "(I)J"⟩, 44), (⟨"GrudgeDeskModel", "tilted", "()I"⟩, 44)]
theorem lw_r5 : ∀ q ∈ lw_privs_5, lw_okq q := List.forall_mem_cons.mpr ⟨lw_p64, List.forall_mem_cons.mpr ⟨lw_p65, List.forall_mem_cons.mpr ⟨lw_p66, List.forall_mem_cons.mpr ⟨lw_p67, List.forall_mem_cons.mpr ⟨lw_p68, List.forall_mem_cons.mpr ⟨lw_p69, List.forall_mem_cons.mpr ⟨lw_p70, List.forall_mem_cons.mpr ⟨lw_p71, List.forall_mem_cons.mpr ⟨lw_p72, List.forall_mem_cons.mpr ⟨lw_p73, List.forall_mem_cons.mpr ⟨lw_p74, List.forall_mem_cons.mpr ⟨lw_p75, List.forall_mem_cons.mpr ⟨lw_p76, List.forall_mem_cons.mpr ⟨lw_p77, List.forall_mem_cons.mpr ⟨lw_p78, List.forall_mem_cons.mpr ⟨lw_p79, fun _ h => absurd h List.not_mem_nil⟩⟩⟩⟩⟩⟩⟩⟩⟩⟩⟩⟩⟩⟩⟩⟩
theorem lw_p80 : lw_okq (⟨"GrudgeDeskModel", "weightOf", "(I)J"⟩, 44) := ⟨⟨by decide +kernel, by decide +kernel⟩, List.mem_of_getElem? (i := 859) (by decide +kernel), List.mem_of_getElem? (i := 1336) (by decide +kernel), List.mem_of_getElem? (i := 1337) (by decide +kernel)⟩
theorem lw_p81 : lw_okq (⟨"GrudgeDeskModel", "provedAbove", "()J"⟩, 44) := ⟨⟨by decide +kernel, by decide +kernel⟩, List.mem_of_getElem? (i := 859) (by decide +kernel), List.mem_of_getElem? (i := 1340) (by decide +kernel), List.mem_of_getElem? (i := 1341) (by decide +kernel)⟩
theorem lw_p82 : lw_okq (⟨"GrudgeDeskModel", "provedBelow", "()J"⟩, 44) := ⟨⟨by decide +kernel, by decide +kernel⟩, List.mem_of_getElem? (i := 859) (by decide +kernel), List.mem_of_getElem? (i := 1344) (by decide +kernel), List.mem_of_getElem? (i := 1345) (by decide +kernel)⟩
def lw_privs_6 : List (MethodName × Nat) := [(⟨"GrudgeDeskModel", "weightOf", "(I)J"⟩, 44), (⟨"GrudgeDeskModel", "provedAbove", "()J"⟩, 44), (⟨"GrudgeDeskModel", "provedBelow", "()J"⟩, 44)]
theorem lw_r6 : ∀ q ∈ lw_privs_6, lw_okq q := List.forall_mem_cons.mpr ⟨lw_p80, List.forall_mem_cons.mpr ⟨lw_p81, List.forall_mem_cons.mpr ⟨lw_p82, fun _ h => absurd h List.not_mem_nil⟩⟩⟩
def lw_privs : List (MethodName × Nat) := lw_privs_1 ++ (lw_privs_2 ++ (lw_privs_3 ++ (lw_privs_4 ++ (lw_privs_5 ++ (lw_privs_6)))))
def lw_tbl : List Cond := k2_sels lw_privs ++ tables_1
theorem lw_privs_ok : ∀ q ∈ lw_privs, lw_okq q := by
  show ∀ q ∈ lw_privs_1 ++ (lw_privs_2 ++ (lw_privs_3 ++ (lw_privs_4 ++ (lw_privs_5 ++ (lw_privs_6))))), lw_okq q
  exact List.forall_mem_append.mpr ⟨lw_r1, List.forall_mem_append.mpr ⟨lw_r2, List.forall_mem_append.mpr ⟨lw_r3, List.forall_mem_append.mpr ⟨lw_r4, List.forall_mem_append.mpr ⟨lw_r5, lw_r6⟩⟩⟩⟩⟩
end
section
def RX0 : String := "GrudgeDesk$Balanced"
def RX1 : String := "GrudgeDesk$Fractions"
def RX2 : String := "GrudgeDesk$Game"
def RX3 : String := "GrudgeDesk$Kinds"
def RX4 : String := "GrudgeDesk$Rows"
def RX5 : String := "GrudgeDesk$Script"
def RX6 : String := "GrudgeDesk$Shares"
def RX7 : String := "GrudgeDesk$Stages"
def RX8 : String := "GrudgeDesk$Weights"
def RX9 : String := "GrudgeDesk"
def RX10 : String := "GrudgeDeskModel"
def RJ6 : String := "java/lang/Integer"
def RJ9 : String := "java/lang/Math"
def RJ0 : String := "java/lang/String"
def RJ1 : String := "java/lang/StringLatin1"
def RJ2 : String := "java/lang/StringUTF16"
def RJ10 : String := "java/lang/System"
def RJ3 : String := "jdk/internal/util/Preconditions"
def RL : String := "GrudgeDeskLaw"
def TX2 : u_T := fun k => match k with
  | 0 => ("GrudgeDesk$Game", "n", "I", false)
  | _ => ("GrudgeDesk$Game", "v", "[I", true)
def tyX2 : Nat → FieldType := fun k => match k with
  | 0 => .int
  | _ => .array .int
theorem nmX2 : ∀ a, a < 2 → ∀ b, b < 2 → a ≠ b → (TX2 a).2.1 ≠ (TX2 b).2.1 := by decide +kernel
theorem tyX2_ok : ∀ k, k < 2 → parseFieldDescriptor (TX2 k).2.2.1 = some (tyX2 k) := by decide +kernel
def TX4 : u_T := fun k => match k with
  | 0 => ("GrudgeDesk$Rows", "numbers", "[[J", true)
  | _ => ("GrudgeDesk$Rows", "sizes", "[I", true)
def tyX4 : Nat → FieldType := fun k => match k with
  | 0 => .array (.array .long)
  | _ => .array .int
theorem nmX4 : ∀ a, a < 2 → ∀ b, b < 2 → a ≠ b → (TX4 a).2.1 ≠ (TX4 b).2.1 := by decide +kernel
theorem tyX4_ok : ∀ k, k < 2 → parseFieldDescriptor (TX4 k).2.2.1 = some (tyX4 k) := by decide +kernel
def TX5 : u_T := fun k => match k with
  | 0 => ("GrudgeDesk$Script", "length", "I", false)
  | 1 => ("GrudgeDesk$Script", "tape", "[I", true)
  | 2 => ("GrudgeDesk$Script", "kinds", "[I", true)
  | 3 => ("GrudgeDesk$Script", "firsts", "[I", true)
  | 4 => ("GrudgeDesk$Script", "seconds", "[I", true)
  | 5 => ("GrudgeDesk$Script", "next", "[I", true)
  | 6 => ("GrudgeDesk$Script", "count", "I", false)
  | 7 => ("GrudgeDesk$Script", "place", "I", false)
  | 8 => ("GrudgeDesk$Script", "fault", "I", false)
  | _ => ("GrudgeDesk$Script", "value", "I", false)
def tyX5 : Nat → FieldType := fun k => match k with
  | 0 => .int
  | 1 => .array .int
  | 2 => .array .int
  | 3 => .array .int
  | 4 => .array .int
  | 5 => .array .int
  | 6 => .int
  | 7 => .int
  | 8 => .int
  | _ => .int
theorem nmX5 : ∀ a, a < 10 → ∀ b, b < 10 → a ≠ b → (TX5 a).2.1 ≠ (TX5 b).2.1 := by decide +kernel
theorem tyX5_ok : ∀ k, k < 10 → parseFieldDescriptor (TX5 k).2.2.1 = some (tyX5 k) := by decide +kernel
def TX6 : u_T := fun k => match k with
  | 0 => ("GrudgeDesk$Shares", "below", "J", false)
  | 1 => ("GrudgeDesk$Shares", "above", "[J", true)
  | 2 => ("GrudgeDesk$Shares", "grudges", "[J", true)
  | 3 => ("GrudgeDesk$Shares", "n", "I", false)
  | _ => ("GrudgeDesk$Shares", "all", "I", false)
def tyX6 : Nat → FieldType := fun k => match k with
  | 0 => .long
  | 1 => .array .long
  | 2 => .array .long
  | 3 => .int
  | _ => .int
theorem nmX6 : ∀ a, a < 5 → ∀ b, b < 5 → a ≠ b → (TX6 a).2.1 ≠ (TX6 b).2.1 := by decide +kernel
theorem tyX6_ok : ∀ k, k < 5 → parseFieldDescriptor (TX6 k).2.2.1 = some (tyX6 k) := by decide +kernel
def TX7 : u_T := fun k => match k with
  | 0 => ("GrudgeDesk$Stages", "count", "I", false)
  | 1 => ("GrudgeDesk$Stages", "tops", "[J", true)
  | 2 => ("GrudgeDesk$Stages", "bottoms", "[J", true)
  | 3 => ("GrudgeDesk$Stages", "fixes", "[I", true)
  | 4 => ("GrudgeDesk$Stages", "fairShares", "LGrudgeDesk$Shares;", true)
  | 5 => ("GrudgeDesk$Stages", "wayCount", "I", false)
  | 6 => ("GrudgeDesk$Stages", "ways", "[[J", true)
  | 7 => ("GrudgeDesk$Stages", "open", "I", false)
  | 8 => ("GrudgeDesk$Stages", "openCount", "I", false)
  | 9 => ("GrudgeDesk$Stages", "parts", "[I", true)
  | 10 => ("GrudgeDesk$Stages", "along", "[J", true)
  | 11 => ("GrudgeDesk$Stages", "across", "[J", true)
  | 12 => ("GrudgeDesk$Stages", "heights", "[J", true)
  | 13 => ("GrudgeDesk$Stages", "bestSet", "I", false)
  | 14 => ("GrudgeDesk$Stages", "bestTop", "J", false)
  | _ => ("GrudgeDesk$Stages", "bestBottom", "J", false)
def tyX7 : Nat → FieldType := fun k => match k with
  | 0 => .int
  | 1 => .array .long
  | 2 => .array .long
  | 3 => .array .int
  | 4 => .object "GrudgeDesk$Shares"
  | 5 => .int
  | 6 => .array (.array .long)
  | 7 => .int
  | 8 => .int
  | 9 => .array .int
  | 10 => .array .long
  | 11 => .array .long
  | 12 => .array .long
  | 13 => .int
  | 14 => .long
  | _ => .long
theorem nmX7 : ∀ a, a < 16 → ∀ b, b < 16 → a ≠ b → (TX7 a).2.1 ≠ (TX7 b).2.1 := by decide +kernel
theorem tyX7_ok : ∀ k, k < 16 → parseFieldDescriptor (TX7 k).2.2.1 = some (tyX7 k) := by decide +kernel
def TX8 : u_T := fun k => match k with
  | 0 => ("GrudgeDesk$Weights", "each", "[J", true)
  | 1 => ("GrudgeDesk$Weights", "n", "I", false)
  | _ => ("GrudgeDesk$Weights", "all", "I", false)
def tyX8 : Nat → FieldType := fun k => match k with
  | 0 => .array .long
  | 1 => .int
  | _ => .int
theorem nmX8 : ∀ a, a < 3 → ∀ b, b < 3 → a ≠ b → (TX8 a).2.1 ≠ (TX8 b).2.1 := by decide +kernel
theorem tyX8_ok : ∀ k, k < 3 → parseFieldDescriptor (TX8 k).2.2.1 = some (tyX8 k) := by decide +kernel
def TX9 : u_T := fun k => match k with
  | 0 => ("GrudgeDesk", "game", "LGrudgeDesk$Game;", true)
  | 1 => ("GrudgeDesk", "kept", "LGrudgeDesk$Game;", true)
  | 2 => ("GrudgeDesk", "trial", "LGrudgeDesk$Game;", true)
  | 3 => ("GrudgeDesk", "script", "LGrudgeDesk$Script;", true)
  | 4 => ("GrudgeDesk", "present", "LGrudgeDesk$Stages;", true)
  | 5 => ("GrudgeDesk", "tried", "LGrudgeDesk$Stages;", true)
  | 6 => ("GrudgeDesk", "one", "LGrudgeDesk$Shares;", true)
  | 7 => ("GrudgeDesk", "other", "LGrudgeDesk$Shares;", true)
  | 8 => ("GrudgeDesk", "weights", "LGrudgeDesk$Weights;", true)
  | 9 => ("GrudgeDesk", "rows", "LGrudgeDesk$Rows;", true)
  | 10 => ("GrudgeDesk", "stale", "Z", false)
  | _ => ("GrudgeDesk", "imaged", "Z", false)
def tyX9 : Nat → FieldType := fun k => match k with
  | 0 => .object "GrudgeDesk$Game"
  | 1 => .object "GrudgeDesk$Game"
  | 2 => .object "GrudgeDesk$Game"
  | 3 => .object "GrudgeDesk$Script"
  | 4 => .object "GrudgeDesk$Stages"
  | 5 => .object "GrudgeDesk$Stages"
  | 6 => .object "GrudgeDesk$Shares"
  | 7 => .object "GrudgeDesk$Shares"
  | 8 => .object "GrudgeDesk$Weights"
  | 9 => .object "GrudgeDesk$Rows"
  | 10 => .boolean
  | _ => .boolean
theorem nmX9 : ∀ a, a < 12 → ∀ b, b < 12 → a ≠ b → (TX9 a).2.1 ≠ (TX9 b).2.1 := by decide +kernel
theorem tyX9_ok : ∀ k, k < 12 → parseFieldDescriptor (TX9 k).2.2.1 = some (tyX9 k) := by decide +kernel
def TX10 : u_T := fun k => match k with
  | 0 => ("GrudgeDeskModel", "thrown", "I", false)
  | 1 => ("GrudgeDeskModel", "n", "I", false)
  | 2 => ("GrudgeDeskModel", "worths", "[I", true)
  | 3 => ("GrudgeDeskModel", "kept", "[I", true)
  | 4 => ("GrudgeDeskModel", "keptPeople", "I", false)
  | 5 => ("GrudgeDeskModel", "tape", "[I", true)
  | 6 => ("GrudgeDeskModel", "taped", "I", false)
  | 7 => ("GrudgeDeskModel", "at", "I", false)
  | 8 => ("GrudgeDeskModel", "isWrong", "Z", false)
  | 9 => ("GrudgeDeskModel", "fault", "I", false)
  | 10 => ("GrudgeDeskModel", "sorts", "[I", true)
  | 11 => ("GrudgeDeskModel", "ones", "[I", true)
  | 12 => ("GrudgeDeskModel", "twos", "[I", true)
  | 13 => ("GrudgeDeskModel", "deedMany", "I", false)
  | 14 => ("GrudgeDeskModel", "next", "[I", true)
  | 15 => ("GrudgeDeskModel", "rowSets", "[I", true)
  | 16 => ("GrudgeDeskModel", "rowSums", "[J", true)
  | 17 => ("GrudgeDeskModel", "certain", "I", false)
  | 18 => ("GrudgeDeskModel", "cells", "[J", true)
  | 19 => ("GrudgeDeskModel", "dim", "I", false)
  | 20 => ("GrudgeDeskModel", "above", "[J", true)
  | 21 => ("GrudgeDeskModel", "below", "J", false)
  | 22 => ("GrudgeDeskModel", "isOld", "Z", false)
  | 23 => ("GrudgeDeskModel", "stageMany", "I", false)
  | 24 => ("GrudgeDeskModel", "levelAbove", "[J", true)
  | 25 => ("GrudgeDeskModel", "levelBelow", "[J", true)
  | 26 => ("GrudgeDeskModel", "fixes", "[I", true)
  | 27 => ("GrudgeDeskModel", "stages", "[I", true)
  | 28 => ("GrudgeDeskModel", "left", "I", false)
  | 29 => ("GrudgeDeskModel", "scale", "J", false)
  | 30 => ("GrudgeDeskModel", "bestAbove", "J", false)
  | 31 => ("GrudgeDeskModel", "bestBelow", "J", false)
  | 32 => ("GrudgeDeskModel", "tight", "I", false)
  | 33 => ("GrudgeDeskModel", "ranks", "[I", true)
  | 34 => ("GrudgeDeskModel", "rank", "I", false)
  | 35 => ("GrudgeDeskModel", "turnSum", "J", false)
  | 36 => ("GrudgeDeskModel", "turnMany", "I", false)
  | 37 => ("GrudgeDeskModel", "parts", "J", false)
  | 38 => ("GrudgeDeskModel", "share", "[J", true)
  | 39 => ("GrudgeDeskModel", "firstGrudges", "[J", true)
  | 40 => ("GrudgeDeskModel", "weightsAt", "I", false)
  | 41 => ("GrudgeDeskModel", "isThere", "[Z", true)
  | 42 => ("GrudgeDeskModel", "sizes", "[I", true)
  | _ => ("GrudgeDeskModel", "items", "[J", true)
def tyX10 : Nat → FieldType := fun k => match k with
  | 0 => .int
  | 1 => .int
  | 2 => .array .int
  | 3 => .array .int
  | 4 => .int
  | 5 => .array .int
  | 6 => .int
  | 7 => .int
  | 8 => .boolean
  | 9 => .int
  | 10 => .array .int
  | 11 => .array .int
  | 12 => .array .int
  | 13 => .int
  | 14 => .array .int
  | 15 => .array .int
  | 16 => .array .long
  | 17 => .int
  | 18 => .array .long
  | 19 => .int
  | 20 => .array .long
  | 21 => .long
  | 22 => .boolean
  | 23 => .int
  | 24 => .array .long
  | 25 => .array .long
  | 26 => .array .int
  | 27 => .array .int
  | 28 => .int
  | 29 => .long
  | 30 => .long
  | 31 => .long
  | 32 => .int
  | 33 => .array .int
  | 34 => .int
  | 35 => .long
  | 36 => .int
  | 37 => .long
  | 38 => .array .long
  | 39 => .array .long
  | 40 => .int
  | 41 => .array .boolean
  | 42 => .array .int
  | _ => .array .long
theorem nmX10 : ∀ a, a < 44 → ∀ b, b < 44 → a ≠ b → (TX10 a).2.1 ≠ (TX10 b).2.1 := by decide +kernel
theorem tyX10_ok : ∀ k, k < 44 → parseFieldDescriptor (TX10 k).2.2.1 = some (tyX10 k) := by decide +kernel
abbrev vwCl : List vw_C := [(RX2, TX2, 2), (RX4, TX4, 2), (RX5, TX5, 10), (RX6, TX6, 5), (RX7, TX7, 16), (RX8, TX8, 3), (RX9, TX9, 12), (RX10, TX10, 44)]
def rr_cn : List String := [RX0, RX1, RX2, RX3, RX4, RX5, RX6, RX7, RX8, RX9, RX10, RJ6, RJ9, RJ0, RJ1, RJ2, RJ10, RJ3, RL]
abbrev b_Balanced_tableOf : ByteArray := prog_2_method_2_code
def y_Balanced_tableOf : MethodName := ⟨RX0, "tableOf", "(I)[I"⟩
abbrev b_Balanced_offerAll : ByteArray := prog_2_method_3_code
def y_Balanced_offerAll : MethodName := ⟨RX0, "offerAll", "(LGrudgeDesk$Game;LGrudgeDesk$Stages;)V"⟩
abbrev b_Balanced_sumOfWorths : ByteArray := prog_2_method_4_code
def y_Balanced_sumOfWorths : MethodName := ⟨RX0, "sumOfWorths", "(LGrudgeDesk$Game;[II)I"⟩
abbrev b_Balanced_costOf : ByteArray := prog_2_method_5_code
def y_Balanced_costOf : MethodName := ⟨RX0, "costOf", "(LGrudgeDesk$Game;I)J"⟩
abbrev b_Fractions_hasPart : ByteArray := prog_3_method_2_code
def y_Fractions_hasPart : MethodName := ⟨RX1, "hasPart", "(I)Z"⟩
abbrev b_Fractions_commonDivisor : ByteArray := prog_3_method_3_code
def y_Fractions_commonDivisor : MethodName := ⟨RX1, "commonDivisor", "(JJ)J"⟩
abbrev b_Fractions_lowest : ByteArray := prog_3_method_4_code
def y_Fractions_lowest : MethodName := ⟨RX1, "lowest", "(JJI)J"⟩
abbrev b_Game_init : ByteArray := prog_4_method_1_code
def y_Game_init : MethodName := ⟨RX2, "<init>", "()V"⟩
abbrev b_Game_mayBeMany : ByteArray := prog_4_method_2_code
def y_Game_mayBeMany : MethodName := ⟨RX2, "mayBeMany", "(I)Z"⟩
abbrev b_Game_mayBeWorth : ByteArray := prog_4_method_3_code
def y_Game_mayBeWorth : MethodName := ⟨RX2, "mayBeWorth", "(I)Z"⟩
abbrev b_Game_all : ByteArray := prog_4_method_4_code
def y_Game_all : MethodName := ⟨RX2, "all", "()I"⟩
abbrev b_Game_hasGroup : ByteArray := prog_4_method_5_code
def y_Game_hasGroup : MethodName := ⟨RX2, "hasGroup", "(I)Z"⟩
abbrev b_Game_hasPart : ByteArray := prog_4_method_6_code
def y_Game_hasPart : MethodName := ⟨RX2, "hasPart", "(I)Z"⟩
abbrev b_Game_hasOne : ByteArray := prog_4_method_7_code
def y_Game_hasOne : MethodName := ⟨RX2, "hasOne", "(I)Z"⟩
abbrev b_Game_begin : ByteArray := prog_4_method_8_code
def y_Game_begin : MethodName := ⟨RX2, "begin", "(I)V"⟩
abbrev b_Game_copyFrom : ByteArray := prog_4_method_9_code
def y_Game_copyFrom : MethodName := ⟨RX2, "copyFrom", "(LGrudgeDesk$Game;)V"⟩
abbrev b_Game_countBelowZero : ByteArray := prog_4_method_10_code
def y_Game_countBelowZero : MethodName := ⟨RX2, "countBelowZero", "()I"⟩
abbrev b_Game_sumOfEachAlone : ByteArray := prog_4_method_11_code
def y_Game_sumOfEachAlone : MethodName := ⟨RX2, "sumOfEachAlone", "(I)I"⟩
abbrev b_Kinds_hasKind : ByteArray := prog_5_method_2_code
def y_Kinds_hasKind : MethodName := ⟨RX3, "hasKind", "(I)Z"⟩
abbrev b_Kinds_turnsOf : ByteArray := prog_5_method_3_code
def y_Kinds_turnsOf : MethodName := ⟨RX3, "turnsOf", "(LGrudgeDesk$Game;II)J"⟩
abbrev b_Kinds_addsNothing : ByteArray := prog_5_method_4_code
def y_Kinds_addsNothing : MethodName := ⟨RX3, "addsNothing", "(LGrudgeDesk$Game;I)Z"⟩
abbrev b_Kinds_areAlike : ByteArray := prog_5_method_5_code
def y_Kinds_areAlike : MethodName := ⟨RX3, "areAlike", "(LGrudgeDesk$Game;II)Z"⟩
abbrev b_Kinds_leastAgainst : ByteArray := prog_5_method_6_code
def y_Kinds_leastAgainst : MethodName := ⟨RX3, "leastAgainst", "(LGrudgeDesk$Game;I)I"⟩
abbrev b_Kinds_showsAgainst : ByteArray := prog_5_method_7_code
def y_Kinds_showsAgainst : MethodName := ⟨RX3, "showsAgainst", "([IIII)Z"⟩
abbrev b_Rows_init : ByteArray := prog_6_method_1_code
def y_Rows_init : MethodName := ⟨RX4, "<init>", "()V"⟩
abbrev b_Rows_hasList : ByteArray := prog_6_method_2_code
def y_Rows_hasList : MethodName := ⟨RX4, "hasList", "(I)Z"⟩
abbrev b_Rows_make : ByteArray := prog_6_method_3_code
def y_Rows_make : MethodName := ⟨RX4, "make", "(II)V"⟩
abbrev b_Rows_complaint : ByteArray := prog_6_method_4_code
def y_Rows_complaint : MethodName := ⟨RX4, "complaint", "(III)I"⟩
abbrev b_Rows_readShares : ByteArray := prog_6_method_5_code
def y_Rows_readShares : MethodName := ⟨RX4, "readShares", "(IILGrudgeDesk$Game;LGrudgeDesk$Shares;)I"⟩
abbrev b_Rows_putShares : ByteArray := prog_6_method_6_code
def y_Rows_putShares : MethodName := ⟨RX4, "putShares", "(IILGrudgeDesk$Shares;)I"⟩
abbrev b_Rows_readWeights : ByteArray := prog_6_method_7_code
def y_Rows_readWeights : MethodName := ⟨RX4, "readWeights", "(IILGrudgeDesk$Game;LGrudgeDesk$Weights;)I"⟩
abbrev b_Script_init : ByteArray := prog_7_method_1_code
def y_Script_init : MethodName := ⟨RX5, "<init>", "()V"⟩
abbrev b_Script_append : ByteArray := prog_7_method_2_code
def y_Script_append : MethodName := ⟨RX5, "append", "(I)Z"⟩
abbrev b_Script_read : ByteArray := prog_7_method_3_code
def y_Script_read : MethodName := ⟨RX5, "read", "()I"⟩
abbrev b_Script_readDeed : ByteArray := prog_7_method_4_code
def y_Script_readDeed : MethodName := ⟨RX5, "readDeed", "()Z"⟩
abbrev b_Script_readArguments : ByteArray := prog_7_method_5_code
def y_Script_readArguments : MethodName := ⟨RX5, "readArguments", "(I)Z"⟩
abbrev b_Script_keepIn : ByteArray := prog_7_method_6_code
def y_Script_keepIn : MethodName := ⟨RX5, "keepIn", "([I)Z"⟩
abbrev b_Script_failAt : ByteArray := prog_7_method_7_code
def y_Script_failAt : MethodName := ⟨RX5, "failAt", "(I)Z"⟩
abbrev b_Script_here : ByteArray := prog_7_method_8_code
def y_Script_here : MethodName := ⟨RX5, "here", "()I"⟩
abbrev b_Script_readBlank : ByteArray := prog_7_method_9_code
def y_Script_readBlank : MethodName := ⟨RX5, "readBlank", "()Z"⟩
abbrev b_Script_isFigureHere : ByteArray := prog_7_method_10_code
def y_Script_isFigureHere : MethodName := ⟨RX5, "isFigureHere", "()Z"⟩
abbrev b_Script_readNumber : ByteArray := prog_7_method_11_code
def y_Script_readNumber : MethodName := ⟨RX5, "readNumber", "()Z"⟩
abbrev b_Script_readGroup : ByteArray := prog_7_method_12_code
def y_Script_readGroup : MethodName := ⟨RX5, "readGroup", "()Z"⟩
abbrev b_Script_readPerson : ByteArray := prog_7_method_13_code
def y_Script_readPerson : MethodName := ⟨RX5, "readPerson", "()Z"⟩
abbrev b_Script_bitOf : ByteArray := prog_7_method_14_code
def y_Script_bitOf : MethodName := ⟨RX5, "bitOf", "(I)I"⟩
abbrev b_Script_passLetters : ByteArray := prog_7_method_15_code
def y_Script_passLetters : MethodName := ⟨RX5, "passLetters", "()V"⟩
abbrev b_Script_kindOf : ByteArray := prog_7_method_16_code
def y_Script_kindOf : MethodName := ⟨RX5, "kindOf", "(I)I"⟩
abbrev b_Script_spells : ByteArray := prog_7_method_17_code
def y_Script_spells : MethodName := ⟨RX5, "spells", "(ILjava/lang/String;)Z"⟩
abbrev b_Script_carryOut : ByteArray := prog_7_method_18_code
def y_Script_carryOut : MethodName := ⟨RX5, "carryOut", "(LGrudgeDesk$Game;)I"⟩
abbrev b_Script_isDone : ByteArray := prog_7_method_19_code
def y_Script_isDone : MethodName := ⟨RX5, "isDone", "(IIILGrudgeDesk$Game;)Z"⟩
abbrev b_Script_begins : ByteArray := prog_7_method_20_code
def y_Script_begins : MethodName := ⟨RX5, "begins", "(ILGrudgeDesk$Game;)Z"⟩
abbrev b_Script_becomes : ByteArray := prog_7_method_21_code
def y_Script_becomes : MethodName := ⟨RX5, "becomes", "(IILGrudgeDesk$Game;)Z"⟩
abbrev b_Script_turnsDual : ByteArray := prog_7_method_22_code
def y_Script_turnsDual : MethodName := ⟨RX5, "turnsDual", "(LGrudgeDesk$Game;)Z"⟩
abbrev b_Script_turnsZero : ByteArray := prog_7_method_23_code
def y_Script_turnsZero : MethodName := ⟨RX5, "turnsZero", "(LGrudgeDesk$Game;)Z"⟩
abbrev b_Script_swaps : ByteArray := prog_7_method_24_code
def y_Script_swaps : MethodName := ⟨RX5, "swaps", "(IILGrudgeDesk$Game;)Z"⟩
abbrev b_Script_takesNext : ByteArray := prog_7_method_25_code
def y_Script_takesNext : MethodName := ⟨RX5, "takesNext", "(LGrudgeDesk$Game;)Z"⟩
abbrev b_Shares_init : ByteArray := prog_8_method_1_code
def y_Shares_init : MethodName := ⟨RX6, "<init>", "()V"⟩
abbrev b_Shares_measure : ByteArray := prog_8_method_2_code
def y_Shares_measure : MethodName := ⟨RX6, "measure", "(LGrudgeDesk$Game;)V"⟩
abbrev b_Shares_sumOf : ByteArray := prog_8_method_3_code
def y_Shares_sumOf : MethodName := ⟨RX6, "sumOf", "(I)J"⟩
abbrev b_Shares_areGood : ByteArray := prog_8_method_4_code
def y_Shares_areGood : MethodName := ⟨RX6, "areGood", "(LGrudgeDesk$Game;)Z"⟩
abbrev b_Shares_anyGrudgeAboveZero : ByteArray := prog_8_method_5_code
def y_Shares_anyGrudgeAboveZero : MethodName := ⟨RX6, "anyGrudgeAboveZero", "()Z"⟩
abbrev b_Shares_shareOf : ByteArray := prog_8_method_6_code
def y_Shares_shareOf : MethodName := ⟨RX6, "shareOf", "(II)J"⟩
abbrev b_Shares_reaches : ByteArray := prog_8_method_7_code
def y_Shares_reaches : MethodName := ⟨RX6, "reaches", "(II)Z"⟩
abbrev b_Shares_grudgeOf : ByteArray := prog_8_method_8_code
def y_Shares_grudgeOf : MethodName := ⟨RX6, "grudgeOf", "(II)J"⟩
abbrev b_Shares_greatestWith : ByteArray := prog_8_method_9_code
def y_Shares_greatestWith : MethodName := ⟨RX6, "greatestWith", "(III)J"⟩
abbrev b_Shares_inOrder : ByteArray := prog_8_method_10_code
def y_Shares_inOrder : MethodName := ⟨RX6, "inOrder", "(I)I"⟩
abbrev b_Shares_countAhead : ByteArray := prog_8_method_11_code
def y_Shares_countAhead : MethodName := ⟨RX6, "countAhead", "(I)I"⟩
abbrev b_Shares_heldAgainst : ByteArray := prog_8_method_12_code
def y_Shares_heldAgainst : MethodName := ⟨RX6, "heldAgainst", "(LGrudgeDesk$Shares;)I"⟩
abbrev b_Shares_simplify : ByteArray := prog_8_method_13_code
def y_Shares_simplify : MethodName := ⟨RX6, "simplify", "()V"⟩
abbrev b_Stages_init : ByteArray := prog_9_method_1_code
def y_Stages_init : MethodName := ⟨RX7, "<init>", "()V"⟩
abbrev b_Stages_solve : ByteArray := prog_9_method_2_code
def y_Stages_solve : MethodName := ⟨RX7, "solve", "(LGrudgeDesk$Game;)V"⟩
abbrev b_Stages_hasStage : ByteArray := prog_9_method_3_code
def y_Stages_hasStage : MethodName := ⟨RX7, "hasStage", "(I)Z"⟩
abbrev b_Stages_stageFixing : ByteArray := prog_9_method_4_code
def y_Stages_stageFixing : MethodName := ⟨RX7, "stageFixing", "(I)I"⟩
abbrev b_Stages_firstUnlike : ByteArray := prog_9_method_5_code
def y_Stages_firstUnlike : MethodName := ⟨RX7, "firstUnlike", "(LGrudgeDesk$Shares;)I"⟩
abbrev b_Stages_begin : ByteArray := prog_9_method_6_code
def y_Stages_begin : MethodName := ⟨RX7, "begin", "(LGrudgeDesk$Game;)V"⟩
abbrev b_Stages_offer : ByteArray := prog_9_method_7_code
def y_Stages_offer : MethodName := ⟨RX7, "offer", "(IJJ)V"⟩
abbrev b_Stages_gatherOpen : ByteArray := prog_9_method_8_code
def y_Stages_gatherOpen : MethodName := ⟨RX7, "gatherOpen", "(LGrudgeDesk$Game;)V"⟩
abbrev b_Stages_goes : ByteArray := prog_9_method_9_code
def y_Stages_goes : MethodName := ⟨RX7, "goes", "(II)J"⟩
abbrev b_Stages_offerSingles : ByteArray := prog_9_method_10_code
def y_Stages_offerSingles : MethodName := ⟨RX7, "offerSingles", "()V"⟩
abbrev b_Stages_offerPairs : ByteArray := prog_9_method_11_code
def y_Stages_offerPairs : MethodName := ⟨RX7, "offerPairs", "()V"⟩
abbrev b_Stages_offerTriples : ByteArray := prog_9_method_12_code
def y_Stages_offerTriples : MethodName := ⟨RX7, "offerTriples", "()V"⟩
abbrev b_Stages_offerThree : ByteArray := prog_9_method_13_code
def y_Stages_offerThree : MethodName := ⟨RX7, "offerThree", "(IIIJJJ)V"⟩
abbrev b_Stages_leftTurn : ByteArray := prog_9_method_14_code
def y_Stages_leftTurn : MethodName := ⟨RX7, "leftTurn", "(II)J"⟩
abbrev b_Stages_closeStage : ByteArray := prog_9_method_15_code
def y_Stages_closeStage : MethodName := ⟨RX7, "closeStage", "()V"⟩
abbrev b_Stages_tieFixed : ByteArray := prog_9_method_16_code
def y_Stages_tieFixed : MethodName := ⟨RX7, "tieFixed", "(LGrudgeDesk$Game;)V"⟩
abbrev b_Stages_movePoint : ByteArray := prog_9_method_17_code
def y_Stages_movePoint : MethodName := ⟨RX7, "movePoint", "(III)V"⟩
abbrev b_Stages_wayChanging : ByteArray := prog_9_method_18_code
def y_Stages_wayChanging : MethodName := ⟨RX7, "wayChanging", "(I)I"⟩
abbrev b_Stages_dropWay : ByteArray := prog_9_method_19_code
def y_Stages_dropWay : MethodName := ⟨RX7, "dropWay", "(II)V"⟩
abbrev b_Stages_bend : ByteArray := prog_9_method_20_code
def y_Stages_bend : MethodName := ⟨RX7, "bend", "(IIJJ)V"⟩
abbrev b_Weights_init : ByteArray := prog_10_method_1_code
def y_Weights_init : MethodName := ⟨RX8, "<init>", "()V"⟩
abbrev b_Weights_firstTilted : ByteArray := prog_10_method_2_code
def y_Weights_firstTilted : MethodName := ⟨RX8, "firstTilted", "()I"⟩
abbrev b_Weights_total : ByteArray := prog_10_method_3_code
def y_Weights_total : MethodName := ⟨RX8, "total", "()J"⟩
abbrev b_Weights_sumWith : ByteArray := prog_10_method_4_code
def y_Weights_sumWith : MethodName := ⟨RX8, "sumWith", "(I)J"⟩
abbrev b_Weights_provenTop : ByteArray := prog_10_method_5_code
def y_Weights_provenTop : MethodName := ⟨RX8, "provenTop", "(LGrudgeDesk$Game;)J"⟩
abbrev b_Desk_init : ByteArray := prog_1_method_1_code
def y_Desk_init : MethodName := ⟨RX9, "<init>", "()V"⟩
abbrev b_Desk_people : ByteArray := prog_1_method_2_code
def y_Desk_people : MethodName := ⟨RX9, "people", "(I)I"⟩
abbrev b_Desk_worth : ByteArray := prog_1_method_3_code
def y_Desk_worth : MethodName := ⟨RX9, "worth", "(II)J"⟩
abbrev b_Desk_worthOf : ByteArray := prog_1_method_4_code
def y_Desk_worthOf : MethodName := ⟨RX9, "worthOf", "(I)J"⟩
abbrev b_Desk_feed : ByteArray := prog_1_method_5_code
def y_Desk_feed : MethodName := ⟨RX9, "feed", "(I)I"⟩
abbrev b_Desk_clear : ByteArray := prog_1_method_6_code
def y_Desk_clear : MethodName := ⟨RX9, "clear", "()I"⟩
abbrev b_Desk_deeds : ByteArray := prog_1_method_7_code
def y_Desk_deeds : MethodName := ⟨RX9, "deeds", "()I"⟩
abbrev b_Desk_told : ByteArray := prog_1_method_8_code
def y_Desk_told : MethodName := ⟨RX9, "told", "(I)I"⟩
abbrev b_Desk_stages : ByteArray := prog_1_method_9_code
def y_Desk_stages : MethodName := ⟨RX9, "stages", "()I"⟩
abbrev b_Desk_level : ByteArray := prog_1_method_10_code
def y_Desk_level : MethodName := ⟨RX9, "level", "(II)J"⟩
abbrev b_Desk_fixed : ByteArray := prog_1_method_11_code
def y_Desk_fixed : MethodName := ⟨RX9, "fixed", "(I)I"⟩
abbrev b_Desk_stageOf : ByteArray := prog_1_method_12_code
def y_Desk_stageOf : MethodName := ⟨RX9, "stageOf", "(I)I"⟩
abbrev b_Desk_fair : ByteArray := prog_1_method_13_code
def y_Desk_fair : MethodName := ⟨RX9, "fair", "(II)J"⟩
abbrev b_Desk_grudge : ByteArray := prog_1_method_14_code
def y_Desk_grudge : MethodName := ⟨RX9, "grudge", "(II)J"⟩
abbrev b_Desk_ordered : ByteArray := prog_1_method_15_code
def y_Desk_ordered : MethodName := ⟨RX9, "ordered", "(I)I"⟩
abbrev b_Desk_empty : ByteArray := prog_1_method_16_code
def y_Desk_empty : MethodName := ⟨RX9, "empty", "()I"⟩
abbrev b_Desk_cost : ByteArray := prog_1_method_17_code
def y_Desk_cost : MethodName := ⟨RX9, "cost", "(I)J"⟩
abbrev b_Desk_byTurns : ByteArray := prog_1_method_18_code
def y_Desk_byTurns : MethodName := ⟨RX9, "byTurns", "(II)J"⟩
abbrev b_Desk_surplus : ByteArray := prog_1_method_19_code
def y_Desk_surplus : MethodName := ⟨RX9, "surplus", "(III)J"⟩
abbrev b_Desk_would : ByteArray := prog_1_method_20_code
def y_Desk_would : MethodName := ⟨RX9, "would", "(IIII)J"⟩
abbrev b_Desk_needs : ByteArray := prog_1_method_21_code
def y_Desk_needs : MethodName := ⟨RX9, "needs", "(III)J"⟩
abbrev b_Desk_is : ByteArray := prog_1_method_22_code
def y_Desk_is : MethodName := ⟨RX9, "is", "(I)I"⟩
abbrev b_Desk_idle : ByteArray := prog_1_method_23_code
def y_Desk_idle : MethodName := ⟨RX9, "idle", "()I"⟩
abbrev b_Desk_alike : ByteArray := prog_1_method_24_code
def y_Desk_alike : MethodName := ⟨RX9, "alike", "(I)I"⟩
abbrev b_Desk_against : ByteArray := prog_1_method_25_code
def y_Desk_against : MethodName := ⟨RX9, "against", "(I)I"⟩
abbrev b_Desk_grudgeBy : ByteArray := prog_1_method_26_code
def y_Desk_grudgeBy : MethodName := ⟨RX9, "grudgeBy", "(IIII)J"⟩
abbrev b_Desk_shares : ByteArray := prog_1_method_27_code
def y_Desk_shares : MethodName := ⟨RX9, "shares", "(II)I"⟩
abbrev b_Desk_orderedBy : ByteArray := prog_1_method_28_code
def y_Desk_orderedBy : MethodName := ⟨RX9, "orderedBy", "(III)I"⟩
abbrev b_Desk_better : ByteArray := prog_1_method_29_code
def y_Desk_better : MethodName := ⟨RX9, "better", "(IIII)I"⟩
abbrev b_Desk_judge : ByteArray := prog_1_method_30_code
def y_Desk_judge : MethodName := ⟨RX9, "judge", "(II)I"⟩
abbrev b_Desk_lay : ByteArray := prog_1_method_31_code
def y_Desk_lay : MethodName := ⟨RX9, "lay", "(II)I"⟩
abbrev b_Desk_proof : ByteArray := prog_1_method_32_code
def y_Desk_proof : MethodName := ⟨RX9, "proof", "(III)J"⟩
abbrev b_Desk_proves : ByteArray := prog_1_method_33_code
def y_Desk_proves : MethodName := ⟨RX9, "proves", "(II)I"⟩
abbrev b_Desk_tilts : ByteArray := prog_1_method_34_code
def y_Desk_tilts : MethodName := ⟨RX9, "tilts", "(II)I"⟩
abbrev b_Desk_list : ByteArray := prog_1_method_35_code
def y_Desk_list : MethodName := ⟨RX9, "list", "(II)I"⟩
abbrev b_Desk_set : ByteArray := prog_1_method_36_code
def y_Desk_set : MethodName := ⟨RX9, "set", "(IIJ)I"⟩
abbrev b_Desk_get : ByteArray := prog_1_method_37_code
def y_Desk_get : MethodName := ⟨RX9, "get", "(II)J"⟩
abbrev b_Desk_image : ByteArray := prog_1_method_38_code
def y_Desk_image : MethodName := ⟨RX9, "image", "()I"⟩
abbrev b_Desk_undo : ByteArray := prog_1_method_39_code
def y_Desk_undo : MethodName := ⟨RX9, "undo", "()I"⟩
abbrev b_Desk_solved : ByteArray := prog_1_method_40_code
def y_Desk_solved : MethodName := ⟨RX9, "solved", "()LGrudgeDesk$Stages;"⟩
abbrev b_Desk_fairWere : ByteArray := prog_1_method_41_code
def y_Desk_fairWere : MethodName := ⟨RX9, "fairWere", "(II)LGrudgeDesk$Shares;"⟩
abbrev b_Model_in : ByteArray := prog_12_method_2_code
def y_Model_in : MethodName := ⟨RX10, "in", "(JJJ)Z"⟩
abbrev b_Model_has : ByteArray := prog_12_method_3_code
def y_Model_has : MethodName := ⟨RX10, "has", "(II)Z"⟩
abbrev b_Model_common : ByteArray := prog_12_method_4_code
def y_Model_common : MethodName := ⟨RX10, "common", "(JJ)J"⟩
abbrev b_Model_lowest : ByteArray := prog_12_method_5_code
def y_Model_lowest : MethodName := ⟨RX10, "lowest", "(JJI)J"⟩
abbrev b_Model_init : ByteArray := prog_12_method_6_code
def y_Model_init : MethodName := ⟨RX10, "<init>", "()V"⟩
abbrev b_Model_all : ByteArray := prog_12_method_7_code
def y_Model_all : MethodName := ⟨RX10, "all", "()I"⟩
abbrev b_Model_isGroup : ByteArray := prog_12_method_8_code
def y_Model_isGroup : MethodName := ⟨RX10, "isGroup", "(I)Z"⟩
abbrev b_Model_isPart : ByteArray := prog_12_method_9_code
def y_Model_isPart : MethodName := ⟨RX10, "isPart", "(I)Z"⟩
abbrev b_Model_isOne : ByteArray := prog_12_method_10_code
def y_Model_isOne : MethodName := ⟨RX10, "isOne", "(I)Z"⟩
abbrev b_Model_people : ByteArray := prog_12_method_11_code
def y_Model_people : MethodName := ⟨RX10, "people", "(I)I"⟩
abbrev b_Model_worth : ByteArray := prog_12_method_12_code
def y_Model_worth : MethodName := ⟨RX10, "worth", "(II)J"⟩
abbrev b_Model_worthOf : ByteArray := prog_12_method_13_code
def y_Model_worthOf : MethodName := ⟨RX10, "worthOf", "(I)J"⟩
abbrev b_Model_told : ByteArray := prog_12_method_14_code
def y_Model_told : MethodName := ⟨RX10, "told", "(I)I"⟩
abbrev b_Model_feed : ByteArray := prog_12_method_15_code
def y_Model_feed : MethodName := ⟨RX10, "feed", "(I)I"⟩
abbrev b_Model_clear : ByteArray := prog_12_method_16_code
def y_Model_clear : MethodName := ⟨RX10, "clear", "()I"⟩
abbrev b_Model_here : ByteArray := prog_12_method_17_code
def y_Model_here : MethodName := ⟨RX10, "here", "()I"⟩
abbrev b_Model_wrong : ByteArray := prog_12_method_18_code
def y_Model_wrong : MethodName := ⟨RX10, "wrong", "(I)V"⟩
abbrev b_Model_letters : ByteArray := prog_12_method_19_code
def y_Model_letters : MethodName := ⟨RX10, "letters", "()I"⟩
abbrev b_Model_isLetter : ByteArray := prog_12_method_20_code
def y_Model_isLetter : MethodName := ⟨RX10, "isLetter", "(III)Z"⟩
abbrev b_Model_isWord : ByteArray := prog_12_method_21_code
def y_Model_isWord : MethodName := ⟨RX10, "isWord", "(IIIIIII)Z"⟩
abbrev b_Model_sort : ByteArray := prog_12_method_22_code
def y_Model_sort : MethodName := ⟨RX10, "sort", "()I"⟩
abbrev b_Model_blank : ByteArray := prog_12_method_23_code
def y_Model_blank : MethodName := ⟨RX10, "blank", "()V"⟩
abbrev b_Model_group : ByteArray := prog_12_method_24_code
def y_Model_group : MethodName := ⟨RX10, "group", "()I"⟩
abbrev b_Model_person : ByteArray := prog_12_method_25_code
def y_Model_person : MethodName := ⟨RX10, "person", "()I"⟩
abbrev b_Model_number : ByteArray := prog_12_method_26_code
def y_Model_number : MethodName := ⟨RX10, "number", "()I"⟩
abbrev b_Model_deed : ByteArray := prog_12_method_27_code
def y_Model_deed : MethodName := ⟨RX10, "deed", "()V"⟩
abbrev b_Model_becomes : ByteArray := prog_12_method_28_code
def y_Model_becomes : MethodName := ⟨RX10, "becomes", "()Z"⟩
abbrev b_Model_alone : ByteArray := prog_12_method_29_code
def y_Model_alone : MethodName := ⟨RX10, "alone", "(I)I"⟩
abbrev b_Model_swapped : ByteArray := prog_12_method_30_code
def y_Model_swapped : MethodName := ⟨RX10, "swapped", "(III)I"⟩
abbrev b_Model_isDone : ByteArray := prog_12_method_31_code
def y_Model_isDone : MethodName := ⟨RX10, "isDone", "(I)Z"⟩
abbrev b_Model_deeds : ByteArray := prog_12_method_32_code
def y_Model_deeds : MethodName := ⟨RX10, "deeds", "()I"⟩
abbrev b_Model_setsUp : ByteArray := prog_12_method_33_code
def y_Model_setsUp : MethodName := ⟨RX10, "setsUp", "(Z)V"⟩
abbrev b_Model_swaps : ByteArray := prog_12_method_34_code
def y_Model_swaps : MethodName := ⟨RX10, "swaps", "(II)V"⟩
abbrev b_Model_isSolved : ByteArray := prog_12_method_35_code
def y_Model_isSolved : MethodName := ⟨RX10, "isSolved", "(Z)Z"⟩
abbrev b_Model_sumOf : ByteArray := prog_12_method_36_code
def y_Model_sumOf : MethodName := ⟨RX10, "sumOf", "(I)J"⟩
abbrev b_Model_corner : ByteArray := prog_12_method_37_code
def y_Model_corner : MethodName := ⟨RX10, "corner", "()V"⟩
abbrev b_Model_corners : ByteArray := prog_12_method_38_code
def y_Model_corners : MethodName := ⟨RX10, "corners", "(II)V"⟩
abbrev b_Model_isMore : ByteArray := prog_12_method_39_code
def y_Model_isMore : MethodName := ⟨RX10, "isMore", "(I)Z"⟩
abbrev b_Model_lowers : ByteArray := prog_12_method_40_code
def y_Model_lowers : MethodName := ⟨RX10, "lowers", "()Z"⟩
abbrev b_Model_lead : ByteArray := prog_12_method_41_code
def y_Model_lead : MethodName := ⟨RX10, "lead", "(I)I"⟩
abbrev b_Model_fix : ByteArray := prog_12_method_42_code
def y_Model_fix : MethodName := ⟨RX10, "fix", "()V"⟩
abbrev b_Model_reckon : ByteArray := prog_12_method_43_code
def y_Model_reckon : MethodName := ⟨RX10, "reckon", "()V"⟩
abbrev b_Model_stages : ByteArray := prog_12_method_44_code
def y_Model_stages : MethodName := ⟨RX10, "stages", "()I"⟩
abbrev b_Model_isStage : ByteArray := prog_12_method_45_code
def y_Model_isStage : MethodName := ⟨RX10, "isStage", "(I)Z"⟩
abbrev b_Model_level : ByteArray := prog_12_method_46_code
def y_Model_level : MethodName := ⟨RX10, "level", "(II)J"⟩
abbrev b_Model_fixed : ByteArray := prog_12_method_47_code
def y_Model_fixed : MethodName := ⟨RX10, "fixed", "(I)I"⟩
abbrev b_Model_stageOf : ByteArray := prog_12_method_48_code
def y_Model_stageOf : MethodName := ⟨RX10, "stageOf", "(I)I"⟩
abbrev b_Model_fairAbove : ByteArray := prog_12_method_49_code
def y_Model_fairAbove : MethodName := ⟨RX10, "fairAbove", "(I)J"⟩
abbrev b_Model_fairBelow : ByteArray := prog_12_method_50_code
def y_Model_fairBelow : MethodName := ⟨RX10, "fairBelow", "(I)J"⟩
abbrev b_Model_fair : ByteArray := prog_12_method_51_code
def y_Model_fair : MethodName := ⟨RX10, "fair", "(II)J"⟩
abbrev b_Model_grudge : ByteArray := prog_12_method_52_code
def y_Model_grudge : MethodName := ⟨RX10, "grudge", "(II)J"⟩
abbrev b_Model_ordered : ByteArray := prog_12_method_53_code
def y_Model_ordered : MethodName := ⟨RX10, "ordered", "(I)I"⟩
abbrev b_Model_empty : ByteArray := prog_12_method_54_code
def y_Model_empty : MethodName := ⟨RX10, "empty", "()I"⟩
abbrev b_Model_cheaper : ByteArray := prog_12_method_55_code
def y_Model_cheaper : MethodName := ⟨RX10, "cheaper", "(II)V"⟩
abbrev b_Model_cost : ByteArray := prog_12_method_56_code
def y_Model_cost : MethodName := ⟨RX10, "cost", "(I)J"⟩
abbrev b_Model_turns : ByteArray := prog_12_method_57_code
def y_Model_turns : MethodName := ⟨RX10, "turns", "(II)V"⟩
abbrev b_Model_byTurns : ByteArray := prog_12_method_58_code
def y_Model_byTurns : MethodName := ⟨RX10, "byTurns", "(II)J"⟩
abbrev b_Model_surplus : ByteArray := prog_12_method_59_code
def y_Model_surplus : MethodName := ⟨RX10, "surplus", "(III)J"⟩
abbrev b_Model_would : ByteArray := prog_12_method_60_code
def y_Model_would : MethodName := ⟨RX10, "would", "(IIII)J"⟩
abbrev b_Model_needs : ByteArray := prog_12_method_61_code
def y_Model_needs : MethodName := ⟨RX10, "needs", "(III)J"⟩
abbrev b_Model_isAgainst : ByteArray := prog_12_method_62_code
def y_Model_isAgainst : MethodName := ⟨RX10, "isAgainst", "(III)Z"⟩
abbrev b_Model_against : ByteArray := prog_12_method_63_code
def y_Model_against : MethodName := ⟨RX10, "against", "(I)I"⟩
abbrev b_Model_is : ByteArray := prog_12_method_64_code
def y_Model_is : MethodName := ⟨RX10, "is", "(I)I"⟩
abbrev b_Model_idle : ByteArray := prog_12_method_65_code
def y_Model_idle : MethodName := ⟨RX10, "idle", "()I"⟩
abbrev b_Model_alike : ByteArray := prog_12_method_66_code
def y_Model_alike : MethodName := ⟨RX10, "alike", "(I)I"⟩
abbrev b_Model_tellsShares : ByteArray := prog_12_method_67_code
def y_Model_tellsShares : MethodName := ⟨RX10, "tellsShares", "(II)I"⟩
abbrev b_Model_shareOf : ByteArray := prog_12_method_68_code
def y_Model_shareOf : MethodName := ⟨RX10, "shareOf", "(I)J"⟩
abbrev b_Model_toldGrudge : ByteArray := prog_12_method_69_code
def y_Model_toldGrudge : MethodName := ⟨RX10, "toldGrudge", "(I)J"⟩
abbrev b_Model_isGood : ByteArray := prog_12_method_70_code
def y_Model_isGood : MethodName := ⟨RX10, "isGood", "()Z"⟩
abbrev b_Model_grudgeBy : ByteArray := prog_12_method_71_code
def y_Model_grudgeBy : MethodName := ⟨RX10, "grudgeBy", "(IIII)J"⟩
abbrev b_Model_shares : ByteArray := prog_12_method_72_code
def y_Model_shares : MethodName := ⟨RX10, "shares", "(II)I"⟩
abbrev b_Model_toldAt : ByteArray := prog_12_method_73_code
def y_Model_toldAt : MethodName := ⟨RX10, "toldAt", "(I)I"⟩
abbrev b_Model_orderedBy : ByteArray := prog_12_method_74_code
def y_Model_orderedBy : MethodName := ⟨RX10, "orderedBy", "(III)I"⟩
abbrev b_Model_better : ByteArray := prog_12_method_75_code
def y_Model_better : MethodName := ⟨RX10, "better", "(IIII)I"⟩
abbrev b_Model_judge : ByteArray := prog_12_method_76_code
def y_Model_judge : MethodName := ⟨RX10, "judge", "(II)I"⟩
abbrev b_Model_lay : ByteArray := prog_12_method_77_code
def y_Model_lay : MethodName := ⟨RX10, "lay", "(II)I"⟩
abbrev b_Model_fairBelow1 : ByteArray := prog_12_method_78_code
def y_Model_fairBelow1 : MethodName := ⟨RX10, "fairBelow1", "(I)J"⟩
abbrev b_Model_tellsWeights : ByteArray := prog_12_method_79_code
def y_Model_tellsWeights : MethodName := ⟨RX10, "tellsWeights", "(II)I"⟩
abbrev b_Model_weight : ByteArray := prog_12_method_80_code
def y_Model_weight : MethodName := ⟨RX10, "weight", "(I)J"⟩
abbrev b_Model_weightOf : ByteArray := prog_12_method_81_code
def y_Model_weightOf : MethodName := ⟨RX10, "weightOf", "(I)J"⟩
abbrev b_Model_tilted : ByteArray := prog_12_method_82_code
def y_Model_tilted : MethodName := ⟨RX10, "tilted", "()I"⟩
abbrev b_Model_provedAbove : ByteArray := prog_12_method_83_code
def y_Model_provedAbove : MethodName := ⟨RX10, "provedAbove", "()J"⟩
abbrev b_Model_provedBelow : ByteArray := prog_12_method_84_code
def y_Model_provedBelow : MethodName := ⟨RX10, "provedBelow", "()J"⟩
abbrev b_Model_proof : ByteArray := prog_12_method_85_code
def y_Model_proof : MethodName := ⟨RX10, "proof", "(III)J"⟩
abbrev b_Model_proves : ByteArray := prog_12_method_86_code
def y_Model_proves : MethodName := ⟨RX10, "proves", "(II)I"⟩
abbrev b_Model_tilts : ByteArray := prog_12_method_87_code
def y_Model_tilts : MethodName := ⟨RX10, "tilts", "(II)I"⟩
abbrev b_Model_isList : ByteArray := prog_12_method_88_code
def y_Model_isList : MethodName := ⟨RX10, "isList", "(I)Z"⟩
abbrev b_Model_list : ByteArray := prog_12_method_89_code
def y_Model_list : MethodName := ⟨RX10, "list", "(II)I"⟩
abbrev b_Model_set : ByteArray := prog_12_method_90_code
def y_Model_set : MethodName := ⟨RX10, "set", "(IIJ)I"⟩
abbrev b_Model_get : ByteArray := prog_12_method_91_code
def y_Model_get : MethodName := ⟨RX10, "get", "(II)J"⟩
abbrev b_Model_image : ByteArray := prog_12_method_92_code
def y_Model_image : MethodName := ⟨RX10, "image", "()I"⟩
abbrev b_Model_undo : ByteArray := prog_12_method_93_code
def y_Model_undo : MethodName := ⟨RX10, "undo", "()I"⟩
abbrev b_Integer_bitCount : ByteArray := prog_13_method_49_code
def y_Integer_bitCount : MethodName := ⟨RJ6, "bitCount", "(I)I"⟩
abbrev b_Math_abs : ByteArray := prog_14_method_61_code
def y_Math_abs : MethodName := ⟨RJ9, "abs", "(J)J"⟩
abbrev b_Math_max : ByteArray := prog_14_method_66_code
def y_Math_max : MethodName := ⟨RJ9, "max", "(JJ)J"⟩
abbrev b_Str_length : ByteArray := prog_15_method_54_code
def y_Str_length : MethodName := ⟨RJ0, "length", "()I"⟩
abbrev b_Str_charAt : ByteArray := prog_15_method_56_code
def y_Str_charAt : MethodName := ⟨RJ0, "charAt", "(I)C"⟩
abbrev b_Str_coder : ByteArray := prog_15_method_152_code
def y_Str_coder : MethodName := ⟨RJ0, "coder", "()B"⟩
abbrev b_Str_isLatin1 : ByteArray := prog_15_method_154_code
def y_Str_isLatin1 : MethodName := ⟨RJ0, "isLatin1", "()Z"⟩
abbrev b_Str_checkIndex : ByteArray := prog_15_method_155_code
def y_Str_checkIndex : MethodName := ⟨RJ0, "checkIndex", "(II)V"⟩
abbrev b_Latin_charAt : ByteArray := prog_16_method_2_code
def y_Latin_charAt : MethodName := ⟨RJ1, "charAt", "([BI)C"⟩
abbrev b_Prec_checkIndex : ByteArray := prog_19_method_11_code
def y_Prec_checkIndex : MethodName := ⟨RJ3, "checkIndex", "(IILjava/util/function/BiFunction;)I"⟩
abbrev b_Law_law : ByteArray := code
def y_Law_law : MethodName := ⟨RL, "law", "([I)Z"⟩
theorem rr_inX2 : u_ws RX2 TX2 2 = [131, 133].filterMap (fun i => lw_tbl[i]?) := by decide +kernel
theorem rr_inX4 : u_ws RX4 TX4 2 = [297, 299].filterMap (fun i => lw_tbl[i]?) := by decide +kernel
theorem rr_inX5 : u_ws RX5 TX5 10 = [154, 156, 158, 160, 162, 164, 166, 168, 170, 172].filterMap (fun i => lw_tbl[i]?) := by decide +kernel
theorem rr_inX6 : u_ws RX6 TX6 5 = [198, 200, 202, 204, 206].filterMap (fun i => lw_tbl[i]?) := by decide +kernel
theorem rr_inX7 : u_ws RX7 TX7 16 = [233, 235, 237, 239, 241, 243, 245, 247, 249, 251, 253, 255, 257, 259, 261, 263].filterMap (fun i => lw_tbl[i]?) := by decide +kernel
theorem rr_inX8 : u_ws RX8 TX8 3 = [280, 282, 284].filterMap (fun i => lw_tbl[i]?) := by decide +kernel
theorem rr_inX9 : u_ws RX9 TX9 12 = [314, 316, 318, 320, 322, 324, 326, 328, 330, 332, 334, 336].filterMap (fun i => lw_tbl[i]?) := by decide +kernel
theorem rr_inX10 : u_ws RX10 TX10 44 = [990, 992, 994, 996, 998, 1000, 1002, 1004, 1006, 1008, 1010, 1012, 1014, 1016, 1018, 1020, 1022, 1024, 1026, 1028, 1030, 1032, 1034, 1036, 1038, 1040, 1042, 1044, 1046, 1048, 1050, 1052, 1054, 1056, 1058, 1060, 1062, 1064, 1066, 1068, 1070, 1072, 1074, 1076].filterMap (fun i => lw_tbl[i]?) := by decide +kernel
end

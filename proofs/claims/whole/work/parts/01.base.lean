-- ===== PART A: goes FIRST, ahead of the names: the tables' words, and 'selects' of the private methods out of them =====
/-- a private method of a class that the tables say can be made, by its rows of tables_1 -/
def lw_okq (q : MethodName × Nat) : Prop := (q.1.cls ≠ "java/lang/invoke/MethodHandle" ∧ q.1.cls ≠ "java/lang/invoke/VarHandle") ∧ Cond.instantiable q.1.cls q.2 ∈ tables_1 ∧ Cond.privateMethod q.1 ∈ tables_1 ∧ Cond.instanceMethod q.1 ∈ tables_1
theorem lw_p0 : lw_okq (⟨"EdgeNotes", "refuse", "(I)Z"⟩, 3) := ⟨⟨by decide +kernel, by decide +kernel⟩, List.mem_of_getElem? (i := 11) (by decide +kernel), List.mem_of_getElem? (i := 251) (by decide +kernel), List.mem_of_getElem? (i := 252) (by decide +kernel)⟩
theorem lw_p1 : lw_okq (⟨"EdgeNotes", "accept", "()Z"⟩, 3) := ⟨⟨by decide +kernel, by decide +kernel⟩, List.mem_of_getElem? (i := 11) (by decide +kernel), List.mem_of_getElem? (i := 255) (by decide +kernel), List.mem_of_getElem? (i := 256) (by decide +kernel)⟩
theorem lw_p2 : lw_okq (⟨"EdgeNotes", "none", "(I)I"⟩, 3) := ⟨⟨by decide +kernel, by decide +kernel⟩, List.mem_of_getElem? (i := 11) (by decide +kernel), List.mem_of_getElem? (i := 266) (by decide +kernel), List.mem_of_getElem? (i := 267) (by decide +kernel)⟩
theorem lw_p3 : lw_okq (⟨"EdgeNotes", "give", "(I)I"⟩, 3) := ⟨⟨by decide +kernel, by decide +kernel⟩, List.mem_of_getElem? (i := 11) (by decide +kernel), List.mem_of_getElem? (i := 274) (by decide +kernel), List.mem_of_getElem? (i := 275) (by decide +kernel)⟩
theorem lw_p4 : lw_okq (⟨"EdgeNotes$Order", "insert", "(LEdgeNotes$Note;)V"⟩, 2) := ⟨⟨by decide +kernel, by decide +kernel⟩, List.mem_of_getElem? (i := 81) (by decide +kernel), List.mem_of_getElem? (i := 457) (by decide +kernel), List.mem_of_getElem? (i := 458) (by decide +kernel)⟩
theorem lw_p5 : lw_okq (⟨"EdgeNotes$Breaks", "takeLines", "(I)I"⟩, 14) := ⟨⟨by decide +kernel, by decide +kernel⟩, List.mem_of_getElem? (i := 73) (by decide +kernel), List.mem_of_getElem? (i := 473) (by decide +kernel), List.mem_of_getElem? (i := 474) (by decide +kernel)⟩
theorem lw_p6 : lw_okq (⟨"EdgeNotes$PageSetter", "findDealing", "(I)Z"⟩, 7) := ⟨⟨by decide +kernel, by decide +kernel⟩, List.mem_of_getElem? (i := 99) (by decide +kernel), List.mem_of_getElem? (i := 481) (by decide +kernel), List.mem_of_getElem? (i := 482) (by decide +kernel)⟩
theorem lw_p7 : lw_okq (⟨"EdgeNotes$PageSetter", "dealings", "()I"⟩, 7) := ⟨⟨by decide +kernel, by decide +kernel⟩, List.mem_of_getElem? (i := 99) (by decide +kernel), List.mem_of_getElem? (i := 485) (by decide +kernel), List.mem_of_getElem? (i := 486) (by decide +kernel)⟩
theorem lw_p8 : lw_okq (⟨"EdgeNotes$PageSetter", "deal", "(I)V"⟩, 7) := ⟨⟨by decide +kernel, by decide +kernel⟩, List.mem_of_getElem? (i := 99) (by decide +kernel), List.mem_of_getElem? (i := 489) (by decide +kernel), List.mem_of_getElem? (i := 490) (by decide +kernel)⟩
theorem lw_p9 : lw_okq (⟨"EdgeNotes$Edge", "fitsCut", "(LEdgeNotes$Note;I)Z"⟩, 13) := ⟨⟨by decide +kernel, by decide +kernel⟩, List.mem_of_getElem? (i := 105) (by decide +kernel), List.mem_of_getElem? (i := 506) (by decide +kernel), List.mem_of_getElem? (i := 507) (by decide +kernel)⟩
theorem lw_p10 : lw_okq (⟨"EdgeNotes$Breaks", "layPage", "(III)V"⟩, 14) := ⟨⟨by decide +kernel, by decide +kernel⟩, List.mem_of_getElem? (i := 73) (by decide +kernel), List.mem_of_getElem? (i := 514) (by decide +kernel), List.mem_of_getElem? (i := 515) (by decide +kernel)⟩
theorem lw_p11 : lw_okq (⟨"EdgeNotes$Edge", "leastCost", "(II)I"⟩, 13) := ⟨⟨by decide +kernel, by decide +kernel⟩, List.mem_of_getElem? (i := 105) (by decide +kernel), List.mem_of_getElem? (i := 527) (by decide +kernel), List.mem_of_getElem? (i := 528) (by decide +kernel)⟩
theorem lw_p12 : lw_okq (⟨"EdgeNotes$Edge", "hangCeilings", "(I)Z"⟩, 13) := ⟨⟨by decide +kernel, by decide +kernel⟩, List.mem_of_getElem? (i := 105) (by decide +kernel), List.mem_of_getElem? (i := 531) (by decide +kernel), List.mem_of_getElem? (i := 532) (by decide +kernel)⟩
theorem lw_p13 : lw_okq (⟨"EdgeNotes$Edge", "pull", "(II)I"⟩, 13) := ⟨⟨by decide +kernel, by decide +kernel⟩, List.mem_of_getElem? (i := 105) (by decide +kernel), List.mem_of_getElem? (i := 544) (by decide +kernel), List.mem_of_getElem? (i := 545) (by decide +kernel)⟩
theorem lw_p14 : lw_okq (⟨"EdgeNotes", "faultOfLine", "(I)I"⟩, 3) := ⟨⟨by decide +kernel, by decide +kernel⟩, List.mem_of_getElem? (i := 11) (by decide +kernel), List.mem_of_getElem? (i := 557) (by decide +kernel), List.mem_of_getElem? (i := 558) (by decide +kernel)⟩
theorem lw_p15 : lw_okq (⟨"EdgeNotes", "faultOfNote", "(LEdgeNotes$Note;)I"⟩, 3) := ⟨⟨by decide +kernel, by decide +kernel⟩, List.mem_of_getElem? (i := 11) (by decide +kernel), List.mem_of_getElem? (i := 569) (by decide +kernel), List.mem_of_getElem? (i := 570) (by decide +kernel)⟩
def lw_privs_1 : List (MethodName × Nat) := [(⟨"EdgeNotes", "refuse", "(I)Z"⟩, 3), (⟨"EdgeNotes", "accept", "()Z"⟩, 3), (⟨"EdgeNotes", "none", "(I)I"⟩, 3), (⟨"EdgeNotes", "give", "(I)I"⟩, 3), (⟨"EdgeNotes$Order", "insert", "(LEdgeNotes$Note;)V"⟩, 2), (⟨"EdgeNotes$Breaks", "takeLines", "(I)I"⟩, 14), (⟨"EdgeNotes$PageSetter", "findDealing", "(I)Z"⟩, 7), (⟨"EdgeNotes$PageSetter", "dealings", "()I"⟩, 7), (⟨"EdgeNotes$PageSetter", "deal", "(I)V"⟩, 7), (⟨"EdgeNotes$Edge", "fitsCut", "(LEdgeNotes$Note;I)Z"⟩, 13), (⟨"EdgeNotes$Breaks", "layPage", "(III)V"⟩, 14), (⟨"EdgeNotes$Edge", "leastCost", "(II)I"⟩, 13), (⟨"EdgeNotes$Edge", "hangCeilings", "(I)Z"⟩, 13), (⟨"EdgeNotes$Edge", "pull", "(II)I"⟩, 13), (⟨"EdgeNotes", "faultOfLine", "(I)I"⟩, 3), (⟨"EdgeNotes", "faultOfNote", "(LEdgeNotes$Note;)I"⟩, 3)]
theorem lw_r1 : ∀ q ∈ lw_privs_1, lw_okq q := List.forall_mem_cons.mpr ⟨lw_p0, List.forall_mem_cons.mpr ⟨lw_p1, List.forall_mem_cons.mpr ⟨lw_p2, List.forall_mem_cons.mpr ⟨lw_p3, List.forall_mem_cons.mpr ⟨lw_p4, List.forall_mem_cons.mpr ⟨lw_p5, List.forall_mem_cons.mpr ⟨lw_p6, List.forall_mem_cons.mpr ⟨lw_p7, List.forall_mem_cons.mpr ⟨lw_p8, List.forall_mem_cons.mpr ⟨lw_p9, List.forall_mem_cons.mpr ⟨lw_p10, List.forall_mem_cons.mpr ⟨lw_p11, List.forall_mem_cons.mpr ⟨lw_p12, List.forall_mem_cons.mpr ⟨lw_p13, List.forall_mem_cons.mpr ⟨lw_p14, List.forall_mem_cons.mpr ⟨lw_p15, fun _ h => absurd h List.not_mem_nil⟩⟩⟩⟩⟩⟩⟩⟩⟩⟩⟩⟩⟩⟩⟩⟩
theorem lw_p16 : lw_okq (⟨"EdgeNotes", "faultOfBracket", "(LEdgeNotes$Note;I)I"⟩, 3) := ⟨⟨by decide +kernel, by decide +kernel⟩, List.mem_of_getElem? (i := 11) (by decide +kernel), List.mem_of_getElem? (i := 585) (by decide +kernel), List.mem_of_getElem? (i := 586) (by decide +kernel)⟩
theorem lw_p17 : lw_okq (⟨"EdgeNotes$Breaks", "firstOf", "(LEdgeNotes$Note;I)I"⟩, 14) := ⟨⟨by decide +kernel, by decide +kernel⟩, List.mem_of_getElem? (i := 73) (by decide +kernel), List.mem_of_getElem? (i := 598) (by decide +kernel), List.mem_of_getElem? (i := 599) (by decide +kernel)⟩
theorem lw_p18 : lw_okq (⟨"EdgeNotes$Breaks", "lastOf", "(LEdgeNotes$Note;I)I"⟩, 14) := ⟨⟨by decide +kernel, by decide +kernel⟩, List.mem_of_getElem? (i := 73) (by decide +kernel), List.mem_of_getElem? (i := 603) (by decide +kernel), List.mem_of_getElem? (i := 604) (by decide +kernel)⟩
theorem lw_p19 : lw_okq (⟨"EdgeNotes$Breaks", "takenAhead", "(II)I"⟩, 14) := ⟨⟨by decide +kernel, by decide +kernel⟩, List.mem_of_getElem? (i := 73) (by decide +kernel), List.mem_of_getElem? (i := 613) (by decide +kernel), List.mem_of_getElem? (i := 614) (by decide +kernel)⟩
theorem lw_p20 : lw_okq (⟨"EdgeNotes", "faultOfPage", "(I)I"⟩, 3) := ⟨⟨by decide +kernel, by decide +kernel⟩, List.mem_of_getElem? (i := 11) (by decide +kernel), List.mem_of_getElem? (i := 636) (by decide +kernel), List.mem_of_getElem? (i := 637) (by decide +kernel)⟩
theorem lw_p21 : lw_okq (⟨"EdgeNotesModel", "no", "(I)Z"⟩, 47) := ⟨⟨by decide +kernel, by decide +kernel⟩, List.mem_of_getElem? (i := 657) (by decide +kernel), List.mem_of_getElem? (i := 814) (by decide +kernel), List.mem_of_getElem? (i := 815) (by decide +kernel)⟩
theorem lw_p22 : lw_okq (⟨"EdgeNotesModel", "done", "()Z"⟩, 47) := ⟨⟨by decide +kernel, by decide +kernel⟩, List.mem_of_getElem? (i := 657) (by decide +kernel), List.mem_of_getElem? (i := 818) (by decide +kernel), List.mem_of_getElem? (i := 819) (by decide +kernel)⟩
theorem lw_p23 : lw_okq (⟨"EdgeNotesModel", "refuse", "(I)I"⟩, 47) := ⟨⟨by decide +kernel, by decide +kernel⟩, List.mem_of_getElem? (i := 657) (by decide +kernel), List.mem_of_getElem? (i := 826) (by decide +kernel), List.mem_of_getElem? (i := 827) (by decide +kernel)⟩
theorem lw_p24 : lw_okq (⟨"EdgeNotesModel", "isLine", "(I)Z"⟩, 47) := ⟨⟨by decide +kernel, by decide +kernel⟩, List.mem_of_getElem? (i := 657) (by decide +kernel), List.mem_of_getElem? (i := 834) (by decide +kernel), List.mem_of_getElem? (i := 835) (by decide +kernel)⟩
theorem lw_p25 : lw_okq (⟨"EdgeNotesModel", "isNote", "(I)Z"⟩, 47) := ⟨⟨by decide +kernel, by decide +kernel⟩, List.mem_of_getElem? (i := 657) (by decide +kernel), List.mem_of_getElem? (i := 846) (by decide +kernel), List.mem_of_getElem? (i := 847) (by decide +kernel)⟩
theorem lw_p26 : lw_okq (⟨"EdgeNotesModel", "tallOf", "(I)I"⟩, 47) := ⟨⟨by decide +kernel, by decide +kernel⟩, List.mem_of_getElem? (i := 657) (by decide +kernel), List.mem_of_getElem? (i := 886) (by decide +kernel), List.mem_of_getElem? (i := 887) (by decide +kernel)⟩
theorem lw_p27 : lw_okq (⟨"EdgeNotesModel", "isShown", "(I)Z"⟩, 47) := ⟨⟨by decide +kernel, by decide +kernel⟩, List.mem_of_getElem? (i := 657) (by decide +kernel), List.mem_of_getElem? (i := 890) (by decide +kernel), List.mem_of_getElem? (i := 891) (by decide +kernel)⟩
theorem lw_p28 : lw_okq (⟨"EdgeNotesModel", "lacks", "()Z"⟩, 47) := ⟨⟨by decide +kernel, by decide +kernel⟩, List.mem_of_getElem? (i := 657) (by decide +kernel), List.mem_of_getElem? (i := 898) (by decide +kernel), List.mem_of_getElem? (i := 899) (by decide +kernel)⟩
theorem lw_p29 : lw_okq (⟨"EdgeNotesModel", "setAll", "()V"⟩, 47) := ⟨⟨by decide +kernel, by decide +kernel⟩, List.mem_of_getElem? (i := 657) (by decide +kernel), List.mem_of_getElem? (i := 902) (by decide +kernel), List.mem_of_getElem? (i := 903) (by decide +kernel)⟩
theorem lw_p30 : lw_okq (⟨"EdgeNotesModel", "isHeld", "(IIII)Z"⟩, 47) := ⟨⟨by decide +kernel, by decide +kernel⟩, List.mem_of_getElem? (i := 657) (by decide +kernel), List.mem_of_getElem? (i := 906) (by decide +kernel), List.mem_of_getElem? (i := 907) (by decide +kernel)⟩
theorem lw_p31 : lw_okq (⟨"EdgeNotesModel", "gather", "(II)I"⟩, 47) := ⟨⟨by decide +kernel, by decide +kernel⟩, List.mem_of_getElem? (i := 657) (by decide +kernel), List.mem_of_getElem? (i := 910) (by decide +kernel), List.mem_of_getElem? (i := 911) (by decide +kernel)⟩
def lw_privs_2 : List (MethodName × Nat) := [(⟨"EdgeNotes", "faultOfBracket", "(LEdgeNotes$Note;I)I"⟩, 3), (⟨"EdgeNotes$Breaks", "firstOf", "(LEdgeNotes$Note;I)I"⟩, 14), (⟨"EdgeNotes$Breaks", "lastOf", "(LEdgeNotes$Note;I)I"⟩, 14), (⟨"EdgeNotes$Breaks", "takenAhead", "(II)I"⟩, 14), (⟨"EdgeNotes", "faultOfPage", "(I)I"⟩, 3), (⟨"EdgeNotesModel", "no", "(I)Z"⟩, 47), (⟨"EdgeNotesModel", "done", "()Z"⟩, 47), (⟨"EdgeNotesModel", "refuse", "(I)I"⟩, 47), (⟨"EdgeNotesModel", "isLine", "(I)Z"⟩, 47), (⟨"EdgeNotesModel", "isNote", "(I)Z"⟩, 47), (⟨"EdgeNotesModel", "tallOf", "(I)I"⟩, 47), (⟨"EdgeNotesModel", "isShown", "(I)Z"⟩, 47), (⟨"EdgeNotesModel", "lacks", "()Z"⟩, 47), (⟨"EdgeNotesModel", "setAll", "()V"⟩, 47), (⟨"EdgeNotesModel", "isHeld", "(IIII)Z"⟩, 47), (⟨"EdgeNotesModel", "gather", "(II)I"⟩, 47)]
theorem lw_r2 : ∀ q ∈ lw_privs_2, lw_okq q := List.forall_mem_cons.mpr ⟨lw_p16, List.forall_mem_cons.mpr ⟨lw_p17, List.forall_mem_cons.mpr ⟨lw_p18, List.forall_mem_cons.mpr ⟨lw_p19, List.forall_mem_cons.mpr ⟨lw_p20, List.forall_mem_cons.mpr ⟨lw_p21, List.forall_mem_cons.mpr ⟨lw_p22, List.forall_mem_cons.mpr ⟨lw_p23, List.forall_mem_cons.mpr ⟨lw_p24, List.forall_mem_cons.mpr ⟨lw_p25, List.forall_mem_cons.mpr ⟨lw_p26, List.forall_mem_cons.mpr ⟨lw_p27, List.forall_mem_cons.mpr ⟨lw_p28, List.forall_mem_cons.mpr ⟨lw_p29, List.forall_mem_cons.mpr ⟨lw_p30, List.forall_mem_cons.mpr ⟨lw_p31, fun _ h => absurd h List.not_mem_nil⟩⟩⟩⟩⟩⟩⟩⟩⟩⟩⟩⟩⟩⟩⟩⟩
theorem lw_p32 : lw_okq (⟨"EdgeNotesModel", "sides", "(II)V"⟩, 47) := ⟨⟨by decide +kernel, by decide +kernel⟩, List.mem_of_getElem? (i := 657) (by decide +kernel), List.mem_of_getElem? (i := 914) (by decide +kernel), List.mem_of_getElem? (i := 915) (by decide +kernel)⟩
theorem lw_p33 : lw_okq (⟨"EdgeNotesModel", "canStand", "(II)Z"⟩, 47) := ⟨⟨by decide +kernel, by decide +kernel⟩, List.mem_of_getElem? (i := 657) (by decide +kernel), List.mem_of_getElem? (i := 918) (by decide +kernel), List.mem_of_getElem? (i := 919) (by decide +kernel)⟩
theorem lw_p34 : lw_okq (⟨"EdgeNotesModel", "rowOf", "(I)V"⟩, 47) := ⟨⟨by decide +kernel, by decide +kernel⟩, List.mem_of_getElem? (i := 657) (by decide +kernel), List.mem_of_getElem? (i := 922) (by decide +kernel), List.mem_of_getElem? (i := 923) (by decide +kernel)⟩
theorem lw_p35 : lw_okq (⟨"EdgeNotesModel", "choices", "()I"⟩, 47) := ⟨⟨by decide +kernel, by decide +kernel⟩, List.mem_of_getElem? (i := 657) (by decide +kernel), List.mem_of_getElem? (i := 926) (by decide +kernel), List.mem_of_getElem? (i := 927) (by decide +kernel)⟩
theorem lw_p36 : lw_okq (⟨"EdgeNotesModel", "stands", "(II)Z"⟩, 47) := ⟨⟨by decide +kernel, by decide +kernel⟩, List.mem_of_getElem? (i := 657) (by decide +kernel), List.mem_of_getElem? (i := 930) (by decide +kernel), List.mem_of_getElem? (i := 931) (by decide +kernel)⟩
theorem lw_p37 : lw_okq (⟨"EdgeNotesModel", "tall", "(II)I"⟩, 47) := ⟨⟨by decide +kernel, by decide +kernel⟩, List.mem_of_getElem? (i := 657) (by decide +kernel), List.mem_of_getElem? (i := 934) (by decide +kernel), List.mem_of_getElem? (i := 935) (by decide +kernel)⟩
theorem lw_p38 : lw_okq (⟨"EdgeNotesModel", "sets", "(I)V"⟩, 47) := ⟨⟨by decide +kernel, by decide +kernel⟩, List.mem_of_getElem? (i := 657) (by decide +kernel), List.mem_of_getElem? (i := 938) (by decide +kernel), List.mem_of_getElem? (i := 939) (by decide +kernel)⟩
theorem lw_p39 : lw_okq (⟨"EdgeNotesModel", "costs", "(II)J"⟩, 47) := ⟨⟨by decide +kernel, by decide +kernel⟩, List.mem_of_getElem? (i := 657) (by decide +kernel), List.mem_of_getElem? (i := 943) (by decide +kernel), List.mem_of_getElem? (i := 944) (by decide +kernel)⟩
theorem lw_p40 : lw_okq (⟨"EdgeNotesModel", "own", "(II)J"⟩, 47) := ⟨⟨by decide +kernel, by decide +kernel⟩, List.mem_of_getElem? (i := 657) (by decide +kernel), List.mem_of_getElem? (i := 947) (by decide +kernel), List.mem_of_getElem? (i := 948) (by decide +kernel)⟩
theorem lw_p41 : lw_okq (⟨"EdgeNotesModel", "places", "(II)V"⟩, 47) := ⟨⟨by decide +kernel, by decide +kernel⟩, List.mem_of_getElem? (i := 657) (by decide +kernel), List.mem_of_getElem? (i := 955) (by decide +kernel), List.mem_of_getElem? (i := 956) (by decide +kernel)⟩
theorem lw_p42 : lw_okq (⟨"EdgeNotesModel", "isAt", "(IIIJ)Z"⟩, 47) := ⟨⟨by decide +kernel, by decide +kernel⟩, List.mem_of_getElem? (i := 657) (by decide +kernel), List.mem_of_getElem? (i := 959) (by decide +kernel), List.mem_of_getElem? (i := 960) (by decide +kernel)⟩
theorem lw_p43 : lw_okq (⟨"EdgeNotesModel", "asked", "(I)I"⟩, 47) := ⟨⟨by decide +kernel, by decide +kernel⟩, List.mem_of_getElem? (i := 657) (by decide +kernel), List.mem_of_getElem? (i := 975) (by decide +kernel), List.mem_of_getElem? (i := 976) (by decide +kernel)⟩
theorem lw_p44 : lw_okq (⟨"EdgeNotesModel", "bracketed", "(II)I"⟩, 47) := ⟨⟨by decide +kernel, by decide +kernel⟩, List.mem_of_getElem? (i := 657) (by decide +kernel), List.mem_of_getElem? (i := 991) (by decide +kernel), List.mem_of_getElem? (i := 992) (by decide +kernel)⟩
theorem lw_p45 : lw_okq (⟨"EdgeNotesModel", "brackets", "(I)V"⟩, 47) := ⟨⟨by decide +kernel, by decide +kernel⟩, List.mem_of_getElem? (i := 657) (by decide +kernel), List.mem_of_getElem? (i := 995) (by decide +kernel), List.mem_of_getElem? (i := 996) (by decide +kernel)⟩
theorem lw_p46 : lw_okq (⟨"EdgeNotesModel", "isMet", "(II)Z"⟩, 47) := ⟨⟨by decide +kernel, by decide +kernel⟩, List.mem_of_getElem? (i := 657) (by decide +kernel), List.mem_of_getElem? (i := 1001) (by decide +kernel), List.mem_of_getElem? (i := 1002) (by decide +kernel)⟩
def lw_privs_3 : List (MethodName × Nat) := [(⟨"EdgeNotesModel", "sides", "(II)V"⟩, 47), (⟨"EdgeNotesModel", "canStand", "(II)Z"⟩, 47), (⟨"EdgeNotesModel", "rowOf", "(I)V"⟩, 47), (⟨"EdgeNotesModel", "choices", "()I"⟩, 47), (⟨"EdgeNotesModel", "stands", "(II)Z"⟩, 47), (⟨"EdgeNotesModel", "tall", "(II)I"⟩, 47), (⟨"EdgeNotesModel", "sets", "(I)V"⟩, 47), (⟨"EdgeNotesModel", "costs", "(II)J"⟩, 47), (⟨"EdgeNotesModel", "own", "(II)J"⟩, 47), (⟨"EdgeNotesModel", "places", "(II)V"⟩, 47), (⟨"EdgeNotesModel", "isAt", "(IIIJ)Z"⟩, 47), (⟨"EdgeNotesModel", "asked", "(I)I"⟩, 47), (⟨"EdgeNotesModel", "bracketed", "(II)I"⟩, 47), (⟨"EdgeNotesModel", "brackets", "(I)V"⟩, 47), (⟨"EdgeNotesModel", "isMet", "(II)Z"⟩, 47)]
theorem lw_r3 : ∀ q ∈ lw_privs_3, lw_okq q := List.forall_mem_cons.mpr ⟨lw_p32, List.forall_mem_cons.mpr ⟨lw_p33, List.forall_mem_cons.mpr ⟨lw_p34, List.forall_mem_cons.mpr ⟨lw_p35, List.forall_mem_cons.mpr ⟨lw_p36, List.forall_mem_cons.mpr ⟨lw_p37, List.forall_mem_cons.mpr ⟨lw_p38, List.forall_mem_cons.mpr ⟨lw_p39, List.forall_mem_cons.mpr ⟨lw_p40, List.forall_mem_cons.mpr ⟨lw_p41, List.forall_mem_cons.mpr ⟨lw_p42, List.forall_mem_cons.mpr ⟨lw_p43, List.forall_mem_cons.mpr ⟨lw_p44, List.forall_mem_cons.mpr ⟨lw_p45, List.forall_mem_cons.mpr ⟨lw_p46, fun _ h => absurd h List.not_mem_nil⟩⟩⟩⟩⟩⟩⟩⟩⟩⟩⟩⟩⟩⟩⟩
def lw_privs : List (MethodName × Nat) := lw_privs_1 ++ (lw_privs_2 ++ (lw_privs_3))
def lw_tbl : List Cond := k2_sels lw_privs ++ tables_1
theorem lw_privs_ok : ∀ q ∈ lw_privs, lw_okq q := by
  show ∀ q ∈ lw_privs_1 ++ (lw_privs_2 ++ (lw_privs_3)), lw_okq q
  exact List.forall_mem_append.mpr ⟨lw_r1, List.forall_mem_append.mpr ⟨lw_r2, lw_r3⟩⟩

def va_AOA (ty : FieldType) (U : State) : Prop := (Cond.arrayOver (.array ty)).before #[] U = true
theorem va_AOA.of {ty : FieldType} {A : Array Value} {U : State} (h : (Cond.arrayOver (.array ty)).before A U = true) : va_AOA ty U := h
theorem va_AOA.use {ty : FieldType} {A : Array Value} {U : State} (h : va_AOA ty U) : (Cond.arrayOver (.array ty)).before A U = true := h
/-! ===== BEGIN words of one list among another's, by their places ===== -/
theorem goodIn_r {big : List Cond} (ws : List Cond) (ps : List Nat) (hp : ws = ps.filterMap (fun i => big[i]?)) (h : ws.all goodWord = true) : GoodIn big ws := by
  intro w hw
  have h1 := List.all_eq_true.mp h w hw
  rw [hp] at hw
  obtain ⟨i, -, hi⟩ := List.mem_filterMap.mp hw
  have hm : w ∈ big := by first | exact List.mem_of_getElem? hi | exact List.getElem?_mem hi
  exact ⟨hm, good_of_word h1⟩
theorem goodIn_app {big a b : List Cond} (ha : GoodIn big a) (hb : GoodIn big b) : GoodIn big (a ++ b) := fun w h => (List.mem_append.mp h).elim (ha w) (hb w)
theorem goodIn_ca {big a b : List Cond} {c : Cond} (ha : GoodIn big (c :: a)) (hb : GoodIn big b) : GoodIn big (c :: (a ++ b)) := fun w h => (List.mem_cons.mp h).elim (fun e => ha w (List.mem_cons.mpr (Or.inl e))) (fun h => (List.mem_append.mp h).elim (fun h => ha w (List.mem_cons.mpr (Or.inr h))) (hb w))
theorem goodIn_sub {big ws : List Cond} (hm : ∀ w ∈ ws, w ∈ big) (h : ws.all goodWord = true) : GoodIn big ws := fun w hw => ⟨hm w hw, good_of_word (List.all_eq_true.mp h w hw)⟩
/-! ===== END ===== -/

/-! ===== BEGIN new T[n][m]: the outer array a place, the inner ones among the pooled ===== -/
/-- f, but v at every address of l -/
def vr_up {α : Type} (f : Nat → α) (l : List Nat) (v : α) : Nat → α := fun a => if a ∈ l then v else f a
theorem vr_up_in {α : Type} {f : Nat → α} {l : List Nat} {v : α} {a : Nat} (h : a ∈ l) : vr_up f l v a = v := if_pos h
theorem vr_up_ne {α : Type} {f : Nat → α} {l : List Nat} {v : α} {a : Nat} (h : a ∉ l) : vr_up f l v a = f a := if_neg h
theorem vr_rows {L l : List Nat} {f : Nat → va_E} {e : va_E} (h : ∀ a, a ∈ l → a ∉ L) : va_pl L f ++ l.map (fun a => (a, e)) = va_pl (L ++ l) (vr_up f l e) := by
  unfold va_pl
  rw [List.map_append]
  congr 1
  · apply List.map_congr_left
    intro a ha
    rw [vr_up_ne (fun q => h a q ha)]
  · apply List.map_congr_left
    intro a ha
    rw [vr_up_in ha]
theorem vr_lay {X rows : va_W} {x : Nat × va_E} {pl : va_W} {D : va_G} {cl : List vw_C} {H : Heap} (hP : va_P D cl (((X ++ pl) ++ [x]) ++ rows) H) : va_P D cl ((X ++ [x]) ++ (pl ++ rows)) H := by
  rw [List.append_assoc (X ++ pl)] at hP
  have h := va_P.swap hP
  rw [← List.append_assoc X] at h
  have h2 := va_P.swap h
  rw [List.append_assoc (X ++ [x])] at h2
  exact h2
theorem vr_layD {X rows : va_W} {x : Nat × va_E} {pl : va_W} {A : Nat → Prop} (hD : va_D A (((X ++ pl) ++ [x]) ++ rows)) : va_D A ((X ++ [x]) ++ (pl ++ rows)) := by
  rw [List.append_assoc (X ++ pl)] at hD
  have h := va_D.swap hD
  rw [← List.append_assoc X] at h
  have h2 := va_D.swap h
  rw [List.append_assoc (X ++ [x])] at h2
  exact h2
theorem vr_outer (c : ClassId) (N h0 : Nat) : ∀ i : Nat, Jvm.Free.Multi.outerC c N h0 i = arrV c N (fun j => va_rf (if j < i then some (h0 + 1 + j) else none))
  | 0 => by
    show ({ cls := c, slots := Array.replicate N .null, vm := .none } : Cell) = _
    rw [arrV_new]
    refine congrArg (arrV c N) (funext fun j => ?_)
    simp [va_rf]
  | i + 1 => by
    show (Jvm.Free.Multi.outerC c N h0 i).setSlot i (.ref (h0 + 1 + i)) = _
    rw [vr_outer c N h0 i, arrV_store]
    refine congrArg (arrV c N) (funext fun j => ?_)
    by_cases e : j = i
    · subst e
      simp [updV, va_rf]
    · by_cases h : j < i
      · simp [updV, e, h, Nat.lt_succ_of_lt h]
      · simp [updV, e, h, show ¬ j < i + 1 by omega]
section VGM
variable {p : Program} {l : Launch} {e : Env} {R : Room} {s : State} {m : MethodId} {args : Array Value} {below : List Frame} {meth : Method} {c : Code} {H : Heap} {locs : List Loc} {cells slots : Nat} {Q : State → Prop}
variable {cc : ByteArray} {pc : Nat} {ls : Array Slot} {rest : List Value} {D : va_G} {cl : List vw_C} {A : Nat → Prop} {a : Nat} {tys : List (ClassId × FieldType)} {ws : va_W} {H0 : Heap}
theorem va_mna {X : va_W} {L : List Nat} {f : Nat → va_E} {cc : ByteArray} (hexec : p.tables.exec = Jvm.exec) (hb : c.code = cc) {own : String} {index : Nat} {ty : FieldType} {cy : ClassId} (hown : s.vm.findClass own = some m.cls) (hclink : (Cond.classLink own index ("[" ++ (FieldType.array ty).toString)).before args s = true) (hover : va_AOA ty s) (harr : (Cond.arrayClass ty).before args s = true) (hcy : s.vm.findClass (FieldType.array ty).toString = some cy)
    (hK : va_K D cl tys s) (hP : va_P D cl (X ++ va_pl L f) H) (hD : va_D A (X ++ va_pl L f)) (hS : va_S A H0 H locs) (hA : ∀ q, H0.size ≤ q → A q) {n k : Int32} {N' K' : Nat} {z : vp_A} (hn : ¬ n < 0) (hk : ¬ k < 0) (hN : n.toNatClampNeg = N') (hM : k.toNatClampNeg = K')
    (hb1 : N' * 4 ≤ 536870912) (hb2 : K' * componentBytes ty ≤ 536870912) (hb3 : K' ≤ 536870912) (hdf : fits ty (defaultValue ty) = true) (hdd : (defaultValue ty).isDefault = true) (hcells : cells + (1 + N') ≤ R.cells) (hslots : slots + (N' + N' * K') ≤ R.slots) (hz : ∀ c : ClassId, Jvm.Free.Multi.innerC c K' (defaultValue ty) = vp_cell c z) (hdg : decode cc pc = .ok (.multianewarray index 2, 4))
    (kk : ∀ (q : Nat) (r : Nat → Nat) (cA : ClassId) (H1 : Heap), (∀ i j : Nat, i < N' → j < N' → r i = r j → i = j) → (∀ i : Nat, i < N' → r i ∉ L) → va_K D cl (tys ++ [(cA, .array ty)]) s →
      va_P D cl ((X ++ [(q, .inl (cA, N', .inr (.inr (.inr (.inr (fun i => if i < N' then some (r i) else none))))))]) ++ va_pl (L ++ (List.range N').map r) (vr_up f ((List.range N').map r) (.inl (cy, z)))) H1 → va_D A ((X ++ [(q, .inl (cA, N', .inr (.inr (.inr (.inr (fun i => if i < N' then some (r i) else none))))))]) ++ va_pl (L ++ (List.range N').map r) (vr_up f ((List.range N').map r) (.inl (cy, z)))) → va_S A H0 H1 locs →
      W p l e R s m args below meth c H1 locs (cells + 1 + N') (slots + N' + N' * K') Q (F0 m (pc + 4) ls (.ref q :: rest))) : W p l e R s m args below meth c H locs cells slots Q (F0 m pc ls (.int k :: .int n :: rest)) := by
  subst hN
  subst hM
  intro T hT Xs
  obtain ⟨vm₁, cA, comp, -, fA, fC, hO, -, X', step⟩ := Xs.multianewarray2F hexec hown hclink (va_AOA.use hover) harr (g := F0 m pc ls (.int k :: .int n :: rest)) rfl (by rw [hb]; exact hdg) rfl hn hk hb1 hb2 hb3 hdf hdd hcells hslots
  have ec : some cy = some comp := hcy.symm.trans fC
  cases ec
  generalize hF : Jvm.Free.Multi.fill (T.setVm vm₁) cA cy n.toNatClampNeg k.toNatClampNeg (defaultValue ty) n.toNatClampNeg = F at X' step
  have hTh : (T.setVm vm₁).heap = H := hT
  obtain ⟨f1, f2, -, -⟩ := Jvm.Free.Multi.fill_facts (T.setVm vm₁) cA cy n.toNatClampNeg k.toNatClampNeg (defaultValue ty) n.toNatClampNeg
  rw [hF, hTh] at f1 f2
  have hold : ∀ x : Nat, x < H.size → F.heap[x]? = H[x]? := fun x hx => by
    have := Jvm.Free.Multi.fill_old (T.setVm vm₁) cA cy n.toNatClampNeg k.toNatClampNeg (defaultValue ty) (a := x) (by rw [hTh]; exact hx) n.toNatClampNeg
    rw [hF, hTh] at this
    exact this
  have hrow : ∀ j : Nat, j < n.toNatClampNeg → F.heap[H.size + 1 + j]? = some (vp_cell cy z) := fun j hj => by
    have := Jvm.Free.Multi.fill_inner (T.setVm vm₁) cA cy n.toNatClampNeg k.toNatClampNeg (defaultValue ty) n.toNatClampNeg j hj
    rw [hF, hTh, hz] at this
    exact this
  have hout : Jvm.Free.Multi.outerC cA n.toNatClampNeg H.size n.toNatClampNeg = vp_cell cA (n.toNatClampNeg, .inr (.inr (.inr (.inr (fun i => if i < n.toNatClampNeg then some (H.size + 1 + i) else none))))) := by
    rw [vp_cell_q]
    exact vr_outer cA n.toNatClampNeg H.size n.toNatClampNeg
  rw [hout] at f2
  have hlt : ∀ a, a ∈ L → a < H.size := fun a ha => by
    obtain ⟨k9, hk9⟩ := va_pl_get (X := X) (f := f) ha
    exact (hP k9 _ hk9).lt
  have hnl : ∀ i : Nat, i < n.toNatClampNeg → H.size + 1 + i ∉ L := fun i _ h => by
    have := hlt _ h
    omega
  have hnm : ∀ a, a ∈ (List.range n.toNatClampNeg).map (fun i => H.size + 1 + i) → a ∉ L := fun a ha h => by
    obtain ⟨i, -, rfl⟩ := List.mem_map.mp ha
    have := hlt _ h
    omega
  have hP0 : va_P D cl (X ++ va_pl L f) F.heap := hP.kept (fun k9 x hx => hold x.1 ((hP k9 x hx).lt))
  have hP1 : va_P D cl ((X ++ va_pl L f) ++ [(H.size, .inl (cA, n.toNatClampNeg, .inr (.inr (.inr (.inr (fun i => if i < n.toNatClampNeg then some (H.size + 1 + i) else none))))))]) F.heap := hP0.app (fun k9 x hx => by
    have h0 : k9 < 1 := (List.getElem?_eq_some_iff.mp hx).1
    rw [show k9 = 0 by omega] at hx
    cases hx
    exact f2)
  have hP2 : va_P D cl (((X ++ va_pl L f) ++ [(H.size, .inl (cA, n.toNatClampNeg, .inr (.inr (.inr (.inr (fun i => if i < n.toNatClampNeg then some (H.size + 1 + i) else none))))))]) ++ ((List.range n.toNatClampNeg).map (fun i => H.size + 1 + i)).map (fun a => (a, .inl (cy, z)))) F.heap := hP1.app (fun k9 x hx => by
    obtain ⟨a, ha, rfl⟩ := List.mem_map.mp (List.mem_of_getElem? hx)
    obtain ⟨i, hi, rfl⟩ := List.mem_map.mp ha
    exact hrow i (List.mem_range.mp hi))
  have hD2 : va_D A (((X ++ va_pl L f) ++ [(H.size, .inl (cA, n.toNatClampNeg, .inr (.inr (.inr (.inr (fun i => if i < n.toNatClampNeg then some (H.size + 1 + i) else none))))))]) ++ ((List.range n.toNatClampNeg).map (fun i => H.size + 1 + i)).map (fun a => (a, .inl (cy, z)))) := by
    have hD1 := hD.push (e := .inl (cA, n.toNatClampNeg, .inr (.inr (.inr (.inr (fun i => if i < n.toNatClampNeg then some (H.size + 1 + i) else none)))))) hP rfl (hA _ hS.1)
    generalize hW1 : (X ++ va_pl L f) ++ [(H.size, .inl (cA, n.toNatClampNeg, .inr (.inr (.inr (.inr (fun i => if i < n.toNatClampNeg then some (H.size + 1 + i) else none))))))] = W1 at hD1 hP1 ⊢
    have hle : ∀ (k9 : Nat) (x : Nat × va_E), W1[k9]? = some x → x.1 ≤ H.size := fun k9 x hx => by
      rw [← hW1] at hx
      by_cases hl : k9 < (X ++ va_pl L f).length
      · rw [List.getElem?_append_left hl] at hx
        exact Nat.le_of_lt ((hP k9 x hx).lt)
      · rw [List.getElem?_append_right (by omega)] at hx
        have h0 : k9 - (X ++ va_pl L f).length < 1 := (List.getElem?_eq_some_iff.mp hx).1
        rw [show k9 - (X ++ va_pl L f).length = 0 by omega] at hx
        cases hx
        exact Nat.le_refl _
    have hr : ∀ (k9 : Nat) (x : Nat × va_E), (((List.range n.toNatClampNeg).map (fun i => H.size + 1 + i)).map (fun a => ((a, .inl (cy, z)) : Nat × va_E)))[k9]? = some x → x.1 = H.size + 1 + k9 := fun k9 x hx => by
      rw [List.getElem?_map, List.getElem?_map] at hx
      by_cases h9 : k9 < n.toNatClampNeg
      · rw [List.getElem?_range h9] at hx
        cases hx
        rfl
      · have hn0 : (List.range n.toNatClampNeg)[k9]? = none := List.getElem?_eq_none (by rw [List.length_range]; omega)
        rw [hn0] at hx
        cases hx
    refine ⟨fun i j x y hi hj hxy => ?_, fun k9 x hx => ?_⟩
    · by_cases h1 : i < W1.length <;> by_cases h2 : j < W1.length
      · rw [List.getElem?_append_left h1] at hi
        rw [List.getElem?_append_left h2] at hj
        exact hD1.1 i j x y hi hj hxy
      · rw [List.getElem?_append_left h1] at hi
        rw [List.getElem?_append_right (by omega)] at hj
        have := hle _ _ hi
        have := hr _ _ hj
        omega
      · rw [List.getElem?_append_right (by omega)] at hi
        rw [List.getElem?_append_left h2] at hj
        have := hle _ _ hj
        have := hr _ _ hi
        omega
      · rw [List.getElem?_append_right (by omega)] at hi hj
        have := hr _ _ hi
        have := hr _ _ hj
        omega
    · by_cases h1 : k9 < W1.length
      · rw [List.getElem?_append_left h1] at hx
        exact hD1.2 k9 x hx
      · rw [List.getElem?_append_right (by omega)] at hx
        have := hr _ _ hx
        exact hA _ (by have := hS.1; omega)
  have hAr : ArrOfT s cA (.array ty) := fun N9 z9 => by
    obtain ⟨-, k9, hk9, cm9, hkk9⟩ := (hO 0 0 0).1
    exact ⟨(fun q hq => by cases hq), k9, hk9, cm9, hkk9⟩
  have hK2 : va_K D cl (tys ++ [(cA, .array ty)]) s := ⟨hK.1, fun k9 x hx => by
    by_cases hl : k9 < tys.length
    · rw [List.getElem?_append_left hl] at hx
      exact hK.2 k9 x hx
    · rw [List.getElem?_append_right (by omega)] at hx
      have h0 : k9 - tys.length < 1 := (List.getElem?_eq_some_iff.mp hx).1
      rw [show k9 - tys.length = 0 by omega] at hx
      cases hx
      exact ⟨hAr, fA⟩⟩
  obtain ⟨t, a1, b1⟩ := kk H.size (fun i => H.size + 1 + i) cA F.heap (fun i j _ _ h => by have h9 : H.size + 1 + i = H.size + 1 + j := h; omega) hnl hK2 (by rw [← vr_rows hnm]; exact vr_lay hP2) (by rw [← vr_rows hnm]; exact vr_layD hD2) ⟨by rw [f1]; have := hS.1; omega, fun x h1 h2 => (hold x (Nat.lt_of_lt_of_le h1 hS.1)).trans (hS.2.1 x h1 h2), hS.2.2⟩ F rfl X'
  refine ⟨t, step t ?_, b1⟩
  have e : T.heap.size = H.size := by rw [hT]
  rw [e]
  exact a1
end VGM
/-! ===== END ===== -/

/-! ===== BEGIN printed: names, fields, word lists, decode rows ===== -/
def RX0 : String := "EdgeNotes$Book"
def TX0 : u_T := fun k => match k with
  | 0 => ("EdgeNotes$Book", "lineHeights", "[I", true)
  | 1 => ("EdgeNotes$Book", "notes", "[LEdgeNotes$Note;", true)
  | 2 => ("EdgeNotes$Book", "lineCount", "I", false)
  | 3 => ("EdgeNotes$Book", "noteCount", "I", false)
  | 4 => ("EdgeNotes$Book", "height", "I", false)
  | 5 => ("EdgeNotes$Book", "gap", "I", false)
  | 6 => ("EdgeNotes$Book", "cutting", "I", false)
  | 7 => ("EdgeNotes$Book", "shown", "I", false)
  | _ => ("EdgeNotes$Book", "keep", "Z", false)
def tyX0 : Nat → FieldType := fun k => match k with
  | 0 => .array .int
  | 1 => .array (.object "EdgeNotes$Note")
  | 2 => .int
  | 3 => .int
  | 4 => .int
  | 5 => .int
  | 6 => .int
  | 7 => .int
  | _ => .boolean
abbrev wsX00 : List Cond := u_ws RX0 TX0 9
theorem nmX0 : ∀ a, a < 9 → ∀ b, b < 9 → a ≠ b → (TX0 a).2.1 ≠ (TX0 b).2.1 := by decide +kernel
theorem tyX0_ok : ∀ k, k < 9 → parseFieldDescriptor (TX0 k).2.2.1 = some (tyX0 k) := by decide +kernel
abbrev cX0_init : ByteArray := prog_2_method_1_code
def yX0_init : MethodName := ⟨RX0, "<init>", "()V"⟩
abbrev cX0_addLine : ByteArray := prog_2_method_2_code
def yX0_addLine : MethodName := ⟨RX0, "addLine", "(I)I"⟩
abbrev cX0_addNote : ByteArray := prog_2_method_3_code
def yX0_addNote : MethodName := ⟨RX0, "addNote", "(LEdgeNotes$Note;)I"⟩
abbrev cX0_hasLine : ByteArray := prog_2_method_4_code
def yX0_hasLine : MethodName := ⟨RX0, "hasLine", "(I)Z"⟩
abbrev cX0_find : ByteArray := prog_2_method_5_code
def yX0_find : MethodName := ⟨RX0, "find", "(I)LEdgeNotes$Note;"⟩
abbrev cX0_isShown : ByteArray := prog_2_method_6_code
def yX0_isShown : MethodName := ⟨RX0, "isShown", "(LEdgeNotes$Note;)Z"⟩
abbrev cX0_isSet : ByteArray := prog_2_method_7_code
def yX0_isSet : MethodName := ⟨RX0, "isSet", "(LEdgeNotes$Note;)Z"⟩
def RX1 : String := "EdgeNotes$Breaks"
def TX1 : u_T := fun k => match k with
  | 0 => ("EdgeNotes$Breaks", "linePage", "[I", true)
  | 1 => ("EdgeNotes$Breaks", "lineTop", "[I", true)
  | 2 => ("EdgeNotes$Breaks", "costs", "[I", true)
  | 3 => ("EdgeNotes$Breaks", "count", "I", false)
  | 4 => ("EdgeNotes$Breaks", "held", "Z", false)
  | 5 => ("EdgeNotes$Breaks", "stale", "Z", false)
  | 6 => ("EdgeNotes$Breaks", "firstLines", "[I", true)
  | 7 => ("EdgeNotes$Breaks", "endLines", "[I", true)
  | 8 => ("EdgeNotes$Breaks", "firstNotes", "[I", true)
  | 9 => ("EdgeNotes$Breaks", "endNotes", "[I", true)
  | 10 => ("EdgeNotes$Breaks", "carried", "[[I", true)
  | 11 => ("EdgeNotes$Breaks", "book", "LEdgeNotes$Book;", true)
  | 12 => ("EdgeNotes$Breaks", "order", "LEdgeNotes$Order;", true)
  | _ => ("EdgeNotes$Breaks", "setter", "LEdgeNotes$PageSetter;", true)
def tyX1 : Nat → FieldType := fun k => match k with
  | 0 => .array .int
  | 1 => .array .int
  | 2 => .array .int
  | 3 => .int
  | 4 => .boolean
  | 5 => .boolean
  | 6 => .array .int
  | 7 => .array .int
  | 8 => .array .int
  | 9 => .array .int
  | 10 => .array (.array .int)
  | 11 => .object "EdgeNotes$Book"
  | 12 => .object "EdgeNotes$Order"
  | _ => .object "EdgeNotes$PageSetter"
abbrev wsX10 : List Cond := u_ws RX1 TX1 14
theorem nmX1 : ∀ a, a < 14 → ∀ b, b < 14 → a ≠ b → (TX1 a).2.1 ≠ (TX1 b).2.1 := by decide +kernel
theorem tyX1_ok : ∀ k, k < 14 → parseFieldDescriptor (TX1 k).2.2.1 = some (tyX1 k) := by decide +kernel
abbrev cX1_init : ByteArray := prog_3_method_1_code
def yX1_init : MethodName := ⟨RX1, "<init>", "(LEdgeNotes$Book;)V"⟩
abbrev cX1_refresh : ByteArray := prog_3_method_2_code
def yX1_refresh : MethodName := ⟨RX1, "refresh", "()V"⟩
abbrev cX1_hasPage : ByteArray := prog_3_method_3_code
def yX1_hasPage : MethodName := ⟨RX1, "hasPage", "(I)Z"⟩
abbrev cX1_takeLines : ByteArray := prog_3_method_4_code
def yX1_takeLines : MethodName := ⟨RX1, "takeLines", "(I)I"⟩
abbrev cX1_layPage : ByteArray := prog_3_method_5_code
def yX1_layPage : MethodName := ⟨RX1, "layPage", "(III)V"⟩
abbrev cX1_countRuns : ByteArray := prog_3_method_6_code
def yX1_countRuns : MethodName := ⟨RX1, "countRuns", "(II)I"⟩
abbrev cX1_countMoved : ByteArray := prog_3_method_7_code
def yX1_countMoved : MethodName := ⟨RX1, "countMoved", "(I)I"⟩
abbrev cX1_hasBracket : ByteArray := prog_3_method_8_code
def yX1_hasBracket : MethodName := ⟨RX1, "hasBracket", "(LEdgeNotes$Note;I)Z"⟩
abbrev cX1_bracketBegin : ByteArray := prog_3_method_9_code
def yX1_bracketBegin : MethodName := ⟨RX1, "bracketBegin", "(LEdgeNotes$Note;I)I"⟩
abbrev cX1_bracketEnd : ByteArray := prog_3_method_10_code
def yX1_bracketEnd : MethodName := ⟨RX1, "bracketEnd", "(LEdgeNotes$Note;I)I"⟩
abbrev cX1_firstOf : ByteArray := prog_3_method_11_code
def yX1_firstOf : MethodName := ⟨RX1, "firstOf", "(LEdgeNotes$Note;I)I"⟩
abbrev cX1_lastOf : ByteArray := prog_3_method_12_code
def yX1_lastOf : MethodName := ⟨RX1, "lastOf", "(LEdgeNotes$Note;I)I"⟩
abbrev cX1_columnOf : ByteArray := prog_3_method_13_code
def yX1_columnOf : MethodName := ⟨RX1, "columnOf", "(LEdgeNotes$Note;I)I"⟩
abbrev cX1_takenAhead : ByteArray := prog_3_method_14_code
def yX1_takenAhead : MethodName := ⟨RX1, "takenAhead", "(II)I"⟩
abbrev cX1_leastFree : ByteArray := prog_3_method_15_code
def yX1_leastFree : MethodName := ⟨RX1, "leastFree", "(I)I"⟩
def RX2 : String := "EdgeNotes$Edge"
def TX2 : u_T := fun k => match k with
  | 0 => ("EdgeNotes$Edge", "book", "LEdgeNotes$Book;", true)
  | 1 => ("EdgeNotes$Edge", "number", "I", true)
  | 2 => ("EdgeNotes$Edge", "row", "[LEdgeNotes$Note;", true)
  | 3 => ("EdgeNotes$Edge", "shifts", "[I", true)
  | 4 => ("EdgeNotes$Edge", "ceilings", "[I", true)
  | 5 => ("EdgeNotes$Edge", "levels", "[I", true)
  | 6 => ("EdgeNotes$Edge", "bends", "[I", true)
  | 7 => ("EdgeNotes$Edge", "forces", "[I", true)
  | 8 => ("EdgeNotes$Edge", "bendCount", "I", false)
  | 9 => ("EdgeNotes$Edge", "count", "I", false)
  | 10 => ("EdgeNotes$Edge", "nextShift", "I", false)
  | 11 => ("EdgeNotes$Edge", "carried", "I", false)
  | _ => ("EdgeNotes$Edge", "chosenCut", "I", false)
def tyX2 : Nat → FieldType := fun k => match k with
  | 0 => .object "EdgeNotes$Book"
  | 1 => .int
  | 2 => .array (.object "EdgeNotes$Note")
  | 3 => .array .int
  | 4 => .array .int
  | 5 => .array .int
  | 6 => .array .int
  | 7 => .array .int
  | 8 => .int
  | 9 => .int
  | 10 => .int
  | 11 => .int
  | _ => .int
abbrev wsX20 : List Cond := u_ws RX2 TX2 13
theorem nmX2 : ∀ a, a < 13 → ∀ b, b < 13 → a ≠ b → (TX2 a).2.1 ≠ (TX2 b).2.1 := by decide +kernel
theorem tyX2_ok : ∀ k, k < 13 → parseFieldDescriptor (TX2 k).2.2.1 = some (tyX2 k) := by decide +kernel
abbrev cX2_init : ByteArray := prog_4_method_1_code
def yX2_init : MethodName := ⟨RX2, "<init>", "(LEdgeNotes$Book;I)V"⟩
abbrev cX2_clear : ByteArray := prog_4_method_2_code
def yX2_clear : MethodName := ⟨RX2, "clear", "()V"⟩
abbrev cX2_add : ByteArray := prog_4_method_3_code
def yX2_add : MethodName := ⟨RX2, "add", "(LEdgeNotes$Note;)V"⟩
abbrev cX2_fits : ByteArray := prog_4_method_4_code
def yX2_fits : MethodName := ⟨RX2, "fits", "()Z"⟩
abbrev cX2_fitsCut : ByteArray := prog_4_method_5_code
def yX2_fitsCut : MethodName := ⟨RX2, "fitsCut", "(LEdgeNotes$Note;I)Z"⟩
abbrev cX2_choose : ByteArray := prog_4_method_6_code
def yX2_choose : MethodName := ⟨RX2, "choose", "(I)I"⟩
abbrev cX2_stand : ByteArray := prog_4_method_7_code
def yX2_stand : MethodName := ⟨RX2, "stand", "(I)V"⟩
abbrev cX2_leastCost : ByteArray := prog_4_method_8_code
def yX2_leastCost : MethodName := ⟨RX2, "leastCost", "(II)I"⟩
abbrev cX2_hangCeilings : ByteArray := prog_4_method_9_code
def yX2_hangCeilings : MethodName := ⟨RX2, "hangCeilings", "(I)Z"⟩
abbrev cX2_pull : ByteArray := prog_4_method_10_code
def yX2_pull : MethodName := ⟨RX2, "pull", "(II)I"⟩
def RX3 : String := "EdgeNotes$Note"
def TX3 : u_T := fun k => match k with
  | 0 => ("EdgeNotes$Note", "height", "I", true)
  | 1 => ("EdgeNotes$Note", "weight", "I", true)
  | 2 => ("EdgeNotes$Note", "side", "I", true)
  | 3 => ("EdgeNotes$Note", "layer", "I", true)
  | 4 => ("EdgeNotes$Note", "cuts", "[I", true)
  | 5 => ("EdgeNotes$Note", "cutCount", "I", false)
  | 6 => ("EdgeNotes$Note", "line", "I", false)
  | 7 => ("EdgeNotes$Note", "answers", "I", false)
  | 8 => ("EdgeNotes$Note", "tall", "I", false)
  | 9 => ("EdgeNotes$Note", "fixed", "I", false)
  | 10 => ("EdgeNotes$Note", "bound", "I", false)
  | 11 => ("EdgeNotes$Note", "lineTop", "I", false)
  | 12 => ("EdgeNotes$Note", "edge", "I", false)
  | 13 => ("EdgeNotes$Note", "place", "I", false)
  | 14 => ("EdgeNotes$Note", "rest", "I", false)
  | _ => ("EdgeNotes$Note", "bracketColumn", "I", false)
def tyX3 : Nat → FieldType := fun k => match k with
  | 0 => .int
  | 1 => .int
  | 2 => .int
  | 3 => .int
  | 4 => .array .int
  | 5 => .int
  | 6 => .int
  | 7 => .int
  | 8 => .int
  | 9 => .int
  | 10 => .int
  | 11 => .int
  | 12 => .int
  | 13 => .int
  | 14 => .int
  | _ => .int
abbrev wsX30 : List Cond := u_ws RX3 TX3 16
theorem nmX3 : ∀ a, a < 16 → ∀ b, b < 16 → a ≠ b → (TX3 a).2.1 ≠ (TX3 b).2.1 := by decide +kernel
theorem tyX3_ok : ∀ k, k < 16 → parseFieldDescriptor (TX3 k).2.2.1 = some (tyX3 k) := by decide +kernel
abbrev cX3_init : ByteArray := prog_5_method_1_code
def yX3_init : MethodName := ⟨RX3, "<init>", "(IIIII)V"⟩
abbrev cX3_isFixed : ByteArray := prog_5_method_2_code
def yX3_isFixed : MethodName := ⟨RX3, "isFixed", "()Z"⟩
abbrev cX3_leavesAtMost : ByteArray := prog_5_method_3_code
def yX3_leavesAtMost : MethodName := ⟨RX3, "leavesAtMost", "(II)Z"⟩
abbrev cX3_hasCut : ByteArray := prog_5_method_4_code
def yX3_hasCut : MethodName := ⟨RX3, "hasCut", "(I)Z"⟩
abbrev cX3_addCut : ByteArray := prog_5_method_5_code
def yX3_addCut : MethodName := ⟨RX3, "addCut", "(I)V"⟩
def RX4 : String := "EdgeNotes$Order"
def TX4 : u_T := fun k => match k with
  | 0 => ("EdgeNotes$Order", "notes", "[LEdgeNotes$Note;", true)
  | _ => ("EdgeNotes$Order", "count", "I", false)
def tyX4 : Nat → FieldType := fun k => match k with
  | 0 => .array (.object "EdgeNotes$Note")
  | _ => .int
abbrev wsX40 : List Cond := u_ws RX4 TX4 2
theorem nmX4 : ∀ a, a < 2 → ∀ b, b < 2 → a ≠ b → (TX4 a).2.1 ≠ (TX4 b).2.1 := by decide +kernel
theorem tyX4_ok : ∀ k, k < 2 → parseFieldDescriptor (TX4 k).2.2.1 = some (tyX4 k) := by decide +kernel
abbrev cX4_init : ByteArray := prog_6_method_1_code
def yX4_init : MethodName := ⟨RX4, "<init>", "()V"⟩
abbrev cX4_gather : ByteArray := prog_6_method_2_code
def yX4_gather : MethodName := ⟨RX4, "gather", "(LEdgeNotes$Book;)V"⟩
abbrev cX4_insert : ByteArray := prog_6_method_3_code
def yX4_insert : MethodName := ⟨RX4, "insert", "(LEdgeNotes$Note;)V"⟩
def RX5 : String := "EdgeNotes$PageSetter"
def TX5 : u_T := fun k => match k with
  | 0 => ("EdgeNotes$PageSetter", "left", "LEdgeNotes$Edge;", true)
  | 1 => ("EdgeNotes$PageSetter", "right", "LEdgeNotes$Edge;", true)
  | 2 => ("EdgeNotes$PageSetter", "firstNote", "I", false)
  | 3 => ("EdgeNotes$PageSetter", "endNote", "I", false)
  | 4 => ("EdgeNotes$PageSetter", "order", "LEdgeNotes$Order;", true)
  | 5 => ("EdgeNotes$PageSetter", "eitherCount", "I", false)
  | _ => ("EdgeNotes$PageSetter", "firstDealing", "I", false)
def tyX5 : Nat → FieldType := fun k => match k with
  | 0 => .object "EdgeNotes$Edge"
  | 1 => .object "EdgeNotes$Edge"
  | 2 => .int
  | 3 => .int
  | 4 => .object "EdgeNotes$Order"
  | 5 => .int
  | _ => .int
abbrev wsX50 : List Cond := u_ws RX5 TX5 7
theorem nmX5 : ∀ a, a < 7 → ∀ b, b < 7 → a ≠ b → (TX5 a).2.1 ≠ (TX5 b).2.1 := by decide +kernel
theorem tyX5_ok : ∀ k, k < 7 → parseFieldDescriptor (TX5 k).2.2.1 = some (tyX5 k) := by decide +kernel
abbrev cX5_init : ByteArray := prog_7_method_1_code
def yX5_init : MethodName := ⟨RX5, "<init>", "(LEdgeNotes$Book;LEdgeNotes$Order;)V"⟩
abbrev cX5_beginBook : ByteArray := prog_7_method_2_code
def yX5_beginBook : MethodName := ⟨RX5, "beginBook", "()V"⟩
abbrev cX5_beginPage : ByteArray := prog_7_method_3_code
def yX5_beginPage : MethodName := ⟨RX5, "beginPage", "()V"⟩
abbrev cX5_carries : ByteArray := prog_7_method_4_code
def yX5_carries : MethodName := ⟨RX5, "carries", "()Z"⟩
abbrev cX5_takeNotesOf : ByteArray := prog_7_method_5_code
def yX5_takeNotesOf : MethodName := ⟨RX5, "takeNotesOf", "(I)Z"⟩
abbrev cX5_findDealing : ByteArray := prog_7_method_6_code
def yX5_findDealing : MethodName := ⟨RX5, "findDealing", "(I)Z"⟩
abbrev cX5_dealings : ByteArray := prog_7_method_7_code
def yX5_dealings : MethodName := ⟨RX5, "dealings", "()I"⟩
abbrev cX5_deal : ByteArray := prog_7_method_8_code
def yX5_deal : MethodName := ⟨RX5, "deal", "(I)V"⟩
abbrev cX5_setBest : ByteArray := prog_7_method_9_code
def yX5_setBest : MethodName := ⟨RX5, "setBest", "()I"⟩
def RX6 : String := "EdgeNotes"
def TX6 : u_T := fun k => match k with
  | 0 => ("EdgeNotes", "book", "LEdgeNotes$Book;", true)
  | 1 => ("EdgeNotes", "breaks", "LEdgeNotes$Breaks;", true)
  | _ => ("EdgeNotes", "status", "I", false)
def tyX6 : Nat → FieldType := fun k => match k with
  | 0 => .object "EdgeNotes$Book"
  | 1 => .object "EdgeNotes$Breaks"
  | _ => .int
abbrev wsX60 : List Cond := u_ws RX6 TX6 3
theorem nmX6 : ∀ a, a < 3 → ∀ b, b < 3 → a ≠ b → (TX6 a).2.1 ≠ (TX6 b).2.1 := by decide +kernel
theorem tyX6_ok : ∀ k, k < 3 → parseFieldDescriptor (TX6 k).2.2.1 = some (tyX6 k) := by decide +kernel
abbrev cX6_init : ByteArray := prog_1_method_1_code
def yX6_init : MethodName := ⟨RX6, "<init>", "()V"⟩
abbrev cX6_status : ByteArray := prog_1_method_2_code
def yX6_status : MethodName := ⟨RX6, "status", "()I"⟩
abbrev cX6_page : ByteArray := prog_1_method_3_code
def yX6_page : MethodName := ⟨RX6, "page", "(II)Z"⟩
abbrev cX6_line : ByteArray := prog_1_method_4_code
def yX6_line : MethodName := ⟨RX6, "line", "(I)I"⟩
abbrev cX6_change : ByteArray := prog_1_method_5_code
def yX6_change : MethodName := ⟨RX6, "change", "(II)Z"⟩
abbrev cX6_note : ByteArray := prog_1_method_6_code
def yX6_note : MethodName := ⟨RX6, "note", "(IIIII)I"⟩
abbrev cX6_answer : ByteArray := prog_1_method_7_code
def yX6_answer : MethodName := ⟨RX6, "answer", "(II)I"⟩
abbrev cX6_cut : ByteArray := prog_1_method_8_code
def yX6_cut : MethodName := ⟨RX6, "cut", "(II)I"⟩
abbrev cX6_cutting : ByteArray := prog_1_method_9_code
def yX6_cutting : MethodName := ⟨RX6, "cutting", "(I)Z"⟩
abbrev cX6_bind : ByteArray := prog_1_method_10_code
def yX6_bind : MethodName := ⟨RX6, "bind", "(II)Z"⟩
abbrev cX6_fix : ByteArray := prog_1_method_11_code
def yX6_fix : MethodName := ⟨RX6, "fix", "(II)Z"⟩
abbrev cX6_loose : ByteArray := prog_1_method_12_code
def yX6_loose : MethodName := ⟨RX6, "loose", "(I)Z"⟩
abbrev cX6_move : ByteArray := prog_1_method_13_code
def yX6_move : MethodName := ⟨RX6, "move", "(II)Z"⟩
abbrev cX6_show : ByteArray := prog_1_method_14_code
def yX6_show : MethodName := ⟨RX6, "show", "(I)Z"⟩
abbrev cX6_keep : ByteArray := prog_1_method_15_code
def yX6_keep : MethodName := ⟨RX6, "keep", "(Z)Z"⟩
abbrev cX6_told : ByteArray := prog_1_method_16_code
def yX6_told : MethodName := ⟨RX6, "told", "(II)I"⟩
abbrev cX6_pages : ByteArray := prog_1_method_17_code
def yX6_pages : MethodName := ⟨RX6, "pages", "()I"⟩
abbrev cX6_pageOf : ByteArray := prog_1_method_18_code
def yX6_pageOf : MethodName := ⟨RX6, "pageOf", "(I)I"⟩
abbrev cX6_top : ByteArray := prog_1_method_19_code
def yX6_top : MethodName := ⟨RX6, "top", "(I)I"⟩
abbrev cX6_side : ByteArray := prog_1_method_20_code
def yX6_side : MethodName := ⟨RX6, "side", "(I)I"⟩
abbrev cX6_place : ByteArray := prog_1_method_21_code
def yX6_place : MethodName := ⟨RX6, "place", "(I)I"⟩
abbrev cX6_rest : ByteArray := prog_1_method_22_code
def yX6_rest : MethodName := ⟨RX6, "rest", "(I)I"⟩
abbrev cX6_column : ByteArray := prog_1_method_23_code
def yX6_column : MethodName := ⟨RX6, "column", "(II)I"⟩
abbrev cX6_bracket : ByteArray := prog_1_method_24_code
def yX6_bracket : MethodName := ⟨RX6, "bracket", "(IIZ)I"⟩
abbrev cX6_cost : ByteArray := prog_1_method_25_code
def yX6_cost : MethodName := ⟨RX6, "cost", "(I)I"⟩
abbrev cX6_runs : ByteArray := prog_1_method_26_code
def yX6_runs : MethodName := ⟨RX6, "runs", "(II)I"⟩
abbrev cX6_moved : ByteArray := prog_1_method_27_code
def yX6_moved : MethodName := ⟨RX6, "moved", "(I)I"⟩
abbrev cX6_faultOfLine : ByteArray := prog_1_method_28_code
def yX6_faultOfLine : MethodName := ⟨RX6, "faultOfLine", "(I)I"⟩
abbrev cX6_faultOfNote : ByteArray := prog_1_method_29_code
def yX6_faultOfNote : MethodName := ⟨RX6, "faultOfNote", "(LEdgeNotes$Note;)I"⟩
abbrev cX6_faultOfPage : ByteArray := prog_1_method_30_code
def yX6_faultOfPage : MethodName := ⟨RX6, "faultOfPage", "(I)I"⟩
abbrev cX6_faultOfBracket : ByteArray := prog_1_method_31_code
def yX6_faultOfBracket : MethodName := ⟨RX6, "faultOfBracket", "(LEdgeNotes$Note;I)I"⟩
abbrev cX6_accept : ByteArray := prog_1_method_32_code
def yX6_accept : MethodName := ⟨RX6, "accept", "()Z"⟩
abbrev cX6_refuse : ByteArray := prog_1_method_33_code
def yX6_refuse : MethodName := ⟨RX6, "refuse", "(I)Z"⟩
abbrev cX6_give : ByteArray := prog_1_method_34_code
def yX6_give : MethodName := ⟨RX6, "give", "(I)I"⟩
abbrev cX6_none : ByteArray := prog_1_method_35_code
def yX6_none : MethodName := ⟨RX6, "none", "(I)I"⟩
abbrev cX6_within : ByteArray := prog_1_method_36_code
def yX6_within : MethodName := ⟨RX6, "within", "(III)Z"⟩
abbrev cX6_isLineHeight : ByteArray := prog_1_method_37_code
def yX6_isLineHeight : MethodName := ⟨RX6, "isLineHeight", "(I)Z"⟩
abbrev cX6_isNoteHeight : ByteArray := prog_1_method_38_code
def yX6_isNoteHeight : MethodName := ⟨RX6, "isNoteHeight", "(I)Z"⟩
def RX7 : String := "EdgeNotesModel"
def TX7 : u_T := fun k => match k with
  | 0 => ("EdgeNotesModel", "status", "I", false)
  | 1 => ("EdgeNotesModel", "thrown", "I", false)
  | 2 => ("EdgeNotesModel", "high", "I", false)
  | 3 => ("EdgeNotesModel", "gap", "I", false)
  | 4 => ("EdgeNotesModel", "cutting", "I", false)
  | 5 => ("EdgeNotesModel", "layers", "I", false)
  | 6 => ("EdgeNotesModel", "keeps", "Z", false)
  | 7 => ("EdgeNotesModel", "lines", "I", false)
  | 8 => ("EdgeNotesModel", "notes", "I", false)
  | 9 => ("EdgeNotesModel", "lineHigh", "[I", true)
  | 10 => ("EdgeNotesModel", "line", "[I", true)
  | 11 => ("EdgeNotesModel", "size", "[I", true)
  | 12 => ("EdgeNotesModel", "weight", "[I", true)
  | 13 => ("EdgeNotesModel", "sideOf", "[I", true)
  | 14 => ("EdgeNotesModel", "layer", "[I", true)
  | 15 => ("EdgeNotesModel", "answers", "[I", true)
  | 16 => ("EdgeNotesModel", "below", "[I", true)
  | 17 => ("EdgeNotesModel", "cuts", "[I", true)
  | 18 => ("EdgeNotesModel", "fixedAt", "[I", true)
  | 19 => ("EdgeNotesModel", "bound", "[I", true)
  | 20 => ("EdgeNotesModel", "cutAt", "[I", true)
  | 21 => ("EdgeNotesModel", "isSet", "Z", false)
  | 22 => ("EdgeNotesModel", "hasBreaks", "Z", false)
  | 23 => ("EdgeNotesModel", "pages", "I", false)
  | 24 => ("EdgeNotesModel", "firstLine", "[I", true)
  | 25 => ("EdgeNotesModel", "pageLines", "[I", true)
  | 26 => ("EdgeNotesModel", "carried", "[I", true)
  | 27 => ("EdgeNotesModel", "pageCost", "[J", true)
  | 28 => ("EdgeNotesModel", "lineTop", "[I", true)
  | 29 => ("EdgeNotesModel", "linePage", "[I", true)
  | 30 => ("EdgeNotesModel", "setSide", "[I", true)
  | 31 => ("EdgeNotesModel", "setTop", "[I", true)
  | 32 => ("EdgeNotesModel", "setTall", "[I", true)
  | 33 => ("EdgeNotesModel", "setRest", "[I", true)
  | 34 => ("EdgeNotesModel", "notePage", "[I", true)
  | 35 => ("EdgeNotesModel", "here", "[I", true)
  | 36 => ("EdgeNotesModel", "side", "[I", true)
  | 37 => ("EdgeNotesModel", "bestSide", "[I", true)
  | 38 => ("EdgeNotesModel", "row", "[I", true)
  | 39 => ("EdgeNotesModel", "hereMany", "I", false)
  | 40 => ("EdgeNotesModel", "rowMany", "I", false)
  | 41 => ("EdgeNotesModel", "choice", "[I", true)
  | 42 => ("EdgeNotesModel", "bestChoice", "[I", true)
  | 43 => ("EdgeNotesModel", "least", "[J", true)
  | 44 => ("EdgeNotesModel", "from1", "[I", true)
  | 45 => ("EdgeNotesModel", "to1", "[I", true)
  | _ => ("EdgeNotesModel", "column", "[I", true)
def tyX7 : Nat → FieldType := fun k => match k with
  | 0 => .int
  | 1 => .int
  | 2 => .int
  | 3 => .int
  | 4 => .int
  | 5 => .int
  | 6 => .boolean
  | 7 => .int
  | 8 => .int
  | 9 => .array .int
  | 10 => .array .int
  | 11 => .array .int
  | 12 => .array .int
  | 13 => .array .int
  | 14 => .array .int
  | 15 => .array .int
  | 16 => .array .int
  | 17 => .array .int
  | 18 => .array .int
  | 19 => .array .int
  | 20 => .array .int
  | 21 => .boolean
  | 22 => .boolean
  | 23 => .int
  | 24 => .array .int
  | 25 => .array .int
  | 26 => .array .int
  | 27 => .array .long
  | 28 => .array .int
  | 29 => .array .int
  | 30 => .array .int
  | 31 => .array .int
  | 32 => .array .int
  | 33 => .array .int
  | 34 => .array .int
  | 35 => .array .int
  | 36 => .array .int
  | 37 => .array .int
  | 38 => .array .int
  | 39 => .int
  | 40 => .int
  | 41 => .array .int
  | 42 => .array .int
  | 43 => .array .long
  | 44 => .array .int
  | 45 => .array .int
  | _ => .array .int
abbrev wsX70 : List Cond := u_ws RX7 TX7 47
theorem nmX7 : ∀ a, a < 47 → ∀ b, b < 47 → a ≠ b → (TX7 a).2.1 ≠ (TX7 b).2.1 := by decide +kernel
theorem tyX7_ok : ∀ k, k < 47 → parseFieldDescriptor (TX7 k).2.2.1 = some (tyX7 k) := by decide +kernel
abbrev cX7_init : ByteArray := prog_9_method_1_code
def yX7_init : MethodName := ⟨RX7, "<init>", "()V"⟩
abbrev cX7_status : ByteArray := prog_9_method_3_code
def yX7_status : MethodName := ⟨RX7, "status", "()I"⟩
abbrev cX7_refuse : ByteArray := prog_9_method_4_code
def yX7_refuse : MethodName := ⟨RX7, "refuse", "(I)I"⟩
abbrev cX7_no : ByteArray := prog_9_method_5_code
def yX7_no : MethodName := ⟨RX7, "no", "(I)Z"⟩
abbrev cX7_done : ByteArray := prog_9_method_6_code
def yX7_done : MethodName := ⟨RX7, "done", "()Z"⟩
abbrev cX7_isLine : ByteArray := prog_9_method_7_code
def yX7_isLine : MethodName := ⟨RX7, "isLine", "(I)Z"⟩
abbrev cX7_isNote : ByteArray := prog_9_method_8_code
def yX7_isNote : MethodName := ⟨RX7, "isNote", "(I)Z"⟩
abbrev cX7_page : ByteArray := prog_9_method_9_code
def yX7_page : MethodName := ⟨RX7, "page", "(II)Z"⟩
abbrev cX7_line : ByteArray := prog_9_method_10_code
def yX7_line : MethodName := ⟨RX7, "line", "(I)I"⟩
abbrev cX7_change : ByteArray := prog_9_method_11_code
def yX7_change : MethodName := ⟨RX7, "change", "(II)Z"⟩
abbrev cX7_note : ByteArray := prog_9_method_12_code
def yX7_note : MethodName := ⟨RX7, "note", "(IIIII)I"⟩
abbrev cX7_answer : ByteArray := prog_9_method_13_code
def yX7_answer : MethodName := ⟨RX7, "answer", "(II)I"⟩
abbrev cX7_cut : ByteArray := prog_9_method_14_code
def yX7_cut : MethodName := ⟨RX7, "cut", "(II)I"⟩
abbrev cX7_cutting : ByteArray := prog_9_method_15_code
def yX7_cutting : MethodName := ⟨RX7, "cutting", "(I)Z"⟩
abbrev cX7_bind : ByteArray := prog_9_method_16_code
def yX7_bind : MethodName := ⟨RX7, "bind", "(II)Z"⟩
abbrev cX7_fix : ByteArray := prog_9_method_17_code
def yX7_fix : MethodName := ⟨RX7, "fix", "(II)Z"⟩
abbrev cX7_loose : ByteArray := prog_9_method_18_code
def yX7_loose : MethodName := ⟨RX7, "loose", "(I)Z"⟩
abbrev cX7_move : ByteArray := prog_9_method_19_code
def yX7_move : MethodName := ⟨RX7, "move", "(II)Z"⟩
abbrev cX7_show : ByteArray := prog_9_method_20_code
def yX7_show : MethodName := ⟨RX7, "show", "(I)Z"⟩
abbrev cX7_keep : ByteArray := prog_9_method_21_code
def yX7_keep : MethodName := ⟨RX7, "keep", "(Z)Z"⟩
abbrev cX7_isShown : ByteArray := prog_9_method_22_code
def yX7_isShown : MethodName := ⟨RX7, "isShown", "(I)Z"⟩
abbrev cX7_tallOf : ByteArray := prog_9_method_23_code
def yX7_tallOf : MethodName := ⟨RX7, "tallOf", "(I)I"⟩
abbrev cX7_told : ByteArray := prog_9_method_24_code
def yX7_told : MethodName := ⟨RX7, "told", "(II)I"⟩
abbrev cX7_gather : ByteArray := prog_9_method_25_code
def yX7_gather : MethodName := ⟨RX7, "gather", "(II)I"⟩
abbrev cX7_sides : ByteArray := prog_9_method_26_code
def yX7_sides : MethodName := ⟨RX7, "sides", "(II)V"⟩
abbrev cX7_rowOf : ByteArray := prog_9_method_27_code
def yX7_rowOf : MethodName := ⟨RX7, "rowOf", "(I)V"⟩
abbrev cX7_choices : ByteArray := prog_9_method_28_code
def yX7_choices : MethodName := ⟨RX7, "choices", "()I"⟩
abbrev cX7_tall : ByteArray := prog_9_method_29_code
def yX7_tall : MethodName := ⟨RX7, "tall", "(II)I"⟩
abbrev cX7_stands : ByteArray := prog_9_method_30_code
def yX7_stands : MethodName := ⟨RX7, "stands", "(II)Z"⟩
abbrev cX7_isHeld : ByteArray := prog_9_method_31_code
def yX7_isHeld : MethodName := ⟨RX7, "isHeld", "(IIII)Z"⟩
abbrev cX7_canStand : ByteArray := prog_9_method_32_code
def yX7_canStand : MethodName := ⟨RX7, "canStand", "(II)Z"⟩
abbrev cX7_costs : ByteArray := prog_9_method_33_code
def yX7_costs : MethodName := ⟨RX7, "costs", "(II)J"⟩
abbrev cX7_own : ByteArray := prog_9_method_34_code
def yX7_own : MethodName := ⟨RX7, "own", "(II)J"⟩
abbrev cX7_sets : ByteArray := prog_9_method_35_code
def yX7_sets : MethodName := ⟨RX7, "sets", "(I)V"⟩
abbrev cX7_places : ByteArray := prog_9_method_36_code
def yX7_places : MethodName := ⟨RX7, "places", "(II)V"⟩
abbrev cX7_isAt : ByteArray := prog_9_method_37_code
def yX7_isAt : MethodName := ⟨RX7, "isAt", "(IIIJ)Z"⟩
abbrev cX7_setAll : ByteArray := prog_9_method_38_code
def yX7_setAll : MethodName := ⟨RX7, "setAll", "()V"⟩
abbrev cX7_lacks : ByteArray := prog_9_method_39_code
def yX7_lacks : MethodName := ⟨RX7, "lacks", "()Z"⟩
abbrev cX7_pages : ByteArray := prog_9_method_40_code
def yX7_pages : MethodName := ⟨RX7, "pages", "()I"⟩
abbrev cX7_pageOf : ByteArray := prog_9_method_41_code
def yX7_pageOf : MethodName := ⟨RX7, "pageOf", "(I)I"⟩
abbrev cX7_top : ByteArray := prog_9_method_42_code
def yX7_top : MethodName := ⟨RX7, "top", "(I)I"⟩
abbrev cX7_asked : ByteArray := prog_9_method_43_code
def yX7_asked : MethodName := ⟨RX7, "asked", "(I)I"⟩
abbrev cX7_side : ByteArray := prog_9_method_44_code
def yX7_side : MethodName := ⟨RX7, "side", "(I)I"⟩
abbrev cX7_place : ByteArray := prog_9_method_45_code
def yX7_place : MethodName := ⟨RX7, "place", "(I)I"⟩
abbrev cX7_rest : ByteArray := prog_9_method_46_code
def yX7_rest : MethodName := ⟨RX7, "rest", "(I)I"⟩
abbrev cX7_brackets : ByteArray := prog_9_method_47_code
def yX7_brackets : MethodName := ⟨RX7, "brackets", "(I)V"⟩
abbrev cX7_isMet : ByteArray := prog_9_method_48_code
def yX7_isMet : MethodName := ⟨RX7, "isMet", "(II)Z"⟩
abbrev cX7_bracketed : ByteArray := prog_9_method_49_code
def yX7_bracketed : MethodName := ⟨RX7, "bracketed", "(II)I"⟩
abbrev cX7_column : ByteArray := prog_9_method_50_code
def yX7_column : MethodName := ⟨RX7, "column", "(II)I"⟩
abbrev cX7_bracket : ByteArray := prog_9_method_51_code
def yX7_bracket : MethodName := ⟨RX7, "bracket", "(IIZ)I"⟩
abbrev cX7_cost : ByteArray := prog_9_method_52_code
def yX7_cost : MethodName := ⟨RX7, "cost", "(I)I"⟩
abbrev cX7_runs : ByteArray := prog_9_method_53_code
def yX7_runs : MethodName := ⟨RX7, "runs", "(II)I"⟩
abbrev cX7_moved : ByteArray := prog_9_method_54_code
def yX7_moved : MethodName := ⟨RX7, "moved", "(I)I"⟩
def RL : String := "EdgeNotesLaw"
abbrev cL_law : ByteArray := code
def yL_law : MethodName := ⟨RL, "law", "([I)Z"⟩
abbrev vwCl : List vw_C := [(RX0, TX0, 9), (RX1, TX1, 14), (RX2, TX2, 13), (RX3, TX3, 16), (RX4, TX4, 2), (RX5, TX5, 7), (RX6, TX6, 3), (RX7, TX7, 47)]

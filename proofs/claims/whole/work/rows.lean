section
-- ===== PART A: goes FIRST, ahead of the names: the tables' words, and 'selects' of the private methods out of them =====
/-- a private method of a class that the tables say can be made, by its rows of tables_1 -/
def lw_okq (q : MethodName × Nat) : Prop := (q.1.cls ≠ "java/lang/invoke/MethodHandle" ∧ q.1.cls ≠ "java/lang/invoke/VarHandle") ∧ Cond.instantiable q.1.cls q.2 ∈ tables_1 ∧ Cond.privateMethod q.1 ∈ tables_1 ∧ Cond.instanceMethod q.1 ∈ tables_1
theorem lw_p0 : lw_okq (⟨"EdgeNotes", "refuse", "(I)Z"⟩, 3) := ⟨⟨by decide +kernel, by decide +kernel⟩, List.mem_of_getElem? (i := 11) (by decide +kernel), List.mem_of_getElem? (i := 251) (by decide +kernel), List.mem_of_getElem? (i := 252) (by decide +kernel)⟩
theorem lw_p1 : lw_okq (⟨"EdgeNotes", "accept", "()Z"⟩, 3) := ⟨⟨by decide +kernel, by decide +kernel⟩, List.mem_of_getElem? (i := 11) (by decide +kernel), List.mem_of_getElem? (i := 255) (by decide +kernel), List.mem_of_getElem? (i := 256) (by decide +kernel)⟩
theorem lw_p2 : lw_okq (⟨"EdgeNotes", "none", "(I)I"⟩, 3) := ⟨⟨by decide +kernel, by decide +kernel⟩, List.mem_of_getElem? (i := 11) (by decide +kernel), List.mem_of_getElem? (i := 266) (by decide +kernel), List.mem_of_getElem? (i := 267) (by decide +kernel)⟩
theorem lw_p3 : lw_okq (⟨"EdgeNotes", "give", "(I)I"⟩, 3) := ⟨⟨by decide +kernel, by decide +kernel⟩, List.mem_of_getElem? (i := 11) (by decide +kernel), List.mem_of_getElem? (i := 274) (by decide +kernel), List.mem_of_getElem? (i := 275) (by decide +kernel)⟩
theorem lw_p4 : lw_okq (⟨"EdgeNotes$Order", "insert", "(LEdgeNotes$Note;)V"⟩, 2) := ⟨⟨by decide +kernel, by decide +kernel⟩, List.mem_of_getElem? (i := 81) (by decide +kernel), List.mem_of_getElem? (i := 457) (by decide +kernel), List.mem_of_getElem? (i := 458) (by decide +kernel)⟩
theorem lw_p5 : lw_okq (⟨"EdgeNotes$Breaks", "takeLines", "(I)I"⟩, 14) := ⟨⟨by decide +kernel, by decide +kernel⟩, List.mem_of_getElem? (i := 73) (by decide +kernel), List.mem_of_getElem? (i := 473) (by decide +kernel), List.mem_of_getElem? (i := 474) (by decide +kernel)⟩
theorem lw_p6 : lw_okq (⟨"EdgeNotes$PageSetter", "findDealing", "(I)Z"⟩, 7) := ⟨⟨by decide +kernel, by decide +kernel⟩, List.mem_of_getElem? (i := 99) (by decide +kernel), List.mem_of_getElem? (i := 481) (by decide +kernel), List.mem_of_getElem? (i := 482) (by decide +kernel)⟩
theorem lw_p7 : lw_okq (⟨"EdgeNotes$PageSetter", "dealings", "()I"⟩, 7) := ⟨⟨by decide +kernel, by decide +kernel⟩, List.mem_of_getElem? (i := 99) (by decide +kernel), List.mem_of_getElem? (i := 485) (by decide +kernel), List.mem_of_getElem? (i := 486) (by decide +kernel)⟩
theorem lw_p8 : lw_okq (⟨"EdgeNotes$PageSetter", "deal", "(I)V"⟩, 7) := ⟨⟨by decide +kernel, by decide +kernel⟩, List.mem_of_getElem? (i := 99) (by decide +kernel), List.mem_of_getElem? (i := 489) (by decide +kernel), List.mem_of_getElem? (i := 490) (by decide +kernel)⟩
theorem lw_p9 : lw_okq (⟨"EdgeNotes$Edge", "fitsCut", "(LEdgeNotes$Note;I)Z"⟩, 13) := ⟨⟨by decide +kernel, by decide +kernel⟩, List.mem_of_getElem? (i := 105) (by decide +kernel), List.mem_of_getElem? (i := 506) (by decide +kernel), List.mem_of_getElem? (i := 507) (by decide +kernel)⟩
theorem lw_p10 : lw_okq (⟨"EdgeNotes$Breaks", "layPage", "(III)V"⟩, 14) := ⟨⟨by decide +kernel, by decide +kernel⟩, List.mem_of_getElem? (i := 73) (by decide +kernel), List.mem_of_getElem? (i := 514) (by decide +kernel), List.mem_of_getElem? (i := 515) (by decide +kernel)⟩
theorem lw_p11 : lw_okq (⟨"EdgeNotes$Edge", "leastCost", "(II)I"⟩, 13) := ⟨⟨by decide +kernel, by decide +kernel⟩, List.mem_of_getElem? (i := 105) (by decide +kernel), List.mem_of_getElem? (i := 527) (by decide +kernel), List.mem_of_getElem? (i := 528) (by decide +kernel)⟩
theorem lw_p12 : lw_okq (⟨"EdgeNotes$Edge", "hangCeilings", "(I)Z"⟩, 13) := ⟨⟨by decide +kernel, by decide +kernel⟩, List.mem_of_getElem? (i := 105) (by decide +kernel), List.mem_of_getElem? (i := 531) (by decide +kernel), List.mem_of_getElem? (i := 532) (by decide +kernel)⟩
theorem lw_p13 : lw_okq (⟨"EdgeNotes$Edge", "pull", "(II)I"⟩, 13) := ⟨⟨by decide +kernel, by decide +kernel⟩, List.mem_of_getElem? (i := 105) (by decide +kernel), List.mem_of_getElem? (i := 544) (by decide +kernel), List.mem_of_getElem? (i := 545) (by decide +kernel)⟩
theorem lw_p14 : lw_okq (⟨"EdgeNotes", "faultOfLine", "(I)I"⟩, 3) := ⟨⟨by decide +kernel, by decide +kernel⟩, List.mem_of_getElem? (i := 11) (by decide +kernel), List.mem_of_getElem? (i := 557) (by decide +kernel), List.mem_of_getElem? (i := 558) (by decide +kernel)⟩
theorem lw_p15 : lw_okq (⟨"EdgeNotes", "faultOfNote", "(LEdgeNotes$Note;)I"⟩, 3) := ⟨⟨by decide +kernel, by decide +kernel⟩, List.mem_of_getElem? (i := 11) (by decide +kernel), List.mem_of_getElem? (i := 569) (by decide +kernel), List.mem_of_getElem? (i := 570) (by decide +kernel)⟩
def lw_privs_1 : List (MethodName × Nat) := [(⟨"EdgeNotes", "refuse", "(I)Z"⟩, 3), (⟨"EdgeNotes", "accept", "()Z"⟩, 3), (⟨"EdgeNotes", "none", "(I)I"⟩, 3), (⟨"EdgeNotes", "give", "(I)I"⟩, 3), (⟨"EdgeNotes$Order", "insert", "(LEdgeNotes$Note;)V"⟩, 2), (⟨"EdgeNotes$Breaks", "takeLines", "(I)I"⟩, 14), (⟨"EdgeNotes$PageSetter", "findDealing", "(I)Z"⟩, 7), (⟨"EdgeNotes$PageSetter", "dealings", "()I"⟩, 7), (⟨"EdgeNotes$PageSetter", "deal", "(I)V"⟩, 7), (⟨"EdgeNotes$Edge", "fitsCut", "(LEdgeNotes$Note;I)Z"⟩, 13), (⟨"EdgeNotes$Breaks", "layPage", "(III)V"⟩, 14), (⟨"EdgeNotes$Edge", "leastCost", "(II)I"⟩, 13), (⟨"EdgeNotes$Edge", "hangCeilings", "(I)Z"⟩, 13), (⟨"EdgeNotes$Edge", "pull", "(II)I"⟩, 13), (⟨"EdgeNotes", "faultOfLine", "(I)I"⟩, 3), (⟨"EdgeNotes", "faultOfNote", "(LEdgeNotes$Note;)I"⟩, 3)]
theorem lw_r1 : ∀ q ∈ lw_privs_1, lw_okq q := List.forall_mem_cons.mpr ⟨lw_p0, List.forall_mem_cons.mpr ⟨lw_p1, List.forall_mem_cons.mpr ⟨lw_p2, List.forall_mem_cons.mpr ⟨lw_p3, List.forall_mem_cons.mpr ⟨lw_p4, List.forall_mem_cons.mpr ⟨lw_p5, List.forall_mem_cons.mpr ⟨lw_p6, List.forall_mem_cons.mpr ⟨lw_p7, List.forall_mem_cons.mpr ⟨lw_p8, List.forall_mem_cons.mpr ⟨lw_p9, List.forall_mem_cons.mpr ⟨lw_p10, List.forall_mem_cons.mpr ⟨lw_p11, List.forall_mem_cons.mpr ⟨lw_p12, List.forall_mem_cons.mpr ⟨lw_p13, List.forall_mem_cons.mpr ⟨lw_p14, List.forall_mem_cons.mpr ⟨lw_p15, fun _ h => absurd h List.not_mem_nil⟩⟩⟩⟩⟩⟩⟩⟩⟩⟩⟩⟩⟩⟩⟩⟩
theorem lw_p16 : lw_okq (⟨"EdgeNotes", "faultOfBracket", "(LEdgeNotes$Note;I)I"⟩, 3) := ⟨⟨by decide +kernel, by decide +kernel⟩, List.mem_of_getElem? (i := 11) (by decide +kernel), List.mem_of_getElem? (i := 585) (by decide +kernel), List.mem_of_getElem? (i := 586) (by decide +kernel)⟩
theorem lw_p17 : lw_okq (⟨"EdgeNotes$Breaks", "firstOf", "(LEdgeNotes$Note;I)I"⟩, 14) := ⟨⟨by decide +kernel, by decide +kernel⟩, List.mem_of_getElem? (i := 73) (by decide +kernel), List.mem_of_getElem? (i := 598) (by decide +kernel), List.mem_of_getElem? (i := 599) (by decide +kernel)⟩
theorem lw_p18 : lw_okq (⟨"EdgeNotes$Breaks", "lastOf", "(LEdgeNotes$Note;I)I"⟩, 14) := ⟨⟨by decide +kernel, by decide +kernel⟩, List.mem_of_getElem? (i := 73) (by decide +kernel), List.mem_of_getElem? (i := 603) (by decide +kernel), List.mem_of_getElem? (i := 604) (by decide +kernel)⟩
theorem lw_p19 : lw_okq (⟨"EdgeNotes$Breaks", "takenAhead", "(II)I"⟩, 14) := ⟨⟨by decide +kernel, by decide +kernel⟩, List.mem_of_getElem? (i := 73) (by decide +kernel), List.mem_of_getElem? (i := 613) (by decide +kernel), List.mem_of_getElem? (i := 614) (by decide +kernel)⟩
theorem lw_p20 : lw_okq (⟨"EdgeNotes", "faultOfPage", "(I)I"⟩, 3) := ⟨⟨by decide +kernel, by decide +kernel⟩, List.mem_of_getElem? (i := 11) (by decide +kernel), List.mem_of_getElem? (i := 636) (by decide +kernel), List.mem_of_getElem? (i := 637) (by decide +kernel)⟩
theorem lw_p21 : lw_okq (⟨"EdgeNotesModel", "no", "(I)Z"⟩, 47) := ⟨⟨by decide +kernel, by decide +kernel⟩, List.mem_of_getElem? (i := 657) (by decide +kernel), List.mem_of_getElem? (i := 814) (by decide +kernel), List.mem_of_getElem? (i := 815) (by decide +kernel)⟩
theorem lw_p22 : lw_okq (⟨"EdgeNotesModel", "done", "()Z"⟩, 47) := ⟨⟨by decide +kernel, by decide +kernel⟩, List.mem_of_getElem? (i := 657) (by decide +kernel), List.mem_of_getElem? (i := 818) (by decide +kernel), List.mem_of_getElem? (i := 819) (by decide +kernel)⟩
theorem lw_p23 : lw_okq (⟨"EdgeNotesModel", "refuse", "(I)I"⟩, 47) := ⟨⟨by decide +kernel, by decide +kernel⟩, List.mem_of_getElem? (i := 657) (by decide +kernel), List.mem_of_getElem? (i := 826) (by decide +kernel), List.mem_of_getElem? (i := 827) (by decide +kernel)⟩
theorem lw_p24 : lw_okq (⟨"EdgeNotesModel", "isLine", "(I)Z"⟩, 47) := ⟨⟨by decide +kernel, by decide +kernel⟩, List.mem_of_getElem? (i := 657) (by decide +kernel), List.mem_of_getElem? (i := 834) (by decide +kernel), List.mem_of_getElem? (i := 835) (by decide +kernel)⟩
theorem lw_p25 : lw_okq (⟨"EdgeNotesModel", "isNote", "(I)Z"⟩, 47) := ⟨⟨by decide +kernel, by decide +kernel⟩, List.mem_of_getElem? (i := 657) (by decide +kernel), List.mem_of_getElem? (i := 846) (by decide +kernel), List.mem_of_getElem? (i := 847) (by decide +kernel)⟩
theorem lw_p26 : lw_okq (⟨"EdgeNotesModel", "tallOf", "(I)I"⟩, 47) := ⟨⟨by decide +kernel, by decide +kernel⟩, List.mem_of_getElem? (i := 657) (by decide +kernel), List.mem_of_getElem? (i := 886) (by decide +kernel), List.mem_of_getElem? (i := 887) (by decide +kernel)⟩
theorem lw_p27 : lw_okq (⟨"EdgeNotesModel", "isShown", "(I)Z"⟩, 47) := ⟨⟨by decide +kernel, by decide +kernel⟩, List.mem_of_getElem? (i := 657) (by decide +kernel), List.mem_of_getElem? (i := 890) (by decide +kernel), List.mem_of_getElem? (i := 891) (by decide +kernel)⟩
theorem lw_p28 : lw_okq (⟨"EdgeNotesModel", "lacks", "()Z"⟩, 47) := ⟨⟨by decide +kernel, by decide +kernel⟩, List.mem_of_getElem? (i := 657) (by decide +kernel), List.mem_of_getElem? (i := 898) (by decide +kernel), List.mem_of_getElem? (i := 899) (by decide +kernel)⟩
theorem lw_p29 : lw_okq (⟨"EdgeNotesModel", "setAll", "()V"⟩, 47) := ⟨⟨by decide +kernel, by decide +kernel⟩, List.mem_of_getElem? (i := 657) (by decide +kernel), List.mem_of_getElem? (i := 902) (by decide +kernel), List.mem_of_getElem? (i := 903) (by decide +kernel)⟩
theorem lw_p30 : lw_okq (⟨"EdgeNotesModel", "isHeld", "(IIII)Z"⟩, 47) := ⟨⟨by decide +kernel, by decide +kernel⟩, List.mem_of_getElem? (i := 657) (by decide +kernel), List.mem_of_getElem? (i := 906) (by decide +kernel), List.mem_of_getElem? (i := 907) (by decide +kernel)⟩
theorem lw_p31 : lw_okq (⟨"EdgeNotesModel", "gather", "(II)I"⟩, 47) := ⟨⟨by decide +kernel, by decide +kernel⟩, List.mem_of_getElem? (i := 657) (by decide +kernel), List.mem_of_getElem? (i := 910) (by decide +kernel), List.mem_of_getElem? (i := 911) (by decide +kernel)⟩
def lw_privs_2 : List (MethodName × Nat) := [(⟨"EdgeNotes", "faultOfBracket", "(LEdgeNotes$Note;I)I"⟩, 3), (⟨"EdgeNotes$Breaks", "firstOf", "(LEdgeNotes$Note;I)I"⟩, 14), (⟨"EdgeNotes$Breaks", "lastOf", "(LEdgeNotes$Note;I)I"⟩, 14), (⟨"EdgeNotes$Breaks", "takenAhead", "(II)I"⟩, 14), (⟨"EdgeNotes", "faultOfPage", "(I)I"⟩, 3), (⟨"EdgeNotesModel", "no", "(I)Z"⟩, 47), (⟨"EdgeNotesModel", "done", "()Z"⟩, 47), (⟨"EdgeNotesModel", "refuse", "(I)I"⟩, 47), (⟨"EdgeNotesModel", "isLine", "(I)Z"⟩, 47), (⟨"EdgeNotesModel", "isNote", "(I)Z"⟩, 47), (⟨"EdgeNotesModel", "tallOf", "(I)I"⟩, 47), (⟨"EdgeNotesModel", "isShown", "(I)Z"⟩, 47), (⟨"EdgeNotesModel", "lacks", "()Z"⟩, 47), (⟨"EdgeNotesModel", "setAll", "()V"⟩, 47), (⟨"EdgeNotesModel", "isHeld", "(IIII)Z"⟩, 47), (⟨"EdgeNotesModel", "gather", "(II)I"⟩, 47)]
theorem lw_r2 : ∀ q ∈ lw_privs_2, lw_okq q := List.forall_mem_cons.mpr ⟨lw_p16, List.forall_mem_cons.mpr ⟨lw_p17, List.forall_mem_cons.mpr ⟨lw_p18, List.forall_mem_cons.mpr ⟨lw_p19, List.forall_mem_cons.mpr ⟨lw_p20, List.forall_mem_cons.mpr ⟨lw_p21, List.forall_mem_cons.mpr ⟨lw_p22, List.forall_mem_cons.mpr ⟨lw_p23, List.forall_mem_cons.mpr ⟨lw_p24, List.forall_mem_cons.mpr ⟨lw_p25, List.forall_mem_cons.mpr ⟨lw_p26, List.forall_mem_cons.mpr ⟨lw_p27, List.forall_mem_cons.mpr ⟨lw_p28, List.forall_mem_cons.mpr ⟨lw_p29, List.forall_mem_cons.mpr ⟨lw_p30, List.forall_mem_cons.mpr ⟨lw_p31, fun _ h => absurd h List.not_mem_nil⟩⟩⟩⟩⟩⟩⟩⟩⟩⟩⟩⟩⟩⟩⟩⟩
theorem lw_p32 : lw_okq (⟨"EdgeNotesModel", "sides", "(II)V"⟩, 47) := ⟨⟨by decide +kernel, by decide +kernel⟩, List.mem_of_getElem? (i := 657) (by decide +kernel), List.mem_of_getElem? (i := 914) (by decide +kernel), List.mem_of_getElem? (i := 915) (by decide +kernel)⟩
theorem lw_p33 : lw_okq (⟨"EdgeNotesModel", "canStand", "(II)Z"⟩, 47) := ⟨⟨by decide +kernel, by decide +kernel⟩, List.mem_of_getElem? (i := 657) (by decide +kernel), List.mem_of_getElem? (i := 918) (by decide +kernel), List.mem_of_getElem? (i := 919) (by decide +kernel)⟩
theorem lw_p34 : lw_okq (⟨"EdgeNotesModel", "rowOf", "(I)V"⟩, 47) := ⟨⟨by decide +kernel, by decide +kernel⟩, List.mem_of_getElem? (i := 657) (by decide +kernel), List.mem_of_getElem? (i := 922) (by decide +kernel), List.mem_of_getElem? (i := 923) (by decide +kernel)⟩
theorem lw_p35 : lw_okq (⟨"EdgeNotesModel", "choices", "()I"⟩, 47) := ⟨⟨by decide +kernel, by decide +kernel⟩, List.mem_of_getElem? (i := 657) (by decide +kernel), List.mem_of_getElem? (i := 926) (by decide +kernel), List.mem_of_getElem? (i := 927) (by decide +kernel)⟩
theorem lw_p36 : lw_okq (⟨"EdgeNotesModel", "stands", "(II)Z"⟩, 47) := ⟨⟨by decide +kernel, by decide +kernel⟩, List.mem_of_getElem? (i := 657) (by decide +kernel), List.mem_of_getElem? (i := 930) (by decide +kernel), List.mem_of_getElem? (i := 931) (by decide +kernel)⟩
theorem lw_p37 : lw_okq (⟨"EdgeNotesModel", "tall", "(II)I"⟩, 47) := ⟨⟨by decide +kernel, by decide +kernel⟩, List.mem_of_getElem? (i := 657) (by decide +kernel), List.mem_of_getElem? (i := 934) (by decide +kernel), List.mem_of_getElem? (i := 935) (by decide +kernel)⟩
theorem lw_p38 : lw_okq (⟨"EdgeNotesModel", "sets", "(I)V"⟩, 47) := ⟨⟨by decide +kernel, by decide +kernel⟩, List.mem_of_getElem? (i := 657) (by decide +kernel), List.mem_of_getElem? (i := 938) (by decide +kernel), List.mem_of_getElem? (i := 939) (by decide +kernel)⟩
theorem lw_p39 : lw_okq (⟨"EdgeNotesModel", "costs", "(II)J"⟩, 47) := ⟨⟨by decide +kernel, by decide +kernel⟩, List.mem_of_getElem? (i := 657) (by decide +kernel), List.mem_of_getElem? (i := 943) (by decide +kernel), List.mem_of_getElem? (i := 944) (by decide +kernel)⟩
theorem lw_p40 : lw_okq (⟨"EdgeNotesModel", "own", "(II)J"⟩, 47) := ⟨⟨by decide +kernel, by decide +kernel⟩, List.mem_of_getElem? (i := 657) (by decide +kernel), List.mem_of_getElem? (i := 947) (by decide +kernel), List.mem_of_getElem? (i := 948) (by decide +kernel)⟩
theorem lw_p41 : lw_okq (⟨"EdgeNotesModel", "places", "(II)V"⟩, 47) := ⟨⟨by decide +kernel, by decide +kernel⟩, List.mem_of_getElem? (i := 657) (by decide +kernel), List.mem_of_getElem? (i := 955) (by decide +kernel), List.mem_of_getElem? (i := 956) (by decide +kernel)⟩
theorem lw_p42 : lw_okq (⟨"EdgeNotesModel", "isAt", "(IIIJ)Z"⟩, 47) := ⟨⟨by decide +kernel, by decide +kernel⟩, List.mem_of_getElem? (i := 657) (by decide +kernel), List.mem_of_getElem? (i := 959) (by decide +kernel), List.mem_of_getElem? (i := 960) (by decide +kernel)⟩
theorem lw_p43 : lw_okq (⟨"EdgeNotesModel", "asked", "(I)I"⟩, 47) := ⟨⟨by decide +kernel, by decide +kernel⟩, List.mem_of_getElem? (i := 657) (by decide +kernel), List.mem_of_getElem? (i := 975) (by decide +kernel), List.mem_of_getElem? (i := 976) (by decide +kernel)⟩
theorem lw_p44 : lw_okq (⟨"EdgeNotesModel", "bracketed", "(II)I"⟩, 47) := ⟨⟨by decide +kernel, by decide +kernel⟩, List.mem_of_getElem? (i := 657) (by decide +kernel), List.mem_of_getElem? (i := 991) (by decide +kernel), List.mem_of_getElem? (i := 992) (by decide +kernel)⟩
theorem lw_p45 : lw_okq (⟨"EdgeNotesModel", "brackets", "(I)V"⟩, 47) := ⟨⟨by decide +kernel, by decide +kernel⟩, List.mem_of_getElem? (i := 657) (by decide +kernel), List.mem_of_getElem? (i := 995) (by decide +kernel), List.mem_of_getElem? (i := 996) (by decide +kernel)⟩
theorem lw_p46 : lw_okq (⟨"EdgeNotesModel", "isMet", "(II)Z"⟩, 47) := ⟨⟨by decide +kernel, by decide +kernel⟩, List.mem_of_getElem? (i := 657) (by decide +kernel), List.mem_of_getElem? (i := 1001) (by decide +kernel), List.mem_of_getElem? (i := 1002) (by decide +kernel)⟩
def lw_privs_3 : List (MethodName × Nat) := [(⟨"EdgeNotesModel", "sides", "(II)V"⟩, 47), (⟨"EdgeNotesModel", "canStand", "(II)Z"⟩, 47), (⟨"EdgeNotesModel", "rowOf", "(I)V"⟩, 47), (⟨"EdgeNotesModel", "choices", "()I"⟩, 47), (⟨"EdgeNotesModel", "stands", "(II)Z"⟩, 47), (⟨"EdgeNotesModel", "tall", "(II)I"⟩, 47), (⟨"EdgeNotesModel", "sets", "(I)V"⟩, 47), (⟨"EdgeNotesModel", "costs", "(II)J"⟩, 47), (⟨"EdgeNotesModel", "own", "(II)J"⟩, 47), (⟨"EdgeNotesModel", "places", "(II)V"⟩, 47), (⟨"EdgeNotesModel", "isAt", "(IIIJ)Z"⟩, 47), (⟨"EdgeNotesModel", "asked", "(I)I"⟩, 47), (⟨"EdgeNotesModel", "bracketed", "(II)I"⟩, 47), (⟨"EdgeNotesModel", "brackets", "(I)V"⟩, 47), (⟨"EdgeNotesModel", "isMet", "(II)Z"⟩, 47)]
theorem lw_r3 : ∀ q ∈ lw_privs_3, lw_okq q := List.forall_mem_cons.mpr ⟨lw_p32, List.forall_mem_cons.mpr ⟨lw_p33, List.forall_mem_cons.mpr ⟨lw_p34, List.forall_mem_cons.mpr ⟨lw_p35, List.forall_mem_cons.mpr ⟨lw_p36, List.forall_mem_cons.mpr ⟨lw_p37, List.forall_mem_cons.mpr ⟨lw_p38, List.forall_mem_cons.mpr ⟨lw_p39, List.forall_mem_cons.mpr ⟨lw_p40, List.forall_mem_cons.mpr ⟨lw_p41, List.forall_mem_cons.mpr ⟨lw_p42, List.forall_mem_cons.mpr ⟨lw_p43, List.forall_mem_cons.mpr ⟨lw_p44, List.forall_mem_cons.mpr ⟨lw_p45, List.forall_mem_cons.mpr ⟨lw_p46, fun _ h => absurd h List.not_mem_nil⟩⟩⟩⟩⟩⟩⟩⟩⟩⟩⟩⟩⟩⟩⟩
def lw_privs : List (MethodName × Nat) := lw_privs_1 ++ (lw_privs_2 ++ (lw_privs_3))
def lw_tbl : List Cond := k2_sels lw_privs ++ tables_1
theorem lw_privs_ok : ∀ q ∈ lw_privs, lw_okq q := by
  show ∀ q ∈ lw_privs_1 ++ (lw_privs_2 ++ (lw_privs_3)), lw_okq q
  exact List.forall_mem_append.mpr ⟨lw_r1, List.forall_mem_append.mpr ⟨lw_r2, lw_r3⟩⟩

def va_AOA (ty : FieldType) (U : State) : Prop := (Cond.arrayOver (.array ty)).before #[] U = true
theorem va_AOA.of {ty : FieldType} {A : Array Value} {U : State} (h : (Cond.arrayOver (.array ty)).before A U = true) : va_AOA ty U := h
theorem va_AOA.use {ty : FieldType} {A : Array Value} {U : State} (h : va_AOA ty U) : (Cond.arrayOver (.array ty)).before A U = true := h
/-! ===== BEGIN words of one list among another's, by their places ===== -/
theorem goodIn_r {big : List Cond} (ws : List Cond) (ps : List Nat) (hp : ws = ps.filterMap (fun i => big[i]?)) (h : ws.all goodWord = true) : GoodIn big ws := by
  intro w hw
  have h1 := List.all_eq_true.mp h w hw
  rw [hp] at hw
  obtain ⟨i, -, hi⟩ := List.mem_filterMap.mp hw
  have hm : w ∈ big := by first | exact List.mem_of_getElem? hi | exact List.getElem?_mem hi
  exact ⟨hm, good_of_word h1⟩
theorem goodIn_app {big a b : List Cond} (ha : GoodIn big a) (hb : GoodIn big b) : GoodIn big (a ++ b) := fun w h => (List.mem_append.mp h).elim (ha w) (hb w)
theorem goodIn_ca {big a b : List Cond} {c : Cond} (ha : GoodIn big (c :: a)) (hb : GoodIn big b) : GoodIn big (c :: (a ++ b)) := fun w h => (List.mem_cons.mp h).elim (fun e => ha w (List.mem_cons.mpr (Or.inl e))) (fun h => (List.mem_append.mp h).elim (fun h => ha w (List.mem_cons.mpr (Or.inr h))) (hb w))
theorem goodIn_sub {big ws : List Cond} (hm : ∀ w ∈ ws, w ∈ big) (h : ws.all goodWord = true) : GoodIn big ws := fun w hw => ⟨hm w hw, good_of_word (List.all_eq_true.mp h w hw)⟩
/-! ===== END ===== -/

/-! ===== BEGIN new T[n][m]: the outer array a place, the inner ones among the pooled ===== -/
/-- f, but v at every address of l -/
def vr_up {α : Type} (f : Nat → α) (l : List Nat) (v : α) : Nat → α := fun a => if a ∈ l then v else f a
theorem vr_up_in {α : Type} {f : Nat → α} {l : List Nat} {v : α} {a : Nat} (h : a ∈ l) : vr_up f l v a = v := if_pos h
theorem vr_up_ne {α : Type} {f : Nat → α} {l : List Nat} {v : α} {a : Nat} (h : a ∉ l) : vr_up f l v a = f a := if_neg h
theorem vr_rows {L l : List Nat} {f : Nat → va_E} {e : va_E} (h : ∀ a, a ∈ l → a ∉ L) : va_pl L f ++ l.map (fun a => (a, e)) = va_pl (L ++ l) (vr_up f l e) := by
  unfold va_pl
  rw [List.map_append]
  congr 1
  · apply List.map_congr_left
    intro a ha
    rw [vr_up_ne (fun q => h a q ha)]
  · apply List.map_congr_left
    intro a ha
    rw [vr_up_in ha]
theorem vr_lay {X rows : va_W} {x : Nat × va_E} {pl : va_W} {D : va_G} {cl : List vw_C} {H : Heap} (hP : va_P D cl (((X ++ pl) ++ [x]) ++ rows) H) : va_P D cl ((X ++ [x]) ++ (pl ++ rows)) H := by
  rw [List.append_assoc (X ++ pl)] at hP
  have h := va_P.swap hP
  rw [← List.append_assoc X] at h
  have h2 := va_P.swap h
  rw [List.append_assoc (X ++ [x])] at h2
  exact h2
theorem vr_layD {X rows : va_W} {x : Nat × va_E} {pl : va_W} {A : Nat → Prop} (hD : va_D A (((X ++ pl) ++ [x]) ++ rows)) : va_D A ((X ++ [x]) ++ (pl ++ rows)) := by
  rw [List.append_assoc (X ++ pl)] at hD
  have h := va_D.swap hD
  rw [← List.append_assoc X] at h
  have h2 := va_D.swap h
  rw [List.append_assoc (X ++ [x])] at h2
  exact h2
theorem vr_outer (c : ClassId) (N h0 : Nat) : ∀ i : Nat, Jvm.Free.Multi.outerC c N h0 i = arrV c N (fun j => va_rf (if j < i then some (h0 + 1 + j) else none))
  | 0 => by
    show ({ cls := c, slots := Array.replicate N .null, vm := .none } : Cell) = _
    rw [arrV_new]
    refine congrArg (arrV c N) (funext fun j => ?_)
    simp [va_rf]
  | i + 1 => by
    show (Jvm.Free.Multi.outerC c N h0 i).setSlot i (.ref (h0 + 1 + i)) = _
    rw [vr_outer c N h0 i, arrV_store]
    refine congrArg (arrV c N) (funext fun j => ?_)
    by_cases e : j = i
    · subst e
      simp [updV, va_rf]
    · by_cases h : j < i
      · simp [updV, e, h, Nat.lt_succ_of_lt h]
      · simp [updV, e, h, show ¬ j < i + 1 by omega]
section VGM
variable {p : Program} {l : Launch} {e : Env} {R : Room} {s : State} {m : MethodId} {args : Array Value} {below : List Frame} {meth : Method} {c : Code} {H : Heap} {locs : List Loc} {cells slots : Nat} {Q : State → Prop}
variable {cc : ByteArray} {pc : Nat} {ls : Array Slot} {rest : List Value} {D : va_G} {cl : List vw_C} {A : Nat → Prop} {a : Nat} {tys : List (ClassId × FieldType)} {ws : va_W} {H0 : Heap}
theorem va_mna {X : va_W} {L : List Nat} {f : Nat → va_E} {cc : ByteArray} (hexec : p.tables.exec = Jvm.exec) (hb : c.code = cc) {own : String} {index : Nat} {ty : FieldType} {cy : ClassId} (hown : s.vm.findClass own = some m.cls) (hclink : (Cond.classLink own index ("[" ++ (FieldType.array ty).toString)).before args s = true) (hover : va_AOA ty s) (harr : (Cond.arrayClass ty).before args s = true) (hcy : s.vm.findClass (FieldType.array ty).toString = some cy)
    (hK : va_K D cl tys s) (hP : va_P D cl (X ++ va_pl L f) H) (hD : va_D A (X ++ va_pl L f)) (hS : va_S A H0 H locs) (hA : ∀ q, H0.size ≤ q → A q) {n k : Int32} {N' K' : Nat} {z : vp_A} (hn : ¬ n < 0) (hk : ¬ k < 0) (hN : n.toNatClampNeg = N') (hM : k.toNatClampNeg = K')
    (hb1 : N' * 4 ≤ 536870912) (hb2 : K' * componentBytes ty ≤ 536870912) (hb3 : K' ≤ 536870912) (hdf : fits ty (defaultValue ty) = true) (hdd : (defaultValue ty).isDefault = true) (hcells : cells + (1 + N') ≤ R.cells) (hslots : slots + (N' + N' * K') ≤ R.slots) (hz : ∀ c : ClassId, Jvm.Free.Multi.innerC c K' (defaultValue ty) = vp_cell c z) (hdg : decode cc pc = .ok (.multianewarray index 2, 4))
    (kk : ∀ (q : Nat) (r : Nat → Nat) (cA : ClassId) (H1 : Heap), (∀ i j : Nat, i < N' → j < N' → r i = r j → i = j) → (∀ i : Nat, i < N' → r i ∉ L) → va_K D cl (tys ++ [(cA, .array ty)]) s →
      va_P D cl ((X ++ [(q, .inl (cA, N', .inr (.inr (.inr (.inr (fun i => if i < N' then some (r i) else none))))))]) ++ va_pl (L ++ (List.range N').map r) (vr_up f ((List.range N').map r) (.inl (cy, z)))) H1 → va_D A ((X ++ [(q, .inl (cA, N', .inr (.inr (.inr (.inr (fun i => if i < N' then some (r i) else none))))))]) ++ va_pl (L ++ (List.range N').map r) (vr_up f ((List.range N').map r) (.inl (cy, z)))) → va_S A H0 H1 locs →
      W p l e R s m args below meth c H1 locs (cells + 1 + N') (slots + N' + N' * K') Q (F0 m (pc + 4) ls (.ref q :: rest))) : W p l e R s m args below meth c H locs cells slots Q (F0 m pc ls (.int k :: .int n :: rest)) := by
  subst hN
  subst hM
  intro T hT Xs
  obtain ⟨vm₁, cA, comp, -, fA, fC, hO, -, X', step⟩ := Xs.multianewarray2F hexec hown hclink (va_AOA.use hover) harr (g := F0 m pc ls (.int k :: .int n :: rest)) rfl (by rw [hb]; exact hdg) rfl hn hk hb1 hb2 hb3 hdf hdd hcells hslots
  have ec : some cy = some comp := hcy.symm.trans fC
  cases ec
  generalize hF : Jvm.Free.Multi.fill (T.setVm vm₁) cA cy n.toNatClampNeg k.toNatClampNeg (defaultValue ty) n.toNatClampNeg = F at X' step
  have hTh : (T.setVm vm₁).heap = H := hT
  obtain ⟨f1, f2, -, -⟩ := Jvm.Free.Multi.fill_facts (T.setVm vm₁) cA cy n.toNatClampNeg k.toNatClampNeg (defaultValue ty) n.toNatClampNeg
  rw [hF, hTh] at f1 f2
  have hold : ∀ x : Nat, x < H.size → F.heap[x]? = H[x]? := fun x hx => by
    have := Jvm.Free.Multi.fill_old (T.setVm vm₁) cA cy n.toNatClampNeg k.toNatClampNeg (defaultValue ty) (a := x) (by rw [hTh]; exact hx) n.toNatClampNeg
    rw [hF, hTh] at this
    exact this
  have hrow : ∀ j : Nat, j < n.toNatClampNeg → F.heap[H.size + 1 + j]? = some (vp_cell cy z) := fun j hj => by
    have := Jvm.Free.Multi.fill_inner (T.setVm vm₁) cA cy n.toNatClampNeg k.toNatClampNeg (defaultValue ty) n.toNatClampNeg j hj
    rw [hF, hTh, hz] at this
    exact this
  have hout : Jvm.Free.Multi.outerC cA n.toNatClampNeg H.size n.toNatClampNeg = vp_cell cA (n.toNatClampNeg, .inr (.inr (.inr (.inr (fun i => if i < n.toNatClampNeg then some (H.size + 1 + i) else none))))) := by
    rw [vp_cell_q]
    exact vr_outer cA n.toNatClampNeg H.size n.toNatClampNeg
  rw [hout] at f2
  have hlt : ∀ a, a ∈ L → a < H.size := fun a ha => by
    obtain ⟨k9, hk9⟩ := va_pl_get (X := X) (f := f) ha
    exact (hP k9 _ hk9).lt
  have hnl : ∀ i : Nat, i < n.toNatClampNeg → H.size + 1 + i ∉ L := fun i _ h => by
    have := hlt _ h
    omega
  have hnm : ∀ a, a ∈ (List.range n.toNatClampNeg).map (fun i => H.size + 1 + i) → a ∉ L := fun a ha h => by
    obtain ⟨i, -, rfl⟩ := List.mem_map.mp ha
    have := hlt _ h
    omega
  have hP0 : va_P D cl (X ++ va_pl L f) F.heap := hP.kept (fun k9 x hx => hold x.1 ((hP k9 x hx).lt))
  have hP1 : va_P D cl ((X ++ va_pl L f) ++ [(H.size, .inl (cA, n.toNatClampNeg, .inr (.inr (.inr (.inr (fun i => if i < n.toNatClampNeg then some (H.size + 1 + i) else none))))))]) F.heap := hP0.app (fun k9 x hx => by
    have h0 : k9 < 1 := (List.getElem?_eq_some_iff.mp hx).1
    rw [show k9 = 0 by omega] at hx
    cases hx
    exact f2)
  have hP2 : va_P D cl (((X ++ va_pl L f) ++ [(H.size, .inl (cA, n.toNatClampNeg, .inr (.inr (.inr (.inr (fun i => if i < n.toNatClampNeg then some (H.size + 1 + i) else none))))))]) ++ ((List.range n.toNatClampNeg).map (fun i => H.size + 1 + i)).map (fun a => (a, .inl (cy, z)))) F.heap := hP1.app (fun k9 x hx => by
    obtain ⟨a, ha, rfl⟩ := List.mem_map.mp (List.mem_of_getElem? hx)
    obtain ⟨i, hi, rfl⟩ := List.mem_map.mp ha
    exact hrow i (List.mem_range.mp hi))
  have hD2 : va_D A (((X ++ va_pl L f) ++ [(H.size, .inl (cA, n.toNatClampNeg, .inr (.inr (.inr (.inr (fun i => if i < n.toNatClampNeg then some (H.size + 1 + i) else none))))))]) ++ ((List.range n.toNatClampNeg).map (fun i => H.size + 1 + i)).map (fun a => (a, .inl (cy, z)))) := by
    have hD1 := hD.push (e := .inl (cA, n.toNatClampNeg, .inr (.inr (.inr (.inr (fun i => if i < n.toNatClampNeg then some (H.size + 1 + i) else none)))))) hP rfl (hA _ hS.1)
    generalize hW1 : (X ++ va_pl L f) ++ [(H.size, .inl (cA, n.toNatClampNeg, .inr (.inr (.inr (.inr (fun i => if i < n.toNatClampNeg then some (H.size + 1 + i) else none))))))] = W1 at hD1 hP1 ⊢
    have hle : ∀ (k9 : Nat) (x : Nat × va_E), W1[k9]? = some x → x.1 ≤ H.size := fun k9 x hx => by
      rw [← hW1] at hx
      by_cases hl : k9 < (X ++ va_pl L f).length
      · rw [List.getElem?_append_left hl] at hx
        exact Nat.le_of_lt ((hP k9 x hx).lt)
      · rw [List.getElem?_append_right (by omega)] at hx
        have h0 : k9 - (X ++ va_pl L f).length < 1 := (List.getElem?_eq_some_iff.mp hx).1
        rw [show k9 - (X ++ va_pl L f).length = 0 by omega] at hx
        cases hx
        exact Nat.le_refl _
    have hr : ∀ (k9 : Nat) (x : Nat × va_E), (((List.range n.toNatClampNeg).map (fun i => H.size + 1 + i)).map (fun a => ((a, .inl (cy, z)) : Nat × va_E)))[k9]? = some x → x.1 = H.size + 1 + k9 := fun k9 x hx => by
      rw [List.getElem?_map, List.getElem?_map] at hx
      by_cases h9 : k9 < n.toNatClampNeg
      · rw [List.getElem?_range h9] at hx
        cases hx
        rfl
      · have hn0 : (List.range n.toNatClampNeg)[k9]? = none := List.getElem?_eq_none (by rw [List.length_range]; omega)
        rw [hn0] at hx
        cases hx
    refine ⟨fun i j x y hi hj hxy => ?_, fun k9 x hx => ?_⟩
    · by_cases h1 : i < W1.length <;> by_cases h2 : j < W1.length
      · rw [List.getElem?_append_left h1] at hi
        rw [List.getElem?_append_left h2] at hj
        exact hD1.1 i j x y hi hj hxy
      · rw [List.getElem?_append_left h1] at hi
        rw [List.getElem?_append_right (by omega)] at hj
        have := hle _ _ hi
        have := hr _ _ hj
        omega
      · rw [List.getElem?_append_right (by omega)] at hi
        rw [List.getElem?_append_left h2] at hj
        have := hle _ _ hj
        have := hr _ _ hi
        omega
      · rw [List.getElem?_append_right (by omega)] at hi hj
        have := hr _ _ hi
        have := hr _ _ hj
        omega
    · by_cases h1 : k9 < W1.length
      · rw [List.getElem?_append_left h1] at hx
        exact hD1.2 k9 x hx
      · rw [List.getElem?_append_right (by omega)] at hx
        have := hr _ _ hx
        exact hA _ (by have := hS.1; omega)
  have hAr : ArrOfT s cA (.array ty) := fun N9 z9 => by
    obtain ⟨-, k9, hk9, cm9, hkk9⟩ := (hO 0 0 0).1
    exact ⟨(fun q hq => by cases hq), k9, hk9, cm9, hkk9⟩
  have hK2 : va_K D cl (tys ++ [(cA, .array ty)]) s := ⟨hK.1, fun k9 x hx => by
    by_cases hl : k9 < tys.length
    · rw [List.getElem?_append_left hl] at hx
      exact hK.2 k9 x hx
    · rw [List.getElem?_append_right (by omega)] at hx
      have h0 : k9 - tys.length < 1 := (List.getElem?_eq_some_iff.mp hx).1
      rw [show k9 - tys.length = 0 by omega] at hx
      cases hx
      exact ⟨hAr, fA⟩⟩
  obtain ⟨t, a1, b1⟩ := kk H.size (fun i => H.size + 1 + i) cA F.heap (fun i j _ _ h => by have h9 : H.size + 1 + i = H.size + 1 + j := h; omega) hnl hK2 (by rw [← vr_rows hnm]; exact vr_lay hP2) (by rw [← vr_rows hnm]; exact vr_layD hD2) ⟨by rw [f1]; have := hS.1; omega, fun x h1 h2 => (hold x (Nat.lt_of_lt_of_le h1 hS.1)).trans (hS.2.1 x h1 h2), hS.2.2⟩ F rfl X'
  refine ⟨t, step t ?_, b1⟩
  have e : T.heap.size = H.size := by rw [hT]
  rw [e]
  exact a1
end VGM
/-! ===== END ===== -/

/-! ===== BEGIN printed: names, fields, word lists, decode rows ===== -/
def RX0 : String := "EdgeNotes$Book"
def TX0 : u_T := fun k => match k with
  | 0 => ("EdgeNotes$Book", "lineHeights", "[I", true)
  | 1 => ("EdgeNotes$Book", "notes", "[LEdgeNotes$Note;", true)
  | 2 => ("EdgeNotes$Book", "lineCount", "I", false)
  | 3 => ("EdgeNotes$Book", "noteCount", "I", false)
  | 4 => ("EdgeNotes$Book", "height", "I", false)
  | 5 => ("EdgeNotes$Book", "gap", "I", false)
  | 6 => ("EdgeNotes$Book", "cutting", "I", false)
  | 7 => ("EdgeNotes$Book", "shown", "I", false)
  | _ => ("EdgeNotes$Book", "keep", "Z", false)
def tyX0 : Nat → FieldType := fun k => match k with
  | 0 => .array .int
  | 1 => .array (.object "EdgeNotes$Note")
  | 2 => .int
  | 3 => .int
  | 4 => .int
  | 5 => .int
  | 6 => .int
  | 7 => .int
  | _ => .boolean
abbrev wsX00 : List Cond := u_ws RX0 TX0 9
theorem nmX0 : ∀ a, a < 9 → ∀ b, b < 9 → a ≠ b → (TX0 a).2.1 ≠ (TX0 b).2.1 := by decide +kernel
theorem tyX0_ok : ∀ k, k < 9 → parseFieldDescriptor (TX0 k).2.2.1 = some (tyX0 k) := by decide +kernel
abbrev cX0_init : ByteArray := prog_2_method_1_code
def yX0_init : MethodName := ⟨RX0, "<init>", "()V"⟩
abbrev cX0_addLine : ByteArray := prog_2_method_2_code
def yX0_addLine : MethodName := ⟨RX0, "addLine", "(I)I"⟩
abbrev cX0_addNote : ByteArray := prog_2_method_3_code
def yX0_addNote : MethodName := ⟨RX0, "addNote", "(LEdgeNotes$Note;)I"⟩
abbrev cX0_hasLine : ByteArray := prog_2_method_4_code
def yX0_hasLine : MethodName := ⟨RX0, "hasLine", "(I)Z"⟩
abbrev cX0_find : ByteArray := prog_2_method_5_code
def yX0_find : MethodName := ⟨RX0, "find", "(I)LEdgeNotes$Note;"⟩
abbrev cX0_isShown : ByteArray := prog_2_method_6_code
def yX0_isShown : MethodName := ⟨RX0, "isShown", "(LEdgeNotes$Note;)Z"⟩
abbrev cX0_isSet : ByteArray := prog_2_method_7_code
def yX0_isSet : MethodName := ⟨RX0, "isSet", "(LEdgeNotes$Note;)Z"⟩
def RX1 : String := "EdgeNotes$Breaks"
def TX1 : u_T := fun k => match k with
  | 0 => ("EdgeNotes$Breaks", "linePage", "[I", true)
  | 1 => ("EdgeNotes$Breaks", "lineTop", "[I", true)
  | 2 => ("EdgeNotes$Breaks", "costs", "[I", true)
  | 3 => ("EdgeNotes$Breaks", "count", "I", false)
  | 4 => ("EdgeNotes$Breaks", "held", "Z", false)
  | 5 => ("EdgeNotes$Breaks", "stale", "Z", false)
  | 6 => ("EdgeNotes$Breaks", "firstLines", "[I", true)
  | 7 => ("EdgeNotes$Breaks", "endLines", "[I", true)
  | 8 => ("EdgeNotes$Breaks", "firstNotes", "[I", true)
  | 9 => ("EdgeNotes$Breaks", "endNotes", "[I", true)
  | 10 => ("EdgeNotes$Breaks", "carried", "[[I", true)
  | 11 => ("EdgeNotes$Breaks", "book", "LEdgeNotes$Book;", true)
  | 12 => ("EdgeNotes$Breaks", "order", "LEdgeNotes$Order;", true)
  | _ => ("EdgeNotes$Breaks", "setter", "LEdgeNotes$PageSetter;", true)
def tyX1 : Nat → FieldType := fun k => match k with
  | 0 => .array .int
  | 1 => .array .int
  | 2 => .array .int
  | 3 => .int
  | 4 => .boolean
  | 5 => .boolean
  | 6 => .array .int
  | 7 => .array .int
  | 8 => .array .int
  | 9 => .array .int
  | 10 => .array (.array .int)
  | 11 => .object "EdgeNotes$Book"
  | 12 => .object "EdgeNotes$Order"
  | _ => .object "EdgeNotes$PageSetter"
abbrev wsX10 : List Cond := u_ws RX1 TX1 14
theorem nmX1 : ∀ a, a < 14 → ∀ b, b < 14 → a ≠ b → (TX1 a).2.1 ≠ (TX1 b).2.1 := by decide +kernel
theorem tyX1_ok : ∀ k, k < 14 → parseFieldDescriptor (TX1 k).2.2.1 = some (tyX1 k) := by decide +kernel
abbrev cX1_init : ByteArray := prog_3_method_1_code
def yX1_init : MethodName := ⟨RX1, "<init>", "(LEdgeNotes$Book;)V"⟩
abbrev cX1_refresh : ByteArray := prog_3_method_2_code
def yX1_refresh : MethodName := ⟨RX1, "refresh", "()V"⟩
abbrev cX1_hasPage : ByteArray := prog_3_method_3_code
def yX1_hasPage : MethodName := ⟨RX1, "hasPage", "(I)Z"⟩
abbrev cX1_takeLines : ByteArray := prog_3_method_4_code
def yX1_takeLines : MethodName := ⟨RX1, "takeLines", "(I)I"⟩
abbrev cX1_layPage : ByteArray := prog_3_method_5_code
def yX1_layPage : MethodName := ⟨RX1, "layPage", "(III)V"⟩
abbrev cX1_countRuns : ByteArray := prog_3_method_6_code
def yX1_countRuns : MethodName := ⟨RX1, "countRuns", "(II)I"⟩
abbrev cX1_countMoved : ByteArray := prog_3_method_7_code
def yX1_countMoved : MethodName := ⟨RX1, "countMoved", "(I)I"⟩
abbrev cX1_hasBracket : ByteArray := prog_3_method_8_code
def yX1_hasBracket : MethodName := ⟨RX1, "hasBracket", "(LEdgeNotes$Note;I)Z"⟩
abbrev cX1_bracketBegin : ByteArray := prog_3_method_9_code
def yX1_bracketBegin : MethodName := ⟨RX1, "bracketBegin", "(LEdgeNotes$Note;I)I"⟩
abbrev cX1_bracketEnd : ByteArray := prog_3_method_10_code
def yX1_bracketEnd : MethodName := ⟨RX1, "bracketEnd", "(LEdgeNotes$Note;I)I"⟩
abbrev cX1_firstOf : ByteArray := prog_3_method_11_code
def yX1_firstOf : MethodName := ⟨RX1, "firstOf", "(LEdgeNotes$Note;I)I"⟩
abbrev cX1_lastOf : ByteArray := prog_3_method_12_code
def yX1_lastOf : MethodName := ⟨RX1, "lastOf", "(LEdgeNotes$Note;I)I"⟩
abbrev cX1_columnOf : ByteArray := prog_3_method_13_code
def yX1_columnOf : MethodName := ⟨RX1, "columnOf", "(LEdgeNotes$Note;I)I"⟩
abbrev cX1_takenAhead : ByteArray := prog_3_method_14_code
def yX1_takenAhead : MethodName := ⟨RX1, "takenAhead", "(II)I"⟩
abbrev cX1_leastFree : ByteArray := prog_3_method_15_code
def yX1_leastFree : MethodName := ⟨RX1, "leastFree", "(I)I"⟩
def RX2 : String := "EdgeNotes$Edge"
def TX2 : u_T := fun k => match k with
  | 0 => ("EdgeNotes$Edge", "book", "LEdgeNotes$Book;", true)
  | 1 => ("EdgeNotes$Edge", "number", "I", true)
  | 2 => ("EdgeNotes$Edge", "row", "[LEdgeNotes$Note;", true)
  | 3 => ("EdgeNotes$Edge", "shifts", "[I", true)
  | 4 => ("EdgeNotes$Edge", "ceilings", "[I", true)
  | 5 => ("EdgeNotes$Edge", "levels", "[I", true)
  | 6 => ("EdgeNotes$Edge", "bends", "[I", true)
  | 7 => ("EdgeNotes$Edge", "forces", "[I", true)
  | 8 => ("EdgeNotes$Edge", "bendCount", "I", false)
  | 9 => ("EdgeNotes$Edge", "count", "I", false)
  | 10 => ("EdgeNotes$Edge", "nextShift", "I", false)
  | 11 => ("EdgeNotes$Edge", "carried", "I", false)
  | _ => ("EdgeNotes$Edge", "chosenCut", "I", false)
def tyX2 : Nat → FieldType := fun k => match k with
  | 0 => .object "EdgeNotes$Book"
  | 1 => .int
  | 2 => .array (.object "EdgeNotes$Note")
  | 3 => .array .int
  | 4 => .array .int
  | 5 => .array .int
  | 6 => .array .int
  | 7 => .array .int
  | 8 => .int
  | 9 => .int
  | 10 => .int
  | 11 => .int
  | _ => .int
abbrev wsX20 : List Cond := u_ws RX2 TX2 13
theorem nmX2 : ∀ a, a < 13 → ∀ b, b < 13 → a ≠ b → (TX2 a).2.1 ≠ (TX2 b).2.1 := by decide +kernel
theorem tyX2_ok : ∀ k, k < 13 → parseFieldDescriptor (TX2 k).2.2.1 = some (tyX2 k) := by decide +kernel
abbrev cX2_init : ByteArray := prog_4_method_1_code
def yX2_init : MethodName := ⟨RX2, "<init>", "(LEdgeNotes$Book;I)V"⟩
abbrev cX2_clear : ByteArray := prog_4_method_2_code
def yX2_clear : MethodName := ⟨RX2, "clear", "()V"⟩
abbrev cX2_add : ByteArray := prog_4_method_3_code
def yX2_add : MethodName := ⟨RX2, "add", "(LEdgeNotes$Note;)V"⟩
abbrev cX2_fits : ByteArray := prog_4_method_4_code
def yX2_fits : MethodName := ⟨RX2, "fits", "()Z"⟩
abbrev cX2_fitsCut : ByteArray := prog_4_method_5_code
def yX2_fitsCut : MethodName := ⟨RX2, "fitsCut", "(LEdgeNotes$Note;I)Z"⟩
abbrev cX2_choose : ByteArray := prog_4_method_6_code
def yX2_choose : MethodName := ⟨RX2, "choose", "(I)I"⟩
abbrev cX2_stand : ByteArray := prog_4_method_7_code
def yX2_stand : MethodName := ⟨RX2, "stand", "(I)V"⟩
abbrev cX2_leastCost : ByteArray := prog_4_method_8_code
def yX2_leastCost : MethodName := ⟨RX2, "leastCost", "(II)I"⟩
abbrev cX2_hangCeilings : ByteArray := prog_4_method_9_code
def yX2_hangCeilings : MethodName := ⟨RX2, "hangCeilings", "(I)Z"⟩
abbrev cX2_pull : ByteArray := prog_4_method_10_code
def yX2_pull : MethodName := ⟨RX2, "pull", "(II)I"⟩
def RX3 : String := "EdgeNotes$Note"
def TX3 : u_T := fun k => match k with
  | 0 => ("EdgeNotes$Note", "height", "I", true)
  | 1 => ("EdgeNotes$Note", "weight", "I", true)
  | 2 => ("EdgeNotes$Note", "side", "I", true)
  | 3 => ("EdgeNotes$Note", "layer", "I", true)
  | 4 => ("EdgeNotes$Note", "cuts", "[I", true)
  | 5 => ("EdgeNotes$Note", "cutCount", "I", false)
  | 6 => ("EdgeNotes$Note", "line", "I", false)
  | 7 => ("EdgeNotes$Note", "answers", "I", false)
  | 8 => ("EdgeNotes$Note", "tall", "I", false)
  | 9 => ("EdgeNotes$Note", "fixed", "I", false)
  | 10 => ("EdgeNotes$Note", "bound", "I", false)
  | 11 => ("EdgeNotes$Note", "lineTop", "I", false)
  | 12 => ("EdgeNotes$Note", "edge", "I", false)
  | 13 => ("EdgeNotes$Note", "place", "I", false)
  | 14 => ("EdgeNotes$Note", "rest", "I", false)
  | _ => ("EdgeNotes$Note", "bracketColumn", "I", false)
def tyX3 : Nat → FieldType := fun k => match k with
  | 0 => .int
  | 1 => .int
  | 2 => .int
  | 3 => .int
  | 4 => .array .int
  | 5 => .int
  | 6 => .int
  | 7 => .int
  | 8 => .int
  | 9 => .int
  | 10 => .int
  | 11 => .int
  | 12 => .int
  | 13 => .int
  | 14 => .int
  | _ => .int
abbrev wsX30 : List Cond := u_ws RX3 TX3 16
theorem nmX3 : ∀ a, a < 16 → ∀ b, b < 16 → a ≠ b → (TX3 a).2.1 ≠ (TX3 b).2.1 := by decide +kernel
theorem tyX3_ok : ∀ k, k < 16 → parseFieldDescriptor (TX3 k).2.2.1 = some (tyX3 k) := by decide +kernel
abbrev cX3_init : ByteArray := prog_5_method_1_code
def yX3_init : MethodName := ⟨RX3, "<init>", "(IIIII)V"⟩
abbrev cX3_isFixed : ByteArray := prog_5_method_2_code
def yX3_isFixed : MethodName := ⟨RX3, "isFixed", "()Z"⟩
abbrev cX3_leavesAtMost : ByteArray := prog_5_method_3_code
def yX3_leavesAtMost : MethodName := ⟨RX3, "leavesAtMost", "(II)Z"⟩
abbrev cX3_hasCut : ByteArray := prog_5_method_4_code
def yX3_hasCut : MethodName := ⟨RX3, "hasCut", "(I)Z"⟩
abbrev cX3_addCut : ByteArray := prog_5_method_5_code
def yX3_addCut : MethodName := ⟨RX3, "addCut", "(I)V"⟩
def RX4 : String := "EdgeNotes$Order"
def TX4 : u_T := fun k => match k with
  | 0 => ("EdgeNotes$Order", "notes", "[LEdgeNotes$Note;", true)
  | _ => ("EdgeNotes$Order", "count", "I", false)
def tyX4 : Nat → FieldType := fun k => match k with
  | 0 => .array (.object "EdgeNotes$Note")
  | _ => .int
abbrev wsX40 : List Cond := u_ws RX4 TX4 2
theorem nmX4 : ∀ a, a < 2 → ∀ b, b < 2 → a ≠ b → (TX4 a).2.1 ≠ (TX4 b).2.1 := by decide +kernel
theorem tyX4_ok : ∀ k, k < 2 → parseFieldDescriptor (TX4 k).2.2.1 = some (tyX4 k) := by decide +kernel
abbrev cX4_init : ByteArray := prog_6_method_1_code
def yX4_init : MethodName := ⟨RX4, "<init>", "()V"⟩
abbrev cX4_gather : ByteArray := prog_6_method_2_code
def yX4_gather : MethodName := ⟨RX4, "gather", "(LEdgeNotes$Book;)V"⟩
abbrev cX4_insert : ByteArray := prog_6_method_3_code
def yX4_insert : MethodName := ⟨RX4, "insert", "(LEdgeNotes$Note;)V"⟩
def RX5 : String := "EdgeNotes$PageSetter"
def TX5 : u_T := fun k => match k with
  | 0 => ("EdgeNotes$PageSetter", "left", "LEdgeNotes$Edge;", true)
  | 1 => ("EdgeNotes$PageSetter", "right", "LEdgeNotes$Edge;", true)
  | 2 => ("EdgeNotes$PageSetter", "firstNote", "I", false)
  | 3 => ("EdgeNotes$PageSetter", "endNote", "I", false)
  | 4 => ("EdgeNotes$PageSetter", "order", "LEdgeNotes$Order;", true)
  | 5 => ("EdgeNotes$PageSetter", "eitherCount", "I", false)
  | _ => ("EdgeNotes$PageSetter", "firstDealing", "I", false)
def tyX5 : Nat → FieldType := fun k => match k with
  | 0 => .object "EdgeNotes$Edge"
  | 1 => .object "EdgeNotes$Edge"
  | 2 => .int
  | 3 => .int
  | 4 => .object "EdgeNotes$Order"
  | 5 => .int
  | _ => .int
abbrev wsX50 : List Cond := u_ws RX5 TX5 7
theorem nmX5 : ∀ a, a < 7 → ∀ b, b < 7 → a ≠ b → (TX5 a).2.1 ≠ (TX5 b).2.1 := by decide +kernel
theorem tyX5_ok : ∀ k, k < 7 → parseFieldDescriptor (TX5 k).2.2.1 = some (tyX5 k) := by decide +kernel
abbrev cX5_init : ByteArray := prog_7_method_1_code
def yX5_init : MethodName := ⟨RX5, "<init>", "(LEdgeNotes$Book;LEdgeNotes$Order;)V"⟩
abbrev cX5_beginBook : ByteArray := prog_7_method_2_code
def yX5_beginBook : MethodName := ⟨RX5, "beginBook", "()V"⟩
abbrev cX5_beginPage : ByteArray := prog_7_method_3_code
def yX5_beginPage : MethodName := ⟨RX5, "beginPage", "()V"⟩
abbrev cX5_carries : ByteArray := prog_7_method_4_code
def yX5_carries : MethodName := ⟨RX5, "carries", "()Z"⟩
abbrev cX5_takeNotesOf : ByteArray := prog_7_method_5_code
def yX5_takeNotesOf : MethodName := ⟨RX5, "takeNotesOf", "(I)Z"⟩
abbrev cX5_findDealing : ByteArray := prog_7_method_6_code
def yX5_findDealing : MethodName := ⟨RX5, "findDealing", "(I)Z"⟩
abbrev cX5_dealings : ByteArray := prog_7_method_7_code
def yX5_dealings : MethodName := ⟨RX5, "dealings", "()I"⟩
abbrev cX5_deal : ByteArray := prog_7_method_8_code
def yX5_deal : MethodName := ⟨RX5, "deal", "(I)V"⟩
abbrev cX5_setBest : ByteArray := prog_7_method_9_code
def yX5_setBest : MethodName := ⟨RX5, "setBest", "()I"⟩
def RX6 : String := "EdgeNotes"
def TX6 : u_T := fun k => match k with
  | 0 => ("EdgeNotes", "book", "LEdgeNotes$Book;", true)
  | 1 => ("EdgeNotes", "breaks", "LEdgeNotes$Breaks;", true)
  | _ => ("EdgeNotes", "status", "I", false)
def tyX6 : Nat → FieldType := fun k => match k with
  | 0 => .object "EdgeNotes$Book"
  | 1 => .object "EdgeNotes$Breaks"
  | _ => .int
abbrev wsX60 : List Cond := u_ws RX6 TX6 3
theorem nmX6 : ∀ a, a < 3 → ∀ b, b < 3 → a ≠ b → (TX6 a).2.1 ≠ (TX6 b).2.1 := by decide +kernel
theorem tyX6_ok : ∀ k, k < 3 → parseFieldDescriptor (TX6 k).2.2.1 = some (tyX6 k) := by decide +kernel
abbrev cX6_init : ByteArray := prog_1_method_1_code
def yX6_init : MethodName := ⟨RX6, "<init>", "()V"⟩
abbrev cX6_status : ByteArray := prog_1_method_2_code
def yX6_status : MethodName := ⟨RX6, "status", "()I"⟩
abbrev cX6_page : ByteArray := prog_1_method_3_code
def yX6_page : MethodName := ⟨RX6, "page", "(II)Z"⟩
abbrev cX6_line : ByteArray := prog_1_method_4_code
def yX6_line : MethodName := ⟨RX6, "line", "(I)I"⟩
abbrev cX6_change : ByteArray := prog_1_method_5_code
def yX6_change : MethodName := ⟨RX6, "change", "(II)Z"⟩
abbrev cX6_note : ByteArray := prog_1_method_6_code
def yX6_note : MethodName := ⟨RX6, "note", "(IIIII)I"⟩
abbrev cX6_answer : ByteArray := prog_1_method_7_code
def yX6_answer : MethodName := ⟨RX6, "answer", "(II)I"⟩
abbrev cX6_cut : ByteArray := prog_1_method_8_code
def yX6_cut : MethodName := ⟨RX6, "cut", "(II)I"⟩
abbrev cX6_cutting : ByteArray := prog_1_method_9_code
def yX6_cutting : MethodName := ⟨RX6, "cutting", "(I)Z"⟩
abbrev cX6_bind : ByteArray := prog_1_method_10_code
def yX6_bind : MethodName := ⟨RX6, "bind", "(II)Z"⟩
abbrev cX6_fix : ByteArray := prog_1_method_11_code
def yX6_fix : MethodName := ⟨RX6, "fix", "(II)Z"⟩
abbrev cX6_loose : ByteArray := prog_1_method_12_code
def yX6_loose : MethodName := ⟨RX6, "loose", "(I)Z"⟩
abbrev cX6_move : ByteArray := prog_1_method_13_code
def yX6_move : MethodName := ⟨RX6, "move", "(II)Z"⟩
abbrev cX6_show : ByteArray := prog_1_method_14_code
def yX6_show : MethodName := ⟨RX6, "show", "(I)Z"⟩
abbrev cX6_keep : ByteArray := prog_1_method_15_code
def yX6_keep : MethodName := ⟨RX6, "keep", "(Z)Z"⟩
abbrev cX6_told : ByteArray := prog_1_method_16_code
def yX6_told : MethodName := ⟨RX6, "told", "(II)I"⟩
abbrev cX6_pages : ByteArray := prog_1_method_17_code
def yX6_pages : MethodName := ⟨RX6, "pages", "()I"⟩
abbrev cX6_pageOf : ByteArray := prog_1_method_18_code
def yX6_pageOf : MethodName := ⟨RX6, "pageOf", "(I)I"⟩
abbrev cX6_top : ByteArray := prog_1_method_19_code
def yX6_top : MethodName := ⟨RX6, "top", "(I)I"⟩
abbrev cX6_side : ByteArray := prog_1_method_20_code
def yX6_side : MethodName := ⟨RX6, "side", "(I)I"⟩
abbrev cX6_place : ByteArray := prog_1_method_21_code
def yX6_place : MethodName := ⟨RX6, "place", "(I)I"⟩
abbrev cX6_rest : ByteArray := prog_1_method_22_code
def yX6_rest : MethodName := ⟨RX6, "rest", "(I)I"⟩
abbrev cX6_column : ByteArray := prog_1_method_23_code
def yX6_column : MethodName := ⟨RX6, "column", "(II)I"⟩
abbrev cX6_bracket : ByteArray := prog_1_method_24_code
def yX6_bracket : MethodName := ⟨RX6, "bracket", "(IIZ)I"⟩
abbrev cX6_cost : ByteArray := prog_1_method_25_code
def yX6_cost : MethodName := ⟨RX6, "cost", "(I)I"⟩
abbrev cX6_runs : ByteArray := prog_1_method_26_code
def yX6_runs : MethodName := ⟨RX6, "runs", "(II)I"⟩
abbrev cX6_moved : ByteArray := prog_1_method_27_code
def yX6_moved : MethodName := ⟨RX6, "moved", "(I)I"⟩
abbrev cX6_faultOfLine : ByteArray := prog_1_method_28_code
def yX6_faultOfLine : MethodName := ⟨RX6, "faultOfLine", "(I)I"⟩
abbrev cX6_faultOfNote : ByteArray := prog_1_method_29_code
def yX6_faultOfNote : MethodName := ⟨RX6, "faultOfNote", "(LEdgeNotes$Note;)I"⟩
abbrev cX6_faultOfPage : ByteArray := prog_1_method_30_code
def yX6_faultOfPage : MethodName := ⟨RX6, "faultOfPage", "(I)I"⟩
abbrev cX6_faultOfBracket : ByteArray := prog_1_method_31_code
def yX6_faultOfBracket : MethodName := ⟨RX6, "faultOfBracket", "(LEdgeNotes$Note;I)I"⟩
abbrev cX6_accept : ByteArray := prog_1_method_32_code
def yX6_accept : MethodName := ⟨RX6, "accept", "()Z"⟩
abbrev cX6_refuse : ByteArray := prog_1_method_33_code
def yX6_refuse : MethodName := ⟨RX6, "refuse", "(I)Z"⟩
abbrev cX6_give : ByteArray := prog_1_method_34_code
def yX6_give : MethodName := ⟨RX6, "give", "(I)I"⟩
abbrev cX6_none : ByteArray := prog_1_method_35_code
def yX6_none : MethodName := ⟨RX6, "none", "(I)I"⟩
abbrev cX6_within : ByteArray := prog_1_method_36_code
def yX6_within : MethodName := ⟨RX6, "within", "(III)Z"⟩
abbrev cX6_isLineHeight : ByteArray := prog_1_method_37_code
def yX6_isLineHeight : MethodName := ⟨RX6, "isLineHeight", "(I)Z"⟩
abbrev cX6_isNoteHeight : ByteArray := prog_1_method_38_code
def yX6_isNoteHeight : MethodName := ⟨RX6, "isNoteHeight", "(I)Z"⟩
def RX7 : String := "EdgeNotesModel"
def TX7 : u_T := fun k => match k with
  | 0 => ("EdgeNotesModel", "status", "I", false)
  | 1 => ("EdgeNotesModel", "thrown", "I", false)
  | 2 => ("EdgeNotesModel", "high", "I", false)
  | 3 => ("EdgeNotesModel", "gap", "I", false)
  | 4 => ("EdgeNotesModel", "cutting", "I", false)
  | 5 => ("EdgeNotesModel", "layers", "I", false)
  | 6 => ("EdgeNotesModel", "keeps", "Z", false)
  | 7 => ("EdgeNotesModel", "lines", "I", false)
  | 8 => ("EdgeNotesModel", "notes", "I", false)
  | 9 => ("EdgeNotesModel", "lineHigh", "[I", true)
  | 10 => ("EdgeNotesModel", "line", "[I", true)
  | 11 => ("EdgeNotesModel", "size", "[I", true)
  | 12 => ("EdgeNotesModel", "weight", "[I", true)
  | 13 => ("EdgeNotesModel", "sideOf", "[I", true)
  | 14 => ("EdgeNotesModel", "layer", "[I", true)
  | 15 => ("EdgeNotesModel", "answers", "[I", true)
  | 16 => ("EdgeNotesModel", "below", "[I", true)
  | 17 => ("EdgeNotesModel", "cuts", "[I", true)
  | 18 => ("EdgeNotesModel", "fixedAt", "[I", true)
  | 19 => ("EdgeNotesModel", "bound", "[I", true)
  | 20 => ("EdgeNotesModel", "cutAt", "[I", true)
  | 21 => ("EdgeNotesModel", "isSet", "Z", false)
  | 22 => ("EdgeNotesModel", "hasBreaks", "Z", false)
  | 23 => ("EdgeNotesModel", "pages", "I", false)
  | 24 => ("EdgeNotesModel", "firstLine", "[I", true)
  | 25 => ("EdgeNotesModel", "pageLines", "[I", true)
  | 26 => ("EdgeNotesModel", "carried", "[I", true)
  | 27 => ("EdgeNotesModel", "pageCost", "[J", true)
  | 28 => ("EdgeNotesModel", "lineTop", "[I", true)
  | 29 => ("EdgeNotesModel", "linePage", "[I", true)
  | 30 => ("EdgeNotesModel", "setSide", "[I", true)
  | 31 => ("EdgeNotesModel", "setTop", "[I", true)
  | 32 => ("EdgeNotesModel", "setTall", "[I", true)
  | 33 => ("EdgeNotesModel", "setRest", "[I", true)
  | 34 => ("EdgeNotesModel", "notePage", "[I", true)
  | 35 => ("EdgeNotesModel", "here", "[I", true)
  | 36 => ("EdgeNotesModel", "side", "[I", true)
  | 37 => ("EdgeNotesModel", "bestSide", "[I", true)
  | 38 => ("EdgeNotesModel", "row", "[I", true)
  | 39 => ("EdgeNotesModel", "hereMany", "I", false)
  | 40 => ("EdgeNotesModel", "rowMany", "I", false)
  | 41 => ("EdgeNotesModel", "choice", "[I", true)
  | 42 => ("EdgeNotesModel", "bestChoice", "[I", true)
  | 43 => ("EdgeNotesModel", "least", "[J", true)
  | 44 => ("EdgeNotesModel", "from1", "[I", true)
  | 45 => ("EdgeNotesModel", "to1", "[I", true)
  | _ => ("EdgeNotesModel", "column", "[I", true)
def tyX7 : Nat → FieldType := fun k => match k with
  | 0 => .int
  | 1 => .int
  | 2 => .int
  | 3 => .int
  | 4 => .int
  | 5 => .int
  | 6 => .boolean
  | 7 => .int
  | 8 => .int
  | 9 => .array .int
  | 10 => .array .int
  | 11 => .array .int
  | 12 => .array .int
  | 13 => .array .int
  | 14 => .array .int
  | 15 => .array .int
  | 16 => .array .int
  | 17 => .array .int
  | 18 => .array .int
  | 19 => .array .int
  | 20 => .array .int
  | 21 => .boolean
  | 22 => .boolean
  | 23 => .int
  | 24 => .array .int
  | 25 => .array .int
  | 26 => .array .int
  | 27 => .array .long
  | 28 => .array .int
  | 29 => .array .int
  | 30 => .array .int
  | 31 => .array .int
  | 32 => .array .int
  | 33 => .array .int
  | 34 => .array .int
  | 35 => .array .int
  | 36 => .array .int
  | 37 => .array .int
  | 38 => .array .int
  | 39 => .int
  | 40 => .int
  | 41 => .array .int
  | 42 => .array .int
  | 43 => .array .long
  | 44 => .array .int
  | 45 => .array .int
  | _ => .array .int
abbrev wsX70 : List Cond := u_ws RX7 TX7 47
theorem nmX7 : ∀ a, a < 47 → ∀ b, b < 47 → a ≠ b → (TX7 a).2.1 ≠ (TX7 b).2.1 := by decide +kernel
theorem tyX7_ok : ∀ k, k < 47 → parseFieldDescriptor (TX7 k).2.2.1 = some (tyX7 k) := by decide +kernel
abbrev cX7_init : ByteArray := prog_9_method_1_code
def yX7_init : MethodName := ⟨RX7, "<init>", "()V"⟩
abbrev cX7_status : ByteArray := prog_9_method_3_code
def yX7_status : MethodName := ⟨RX7, "status", "()I"⟩
abbrev cX7_refuse : ByteArray := prog_9_method_4_code
def yX7_refuse : MethodName := ⟨RX7, "refuse", "(I)I"⟩
abbrev cX7_no : ByteArray := prog_9_method_5_code
def yX7_no : MethodName := ⟨RX7, "no", "(I)Z"⟩
abbrev cX7_done : ByteArray := prog_9_method_6_code
def yX7_done : MethodName := ⟨RX7, "done", "()Z"⟩
abbrev cX7_isLine : ByteArray := prog_9_method_7_code
def yX7_isLine : MethodName := ⟨RX7, "isLine", "(I)Z"⟩
abbrev cX7_isNote : ByteArray := prog_9_method_8_code
def yX7_isNote : MethodName := ⟨RX7, "isNote", "(I)Z"⟩
abbrev cX7_page : ByteArray := prog_9_method_9_code
def yX7_page : MethodName := ⟨RX7, "page", "(II)Z"⟩
abbrev cX7_line : ByteArray := prog_9_method_10_code
def yX7_line : MethodName := ⟨RX7, "line", "(I)I"⟩
abbrev cX7_change : ByteArray := prog_9_method_11_code
def yX7_change : MethodName := ⟨RX7, "change", "(II)Z"⟩
abbrev cX7_note : ByteArray := prog_9_method_12_code
def yX7_note : MethodName := ⟨RX7, "note", "(IIIII)I"⟩
abbrev cX7_answer : ByteArray := prog_9_method_13_code
def yX7_answer : MethodName := ⟨RX7, "answer", "(II)I"⟩
abbrev cX7_cut : ByteArray := prog_9_method_14_code
def yX7_cut : MethodName := ⟨RX7, "cut", "(II)I"⟩
abbrev cX7_cutting : ByteArray := prog_9_method_15_code
def yX7_cutting : MethodName := ⟨RX7, "cutting", "(I)Z"⟩
abbrev cX7_bind : ByteArray := prog_9_method_16_code
def yX7_bind : MethodName := ⟨RX7, "bind", "(II)Z"⟩
abbrev cX7_fix : ByteArray := prog_9_method_17_code
def yX7_fix : MethodName := ⟨RX7, "fix", "(II)Z"⟩
abbrev cX7_loose : ByteArray := prog_9_method_18_code
def yX7_loose : MethodName := ⟨RX7, "loose", "(I)Z"⟩
abbrev cX7_move : ByteArray := prog_9_method_19_code
def yX7_move : MethodName := ⟨RX7, "move", "(II)Z"⟩
abbrev cX7_show : ByteArray := prog_9_method_20_code
def yX7_show : MethodName := ⟨RX7, "show", "(I)Z"⟩
abbrev cX7_keep : ByteArray := prog_9_method_21_code
def yX7_keep : MethodName := ⟨RX7, "keep", "(Z)Z"⟩
abbrev cX7_isShown : ByteArray := prog_9_method_22_code
def yX7_isShown : MethodName := ⟨RX7, "isShown", "(I)Z"⟩
abbrev cX7_tallOf : ByteArray := prog_9_method_23_code
def yX7_tallOf : MethodName := ⟨RX7, "tallOf", "(I)I"⟩
abbrev cX7_told : ByteArray := prog_9_method_24_code
def yX7_told : MethodName := ⟨RX7, "told", "(II)I"⟩
abbrev cX7_gather : ByteArray := prog_9_method_25_code
def yX7_gather : MethodName := ⟨RX7, "gather", "(II)I"⟩
abbrev cX7_sides : ByteArray := prog_9_method_26_code
def yX7_sides : MethodName := ⟨RX7, "sides", "(II)V"⟩
abbrev cX7_rowOf : ByteArray := prog_9_method_27_code
def yX7_rowOf : MethodName := ⟨RX7, "rowOf", "(I)V"⟩
abbrev cX7_choices : ByteArray := prog_9_method_28_code
def yX7_choices : MethodName := ⟨RX7, "choices", "()I"⟩
abbrev cX7_tall : ByteArray := prog_9_method_29_code
def yX7_tall : MethodName := ⟨RX7, "tall", "(II)I"⟩
abbrev cX7_stands : ByteArray := prog_9_method_30_code
def yX7_stands : MethodName := ⟨RX7, "stands", "(II)Z"⟩
abbrev cX7_isHeld : ByteArray := prog_9_method_31_code
def yX7_isHeld : MethodName := ⟨RX7, "isHeld", "(IIII)Z"⟩
abbrev cX7_canStand : ByteArray := prog_9_method_32_code
def yX7_canStand : MethodName := ⟨RX7, "canStand", "(II)Z"⟩
abbrev cX7_costs : ByteArray := prog_9_method_33_code
def yX7_costs : MethodName := ⟨RX7, "costs", "(II)J"⟩
abbrev cX7_own : ByteArray := prog_9_method_34_code
def yX7_own : MethodName := ⟨RX7, "own", "(II)J"⟩
abbrev cX7_sets : ByteArray := prog_9_method_35_code
def yX7_sets : MethodName := ⟨RX7, "sets", "(I)V"⟩
abbrev cX7_places : ByteArray := prog_9_method_36_code
def yX7_places : MethodName := ⟨RX7, "places", "(II)V"⟩
abbrev cX7_isAt : ByteArray := prog_9_method_37_code
def yX7_isAt : MethodName := ⟨RX7, "isAt", "(IIIJ)Z"⟩
abbrev cX7_setAll : ByteArray := prog_9_method_38_code
def yX7_setAll : MethodName := ⟨RX7, "setAll", "()V"⟩
abbrev cX7_lacks : ByteArray := prog_9_method_39_code
def yX7_lacks : MethodName := ⟨RX7, "lacks", "()Z"⟩
abbrev cX7_pages : ByteArray := prog_9_method_40_code
def yX7_pages : MethodName := ⟨RX7, "pages", "()I"⟩
abbrev cX7_pageOf : ByteArray := prog_9_method_41_code
def yX7_pageOf : MethodName := ⟨RX7, "pageOf", "(I)I"⟩
abbrev cX7_top : ByteArray := prog_9_method_42_code
def yX7_top : MethodName := ⟨RX7, "top", "(I)I"⟩
abbrev cX7_asked : ByteArray := prog_9_method_43_code
def yX7_asked : MethodName := ⟨RX7, "asked", "(I)I"⟩
abbrev cX7_side : ByteArray := prog_9_method_44_code
def yX7_side : MethodName := ⟨RX7, "side", "(I)I"⟩
abbrev cX7_place : ByteArray := prog_9_method_45_code
def yX7_place : MethodName := ⟨RX7, "place", "(I)I"⟩
abbrev cX7_rest : ByteArray := prog_9_method_46_code
def yX7_rest : MethodName := ⟨RX7, "rest", "(I)I"⟩
abbrev cX7_brackets : ByteArray := prog_9_method_47_code
def yX7_brackets : MethodName := ⟨RX7, "brackets", "(I)V"⟩
abbrev cX7_isMet : ByteArray := prog_9_method_48_code
def yX7_isMet : MethodName := ⟨RX7, "isMet", "(II)Z"⟩
abbrev cX7_bracketed : ByteArray := prog_9_method_49_code
def yX7_bracketed : MethodName := ⟨RX7, "bracketed", "(II)I"⟩
abbrev cX7_column : ByteArray := prog_9_method_50_code
def yX7_column : MethodName := ⟨RX7, "column", "(II)I"⟩
abbrev cX7_bracket : ByteArray := prog_9_method_51_code
def yX7_bracket : MethodName := ⟨RX7, "bracket", "(IIZ)I"⟩
abbrev cX7_cost : ByteArray := prog_9_method_52_code
def yX7_cost : MethodName := ⟨RX7, "cost", "(I)I"⟩
abbrev cX7_runs : ByteArray := prog_9_method_53_code
def yX7_runs : MethodName := ⟨RX7, "runs", "(II)I"⟩
abbrev cX7_moved : ByteArray := prog_9_method_54_code
def yX7_moved : MethodName := ⟨RX7, "moved", "(I)I"⟩
def RL : String := "EdgeNotesLaw"
abbrev cL_law : ByteArray := code
def yL_law : MethodName := ⟨RL, "law", "([I)Z"⟩
abbrev vwCl : List vw_C := [(RX0, TX0, 9), (RX1, TX1, 14), (RX2, TX2, 13), (RX3, TX3, 16), (RX4, TX4, 2), (RX5, TX5, 7), (RX6, TX6, 3), (RX7, TX7, 47)]
end
section
theorem dX0_init_0 : decode cX0_init 0 = .ok (.aload_n 0, 1) := by decide +kernel
theorem dX0_init_1 : decode cX0_init 1 = .ok (.invokespecial 3, 3) := by decide +kernel
theorem dX0_init_4 : decode cX0_init 4 = .ok (.aload_n 0, 1) := by decide +kernel
theorem dX0_init_5 : decode cX0_init 5 = .ok (.bipush 60, 2) := by decide +kernel
theorem dX0_init_7 : decode cX0_init 7 = .ok (.newarray .int, 2) := by decide +kernel
theorem dX0_init_9 : decode cX0_init 9 = .ok (.putfield 9, 3) := by decide +kernel
theorem dX0_init_12 : decode cX0_init 12 = .ok (.aload_n 0, 1) := by decide +kernel
theorem dX0_init_13 : decode cX0_init 13 = .ok (.bipush 24, 2) := by decide +kernel
theorem dX0_init_15 : decode cX0_init 15 = .ok (.anewarray 15, 3) := by decide +kernel
theorem dX0_init_18 : decode cX0_init 18 = .ok (.putfield 17, 3) := by decide +kernel
theorem dX0_init_21 : decode cX0_init 21 = .ok (.aload_n 0, 1) := by decide +kernel
theorem dX0_init_22 : decode cX0_init 22 = .ok (.bipush 100, 2) := by decide +kernel
theorem dX0_init_24 : decode cX0_init 24 = .ok (.putfield 21, 3) := by decide +kernel
theorem dX0_init_27 : decode cX0_init 27 = .ok (.aload_n 0, 1) := by decide +kernel
theorem dX0_init_28 : decode cX0_init 28 = .ok (.iconst 2, 1) := by decide +kernel
theorem dX0_init_29 : decode cX0_init 29 = .ok (.putfield 25, 3) := by decide +kernel
theorem dX0_init_32 : decode cX0_init 32 = .ok (.aload_n 0, 1) := by decide +kernel
theorem dX0_init_33 : decode cX0_init 33 = .ok (.bipush 50, 2) := by decide +kernel
theorem dX0_init_35 : decode cX0_init 35 = .ok (.putfield 28, 3) := by decide +kernel
theorem dX0_init_38 : decode cX0_init 38 = .ok (.aload_n 0, 1) := by decide +kernel
theorem dX0_init_39 : decode cX0_init 39 = .ok (.bipush 15, 2) := by decide +kernel
theorem dX0_init_41 : decode cX0_init 41 = .ok (.putfield 31, 3) := by decide +kernel
theorem dX0_init_44 : decode cX0_init 44 = .ok (.return_, 1) := by decide +kernel
theorem dX0_addLine_0 : decode cX0_addLine 0 = .ok (.aload_n 0, 1) := by decide +kernel
theorem dX0_addLine_1 : decode cX0_addLine 1 = .ok (.getfield 34, 3) := by decide +kernel
theorem dX0_addLine_4 : decode cX0_addLine 4 = .ok (.aload_n 0, 1) := by decide +kernel
theorem dX0_addLine_5 : decode cX0_addLine 5 = .ok (.getfield 9, 3) := by decide +kernel
theorem dX0_addLine_8 : decode cX0_addLine 8 = .ok (.arraylength, 1) := by decide +kernel
theorem dX0_addLine_9 : decode cX0_addLine 9 = .ok (.if_icmp .lt 5, 3) := by decide +kernel
theorem dX0_addLine_12 : decode cX0_addLine 12 = .ok (.iconst (-1), 1) := by decide +kernel
theorem dX0_addLine_13 : decode cX0_addLine 13 = .ok (.ireturn, 1) := by decide +kernel
theorem dX0_addLine_14 : decode cX0_addLine 14 = .ok (.aload_n 0, 1) := by decide +kernel
theorem dX0_addLine_15 : decode cX0_addLine 15 = .ok (.getfield 9, 3) := by decide +kernel
theorem dX0_addLine_18 : decode cX0_addLine 18 = .ok (.aload_n 0, 1) := by decide +kernel
theorem dX0_addLine_19 : decode cX0_addLine 19 = .ok (.getfield 34, 3) := by decide +kernel
theorem dX0_addLine_22 : decode cX0_addLine 22 = .ok (.iload_n 1, 1) := by decide +kernel
theorem dX0_addLine_23 : decode cX0_addLine 23 = .ok (.iastore, 1) := by decide +kernel
theorem dX0_addLine_24 : decode cX0_addLine 24 = .ok (.aload_n 0, 1) := by decide +kernel
theorem dX0_addLine_25 : decode cX0_addLine 25 = .ok (.dup, 1) := by decide +kernel
theorem dX0_addLine_26 : decode cX0_addLine 26 = .ok (.getfield 34, 3) := by decide +kernel
theorem dX0_addLine_29 : decode cX0_addLine 29 = .ok (.dup_x1, 1) := by decide +kernel
theorem dX0_addLine_30 : decode cX0_addLine 30 = .ok (.iconst 1, 1) := by decide +kernel
theorem dX0_addLine_31 : decode cX0_addLine 31 = .ok (.iadd, 1) := by decide +kernel
theorem dX0_addLine_32 : decode cX0_addLine 32 = .ok (.putfield 34, 3) := by decide +kernel
theorem dX0_addLine_35 : decode cX0_addLine 35 = .ok (.ireturn, 1) := by decide +kernel
theorem dX0_addNote_0 : decode cX0_addNote 0 = .ok (.aload_n 0, 1) := by decide +kernel
theorem dX0_addNote_1 : decode cX0_addNote 1 = .ok (.getfield 37, 3) := by decide +kernel
theorem dX0_addNote_4 : decode cX0_addNote 4 = .ok (.aload_n 0, 1) := by decide +kernel
theorem dX0_addNote_5 : decode cX0_addNote 5 = .ok (.getfield 17, 3) := by decide +kernel
theorem dX0_addNote_8 : decode cX0_addNote 8 = .ok (.arraylength, 1) := by decide +kernel
theorem dX0_addNote_9 : decode cX0_addNote 9 = .ok (.if_icmp .lt 5, 3) := by decide +kernel
theorem dX0_addNote_12 : decode cX0_addNote 12 = .ok (.iconst (-1), 1) := by decide +kernel
theorem dX0_addNote_13 : decode cX0_addNote 13 = .ok (.ireturn, 1) := by decide +kernel
theorem dX0_addNote_14 : decode cX0_addNote 14 = .ok (.aload_n 0, 1) := by decide +kernel
theorem dX0_addNote_15 : decode cX0_addNote 15 = .ok (.getfield 17, 3) := by decide +kernel
theorem dX0_addNote_18 : decode cX0_addNote 18 = .ok (.aload_n 0, 1) := by decide +kernel
theorem dX0_addNote_19 : decode cX0_addNote 19 = .ok (.getfield 37, 3) := by decide +kernel
theorem dX0_addNote_22 : decode cX0_addNote 22 = .ok (.aload_n 1, 1) := by decide +kernel
theorem dX0_addNote_23 : decode cX0_addNote 23 = .ok (.aastore, 1) := by decide +kernel
theorem dX0_addNote_24 : decode cX0_addNote 24 = .ok (.aload_n 0, 1) := by decide +kernel
theorem dX0_addNote_25 : decode cX0_addNote 25 = .ok (.dup, 1) := by decide +kernel
theorem dX0_addNote_26 : decode cX0_addNote 26 = .ok (.getfield 37, 3) := by decide +kernel
theorem dX0_addNote_29 : decode cX0_addNote 29 = .ok (.dup_x1, 1) := by decide +kernel
theorem dX0_addNote_30 : decode cX0_addNote 30 = .ok (.iconst 1, 1) := by decide +kernel
theorem dX0_addNote_31 : decode cX0_addNote 31 = .ok (.iadd, 1) := by decide +kernel
theorem dX0_addNote_32 : decode cX0_addNote 32 = .ok (.putfield 37, 3) := by decide +kernel
theorem dX0_addNote_35 : decode cX0_addNote 35 = .ok (.ireturn, 1) := by decide +kernel
theorem dX0_hasLine_0 : decode cX0_hasLine 0 = .ok (.iload_n 1, 1) := by decide +kernel
theorem dX0_hasLine_1 : decode cX0_hasLine 1 = .ok (.ifCond .lt 15, 3) := by decide +kernel
theorem dX0_hasLine_4 : decode cX0_hasLine 4 = .ok (.iload_n 1, 1) := by decide +kernel
theorem dX0_hasLine_5 : decode cX0_hasLine 5 = .ok (.aload_n 0, 1) := by decide +kernel
theorem dX0_hasLine_6 : decode cX0_hasLine 6 = .ok (.getfield 34, 3) := by decide +kernel
theorem dX0_hasLine_9 : decode cX0_hasLine 9 = .ok (.if_icmp .ge 7, 3) := by decide +kernel
theorem dX0_hasLine_12 : decode cX0_hasLine 12 = .ok (.iconst 1, 1) := by decide +kernel
theorem dX0_hasLine_13 : decode cX0_hasLine 13 = .ok (.goto 4, 3) := by decide +kernel
theorem dX0_hasLine_16 : decode cX0_hasLine 16 = .ok (.iconst 0, 1) := by decide +kernel
theorem dX0_hasLine_17 : decode cX0_hasLine 17 = .ok (.ireturn, 1) := by decide +kernel
theorem dX0_find_0 : decode cX0_find 0 = .ok (.iload_n 1, 1) := by decide +kernel
theorem dX0_find_1 : decode cX0_find 1 = .ok (.ifCond .lt 20, 3) := by decide +kernel
theorem dX0_find_4 : decode cX0_find 4 = .ok (.iload_n 1, 1) := by decide +kernel
theorem dX0_find_5 : decode cX0_find 5 = .ok (.aload_n 0, 1) := by decide +kernel
theorem dX0_find_6 : decode cX0_find 6 = .ok (.getfield 37, 3) := by decide +kernel
theorem dX0_find_9 : decode cX0_find 9 = .ok (.if_icmp .ge 12, 3) := by decide +kernel
theorem dX0_find_12 : decode cX0_find 12 = .ok (.aload_n 0, 1) := by decide +kernel
theorem dX0_find_13 : decode cX0_find 13 = .ok (.getfield 17, 3) := by decide +kernel
theorem dX0_find_16 : decode cX0_find 16 = .ok (.iload_n 1, 1) := by decide +kernel
theorem dX0_find_17 : decode cX0_find 17 = .ok (.aaload, 1) := by decide +kernel
theorem dX0_find_18 : decode cX0_find 18 = .ok (.goto 4, 3) := by decide +kernel
theorem dX0_find_21 : decode cX0_find 21 = .ok (.aconst_null, 1) := by decide +kernel
theorem dX0_find_22 : decode cX0_find 22 = .ok (.areturn, 1) := by decide +kernel
theorem dX0_isShown_0 : decode cX0_isShown 0 = .ok (.aload_n 0, 1) := by decide +kernel
theorem dX0_isShown_1 : decode cX0_isShown 1 = .ok (.getfield 31, 3) := by decide +kernel
theorem dX0_isShown_4 : decode cX0_isShown 4 = .ok (.aload_n 1, 1) := by decide +kernel
theorem dX0_isShown_5 : decode cX0_isShown 5 = .ok (.getfield 40, 3) := by decide +kernel
theorem dX0_isShown_8 : decode cX0_isShown 8 = .ok (.ishr, 1) := by decide +kernel
theorem dX0_isShown_9 : decode cX0_isShown 9 = .ok (.iconst 1, 1) := by decide +kernel
theorem dX0_isShown_10 : decode cX0_isShown 10 = .ok (.iand, 1) := by decide +kernel
theorem dX0_isShown_11 : decode cX0_isShown 11 = .ok (.ifCond .eq 7, 3) := by decide +kernel
theorem dX0_isShown_14 : decode cX0_isShown 14 = .ok (.iconst 1, 1) := by decide +kernel
theorem dX0_isShown_15 : decode cX0_isShown 15 = .ok (.goto 4, 3) := by decide +kernel
theorem dX0_isShown_18 : decode cX0_isShown 18 = .ok (.iconst 0, 1) := by decide +kernel
theorem dX0_isShown_19 : decode cX0_isShown 19 = .ok (.ireturn, 1) := by decide +kernel
theorem dX0_isSet_0 : decode cX0_isSet 0 = .ok (.aload_n 0, 1) := by decide +kernel
theorem dX0_isSet_1 : decode cX0_isSet 1 = .ok (.getfield 43, 3) := by decide +kernel
theorem dX0_isSet_4 : decode cX0_isSet 4 = .ok (.ifCond .ne 11, 3) := by decide +kernel
theorem dX0_isSet_7 : decode cX0_isSet 7 = .ok (.aload_n 0, 1) := by decide +kernel
theorem dX0_isSet_8 : decode cX0_isSet 8 = .ok (.aload_n 1, 1) := by decide +kernel
theorem dX0_isSet_9 : decode cX0_isSet 9 = .ok (.invokevirtual 47, 3) := by decide +kernel
theorem dX0_isSet_12 : decode cX0_isSet 12 = .ok (.ifCond .eq 7, 3) := by decide +kernel
theorem dX0_isSet_15 : decode cX0_isSet 15 = .ok (.iconst 1, 1) := by decide +kernel
theorem dX0_isSet_16 : decode cX0_isSet 16 = .ok (.goto 4, 3) := by decide +kernel
theorem dX0_isSet_19 : decode cX0_isSet 19 = .ok (.iconst 0, 1) := by decide +kernel
theorem dX0_isSet_20 : decode cX0_isSet 20 = .ok (.ireturn, 1) := by decide +kernel
theorem dX1_init_0 : decode cX1_init 0 = .ok (.aload_n 0, 1) := by decide +kernel
theorem dX1_init_1 : decode cX1_init 1 = .ok (.invokespecial 3, 3) := by decide +kernel
theorem dX1_init_4 : decode cX1_init 4 = .ok (.aload_n 0, 1) := by decide +kernel
theorem dX1_init_5 : decode cX1_init 5 = .ok (.bipush 60, 2) := by decide +kernel
theorem dX1_init_7 : decode cX1_init 7 = .ok (.newarray .int, 2) := by decide +kernel
theorem dX1_init_9 : decode cX1_init 9 = .ok (.putfield 9, 3) := by decide +kernel
theorem dX1_init_12 : decode cX1_init 12 = .ok (.aload_n 0, 1) := by decide +kernel
theorem dX1_init_13 : decode cX1_init 13 = .ok (.bipush 60, 2) := by decide +kernel
theorem dX1_init_15 : decode cX1_init 15 = .ok (.newarray .int, 2) := by decide +kernel
theorem dX1_init_17 : decode cX1_init 17 = .ok (.putfield 15, 3) := by decide +kernel
theorem dX1_init_20 : decode cX1_init 20 = .ok (.aload_n 0, 1) := by decide +kernel
theorem dX1_init_21 : decode cX1_init 21 = .ok (.bipush 84, 2) := by decide +kernel
theorem dX1_init_23 : decode cX1_init 23 = .ok (.newarray .int, 2) := by decide +kernel
theorem dX1_init_25 : decode cX1_init 25 = .ok (.putfield 18, 3) := by decide +kernel
theorem dX1_init_28 : decode cX1_init 28 = .ok (.aload_n 0, 1) := by decide +kernel
theorem dX1_init_29 : decode cX1_init 29 = .ok (.iconst 1, 1) := by decide +kernel
theorem dX1_init_30 : decode cX1_init 30 = .ok (.putfield 21, 3) := by decide +kernel
theorem dX1_init_33 : decode cX1_init 33 = .ok (.aload_n 0, 1) := by decide +kernel
theorem dX1_init_34 : decode cX1_init 34 = .ok (.iconst 1, 1) := by decide +kernel
theorem dX1_init_35 : decode cX1_init 35 = .ok (.putfield 25, 3) := by decide +kernel
theorem dX1_init_38 : decode cX1_init 38 = .ok (.aload_n 0, 1) := by decide +kernel
theorem dX1_init_39 : decode cX1_init 39 = .ok (.bipush 84, 2) := by decide +kernel
theorem dX1_init_41 : decode cX1_init 41 = .ok (.newarray .int, 2) := by decide +kernel
theorem dX1_init_43 : decode cX1_init 43 = .ok (.putfield 28, 3) := by decide +kernel
theorem dX1_init_46 : decode cX1_init 46 = .ok (.aload_n 0, 1) := by decide +kernel
theorem dX1_init_47 : decode cX1_init 47 = .ok (.bipush 84, 2) := by decide +kernel
theorem dX1_init_49 : decode cX1_init 49 = .ok (.newarray .int, 2) := by decide +kernel
theorem dX1_init_51 : decode cX1_init 51 = .ok (.putfield 31, 3) := by decide +kernel
theorem dX1_init_54 : decode cX1_init 54 = .ok (.aload_n 0, 1) := by decide +kernel
theorem dX1_init_55 : decode cX1_init 55 = .ok (.bipush 84, 2) := by decide +kernel
theorem dX1_init_57 : decode cX1_init 57 = .ok (.newarray .int, 2) := by decide +kernel
theorem dX1_init_59 : decode cX1_init 59 = .ok (.putfield 34, 3) := by decide +kernel
theorem dX1_init_62 : decode cX1_init 62 = .ok (.aload_n 0, 1) := by decide +kernel
theorem dX1_init_63 : decode cX1_init 63 = .ok (.bipush 84, 2) := by decide +kernel
theorem dX1_init_65 : decode cX1_init 65 = .ok (.newarray .int, 2) := by decide +kernel
theorem dX1_init_67 : decode cX1_init 67 = .ok (.putfield 37, 3) := by decide +kernel
theorem dX1_init_70 : decode cX1_init 70 = .ok (.aload_n 0, 1) := by decide +kernel
theorem dX1_init_71 : decode cX1_init 71 = .ok (.iconst 2, 1) := by decide +kernel
theorem dX1_init_72 : decode cX1_init 72 = .ok (.bipush 84, 2) := by decide +kernel
theorem dX1_init_74 : decode cX1_init 74 = .ok (.multianewarray 40 2, 4) := by decide +kernel
theorem dX1_init_78 : decode cX1_init 78 = .ok (.putfield 42, 3) := by decide +kernel
theorem dX1_init_81 : decode cX1_init 81 = .ok (.aload_n 0, 1) := by decide +kernel
theorem dX1_init_82 : decode cX1_init 82 = .ok (.new 45, 3) := by decide +kernel
theorem dX1_init_85 : decode cX1_init 85 = .ok (.dup, 1) := by decide +kernel
theorem dX1_init_86 : decode cX1_init 86 = .ok (.invokespecial 47, 3) := by decide +kernel
theorem dX1_init_89 : decode cX1_init 89 = .ok (.putfield 48, 3) := by decide +kernel
theorem dX1_init_92 : decode cX1_init 92 = .ok (.aload_n 0, 1) := by decide +kernel
theorem dX1_init_93 : decode cX1_init 93 = .ok (.aload_n 1, 1) := by decide +kernel
theorem dX1_init_94 : decode cX1_init 94 = .ok (.putfield 52, 3) := by decide +kernel
theorem dX1_init_97 : decode cX1_init 97 = .ok (.aload_n 0, 1) := by decide +kernel
theorem dX1_init_98 : decode cX1_init 98 = .ok (.new 56, 3) := by decide +kernel
theorem dX1_init_101 : decode cX1_init 101 = .ok (.dup, 1) := by decide +kernel
theorem dX1_init_102 : decode cX1_init 102 = .ok (.aload_n 1, 1) := by decide +kernel
theorem dX1_init_103 : decode cX1_init 103 = .ok (.aload_n 0, 1) := by decide +kernel
theorem dX1_init_104 : decode cX1_init 104 = .ok (.getfield 48, 3) := by decide +kernel
theorem dX1_init_107 : decode cX1_init 107 = .ok (.invokespecial 58, 3) := by decide +kernel
theorem dX1_init_110 : decode cX1_init 110 = .ok (.putfield 61, 3) := by decide +kernel
theorem dX1_init_113 : decode cX1_init 113 = .ok (.return_, 1) := by decide +kernel
theorem dX1_refresh_0 : decode cX1_refresh 0 = .ok (.aload_n 0, 1) := by decide +kernel
theorem dX1_refresh_1 : decode cX1_refresh 1 = .ok (.getfield 25, 3) := by decide +kernel
theorem dX1_refresh_4 : decode cX1_refresh 4 = .ok (.ifCond .ne 4, 3) := by decide +kernel
theorem dX1_refresh_7 : decode cX1_refresh 7 = .ok (.return_, 1) := by decide +kernel
theorem dX1_refresh_8 : decode cX1_refresh 8 = .ok (.aload_n 0, 1) := by decide +kernel
theorem dX1_refresh_9 : decode cX1_refresh 9 = .ok (.iconst 0, 1) := by decide +kernel
theorem dX1_refresh_10 : decode cX1_refresh 10 = .ok (.putfield 25, 3) := by decide +kernel
theorem dX1_refresh_13 : decode cX1_refresh 13 = .ok (.aload_n 0, 1) := by decide +kernel
theorem dX1_refresh_14 : decode cX1_refresh 14 = .ok (.iconst 1, 1) := by decide +kernel
theorem dX1_refresh_15 : decode cX1_refresh 15 = .ok (.putfield 21, 3) := by decide +kernel
theorem dX1_refresh_18 : decode cX1_refresh 18 = .ok (.aload_n 0, 1) := by decide +kernel
theorem dX1_refresh_19 : decode cX1_refresh 19 = .ok (.iconst 0, 1) := by decide +kernel
theorem dX1_refresh_20 : decode cX1_refresh 20 = .ok (.putfield 65, 3) := by decide +kernel
theorem dX1_refresh_23 : decode cX1_refresh 23 = .ok (.aload_n 0, 1) := by decide +kernel
theorem dX1_refresh_24 : decode cX1_refresh 24 = .ok (.getfield 48, 3) := by decide +kernel
theorem dX1_refresh_27 : decode cX1_refresh 27 = .ok (.aload_n 0, 1) := by decide +kernel
theorem dX1_refresh_28 : decode cX1_refresh 28 = .ok (.getfield 52, 3) := by decide +kernel
theorem dX1_refresh_31 : decode cX1_refresh 31 = .ok (.invokevirtual 69, 3) := by decide +kernel
theorem dX1_refresh_34 : decode cX1_refresh 34 = .ok (.aload_n 0, 1) := by decide +kernel
theorem dX1_refresh_35 : decode cX1_refresh 35 = .ok (.getfield 61, 3) := by decide +kernel
theorem dX1_refresh_38 : decode cX1_refresh 38 = .ok (.invokevirtual 73, 3) := by decide +kernel
theorem dX1_refresh_41 : decode cX1_refresh 41 = .ok (.iconst 0, 1) := by decide +kernel
theorem dX1_refresh_42 : decode cX1_refresh 42 = .ok (.istore_n 1, 1) := by decide +kernel
theorem dX1_refresh_43 : decode cX1_refresh 43 = .ok (.iconst 0, 1) := by decide +kernel
theorem dX1_refresh_44 : decode cX1_refresh 44 = .ok (.istore_n 2, 1) := by decide +kernel
theorem dX1_refresh_45 : decode cX1_refresh 45 = .ok (.iload_n 2, 1) := by decide +kernel
theorem dX1_refresh_46 : decode cX1_refresh 46 = .ok (.bipush 84, 2) := by decide +kernel
theorem dX1_refresh_48 : decode cX1_refresh 48 = .ok (.if_icmp .ge 73, 3) := by decide +kernel
theorem dX1_refresh_51 : decode cX1_refresh 51 = .ok (.iload_n 1, 1) := by decide +kernel
theorem dX1_refresh_52 : decode cX1_refresh 52 = .ok (.aload_n 0, 1) := by decide +kernel
theorem dX1_refresh_53 : decode cX1_refresh 53 = .ok (.getfield 52, 3) := by decide +kernel
theorem dX1_refresh_56 : decode cX1_refresh 56 = .ok (.getfield 76, 3) := by decide +kernel
theorem dX1_refresh_59 : decode cX1_refresh 59 = .ok (.if_icmp .lt 13, 3) := by decide +kernel
theorem dX1_refresh_62 : decode cX1_refresh 62 = .ok (.aload_n 0, 1) := by decide +kernel
theorem dX1_refresh_63 : decode cX1_refresh 63 = .ok (.getfield 61, 3) := by decide +kernel
theorem dX1_refresh_66 : decode cX1_refresh 66 = .ok (.invokevirtual 81, 3) := by decide +kernel
theorem dX1_refresh_69 : decode cX1_refresh 69 = .ok (.ifCond .eq 52, 3) := by decide +kernel
theorem dX1_refresh_72 : decode cX1_refresh 72 = .ok (.aload_n 0, 1) := by decide +kernel
theorem dX1_refresh_73 : decode cX1_refresh 73 = .ok (.getfield 61, 3) := by decide +kernel
theorem dX1_refresh_76 : decode cX1_refresh 76 = .ok (.invokevirtual 85, 3) := by decide +kernel
theorem dX1_refresh_79 : decode cX1_refresh 79 = .ok (.aload_n 0, 1) := by decide +kernel
theorem dX1_refresh_80 : decode cX1_refresh 80 = .ok (.iload_n 1, 1) := by decide +kernel
theorem dX1_refresh_81 : decode cX1_refresh 81 = .ok (.invokevirtual 88, 3) := by decide +kernel
theorem dX1_refresh_84 : decode cX1_refresh 84 = .ok (.istore_n 3, 1) := by decide +kernel
theorem dX1_refresh_85 : decode cX1_refresh 85 = .ok (.iload_n 3, 1) := by decide +kernel
theorem dX1_refresh_86 : decode cX1_refresh 86 = .ok (.iload_n 1, 1) := by decide +kernel
theorem dX1_refresh_87 : decode cX1_refresh 87 = .ok (.if_icmp .ne 19, 3) := by decide +kernel
theorem dX1_refresh_90 : decode cX1_refresh 90 = .ok (.aload_n 0, 1) := by decide +kernel
theorem dX1_refresh_91 : decode cX1_refresh 91 = .ok (.getfield 61, 3) := by decide +kernel
theorem dX1_refresh_94 : decode cX1_refresh 94 = .ok (.invokevirtual 81, 3) := by decide +kernel
theorem dX1_refresh_97 : decode cX1_refresh 97 = .ok (.ifCond .ne 9, 3) := by decide +kernel
theorem dX1_refresh_100 : decode cX1_refresh 100 = .ok (.aload_n 0, 1) := by decide +kernel
theorem dX1_refresh_101 : decode cX1_refresh 101 = .ok (.iconst 0, 1) := by decide +kernel
theorem dX1_refresh_102 : decode cX1_refresh 102 = .ok (.putfield 21, 3) := by decide +kernel
theorem dX1_refresh_105 : decode cX1_refresh 105 = .ok (.return_, 1) := by decide +kernel
theorem dX1_refresh_106 : decode cX1_refresh 106 = .ok (.aload_n 0, 1) := by decide +kernel
theorem dX1_refresh_107 : decode cX1_refresh 107 = .ok (.iload_n 2, 1) := by decide +kernel
theorem dX1_refresh_108 : decode cX1_refresh 108 = .ok (.iload_n 1, 1) := by decide +kernel
theorem dX1_refresh_109 : decode cX1_refresh 109 = .ok (.iload_n 3, 1) := by decide +kernel
theorem dX1_refresh_110 : decode cX1_refresh 110 = .ok (.invokevirtual 92, 3) := by decide +kernel
theorem dX1_refresh_113 : decode cX1_refresh 113 = .ok (.iload_n 3, 1) := by decide +kernel
theorem dX1_refresh_114 : decode cX1_refresh 114 = .ok (.istore_n 1, 1) := by decide +kernel
theorem dX1_refresh_115 : decode cX1_refresh 115 = .ok (.iinc 2 1, 3) := by decide +kernel
theorem dX1_refresh_118 : decode cX1_refresh 118 = .ok (.goto (-73), 3) := by decide +kernel
theorem dX1_refresh_121 : decode cX1_refresh 121 = .ok (.return_, 1) := by decide +kernel
theorem dX1_hasPage_0 : decode cX1_hasPage 0 = .ok (.iload_n 1, 1) := by decide +kernel
theorem dX1_hasPage_1 : decode cX1_hasPage 1 = .ok (.ifCond .lt 15, 3) := by decide +kernel
theorem dX1_hasPage_4 : decode cX1_hasPage 4 = .ok (.iload_n 1, 1) := by decide +kernel
theorem dX1_hasPage_5 : decode cX1_hasPage 5 = .ok (.aload_n 0, 1) := by decide +kernel
theorem dX1_hasPage_6 : decode cX1_hasPage 6 = .ok (.getfield 65, 3) := by decide +kernel
theorem dX1_hasPage_9 : decode cX1_hasPage 9 = .ok (.if_icmp .ge 7, 3) := by decide +kernel
theorem dX1_hasPage_12 : decode cX1_hasPage 12 = .ok (.iconst 1, 1) := by decide +kernel
theorem dX1_hasPage_13 : decode cX1_hasPage 13 = .ok (.goto 4, 3) := by decide +kernel
theorem dX1_hasPage_16 : decode cX1_hasPage 16 = .ok (.iconst 0, 1) := by decide +kernel
theorem dX1_hasPage_17 : decode cX1_hasPage 17 = .ok (.ireturn, 1) := by decide +kernel
theorem dX1_takeLines_0 : decode cX1_takeLines 0 = .ok (.iload_n 1, 1) := by decide +kernel
theorem dX1_takeLines_1 : decode cX1_takeLines 1 = .ok (.istore_n 2, 1) := by decide +kernel
theorem dX1_takeLines_2 : decode cX1_takeLines 2 = .ok (.iconst 0, 1) := by decide +kernel
theorem dX1_takeLines_3 : decode cX1_takeLines 3 = .ok (.istore_n 3, 1) := by decide +kernel
theorem dX1_takeLines_4 : decode cX1_takeLines 4 = .ok (.iload_n 2, 1) := by decide +kernel
theorem dX1_takeLines_5 : decode cX1_takeLines 5 = .ok (.aload_n 0, 1) := by decide +kernel
theorem dX1_takeLines_6 : decode cX1_takeLines 6 = .ok (.getfield 52, 3) := by decide +kernel
theorem dX1_takeLines_9 : decode cX1_takeLines 9 = .ok (.getfield 76, 3) := by decide +kernel
theorem dX1_takeLines_12 : decode cX1_takeLines 12 = .ok (.if_icmp .ge 45, 3) := by decide +kernel
theorem dX1_takeLines_15 : decode cX1_takeLines 15 = .ok (.iload_n 3, 1) := by decide +kernel
theorem dX1_takeLines_16 : decode cX1_takeLines 16 = .ok (.aload_n 0, 1) := by decide +kernel
theorem dX1_takeLines_17 : decode cX1_takeLines 17 = .ok (.getfield 52, 3) := by decide +kernel
theorem dX1_takeLines_20 : decode cX1_takeLines 20 = .ok (.getfield 96, 3) := by decide +kernel
theorem dX1_takeLines_23 : decode cX1_takeLines 23 = .ok (.iload_n 2, 1) := by decide +kernel
theorem dX1_takeLines_24 : decode cX1_takeLines 24 = .ok (.iaload, 1) := by decide +kernel
theorem dX1_takeLines_25 : decode cX1_takeLines 25 = .ok (.iadd, 1) := by decide +kernel
theorem dX1_takeLines_26 : decode cX1_takeLines 26 = .ok (.istore_n 3, 1) := by decide +kernel
theorem dX1_takeLines_27 : decode cX1_takeLines 27 = .ok (.iload_n 3, 1) := by decide +kernel
theorem dX1_takeLines_28 : decode cX1_takeLines 28 = .ok (.aload_n 0, 1) := by decide +kernel
theorem dX1_takeLines_29 : decode cX1_takeLines 29 = .ok (.getfield 52, 3) := by decide +kernel
theorem dX1_takeLines_32 : decode cX1_takeLines 32 = .ok (.getfield 99, 3) := by decide +kernel
theorem dX1_takeLines_35 : decode cX1_takeLines 35 = .ok (.if_icmp .gt 14, 3) := by decide +kernel
theorem dX1_takeLines_38 : decode cX1_takeLines 38 = .ok (.aload_n 0, 1) := by decide +kernel
theorem dX1_takeLines_39 : decode cX1_takeLines 39 = .ok (.getfield 61, 3) := by decide +kernel
theorem dX1_takeLines_42 : decode cX1_takeLines 42 = .ok (.iload_n 2, 1) := by decide +kernel
theorem dX1_takeLines_43 : decode cX1_takeLines 43 = .ok (.invokevirtual 102, 3) := by decide +kernel
theorem dX1_takeLines_46 : decode cX1_takeLines 46 = .ok (.ifCond .ne 5, 3) := by decide +kernel
theorem dX1_takeLines_49 : decode cX1_takeLines 49 = .ok (.iload_n 2, 1) := by decide +kernel
theorem dX1_takeLines_50 : decode cX1_takeLines 50 = .ok (.ireturn, 1) := by decide +kernel
theorem dX1_takeLines_51 : decode cX1_takeLines 51 = .ok (.iinc 2 1, 3) := by decide +kernel
theorem dX1_takeLines_54 : decode cX1_takeLines 54 = .ok (.goto (-50), 3) := by decide +kernel
theorem dX1_takeLines_57 : decode cX1_takeLines 57 = .ok (.iload_n 2, 1) := by decide +kernel
theorem dX1_takeLines_58 : decode cX1_takeLines 58 = .ok (.ireturn, 1) := by decide +kernel
theorem dX1_layPage_0 : decode cX1_layPage 0 = .ok (.aload_n 0, 1) := by decide +kernel
theorem dX1_layPage_1 : decode cX1_layPage 1 = .ok (.getfield 28, 3) := by decide +kernel
theorem dX1_layPage_4 : decode cX1_layPage 4 = .ok (.iload_n 1, 1) := by decide +kernel
theorem dX1_layPage_5 : decode cX1_layPage 5 = .ok (.iload_n 2, 1) := by decide +kernel
theorem dX1_layPage_6 : decode cX1_layPage 6 = .ok (.iastore, 1) := by decide +kernel
theorem dX1_layPage_7 : decode cX1_layPage 7 = .ok (.aload_n 0, 1) := by decide +kernel
theorem dX1_layPage_8 : decode cX1_layPage 8 = .ok (.getfield 31, 3) := by decide +kernel
theorem dX1_layPage_11 : decode cX1_layPage 11 = .ok (.iload_n 1, 1) := by decide +kernel
theorem dX1_layPage_12 : decode cX1_layPage 12 = .ok (.iload_n 3, 1) := by decide +kernel
theorem dX1_layPage_13 : decode cX1_layPage 13 = .ok (.iastore, 1) := by decide +kernel
theorem dX1_layPage_14 : decode cX1_layPage 14 = .ok (.aload_n 0, 1) := by decide +kernel
theorem dX1_layPage_15 : decode cX1_layPage 15 = .ok (.getfield 34, 3) := by decide +kernel
theorem dX1_layPage_18 : decode cX1_layPage 18 = .ok (.iload_n 1, 1) := by decide +kernel
theorem dX1_layPage_19 : decode cX1_layPage 19 = .ok (.aload_n 0, 1) := by decide +kernel
theorem dX1_layPage_20 : decode cX1_layPage 20 = .ok (.getfield 61, 3) := by decide +kernel
theorem dX1_layPage_23 : decode cX1_layPage 23 = .ok (.getfield 106, 3) := by decide +kernel
theorem dX1_layPage_26 : decode cX1_layPage 26 = .ok (.iastore, 1) := by decide +kernel
theorem dX1_layPage_27 : decode cX1_layPage 27 = .ok (.aload_n 0, 1) := by decide +kernel
theorem dX1_layPage_28 : decode cX1_layPage 28 = .ok (.getfield 37, 3) := by decide +kernel
theorem dX1_layPage_31 : decode cX1_layPage 31 = .ok (.iload_n 1, 1) := by decide +kernel
theorem dX1_layPage_32 : decode cX1_layPage 32 = .ok (.aload_n 0, 1) := by decide +kernel
theorem dX1_layPage_33 : decode cX1_layPage 33 = .ok (.getfield 61, 3) := by decide +kernel
theorem dX1_layPage_36 : decode cX1_layPage 36 = .ok (.getfield 109, 3) := by decide +kernel
theorem dX1_layPage_39 : decode cX1_layPage 39 = .ok (.iastore, 1) := by decide +kernel
theorem dX1_layPage_40 : decode cX1_layPage 40 = .ok (.aload_n 0, 1) := by decide +kernel
theorem dX1_layPage_41 : decode cX1_layPage 41 = .ok (.getfield 42, 3) := by decide +kernel
theorem dX1_layPage_44 : decode cX1_layPage 44 = .ok (.iconst 0, 1) := by decide +kernel
theorem dX1_layPage_45 : decode cX1_layPage 45 = .ok (.aaload, 1) := by decide +kernel
theorem dX1_layPage_46 : decode cX1_layPage 46 = .ok (.iload_n 1, 1) := by decide +kernel
theorem dX1_layPage_47 : decode cX1_layPage 47 = .ok (.aload_n 0, 1) := by decide +kernel
theorem dX1_layPage_48 : decode cX1_layPage 48 = .ok (.getfield 61, 3) := by decide +kernel
theorem dX1_layPage_51 : decode cX1_layPage 51 = .ok (.getfield 112, 3) := by decide +kernel
theorem dX1_layPage_54 : decode cX1_layPage 54 = .ok (.getfield 116, 3) := by decide +kernel
theorem dX1_layPage_57 : decode cX1_layPage 57 = .ok (.iastore, 1) := by decide +kernel
theorem dX1_layPage_58 : decode cX1_layPage 58 = .ok (.aload_n 0, 1) := by decide +kernel
theorem dX1_layPage_59 : decode cX1_layPage 59 = .ok (.getfield 42, 3) := by decide +kernel
theorem dX1_layPage_62 : decode cX1_layPage 62 = .ok (.iconst 1, 1) := by decide +kernel
theorem dX1_layPage_63 : decode cX1_layPage 63 = .ok (.aaload, 1) := by decide +kernel
theorem dX1_layPage_64 : decode cX1_layPage 64 = .ok (.iload_n 1, 1) := by decide +kernel
theorem dX1_layPage_65 : decode cX1_layPage 65 = .ok (.aload_n 0, 1) := by decide +kernel
theorem dX1_layPage_66 : decode cX1_layPage 66 = .ok (.getfield 61, 3) := by decide +kernel
theorem dX1_layPage_69 : decode cX1_layPage 69 = .ok (.getfield 120, 3) := by decide +kernel
theorem dX1_layPage_72 : decode cX1_layPage 72 = .ok (.getfield 116, 3) := by decide +kernel
theorem dX1_layPage_75 : decode cX1_layPage 75 = .ok (.iastore, 1) := by decide +kernel
theorem dX1_layPage_76 : decode cX1_layPage 76 = .ok (.iconst 0, 1) := by decide +kernel
theorem dX1_layPage_77 : decode cX1_layPage 77 = .ok (.istore 4, 2) := by decide +kernel
theorem dX1_layPage_79 : decode cX1_layPage 79 = .ok (.iload_n 2, 1) := by decide +kernel
theorem dX1_layPage_80 : decode cX1_layPage 80 = .ok (.istore 5, 2) := by decide +kernel
theorem dX1_layPage_82 : decode cX1_layPage 82 = .ok (.iload 5, 2) := by decide +kernel
theorem dX1_layPage_84 : decode cX1_layPage 84 = .ok (.iload_n 3, 1) := by decide +kernel
theorem dX1_layPage_85 : decode cX1_layPage 85 = .ok (.if_icmp .ge 41, 3) := by decide +kernel
theorem dX1_layPage_88 : decode cX1_layPage 88 = .ok (.aload_n 0, 1) := by decide +kernel
theorem dX1_layPage_89 : decode cX1_layPage 89 = .ok (.getfield 9, 3) := by decide +kernel
theorem dX1_layPage_92 : decode cX1_layPage 92 = .ok (.iload 5, 2) := by decide +kernel
theorem dX1_layPage_94 : decode cX1_layPage 94 = .ok (.iload_n 1, 1) := by decide +kernel
theorem dX1_layPage_95 : decode cX1_layPage 95 = .ok (.iastore, 1) := by decide +kernel
theorem dX1_layPage_96 : decode cX1_layPage 96 = .ok (.aload_n 0, 1) := by decide +kernel
theorem dX1_layPage_97 : decode cX1_layPage 97 = .ok (.getfield 15, 3) := by decide +kernel
theorem dX1_layPage_100 : decode cX1_layPage 100 = .ok (.iload 5, 2) := by decide +kernel
theorem dX1_layPage_102 : decode cX1_layPage 102 = .ok (.iload 4, 2) := by decide +kernel
theorem dX1_layPage_104 : decode cX1_layPage 104 = .ok (.iastore, 1) := by decide +kernel
theorem dX1_layPage_105 : decode cX1_layPage 105 = .ok (.iload 4, 2) := by decide +kernel
theorem dX1_layPage_107 : decode cX1_layPage 107 = .ok (.aload_n 0, 1) := by decide +kernel
theorem dX1_layPage_108 : decode cX1_layPage 108 = .ok (.getfield 52, 3) := by decide +kernel
theorem dX1_layPage_111 : decode cX1_layPage 111 = .ok (.getfield 96, 3) := by decide +kernel
theorem dX1_layPage_114 : decode cX1_layPage 114 = .ok (.iload 5, 2) := by decide +kernel
theorem dX1_layPage_116 : decode cX1_layPage 116 = .ok (.iaload, 1) := by decide +kernel
theorem dX1_layPage_117 : decode cX1_layPage 117 = .ok (.iadd, 1) := by decide +kernel
theorem dX1_layPage_118 : decode cX1_layPage 118 = .ok (.istore 4, 2) := by decide +kernel
theorem dX1_layPage_120 : decode cX1_layPage 120 = .ok (.iinc 5 1, 3) := by decide +kernel
theorem dX1_layPage_123 : decode cX1_layPage 123 = .ok (.goto (-41), 3) := by decide +kernel
theorem dX1_layPage_126 : decode cX1_layPage 126 = .ok (.aload_n 0, 1) := by decide +kernel
theorem dX1_layPage_127 : decode cX1_layPage 127 = .ok (.getfield 34, 3) := by decide +kernel
theorem dX1_layPage_130 : decode cX1_layPage 130 = .ok (.iload_n 1, 1) := by decide +kernel
theorem dX1_layPage_131 : decode cX1_layPage 131 = .ok (.iaload, 1) := by decide +kernel
theorem dX1_layPage_132 : decode cX1_layPage 132 = .ok (.istore 5, 2) := by decide +kernel
theorem dX1_layPage_134 : decode cX1_layPage 134 = .ok (.iload 5, 2) := by decide +kernel
theorem dX1_layPage_136 : decode cX1_layPage 136 = .ok (.aload_n 0, 1) := by decide +kernel
theorem dX1_layPage_137 : decode cX1_layPage 137 = .ok (.getfield 37, 3) := by decide +kernel
theorem dX1_layPage_140 : decode cX1_layPage 140 = .ok (.iload_n 1, 1) := by decide +kernel
theorem dX1_layPage_141 : decode cX1_layPage 141 = .ok (.iaload, 1) := by decide +kernel
theorem dX1_layPage_142 : decode cX1_layPage 142 = .ok (.if_icmp .ge 36, 3) := by decide +kernel
theorem dX1_layPage_145 : decode cX1_layPage 145 = .ok (.aload_n 0, 1) := by decide +kernel
theorem dX1_layPage_146 : decode cX1_layPage 146 = .ok (.getfield 48, 3) := by decide +kernel
theorem dX1_layPage_149 : decode cX1_layPage 149 = .ok (.getfield 123, 3) := by decide +kernel
theorem dX1_layPage_152 : decode cX1_layPage 152 = .ok (.iload 5, 2) := by decide +kernel
theorem dX1_layPage_154 : decode cX1_layPage 154 = .ok (.aaload, 1) := by decide +kernel
theorem dX1_layPage_155 : decode cX1_layPage 155 = .ok (.astore 6, 2) := by decide +kernel
theorem dX1_layPage_157 : decode cX1_layPage 157 = .ok (.aload 6, 2) := by decide +kernel
theorem dX1_layPage_159 : decode cX1_layPage 159 = .ok (.aload_n 0, 1) := by decide +kernel
theorem dX1_layPage_160 : decode cX1_layPage 160 = .ok (.getfield 15, 3) := by decide +kernel
theorem dX1_layPage_163 : decode cX1_layPage 163 = .ok (.aload 6, 2) := by decide +kernel
theorem dX1_layPage_165 : decode cX1_layPage 165 = .ok (.getfield 127, 3) := by decide +kernel
theorem dX1_layPage_168 : decode cX1_layPage 168 = .ok (.iaload, 1) := by decide +kernel
theorem dX1_layPage_169 : decode cX1_layPage 169 = .ok (.putfield 132, 3) := by decide +kernel
theorem dX1_layPage_172 : decode cX1_layPage 172 = .ok (.iinc 5 1, 3) := by decide +kernel
theorem dX1_layPage_175 : decode cX1_layPage 175 = .ok (.goto (-41), 3) := by decide +kernel
theorem dX1_layPage_178 : decode cX1_layPage 178 = .ok (.aload_n 0, 1) := by decide +kernel
theorem dX1_layPage_179 : decode cX1_layPage 179 = .ok (.getfield 18, 3) := by decide +kernel
theorem dX1_layPage_182 : decode cX1_layPage 182 = .ok (.iload_n 1, 1) := by decide +kernel
theorem dX1_layPage_183 : decode cX1_layPage 183 = .ok (.aload_n 0, 1) := by decide +kernel
theorem dX1_layPage_184 : decode cX1_layPage 184 = .ok (.getfield 61, 3) := by decide +kernel
theorem dX1_layPage_187 : decode cX1_layPage 187 = .ok (.invokevirtual 134, 3) := by decide +kernel
theorem dX1_layPage_190 : decode cX1_layPage 190 = .ok (.iastore, 1) := by decide +kernel
theorem dX1_layPage_191 : decode cX1_layPage 191 = .ok (.aload_n 0, 1) := by decide +kernel
theorem dX1_layPage_192 : decode cX1_layPage 192 = .ok (.iload_n 1, 1) := by decide +kernel
theorem dX1_layPage_193 : decode cX1_layPage 193 = .ok (.iconst 1, 1) := by decide +kernel
theorem dX1_layPage_194 : decode cX1_layPage 194 = .ok (.iadd, 1) := by decide +kernel
theorem dX1_layPage_195 : decode cX1_layPage 195 = .ok (.putfield 65, 3) := by decide +kernel
theorem dX1_layPage_198 : decode cX1_layPage 198 = .ok (.return_, 1) := by decide +kernel
theorem dX1_countRuns_0 : decode cX1_countRuns 0 = .ok (.aload_n 0, 1) := by decide +kernel
theorem dX1_countRuns_1 : decode cX1_countRuns 1 = .ok (.iload_n 1, 1) := by decide +kernel
theorem dX1_countRuns_2 : decode cX1_countRuns 2 = .ok (.invokevirtual 138, 3) := by decide +kernel
theorem dX1_countRuns_5 : decode cX1_countRuns 5 = .ok (.ifCond .eq 12, 3) := by decide +kernel
theorem dX1_countRuns_8 : decode cX1_countRuns 8 = .ok (.iload_n 2, 1) := by decide +kernel
theorem dX1_countRuns_9 : decode cX1_countRuns 9 = .ok (.iconst 0, 1) := by decide +kernel
theorem dX1_countRuns_10 : decode cX1_countRuns 10 = .ok (.iconst 1, 1) := by decide +kernel
theorem dX1_countRuns_11 : decode cX1_countRuns 11 = .ok (.invokestatic 141, 3) := by decide +kernel
theorem dX1_countRuns_14 : decode cX1_countRuns 14 = .ok (.ifCond .ne 5, 3) := by decide +kernel
theorem dX1_countRuns_17 : decode cX1_countRuns 17 = .ok (.iconst (-1), 1) := by decide +kernel
theorem dX1_countRuns_18 : decode cX1_countRuns 18 = .ok (.ireturn, 1) := by decide +kernel
theorem dX1_countRuns_19 : decode cX1_countRuns 19 = .ok (.iconst 0, 1) := by decide +kernel
theorem dX1_countRuns_20 : decode cX1_countRuns 20 = .ok (.istore_n 3, 1) := by decide +kernel
theorem dX1_countRuns_21 : decode cX1_countRuns 21 = .ok (.iconst (-1), 1) := by decide +kernel
theorem dX1_countRuns_22 : decode cX1_countRuns 22 = .ok (.istore 4, 2) := by decide +kernel
theorem dX1_countRuns_24 : decode cX1_countRuns 24 = .ok (.aload_n 0, 1) := by decide +kernel
theorem dX1_countRuns_25 : decode cX1_countRuns 25 = .ok (.getfield 42, 3) := by decide +kernel
theorem dX1_countRuns_28 : decode cX1_countRuns 28 = .ok (.iload_n 2, 1) := by decide +kernel
theorem dX1_countRuns_29 : decode cX1_countRuns 29 = .ok (.aaload, 1) := by decide +kernel
theorem dX1_countRuns_30 : decode cX1_countRuns 30 = .ok (.iload_n 1, 1) := by decide +kernel
theorem dX1_countRuns_31 : decode cX1_countRuns 31 = .ok (.iaload, 1) := by decide +kernel
theorem dX1_countRuns_32 : decode cX1_countRuns 32 = .ok (.ifCond .le 24, 3) := by decide +kernel
theorem dX1_countRuns_35 : decode cX1_countRuns 35 = .ok (.iinc 3 1, 3) := by decide +kernel
theorem dX1_countRuns_38 : decode cX1_countRuns 38 = .ok (.aload_n 0, 1) := by decide +kernel
theorem dX1_countRuns_39 : decode cX1_countRuns 39 = .ok (.getfield 42, 3) := by decide +kernel
theorem dX1_countRuns_42 : decode cX1_countRuns 42 = .ok (.iload_n 2, 1) := by decide +kernel
theorem dX1_countRuns_43 : decode cX1_countRuns 43 = .ok (.aaload, 1) := by decide +kernel
theorem dX1_countRuns_44 : decode cX1_countRuns 44 = .ok (.iload_n 1, 1) := by decide +kernel
theorem dX1_countRuns_45 : decode cX1_countRuns 45 = .ok (.iaload, 1) := by decide +kernel
theorem dX1_countRuns_46 : decode cX1_countRuns 46 = .ok (.aload_n 0, 1) := by decide +kernel
theorem dX1_countRuns_47 : decode cX1_countRuns 47 = .ok (.getfield 52, 3) := by decide +kernel
theorem dX1_countRuns_50 : decode cX1_countRuns 50 = .ok (.getfield 145, 3) := by decide +kernel
theorem dX1_countRuns_53 : decode cX1_countRuns 53 = .ok (.iadd, 1) := by decide +kernel
theorem dX1_countRuns_54 : decode cX1_countRuns 54 = .ok (.istore 4, 2) := by decide +kernel
theorem dX1_countRuns_56 : decode cX1_countRuns 56 = .ok (.aload_n 0, 1) := by decide +kernel
theorem dX1_countRuns_57 : decode cX1_countRuns 57 = .ok (.getfield 34, 3) := by decide +kernel
theorem dX1_countRuns_60 : decode cX1_countRuns 60 = .ok (.iload_n 1, 1) := by decide +kernel
theorem dX1_countRuns_61 : decode cX1_countRuns 61 = .ok (.iaload, 1) := by decide +kernel
theorem dX1_countRuns_62 : decode cX1_countRuns 62 = .ok (.istore 5, 2) := by decide +kernel
theorem dX1_countRuns_64 : decode cX1_countRuns 64 = .ok (.iload 5, 2) := by decide +kernel
theorem dX1_countRuns_66 : decode cX1_countRuns 66 = .ok (.aload_n 0, 1) := by decide +kernel
theorem dX1_countRuns_67 : decode cX1_countRuns 67 = .ok (.getfield 37, 3) := by decide +kernel
theorem dX1_countRuns_70 : decode cX1_countRuns 70 = .ok (.iload_n 1, 1) := by decide +kernel
theorem dX1_countRuns_71 : decode cX1_countRuns 71 = .ok (.iaload, 1) := by decide +kernel
theorem dX1_countRuns_72 : decode cX1_countRuns 72 = .ok (.if_icmp .ge 64, 3) := by decide +kernel
theorem dX1_countRuns_75 : decode cX1_countRuns 75 = .ok (.aload_n 0, 1) := by decide +kernel
theorem dX1_countRuns_76 : decode cX1_countRuns 76 = .ok (.getfield 48, 3) := by decide +kernel
theorem dX1_countRuns_79 : decode cX1_countRuns 79 = .ok (.getfield 123, 3) := by decide +kernel
theorem dX1_countRuns_82 : decode cX1_countRuns 82 = .ok (.iload 5, 2) := by decide +kernel
theorem dX1_countRuns_84 : decode cX1_countRuns 84 = .ok (.aaload, 1) := by decide +kernel
theorem dX1_countRuns_85 : decode cX1_countRuns 85 = .ok (.astore 6, 2) := by decide +kernel
theorem dX1_countRuns_87 : decode cX1_countRuns 87 = .ok (.aload 6, 2) := by decide +kernel
theorem dX1_countRuns_89 : decode cX1_countRuns 89 = .ok (.getfield 148, 3) := by decide +kernel
theorem dX1_countRuns_92 : decode cX1_countRuns 92 = .ok (.iload_n 2, 1) := by decide +kernel
theorem dX1_countRuns_93 : decode cX1_countRuns 93 = .ok (.if_icmp .ne 37, 3) := by decide +kernel
theorem dX1_countRuns_96 : decode cX1_countRuns 96 = .ok (.aload 6, 2) := by decide +kernel
theorem dX1_countRuns_98 : decode cX1_countRuns 98 = .ok (.getfield 151, 3) := by decide +kernel
theorem dX1_countRuns_101 : decode cX1_countRuns 101 = .ok (.iload 4, 2) := by decide +kernel
theorem dX1_countRuns_103 : decode cX1_countRuns 103 = .ok (.if_icmp .eq 6, 3) := by decide +kernel
theorem dX1_countRuns_106 : decode cX1_countRuns 106 = .ok (.iinc 3 1, 3) := by decide +kernel
theorem dX1_countRuns_109 : decode cX1_countRuns 109 = .ok (.aload 6, 2) := by decide +kernel
theorem dX1_countRuns_111 : decode cX1_countRuns 111 = .ok (.getfield 151, 3) := by decide +kernel
theorem dX1_countRuns_114 : decode cX1_countRuns 114 = .ok (.aload 6, 2) := by decide +kernel
theorem dX1_countRuns_116 : decode cX1_countRuns 116 = .ok (.getfield 154, 3) := by decide +kernel
theorem dX1_countRuns_119 : decode cX1_countRuns 119 = .ok (.iadd, 1) := by decide +kernel
theorem dX1_countRuns_120 : decode cX1_countRuns 120 = .ok (.aload_n 0, 1) := by decide +kernel
theorem dX1_countRuns_121 : decode cX1_countRuns 121 = .ok (.getfield 52, 3) := by decide +kernel
theorem dX1_countRuns_124 : decode cX1_countRuns 124 = .ok (.getfield 145, 3) := by decide +kernel
theorem dX1_countRuns_127 : decode cX1_countRuns 127 = .ok (.iadd, 1) := by decide +kernel
theorem dX1_countRuns_128 : decode cX1_countRuns 128 = .ok (.istore 4, 2) := by decide +kernel
theorem dX1_countRuns_130 : decode cX1_countRuns 130 = .ok (.iinc 5 1, 3) := by decide +kernel
theorem dX1_countRuns_133 : decode cX1_countRuns 133 = .ok (.goto (-69), 3) := by decide +kernel
theorem dX1_countRuns_136 : decode cX1_countRuns 136 = .ok (.iload_n 3, 1) := by decide +kernel
theorem dX1_countRuns_137 : decode cX1_countRuns 137 = .ok (.ireturn, 1) := by decide +kernel
theorem dX1_countMoved_0 : decode cX1_countMoved 0 = .ok (.aload_n 0, 1) := by decide +kernel
theorem dX1_countMoved_1 : decode cX1_countMoved 1 = .ok (.iload_n 1, 1) := by decide +kernel
theorem dX1_countMoved_2 : decode cX1_countMoved 2 = .ok (.invokevirtual 138, 3) := by decide +kernel
theorem dX1_countMoved_5 : decode cX1_countMoved 5 = .ok (.ifCond .ne 5, 3) := by decide +kernel
theorem dX1_countMoved_8 : decode cX1_countMoved 8 = .ok (.iconst (-1), 1) := by decide +kernel
theorem dX1_countMoved_9 : decode cX1_countMoved 9 = .ok (.ireturn, 1) := by decide +kernel
theorem dX1_countMoved_10 : decode cX1_countMoved 10 = .ok (.iconst 0, 1) := by decide +kernel
theorem dX1_countMoved_11 : decode cX1_countMoved 11 = .ok (.istore_n 2, 1) := by decide +kernel
theorem dX1_countMoved_12 : decode cX1_countMoved 12 = .ok (.aload_n 0, 1) := by decide +kernel
theorem dX1_countMoved_13 : decode cX1_countMoved 13 = .ok (.getfield 34, 3) := by decide +kernel
theorem dX1_countMoved_16 : decode cX1_countMoved 16 = .ok (.iload_n 1, 1) := by decide +kernel
theorem dX1_countMoved_17 : decode cX1_countMoved 17 = .ok (.iaload, 1) := by decide +kernel
theorem dX1_countMoved_18 : decode cX1_countMoved 18 = .ok (.istore_n 3, 1) := by decide +kernel
theorem dX1_countMoved_19 : decode cX1_countMoved 19 = .ok (.iload_n 3, 1) := by decide +kernel
theorem dX1_countMoved_20 : decode cX1_countMoved 20 = .ok (.aload_n 0, 1) := by decide +kernel
theorem dX1_countMoved_21 : decode cX1_countMoved 21 = .ok (.getfield 37, 3) := by decide +kernel
theorem dX1_countMoved_24 : decode cX1_countMoved 24 = .ok (.iload_n 1, 1) := by decide +kernel
theorem dX1_countMoved_25 : decode cX1_countMoved 25 = .ok (.iaload, 1) := by decide +kernel
theorem dX1_countMoved_26 : decode cX1_countMoved 26 = .ok (.if_icmp .ge 39, 3) := by decide +kernel
theorem dX1_countMoved_29 : decode cX1_countMoved 29 = .ok (.aload_n 0, 1) := by decide +kernel
theorem dX1_countMoved_30 : decode cX1_countMoved 30 = .ok (.getfield 48, 3) := by decide +kernel
theorem dX1_countMoved_33 : decode cX1_countMoved 33 = .ok (.getfield 123, 3) := by decide +kernel
theorem dX1_countMoved_36 : decode cX1_countMoved 36 = .ok (.iload_n 3, 1) := by decide +kernel
theorem dX1_countMoved_37 : decode cX1_countMoved 37 = .ok (.aaload, 1) := by decide +kernel
theorem dX1_countMoved_38 : decode cX1_countMoved 38 = .ok (.getfield 151, 3) := by decide +kernel
theorem dX1_countMoved_41 : decode cX1_countMoved 41 = .ok (.aload_n 0, 1) := by decide +kernel
theorem dX1_countMoved_42 : decode cX1_countMoved 42 = .ok (.getfield 48, 3) := by decide +kernel
theorem dX1_countMoved_45 : decode cX1_countMoved 45 = .ok (.getfield 123, 3) := by decide +kernel
theorem dX1_countMoved_48 : decode cX1_countMoved 48 = .ok (.iload_n 3, 1) := by decide +kernel
theorem dX1_countMoved_49 : decode cX1_countMoved 49 = .ok (.aaload, 1) := by decide +kernel
theorem dX1_countMoved_50 : decode cX1_countMoved 50 = .ok (.getfield 132, 3) := by decide +kernel
theorem dX1_countMoved_53 : decode cX1_countMoved 53 = .ok (.if_icmp .eq 6, 3) := by decide +kernel
theorem dX1_countMoved_56 : decode cX1_countMoved 56 = .ok (.iinc 2 1, 3) := by decide +kernel
theorem dX1_countMoved_59 : decode cX1_countMoved 59 = .ok (.iinc 3 1, 3) := by decide +kernel
theorem dX1_countMoved_62 : decode cX1_countMoved 62 = .ok (.goto (-43), 3) := by decide +kernel
theorem dX1_countMoved_65 : decode cX1_countMoved 65 = .ok (.iload_n 2, 1) := by decide +kernel
theorem dX1_countMoved_66 : decode cX1_countMoved 66 = .ok (.ireturn, 1) := by decide +kernel
theorem dX1_hasBracket_0 : decode cX1_hasBracket 0 = .ok (.aload_n 0, 1) := by decide +kernel
theorem dX1_hasBracket_1 : decode cX1_hasBracket 1 = .ok (.iload_n 2, 1) := by decide +kernel
theorem dX1_hasBracket_2 : decode cX1_hasBracket 2 = .ok (.invokevirtual 138, 3) := by decide +kernel
theorem dX1_hasBracket_5 : decode cX1_hasBracket 5 = .ok (.ifCond .eq 30, 3) := by decide +kernel
theorem dX1_hasBracket_8 : decode cX1_hasBracket 8 = .ok (.aload_n 1, 1) := by decide +kernel
theorem dX1_hasBracket_9 : decode cX1_hasBracket 9 = .ok (.getfield 157, 3) := by decide +kernel
theorem dX1_hasBracket_12 : decode cX1_hasBracket 12 = .ok (.iconst (-1), 1) := by decide +kernel
theorem dX1_hasBracket_13 : decode cX1_hasBracket 13 = .ok (.if_icmp .eq 22, 3) := by decide +kernel
theorem dX1_hasBracket_16 : decode cX1_hasBracket 16 = .ok (.aload_n 0, 1) := by decide +kernel
theorem dX1_hasBracket_17 : decode cX1_hasBracket 17 = .ok (.aload_n 1, 1) := by decide +kernel
theorem dX1_hasBracket_18 : decode cX1_hasBracket 18 = .ok (.iload_n 2, 1) := by decide +kernel
theorem dX1_hasBracket_19 : decode cX1_hasBracket 19 = .ok (.invokevirtual 160, 3) := by decide +kernel
theorem dX1_hasBracket_22 : decode cX1_hasBracket 22 = .ok (.aload_n 0, 1) := by decide +kernel
theorem dX1_hasBracket_23 : decode cX1_hasBracket 23 = .ok (.aload_n 1, 1) := by decide +kernel
theorem dX1_hasBracket_24 : decode cX1_hasBracket 24 = .ok (.iload_n 2, 1) := by decide +kernel
theorem dX1_hasBracket_25 : decode cX1_hasBracket 25 = .ok (.invokevirtual 164, 3) := by decide +kernel
theorem dX1_hasBracket_28 : decode cX1_hasBracket 28 = .ok (.if_icmp .gt 7, 3) := by decide +kernel
theorem dX1_hasBracket_31 : decode cX1_hasBracket 31 = .ok (.iconst 1, 1) := by decide +kernel
theorem dX1_hasBracket_32 : decode cX1_hasBracket 32 = .ok (.goto 4, 3) := by decide +kernel
theorem dX1_hasBracket_35 : decode cX1_hasBracket 35 = .ok (.iconst 0, 1) := by decide +kernel
theorem dX1_hasBracket_36 : decode cX1_hasBracket 36 = .ok (.ireturn, 1) := by decide +kernel
theorem dX1_bracketBegin_0 : decode cX1_bracketBegin 0 = .ok (.aload_n 0, 1) := by decide +kernel
theorem dX1_bracketBegin_1 : decode cX1_bracketBegin 1 = .ok (.aload_n 1, 1) := by decide +kernel
theorem dX1_bracketBegin_2 : decode cX1_bracketBegin 2 = .ok (.iload_n 2, 1) := by decide +kernel
theorem dX1_bracketBegin_3 : decode cX1_bracketBegin 3 = .ok (.invokevirtual 167, 3) := by decide +kernel
theorem dX1_bracketBegin_6 : decode cX1_bracketBegin 6 = .ok (.ifCond .eq 17, 3) := by decide +kernel
theorem dX1_bracketBegin_9 : decode cX1_bracketBegin 9 = .ok (.aload_n 0, 1) := by decide +kernel
theorem dX1_bracketBegin_10 : decode cX1_bracketBegin 10 = .ok (.getfield 15, 3) := by decide +kernel
theorem dX1_bracketBegin_13 : decode cX1_bracketBegin 13 = .ok (.aload_n 0, 1) := by decide +kernel
theorem dX1_bracketBegin_14 : decode cX1_bracketBegin 14 = .ok (.aload_n 1, 1) := by decide +kernel
theorem dX1_bracketBegin_15 : decode cX1_bracketBegin 15 = .ok (.iload_n 2, 1) := by decide +kernel
theorem dX1_bracketBegin_16 : decode cX1_bracketBegin 16 = .ok (.invokevirtual 160, 3) := by decide +kernel
theorem dX1_bracketBegin_19 : decode cX1_bracketBegin 19 = .ok (.iaload, 1) := by decide +kernel
theorem dX1_bracketBegin_20 : decode cX1_bracketBegin 20 = .ok (.goto 4, 3) := by decide +kernel
theorem dX1_bracketBegin_23 : decode cX1_bracketBegin 23 = .ok (.iconst (-1), 1) := by decide +kernel
theorem dX1_bracketBegin_24 : decode cX1_bracketBegin 24 = .ok (.ireturn, 1) := by decide +kernel
theorem dX1_bracketEnd_0 : decode cX1_bracketEnd 0 = .ok (.aload_n 0, 1) := by decide +kernel
theorem dX1_bracketEnd_1 : decode cX1_bracketEnd 1 = .ok (.aload_n 1, 1) := by decide +kernel
theorem dX1_bracketEnd_2 : decode cX1_bracketEnd 2 = .ok (.iload_n 2, 1) := by decide +kernel
theorem dX1_bracketEnd_3 : decode cX1_bracketEnd 3 = .ok (.invokevirtual 167, 3) := by decide +kernel
theorem dX1_bracketEnd_6 : decode cX1_bracketEnd 6 = .ok (.ifCond .ne 5, 3) := by decide +kernel
theorem dX1_bracketEnd_9 : decode cX1_bracketEnd 9 = .ok (.iconst (-1), 1) := by decide +kernel
theorem dX1_bracketEnd_10 : decode cX1_bracketEnd 10 = .ok (.ireturn, 1) := by decide +kernel
theorem dX1_bracketEnd_11 : decode cX1_bracketEnd 11 = .ok (.aload_n 0, 1) := by decide +kernel
theorem dX1_bracketEnd_12 : decode cX1_bracketEnd 12 = .ok (.aload_n 1, 1) := by decide +kernel
theorem dX1_bracketEnd_13 : decode cX1_bracketEnd 13 = .ok (.iload_n 2, 1) := by decide +kernel
theorem dX1_bracketEnd_14 : decode cX1_bracketEnd 14 = .ok (.invokevirtual 164, 3) := by decide +kernel
theorem dX1_bracketEnd_17 : decode cX1_bracketEnd 17 = .ok (.istore_n 3, 1) := by decide +kernel
theorem dX1_bracketEnd_18 : decode cX1_bracketEnd 18 = .ok (.aload_n 0, 1) := by decide +kernel
theorem dX1_bracketEnd_19 : decode cX1_bracketEnd 19 = .ok (.getfield 15, 3) := by decide +kernel
theorem dX1_bracketEnd_22 : decode cX1_bracketEnd 22 = .ok (.iload_n 3, 1) := by decide +kernel
theorem dX1_bracketEnd_23 : decode cX1_bracketEnd 23 = .ok (.iaload, 1) := by decide +kernel
theorem dX1_bracketEnd_24 : decode cX1_bracketEnd 24 = .ok (.aload_n 0, 1) := by decide +kernel
theorem dX1_bracketEnd_25 : decode cX1_bracketEnd 25 = .ok (.getfield 52, 3) := by decide +kernel
theorem dX1_bracketEnd_28 : decode cX1_bracketEnd 28 = .ok (.getfield 96, 3) := by decide +kernel
theorem dX1_bracketEnd_31 : decode cX1_bracketEnd 31 = .ok (.iload_n 3, 1) := by decide +kernel
theorem dX1_bracketEnd_32 : decode cX1_bracketEnd 32 = .ok (.iaload, 1) := by decide +kernel
theorem dX1_bracketEnd_33 : decode cX1_bracketEnd 33 = .ok (.iadd, 1) := by decide +kernel
theorem dX1_bracketEnd_34 : decode cX1_bracketEnd 34 = .ok (.ireturn, 1) := by decide +kernel
theorem dX1_firstOf_0 : decode cX1_firstOf 0 = .ok (.aload_n 1, 1) := by decide +kernel
theorem dX1_firstOf_1 : decode cX1_firstOf 1 = .ok (.getfield 127, 3) := by decide +kernel
theorem dX1_firstOf_4 : decode cX1_firstOf 4 = .ok (.aload_n 0, 1) := by decide +kernel
theorem dX1_firstOf_5 : decode cX1_firstOf 5 = .ok (.getfield 28, 3) := by decide +kernel
theorem dX1_firstOf_8 : decode cX1_firstOf 8 = .ok (.iload_n 2, 1) := by decide +kernel
theorem dX1_firstOf_9 : decode cX1_firstOf 9 = .ok (.iaload, 1) := by decide +kernel
theorem dX1_firstOf_10 : decode cX1_firstOf 10 = .ok (.invokestatic 171, 3) := by decide +kernel
theorem dX1_firstOf_13 : decode cX1_firstOf 13 = .ok (.ireturn, 1) := by decide +kernel
theorem dX1_lastOf_0 : decode cX1_lastOf 0 = .ok (.aload_n 1, 1) := by decide +kernel
theorem dX1_lastOf_1 : decode cX1_lastOf 1 = .ok (.getfield 157, 3) := by decide +kernel
theorem dX1_lastOf_4 : decode cX1_lastOf 4 = .ok (.aload_n 0, 1) := by decide +kernel
theorem dX1_lastOf_5 : decode cX1_lastOf 5 = .ok (.getfield 31, 3) := by decide +kernel
theorem dX1_lastOf_8 : decode cX1_lastOf 8 = .ok (.iload_n 2, 1) := by decide +kernel
theorem dX1_lastOf_9 : decode cX1_lastOf 9 = .ok (.iaload, 1) := by decide +kernel
theorem dX1_lastOf_10 : decode cX1_lastOf 10 = .ok (.iconst 1, 1) := by decide +kernel
theorem dX1_lastOf_11 : decode cX1_lastOf 11 = .ok (.isub, 1) := by decide +kernel
theorem dX1_lastOf_12 : decode cX1_lastOf 12 = .ok (.invokestatic 177, 3) := by decide +kernel
theorem dX1_lastOf_15 : decode cX1_lastOf 15 = .ok (.ireturn, 1) := by decide +kernel
theorem dX1_columnOf_0 : decode cX1_columnOf 0 = .ok (.iconst 0, 1) := by decide +kernel
theorem dX1_columnOf_1 : decode cX1_columnOf 1 = .ok (.istore_n 3, 1) := by decide +kernel
theorem dX1_columnOf_2 : decode cX1_columnOf 2 = .ok (.iload_n 3, 1) := by decide +kernel
theorem dX1_columnOf_3 : decode cX1_columnOf 3 = .ok (.aload_n 0, 1) := by decide +kernel
theorem dX1_columnOf_4 : decode cX1_columnOf 4 = .ok (.getfield 48, 3) := by decide +kernel
theorem dX1_columnOf_7 : decode cX1_columnOf 7 = .ok (.getfield 180, 3) := by decide +kernel
theorem dX1_columnOf_10 : decode cX1_columnOf 10 = .ok (.if_icmp .ge 56, 3) := by decide +kernel
theorem dX1_columnOf_13 : decode cX1_columnOf 13 = .ok (.aload_n 0, 1) := by decide +kernel
theorem dX1_columnOf_14 : decode cX1_columnOf 14 = .ok (.getfield 48, 3) := by decide +kernel
theorem dX1_columnOf_17 : decode cX1_columnOf 17 = .ok (.getfield 123, 3) := by decide +kernel
theorem dX1_columnOf_20 : decode cX1_columnOf 20 = .ok (.iload_n 3, 1) := by decide +kernel
theorem dX1_columnOf_21 : decode cX1_columnOf 21 = .ok (.aaload, 1) := by decide +kernel
theorem dX1_columnOf_22 : decode cX1_columnOf 22 = .ok (.astore 4, 2) := by decide +kernel
theorem dX1_columnOf_24 : decode cX1_columnOf 24 = .ok (.aload 4, 2) := by decide +kernel
theorem dX1_columnOf_26 : decode cX1_columnOf 26 = .ok (.getfield 148, 3) := by decide +kernel
theorem dX1_columnOf_29 : decode cX1_columnOf 29 = .ok (.aload_n 1, 1) := by decide +kernel
theorem dX1_columnOf_30 : decode cX1_columnOf 30 = .ok (.getfield 148, 3) := by decide +kernel
theorem dX1_columnOf_33 : decode cX1_columnOf 33 = .ok (.if_icmp .ne 27, 3) := by decide +kernel
theorem dX1_columnOf_36 : decode cX1_columnOf 36 = .ok (.aload_n 0, 1) := by decide +kernel
theorem dX1_columnOf_37 : decode cX1_columnOf 37 = .ok (.aload 4, 2) := by decide +kernel
theorem dX1_columnOf_39 : decode cX1_columnOf 39 = .ok (.iload_n 2, 1) := by decide +kernel
theorem dX1_columnOf_40 : decode cX1_columnOf 40 = .ok (.invokevirtual 167, 3) := by decide +kernel
theorem dX1_columnOf_43 : decode cX1_columnOf 43 = .ok (.ifCond .eq 17, 3) := by decide +kernel
theorem dX1_columnOf_46 : decode cX1_columnOf 46 = .ok (.aload 4, 2) := by decide +kernel
theorem dX1_columnOf_48 : decode cX1_columnOf 48 = .ok (.aload_n 0, 1) := by decide +kernel
theorem dX1_columnOf_49 : decode cX1_columnOf 49 = .ok (.iload_n 3, 1) := by decide +kernel
theorem dX1_columnOf_50 : decode cX1_columnOf 50 = .ok (.iload_n 2, 1) := by decide +kernel
theorem dX1_columnOf_51 : decode cX1_columnOf 51 = .ok (.invokevirtual 181, 3) := by decide +kernel
theorem dX1_columnOf_54 : decode cX1_columnOf 54 = .ok (.invokestatic 184, 3) := by decide +kernel
theorem dX1_columnOf_57 : decode cX1_columnOf 57 = .ok (.putfield 187, 3) := by decide +kernel
theorem dX1_columnOf_60 : decode cX1_columnOf 60 = .ok (.iinc 3 1, 3) := by decide +kernel
theorem dX1_columnOf_63 : decode cX1_columnOf 63 = .ok (.goto (-61), 3) := by decide +kernel
theorem dX1_columnOf_66 : decode cX1_columnOf 66 = .ok (.aload_n 1, 1) := by decide +kernel
theorem dX1_columnOf_67 : decode cX1_columnOf 67 = .ok (.getfield 187, 3) := by decide +kernel
theorem dX1_columnOf_70 : decode cX1_columnOf 70 = .ok (.ireturn, 1) := by decide +kernel
theorem dX1_takenAhead_0 : decode cX1_takenAhead 0 = .ok (.aload_n 0, 1) := by decide +kernel
theorem dX1_takenAhead_1 : decode cX1_takenAhead 1 = .ok (.getfield 48, 3) := by decide +kernel
theorem dX1_takenAhead_4 : decode cX1_takenAhead 4 = .ok (.getfield 123, 3) := by decide +kernel
theorem dX1_takenAhead_7 : decode cX1_takenAhead 7 = .ok (.iload_n 1, 1) := by decide +kernel
theorem dX1_takenAhead_8 : decode cX1_takenAhead 8 = .ok (.aaload, 1) := by decide +kernel
theorem dX1_takenAhead_9 : decode cX1_takenAhead 9 = .ok (.astore_n 3, 1) := by decide +kernel
theorem dX1_takenAhead_10 : decode cX1_takenAhead 10 = .ok (.iconst 0, 1) := by decide +kernel
theorem dX1_takenAhead_11 : decode cX1_takenAhead 11 = .ok (.istore 4, 2) := by decide +kernel
theorem dX1_takenAhead_13 : decode cX1_takenAhead 13 = .ok (.iconst 0, 1) := by decide +kernel
theorem dX1_takenAhead_14 : decode cX1_takenAhead 14 = .ok (.istore 5, 2) := by decide +kernel
theorem dX1_takenAhead_16 : decode cX1_takenAhead 16 = .ok (.iload 5, 2) := by decide +kernel
theorem dX1_takenAhead_18 : decode cX1_takenAhead 18 = .ok (.iload_n 1, 1) := by decide +kernel
theorem dX1_takenAhead_19 : decode cX1_takenAhead 19 = .ok (.if_icmp .ge 83, 3) := by decide +kernel
theorem dX1_takenAhead_22 : decode cX1_takenAhead 22 = .ok (.aload_n 0, 1) := by decide +kernel
theorem dX1_takenAhead_23 : decode cX1_takenAhead 23 = .ok (.getfield 48, 3) := by decide +kernel
theorem dX1_takenAhead_26 : decode cX1_takenAhead 26 = .ok (.getfield 123, 3) := by decide +kernel
theorem dX1_takenAhead_29 : decode cX1_takenAhead 29 = .ok (.iload 5, 2) := by decide +kernel
theorem dX1_takenAhead_31 : decode cX1_takenAhead 31 = .ok (.aaload, 1) := by decide +kernel
theorem dX1_takenAhead_32 : decode cX1_takenAhead 32 = .ok (.astore 6, 2) := by decide +kernel
theorem dX1_takenAhead_34 : decode cX1_takenAhead 34 = .ok (.aload 6, 2) := by decide +kernel
theorem dX1_takenAhead_36 : decode cX1_takenAhead 36 = .ok (.getfield 148, 3) := by decide +kernel
theorem dX1_takenAhead_39 : decode cX1_takenAhead 39 = .ok (.aload_n 3, 1) := by decide +kernel
theorem dX1_takenAhead_40 : decode cX1_takenAhead 40 = .ok (.getfield 148, 3) := by decide +kernel
theorem dX1_takenAhead_43 : decode cX1_takenAhead 43 = .ok (.if_icmp .ne 17, 3) := by decide +kernel
theorem dX1_takenAhead_46 : decode cX1_takenAhead 46 = .ok (.aload_n 0, 1) := by decide +kernel
theorem dX1_takenAhead_47 : decode cX1_takenAhead 47 = .ok (.aload 6, 2) := by decide +kernel
theorem dX1_takenAhead_49 : decode cX1_takenAhead 49 = .ok (.iload_n 2, 1) := by decide +kernel
theorem dX1_takenAhead_50 : decode cX1_takenAhead 50 = .ok (.invokevirtual 167, 3) := by decide +kernel
theorem dX1_takenAhead_53 : decode cX1_takenAhead 53 = .ok (.ifCond .eq 7, 3) := by decide +kernel
theorem dX1_takenAhead_56 : decode cX1_takenAhead 56 = .ok (.iconst 1, 1) := by decide +kernel
theorem dX1_takenAhead_57 : decode cX1_takenAhead 57 = .ok (.goto 4, 3) := by decide +kernel
theorem dX1_takenAhead_60 : decode cX1_takenAhead 60 = .ok (.iconst 0, 1) := by decide +kernel
theorem dX1_takenAhead_61 : decode cX1_takenAhead 61 = .ok (.istore 7, 2) := by decide +kernel
theorem dX1_takenAhead_63 : decode cX1_takenAhead 63 = .ok (.iload 7, 2) := by decide +kernel
theorem dX1_takenAhead_65 : decode cX1_takenAhead 65 = .ok (.ifCond .eq 31, 3) := by decide +kernel
theorem dX1_takenAhead_68 : decode cX1_takenAhead 68 = .ok (.aload_n 0, 1) := by decide +kernel
theorem dX1_takenAhead_69 : decode cX1_takenAhead 69 = .ok (.aload_n 3, 1) := by decide +kernel
theorem dX1_takenAhead_70 : decode cX1_takenAhead 70 = .ok (.iload_n 2, 1) := by decide +kernel
theorem dX1_takenAhead_71 : decode cX1_takenAhead 71 = .ok (.invokevirtual 160, 3) := by decide +kernel
theorem dX1_takenAhead_74 : decode cX1_takenAhead 74 = .ok (.aload_n 0, 1) := by decide +kernel
theorem dX1_takenAhead_75 : decode cX1_takenAhead 75 = .ok (.aload 6, 2) := by decide +kernel
theorem dX1_takenAhead_77 : decode cX1_takenAhead 77 = .ok (.iload_n 2, 1) := by decide +kernel
theorem dX1_takenAhead_78 : decode cX1_takenAhead 78 = .ok (.invokevirtual 164, 3) := by decide +kernel
theorem dX1_takenAhead_81 : decode cX1_takenAhead 81 = .ok (.if_icmp .gt 15, 3) := by decide +kernel
theorem dX1_takenAhead_84 : decode cX1_takenAhead 84 = .ok (.iload 4, 2) := by decide +kernel
theorem dX1_takenAhead_86 : decode cX1_takenAhead 86 = .ok (.iconst 1, 1) := by decide +kernel
theorem dX1_takenAhead_87 : decode cX1_takenAhead 87 = .ok (.aload 6, 2) := by decide +kernel
theorem dX1_takenAhead_89 : decode cX1_takenAhead 89 = .ok (.getfield 187, 3) := by decide +kernel
theorem dX1_takenAhead_92 : decode cX1_takenAhead 92 = .ok (.ishl, 1) := by decide +kernel
theorem dX1_takenAhead_93 : decode cX1_takenAhead 93 = .ok (.ior, 1) := by decide +kernel
theorem dX1_takenAhead_94 : decode cX1_takenAhead 94 = .ok (.istore 4, 2) := by decide +kernel
theorem dX1_takenAhead_96 : decode cX1_takenAhead 96 = .ok (.iinc 5 1, 3) := by decide +kernel
theorem dX1_takenAhead_99 : decode cX1_takenAhead 99 = .ok (.goto (-83), 3) := by decide +kernel
theorem dX1_takenAhead_102 : decode cX1_takenAhead 102 = .ok (.iload 4, 2) := by decide +kernel
theorem dX1_takenAhead_104 : decode cX1_takenAhead 104 = .ok (.ireturn, 1) := by decide +kernel
theorem dX1_leastFree_0 : decode cX1_leastFree 0 = .ok (.iconst 0, 1) := by decide +kernel
theorem dX1_leastFree_1 : decode cX1_leastFree 1 = .ok (.istore_n 1, 1) := by decide +kernel
theorem dX1_leastFree_2 : decode cX1_leastFree 2 = .ok (.iload_n 1, 1) := by decide +kernel
theorem dX1_leastFree_3 : decode cX1_leastFree 3 = .ok (.bipush 24, 2) := by decide +kernel
theorem dX1_leastFree_5 : decode cX1_leastFree 5 = .ok (.if_icmp .ge 17, 3) := by decide +kernel
theorem dX1_leastFree_8 : decode cX1_leastFree 8 = .ok (.iload_n 0, 1) := by decide +kernel
theorem dX1_leastFree_9 : decode cX1_leastFree 9 = .ok (.iload_n 1, 1) := by decide +kernel
theorem dX1_leastFree_10 : decode cX1_leastFree 10 = .ok (.ishr, 1) := by decide +kernel
theorem dX1_leastFree_11 : decode cX1_leastFree 11 = .ok (.iconst 1, 1) := by decide +kernel
theorem dX1_leastFree_12 : decode cX1_leastFree 12 = .ok (.iand, 1) := by decide +kernel
theorem dX1_leastFree_13 : decode cX1_leastFree 13 = .ok (.ifCond .eq 9, 3) := by decide +kernel
theorem dX1_leastFree_16 : decode cX1_leastFree 16 = .ok (.iinc 1 1, 3) := by decide +kernel
theorem dX1_leastFree_19 : decode cX1_leastFree 19 = .ok (.goto (-17), 3) := by decide +kernel
theorem dX1_leastFree_22 : decode cX1_leastFree 22 = .ok (.iload_n 1, 1) := by decide +kernel
theorem dX1_leastFree_23 : decode cX1_leastFree 23 = .ok (.ireturn, 1) := by decide +kernel
theorem dX2_init_0 : decode cX2_init 0 = .ok (.aload_n 0, 1) := by decide +kernel
theorem dX2_init_1 : decode cX2_init 1 = .ok (.invokespecial 3, 3) := by decide +kernel
theorem dX2_init_4 : decode cX2_init 4 = .ok (.aload_n 0, 1) := by decide +kernel
theorem dX2_init_5 : decode cX2_init 5 = .ok (.bipush 24, 2) := by decide +kernel
theorem dX2_init_7 : decode cX2_init 7 = .ok (.anewarray 9, 3) := by decide +kernel
theorem dX2_init_10 : decode cX2_init 10 = .ok (.putfield 11, 3) := by decide +kernel
theorem dX2_init_13 : decode cX2_init 13 = .ok (.aload_n 0, 1) := by decide +kernel
theorem dX2_init_14 : decode cX2_init 14 = .ok (.bipush 24, 2) := by decide +kernel
theorem dX2_init_16 : decode cX2_init 16 = .ok (.newarray .int, 2) := by decide +kernel
theorem dX2_init_18 : decode cX2_init 18 = .ok (.putfield 17, 3) := by decide +kernel
theorem dX2_init_21 : decode cX2_init 21 = .ok (.aload_n 0, 1) := by decide +kernel
theorem dX2_init_22 : decode cX2_init 22 = .ok (.bipush 24, 2) := by decide +kernel
theorem dX2_init_24 : decode cX2_init 24 = .ok (.newarray .int, 2) := by decide +kernel
theorem dX2_init_26 : decode cX2_init 26 = .ok (.putfield 21, 3) := by decide +kernel
theorem dX2_init_29 : decode cX2_init 29 = .ok (.aload_n 0, 1) := by decide +kernel
theorem dX2_init_30 : decode cX2_init 30 = .ok (.bipush 24, 2) := by decide +kernel
theorem dX2_init_32 : decode cX2_init 32 = .ok (.newarray .int, 2) := by decide +kernel
theorem dX2_init_34 : decode cX2_init 34 = .ok (.putfield 24, 3) := by decide +kernel
theorem dX2_init_37 : decode cX2_init 37 = .ok (.aload_n 0, 1) := by decide +kernel
theorem dX2_init_38 : decode cX2_init 38 = .ok (.bipush 24, 2) := by decide +kernel
theorem dX2_init_40 : decode cX2_init 40 = .ok (.newarray .int, 2) := by decide +kernel
theorem dX2_init_42 : decode cX2_init 42 = .ok (.putfield 27, 3) := by decide +kernel
theorem dX2_init_45 : decode cX2_init 45 = .ok (.aload_n 0, 1) := by decide +kernel
theorem dX2_init_46 : decode cX2_init 46 = .ok (.bipush 24, 2) := by decide +kernel
theorem dX2_init_48 : decode cX2_init 48 = .ok (.newarray .int, 2) := by decide +kernel
theorem dX2_init_50 : decode cX2_init 50 = .ok (.putfield 30, 3) := by decide +kernel
theorem dX2_init_53 : decode cX2_init 53 = .ok (.aload_n 0, 1) := by decide +kernel
theorem dX2_init_54 : decode cX2_init 54 = .ok (.aload_n 1, 1) := by decide +kernel
theorem dX2_init_55 : decode cX2_init 55 = .ok (.putfield 33, 3) := by decide +kernel
theorem dX2_init_58 : decode cX2_init 58 = .ok (.aload_n 0, 1) := by decide +kernel
theorem dX2_init_59 : decode cX2_init 59 = .ok (.iload_n 2, 1) := by decide +kernel
theorem dX2_init_60 : decode cX2_init 60 = .ok (.putfield 37, 3) := by decide +kernel
theorem dX2_init_63 : decode cX2_init 63 = .ok (.return_, 1) := by decide +kernel
theorem dX2_clear_0 : decode cX2_clear 0 = .ok (.aload_n 0, 1) := by decide +kernel
theorem dX2_clear_1 : decode cX2_clear 1 = .ok (.iconst 0, 1) := by decide +kernel
theorem dX2_clear_2 : decode cX2_clear 2 = .ok (.putfield 41, 3) := by decide +kernel
theorem dX2_clear_5 : decode cX2_clear 5 = .ok (.aload_n 0, 1) := by decide +kernel
theorem dX2_clear_6 : decode cX2_clear 6 = .ok (.aload_n 0, 1) := by decide +kernel
theorem dX2_clear_7 : decode cX2_clear 7 = .ok (.getfield 44, 3) := by decide +kernel
theorem dX2_clear_10 : decode cX2_clear 10 = .ok (.ifCond .le 18, 3) := by decide +kernel
theorem dX2_clear_13 : decode cX2_clear 13 = .ok (.aload_n 0, 1) := by decide +kernel
theorem dX2_clear_14 : decode cX2_clear 14 = .ok (.getfield 44, 3) := by decide +kernel
theorem dX2_clear_17 : decode cX2_clear 17 = .ok (.aload_n 0, 1) := by decide +kernel
theorem dX2_clear_18 : decode cX2_clear 18 = .ok (.getfield 33, 3) := by decide +kernel
theorem dX2_clear_21 : decode cX2_clear 21 = .ok (.getfield 47, 3) := by decide +kernel
theorem dX2_clear_24 : decode cX2_clear 24 = .ok (.iadd, 1) := by decide +kernel
theorem dX2_clear_25 : decode cX2_clear 25 = .ok (.goto 4, 3) := by decide +kernel
theorem dX2_clear_28 : decode cX2_clear 28 = .ok (.iconst 0, 1) := by decide +kernel
theorem dX2_clear_29 : decode cX2_clear 29 = .ok (.putfield 52, 3) := by decide +kernel
theorem dX2_clear_32 : decode cX2_clear 32 = .ok (.return_, 1) := by decide +kernel
theorem dX2_add_0 : decode cX2_add 0 = .ok (.aload_n 0, 1) := by decide +kernel
theorem dX2_add_1 : decode cX2_add 1 = .ok (.getfield 41, 3) := by decide +kernel
theorem dX2_add_4 : decode cX2_add 4 = .ok (.aload_n 0, 1) := by decide +kernel
theorem dX2_add_5 : decode cX2_add 5 = .ok (.getfield 11, 3) := by decide +kernel
theorem dX2_add_8 : decode cX2_add 8 = .ok (.arraylength, 1) := by decide +kernel
theorem dX2_add_9 : decode cX2_add 9 = .ok (.if_icmp .lt 4, 3) := by decide +kernel
theorem dX2_add_12 : decode cX2_add 12 = .ok (.return_, 1) := by decide +kernel
theorem dX2_add_13 : decode cX2_add 13 = .ok (.aload_n 0, 1) := by decide +kernel
theorem dX2_add_14 : decode cX2_add 14 = .ok (.getfield 11, 3) := by decide +kernel
theorem dX2_add_17 : decode cX2_add 17 = .ok (.aload_n 0, 1) := by decide +kernel
theorem dX2_add_18 : decode cX2_add 18 = .ok (.getfield 41, 3) := by decide +kernel
theorem dX2_add_21 : decode cX2_add 21 = .ok (.aload_n 1, 1) := by decide +kernel
theorem dX2_add_22 : decode cX2_add 22 = .ok (.aastore, 1) := by decide +kernel
theorem dX2_add_23 : decode cX2_add 23 = .ok (.aload_n 0, 1) := by decide +kernel
theorem dX2_add_24 : decode cX2_add 24 = .ok (.getfield 17, 3) := by decide +kernel
theorem dX2_add_27 : decode cX2_add 27 = .ok (.aload_n 0, 1) := by decide +kernel
theorem dX2_add_28 : decode cX2_add 28 = .ok (.getfield 41, 3) := by decide +kernel
theorem dX2_add_31 : decode cX2_add 31 = .ok (.aload_n 0, 1) := by decide +kernel
theorem dX2_add_32 : decode cX2_add 32 = .ok (.getfield 52, 3) := by decide +kernel
theorem dX2_add_35 : decode cX2_add 35 = .ok (.iastore, 1) := by decide +kernel
theorem dX2_add_36 : decode cX2_add 36 = .ok (.aload_n 0, 1) := by decide +kernel
theorem dX2_add_37 : decode cX2_add 37 = .ok (.dup, 1) := by decide +kernel
theorem dX2_add_38 : decode cX2_add 38 = .ok (.getfield 52, 3) := by decide +kernel
theorem dX2_add_41 : decode cX2_add 41 = .ok (.aload_n 1, 1) := by decide +kernel
theorem dX2_add_42 : decode cX2_add 42 = .ok (.getfield 55, 3) := by decide +kernel
theorem dX2_add_45 : decode cX2_add 45 = .ok (.aload_n 0, 1) := by decide +kernel
theorem dX2_add_46 : decode cX2_add 46 = .ok (.getfield 33, 3) := by decide +kernel
theorem dX2_add_49 : decode cX2_add 49 = .ok (.getfield 47, 3) := by decide +kernel
theorem dX2_add_52 : decode cX2_add 52 = .ok (.iadd, 1) := by decide +kernel
theorem dX2_add_53 : decode cX2_add 53 = .ok (.iadd, 1) := by decide +kernel
theorem dX2_add_54 : decode cX2_add 54 = .ok (.putfield 52, 3) := by decide +kernel
theorem dX2_add_57 : decode cX2_add 57 = .ok (.aload_n 0, 1) := by decide +kernel
theorem dX2_add_58 : decode cX2_add 58 = .ok (.dup, 1) := by decide +kernel
theorem dX2_add_59 : decode cX2_add 59 = .ok (.getfield 41, 3) := by decide +kernel
theorem dX2_add_62 : decode cX2_add 62 = .ok (.iconst 1, 1) := by decide +kernel
theorem dX2_add_63 : decode cX2_add 63 = .ok (.iadd, 1) := by decide +kernel
theorem dX2_add_64 : decode cX2_add 64 = .ok (.putfield 41, 3) := by decide +kernel
theorem dX2_add_67 : decode cX2_add 67 = .ok (.return_, 1) := by decide +kernel
theorem dX2_fits_0 : decode cX2_fits 0 = .ok (.aload_n 0, 1) := by decide +kernel
theorem dX2_fits_1 : decode cX2_fits 1 = .ok (.getfield 41, 3) := by decide +kernel
theorem dX2_fits_4 : decode cX2_fits 4 = .ok (.ifCond .ne 5, 3) := by decide +kernel
theorem dX2_fits_7 : decode cX2_fits 7 = .ok (.iconst 1, 1) := by decide +kernel
theorem dX2_fits_8 : decode cX2_fits 8 = .ok (.ireturn, 1) := by decide +kernel
theorem dX2_fits_9 : decode cX2_fits 9 = .ok (.iconst 0, 1) := by decide +kernel
theorem dX2_fits_10 : decode cX2_fits 10 = .ok (.istore_n 1, 1) := by decide +kernel
theorem dX2_fits_11 : decode cX2_fits 11 = .ok (.iconst 0, 1) := by decide +kernel
theorem dX2_fits_12 : decode cX2_fits 12 = .ok (.istore_n 2, 1) := by decide +kernel
theorem dX2_fits_13 : decode cX2_fits 13 = .ok (.iload_n 2, 1) := by decide +kernel
theorem dX2_fits_14 : decode cX2_fits 14 = .ok (.aload_n 0, 1) := by decide +kernel
theorem dX2_fits_15 : decode cX2_fits 15 = .ok (.getfield 41, 3) := by decide +kernel
theorem dX2_fits_18 : decode cX2_fits 18 = .ok (.if_icmp .ge 47, 3) := by decide +kernel
theorem dX2_fits_21 : decode cX2_fits 21 = .ok (.aload_n 0, 1) := by decide +kernel
theorem dX2_fits_22 : decode cX2_fits 22 = .ok (.getfield 11, 3) := by decide +kernel
theorem dX2_fits_25 : decode cX2_fits 25 = .ok (.iload_n 2, 1) := by decide +kernel
theorem dX2_fits_26 : decode cX2_fits 26 = .ok (.aaload, 1) := by decide +kernel
theorem dX2_fits_27 : decode cX2_fits 27 = .ok (.invokevirtual 58, 3) := by decide +kernel
theorem dX2_fits_30 : decode cX2_fits 30 = .ok (.ifCond .eq 29, 3) := by decide +kernel
theorem dX2_fits_33 : decode cX2_fits 33 = .ok (.aload_n 0, 1) := by decide +kernel
theorem dX2_fits_34 : decode cX2_fits 34 = .ok (.getfield 11, 3) := by decide +kernel
theorem dX2_fits_37 : decode cX2_fits 37 = .ok (.iload_n 2, 1) := by decide +kernel
theorem dX2_fits_38 : decode cX2_fits 38 = .ok (.aaload, 1) := by decide +kernel
theorem dX2_fits_39 : decode cX2_fits 39 = .ok (.getfield 62, 3) := by decide +kernel
theorem dX2_fits_42 : decode cX2_fits 42 = .ok (.aload_n 0, 1) := by decide +kernel
theorem dX2_fits_43 : decode cX2_fits 43 = .ok (.getfield 17, 3) := by decide +kernel
theorem dX2_fits_46 : decode cX2_fits 46 = .ok (.iload_n 2, 1) := by decide +kernel
theorem dX2_fits_47 : decode cX2_fits 47 = .ok (.iaload, 1) := by decide +kernel
theorem dX2_fits_48 : decode cX2_fits 48 = .ok (.isub, 1) := by decide +kernel
theorem dX2_fits_49 : decode cX2_fits 49 = .ok (.istore_n 3, 1) := by decide +kernel
theorem dX2_fits_50 : decode cX2_fits 50 = .ok (.iload_n 3, 1) := by decide +kernel
theorem dX2_fits_51 : decode cX2_fits 51 = .ok (.iload_n 1, 1) := by decide +kernel
theorem dX2_fits_52 : decode cX2_fits 52 = .ok (.if_icmp .ge 5, 3) := by decide +kernel
theorem dX2_fits_55 : decode cX2_fits 55 = .ok (.iconst 0, 1) := by decide +kernel
theorem dX2_fits_56 : decode cX2_fits 56 = .ok (.ireturn, 1) := by decide +kernel
theorem dX2_fits_57 : decode cX2_fits 57 = .ok (.iload_n 3, 1) := by decide +kernel
theorem dX2_fits_58 : decode cX2_fits 58 = .ok (.istore_n 1, 1) := by decide +kernel
theorem dX2_fits_59 : decode cX2_fits 59 = .ok (.iinc 2 1, 3) := by decide +kernel
theorem dX2_fits_62 : decode cX2_fits 62 = .ok (.goto (-49), 3) := by decide +kernel
theorem dX2_fits_65 : decode cX2_fits 65 = .ok (.aload_n 0, 1) := by decide +kernel
theorem dX2_fits_66 : decode cX2_fits 66 = .ok (.getfield 33, 3) := by decide +kernel
theorem dX2_fits_69 : decode cX2_fits 69 = .ok (.getfield 65, 3) := by decide +kernel
theorem dX2_fits_72 : decode cX2_fits 72 = .ok (.aload_n 0, 1) := by decide +kernel
theorem dX2_fits_73 : decode cX2_fits 73 = .ok (.getfield 17, 3) := by decide +kernel
theorem dX2_fits_76 : decode cX2_fits 76 = .ok (.aload_n 0, 1) := by decide +kernel
theorem dX2_fits_77 : decode cX2_fits 77 = .ok (.getfield 41, 3) := by decide +kernel
theorem dX2_fits_80 : decode cX2_fits 80 = .ok (.iconst 1, 1) := by decide +kernel
theorem dX2_fits_81 : decode cX2_fits 81 = .ok (.isub, 1) := by decide +kernel
theorem dX2_fits_82 : decode cX2_fits 82 = .ok (.iaload, 1) := by decide +kernel
theorem dX2_fits_83 : decode cX2_fits 83 = .ok (.isub, 1) := by decide +kernel
theorem dX2_fits_84 : decode cX2_fits 84 = .ok (.iload_n 1, 1) := by decide +kernel
theorem dX2_fits_85 : decode cX2_fits 85 = .ok (.isub, 1) := by decide +kernel
theorem dX2_fits_86 : decode cX2_fits 86 = .ok (.istore_n 2, 1) := by decide +kernel
theorem dX2_fits_87 : decode cX2_fits 87 = .ok (.aload_n 0, 1) := by decide +kernel
theorem dX2_fits_88 : decode cX2_fits 88 = .ok (.getfield 11, 3) := by decide +kernel
theorem dX2_fits_91 : decode cX2_fits 91 = .ok (.aload_n 0, 1) := by decide +kernel
theorem dX2_fits_92 : decode cX2_fits 92 = .ok (.getfield 41, 3) := by decide +kernel
theorem dX2_fits_95 : decode cX2_fits 95 = .ok (.iconst 1, 1) := by decide +kernel
theorem dX2_fits_96 : decode cX2_fits 96 = .ok (.isub, 1) := by decide +kernel
theorem dX2_fits_97 : decode cX2_fits 97 = .ok (.aaload, 1) := by decide +kernel
theorem dX2_fits_98 : decode cX2_fits 98 = .ok (.getfield 55, 3) := by decide +kernel
theorem dX2_fits_101 : decode cX2_fits 101 = .ok (.iload_n 2, 1) := by decide +kernel
theorem dX2_fits_102 : decode cX2_fits 102 = .ok (.if_icmp .le 22, 3) := by decide +kernel
theorem dX2_fits_105 : decode cX2_fits 105 = .ok (.aload_n 0, 1) := by decide +kernel
theorem dX2_fits_106 : decode cX2_fits 106 = .ok (.aload_n 0, 1) := by decide +kernel
theorem dX2_fits_107 : decode cX2_fits 107 = .ok (.getfield 11, 3) := by decide +kernel
theorem dX2_fits_110 : decode cX2_fits 110 = .ok (.aload_n 0, 1) := by decide +kernel
theorem dX2_fits_111 : decode cX2_fits 111 = .ok (.getfield 41, 3) := by decide +kernel
theorem dX2_fits_114 : decode cX2_fits 114 = .ok (.iconst 1, 1) := by decide +kernel
theorem dX2_fits_115 : decode cX2_fits 115 = .ok (.isub, 1) := by decide +kernel
theorem dX2_fits_116 : decode cX2_fits 116 = .ok (.aaload, 1) := by decide +kernel
theorem dX2_fits_117 : decode cX2_fits 117 = .ok (.iload_n 2, 1) := by decide +kernel
theorem dX2_fits_118 : decode cX2_fits 118 = .ok (.invokevirtual 68, 3) := by decide +kernel
theorem dX2_fits_121 : decode cX2_fits 121 = .ok (.ifCond .eq 7, 3) := by decide +kernel
theorem dX2_fits_124 : decode cX2_fits 124 = .ok (.iconst 1, 1) := by decide +kernel
theorem dX2_fits_125 : decode cX2_fits 125 = .ok (.goto 4, 3) := by decide +kernel
theorem dX2_fits_128 : decode cX2_fits 128 = .ok (.iconst 0, 1) := by decide +kernel
theorem dX2_fits_129 : decode cX2_fits 129 = .ok (.ireturn, 1) := by decide +kernel
theorem dX2_fitsCut_0 : decode cX2_fitsCut 0 = .ok (.iconst 0, 1) := by decide +kernel
theorem dX2_fitsCut_1 : decode cX2_fitsCut 1 = .ok (.istore_n 3, 1) := by decide +kernel
theorem dX2_fitsCut_2 : decode cX2_fitsCut 2 = .ok (.iload_n 3, 1) := by decide +kernel
theorem dX2_fitsCut_3 : decode cX2_fitsCut 3 = .ok (.aload_n 1, 1) := by decide +kernel
theorem dX2_fitsCut_4 : decode cX2_fitsCut 4 = .ok (.getfield 72, 3) := by decide +kernel
theorem dX2_fitsCut_7 : decode cX2_fitsCut 7 = .ok (.if_icmp .ge 41, 3) := by decide +kernel
theorem dX2_fitsCut_10 : decode cX2_fitsCut 10 = .ok (.aload_n 1, 1) := by decide +kernel
theorem dX2_fitsCut_11 : decode cX2_fitsCut 11 = .ok (.getfield 75, 3) := by decide +kernel
theorem dX2_fitsCut_14 : decode cX2_fitsCut 14 = .ok (.iload_n 3, 1) := by decide +kernel
theorem dX2_fitsCut_15 : decode cX2_fitsCut 15 = .ok (.iaload, 1) := by decide +kernel
theorem dX2_fitsCut_16 : decode cX2_fitsCut 16 = .ok (.iload_n 2, 1) := by decide +kernel
theorem dX2_fitsCut_17 : decode cX2_fitsCut 17 = .ok (.if_icmp .gt 25, 3) := by decide +kernel
theorem dX2_fitsCut_20 : decode cX2_fitsCut 20 = .ok (.aload_n 1, 1) := by decide +kernel
theorem dX2_fitsCut_21 : decode cX2_fitsCut 21 = .ok (.aload_n 0, 1) := by decide +kernel
theorem dX2_fitsCut_22 : decode cX2_fitsCut 22 = .ok (.getfield 33, 3) := by decide +kernel
theorem dX2_fitsCut_25 : decode cX2_fitsCut 25 = .ok (.getfield 65, 3) := by decide +kernel
theorem dX2_fitsCut_28 : decode cX2_fitsCut 28 = .ok (.aload_n 1, 1) := by decide +kernel
theorem dX2_fitsCut_29 : decode cX2_fitsCut 29 = .ok (.getfield 75, 3) := by decide +kernel
theorem dX2_fitsCut_32 : decode cX2_fitsCut 32 = .ok (.iload_n 3, 1) := by decide +kernel
theorem dX2_fitsCut_33 : decode cX2_fitsCut 33 = .ok (.iaload, 1) := by decide +kernel
theorem dX2_fitsCut_34 : decode cX2_fitsCut 34 = .ok (.invokevirtual 78, 3) := by decide +kernel
theorem dX2_fitsCut_37 : decode cX2_fitsCut 37 = .ok (.ifCond .eq 5, 3) := by decide +kernel
theorem dX2_fitsCut_40 : decode cX2_fitsCut 40 = .ok (.iconst 1, 1) := by decide +kernel
theorem dX2_fitsCut_41 : decode cX2_fitsCut 41 = .ok (.ireturn, 1) := by decide +kernel
theorem dX2_fitsCut_42 : decode cX2_fitsCut 42 = .ok (.iinc 3 1, 3) := by decide +kernel
theorem dX2_fitsCut_45 : decode cX2_fitsCut 45 = .ok (.goto (-43), 3) := by decide +kernel
theorem dX2_fitsCut_48 : decode cX2_fitsCut 48 = .ok (.iconst 0, 1) := by decide +kernel
theorem dX2_fitsCut_49 : decode cX2_fitsCut 49 = .ok (.ireturn, 1) := by decide +kernel
theorem dX2_choose_0 : decode cX2_choose 0 = .ok (.aload_n 0, 1) := by decide +kernel
theorem dX2_choose_1 : decode cX2_choose 1 = .ok (.iconst 0, 1) := by decide +kernel
theorem dX2_choose_2 : decode cX2_choose 2 = .ok (.putfield 82, 3) := by decide +kernel
theorem dX2_choose_5 : decode cX2_choose 5 = .ok (.aload_n 0, 1) := by decide +kernel
theorem dX2_choose_6 : decode cX2_choose 6 = .ok (.getfield 41, 3) := by decide +kernel
theorem dX2_choose_9 : decode cX2_choose 9 = .ok (.ifCond .ne 5, 3) := by decide +kernel
theorem dX2_choose_12 : decode cX2_choose 12 = .ok (.iconst 0, 1) := by decide +kernel
theorem dX2_choose_13 : decode cX2_choose 13 = .ok (.ireturn, 1) := by decide +kernel
theorem dX2_choose_14 : decode cX2_choose 14 = .ok (.aload_n 0, 1) := by decide +kernel
theorem dX2_choose_15 : decode cX2_choose 15 = .ok (.getfield 11, 3) := by decide +kernel
theorem dX2_choose_18 : decode cX2_choose 18 = .ok (.aload_n 0, 1) := by decide +kernel
theorem dX2_choose_19 : decode cX2_choose 19 = .ok (.getfield 41, 3) := by decide +kernel
theorem dX2_choose_22 : decode cX2_choose 22 = .ok (.iconst 1, 1) := by decide +kernel
theorem dX2_choose_23 : decode cX2_choose 23 = .ok (.isub, 1) := by decide +kernel
theorem dX2_choose_24 : decode cX2_choose 24 = .ok (.aaload, 1) := by decide +kernel
theorem dX2_choose_25 : decode cX2_choose 25 = .ok (.astore_n 2, 1) := by decide +kernel
theorem dX2_choose_26 : decode cX2_choose 26 = .ok (.aload_n 0, 1) := by decide +kernel
theorem dX2_choose_27 : decode cX2_choose 27 = .ok (.aload_n 2, 1) := by decide +kernel
theorem dX2_choose_28 : decode cX2_choose 28 = .ok (.getfield 55, 3) := by decide +kernel
theorem dX2_choose_31 : decode cX2_choose 31 = .ok (.iload_n 1, 1) := by decide +kernel
theorem dX2_choose_32 : decode cX2_choose 32 = .ok (.invokevirtual 85, 3) := by decide +kernel
theorem dX2_choose_35 : decode cX2_choose 35 = .ok (.istore_n 3, 1) := by decide +kernel
theorem dX2_choose_36 : decode cX2_choose 36 = .ok (.iconst 0, 1) := by decide +kernel
theorem dX2_choose_37 : decode cX2_choose 37 = .ok (.istore 4, 2) := by decide +kernel
theorem dX2_choose_39 : decode cX2_choose 39 = .ok (.iload 4, 2) := by decide +kernel
theorem dX2_choose_41 : decode cX2_choose 41 = .ok (.aload_n 2, 1) := by decide +kernel
theorem dX2_choose_42 : decode cX2_choose 42 = .ok (.getfield 72, 3) := by decide +kernel
theorem dX2_choose_45 : decode cX2_choose 45 = .ok (.if_icmp .ge 85, 3) := by decide +kernel
theorem dX2_choose_48 : decode cX2_choose 48 = .ok (.aload_n 2, 1) := by decide +kernel
theorem dX2_choose_49 : decode cX2_choose 49 = .ok (.getfield 75, 3) := by decide +kernel
theorem dX2_choose_52 : decode cX2_choose 52 = .ok (.iload 4, 2) := by decide +kernel
theorem dX2_choose_54 : decode cX2_choose 54 = .ok (.iaload, 1) := by decide +kernel
theorem dX2_choose_55 : decode cX2_choose 55 = .ok (.istore 5, 2) := by decide +kernel
theorem dX2_choose_57 : decode cX2_choose 57 = .ok (.iload_n 3, 1) := by decide +kernel
theorem dX2_choose_58 : decode cX2_choose 58 = .ok (.aload_n 0, 1) := by decide +kernel
theorem dX2_choose_59 : decode cX2_choose 59 = .ok (.getfield 33, 3) := by decide +kernel
theorem dX2_choose_62 : decode cX2_choose 62 = .ok (.getfield 89, 3) := by decide +kernel
theorem dX2_choose_65 : decode cX2_choose 65 = .ok (.if_icmp .le 59, 3) := by decide +kernel
theorem dX2_choose_68 : decode cX2_choose 68 = .ok (.aload_n 2, 1) := by decide +kernel
theorem dX2_choose_69 : decode cX2_choose 69 = .ok (.aload_n 0, 1) := by decide +kernel
theorem dX2_choose_70 : decode cX2_choose 70 = .ok (.getfield 33, 3) := by decide +kernel
theorem dX2_choose_73 : decode cX2_choose 73 = .ok (.getfield 65, 3) := by decide +kernel
theorem dX2_choose_76 : decode cX2_choose 76 = .ok (.iload 5, 2) := by decide +kernel
theorem dX2_choose_78 : decode cX2_choose 78 = .ok (.invokevirtual 78, 3) := by decide +kernel
theorem dX2_choose_81 : decode cX2_choose 81 = .ok (.ifCond .eq 43, 3) := by decide +kernel
theorem dX2_choose_84 : decode cX2_choose 84 = .ok (.aload_n 0, 1) := by decide +kernel
theorem dX2_choose_85 : decode cX2_choose 85 = .ok (.getfield 33, 3) := by decide +kernel
theorem dX2_choose_88 : decode cX2_choose 88 = .ok (.getfield 89, 3) := by decide +kernel
theorem dX2_choose_91 : decode cX2_choose 91 = .ok (.aload_n 0, 1) := by decide +kernel
theorem dX2_choose_92 : decode cX2_choose 92 = .ok (.iload 5, 2) := by decide +kernel
theorem dX2_choose_94 : decode cX2_choose 94 = .ok (.iload_n 3, 1) := by decide +kernel
theorem dX2_choose_95 : decode cX2_choose 95 = .ok (.aload_n 0, 1) := by decide +kernel
theorem dX2_choose_96 : decode cX2_choose 96 = .ok (.getfield 33, 3) := by decide +kernel
theorem dX2_choose_99 : decode cX2_choose 99 = .ok (.getfield 89, 3) := by decide +kernel
theorem dX2_choose_102 : decode cX2_choose 102 = .ok (.isub, 1) := by decide +kernel
theorem dX2_choose_103 : decode cX2_choose 103 = .ok (.invokevirtual 85, 3) := by decide +kernel
theorem dX2_choose_106 : decode cX2_choose 106 = .ok (.iadd, 1) := by decide +kernel
theorem dX2_choose_107 : decode cX2_choose 107 = .ok (.istore 6, 2) := by decide +kernel
theorem dX2_choose_109 : decode cX2_choose 109 = .ok (.iload 6, 2) := by decide +kernel
theorem dX2_choose_111 : decode cX2_choose 111 = .ok (.iload_n 3, 1) := by decide +kernel
theorem dX2_choose_112 : decode cX2_choose 112 = .ok (.if_icmp .ge 12, 3) := by decide +kernel
theorem dX2_choose_115 : decode cX2_choose 115 = .ok (.iload 6, 2) := by decide +kernel
theorem dX2_choose_117 : decode cX2_choose 117 = .ok (.istore_n 3, 1) := by decide +kernel
theorem dX2_choose_118 : decode cX2_choose 118 = .ok (.aload_n 0, 1) := by decide +kernel
theorem dX2_choose_119 : decode cX2_choose 119 = .ok (.iload 5, 2) := by decide +kernel
theorem dX2_choose_121 : decode cX2_choose 121 = .ok (.putfield 82, 3) := by decide +kernel
theorem dX2_choose_124 : decode cX2_choose 124 = .ok (.iinc 4 1, 3) := by decide +kernel
theorem dX2_choose_127 : decode cX2_choose 127 = .ok (.goto (-88), 3) := by decide +kernel
theorem dX2_choose_130 : decode cX2_choose 130 = .ok (.iload_n 3, 1) := by decide +kernel
theorem dX2_choose_131 : decode cX2_choose 131 = .ok (.ireturn, 1) := by decide +kernel
theorem dX2_stand_0 : decode cX2_stand 0 = .ok (.aload_n 0, 1) := by decide +kernel
theorem dX2_stand_1 : decode cX2_stand 1 = .ok (.iconst 0, 1) := by decide +kernel
theorem dX2_stand_2 : decode cX2_stand 2 = .ok (.putfield 44, 3) := by decide +kernel
theorem dX2_stand_5 : decode cX2_stand 5 = .ok (.aload_n 0, 1) := by decide +kernel
theorem dX2_stand_6 : decode cX2_stand 6 = .ok (.getfield 41, 3) := by decide +kernel
theorem dX2_stand_9 : decode cX2_stand 9 = .ok (.ifCond .ne 4, 3) := by decide +kernel
theorem dX2_stand_12 : decode cX2_stand 12 = .ok (.return_, 1) := by decide +kernel
theorem dX2_stand_13 : decode cX2_stand 13 = .ok (.aload_n 0, 1) := by decide +kernel
theorem dX2_stand_14 : decode cX2_stand 14 = .ok (.getfield 11, 3) := by decide +kernel
theorem dX2_stand_17 : decode cX2_stand 17 = .ok (.aload_n 0, 1) := by decide +kernel
theorem dX2_stand_18 : decode cX2_stand 18 = .ok (.getfield 41, 3) := by decide +kernel
theorem dX2_stand_21 : decode cX2_stand 21 = .ok (.iconst 1, 1) := by decide +kernel
theorem dX2_stand_22 : decode cX2_stand 22 = .ok (.isub, 1) := by decide +kernel
theorem dX2_stand_23 : decode cX2_stand 23 = .ok (.aaload, 1) := by decide +kernel
theorem dX2_stand_24 : decode cX2_stand 24 = .ok (.astore_n 2, 1) := by decide +kernel
theorem dX2_stand_25 : decode cX2_stand 25 = .ok (.aload_n 0, 1) := by decide +kernel
theorem dX2_stand_26 : decode cX2_stand 26 = .ok (.iload_n 1, 1) := by decide +kernel
theorem dX2_stand_27 : decode cX2_stand 27 = .ok (.ifCond .le 7, 3) := by decide +kernel
theorem dX2_stand_30 : decode cX2_stand 30 = .ok (.iload_n 1, 1) := by decide +kernel
theorem dX2_stand_31 : decode cX2_stand 31 = .ok (.goto 7, 3) := by decide +kernel
theorem dX2_stand_34 : decode cX2_stand 34 = .ok (.aload_n 2, 1) := by decide +kernel
theorem dX2_stand_35 : decode cX2_stand 35 = .ok (.getfield 55, 3) := by decide +kernel
theorem dX2_stand_38 : decode cX2_stand 38 = .ok (.ldc 92, 2) := by decide +kernel
theorem dX2_stand_40 : decode cX2_stand 40 = .ok (.invokevirtual 85, 3) := by decide +kernel
theorem dX2_stand_43 : decode cX2_stand 43 = .ok (.pop, 1) := by decide +kernel
theorem dX2_stand_44 : decode cX2_stand 44 = .ok (.aload_n 0, 1) := by decide +kernel
theorem dX2_stand_45 : decode cX2_stand 45 = .ok (.getfield 24, 3) := by decide +kernel
theorem dX2_stand_48 : decode cX2_stand 48 = .ok (.aload_n 0, 1) := by decide +kernel
theorem dX2_stand_49 : decode cX2_stand 49 = .ok (.getfield 41, 3) := by decide +kernel
theorem dX2_stand_52 : decode cX2_stand 52 = .ok (.iconst 1, 1) := by decide +kernel
theorem dX2_stand_53 : decode cX2_stand 53 = .ok (.isub, 1) := by decide +kernel
theorem dX2_stand_54 : decode cX2_stand 54 = .ok (.iaload, 1) := by decide +kernel
theorem dX2_stand_55 : decode cX2_stand 55 = .ok (.istore_n 3, 1) := by decide +kernel
theorem dX2_stand_56 : decode cX2_stand 56 = .ok (.aload_n 0, 1) := by decide +kernel
theorem dX2_stand_57 : decode cX2_stand 57 = .ok (.getfield 41, 3) := by decide +kernel
theorem dX2_stand_60 : decode cX2_stand 60 = .ok (.iconst 1, 1) := by decide +kernel
theorem dX2_stand_61 : decode cX2_stand 61 = .ok (.isub, 1) := by decide +kernel
theorem dX2_stand_62 : decode cX2_stand 62 = .ok (.istore 4, 2) := by decide +kernel
theorem dX2_stand_64 : decode cX2_stand 64 = .ok (.iload 4, 2) := by decide +kernel
theorem dX2_stand_66 : decode cX2_stand 66 = .ok (.ifCond .lt 65, 3) := by decide +kernel
theorem dX2_stand_69 : decode cX2_stand 69 = .ok (.iload_n 3, 1) := by decide +kernel
theorem dX2_stand_70 : decode cX2_stand 70 = .ok (.aload_n 0, 1) := by decide +kernel
theorem dX2_stand_71 : decode cX2_stand 71 = .ok (.getfield 24, 3) := by decide +kernel
theorem dX2_stand_74 : decode cX2_stand 74 = .ok (.iload 4, 2) := by decide +kernel
theorem dX2_stand_76 : decode cX2_stand 76 = .ok (.iaload, 1) := by decide +kernel
theorem dX2_stand_77 : decode cX2_stand 77 = .ok (.invokestatic 93, 3) := by decide +kernel
theorem dX2_stand_80 : decode cX2_stand 80 = .ok (.istore_n 3, 1) := by decide +kernel
theorem dX2_stand_81 : decode cX2_stand 81 = .ok (.aload_n 0, 1) := by decide +kernel
theorem dX2_stand_82 : decode cX2_stand 82 = .ok (.getfield 11, 3) := by decide +kernel
theorem dX2_stand_85 : decode cX2_stand 85 = .ok (.iload 4, 2) := by decide +kernel
theorem dX2_stand_87 : decode cX2_stand 87 = .ok (.aaload, 1) := by decide +kernel
theorem dX2_stand_88 : decode cX2_stand 88 = .ok (.aload_n 0, 1) := by decide +kernel
theorem dX2_stand_89 : decode cX2_stand 89 = .ok (.getfield 37, 3) := by decide +kernel
theorem dX2_stand_92 : decode cX2_stand 92 = .ok (.putfield 98, 3) := by decide +kernel
theorem dX2_stand_95 : decode cX2_stand 95 = .ok (.aload_n 0, 1) := by decide +kernel
theorem dX2_stand_96 : decode cX2_stand 96 = .ok (.getfield 11, 3) := by decide +kernel
theorem dX2_stand_99 : decode cX2_stand 99 = .ok (.iload 4, 2) := by decide +kernel
theorem dX2_stand_101 : decode cX2_stand 101 = .ok (.aaload, 1) := by decide +kernel
theorem dX2_stand_102 : decode cX2_stand 102 = .ok (.iload_n 3, 1) := by decide +kernel
theorem dX2_stand_103 : decode cX2_stand 103 = .ok (.aload_n 0, 1) := by decide +kernel
theorem dX2_stand_104 : decode cX2_stand 104 = .ok (.getfield 17, 3) := by decide +kernel
theorem dX2_stand_107 : decode cX2_stand 107 = .ok (.iload 4, 2) := by decide +kernel
theorem dX2_stand_109 : decode cX2_stand 109 = .ok (.iaload, 1) := by decide +kernel
theorem dX2_stand_110 : decode cX2_stand 110 = .ok (.iadd, 1) := by decide +kernel
theorem dX2_stand_111 : decode cX2_stand 111 = .ok (.putfield 101, 3) := by decide +kernel
theorem dX2_stand_114 : decode cX2_stand 114 = .ok (.aload_n 0, 1) := by decide +kernel
theorem dX2_stand_115 : decode cX2_stand 115 = .ok (.getfield 11, 3) := by decide +kernel
theorem dX2_stand_118 : decode cX2_stand 118 = .ok (.iload 4, 2) := by decide +kernel
theorem dX2_stand_120 : decode cX2_stand 120 = .ok (.aaload, 1) := by decide +kernel
theorem dX2_stand_121 : decode cX2_stand 121 = .ok (.iconst 0, 1) := by decide +kernel
theorem dX2_stand_122 : decode cX2_stand 122 = .ok (.putfield 104, 3) := by decide +kernel
theorem dX2_stand_125 : decode cX2_stand 125 = .ok (.iinc 4 (-1), 3) := by decide +kernel
theorem dX2_stand_128 : decode cX2_stand 128 = .ok (.goto (-64), 3) := by decide +kernel
theorem dX2_stand_131 : decode cX2_stand 131 = .ok (.iload_n 1, 1) := by decide +kernel
theorem dX2_stand_132 : decode cX2_stand 132 = .ok (.ifCond .le 21, 3) := by decide +kernel
theorem dX2_stand_135 : decode cX2_stand 135 = .ok (.aload_n 2, 1) := by decide +kernel
theorem dX2_stand_136 : decode cX2_stand 136 = .ok (.aload_n 2, 1) := by decide +kernel
theorem dX2_stand_137 : decode cX2_stand 137 = .ok (.getfield 107, 3) := by decide +kernel
theorem dX2_stand_140 : decode cX2_stand 140 = .ok (.iload_n 1, 1) := by decide +kernel
theorem dX2_stand_141 : decode cX2_stand 141 = .ok (.isub, 1) := by decide +kernel
theorem dX2_stand_142 : decode cX2_stand 142 = .ok (.putfield 104, 3) := by decide +kernel
theorem dX2_stand_145 : decode cX2_stand 145 = .ok (.aload_n 0, 1) := by decide +kernel
theorem dX2_stand_146 : decode cX2_stand 146 = .ok (.aload_n 2, 1) := by decide +kernel
theorem dX2_stand_147 : decode cX2_stand 147 = .ok (.getfield 104, 3) := by decide +kernel
theorem dX2_stand_150 : decode cX2_stand 150 = .ok (.putfield 44, 3) := by decide +kernel
theorem dX2_stand_153 : decode cX2_stand 153 = .ok (.return_, 1) := by decide +kernel
theorem dX2_leastCost_0 : decode cX2_leastCost 0 = .ok (.aload_n 0, 1) := by decide +kernel
theorem dX2_leastCost_1 : decode cX2_leastCost 1 = .ok (.iload_n 1, 1) := by decide +kernel
theorem dX2_leastCost_2 : decode cX2_leastCost 2 = .ok (.invokevirtual 108, 3) := by decide +kernel
theorem dX2_leastCost_5 : decode cX2_leastCost 5 = .ok (.ifCond .ne 5, 3) := by decide +kernel
theorem dX2_leastCost_8 : decode cX2_leastCost 8 = .ok (.iload_n 2, 1) := by decide +kernel
theorem dX2_leastCost_9 : decode cX2_leastCost 9 = .ok (.ireturn, 1) := by decide +kernel
theorem dX2_leastCost_10 : decode cX2_leastCost 10 = .ok (.iconst 0, 1) := by decide +kernel
theorem dX2_leastCost_11 : decode cX2_leastCost 11 = .ok (.istore_n 3, 1) := by decide +kernel
theorem dX2_leastCost_12 : decode cX2_leastCost 12 = .ok (.iconst 0, 1) := by decide +kernel
theorem dX2_leastCost_13 : decode cX2_leastCost 13 = .ok (.istore 4, 2) := by decide +kernel
theorem dX2_leastCost_15 : decode cX2_leastCost 15 = .ok (.aload_n 0, 1) := by decide +kernel
theorem dX2_leastCost_16 : decode cX2_leastCost 16 = .ok (.iconst 0, 1) := by decide +kernel
theorem dX2_leastCost_17 : decode cX2_leastCost 17 = .ok (.putfield 112, 3) := by decide +kernel
theorem dX2_leastCost_20 : decode cX2_leastCost 20 = .ok (.iconst 0, 1) := by decide +kernel
theorem dX2_leastCost_21 : decode cX2_leastCost 21 = .ok (.istore 5, 2) := by decide +kernel
theorem dX2_leastCost_23 : decode cX2_leastCost 23 = .ok (.iload 5, 2) := by decide +kernel
theorem dX2_leastCost_25 : decode cX2_leastCost 25 = .ok (.aload_n 0, 1) := by decide +kernel
theorem dX2_leastCost_26 : decode cX2_leastCost 26 = .ok (.getfield 41, 3) := by decide +kernel
theorem dX2_leastCost_29 : decode cX2_leastCost 29 = .ok (.if_icmp .ge 145, 3) := by decide +kernel
theorem dX2_leastCost_32 : decode cX2_leastCost 32 = .ok (.iload_n 3, 1) := by decide +kernel
theorem dX2_leastCost_33 : decode cX2_leastCost 33 = .ok (.iload_n 2, 1) := by decide +kernel
theorem dX2_leastCost_34 : decode cX2_leastCost 34 = .ok (.if_icmp .ge 140, 3) := by decide +kernel
theorem dX2_leastCost_37 : decode cX2_leastCost 37 = .ok (.aload_n 0, 1) := by decide +kernel
theorem dX2_leastCost_38 : decode cX2_leastCost 38 = .ok (.getfield 11, 3) := by decide +kernel
theorem dX2_leastCost_41 : decode cX2_leastCost 41 = .ok (.iload 5, 2) := by decide +kernel
theorem dX2_leastCost_43 : decode cX2_leastCost 43 = .ok (.aaload, 1) := by decide +kernel
theorem dX2_leastCost_44 : decode cX2_leastCost 44 = .ok (.astore 6, 2) := by decide +kernel
theorem dX2_leastCost_46 : decode cX2_leastCost 46 = .ok (.aload 6, 2) := by decide +kernel
theorem dX2_leastCost_48 : decode cX2_leastCost 48 = .ok (.invokevirtual 58, 3) := by decide +kernel
theorem dX2_leastCost_51 : decode cX2_leastCost 51 = .ok (.ifCond .eq 24, 3) := by decide +kernel
theorem dX2_leastCost_54 : decode cX2_leastCost 54 = .ok (.aload_n 0, 1) := by decide +kernel
theorem dX2_leastCost_55 : decode cX2_leastCost 55 = .ok (.getfield 21, 3) := by decide +kernel
theorem dX2_leastCost_58 : decode cX2_leastCost 58 = .ok (.iload 5, 2) := by decide +kernel
theorem dX2_leastCost_60 : decode cX2_leastCost 60 = .ok (.iaload, 1) := by decide +kernel
theorem dX2_leastCost_61 : decode cX2_leastCost 61 = .ok (.istore 4, 2) := by decide +kernel
theorem dX2_leastCost_63 : decode cX2_leastCost 63 = .ok (.aload_n 0, 1) := by decide +kernel
theorem dX2_leastCost_64 : decode cX2_leastCost 64 = .ok (.getfield 24, 3) := by decide +kernel
theorem dX2_leastCost_67 : decode cX2_leastCost 67 = .ok (.iload 5, 2) := by decide +kernel
theorem dX2_leastCost_69 : decode cX2_leastCost 69 = .ok (.iload 4, 2) := by decide +kernel
theorem dX2_leastCost_71 : decode cX2_leastCost 71 = .ok (.iastore, 1) := by decide +kernel
theorem dX2_leastCost_72 : decode cX2_leastCost 72 = .ok (.goto 96, 3) := by decide +kernel
theorem dX2_leastCost_75 : decode cX2_leastCost 75 = .ok (.aload 6, 2) := by decide +kernel
theorem dX2_leastCost_77 : decode cX2_leastCost 77 = .ok (.getfield 115, 3) := by decide +kernel
theorem dX2_leastCost_80 : decode cX2_leastCost 80 = .ok (.aload_n 0, 1) := by decide +kernel
theorem dX2_leastCost_81 : decode cX2_leastCost 81 = .ok (.getfield 17, 3) := by decide +kernel
theorem dX2_leastCost_84 : decode cX2_leastCost 84 = .ok (.iload 5, 2) := by decide +kernel
theorem dX2_leastCost_86 : decode cX2_leastCost 86 = .ok (.iaload, 1) := by decide +kernel
theorem dX2_leastCost_87 : decode cX2_leastCost 87 = .ok (.isub, 1) := by decide +kernel
theorem dX2_leastCost_88 : decode cX2_leastCost 88 = .ok (.istore 7, 2) := by decide +kernel
theorem dX2_leastCost_90 : decode cX2_leastCost 90 = .ok (.iload 4, 2) := by decide +kernel
theorem dX2_leastCost_92 : decode cX2_leastCost 92 = .ok (.aload_n 0, 1) := by decide +kernel
theorem dX2_leastCost_93 : decode cX2_leastCost 93 = .ok (.getfield 21, 3) := by decide +kernel
theorem dX2_leastCost_96 : decode cX2_leastCost 96 = .ok (.iload 5, 2) := by decide +kernel
theorem dX2_leastCost_98 : decode cX2_leastCost 98 = .ok (.iaload, 1) := by decide +kernel
theorem dX2_leastCost_99 : decode cX2_leastCost 99 = .ok (.iload 7, 2) := by decide +kernel
theorem dX2_leastCost_101 : decode cX2_leastCost 101 = .ok (.invokestatic 93, 3) := by decide +kernel
theorem dX2_leastCost_104 : decode cX2_leastCost 104 = .ok (.invokestatic 118, 3) := by decide +kernel
theorem dX2_leastCost_107 : decode cX2_leastCost 107 = .ok (.istore 8, 2) := by decide +kernel
theorem dX2_leastCost_109 : decode cX2_leastCost 109 = .ok (.iload_n 3, 1) := by decide +kernel
theorem dX2_leastCost_110 : decode cX2_leastCost 110 = .ok (.aload 6, 2) := by decide +kernel
theorem dX2_leastCost_112 : decode cX2_leastCost 112 = .ok (.getfield 121, 3) := by decide +kernel
theorem dX2_leastCost_115 : decode cX2_leastCost 115 = .ok (.iload 7, 2) := by decide +kernel
theorem dX2_leastCost_117 : decode cX2_leastCost 117 = .ok (.iload 8, 2) := by decide +kernel
theorem dX2_leastCost_119 : decode cX2_leastCost 119 = .ok (.isub, 1) := by decide +kernel
theorem dX2_leastCost_120 : decode cX2_leastCost 120 = .ok (.invokestatic 124, 3) := by decide +kernel
theorem dX2_leastCost_123 : decode cX2_leastCost 123 = .ok (.imul, 1) := by decide +kernel
theorem dX2_leastCost_124 : decode cX2_leastCost 124 = .ok (.aload_n 0, 1) := by decide +kernel
theorem dX2_leastCost_125 : decode cX2_leastCost 125 = .ok (.iload 8, 2) := by decide +kernel
theorem dX2_leastCost_127 : decode cX2_leastCost 127 = .ok (.aload 6, 2) := by decide +kernel
theorem dX2_leastCost_129 : decode cX2_leastCost 129 = .ok (.getfield 121, 3) := by decide +kernel
theorem dX2_leastCost_132 : decode cX2_leastCost 132 = .ok (.invokevirtual 128, 3) := by decide +kernel
theorem dX2_leastCost_135 : decode cX2_leastCost 135 = .ok (.iadd, 1) := by decide +kernel
theorem dX2_leastCost_136 : decode cX2_leastCost 136 = .ok (.iadd, 1) := by decide +kernel
theorem dX2_leastCost_137 : decode cX2_leastCost 137 = .ok (.istore_n 3, 1) := by decide +kernel
theorem dX2_leastCost_138 : decode cX2_leastCost 138 = .ok (.aload_n 0, 1) := by decide +kernel
theorem dX2_leastCost_139 : decode cX2_leastCost 139 = .ok (.getfield 24, 3) := by decide +kernel
theorem dX2_leastCost_142 : decode cX2_leastCost 142 = .ok (.iload 5, 2) := by decide +kernel
theorem dX2_leastCost_144 : decode cX2_leastCost 144 = .ok (.aload_n 0, 1) := by decide +kernel
theorem dX2_leastCost_145 : decode cX2_leastCost 145 = .ok (.getfield 112, 3) := by decide +kernel
theorem dX2_leastCost_148 : decode cX2_leastCost 148 = .ok (.ifCond .le 17, 3) := by decide +kernel
theorem dX2_leastCost_151 : decode cX2_leastCost 151 = .ok (.aload_n 0, 1) := by decide +kernel
theorem dX2_leastCost_152 : decode cX2_leastCost 152 = .ok (.getfield 27, 3) := by decide +kernel
theorem dX2_leastCost_155 : decode cX2_leastCost 155 = .ok (.aload_n 0, 1) := by decide +kernel
theorem dX2_leastCost_156 : decode cX2_leastCost 156 = .ok (.getfield 112, 3) := by decide +kernel
theorem dX2_leastCost_159 : decode cX2_leastCost 159 = .ok (.iconst 1, 1) := by decide +kernel
theorem dX2_leastCost_160 : decode cX2_leastCost 160 = .ok (.isub, 1) := by decide +kernel
theorem dX2_leastCost_161 : decode cX2_leastCost 161 = .ok (.iaload, 1) := by decide +kernel
theorem dX2_leastCost_162 : decode cX2_leastCost 162 = .ok (.goto 5, 3) := by decide +kernel
theorem dX2_leastCost_165 : decode cX2_leastCost 165 = .ok (.iload 8, 2) := by decide +kernel
theorem dX2_leastCost_167 : decode cX2_leastCost 167 = .ok (.iastore, 1) := by decide +kernel
theorem dX2_leastCost_168 : decode cX2_leastCost 168 = .ok (.iinc 5 1, 3) := by decide +kernel
theorem dX2_leastCost_171 : decode cX2_leastCost 171 = .ok (.goto (-148), 3) := by decide +kernel
theorem dX2_leastCost_174 : decode cX2_leastCost 174 = .ok (.iload_n 3, 1) := by decide +kernel
theorem dX2_leastCost_175 : decode cX2_leastCost 175 = .ok (.iload_n 2, 1) := by decide +kernel
theorem dX2_leastCost_176 : decode cX2_leastCost 176 = .ok (.invokestatic 93, 3) := by decide +kernel
theorem dX2_leastCost_179 : decode cX2_leastCost 179 = .ok (.ireturn, 1) := by decide +kernel
theorem dX2_hangCeilings_0 : decode cX2_hangCeilings 0 = .ok (.aload_n 0, 1) := by decide +kernel
theorem dX2_hangCeilings_1 : decode cX2_hangCeilings 1 = .ok (.getfield 41, 3) := by decide +kernel
theorem dX2_hangCeilings_4 : decode cX2_hangCeilings 4 = .ok (.ifCond .ne 5, 3) := by decide +kernel
theorem dX2_hangCeilings_7 : decode cX2_hangCeilings 7 = .ok (.iconst 1, 1) := by decide +kernel
theorem dX2_hangCeilings_8 : decode cX2_hangCeilings 8 = .ok (.ireturn, 1) := by decide +kernel
theorem dX2_hangCeilings_9 : decode cX2_hangCeilings 9 = .ok (.aload_n 0, 1) := by decide +kernel
theorem dX2_hangCeilings_10 : decode cX2_hangCeilings 10 = .ok (.getfield 33, 3) := by decide +kernel
theorem dX2_hangCeilings_13 : decode cX2_hangCeilings 13 = .ok (.getfield 65, 3) := by decide +kernel
theorem dX2_hangCeilings_16 : decode cX2_hangCeilings 16 = .ok (.iload_n 1, 1) := by decide +kernel
theorem dX2_hangCeilings_17 : decode cX2_hangCeilings 17 = .ok (.isub, 1) := by decide +kernel
theorem dX2_hangCeilings_18 : decode cX2_hangCeilings 18 = .ok (.aload_n 0, 1) := by decide +kernel
theorem dX2_hangCeilings_19 : decode cX2_hangCeilings 19 = .ok (.getfield 17, 3) := by decide +kernel
theorem dX2_hangCeilings_22 : decode cX2_hangCeilings 22 = .ok (.aload_n 0, 1) := by decide +kernel
theorem dX2_hangCeilings_23 : decode cX2_hangCeilings 23 = .ok (.getfield 41, 3) := by decide +kernel
theorem dX2_hangCeilings_26 : decode cX2_hangCeilings 26 = .ok (.iconst 1, 1) := by decide +kernel
theorem dX2_hangCeilings_27 : decode cX2_hangCeilings 27 = .ok (.isub, 1) := by decide +kernel
theorem dX2_hangCeilings_28 : decode cX2_hangCeilings 28 = .ok (.iaload, 1) := by decide +kernel
theorem dX2_hangCeilings_29 : decode cX2_hangCeilings 29 = .ok (.isub, 1) := by decide +kernel
theorem dX2_hangCeilings_30 : decode cX2_hangCeilings 30 = .ok (.istore_n 2, 1) := by decide +kernel
theorem dX2_hangCeilings_31 : decode cX2_hangCeilings 31 = .ok (.aload_n 0, 1) := by decide +kernel
theorem dX2_hangCeilings_32 : decode cX2_hangCeilings 32 = .ok (.getfield 41, 3) := by decide +kernel
theorem dX2_hangCeilings_35 : decode cX2_hangCeilings 35 = .ok (.iconst 1, 1) := by decide +kernel
theorem dX2_hangCeilings_36 : decode cX2_hangCeilings 36 = .ok (.isub, 1) := by decide +kernel
theorem dX2_hangCeilings_37 : decode cX2_hangCeilings 37 = .ok (.istore_n 3, 1) := by decide +kernel
theorem dX2_hangCeilings_38 : decode cX2_hangCeilings 38 = .ok (.iload_n 3, 1) := by decide +kernel
theorem dX2_hangCeilings_39 : decode cX2_hangCeilings 39 = .ok (.ifCond .lt 57, 3) := by decide +kernel
theorem dX2_hangCeilings_42 : decode cX2_hangCeilings 42 = .ok (.aload_n 0, 1) := by decide +kernel
theorem dX2_hangCeilings_43 : decode cX2_hangCeilings 43 = .ok (.getfield 11, 3) := by decide +kernel
theorem dX2_hangCeilings_46 : decode cX2_hangCeilings 46 = .ok (.iload_n 3, 1) := by decide +kernel
theorem dX2_hangCeilings_47 : decode cX2_hangCeilings 47 = .ok (.aaload, 1) := by decide +kernel
theorem dX2_hangCeilings_48 : decode cX2_hangCeilings 48 = .ok (.invokevirtual 58, 3) := by decide +kernel
theorem dX2_hangCeilings_51 : decode cX2_hangCeilings 51 = .ok (.ifCond .eq 32, 3) := by decide +kernel
theorem dX2_hangCeilings_54 : decode cX2_hangCeilings 54 = .ok (.aload_n 0, 1) := by decide +kernel
theorem dX2_hangCeilings_55 : decode cX2_hangCeilings 55 = .ok (.getfield 11, 3) := by decide +kernel
theorem dX2_hangCeilings_58 : decode cX2_hangCeilings 58 = .ok (.iload_n 3, 1) := by decide +kernel
theorem dX2_hangCeilings_59 : decode cX2_hangCeilings 59 = .ok (.aaload, 1) := by decide +kernel
theorem dX2_hangCeilings_60 : decode cX2_hangCeilings 60 = .ok (.getfield 62, 3) := by decide +kernel
theorem dX2_hangCeilings_63 : decode cX2_hangCeilings 63 = .ok (.aload_n 0, 1) := by decide +kernel
theorem dX2_hangCeilings_64 : decode cX2_hangCeilings 64 = .ok (.getfield 17, 3) := by decide +kernel
theorem dX2_hangCeilings_67 : decode cX2_hangCeilings 67 = .ok (.iload_n 3, 1) := by decide +kernel
theorem dX2_hangCeilings_68 : decode cX2_hangCeilings 68 = .ok (.iaload, 1) := by decide +kernel
theorem dX2_hangCeilings_69 : decode cX2_hangCeilings 69 = .ok (.isub, 1) := by decide +kernel
theorem dX2_hangCeilings_70 : decode cX2_hangCeilings 70 = .ok (.istore 4, 2) := by decide +kernel
theorem dX2_hangCeilings_72 : decode cX2_hangCeilings 72 = .ok (.iload 4, 2) := by decide +kernel
theorem dX2_hangCeilings_74 : decode cX2_hangCeilings 74 = .ok (.iload_n 2, 1) := by decide +kernel
theorem dX2_hangCeilings_75 : decode cX2_hangCeilings 75 = .ok (.if_icmp .le 5, 3) := by decide +kernel
theorem dX2_hangCeilings_78 : decode cX2_hangCeilings 78 = .ok (.iconst 0, 1) := by decide +kernel
theorem dX2_hangCeilings_79 : decode cX2_hangCeilings 79 = .ok (.ireturn, 1) := by decide +kernel
theorem dX2_hangCeilings_80 : decode cX2_hangCeilings 80 = .ok (.iload 4, 2) := by decide +kernel
theorem dX2_hangCeilings_82 : decode cX2_hangCeilings 82 = .ok (.istore_n 2, 1) := by decide +kernel
theorem dX2_hangCeilings_83 : decode cX2_hangCeilings 83 = .ok (.aload_n 0, 1) := by decide +kernel
theorem dX2_hangCeilings_84 : decode cX2_hangCeilings 84 = .ok (.getfield 21, 3) := by decide +kernel
theorem dX2_hangCeilings_87 : decode cX2_hangCeilings 87 = .ok (.iload_n 3, 1) := by decide +kernel
theorem dX2_hangCeilings_88 : decode cX2_hangCeilings 88 = .ok (.iload_n 2, 1) := by decide +kernel
theorem dX2_hangCeilings_89 : decode cX2_hangCeilings 89 = .ok (.iastore, 1) := by decide +kernel
theorem dX2_hangCeilings_90 : decode cX2_hangCeilings 90 = .ok (.iinc 3 (-1), 3) := by decide +kernel
theorem dX2_hangCeilings_93 : decode cX2_hangCeilings 93 = .ok (.goto (-55), 3) := by decide +kernel
theorem dX2_hangCeilings_96 : decode cX2_hangCeilings 96 = .ok (.iload_n 2, 1) := by decide +kernel
theorem dX2_hangCeilings_97 : decode cX2_hangCeilings 97 = .ok (.ifCond .lt 7, 3) := by decide +kernel
theorem dX2_hangCeilings_100 : decode cX2_hangCeilings 100 = .ok (.iconst 1, 1) := by decide +kernel
theorem dX2_hangCeilings_101 : decode cX2_hangCeilings 101 = .ok (.goto 4, 3) := by decide +kernel
theorem dX2_hangCeilings_104 : decode cX2_hangCeilings 104 = .ok (.iconst 0, 1) := by decide +kernel
theorem dX2_hangCeilings_105 : decode cX2_hangCeilings 105 = .ok (.ireturn, 1) := by decide +kernel
theorem dX2_pull_0 : decode cX2_pull 0 = .ok (.aload_n 0, 1) := by decide +kernel
theorem dX2_pull_1 : decode cX2_pull 1 = .ok (.getfield 112, 3) := by decide +kernel
theorem dX2_pull_4 : decode cX2_pull 4 = .ok (.aload_n 0, 1) := by decide +kernel
theorem dX2_pull_5 : decode cX2_pull 5 = .ok (.getfield 27, 3) := by decide +kernel
theorem dX2_pull_8 : decode cX2_pull 8 = .ok (.arraylength, 1) := by decide +kernel
theorem dX2_pull_9 : decode cX2_pull 9 = .ok (.if_icmp .lt 5, 3) := by decide +kernel
theorem dX2_pull_12 : decode cX2_pull 12 = .ok (.iconst 0, 1) := by decide +kernel
theorem dX2_pull_13 : decode cX2_pull 13 = .ok (.ireturn, 1) := by decide +kernel
theorem dX2_pull_14 : decode cX2_pull 14 = .ok (.aload_n 0, 1) := by decide +kernel
theorem dX2_pull_15 : decode cX2_pull 15 = .ok (.getfield 112, 3) := by decide +kernel
theorem dX2_pull_18 : decode cX2_pull 18 = .ok (.istore_n 3, 1) := by decide +kernel
theorem dX2_pull_19 : decode cX2_pull 19 = .ok (.iload_n 3, 1) := by decide +kernel
theorem dX2_pull_20 : decode cX2_pull 20 = .ok (.ifCond .le 49, 3) := by decide +kernel
theorem dX2_pull_23 : decode cX2_pull 23 = .ok (.aload_n 0, 1) := by decide +kernel
theorem dX2_pull_24 : decode cX2_pull 24 = .ok (.getfield 27, 3) := by decide +kernel
theorem dX2_pull_27 : decode cX2_pull 27 = .ok (.iload_n 3, 1) := by decide +kernel
theorem dX2_pull_28 : decode cX2_pull 28 = .ok (.iconst 1, 1) := by decide +kernel
theorem dX2_pull_29 : decode cX2_pull 29 = .ok (.isub, 1) := by decide +kernel
theorem dX2_pull_30 : decode cX2_pull 30 = .ok (.iaload, 1) := by decide +kernel
theorem dX2_pull_31 : decode cX2_pull 31 = .ok (.iload_n 1, 1) := by decide +kernel
theorem dX2_pull_32 : decode cX2_pull 32 = .ok (.if_icmp .le 37, 3) := by decide +kernel
theorem dX2_pull_35 : decode cX2_pull 35 = .ok (.aload_n 0, 1) := by decide +kernel
theorem dX2_pull_36 : decode cX2_pull 36 = .ok (.getfield 27, 3) := by decide +kernel
theorem dX2_pull_39 : decode cX2_pull 39 = .ok (.iload_n 3, 1) := by decide +kernel
theorem dX2_pull_40 : decode cX2_pull 40 = .ok (.aload_n 0, 1) := by decide +kernel
theorem dX2_pull_41 : decode cX2_pull 41 = .ok (.getfield 27, 3) := by decide +kernel
theorem dX2_pull_44 : decode cX2_pull 44 = .ok (.iload_n 3, 1) := by decide +kernel
theorem dX2_pull_45 : decode cX2_pull 45 = .ok (.iconst 1, 1) := by decide +kernel
theorem dX2_pull_46 : decode cX2_pull 46 = .ok (.isub, 1) := by decide +kernel
theorem dX2_pull_47 : decode cX2_pull 47 = .ok (.iaload, 1) := by decide +kernel
theorem dX2_pull_48 : decode cX2_pull 48 = .ok (.iastore, 1) := by decide +kernel
theorem dX2_pull_49 : decode cX2_pull 49 = .ok (.aload_n 0, 1) := by decide +kernel
theorem dX2_pull_50 : decode cX2_pull 50 = .ok (.getfield 30, 3) := by decide +kernel
theorem dX2_pull_53 : decode cX2_pull 53 = .ok (.iload_n 3, 1) := by decide +kernel
theorem dX2_pull_54 : decode cX2_pull 54 = .ok (.aload_n 0, 1) := by decide +kernel
theorem dX2_pull_55 : decode cX2_pull 55 = .ok (.getfield 30, 3) := by decide +kernel
theorem dX2_pull_58 : decode cX2_pull 58 = .ok (.iload_n 3, 1) := by decide +kernel
theorem dX2_pull_59 : decode cX2_pull 59 = .ok (.iconst 1, 1) := by decide +kernel
theorem dX2_pull_60 : decode cX2_pull 60 = .ok (.isub, 1) := by decide +kernel
theorem dX2_pull_61 : decode cX2_pull 61 = .ok (.iaload, 1) := by decide +kernel
theorem dX2_pull_62 : decode cX2_pull 62 = .ok (.iastore, 1) := by decide +kernel
theorem dX2_pull_63 : decode cX2_pull 63 = .ok (.iinc 3 (-1), 3) := by decide +kernel
theorem dX2_pull_66 : decode cX2_pull 66 = .ok (.goto (-47), 3) := by decide +kernel
theorem dX2_pull_69 : decode cX2_pull 69 = .ok (.aload_n 0, 1) := by decide +kernel
theorem dX2_pull_70 : decode cX2_pull 70 = .ok (.getfield 27, 3) := by decide +kernel
theorem dX2_pull_73 : decode cX2_pull 73 = .ok (.iload_n 3, 1) := by decide +kernel
theorem dX2_pull_74 : decode cX2_pull 74 = .ok (.iload_n 1, 1) := by decide +kernel
theorem dX2_pull_75 : decode cX2_pull 75 = .ok (.iastore, 1) := by decide +kernel
theorem dX2_pull_76 : decode cX2_pull 76 = .ok (.aload_n 0, 1) := by decide +kernel
theorem dX2_pull_77 : decode cX2_pull 77 = .ok (.getfield 30, 3) := by decide +kernel
theorem dX2_pull_80 : decode cX2_pull 80 = .ok (.iload_n 3, 1) := by decide +kernel
theorem dX2_pull_81 : decode cX2_pull 81 = .ok (.iconst 2, 1) := by decide +kernel
theorem dX2_pull_82 : decode cX2_pull 82 = .ok (.iload_n 2, 1) := by decide +kernel
theorem dX2_pull_83 : decode cX2_pull 83 = .ok (.imul, 1) := by decide +kernel
theorem dX2_pull_84 : decode cX2_pull 84 = .ok (.iastore, 1) := by decide +kernel
theorem dX2_pull_85 : decode cX2_pull 85 = .ok (.aload_n 0, 1) := by decide +kernel
theorem dX2_pull_86 : decode cX2_pull 86 = .ok (.dup, 1) := by decide +kernel
theorem dX2_pull_87 : decode cX2_pull 87 = .ok (.getfield 112, 3) := by decide +kernel
theorem dX2_pull_90 : decode cX2_pull 90 = .ok (.iconst 1, 1) := by decide +kernel
theorem dX2_pull_91 : decode cX2_pull 91 = .ok (.iadd, 1) := by decide +kernel
theorem dX2_pull_92 : decode cX2_pull 92 = .ok (.putfield 112, 3) := by decide +kernel
theorem dX2_pull_95 : decode cX2_pull 95 = .ok (.iconst 0, 1) := by decide +kernel
theorem dX2_pull_96 : decode cX2_pull 96 = .ok (.istore 4, 2) := by decide +kernel
theorem dX2_pull_98 : decode cX2_pull 98 = .ok (.iload_n 2, 1) := by decide +kernel
theorem dX2_pull_99 : decode cX2_pull 99 = .ok (.istore 5, 2) := by decide +kernel
theorem dX2_pull_101 : decode cX2_pull 101 = .ok (.aload_n 0, 1) := by decide +kernel
theorem dX2_pull_102 : decode cX2_pull 102 = .ok (.getfield 112, 3) := by decide +kernel
theorem dX2_pull_105 : decode cX2_pull 105 = .ok (.iconst 1, 1) := by decide +kernel
theorem dX2_pull_106 : decode cX2_pull 106 = .ok (.isub, 1) := by decide +kernel
theorem dX2_pull_107 : decode cX2_pull 107 = .ok (.istore 6, 2) := by decide +kernel
theorem dX2_pull_109 : decode cX2_pull 109 = .ok (.iload 6, 2) := by decide +kernel
theorem dX2_pull_111 : decode cX2_pull 111 = .ok (.ifCond .lt 80, 3) := by decide +kernel
theorem dX2_pull_114 : decode cX2_pull 114 = .ok (.iload 5, 2) := by decide +kernel
theorem dX2_pull_116 : decode cX2_pull 116 = .ok (.ifCond .le 75, 3) := by decide +kernel
theorem dX2_pull_119 : decode cX2_pull 119 = .ok (.iload 5, 2) := by decide +kernel
theorem dX2_pull_121 : decode cX2_pull 121 = .ok (.aload_n 0, 1) := by decide +kernel
theorem dX2_pull_122 : decode cX2_pull 122 = .ok (.getfield 30, 3) := by decide +kernel
theorem dX2_pull_125 : decode cX2_pull 125 = .ok (.iload 6, 2) := by decide +kernel
theorem dX2_pull_127 : decode cX2_pull 127 = .ok (.iaload, 1) := by decide +kernel
theorem dX2_pull_128 : decode cX2_pull 128 = .ok (.invokestatic 93, 3) := by decide +kernel
theorem dX2_pull_131 : decode cX2_pull 131 = .ok (.istore 7, 2) := by decide +kernel
theorem dX2_pull_133 : decode cX2_pull 133 = .ok (.iload 4, 2) := by decide +kernel
theorem dX2_pull_135 : decode cX2_pull 135 = .ok (.iload 7, 2) := by decide +kernel
theorem dX2_pull_137 : decode cX2_pull 137 = .ok (.aload_n 0, 1) := by decide +kernel
theorem dX2_pull_138 : decode cX2_pull 138 = .ok (.getfield 27, 3) := by decide +kernel
theorem dX2_pull_141 : decode cX2_pull 141 = .ok (.iload 6, 2) := by decide +kernel
theorem dX2_pull_143 : decode cX2_pull 143 = .ok (.iaload, 1) := by decide +kernel
theorem dX2_pull_144 : decode cX2_pull 144 = .ok (.iload_n 1, 1) := by decide +kernel
theorem dX2_pull_145 : decode cX2_pull 145 = .ok (.isub, 1) := by decide +kernel
theorem dX2_pull_146 : decode cX2_pull 146 = .ok (.imul, 1) := by decide +kernel
theorem dX2_pull_147 : decode cX2_pull 147 = .ok (.iadd, 1) := by decide +kernel
theorem dX2_pull_148 : decode cX2_pull 148 = .ok (.istore 4, 2) := by decide +kernel
theorem dX2_pull_150 : decode cX2_pull 150 = .ok (.aload_n 0, 1) := by decide +kernel
theorem dX2_pull_151 : decode cX2_pull 151 = .ok (.getfield 30, 3) := by decide +kernel
theorem dX2_pull_154 : decode cX2_pull 154 = .ok (.iload 6, 2) := by decide +kernel
theorem dX2_pull_156 : decode cX2_pull 156 = .ok (.dup2, 1) := by decide +kernel
theorem dX2_pull_157 : decode cX2_pull 157 = .ok (.iaload, 1) := by decide +kernel
theorem dX2_pull_158 : decode cX2_pull 158 = .ok (.iload 7, 2) := by decide +kernel
theorem dX2_pull_160 : decode cX2_pull 160 = .ok (.isub, 1) := by decide +kernel
theorem dX2_pull_161 : decode cX2_pull 161 = .ok (.iastore, 1) := by decide +kernel
theorem dX2_pull_162 : decode cX2_pull 162 = .ok (.iload 5, 2) := by decide +kernel
theorem dX2_pull_164 : decode cX2_pull 164 = .ok (.iload 7, 2) := by decide +kernel
theorem dX2_pull_166 : decode cX2_pull 166 = .ok (.isub, 1) := by decide +kernel
theorem dX2_pull_167 : decode cX2_pull 167 = .ok (.istore 5, 2) := by decide +kernel
theorem dX2_pull_169 : decode cX2_pull 169 = .ok (.aload_n 0, 1) := by decide +kernel
theorem dX2_pull_170 : decode cX2_pull 170 = .ok (.getfield 30, 3) := by decide +kernel
theorem dX2_pull_173 : decode cX2_pull 173 = .ok (.iload 6, 2) := by decide +kernel
theorem dX2_pull_175 : decode cX2_pull 175 = .ok (.iaload, 1) := by decide +kernel
theorem dX2_pull_176 : decode cX2_pull 176 = .ok (.ifCond .ne 9, 3) := by decide +kernel
theorem dX2_pull_179 : decode cX2_pull 179 = .ok (.aload_n 0, 1) := by decide +kernel
theorem dX2_pull_180 : decode cX2_pull 180 = .ok (.iload 6, 2) := by decide +kernel
theorem dX2_pull_182 : decode cX2_pull 182 = .ok (.putfield 112, 3) := by decide +kernel
theorem dX2_pull_185 : decode cX2_pull 185 = .ok (.iinc 6 (-1), 3) := by decide +kernel
theorem dX2_pull_188 : decode cX2_pull 188 = .ok (.goto (-79), 3) := by decide +kernel
theorem dX2_pull_191 : decode cX2_pull 191 = .ok (.iload 4, 2) := by decide +kernel
theorem dX2_pull_193 : decode cX2_pull 193 = .ok (.ireturn, 1) := by decide +kernel
theorem dX3_init_0 : decode cX3_init 0 = .ok (.aload_n 0, 1) := by decide +kernel
theorem dX3_init_1 : decode cX3_init 1 = .ok (.invokespecial 3, 3) := by decide +kernel
theorem dX3_init_4 : decode cX3_init 4 = .ok (.aload_n 0, 1) := by decide +kernel
theorem dX3_init_5 : decode cX3_init 5 = .ok (.iconst 3, 1) := by decide +kernel
theorem dX3_init_6 : decode cX3_init 6 = .ok (.newarray .int, 2) := by decide +kernel
theorem dX3_init_8 : decode cX3_init 8 = .ok (.putfield 9, 3) := by decide +kernel
theorem dX3_init_11 : decode cX3_init 11 = .ok (.aload_n 0, 1) := by decide +kernel
theorem dX3_init_12 : decode cX3_init 12 = .ok (.iconst (-1), 1) := by decide +kernel
theorem dX3_init_13 : decode cX3_init 13 = .ok (.putfield 15, 3) := by decide +kernel
theorem dX3_init_16 : decode cX3_init 16 = .ok (.aload_n 0, 1) := by decide +kernel
theorem dX3_init_17 : decode cX3_init 17 = .ok (.iconst (-1), 1) := by decide +kernel
theorem dX3_init_18 : decode cX3_init 18 = .ok (.putfield 19, 3) := by decide +kernel
theorem dX3_init_21 : decode cX3_init 21 = .ok (.aload_n 0, 1) := by decide +kernel
theorem dX3_init_22 : decode cX3_init 22 = .ok (.iload_n 1, 1) := by decide +kernel
theorem dX3_init_23 : decode cX3_init 23 = .ok (.putfield 22, 3) := by decide +kernel
theorem dX3_init_26 : decode cX3_init 26 = .ok (.aload_n 0, 1) := by decide +kernel
theorem dX3_init_27 : decode cX3_init 27 = .ok (.iload_n 2, 1) := by decide +kernel
theorem dX3_init_28 : decode cX3_init 28 = .ok (.putfield 25, 3) := by decide +kernel
theorem dX3_init_31 : decode cX3_init 31 = .ok (.aload_n 0, 1) := by decide +kernel
theorem dX3_init_32 : decode cX3_init 32 = .ok (.iload_n 3, 1) := by decide +kernel
theorem dX3_init_33 : decode cX3_init 33 = .ok (.putfield 28, 3) := by decide +kernel
theorem dX3_init_36 : decode cX3_init 36 = .ok (.aload_n 0, 1) := by decide +kernel
theorem dX3_init_37 : decode cX3_init 37 = .ok (.iload 4, 2) := by decide +kernel
theorem dX3_init_39 : decode cX3_init 39 = .ok (.putfield 31, 3) := by decide +kernel
theorem dX3_init_42 : decode cX3_init 42 = .ok (.aload_n 0, 1) := by decide +kernel
theorem dX3_init_43 : decode cX3_init 43 = .ok (.iload 5, 2) := by decide +kernel
theorem dX3_init_45 : decode cX3_init 45 = .ok (.putfield 34, 3) := by decide +kernel
theorem dX3_init_48 : decode cX3_init 48 = .ok (.aload_n 0, 1) := by decide +kernel
theorem dX3_init_49 : decode cX3_init 49 = .ok (.iload_n 2, 1) := by decide +kernel
theorem dX3_init_50 : decode cX3_init 50 = .ok (.putfield 37, 3) := by decide +kernel
theorem dX3_init_53 : decode cX3_init 53 = .ok (.return_, 1) := by decide +kernel
theorem dX3_isFixed_0 : decode cX3_isFixed 0 = .ok (.aload_n 0, 1) := by decide +kernel
theorem dX3_isFixed_1 : decode cX3_isFixed 1 = .ok (.getfield 15, 3) := by decide +kernel
theorem dX3_isFixed_4 : decode cX3_isFixed 4 = .ok (.iconst (-1), 1) := by decide +kernel
theorem dX3_isFixed_5 : decode cX3_isFixed 5 = .ok (.if_icmp .eq 7, 3) := by decide +kernel
theorem dX3_isFixed_8 : decode cX3_isFixed 8 = .ok (.iconst 1, 1) := by decide +kernel
theorem dX3_isFixed_9 : decode cX3_isFixed 9 = .ok (.goto 4, 3) := by decide +kernel
theorem dX3_isFixed_12 : decode cX3_isFixed 12 = .ok (.iconst 0, 1) := by decide +kernel
theorem dX3_isFixed_13 : decode cX3_isFixed 13 = .ok (.ireturn, 1) := by decide +kernel
theorem dX3_leavesAtMost_0 : decode cX3_leavesAtMost 0 = .ok (.aload_n 0, 1) := by decide +kernel
theorem dX3_leavesAtMost_1 : decode cX3_leavesAtMost 1 = .ok (.getfield 15, 3) := by decide +kernel
theorem dX3_leavesAtMost_4 : decode cX3_leavesAtMost 4 = .ok (.iconst (-1), 1) := by decide +kernel
theorem dX3_leavesAtMost_5 : decode cX3_leavesAtMost 5 = .ok (.if_icmp .ne 17, 3) := by decide +kernel
theorem dX3_leavesAtMost_8 : decode cX3_leavesAtMost 8 = .ok (.aload_n 0, 1) := by decide +kernel
theorem dX3_leavesAtMost_9 : decode cX3_leavesAtMost 9 = .ok (.getfield 25, 3) := by decide +kernel
theorem dX3_leavesAtMost_12 : decode cX3_leavesAtMost 12 = .ok (.iload_n 2, 1) := by decide +kernel
theorem dX3_leavesAtMost_13 : decode cX3_leavesAtMost 13 = .ok (.isub, 1) := by decide +kernel
theorem dX3_leavesAtMost_14 : decode cX3_leavesAtMost 14 = .ok (.iload_n 1, 1) := by decide +kernel
theorem dX3_leavesAtMost_15 : decode cX3_leavesAtMost 15 = .ok (.if_icmp .gt 7, 3) := by decide +kernel
theorem dX3_leavesAtMost_18 : decode cX3_leavesAtMost 18 = .ok (.iconst 1, 1) := by decide +kernel
theorem dX3_leavesAtMost_19 : decode cX3_leavesAtMost 19 = .ok (.goto 4, 3) := by decide +kernel
theorem dX3_leavesAtMost_22 : decode cX3_leavesAtMost 22 = .ok (.iconst 0, 1) := by decide +kernel
theorem dX3_leavesAtMost_23 : decode cX3_leavesAtMost 23 = .ok (.ireturn, 1) := by decide +kernel
theorem dX3_hasCut_0 : decode cX3_hasCut 0 = .ok (.iconst 0, 1) := by decide +kernel
theorem dX3_hasCut_1 : decode cX3_hasCut 1 = .ok (.istore_n 2, 1) := by decide +kernel
theorem dX3_hasCut_2 : decode cX3_hasCut 2 = .ok (.iload_n 2, 1) := by decide +kernel
theorem dX3_hasCut_3 : decode cX3_hasCut 3 = .ok (.aload_n 0, 1) := by decide +kernel
theorem dX3_hasCut_4 : decode cX3_hasCut 4 = .ok (.getfield 40, 3) := by decide +kernel
theorem dX3_hasCut_7 : decode cX3_hasCut 7 = .ok (.if_icmp .ge 21, 3) := by decide +kernel
theorem dX3_hasCut_10 : decode cX3_hasCut 10 = .ok (.aload_n 0, 1) := by decide +kernel
theorem dX3_hasCut_11 : decode cX3_hasCut 11 = .ok (.getfield 9, 3) := by decide +kernel
theorem dX3_hasCut_14 : decode cX3_hasCut 14 = .ok (.iload_n 2, 1) := by decide +kernel
theorem dX3_hasCut_15 : decode cX3_hasCut 15 = .ok (.iaload, 1) := by decide +kernel
theorem dX3_hasCut_16 : decode cX3_hasCut 16 = .ok (.iload_n 1, 1) := by decide +kernel
theorem dX3_hasCut_17 : decode cX3_hasCut 17 = .ok (.if_icmp .ne 5, 3) := by decide +kernel
theorem dX3_hasCut_20 : decode cX3_hasCut 20 = .ok (.iconst 1, 1) := by decide +kernel
theorem dX3_hasCut_21 : decode cX3_hasCut 21 = .ok (.ireturn, 1) := by decide +kernel
theorem dX3_hasCut_22 : decode cX3_hasCut 22 = .ok (.iinc 2 1, 3) := by decide +kernel
theorem dX3_hasCut_25 : decode cX3_hasCut 25 = .ok (.goto (-23), 3) := by decide +kernel
theorem dX3_hasCut_28 : decode cX3_hasCut 28 = .ok (.iconst 0, 1) := by decide +kernel
theorem dX3_hasCut_29 : decode cX3_hasCut 29 = .ok (.ireturn, 1) := by decide +kernel
theorem dX3_addCut_0 : decode cX3_addCut 0 = .ok (.aload_n 0, 1) := by decide +kernel
theorem dX3_addCut_1 : decode cX3_addCut 1 = .ok (.getfield 40, 3) := by decide +kernel
theorem dX3_addCut_4 : decode cX3_addCut 4 = .ok (.aload_n 0, 1) := by decide +kernel
theorem dX3_addCut_5 : decode cX3_addCut 5 = .ok (.getfield 9, 3) := by decide +kernel
theorem dX3_addCut_8 : decode cX3_addCut 8 = .ok (.arraylength, 1) := by decide +kernel
theorem dX3_addCut_9 : decode cX3_addCut 9 = .ok (.if_icmp .lt 4, 3) := by decide +kernel
theorem dX3_addCut_12 : decode cX3_addCut 12 = .ok (.return_, 1) := by decide +kernel
theorem dX3_addCut_13 : decode cX3_addCut 13 = .ok (.aload_n 0, 1) := by decide +kernel
theorem dX3_addCut_14 : decode cX3_addCut 14 = .ok (.getfield 40, 3) := by decide +kernel
theorem dX3_addCut_17 : decode cX3_addCut 17 = .ok (.istore_n 2, 1) := by decide +kernel
theorem dX3_addCut_18 : decode cX3_addCut 18 = .ok (.iload_n 2, 1) := by decide +kernel
theorem dX3_addCut_19 : decode cX3_addCut 19 = .ok (.ifCond .le 35, 3) := by decide +kernel
theorem dX3_addCut_22 : decode cX3_addCut 22 = .ok (.aload_n 0, 1) := by decide +kernel
theorem dX3_addCut_23 : decode cX3_addCut 23 = .ok (.getfield 9, 3) := by decide +kernel
theorem dX3_addCut_26 : decode cX3_addCut 26 = .ok (.iload_n 2, 1) := by decide +kernel
theorem dX3_addCut_27 : decode cX3_addCut 27 = .ok (.iconst 1, 1) := by decide +kernel
theorem dX3_addCut_28 : decode cX3_addCut 28 = .ok (.isub, 1) := by decide +kernel
theorem dX3_addCut_29 : decode cX3_addCut 29 = .ok (.iaload, 1) := by decide +kernel
theorem dX3_addCut_30 : decode cX3_addCut 30 = .ok (.iload_n 1, 1) := by decide +kernel
theorem dX3_addCut_31 : decode cX3_addCut 31 = .ok (.if_icmp .ge 23, 3) := by decide +kernel
theorem dX3_addCut_34 : decode cX3_addCut 34 = .ok (.aload_n 0, 1) := by decide +kernel
theorem dX3_addCut_35 : decode cX3_addCut 35 = .ok (.getfield 9, 3) := by decide +kernel
theorem dX3_addCut_38 : decode cX3_addCut 38 = .ok (.iload_n 2, 1) := by decide +kernel
theorem dX3_addCut_39 : decode cX3_addCut 39 = .ok (.aload_n 0, 1) := by decide +kernel
theorem dX3_addCut_40 : decode cX3_addCut 40 = .ok (.getfield 9, 3) := by decide +kernel
theorem dX3_addCut_43 : decode cX3_addCut 43 = .ok (.iload_n 2, 1) := by decide +kernel
theorem dX3_addCut_44 : decode cX3_addCut 44 = .ok (.iconst 1, 1) := by decide +kernel
theorem dX3_addCut_45 : decode cX3_addCut 45 = .ok (.isub, 1) := by decide +kernel
theorem dX3_addCut_46 : decode cX3_addCut 46 = .ok (.iaload, 1) := by decide +kernel
theorem dX3_addCut_47 : decode cX3_addCut 47 = .ok (.iastore, 1) := by decide +kernel
theorem dX3_addCut_48 : decode cX3_addCut 48 = .ok (.iinc 2 (-1), 3) := by decide +kernel
theorem dX3_addCut_51 : decode cX3_addCut 51 = .ok (.goto (-33), 3) := by decide +kernel
theorem dX3_addCut_54 : decode cX3_addCut 54 = .ok (.aload_n 0, 1) := by decide +kernel
theorem dX3_addCut_55 : decode cX3_addCut 55 = .ok (.getfield 9, 3) := by decide +kernel
theorem dX3_addCut_58 : decode cX3_addCut 58 = .ok (.iload_n 2, 1) := by decide +kernel
theorem dX3_addCut_59 : decode cX3_addCut 59 = .ok (.iload_n 1, 1) := by decide +kernel
theorem dX3_addCut_60 : decode cX3_addCut 60 = .ok (.iastore, 1) := by decide +kernel
theorem dX3_addCut_61 : decode cX3_addCut 61 = .ok (.aload_n 0, 1) := by decide +kernel
theorem dX3_addCut_62 : decode cX3_addCut 62 = .ok (.dup, 1) := by decide +kernel
theorem dX3_addCut_63 : decode cX3_addCut 63 = .ok (.getfield 40, 3) := by decide +kernel
theorem dX3_addCut_66 : decode cX3_addCut 66 = .ok (.iconst 1, 1) := by decide +kernel
theorem dX3_addCut_67 : decode cX3_addCut 67 = .ok (.iadd, 1) := by decide +kernel
theorem dX3_addCut_68 : decode cX3_addCut 68 = .ok (.putfield 40, 3) := by decide +kernel
theorem dX3_addCut_71 : decode cX3_addCut 71 = .ok (.return_, 1) := by decide +kernel
theorem dX4_init_0 : decode cX4_init 0 = .ok (.aload_n 0, 1) := by decide +kernel
theorem dX4_init_1 : decode cX4_init 1 = .ok (.invokespecial 3, 3) := by decide +kernel
theorem dX4_init_4 : decode cX4_init 4 = .ok (.aload_n 0, 1) := by decide +kernel
theorem dX4_init_5 : decode cX4_init 5 = .ok (.bipush 24, 2) := by decide +kernel
theorem dX4_init_7 : decode cX4_init 7 = .ok (.anewarray 9, 3) := by decide +kernel
theorem dX4_init_10 : decode cX4_init 10 = .ok (.putfield 11, 3) := by decide +kernel
theorem dX4_init_13 : decode cX4_init 13 = .ok (.return_, 1) := by decide +kernel
theorem dX4_gather_0 : decode cX4_gather 0 = .ok (.aload_n 0, 1) := by decide +kernel
theorem dX4_gather_1 : decode cX4_gather 1 = .ok (.iconst 0, 1) := by decide +kernel
theorem dX4_gather_2 : decode cX4_gather 2 = .ok (.putfield 17, 3) := by decide +kernel
theorem dX4_gather_5 : decode cX4_gather 5 = .ok (.iconst 0, 1) := by decide +kernel
theorem dX4_gather_6 : decode cX4_gather 6 = .ok (.istore_n 2, 1) := by decide +kernel
theorem dX4_gather_7 : decode cX4_gather 7 = .ok (.iload_n 2, 1) := by decide +kernel
theorem dX4_gather_8 : decode cX4_gather 8 = .ok (.aload_n 1, 1) := by decide +kernel
theorem dX4_gather_9 : decode cX4_gather 9 = .ok (.getfield 21, 3) := by decide +kernel
theorem dX4_gather_12 : decode cX4_gather 12 = .ok (.if_icmp .ge 41, 3) := by decide +kernel
theorem dX4_gather_15 : decode cX4_gather 15 = .ok (.aload_n 1, 1) := by decide +kernel
theorem dX4_gather_16 : decode cX4_gather 16 = .ok (.getfield 26, 3) := by decide +kernel
theorem dX4_gather_19 : decode cX4_gather 19 = .ok (.iload_n 2, 1) := by decide +kernel
theorem dX4_gather_20 : decode cX4_gather 20 = .ok (.aaload, 1) := by decide +kernel
theorem dX4_gather_21 : decode cX4_gather 21 = .ok (.astore_n 3, 1) := by decide +kernel
theorem dX4_gather_22 : decode cX4_gather 22 = .ok (.aload_n 1, 1) := by decide +kernel
theorem dX4_gather_23 : decode cX4_gather 23 = .ok (.aload_n 3, 1) := by decide +kernel
theorem dX4_gather_24 : decode cX4_gather 24 = .ok (.invokevirtual 27, 3) := by decide +kernel
theorem dX4_gather_27 : decode cX4_gather 27 = .ok (.ifCond .eq 20, 3) := by decide +kernel
theorem dX4_gather_30 : decode cX4_gather 30 = .ok (.aload_n 0, 1) := by decide +kernel
theorem dX4_gather_31 : decode cX4_gather 31 = .ok (.getfield 17, 3) := by decide +kernel
theorem dX4_gather_34 : decode cX4_gather 34 = .ok (.aload_n 0, 1) := by decide +kernel
theorem dX4_gather_35 : decode cX4_gather 35 = .ok (.getfield 11, 3) := by decide +kernel
theorem dX4_gather_38 : decode cX4_gather 38 = .ok (.arraylength, 1) := by decide +kernel
theorem dX4_gather_39 : decode cX4_gather 39 = .ok (.if_icmp .ge 8, 3) := by decide +kernel
theorem dX4_gather_42 : decode cX4_gather 42 = .ok (.aload_n 0, 1) := by decide +kernel
theorem dX4_gather_43 : decode cX4_gather 43 = .ok (.aload_n 3, 1) := by decide +kernel
theorem dX4_gather_44 : decode cX4_gather 44 = .ok (.invokevirtual 31, 3) := by decide +kernel
theorem dX4_gather_47 : decode cX4_gather 47 = .ok (.iinc 2 1, 3) := by decide +kernel
theorem dX4_gather_50 : decode cX4_gather 50 = .ok (.goto (-43), 3) := by decide +kernel
theorem dX4_gather_53 : decode cX4_gather 53 = .ok (.return_, 1) := by decide +kernel
theorem dX4_insert_0 : decode cX4_insert 0 = .ok (.aload_n 0, 1) := by decide +kernel
theorem dX4_insert_1 : decode cX4_insert 1 = .ok (.getfield 17, 3) := by decide +kernel
theorem dX4_insert_4 : decode cX4_insert 4 = .ok (.istore_n 2, 1) := by decide +kernel
theorem dX4_insert_5 : decode cX4_insert 5 = .ok (.iload_n 2, 1) := by decide +kernel
theorem dX4_insert_6 : decode cX4_insert 6 = .ok (.ifCond .le 41, 3) := by decide +kernel
theorem dX4_insert_9 : decode cX4_insert 9 = .ok (.aload_n 0, 1) := by decide +kernel
theorem dX4_insert_10 : decode cX4_insert 10 = .ok (.getfield 11, 3) := by decide +kernel
theorem dX4_insert_13 : decode cX4_insert 13 = .ok (.iload_n 2, 1) := by decide +kernel
theorem dX4_insert_14 : decode cX4_insert 14 = .ok (.iconst 1, 1) := by decide +kernel
theorem dX4_insert_15 : decode cX4_insert 15 = .ok (.isub, 1) := by decide +kernel
theorem dX4_insert_16 : decode cX4_insert 16 = .ok (.aaload, 1) := by decide +kernel
theorem dX4_insert_17 : decode cX4_insert 17 = .ok (.getfield 35, 3) := by decide +kernel
theorem dX4_insert_20 : decode cX4_insert 20 = .ok (.aload_n 1, 1) := by decide +kernel
theorem dX4_insert_21 : decode cX4_insert 21 = .ok (.getfield 35, 3) := by decide +kernel
theorem dX4_insert_24 : decode cX4_insert 24 = .ok (.if_icmp .le 23, 3) := by decide +kernel
theorem dX4_insert_27 : decode cX4_insert 27 = .ok (.aload_n 0, 1) := by decide +kernel
theorem dX4_insert_28 : decode cX4_insert 28 = .ok (.getfield 11, 3) := by decide +kernel
theorem dX4_insert_31 : decode cX4_insert 31 = .ok (.iload_n 2, 1) := by decide +kernel
theorem dX4_insert_32 : decode cX4_insert 32 = .ok (.aload_n 0, 1) := by decide +kernel
theorem dX4_insert_33 : decode cX4_insert 33 = .ok (.getfield 11, 3) := by decide +kernel
theorem dX4_insert_36 : decode cX4_insert 36 = .ok (.iload_n 2, 1) := by decide +kernel
theorem dX4_insert_37 : decode cX4_insert 37 = .ok (.iconst 1, 1) := by decide +kernel
theorem dX4_insert_38 : decode cX4_insert 38 = .ok (.isub, 1) := by decide +kernel
theorem dX4_insert_39 : decode cX4_insert 39 = .ok (.aaload, 1) := by decide +kernel
theorem dX4_insert_40 : decode cX4_insert 40 = .ok (.aastore, 1) := by decide +kernel
theorem dX4_insert_41 : decode cX4_insert 41 = .ok (.iinc 2 (-1), 3) := by decide +kernel
theorem dX4_insert_44 : decode cX4_insert 44 = .ok (.goto (-39), 3) := by decide +kernel
end
section
theorem dX4_insert_47 : decode cX4_insert 47 = .ok (.aload_n 0, 1) := by decide +kernel
theorem dX4_insert_48 : decode cX4_insert 48 = .ok (.getfield 11, 3) := by decide +kernel
theorem dX4_insert_51 : decode cX4_insert 51 = .ok (.iload_n 2, 1) := by decide +kernel
theorem dX4_insert_52 : decode cX4_insert 52 = .ok (.aload_n 1, 1) := by decide +kernel
theorem dX4_insert_53 : decode cX4_insert 53 = .ok (.aastore, 1) := by decide +kernel
theorem dX4_insert_54 : decode cX4_insert 54 = .ok (.aload_n 0, 1) := by decide +kernel
theorem dX4_insert_55 : decode cX4_insert 55 = .ok (.dup, 1) := by decide +kernel
theorem dX4_insert_56 : decode cX4_insert 56 = .ok (.getfield 17, 3) := by decide +kernel
theorem dX4_insert_59 : decode cX4_insert 59 = .ok (.iconst 1, 1) := by decide +kernel
theorem dX4_insert_60 : decode cX4_insert 60 = .ok (.iadd, 1) := by decide +kernel
theorem dX4_insert_61 : decode cX4_insert 61 = .ok (.putfield 17, 3) := by decide +kernel
theorem dX4_insert_64 : decode cX4_insert 64 = .ok (.return_, 1) := by decide +kernel
theorem dX5_init_0 : decode cX5_init 0 = .ok (.aload_n 0, 1) := by decide +kernel
theorem dX5_init_1 : decode cX5_init 1 = .ok (.invokespecial 3, 3) := by decide +kernel
theorem dX5_init_4 : decode cX5_init 4 = .ok (.aload_n 0, 1) := by decide +kernel
theorem dX5_init_5 : decode cX5_init 5 = .ok (.aload_n 2, 1) := by decide +kernel
theorem dX5_init_6 : decode cX5_init 6 = .ok (.putfield 9, 3) := by decide +kernel
theorem dX5_init_9 : decode cX5_init 9 = .ok (.aload_n 0, 1) := by decide +kernel
theorem dX5_init_10 : decode cX5_init 10 = .ok (.new 15, 3) := by decide +kernel
theorem dX5_init_13 : decode cX5_init 13 = .ok (.dup, 1) := by decide +kernel
theorem dX5_init_14 : decode cX5_init 14 = .ok (.aload_n 1, 1) := by decide +kernel
theorem dX5_init_15 : decode cX5_init 15 = .ok (.iconst 0, 1) := by decide +kernel
theorem dX5_init_16 : decode cX5_init 16 = .ok (.invokespecial 17, 3) := by decide +kernel
theorem dX5_init_19 : decode cX5_init 19 = .ok (.putfield 20, 3) := by decide +kernel
theorem dX5_init_22 : decode cX5_init 22 = .ok (.aload_n 0, 1) := by decide +kernel
theorem dX5_init_23 : decode cX5_init 23 = .ok (.new 15, 3) := by decide +kernel
theorem dX5_init_26 : decode cX5_init 26 = .ok (.dup, 1) := by decide +kernel
theorem dX5_init_27 : decode cX5_init 27 = .ok (.aload_n 1, 1) := by decide +kernel
theorem dX5_init_28 : decode cX5_init 28 = .ok (.iconst 1, 1) := by decide +kernel
theorem dX5_init_29 : decode cX5_init 29 = .ok (.invokespecial 17, 3) := by decide +kernel
theorem dX5_init_32 : decode cX5_init 32 = .ok (.putfield 24, 3) := by decide +kernel
theorem dX5_init_35 : decode cX5_init 35 = .ok (.return_, 1) := by decide +kernel
theorem dX5_beginBook_0 : decode cX5_beginBook 0 = .ok (.aload_n 0, 1) := by decide +kernel
theorem dX5_beginBook_1 : decode cX5_beginBook 1 = .ok (.getfield 20, 3) := by decide +kernel
theorem dX5_beginBook_4 : decode cX5_beginBook 4 = .ok (.iconst 0, 1) := by decide +kernel
theorem dX5_beginBook_5 : decode cX5_beginBook 5 = .ok (.putfield 27, 3) := by decide +kernel
theorem dX5_beginBook_8 : decode cX5_beginBook 8 = .ok (.aload_n 0, 1) := by decide +kernel
theorem dX5_beginBook_9 : decode cX5_beginBook 9 = .ok (.getfield 24, 3) := by decide +kernel
theorem dX5_beginBook_12 : decode cX5_beginBook 12 = .ok (.iconst 0, 1) := by decide +kernel
theorem dX5_beginBook_13 : decode cX5_beginBook 13 = .ok (.putfield 27, 3) := by decide +kernel
theorem dX5_beginBook_16 : decode cX5_beginBook 16 = .ok (.aload_n 0, 1) := by decide +kernel
theorem dX5_beginBook_17 : decode cX5_beginBook 17 = .ok (.iconst 0, 1) := by decide +kernel
theorem dX5_beginBook_18 : decode cX5_beginBook 18 = .ok (.putfield 31, 3) := by decide +kernel
theorem dX5_beginBook_21 : decode cX5_beginBook 21 = .ok (.return_, 1) := by decide +kernel
theorem dX5_beginPage_0 : decode cX5_beginPage 0 = .ok (.aload_n 0, 1) := by decide +kernel
theorem dX5_beginPage_1 : decode cX5_beginPage 1 = .ok (.aload_n 0, 1) := by decide +kernel
theorem dX5_beginPage_2 : decode cX5_beginPage 2 = .ok (.getfield 31, 3) := by decide +kernel
theorem dX5_beginPage_5 : decode cX5_beginPage 5 = .ok (.putfield 34, 3) := by decide +kernel
theorem dX5_beginPage_8 : decode cX5_beginPage 8 = .ok (.aload_n 0, 1) := by decide +kernel
theorem dX5_beginPage_9 : decode cX5_beginPage 9 = .ok (.iconst 0, 1) := by decide +kernel
theorem dX5_beginPage_10 : decode cX5_beginPage 10 = .ok (.putfield 37, 3) := by decide +kernel
theorem dX5_beginPage_13 : decode cX5_beginPage 13 = .ok (.aload_n 0, 1) := by decide +kernel
theorem dX5_beginPage_14 : decode cX5_beginPage 14 = .ok (.iconst 0, 1) := by decide +kernel
theorem dX5_beginPage_15 : decode cX5_beginPage 15 = .ok (.putfield 40, 3) := by decide +kernel
theorem dX5_beginPage_18 : decode cX5_beginPage 18 = .ok (.return_, 1) := by decide +kernel
theorem dX5_carries_0 : decode cX5_carries 0 = .ok (.aload_n 0, 1) := by decide +kernel
theorem dX5_carries_1 : decode cX5_carries 1 = .ok (.getfield 20, 3) := by decide +kernel
theorem dX5_carries_4 : decode cX5_carries 4 = .ok (.getfield 27, 3) := by decide +kernel
theorem dX5_carries_7 : decode cX5_carries 7 = .ok (.ifCond .gt 13, 3) := by decide +kernel
theorem dX5_carries_10 : decode cX5_carries 10 = .ok (.aload_n 0, 1) := by decide +kernel
theorem dX5_carries_11 : decode cX5_carries 11 = .ok (.getfield 24, 3) := by decide +kernel
theorem dX5_carries_14 : decode cX5_carries 14 = .ok (.getfield 27, 3) := by decide +kernel
theorem dX5_carries_17 : decode cX5_carries 17 = .ok (.ifCond .le 7, 3) := by decide +kernel
theorem dX5_carries_20 : decode cX5_carries 20 = .ok (.iconst 1, 1) := by decide +kernel
theorem dX5_carries_21 : decode cX5_carries 21 = .ok (.goto 4, 3) := by decide +kernel
theorem dX5_carries_24 : decode cX5_carries 24 = .ok (.iconst 0, 1) := by decide +kernel
theorem dX5_carries_25 : decode cX5_carries 25 = .ok (.ireturn, 1) := by decide +kernel
theorem dX5_takeNotesOf_0 : decode cX5_takeNotesOf 0 = .ok (.aload_n 0, 1) := by decide +kernel
theorem dX5_takeNotesOf_1 : decode cX5_takeNotesOf 1 = .ok (.getfield 31, 3) := by decide +kernel
theorem dX5_takeNotesOf_4 : decode cX5_takeNotesOf 4 = .ok (.istore_n 2, 1) := by decide +kernel
theorem dX5_takeNotesOf_5 : decode cX5_takeNotesOf 5 = .ok (.aload_n 0, 1) := by decide +kernel
theorem dX5_takeNotesOf_6 : decode cX5_takeNotesOf 6 = .ok (.getfield 37, 3) := by decide +kernel
theorem dX5_takeNotesOf_9 : decode cX5_takeNotesOf 9 = .ok (.istore_n 3, 1) := by decide +kernel
theorem dX5_takeNotesOf_10 : decode cX5_takeNotesOf 10 = .ok (.aload_n 0, 1) := by decide +kernel
theorem dX5_takeNotesOf_11 : decode cX5_takeNotesOf 11 = .ok (.getfield 31, 3) := by decide +kernel
theorem dX5_takeNotesOf_14 : decode cX5_takeNotesOf 14 = .ok (.aload_n 0, 1) := by decide +kernel
theorem dX5_takeNotesOf_15 : decode cX5_takeNotesOf 15 = .ok (.getfield 9, 3) := by decide +kernel
theorem dX5_takeNotesOf_18 : decode cX5_takeNotesOf 18 = .ok (.getfield 43, 3) := by decide +kernel
theorem dX5_takeNotesOf_21 : decode cX5_takeNotesOf 21 = .ok (.if_icmp .ge 64, 3) := by decide +kernel
theorem dX5_takeNotesOf_24 : decode cX5_takeNotesOf 24 = .ok (.aload_n 0, 1) := by decide +kernel
theorem dX5_takeNotesOf_25 : decode cX5_takeNotesOf 25 = .ok (.getfield 9, 3) := by decide +kernel
theorem dX5_takeNotesOf_28 : decode cX5_takeNotesOf 28 = .ok (.getfield 48, 3) := by decide +kernel
theorem dX5_takeNotesOf_31 : decode cX5_takeNotesOf 31 = .ok (.aload_n 0, 1) := by decide +kernel
theorem dX5_takeNotesOf_32 : decode cX5_takeNotesOf 32 = .ok (.getfield 31, 3) := by decide +kernel
theorem dX5_takeNotesOf_35 : decode cX5_takeNotesOf 35 = .ok (.aaload, 1) := by decide +kernel
theorem dX5_takeNotesOf_36 : decode cX5_takeNotesOf 36 = .ok (.getfield 52, 3) := by decide +kernel
theorem dX5_takeNotesOf_39 : decode cX5_takeNotesOf 39 = .ok (.iload_n 1, 1) := by decide +kernel
theorem dX5_takeNotesOf_40 : decode cX5_takeNotesOf 40 = .ok (.if_icmp .ne 45, 3) := by decide +kernel
theorem dX5_takeNotesOf_43 : decode cX5_takeNotesOf 43 = .ok (.aload_n 0, 1) := by decide +kernel
theorem dX5_takeNotesOf_44 : decode cX5_takeNotesOf 44 = .ok (.getfield 9, 3) := by decide +kernel
theorem dX5_takeNotesOf_47 : decode cX5_takeNotesOf 47 = .ok (.getfield 48, 3) := by decide +kernel
theorem dX5_takeNotesOf_50 : decode cX5_takeNotesOf 50 = .ok (.aload_n 0, 1) := by decide +kernel
theorem dX5_takeNotesOf_51 : decode cX5_takeNotesOf 51 = .ok (.getfield 31, 3) := by decide +kernel
theorem dX5_takeNotesOf_54 : decode cX5_takeNotesOf 54 = .ok (.aaload, 1) := by decide +kernel
theorem dX5_takeNotesOf_55 : decode cX5_takeNotesOf 55 = .ok (.getfield 57, 3) := by decide +kernel
theorem dX5_takeNotesOf_58 : decode cX5_takeNotesOf 58 = .ok (.iconst 2, 1) := by decide +kernel
theorem dX5_takeNotesOf_59 : decode cX5_takeNotesOf 59 = .ok (.if_icmp .ne 13, 3) := by decide +kernel
theorem dX5_takeNotesOf_62 : decode cX5_takeNotesOf 62 = .ok (.aload_n 0, 1) := by decide +kernel
theorem dX5_takeNotesOf_63 : decode cX5_takeNotesOf 63 = .ok (.dup, 1) := by decide +kernel
theorem dX5_takeNotesOf_64 : decode cX5_takeNotesOf 64 = .ok (.getfield 37, 3) := by decide +kernel
theorem dX5_takeNotesOf_67 : decode cX5_takeNotesOf 67 = .ok (.iconst 1, 1) := by decide +kernel
theorem dX5_takeNotesOf_68 : decode cX5_takeNotesOf 68 = .ok (.iadd, 1) := by decide +kernel
theorem dX5_takeNotesOf_69 : decode cX5_takeNotesOf 69 = .ok (.putfield 37, 3) := by decide +kernel
theorem dX5_takeNotesOf_72 : decode cX5_takeNotesOf 72 = .ok (.aload_n 0, 1) := by decide +kernel
theorem dX5_takeNotesOf_73 : decode cX5_takeNotesOf 73 = .ok (.dup, 1) := by decide +kernel
theorem dX5_takeNotesOf_74 : decode cX5_takeNotesOf 74 = .ok (.getfield 31, 3) := by decide +kernel
theorem dX5_takeNotesOf_77 : decode cX5_takeNotesOf 77 = .ok (.iconst 1, 1) := by decide +kernel
theorem dX5_takeNotesOf_78 : decode cX5_takeNotesOf 78 = .ok (.iadd, 1) := by decide +kernel
theorem dX5_takeNotesOf_79 : decode cX5_takeNotesOf 79 = .ok (.putfield 31, 3) := by decide +kernel
theorem dX5_takeNotesOf_82 : decode cX5_takeNotesOf 82 = .ok (.goto (-72), 3) := by decide +kernel
theorem dX5_takeNotesOf_85 : decode cX5_takeNotesOf 85 = .ok (.aload_n 0, 1) := by decide +kernel
theorem dX5_takeNotesOf_86 : decode cX5_takeNotesOf 86 = .ok (.getfield 31, 3) := by decide +kernel
theorem dX5_takeNotesOf_89 : decode cX5_takeNotesOf 89 = .ok (.iload_n 2, 1) := by decide +kernel
theorem dX5_takeNotesOf_90 : decode cX5_takeNotesOf 90 = .ok (.if_icmp .eq 16, 3) := by decide +kernel
theorem dX5_takeNotesOf_93 : decode cX5_takeNotesOf 93 = .ok (.aload_n 0, 1) := by decide +kernel
theorem dX5_takeNotesOf_94 : decode cX5_takeNotesOf 94 = .ok (.aload_n 0, 1) := by decide +kernel
theorem dX5_takeNotesOf_95 : decode cX5_takeNotesOf 95 = .ok (.getfield 37, 3) := by decide +kernel
theorem dX5_takeNotesOf_98 : decode cX5_takeNotesOf 98 = .ok (.iload_n 3, 1) := by decide +kernel
theorem dX5_takeNotesOf_99 : decode cX5_takeNotesOf 99 = .ok (.isub, 1) := by decide +kernel
theorem dX5_takeNotesOf_100 : decode cX5_takeNotesOf 100 = .ok (.invokevirtual 60, 3) := by decide +kernel
theorem dX5_takeNotesOf_103 : decode cX5_takeNotesOf 103 = .ok (.ifCond .eq 5, 3) := by decide +kernel
theorem dX5_takeNotesOf_106 : decode cX5_takeNotesOf 106 = .ok (.iconst 1, 1) := by decide +kernel
theorem dX5_takeNotesOf_107 : decode cX5_takeNotesOf 107 = .ok (.ireturn, 1) := by decide +kernel
theorem dX5_takeNotesOf_108 : decode cX5_takeNotesOf 108 = .ok (.aload_n 0, 1) := by decide +kernel
theorem dX5_takeNotesOf_109 : decode cX5_takeNotesOf 109 = .ok (.iload_n 2, 1) := by decide +kernel
theorem dX5_takeNotesOf_110 : decode cX5_takeNotesOf 110 = .ok (.putfield 31, 3) := by decide +kernel
theorem dX5_takeNotesOf_113 : decode cX5_takeNotesOf 113 = .ok (.aload_n 0, 1) := by decide +kernel
theorem dX5_takeNotesOf_114 : decode cX5_takeNotesOf 114 = .ok (.iload_n 3, 1) := by decide +kernel
theorem dX5_takeNotesOf_115 : decode cX5_takeNotesOf 115 = .ok (.putfield 37, 3) := by decide +kernel
theorem dX5_takeNotesOf_118 : decode cX5_takeNotesOf 118 = .ok (.iconst 0, 1) := by decide +kernel
theorem dX5_takeNotesOf_119 : decode cX5_takeNotesOf 119 = .ok (.ireturn, 1) := by decide +kernel
theorem dX5_findDealing_0 : decode cX5_findDealing 0 = .ok (.aload_n 0, 1) := by decide +kernel
theorem dX5_findDealing_1 : decode cX5_findDealing 1 = .ok (.getfield 37, 3) := by decide +kernel
theorem dX5_findDealing_4 : decode cX5_findDealing 4 = .ok (.bipush 6, 2) := by decide +kernel
theorem dX5_findDealing_6 : decode cX5_findDealing 6 = .ok (.if_icmp .le 5, 3) := by decide +kernel
theorem dX5_findDealing_9 : decode cX5_findDealing 9 = .ok (.iconst 0, 1) := by decide +kernel
theorem dX5_findDealing_10 : decode cX5_findDealing 10 = .ok (.ireturn, 1) := by decide +kernel
theorem dX5_findDealing_11 : decode cX5_findDealing 11 = .ok (.aload_n 0, 1) := by decide +kernel
theorem dX5_findDealing_12 : decode cX5_findDealing 12 = .ok (.getfield 40, 3) := by decide +kernel
theorem dX5_findDealing_15 : decode cX5_findDealing 15 = .ok (.iload_n 1, 1) := by decide +kernel
theorem dX5_findDealing_16 : decode cX5_findDealing 16 = .ok (.ishl, 1) := by decide +kernel
theorem dX5_findDealing_17 : decode cX5_findDealing 17 = .ok (.istore_n 2, 1) := by decide +kernel
theorem dX5_findDealing_18 : decode cX5_findDealing 18 = .ok (.iload_n 2, 1) := by decide +kernel
theorem dX5_findDealing_19 : decode cX5_findDealing 19 = .ok (.aload_n 0, 1) := by decide +kernel
theorem dX5_findDealing_20 : decode cX5_findDealing 20 = .ok (.invokevirtual 64, 3) := by decide +kernel
theorem dX5_findDealing_23 : decode cX5_findDealing 23 = .ok (.if_icmp .ge 41, 3) := by decide +kernel
theorem dX5_findDealing_26 : decode cX5_findDealing 26 = .ok (.aload_n 0, 1) := by decide +kernel
theorem dX5_findDealing_27 : decode cX5_findDealing 27 = .ok (.iload_n 2, 1) := by decide +kernel
theorem dX5_findDealing_28 : decode cX5_findDealing 28 = .ok (.invokevirtual 68, 3) := by decide +kernel
theorem dX5_findDealing_31 : decode cX5_findDealing 31 = .ok (.aload_n 0, 1) := by decide +kernel
theorem dX5_findDealing_32 : decode cX5_findDealing 32 = .ok (.getfield 20, 3) := by decide +kernel
theorem dX5_findDealing_35 : decode cX5_findDealing 35 = .ok (.invokevirtual 72, 3) := by decide +kernel
theorem dX5_findDealing_38 : decode cX5_findDealing 38 = .ok (.ifCond .eq 20, 3) := by decide +kernel
theorem dX5_findDealing_41 : decode cX5_findDealing 41 = .ok (.aload_n 0, 1) := by decide +kernel
theorem dX5_findDealing_42 : decode cX5_findDealing 42 = .ok (.getfield 24, 3) := by decide +kernel
theorem dX5_findDealing_45 : decode cX5_findDealing 45 = .ok (.invokevirtual 72, 3) := by decide +kernel
theorem dX5_findDealing_48 : decode cX5_findDealing 48 = .ok (.ifCond .eq 10, 3) := by decide +kernel
theorem dX5_findDealing_51 : decode cX5_findDealing 51 = .ok (.aload_n 0, 1) := by decide +kernel
theorem dX5_findDealing_52 : decode cX5_findDealing 52 = .ok (.iload_n 2, 1) := by decide +kernel
theorem dX5_findDealing_53 : decode cX5_findDealing 53 = .ok (.putfield 40, 3) := by decide +kernel
theorem dX5_findDealing_56 : decode cX5_findDealing 56 = .ok (.iconst 1, 1) := by decide +kernel
theorem dX5_findDealing_57 : decode cX5_findDealing 57 = .ok (.ireturn, 1) := by decide +kernel
theorem dX5_findDealing_58 : decode cX5_findDealing 58 = .ok (.iinc 2 1, 3) := by decide +kernel
theorem dX5_findDealing_61 : decode cX5_findDealing 61 = .ok (.goto (-43), 3) := by decide +kernel
theorem dX5_findDealing_64 : decode cX5_findDealing 64 = .ok (.iconst 0, 1) := by decide +kernel
theorem dX5_findDealing_65 : decode cX5_findDealing 65 = .ok (.ireturn, 1) := by decide +kernel
theorem dX5_dealings_0 : decode cX5_dealings 0 = .ok (.iconst 1, 1) := by decide +kernel
theorem dX5_dealings_1 : decode cX5_dealings 1 = .ok (.aload_n 0, 1) := by decide +kernel
theorem dX5_dealings_2 : decode cX5_dealings 2 = .ok (.getfield 37, 3) := by decide +kernel
theorem dX5_dealings_5 : decode cX5_dealings 5 = .ok (.ishl, 1) := by decide +kernel
theorem dX5_dealings_6 : decode cX5_dealings 6 = .ok (.ireturn, 1) := by decide +kernel
theorem dX5_deal_0 : decode cX5_deal 0 = .ok (.aload_n 0, 1) := by decide +kernel
theorem dX5_deal_1 : decode cX5_deal 1 = .ok (.getfield 20, 3) := by decide +kernel
theorem dX5_deal_4 : decode cX5_deal 4 = .ok (.invokevirtual 76, 3) := by decide +kernel
theorem dX5_deal_7 : decode cX5_deal 7 = .ok (.aload_n 0, 1) := by decide +kernel
theorem dX5_deal_8 : decode cX5_deal 8 = .ok (.getfield 24, 3) := by decide +kernel
theorem dX5_deal_11 : decode cX5_deal 11 = .ok (.invokevirtual 76, 3) := by decide +kernel
theorem dX5_deal_14 : decode cX5_deal 14 = .ok (.aload_n 0, 1) := by decide +kernel
theorem dX5_deal_15 : decode cX5_deal 15 = .ok (.invokevirtual 64, 3) := by decide +kernel
theorem dX5_deal_18 : decode cX5_deal 18 = .ok (.iconst 1, 1) := by decide +kernel
theorem dX5_deal_19 : decode cX5_deal 19 = .ok (.ishr, 1) := by decide +kernel
theorem dX5_deal_20 : decode cX5_deal 20 = .ok (.istore_n 2, 1) := by decide +kernel
theorem dX5_deal_21 : decode cX5_deal 21 = .ok (.aload_n 0, 1) := by decide +kernel
theorem dX5_deal_22 : decode cX5_deal 22 = .ok (.getfield 34, 3) := by decide +kernel
theorem dX5_deal_25 : decode cX5_deal 25 = .ok (.istore_n 3, 1) := by decide +kernel
theorem dX5_deal_26 : decode cX5_deal 26 = .ok (.iload_n 3, 1) := by decide +kernel
theorem dX5_deal_27 : decode cX5_deal 27 = .ok (.aload_n 0, 1) := by decide +kernel
theorem dX5_deal_28 : decode cX5_deal 28 = .ok (.getfield 31, 3) := by decide +kernel
theorem dX5_deal_31 : decode cX5_deal 31 = .ok (.if_icmp .ge 88, 3) := by decide +kernel
theorem dX5_deal_34 : decode cX5_deal 34 = .ok (.aload_n 0, 1) := by decide +kernel
theorem dX5_deal_35 : decode cX5_deal 35 = .ok (.getfield 9, 3) := by decide +kernel
theorem dX5_deal_38 : decode cX5_deal 38 = .ok (.getfield 48, 3) := by decide +kernel
theorem dX5_deal_41 : decode cX5_deal 41 = .ok (.iload_n 3, 1) := by decide +kernel
theorem dX5_deal_42 : decode cX5_deal 42 = .ok (.aaload, 1) := by decide +kernel
theorem dX5_deal_43 : decode cX5_deal 43 = .ok (.astore 4, 2) := by decide +kernel
theorem dX5_deal_45 : decode cX5_deal 45 = .ok (.aload 4, 2) := by decide +kernel
theorem dX5_deal_47 : decode cX5_deal 47 = .ok (.getfield 57, 3) := by decide +kernel
theorem dX5_deal_50 : decode cX5_deal 50 = .ok (.iconst 1, 1) := by decide +kernel
theorem dX5_deal_51 : decode cX5_deal 51 = .ok (.if_icmp .ne 7, 3) := by decide +kernel
theorem dX5_deal_54 : decode cX5_deal 54 = .ok (.iconst 1, 1) := by decide +kernel
theorem dX5_deal_55 : decode cX5_deal 55 = .ok (.goto 4, 3) := by decide +kernel
theorem dX5_deal_58 : decode cX5_deal 58 = .ok (.iconst 0, 1) := by decide +kernel
theorem dX5_deal_59 : decode cX5_deal 59 = .ok (.istore 5, 2) := by decide +kernel
theorem dX5_deal_61 : decode cX5_deal 61 = .ok (.aload 4, 2) := by decide +kernel
theorem dX5_deal_63 : decode cX5_deal 63 = .ok (.getfield 57, 3) := by decide +kernel
theorem dX5_deal_66 : decode cX5_deal 66 = .ok (.iconst 2, 1) := by decide +kernel
theorem dX5_deal_67 : decode cX5_deal 67 = .ok (.if_icmp .ne 20, 3) := by decide +kernel
theorem dX5_deal_70 : decode cX5_deal 70 = .ok (.iload_n 1, 1) := by decide +kernel
theorem dX5_deal_71 : decode cX5_deal 71 = .ok (.iload_n 2, 1) := by decide +kernel
theorem dX5_deal_72 : decode cX5_deal 72 = .ok (.iand, 1) := by decide +kernel
theorem dX5_deal_73 : decode cX5_deal 73 = .ok (.ifCond .eq 7, 3) := by decide +kernel
theorem dX5_deal_76 : decode cX5_deal 76 = .ok (.iconst 1, 1) := by decide +kernel
theorem dX5_deal_77 : decode cX5_deal 77 = .ok (.goto 4, 3) := by decide +kernel
theorem dX5_deal_80 : decode cX5_deal 80 = .ok (.iconst 0, 1) := by decide +kernel
theorem dX5_deal_81 : decode cX5_deal 81 = .ok (.istore 5, 2) := by decide +kernel
theorem dX5_deal_83 : decode cX5_deal 83 = .ok (.iload_n 2, 1) := by decide +kernel
theorem dX5_deal_84 : decode cX5_deal 84 = .ok (.iconst 1, 1) := by decide +kernel
theorem dX5_deal_85 : decode cX5_deal 85 = .ok (.ishr, 1) := by decide +kernel
theorem dX5_deal_86 : decode cX5_deal 86 = .ok (.istore_n 2, 1) := by decide +kernel
theorem dX5_deal_87 : decode cX5_deal 87 = .ok (.iload 5, 2) := by decide +kernel
theorem dX5_deal_89 : decode cX5_deal 89 = .ok (.ifCond .eq 15, 3) := by decide +kernel
theorem dX5_deal_92 : decode cX5_deal 92 = .ok (.aload_n 0, 1) := by decide +kernel
theorem dX5_deal_93 : decode cX5_deal 93 = .ok (.getfield 24, 3) := by decide +kernel
theorem dX5_deal_96 : decode cX5_deal 96 = .ok (.aload 4, 2) := by decide +kernel
theorem dX5_deal_98 : decode cX5_deal 98 = .ok (.invokevirtual 79, 3) := by decide +kernel
theorem dX5_deal_101 : decode cX5_deal 101 = .ok (.goto 12, 3) := by decide +kernel
theorem dX5_deal_104 : decode cX5_deal 104 = .ok (.aload_n 0, 1) := by decide +kernel
theorem dX5_deal_105 : decode cX5_deal 105 = .ok (.getfield 20, 3) := by decide +kernel
theorem dX5_deal_108 : decode cX5_deal 108 = .ok (.aload 4, 2) := by decide +kernel
theorem dX5_deal_110 : decode cX5_deal 110 = .ok (.invokevirtual 79, 3) := by decide +kernel
theorem dX5_deal_113 : decode cX5_deal 113 = .ok (.iinc 3 1, 3) := by decide +kernel
theorem dX5_deal_116 : decode cX5_deal 116 = .ok (.goto (-90), 3) := by decide +kernel
theorem dX5_deal_119 : decode cX5_deal 119 = .ok (.return_, 1) := by decide +kernel
theorem dX5_setBest_0 : decode cX5_setBest 0 = .ok (.ldc 83, 2) := by decide +kernel
theorem dX5_setBest_2 : decode cX5_setBest 2 = .ok (.istore_n 1, 1) := by decide +kernel
theorem dX5_setBest_3 : decode cX5_setBest 3 = .ok (.aload_n 0, 1) := by decide +kernel
theorem dX5_setBest_4 : decode cX5_setBest 4 = .ok (.getfield 40, 3) := by decide +kernel
theorem dX5_setBest_7 : decode cX5_setBest 7 = .ok (.istore_n 2, 1) := by decide +kernel
theorem dX5_setBest_8 : decode cX5_setBest 8 = .ok (.iconst 0, 1) := by decide +kernel
theorem dX5_setBest_9 : decode cX5_setBest 9 = .ok (.istore_n 3, 1) := by decide +kernel
theorem dX5_setBest_10 : decode cX5_setBest 10 = .ok (.iconst 0, 1) := by decide +kernel
theorem dX5_setBest_11 : decode cX5_setBest 11 = .ok (.istore 4, 2) := by decide +kernel
theorem dX5_setBest_13 : decode cX5_setBest 13 = .ok (.aload_n 0, 1) := by decide +kernel
theorem dX5_setBest_14 : decode cX5_setBest 14 = .ok (.getfield 40, 3) := by decide +kernel
theorem dX5_setBest_17 : decode cX5_setBest 17 = .ok (.istore 5, 2) := by decide +kernel
theorem dX5_setBest_19 : decode cX5_setBest 19 = .ok (.iload 5, 2) := by decide +kernel
theorem dX5_setBest_21 : decode cX5_setBest 21 = .ok (.aload_n 0, 1) := by decide +kernel
theorem dX5_setBest_22 : decode cX5_setBest 22 = .ok (.invokevirtual 64, 3) := by decide +kernel
theorem dX5_setBest_25 : decode cX5_setBest 25 = .ok (.if_icmp .ge 87, 3) := by decide +kernel
theorem dX5_setBest_28 : decode cX5_setBest 28 = .ok (.iload_n 1, 1) := by decide +kernel
theorem dX5_setBest_29 : decode cX5_setBest 29 = .ok (.ifCond .le 83, 3) := by decide +kernel
theorem dX5_setBest_32 : decode cX5_setBest 32 = .ok (.aload_n 0, 1) := by decide +kernel
theorem dX5_setBest_33 : decode cX5_setBest 33 = .ok (.iload 5, 2) := by decide +kernel
theorem dX5_setBest_35 : decode cX5_setBest 35 = .ok (.invokevirtual 68, 3) := by decide +kernel
theorem dX5_setBest_38 : decode cX5_setBest 38 = .ok (.aload_n 0, 1) := by decide +kernel
theorem dX5_setBest_39 : decode cX5_setBest 39 = .ok (.getfield 20, 3) := by decide +kernel
theorem dX5_setBest_42 : decode cX5_setBest 42 = .ok (.iload_n 1, 1) := by decide +kernel
theorem dX5_setBest_43 : decode cX5_setBest 43 = .ok (.invokevirtual 84, 3) := by decide +kernel
theorem dX5_setBest_46 : decode cX5_setBest 46 = .ok (.istore 6, 2) := by decide +kernel
theorem dX5_setBest_48 : decode cX5_setBest 48 = .ok (.iload 6, 2) := by decide +kernel
theorem dX5_setBest_50 : decode cX5_setBest 50 = .ok (.iload_n 1, 1) := by decide +kernel
theorem dX5_setBest_51 : decode cX5_setBest 51 = .ok (.if_icmp .ge 17, 3) := by decide +kernel
theorem dX5_setBest_54 : decode cX5_setBest 54 = .ok (.aload_n 0, 1) := by decide +kernel
theorem dX5_setBest_55 : decode cX5_setBest 55 = .ok (.getfield 24, 3) := by decide +kernel
theorem dX5_setBest_58 : decode cX5_setBest 58 = .ok (.iload_n 1, 1) := by decide +kernel
theorem dX5_setBest_59 : decode cX5_setBest 59 = .ok (.iload 6, 2) := by decide +kernel
theorem dX5_setBest_61 : decode cX5_setBest 61 = .ok (.isub, 1) := by decide +kernel
theorem dX5_setBest_62 : decode cX5_setBest 62 = .ok (.invokevirtual 84, 3) := by decide +kernel
theorem dX5_setBest_65 : decode cX5_setBest 65 = .ok (.goto 4, 3) := by decide +kernel
theorem dX5_setBest_68 : decode cX5_setBest 68 = .ok (.iconst 0, 1) := by decide +kernel
theorem dX5_setBest_69 : decode cX5_setBest 69 = .ok (.istore 7, 2) := by decide +kernel
theorem dX5_setBest_71 : decode cX5_setBest 71 = .ok (.iload 6, 2) := by decide +kernel
theorem dX5_setBest_73 : decode cX5_setBest 73 = .ok (.iload 7, 2) := by decide +kernel
theorem dX5_setBest_75 : decode cX5_setBest 75 = .ok (.iadd, 1) := by decide +kernel
theorem dX5_setBest_76 : decode cX5_setBest 76 = .ok (.iload_n 1, 1) := by decide +kernel
theorem dX5_setBest_77 : decode cX5_setBest 77 = .ok (.if_icmp .ge 29, 3) := by decide +kernel
theorem dX5_setBest_80 : decode cX5_setBest 80 = .ok (.iload 6, 2) := by decide +kernel
theorem dX5_setBest_82 : decode cX5_setBest 82 = .ok (.iload 7, 2) := by decide +kernel
theorem dX5_setBest_84 : decode cX5_setBest 84 = .ok (.iadd, 1) := by decide +kernel
theorem dX5_setBest_85 : decode cX5_setBest 85 = .ok (.istore_n 1, 1) := by decide +kernel
theorem dX5_setBest_86 : decode cX5_setBest 86 = .ok (.iload 5, 2) := by decide +kernel
theorem dX5_setBest_88 : decode cX5_setBest 88 = .ok (.istore_n 2, 1) := by decide +kernel
theorem dX5_setBest_89 : decode cX5_setBest 89 = .ok (.aload_n 0, 1) := by decide +kernel
theorem dX5_setBest_90 : decode cX5_setBest 90 = .ok (.getfield 20, 3) := by decide +kernel
theorem dX5_setBest_93 : decode cX5_setBest 93 = .ok (.getfield 88, 3) := by decide +kernel
theorem dX5_setBest_96 : decode cX5_setBest 96 = .ok (.istore_n 3, 1) := by decide +kernel
theorem dX5_setBest_97 : decode cX5_setBest 97 = .ok (.aload_n 0, 1) := by decide +kernel
theorem dX5_setBest_98 : decode cX5_setBest 98 = .ok (.getfield 24, 3) := by decide +kernel
theorem dX5_setBest_101 : decode cX5_setBest 101 = .ok (.getfield 88, 3) := by decide +kernel
theorem dX5_setBest_104 : decode cX5_setBest 104 = .ok (.istore 4, 2) := by decide +kernel
theorem dX5_setBest_106 : decode cX5_setBest 106 = .ok (.iinc 5 1, 3) := by decide +kernel
theorem dX5_setBest_109 : decode cX5_setBest 109 = .ok (.goto (-90), 3) := by decide +kernel
theorem dX5_setBest_112 : decode cX5_setBest 112 = .ok (.aload_n 0, 1) := by decide +kernel
theorem dX5_setBest_113 : decode cX5_setBest 113 = .ok (.iload_n 2, 1) := by decide +kernel
theorem dX5_setBest_114 : decode cX5_setBest 114 = .ok (.invokevirtual 68, 3) := by decide +kernel
theorem dX5_setBest_117 : decode cX5_setBest 117 = .ok (.aload_n 0, 1) := by decide +kernel
theorem dX5_setBest_118 : decode cX5_setBest 118 = .ok (.getfield 20, 3) := by decide +kernel
theorem dX5_setBest_121 : decode cX5_setBest 121 = .ok (.iload_n 3, 1) := by decide +kernel
theorem dX5_setBest_122 : decode cX5_setBest 122 = .ok (.invokevirtual 91, 3) := by decide +kernel
theorem dX5_setBest_125 : decode cX5_setBest 125 = .ok (.aload_n 0, 1) := by decide +kernel
theorem dX5_setBest_126 : decode cX5_setBest 126 = .ok (.getfield 24, 3) := by decide +kernel
theorem dX5_setBest_129 : decode cX5_setBest 129 = .ok (.iload 4, 2) := by decide +kernel
theorem dX5_setBest_131 : decode cX5_setBest 131 = .ok (.invokevirtual 91, 3) := by decide +kernel
theorem dX5_setBest_134 : decode cX5_setBest 134 = .ok (.iload_n 1, 1) := by decide +kernel
theorem dX5_setBest_135 : decode cX5_setBest 135 = .ok (.ireturn, 1) := by decide +kernel
theorem dX6_init_0 : decode cX6_init 0 = .ok (.aload_n 0, 1) := by decide +kernel
theorem dX6_init_1 : decode cX6_init 1 = .ok (.invokespecial 3, 3) := by decide +kernel
theorem dX6_init_4 : decode cX6_init 4 = .ok (.aload_n 0, 1) := by decide +kernel
theorem dX6_init_5 : decode cX6_init 5 = .ok (.new 9, 3) := by decide +kernel
theorem dX6_init_8 : decode cX6_init 8 = .ok (.dup, 1) := by decide +kernel
theorem dX6_init_9 : decode cX6_init 9 = .ok (.invokespecial 11, 3) := by decide +kernel
theorem dX6_init_12 : decode cX6_init 12 = .ok (.putfield 12, 3) := by decide +kernel
theorem dX6_init_15 : decode cX6_init 15 = .ok (.aload_n 0, 1) := by decide +kernel
theorem dX6_init_16 : decode cX6_init 16 = .ok (.new 16, 3) := by decide +kernel
theorem dX6_init_19 : decode cX6_init 19 = .ok (.dup, 1) := by decide +kernel
theorem dX6_init_20 : decode cX6_init 20 = .ok (.aload_n 0, 1) := by decide +kernel
theorem dX6_init_21 : decode cX6_init 21 = .ok (.getfield 12, 3) := by decide +kernel
theorem dX6_init_24 : decode cX6_init 24 = .ok (.invokespecial 18, 3) := by decide +kernel
theorem dX6_init_27 : decode cX6_init 27 = .ok (.putfield 21, 3) := by decide +kernel
theorem dX6_init_30 : decode cX6_init 30 = .ok (.aload_n 0, 1) := by decide +kernel
theorem dX6_init_31 : decode cX6_init 31 = .ok (.iconst 0, 1) := by decide +kernel
theorem dX6_init_32 : decode cX6_init 32 = .ok (.putfield 25, 3) := by decide +kernel
theorem dX6_init_35 : decode cX6_init 35 = .ok (.return_, 1) := by decide +kernel
theorem dX6_status_0 : decode cX6_status 0 = .ok (.aload_n 0, 1) := by decide +kernel
theorem dX6_status_1 : decode cX6_status 1 = .ok (.getfield 25, 3) := by decide +kernel
theorem dX6_status_4 : decode cX6_status 4 = .ok (.ireturn, 1) := by decide +kernel
theorem dX6_page_0 : decode cX6_page 0 = .ok (.iload_n 1, 1) := by decide +kernel
theorem dX6_page_1 : decode cX6_page 1 = .ok (.bipush 10, 2) := by decide +kernel
theorem dX6_page_3 : decode cX6_page 3 = .ok (.sipush 400, 3) := by decide +kernel
theorem dX6_page_6 : decode cX6_page 6 = .ok (.invokestatic 29, 3) := by decide +kernel
theorem dX6_page_9 : decode cX6_page 9 = .ok (.ifCond .eq 13, 3) := by decide +kernel
theorem dX6_page_12 : decode cX6_page 12 = .ok (.iload_n 2, 1) := by decide +kernel
theorem dX6_page_13 : decode cX6_page 13 = .ok (.iconst 0, 1) := by decide +kernel
theorem dX6_page_14 : decode cX6_page 14 = .ok (.bipush 20, 2) := by decide +kernel
theorem dX6_page_16 : decode cX6_page 16 = .ok (.invokestatic 29, 3) := by decide +kernel
theorem dX6_page_19 : decode cX6_page 19 = .ok (.ifCond .ne 9, 3) := by decide +kernel
theorem dX6_page_22 : decode cX6_page 22 = .ok (.aload_n 0, 1) := by decide +kernel
theorem dX6_page_23 : decode cX6_page 23 = .ok (.iconst 2, 1) := by decide +kernel
theorem dX6_page_24 : decode cX6_page 24 = .ok (.invokevirtual 33, 3) := by decide +kernel
theorem dX6_page_27 : decode cX6_page 27 = .ok (.ireturn, 1) := by decide +kernel
theorem dX6_page_28 : decode cX6_page 28 = .ok (.aload_n 0, 1) := by decide +kernel
theorem dX6_page_29 : decode cX6_page 29 = .ok (.getfield 12, 3) := by decide +kernel
theorem dX6_page_32 : decode cX6_page 32 = .ok (.iload_n 1, 1) := by decide +kernel
theorem dX6_page_33 : decode cX6_page 33 = .ok (.putfield 37, 3) := by decide +kernel
theorem dX6_page_36 : decode cX6_page 36 = .ok (.aload_n 0, 1) := by decide +kernel
theorem dX6_page_37 : decode cX6_page 37 = .ok (.getfield 12, 3) := by decide +kernel
theorem dX6_page_40 : decode cX6_page 40 = .ok (.iload_n 2, 1) := by decide +kernel
theorem dX6_page_41 : decode cX6_page 41 = .ok (.putfield 40, 3) := by decide +kernel
theorem dX6_page_44 : decode cX6_page 44 = .ok (.aload_n 0, 1) := by decide +kernel
theorem dX6_page_45 : decode cX6_page 45 = .ok (.invokevirtual 43, 3) := by decide +kernel
theorem dX6_page_48 : decode cX6_page 48 = .ok (.ireturn, 1) := by decide +kernel
theorem dX6_line_0 : decode cX6_line 0 = .ok (.iload_n 1, 1) := by decide +kernel
theorem dX6_line_1 : decode cX6_line 1 = .ok (.invokestatic 47, 3) := by decide +kernel
theorem dX6_line_4 : decode cX6_line 4 = .ok (.ifCond .ne 9, 3) := by decide +kernel
theorem dX6_line_7 : decode cX6_line 7 = .ok (.aload_n 0, 1) := by decide +kernel
theorem dX6_line_8 : decode cX6_line 8 = .ok (.iconst 2, 1) := by decide +kernel
theorem dX6_line_9 : decode cX6_line 9 = .ok (.invokevirtual 50, 3) := by decide +kernel
theorem dX6_line_12 : decode cX6_line 12 = .ok (.ireturn, 1) := by decide +kernel
theorem dX6_line_13 : decode cX6_line 13 = .ok (.aload_n 0, 1) := by decide +kernel
theorem dX6_line_14 : decode cX6_line 14 = .ok (.getfield 12, 3) := by decide +kernel
theorem dX6_line_17 : decode cX6_line 17 = .ok (.getfield 54, 3) := by decide +kernel
theorem dX6_line_20 : decode cX6_line 20 = .ok (.bipush 60, 2) := by decide +kernel
theorem dX6_line_22 : decode cX6_line 22 = .ok (.if_icmp .lt 9, 3) := by decide +kernel
theorem dX6_line_25 : decode cX6_line 25 = .ok (.aload_n 0, 1) := by decide +kernel
theorem dX6_line_26 : decode cX6_line 26 = .ok (.iconst 3, 1) := by decide +kernel
theorem dX6_line_27 : decode cX6_line 27 = .ok (.invokevirtual 50, 3) := by decide +kernel
theorem dX6_line_30 : decode cX6_line 30 = .ok (.ireturn, 1) := by decide +kernel
theorem dX6_line_31 : decode cX6_line 31 = .ok (.aload_n 0, 1) := by decide +kernel
theorem dX6_line_32 : decode cX6_line 32 = .ok (.invokevirtual 43, 3) := by decide +kernel
theorem dX6_line_35 : decode cX6_line 35 = .ok (.pop, 1) := by decide +kernel
theorem dX6_line_36 : decode cX6_line 36 = .ok (.aload_n 0, 1) := by decide +kernel
theorem dX6_line_37 : decode cX6_line 37 = .ok (.aload_n 0, 1) := by decide +kernel
theorem dX6_line_38 : decode cX6_line 38 = .ok (.getfield 12, 3) := by decide +kernel
theorem dX6_line_41 : decode cX6_line 41 = .ok (.iload_n 1, 1) := by decide +kernel
theorem dX6_line_42 : decode cX6_line 42 = .ok (.invokevirtual 57, 3) := by decide +kernel
theorem dX6_line_45 : decode cX6_line 45 = .ok (.invokevirtual 60, 3) := by decide +kernel
theorem dX6_line_48 : decode cX6_line 48 = .ok (.ireturn, 1) := by decide +kernel
theorem dX6_change_0 : decode cX6_change 0 = .ok (.aload_n 0, 1) := by decide +kernel
theorem dX6_change_1 : decode cX6_change 1 = .ok (.getfield 12, 3) := by decide +kernel
theorem dX6_change_4 : decode cX6_change 4 = .ok (.iload_n 1, 1) := by decide +kernel
theorem dX6_change_5 : decode cX6_change 5 = .ok (.invokevirtual 63, 3) := by decide +kernel
theorem dX6_change_8 : decode cX6_change 8 = .ok (.ifCond .ne 9, 3) := by decide +kernel
theorem dX6_change_11 : decode cX6_change 11 = .ok (.aload_n 0, 1) := by decide +kernel
theorem dX6_change_12 : decode cX6_change 12 = .ok (.iconst 1, 1) := by decide +kernel
theorem dX6_change_13 : decode cX6_change 13 = .ok (.invokevirtual 33, 3) := by decide +kernel
theorem dX6_change_16 : decode cX6_change 16 = .ok (.ireturn, 1) := by decide +kernel
theorem dX6_change_17 : decode cX6_change 17 = .ok (.iload_n 2, 1) := by decide +kernel
theorem dX6_change_18 : decode cX6_change 18 = .ok (.invokestatic 47, 3) := by decide +kernel
theorem dX6_change_21 : decode cX6_change 21 = .ok (.ifCond .ne 9, 3) := by decide +kernel
theorem dX6_change_24 : decode cX6_change 24 = .ok (.aload_n 0, 1) := by decide +kernel
theorem dX6_change_25 : decode cX6_change 25 = .ok (.iconst 2, 1) := by decide +kernel
theorem dX6_change_26 : decode cX6_change 26 = .ok (.invokevirtual 33, 3) := by decide +kernel
theorem dX6_change_29 : decode cX6_change 29 = .ok (.ireturn, 1) := by decide +kernel
theorem dX6_change_30 : decode cX6_change 30 = .ok (.aload_n 0, 1) := by decide +kernel
theorem dX6_change_31 : decode cX6_change 31 = .ok (.getfield 12, 3) := by decide +kernel
theorem dX6_change_34 : decode cX6_change 34 = .ok (.getfield 66, 3) := by decide +kernel
theorem dX6_change_37 : decode cX6_change 37 = .ok (.iload_n 1, 1) := by decide +kernel
theorem dX6_change_38 : decode cX6_change 38 = .ok (.iload_n 2, 1) := by decide +kernel
theorem dX6_change_39 : decode cX6_change 39 = .ok (.iastore, 1) := by decide +kernel
theorem dX6_change_40 : decode cX6_change 40 = .ok (.aload_n 0, 1) := by decide +kernel
theorem dX6_change_41 : decode cX6_change 41 = .ok (.invokevirtual 43, 3) := by decide +kernel
theorem dX6_change_44 : decode cX6_change 44 = .ok (.ireturn, 1) := by decide +kernel
theorem dX6_note_0 : decode cX6_note 0 = .ok (.aload_n 0, 1) := by decide +kernel
theorem dX6_note_1 : decode cX6_note 1 = .ok (.getfield 12, 3) := by decide +kernel
theorem dX6_note_4 : decode cX6_note 4 = .ok (.iload_n 1, 1) := by decide +kernel
theorem dX6_note_5 : decode cX6_note 5 = .ok (.invokevirtual 63, 3) := by decide +kernel
theorem dX6_note_8 : decode cX6_note 8 = .ok (.ifCond .ne 9, 3) := by decide +kernel
theorem dX6_note_11 : decode cX6_note 11 = .ok (.aload_n 0, 1) := by decide +kernel
theorem dX6_note_12 : decode cX6_note 12 = .ok (.iconst 1, 1) := by decide +kernel
theorem dX6_note_13 : decode cX6_note 13 = .ok (.invokevirtual 50, 3) := by decide +kernel
theorem dX6_note_16 : decode cX6_note 16 = .ok (.ireturn, 1) := by decide +kernel
theorem dX6_note_17 : decode cX6_note 17 = .ok (.iload_n 2, 1) := by decide +kernel
theorem dX6_note_18 : decode cX6_note 18 = .ok (.invokestatic 70, 3) := by decide +kernel
theorem dX6_note_21 : decode cX6_note 21 = .ok (.ifCond .eq 37, 3) := by decide +kernel
theorem dX6_note_24 : decode cX6_note 24 = .ok (.iload_n 3, 1) := by decide +kernel
theorem dX6_note_25 : decode cX6_note 25 = .ok (.iconst 1, 1) := by decide +kernel
theorem dX6_note_26 : decode cX6_note 26 = .ok (.bipush 20, 2) := by decide +kernel
theorem dX6_note_28 : decode cX6_note 28 = .ok (.invokestatic 29, 3) := by decide +kernel
theorem dX6_note_31 : decode cX6_note 31 = .ok (.ifCond .eq 27, 3) := by decide +kernel
theorem dX6_note_34 : decode cX6_note 34 = .ok (.iload 4, 2) := by decide +kernel
theorem dX6_note_36 : decode cX6_note 36 = .ok (.iconst 0, 1) := by decide +kernel
theorem dX6_note_37 : decode cX6_note 37 = .ok (.iconst 2, 1) := by decide +kernel
theorem dX6_note_38 : decode cX6_note 38 = .ok (.invokestatic 29, 3) := by decide +kernel
theorem dX6_note_41 : decode cX6_note 41 = .ok (.ifCond .eq 17, 3) := by decide +kernel
theorem dX6_note_44 : decode cX6_note 44 = .ok (.iload 5, 2) := by decide +kernel
theorem dX6_note_46 : decode cX6_note 46 = .ok (.iconst 0, 1) := by decide +kernel
theorem dX6_note_47 : decode cX6_note 47 = .ok (.iconst 3, 1) := by decide +kernel
theorem dX6_note_48 : decode cX6_note 48 = .ok (.invokestatic 29, 3) := by decide +kernel
theorem dX6_note_51 : decode cX6_note 51 = .ok (.ifCond .eq 7, 3) := by decide +kernel
theorem dX6_note_54 : decode cX6_note 54 = .ok (.iconst 1, 1) := by decide +kernel
theorem dX6_note_55 : decode cX6_note 55 = .ok (.goto 4, 3) := by decide +kernel
theorem dX6_note_58 : decode cX6_note 58 = .ok (.iconst 0, 1) := by decide +kernel
theorem dX6_note_59 : decode cX6_note 59 = .ok (.istore 6, 2) := by decide +kernel
theorem dX6_note_61 : decode cX6_note 61 = .ok (.iload 6, 2) := by decide +kernel
theorem dX6_note_63 : decode cX6_note 63 = .ok (.ifCond .ne 9, 3) := by decide +kernel
theorem dX6_note_66 : decode cX6_note 66 = .ok (.aload_n 0, 1) := by decide +kernel
theorem dX6_note_67 : decode cX6_note 67 = .ok (.iconst 2, 1) := by decide +kernel
theorem dX6_note_68 : decode cX6_note 68 = .ok (.invokevirtual 50, 3) := by decide +kernel
theorem dX6_note_71 : decode cX6_note 71 = .ok (.ireturn, 1) := by decide +kernel
theorem dX6_note_72 : decode cX6_note 72 = .ok (.aload_n 0, 1) := by decide +kernel
theorem dX6_note_73 : decode cX6_note 73 = .ok (.getfield 12, 3) := by decide +kernel
theorem dX6_note_76 : decode cX6_note 76 = .ok (.getfield 73, 3) := by decide +kernel
theorem dX6_note_79 : decode cX6_note 79 = .ok (.bipush 24, 2) := by decide +kernel
theorem dX6_note_81 : decode cX6_note 81 = .ok (.if_icmp .lt 9, 3) := by decide +kernel
theorem dX6_note_84 : decode cX6_note 84 = .ok (.aload_n 0, 1) := by decide +kernel
theorem dX6_note_85 : decode cX6_note 85 = .ok (.iconst 3, 1) := by decide +kernel
theorem dX6_note_86 : decode cX6_note 86 = .ok (.invokevirtual 50, 3) := by decide +kernel
theorem dX6_note_89 : decode cX6_note 89 = .ok (.ireturn, 1) := by decide +kernel
theorem dX6_note_90 : decode cX6_note 90 = .ok (.aload_n 0, 1) := by decide +kernel
theorem dX6_note_91 : decode cX6_note 91 = .ok (.invokevirtual 43, 3) := by decide +kernel
theorem dX6_note_94 : decode cX6_note 94 = .ok (.pop, 1) := by decide +kernel
theorem dX6_note_95 : decode cX6_note 95 = .ok (.aload_n 0, 1) := by decide +kernel
theorem dX6_note_96 : decode cX6_note 96 = .ok (.aload_n 0, 1) := by decide +kernel
theorem dX6_note_97 : decode cX6_note 97 = .ok (.getfield 12, 3) := by decide +kernel
theorem dX6_note_100 : decode cX6_note 100 = .ok (.new 76, 3) := by decide +kernel
theorem dX6_note_103 : decode cX6_note 103 = .ok (.dup, 1) := by decide +kernel
theorem dX6_note_104 : decode cX6_note 104 = .ok (.iload_n 1, 1) := by decide +kernel
theorem dX6_note_105 : decode cX6_note 105 = .ok (.iload_n 2, 1) := by decide +kernel
theorem dX6_note_106 : decode cX6_note 106 = .ok (.iload_n 3, 1) := by decide +kernel
theorem dX6_note_107 : decode cX6_note 107 = .ok (.iload 4, 2) := by decide +kernel
theorem dX6_note_109 : decode cX6_note 109 = .ok (.iload 5, 2) := by decide +kernel
theorem dX6_note_111 : decode cX6_note 111 = .ok (.invokespecial 78, 3) := by decide +kernel
theorem dX6_note_114 : decode cX6_note 114 = .ok (.invokevirtual 81, 3) := by decide +kernel
theorem dX6_note_117 : decode cX6_note 117 = .ok (.invokevirtual 60, 3) := by decide +kernel
theorem dX6_note_120 : decode cX6_note 120 = .ok (.ireturn, 1) := by decide +kernel
theorem dX6_answer_0 : decode cX6_answer 0 = .ok (.aload_n 0, 1) := by decide +kernel
theorem dX6_answer_1 : decode cX6_answer 1 = .ok (.getfield 12, 3) := by decide +kernel
theorem dX6_answer_4 : decode cX6_answer 4 = .ok (.iload_n 1, 1) := by decide +kernel
theorem dX6_answer_5 : decode cX6_answer 5 = .ok (.invokevirtual 85, 3) := by decide +kernel
theorem dX6_answer_8 : decode cX6_answer 8 = .ok (.astore_n 3, 1) := by decide +kernel
theorem dX6_answer_9 : decode cX6_answer 9 = .ok (.aload_n 3, 1) := by decide +kernel
theorem dX6_answer_10 : decode cX6_answer 10 = .ok (.ifnonnull 9, 3) := by decide +kernel
theorem dX6_answer_13 : decode cX6_answer 13 = .ok (.aload_n 0, 1) := by decide +kernel
theorem dX6_answer_14 : decode cX6_answer 14 = .ok (.iconst 1, 1) := by decide +kernel
theorem dX6_answer_15 : decode cX6_answer 15 = .ok (.invokevirtual 50, 3) := by decide +kernel
theorem dX6_answer_18 : decode cX6_answer 18 = .ok (.ireturn, 1) := by decide +kernel
theorem dX6_answer_19 : decode cX6_answer 19 = .ok (.iload_n 2, 1) := by decide +kernel
theorem dX6_answer_20 : decode cX6_answer 20 = .ok (.invokestatic 70, 3) := by decide +kernel
theorem dX6_answer_23 : decode cX6_answer 23 = .ok (.ifCond .ne 9, 3) := by decide +kernel
theorem dX6_answer_26 : decode cX6_answer 26 = .ok (.aload_n 0, 1) := by decide +kernel
theorem dX6_answer_27 : decode cX6_answer 27 = .ok (.iconst 2, 1) := by decide +kernel
theorem dX6_answer_28 : decode cX6_answer 28 = .ok (.invokevirtual 50, 3) := by decide +kernel
theorem dX6_answer_31 : decode cX6_answer 31 = .ok (.ireturn, 1) := by decide +kernel
theorem dX6_answer_32 : decode cX6_answer 32 = .ok (.aload_n 3, 1) := by decide +kernel
theorem dX6_answer_33 : decode cX6_answer 33 = .ok (.getfield 89, 3) := by decide +kernel
theorem dX6_answer_36 : decode cX6_answer 36 = .ok (.iconst 4, 1) := by decide +kernel
theorem dX6_answer_37 : decode cX6_answer 37 = .ok (.if_icmp .lt 9, 3) := by decide +kernel
theorem dX6_answer_40 : decode cX6_answer 40 = .ok (.aload_n 0, 1) := by decide +kernel
theorem dX6_answer_41 : decode cX6_answer 41 = .ok (.iconst 3, 1) := by decide +kernel
theorem dX6_answer_42 : decode cX6_answer 42 = .ok (.invokevirtual 50, 3) := by decide +kernel
theorem dX6_answer_45 : decode cX6_answer 45 = .ok (.ireturn, 1) := by decide +kernel
theorem dX6_answer_46 : decode cX6_answer 46 = .ok (.aload_n 3, 1) := by decide +kernel
theorem dX6_answer_47 : decode cX6_answer 47 = .ok (.getfield 92, 3) := by decide +kernel
theorem dX6_answer_50 : decode cX6_answer 50 = .ok (.ifCond .le 10, 3) := by decide +kernel
theorem dX6_answer_53 : decode cX6_answer 53 = .ok (.aload_n 0, 1) := by decide +kernel
theorem dX6_answer_54 : decode cX6_answer 54 = .ok (.bipush 7, 2) := by decide +kernel
theorem dX6_answer_56 : decode cX6_answer 56 = .ok (.invokevirtual 50, 3) := by decide +kernel
theorem dX6_answer_59 : decode cX6_answer 59 = .ok (.ireturn, 1) := by decide +kernel
theorem dX6_answer_60 : decode cX6_answer 60 = .ok (.aload_n 3, 1) := by decide +kernel
theorem dX6_answer_61 : decode cX6_answer 61 = .ok (.dup, 1) := by decide +kernel
theorem dX6_answer_62 : decode cX6_answer 62 = .ok (.getfield 89, 3) := by decide +kernel
theorem dX6_answer_65 : decode cX6_answer 65 = .ok (.iconst 1, 1) := by decide +kernel
theorem dX6_answer_66 : decode cX6_answer 66 = .ok (.iadd, 1) := by decide +kernel
theorem dX6_answer_67 : decode cX6_answer 67 = .ok (.putfield 89, 3) := by decide +kernel
theorem dX6_answer_70 : decode cX6_answer 70 = .ok (.aload_n 3, 1) := by decide +kernel
theorem dX6_answer_71 : decode cX6_answer 71 = .ok (.dup, 1) := by decide +kernel
theorem dX6_answer_72 : decode cX6_answer 72 = .ok (.getfield 95, 3) := by decide +kernel
theorem dX6_answer_75 : decode cX6_answer 75 = .ok (.iload_n 2, 1) := by decide +kernel
theorem dX6_answer_76 : decode cX6_answer 76 = .ok (.iadd, 1) := by decide +kernel
theorem dX6_answer_77 : decode cX6_answer 77 = .ok (.putfield 95, 3) := by decide +kernel
theorem dX6_answer_80 : decode cX6_answer 80 = .ok (.aload_n 0, 1) := by decide +kernel
theorem dX6_answer_81 : decode cX6_answer 81 = .ok (.invokevirtual 43, 3) := by decide +kernel
theorem dX6_answer_84 : decode cX6_answer 84 = .ok (.pop, 1) := by decide +kernel
theorem dX6_answer_85 : decode cX6_answer 85 = .ok (.aload_n 0, 1) := by decide +kernel
theorem dX6_answer_86 : decode cX6_answer 86 = .ok (.aload_n 3, 1) := by decide +kernel
theorem dX6_answer_87 : decode cX6_answer 87 = .ok (.getfield 89, 3) := by decide +kernel
theorem dX6_answer_90 : decode cX6_answer 90 = .ok (.invokevirtual 60, 3) := by decide +kernel
theorem dX6_answer_93 : decode cX6_answer 93 = .ok (.ireturn, 1) := by decide +kernel
theorem dX6_cut_0 : decode cX6_cut 0 = .ok (.aload_n 0, 1) := by decide +kernel
theorem dX6_cut_1 : decode cX6_cut 1 = .ok (.getfield 12, 3) := by decide +kernel
theorem dX6_cut_4 : decode cX6_cut 4 = .ok (.iload_n 1, 1) := by decide +kernel
theorem dX6_cut_5 : decode cX6_cut 5 = .ok (.invokevirtual 85, 3) := by decide +kernel
theorem dX6_cut_8 : decode cX6_cut 8 = .ok (.astore_n 3, 1) := by decide +kernel
theorem dX6_cut_9 : decode cX6_cut 9 = .ok (.aload_n 3, 1) := by decide +kernel
theorem dX6_cut_10 : decode cX6_cut 10 = .ok (.ifnonnull 9, 3) := by decide +kernel
theorem dX6_cut_13 : decode cX6_cut 13 = .ok (.aload_n 0, 1) := by decide +kernel
theorem dX6_cut_14 : decode cX6_cut 14 = .ok (.iconst 1, 1) := by decide +kernel
theorem dX6_cut_15 : decode cX6_cut 15 = .ok (.invokevirtual 50, 3) := by decide +kernel
theorem dX6_cut_18 : decode cX6_cut 18 = .ok (.ireturn, 1) := by decide +kernel
theorem dX6_cut_19 : decode cX6_cut 19 = .ok (.iload_n 2, 1) := by decide +kernel
theorem dX6_cut_20 : decode cX6_cut 20 = .ok (.iconst 1, 1) := by decide +kernel
theorem dX6_cut_21 : decode cX6_cut 21 = .ok (.aload_n 3, 1) := by decide +kernel
theorem dX6_cut_22 : decode cX6_cut 22 = .ok (.getfield 98, 3) := by decide +kernel
theorem dX6_cut_25 : decode cX6_cut 25 = .ok (.iconst 1, 1) := by decide +kernel
theorem dX6_cut_26 : decode cX6_cut 26 = .ok (.isub, 1) := by decide +kernel
theorem dX6_cut_27 : decode cX6_cut 27 = .ok (.invokestatic 29, 3) := by decide +kernel
theorem dX6_cut_30 : decode cX6_cut 30 = .ok (.ifCond .ne 9, 3) := by decide +kernel
theorem dX6_cut_33 : decode cX6_cut 33 = .ok (.aload_n 0, 1) := by decide +kernel
theorem dX6_cut_34 : decode cX6_cut 34 = .ok (.iconst 2, 1) := by decide +kernel
theorem dX6_cut_35 : decode cX6_cut 35 = .ok (.invokevirtual 50, 3) := by decide +kernel
theorem dX6_cut_38 : decode cX6_cut 38 = .ok (.ireturn, 1) := by decide +kernel
theorem dX6_cut_39 : decode cX6_cut 39 = .ok (.aload_n 3, 1) := by decide +kernel
theorem dX6_cut_40 : decode cX6_cut 40 = .ok (.getfield 92, 3) := by decide +kernel
theorem dX6_cut_43 : decode cX6_cut 43 = .ok (.iconst 3, 1) := by decide +kernel
theorem dX6_cut_44 : decode cX6_cut 44 = .ok (.if_icmp .lt 9, 3) := by decide +kernel
theorem dX6_cut_47 : decode cX6_cut 47 = .ok (.aload_n 0, 1) := by decide +kernel
theorem dX6_cut_48 : decode cX6_cut 48 = .ok (.iconst 3, 1) := by decide +kernel
theorem dX6_cut_49 : decode cX6_cut 49 = .ok (.invokevirtual 50, 3) := by decide +kernel
theorem dX6_cut_52 : decode cX6_cut 52 = .ok (.ireturn, 1) := by decide +kernel
theorem dX6_cut_53 : decode cX6_cut 53 = .ok (.aload_n 3, 1) := by decide +kernel
theorem dX6_cut_54 : decode cX6_cut 54 = .ok (.iload_n 2, 1) := by decide +kernel
theorem dX6_cut_55 : decode cX6_cut 55 = .ok (.invokevirtual 99, 3) := by decide +kernel
theorem dX6_cut_58 : decode cX6_cut 58 = .ok (.ifCond .eq 9, 3) := by decide +kernel
theorem dX6_cut_61 : decode cX6_cut 61 = .ok (.aload_n 0, 1) := by decide +kernel
theorem dX6_cut_62 : decode cX6_cut 62 = .ok (.iconst 4, 1) := by decide +kernel
theorem dX6_cut_63 : decode cX6_cut 63 = .ok (.invokevirtual 50, 3) := by decide +kernel
theorem dX6_cut_66 : decode cX6_cut 66 = .ok (.ireturn, 1) := by decide +kernel
theorem dX6_cut_67 : decode cX6_cut 67 = .ok (.aload_n 3, 1) := by decide +kernel
theorem dX6_cut_68 : decode cX6_cut 68 = .ok (.getfield 89, 3) := by decide +kernel
theorem dX6_cut_71 : decode cX6_cut 71 = .ok (.ifCond .le 10, 3) := by decide +kernel
theorem dX6_cut_74 : decode cX6_cut 74 = .ok (.aload_n 0, 1) := by decide +kernel
theorem dX6_cut_75 : decode cX6_cut 75 = .ok (.bipush 7, 2) := by decide +kernel
theorem dX6_cut_77 : decode cX6_cut 77 = .ok (.invokevirtual 50, 3) := by decide +kernel
theorem dX6_cut_80 : decode cX6_cut 80 = .ok (.ireturn, 1) := by decide +kernel
theorem dX6_cut_81 : decode cX6_cut 81 = .ok (.aload_n 3, 1) := by decide +kernel
theorem dX6_cut_82 : decode cX6_cut 82 = .ok (.iload_n 2, 1) := by decide +kernel
theorem dX6_cut_83 : decode cX6_cut 83 = .ok (.invokevirtual 102, 3) := by decide +kernel
theorem dX6_cut_86 : decode cX6_cut 86 = .ok (.aload_n 0, 1) := by decide +kernel
theorem dX6_cut_87 : decode cX6_cut 87 = .ok (.invokevirtual 43, 3) := by decide +kernel
theorem dX6_cut_90 : decode cX6_cut 90 = .ok (.pop, 1) := by decide +kernel
theorem dX6_cut_91 : decode cX6_cut 91 = .ok (.aload_n 0, 1) := by decide +kernel
theorem dX6_cut_92 : decode cX6_cut 92 = .ok (.aload_n 3, 1) := by decide +kernel
theorem dX6_cut_93 : decode cX6_cut 93 = .ok (.getfield 92, 3) := by decide +kernel
theorem dX6_cut_96 : decode cX6_cut 96 = .ok (.invokevirtual 60, 3) := by decide +kernel
theorem dX6_cut_99 : decode cX6_cut 99 = .ok (.ireturn, 1) := by decide +kernel
theorem dX6_cutting_0 : decode cX6_cutting 0 = .ok (.iload_n 1, 1) := by decide +kernel
theorem dX6_cutting_1 : decode cX6_cutting 1 = .ok (.iconst 0, 1) := by decide +kernel
theorem dX6_cutting_2 : decode cX6_cutting 2 = .ok (.sipush 1000, 3) := by decide +kernel
theorem dX6_cutting_5 : decode cX6_cutting 5 = .ok (.invokestatic 29, 3) := by decide +kernel
theorem dX6_cutting_8 : decode cX6_cutting 8 = .ok (.ifCond .ne 9, 3) := by decide +kernel
theorem dX6_cutting_11 : decode cX6_cutting 11 = .ok (.aload_n 0, 1) := by decide +kernel
theorem dX6_cutting_12 : decode cX6_cutting 12 = .ok (.iconst 2, 1) := by decide +kernel
theorem dX6_cutting_13 : decode cX6_cutting 13 = .ok (.invokevirtual 33, 3) := by decide +kernel
theorem dX6_cutting_16 : decode cX6_cutting 16 = .ok (.ireturn, 1) := by decide +kernel
theorem dX6_cutting_17 : decode cX6_cutting 17 = .ok (.aload_n 0, 1) := by decide +kernel
theorem dX6_cutting_18 : decode cX6_cutting 18 = .ok (.getfield 12, 3) := by decide +kernel
theorem dX6_cutting_21 : decode cX6_cutting 21 = .ok (.iload_n 1, 1) := by decide +kernel
theorem dX6_cutting_22 : decode cX6_cutting 22 = .ok (.putfield 106, 3) := by decide +kernel
theorem dX6_cutting_25 : decode cX6_cutting 25 = .ok (.aload_n 0, 1) := by decide +kernel
theorem dX6_cutting_26 : decode cX6_cutting 26 = .ok (.invokevirtual 43, 3) := by decide +kernel
theorem dX6_cutting_29 : decode cX6_cutting 29 = .ok (.ireturn, 1) := by decide +kernel
theorem dX6_bind_0 : decode cX6_bind 0 = .ok (.aload_n 0, 1) := by decide +kernel
theorem dX6_bind_1 : decode cX6_bind 1 = .ok (.getfield 12, 3) := by decide +kernel
theorem dX6_bind_4 : decode cX6_bind 4 = .ok (.iload_n 1, 1) := by decide +kernel
theorem dX6_bind_5 : decode cX6_bind 5 = .ok (.invokevirtual 85, 3) := by decide +kernel
theorem dX6_bind_8 : decode cX6_bind 8 = .ok (.astore_n 3, 1) := by decide +kernel
theorem dX6_bind_9 : decode cX6_bind 9 = .ok (.aload_n 3, 1) := by decide +kernel
theorem dX6_bind_10 : decode cX6_bind 10 = .ok (.ifnull 19, 3) := by decide +kernel
theorem dX6_bind_13 : decode cX6_bind 13 = .ok (.iload_n 2, 1) := by decide +kernel
theorem dX6_bind_14 : decode cX6_bind 14 = .ok (.iconst (-1), 1) := by decide +kernel
theorem dX6_bind_15 : decode cX6_bind 15 = .ok (.if_icmp .eq 20, 3) := by decide +kernel
theorem dX6_bind_18 : decode cX6_bind 18 = .ok (.aload_n 0, 1) := by decide +kernel
theorem dX6_bind_19 : decode cX6_bind 19 = .ok (.getfield 12, 3) := by decide +kernel
theorem dX6_bind_22 : decode cX6_bind 22 = .ok (.iload_n 2, 1) := by decide +kernel
theorem dX6_bind_23 : decode cX6_bind 23 = .ok (.invokevirtual 63, 3) := by decide +kernel
theorem dX6_bind_26 : decode cX6_bind 26 = .ok (.ifCond .ne 9, 3) := by decide +kernel
theorem dX6_bind_29 : decode cX6_bind 29 = .ok (.aload_n 0, 1) := by decide +kernel
theorem dX6_bind_30 : decode cX6_bind 30 = .ok (.iconst 1, 1) := by decide +kernel
theorem dX6_bind_31 : decode cX6_bind 31 = .ok (.invokevirtual 33, 3) := by decide +kernel
theorem dX6_bind_34 : decode cX6_bind 34 = .ok (.ireturn, 1) := by decide +kernel
theorem dX6_bind_35 : decode cX6_bind 35 = .ok (.iload_n 2, 1) := by decide +kernel
theorem dX6_bind_36 : decode cX6_bind 36 = .ok (.iconst (-1), 1) := by decide +kernel
theorem dX6_bind_37 : decode cX6_bind 37 = .ok (.if_icmp .eq 17, 3) := by decide +kernel
theorem dX6_bind_40 : decode cX6_bind 40 = .ok (.iload_n 2, 1) := by decide +kernel
theorem dX6_bind_41 : decode cX6_bind 41 = .ok (.aload_n 3, 1) := by decide +kernel
theorem dX6_bind_42 : decode cX6_bind 42 = .ok (.getfield 109, 3) := by decide +kernel
theorem dX6_bind_45 : decode cX6_bind 45 = .ok (.if_icmp .ge 9, 3) := by decide +kernel
theorem dX6_bind_48 : decode cX6_bind 48 = .ok (.aload_n 0, 1) := by decide +kernel
theorem dX6_bind_49 : decode cX6_bind 49 = .ok (.iconst 2, 1) := by decide +kernel
theorem dX6_bind_50 : decode cX6_bind 50 = .ok (.invokevirtual 33, 3) := by decide +kernel
theorem dX6_bind_53 : decode cX6_bind 53 = .ok (.ireturn, 1) := by decide +kernel
theorem dX6_bind_54 : decode cX6_bind 54 = .ok (.aload_n 3, 1) := by decide +kernel
theorem dX6_bind_55 : decode cX6_bind 55 = .ok (.iload_n 2, 1) := by decide +kernel
theorem dX6_bind_56 : decode cX6_bind 56 = .ok (.putfield 112, 3) := by decide +kernel
theorem dX6_bind_59 : decode cX6_bind 59 = .ok (.aload_n 0, 1) := by decide +kernel
theorem dX6_bind_60 : decode cX6_bind 60 = .ok (.iload_n 2, 1) := by decide +kernel
theorem dX6_bind_61 : decode cX6_bind 61 = .ok (.invokevirtual 60, 3) := by decide +kernel
theorem dX6_bind_64 : decode cX6_bind 64 = .ok (.pop, 1) := by decide +kernel
theorem dX6_bind_65 : decode cX6_bind 65 = .ok (.iconst 1, 1) := by decide +kernel
theorem dX6_bind_66 : decode cX6_bind 66 = .ok (.ireturn, 1) := by decide +kernel
theorem dX6_fix_0 : decode cX6_fix 0 = .ok (.aload_n 0, 1) := by decide +kernel
theorem dX6_fix_1 : decode cX6_fix 1 = .ok (.getfield 12, 3) := by decide +kernel
theorem dX6_fix_4 : decode cX6_fix 4 = .ok (.iload_n 1, 1) := by decide +kernel
theorem dX6_fix_5 : decode cX6_fix 5 = .ok (.invokevirtual 85, 3) := by decide +kernel
theorem dX6_fix_8 : decode cX6_fix 8 = .ok (.astore_n 3, 1) := by decide +kernel
theorem dX6_fix_9 : decode cX6_fix 9 = .ok (.aload_n 3, 1) := by decide +kernel
theorem dX6_fix_10 : decode cX6_fix 10 = .ok (.ifnonnull 9, 3) := by decide +kernel
theorem dX6_fix_13 : decode cX6_fix 13 = .ok (.aload_n 0, 1) := by decide +kernel
theorem dX6_fix_14 : decode cX6_fix 14 = .ok (.iconst 1, 1) := by decide +kernel
theorem dX6_fix_15 : decode cX6_fix 15 = .ok (.invokevirtual 33, 3) := by decide +kernel
theorem dX6_fix_18 : decode cX6_fix 18 = .ok (.ireturn, 1) := by decide +kernel
theorem dX6_fix_19 : decode cX6_fix 19 = .ok (.iload_n 2, 1) := by decide +kernel
theorem dX6_fix_20 : decode cX6_fix 20 = .ok (.iconst 0, 1) := by decide +kernel
theorem dX6_fix_21 : decode cX6_fix 21 = .ok (.sipush 400, 3) := by decide +kernel
theorem dX6_fix_24 : decode cX6_fix 24 = .ok (.invokestatic 29, 3) := by decide +kernel
theorem dX6_fix_27 : decode cX6_fix 27 = .ok (.ifCond .ne 9, 3) := by decide +kernel
theorem dX6_fix_30 : decode cX6_fix 30 = .ok (.aload_n 0, 1) := by decide +kernel
theorem dX6_fix_31 : decode cX6_fix 31 = .ok (.iconst 2, 1) := by decide +kernel
theorem dX6_fix_32 : decode cX6_fix 32 = .ok (.invokevirtual 33, 3) := by decide +kernel
theorem dX6_fix_35 : decode cX6_fix 35 = .ok (.ireturn, 1) := by decide +kernel
theorem dX6_fix_36 : decode cX6_fix 36 = .ok (.aload_n 3, 1) := by decide +kernel
theorem dX6_fix_37 : decode cX6_fix 37 = .ok (.iload_n 2, 1) := by decide +kernel
theorem dX6_fix_38 : decode cX6_fix 38 = .ok (.putfield 115, 3) := by decide +kernel
theorem dX6_fix_41 : decode cX6_fix 41 = .ok (.aload_n 0, 1) := by decide +kernel
theorem dX6_fix_42 : decode cX6_fix 42 = .ok (.invokevirtual 43, 3) := by decide +kernel
theorem dX6_fix_45 : decode cX6_fix 45 = .ok (.ireturn, 1) := by decide +kernel
theorem dX6_loose_0 : decode cX6_loose 0 = .ok (.aload_n 0, 1) := by decide +kernel
theorem dX6_loose_1 : decode cX6_loose 1 = .ok (.getfield 12, 3) := by decide +kernel
theorem dX6_loose_4 : decode cX6_loose 4 = .ok (.iload_n 1, 1) := by decide +kernel
theorem dX6_loose_5 : decode cX6_loose 5 = .ok (.invokevirtual 85, 3) := by decide +kernel
theorem dX6_loose_8 : decode cX6_loose 8 = .ok (.astore_n 2, 1) := by decide +kernel
theorem dX6_loose_9 : decode cX6_loose 9 = .ok (.aload_n 2, 1) := by decide +kernel
theorem dX6_loose_10 : decode cX6_loose 10 = .ok (.ifnonnull 9, 3) := by decide +kernel
theorem dX6_loose_13 : decode cX6_loose 13 = .ok (.aload_n 0, 1) := by decide +kernel
theorem dX6_loose_14 : decode cX6_loose 14 = .ok (.iconst 1, 1) := by decide +kernel
theorem dX6_loose_15 : decode cX6_loose 15 = .ok (.invokevirtual 33, 3) := by decide +kernel
theorem dX6_loose_18 : decode cX6_loose 18 = .ok (.ireturn, 1) := by decide +kernel
theorem dX6_loose_19 : decode cX6_loose 19 = .ok (.aload_n 2, 1) := by decide +kernel
theorem dX6_loose_20 : decode cX6_loose 20 = .ok (.invokevirtual 118, 3) := by decide +kernel
theorem dX6_loose_23 : decode cX6_loose 23 = .ok (.ifCond .ne 9, 3) := by decide +kernel
theorem dX6_loose_26 : decode cX6_loose 26 = .ok (.aload_n 0, 1) := by decide +kernel
theorem dX6_loose_27 : decode cX6_loose 27 = .ok (.iconst 4, 1) := by decide +kernel
theorem dX6_loose_28 : decode cX6_loose 28 = .ok (.invokevirtual 33, 3) := by decide +kernel
theorem dX6_loose_31 : decode cX6_loose 31 = .ok (.ireturn, 1) := by decide +kernel
theorem dX6_loose_32 : decode cX6_loose 32 = .ok (.aload_n 2, 1) := by decide +kernel
theorem dX6_loose_33 : decode cX6_loose 33 = .ok (.iconst (-1), 1) := by decide +kernel
theorem dX6_loose_34 : decode cX6_loose 34 = .ok (.putfield 115, 3) := by decide +kernel
theorem dX6_loose_37 : decode cX6_loose 37 = .ok (.aload_n 0, 1) := by decide +kernel
theorem dX6_loose_38 : decode cX6_loose 38 = .ok (.invokevirtual 43, 3) := by decide +kernel
theorem dX6_loose_41 : decode cX6_loose 41 = .ok (.ireturn, 1) := by decide +kernel
theorem dX6_move_0 : decode cX6_move 0 = .ok (.aload_n 0, 1) := by decide +kernel
theorem dX6_move_1 : decode cX6_move 1 = .ok (.getfield 12, 3) := by decide +kernel
theorem dX6_move_4 : decode cX6_move 4 = .ok (.iload_n 1, 1) := by decide +kernel
theorem dX6_move_5 : decode cX6_move 5 = .ok (.invokevirtual 85, 3) := by decide +kernel
theorem dX6_move_8 : decode cX6_move 8 = .ok (.astore_n 3, 1) := by decide +kernel
theorem dX6_move_9 : decode cX6_move 9 = .ok (.aload_n 3, 1) := by decide +kernel
theorem dX6_move_10 : decode cX6_move 10 = .ok (.ifnull 14, 3) := by decide +kernel
theorem dX6_move_13 : decode cX6_move 13 = .ok (.aload_n 0, 1) := by decide +kernel
theorem dX6_move_14 : decode cX6_move 14 = .ok (.getfield 12, 3) := by decide +kernel
theorem dX6_move_17 : decode cX6_move 17 = .ok (.iload_n 2, 1) := by decide +kernel
theorem dX6_move_18 : decode cX6_move 18 = .ok (.invokevirtual 63, 3) := by decide +kernel
theorem dX6_move_21 : decode cX6_move 21 = .ok (.ifCond .ne 9, 3) := by decide +kernel
theorem dX6_move_24 : decode cX6_move 24 = .ok (.aload_n 0, 1) := by decide +kernel
theorem dX6_move_25 : decode cX6_move 25 = .ok (.iconst 1, 1) := by decide +kernel
theorem dX6_move_26 : decode cX6_move 26 = .ok (.invokevirtual 33, 3) := by decide +kernel
theorem dX6_move_29 : decode cX6_move 29 = .ok (.ireturn, 1) := by decide +kernel
theorem dX6_move_30 : decode cX6_move 30 = .ok (.aload_n 3, 1) := by decide +kernel
theorem dX6_move_31 : decode cX6_move 31 = .ok (.getfield 109, 3) := by decide +kernel
theorem dX6_move_34 : decode cX6_move 34 = .ok (.iload_n 2, 1) := by decide +kernel
theorem dX6_move_35 : decode cX6_move 35 = .ok (.if_icmp .ne 9, 3) := by decide +kernel
theorem dX6_move_38 : decode cX6_move 38 = .ok (.aload_n 0, 1) := by decide +kernel
theorem dX6_move_39 : decode cX6_move 39 = .ok (.iconst 4, 1) := by decide +kernel
theorem dX6_move_40 : decode cX6_move 40 = .ok (.invokevirtual 33, 3) := by decide +kernel
theorem dX6_move_43 : decode cX6_move 43 = .ok (.ireturn, 1) := by decide +kernel
theorem dX6_move_44 : decode cX6_move 44 = .ok (.aload_n 3, 1) := by decide +kernel
theorem dX6_move_45 : decode cX6_move 45 = .ok (.iload_n 2, 1) := by decide +kernel
theorem dX6_move_46 : decode cX6_move 46 = .ok (.putfield 109, 3) := by decide +kernel
theorem dX6_move_49 : decode cX6_move 49 = .ok (.aload_n 3, 1) := by decide +kernel
theorem dX6_move_50 : decode cX6_move 50 = .ok (.getfield 112, 3) := by decide +kernel
theorem dX6_move_53 : decode cX6_move 53 = .ok (.iload_n 2, 1) := by decide +kernel
theorem dX6_move_54 : decode cX6_move 54 = .ok (.if_icmp .ge 8, 3) := by decide +kernel
theorem dX6_move_57 : decode cX6_move 57 = .ok (.aload_n 3, 1) := by decide +kernel
theorem dX6_move_58 : decode cX6_move 58 = .ok (.iconst (-1), 1) := by decide +kernel
theorem dX6_move_59 : decode cX6_move 59 = .ok (.putfield 112, 3) := by decide +kernel
theorem dX6_move_62 : decode cX6_move 62 = .ok (.aload_n 0, 1) := by decide +kernel
theorem dX6_move_63 : decode cX6_move 63 = .ok (.invokevirtual 43, 3) := by decide +kernel
theorem dX6_move_66 : decode cX6_move 66 = .ok (.ireturn, 1) := by decide +kernel
theorem dX6_show_0 : decode cX6_show 0 = .ok (.iload_n 1, 1) := by decide +kernel
theorem dX6_show_1 : decode cX6_show 1 = .ok (.iconst 0, 1) := by decide +kernel
theorem dX6_show_2 : decode cX6_show 2 = .ok (.bipush 15, 2) := by decide +kernel
theorem dX6_show_4 : decode cX6_show 4 = .ok (.invokestatic 29, 3) := by decide +kernel
theorem dX6_show_7 : decode cX6_show 7 = .ok (.ifCond .ne 9, 3) := by decide +kernel
theorem dX6_show_10 : decode cX6_show 10 = .ok (.aload_n 0, 1) := by decide +kernel
theorem dX6_show_11 : decode cX6_show 11 = .ok (.iconst 2, 1) := by decide +kernel
theorem dX6_show_12 : decode cX6_show 12 = .ok (.invokevirtual 33, 3) := by decide +kernel
theorem dX6_show_15 : decode cX6_show 15 = .ok (.ireturn, 1) := by decide +kernel
theorem dX6_show_16 : decode cX6_show 16 = .ok (.aload_n 0, 1) := by decide +kernel
theorem dX6_show_17 : decode cX6_show 17 = .ok (.getfield 12, 3) := by decide +kernel
theorem dX6_show_20 : decode cX6_show 20 = .ok (.iload_n 1, 1) := by decide +kernel
theorem dX6_show_21 : decode cX6_show 21 = .ok (.putfield 121, 3) := by decide +kernel
theorem dX6_show_24 : decode cX6_show 24 = .ok (.aload_n 0, 1) := by decide +kernel
theorem dX6_show_25 : decode cX6_show 25 = .ok (.invokevirtual 43, 3) := by decide +kernel
theorem dX6_show_28 : decode cX6_show 28 = .ok (.ireturn, 1) := by decide +kernel
theorem dX6_keep_0 : decode cX6_keep 0 = .ok (.aload_n 0, 1) := by decide +kernel
theorem dX6_keep_1 : decode cX6_keep 1 = .ok (.getfield 12, 3) := by decide +kernel
theorem dX6_keep_4 : decode cX6_keep 4 = .ok (.iload_n 1, 1) := by decide +kernel
theorem dX6_keep_5 : decode cX6_keep 5 = .ok (.putfield 124, 3) := by decide +kernel
theorem dX6_keep_8 : decode cX6_keep 8 = .ok (.aload_n 0, 1) := by decide +kernel
theorem dX6_keep_9 : decode cX6_keep 9 = .ok (.invokevirtual 43, 3) := by decide +kernel
theorem dX6_keep_12 : decode cX6_keep 12 = .ok (.ireturn, 1) := by decide +kernel
theorem dX6_told_0 : decode cX6_told 0 = .ok (.aload_n 0, 1) := by decide +kernel
theorem dX6_told_1 : decode cX6_told 1 = .ok (.getfield 12, 3) := by decide +kernel
theorem dX6_told_4 : decode cX6_told 4 = .ok (.iload_n 1, 1) := by decide +kernel
theorem dX6_told_5 : decode cX6_told 5 = .ok (.invokevirtual 85, 3) := by decide +kernel
theorem dX6_told_8 : decode cX6_told 8 = .ok (.astore_n 3, 1) := by decide +kernel
theorem dX6_told_9 : decode cX6_told 9 = .ok (.aload_n 3, 1) := by decide +kernel
theorem dX6_told_10 : decode cX6_told 10 = .ok (.ifnonnull 9, 3) := by decide +kernel
theorem dX6_told_13 : decode cX6_told 13 = .ok (.aload_n 0, 1) := by decide +kernel
theorem dX6_told_14 : decode cX6_told 14 = .ok (.iconst 1, 1) := by decide +kernel
theorem dX6_told_15 : decode cX6_told 15 = .ok (.invokevirtual 50, 3) := by decide +kernel
theorem dX6_told_18 : decode cX6_told 18 = .ok (.ireturn, 1) := by decide +kernel
theorem dX6_told_19 : decode cX6_told 19 = .ok (.iload_n 2, 1) := by decide +kernel
theorem dX6_told_20 : decode cX6_told 20 = .ok (.tableswitch 158 0 9 #[56, 65, 74, 83, 92, 101, 110, 119, 140, 149], 56) := by decide +kernel
theorem dX6_told_76 : decode cX6_told 76 = .ok (.aload_n 0, 1) := by decide +kernel
theorem dX6_told_77 : decode cX6_told 77 = .ok (.aload_n 3, 1) := by decide +kernel
theorem dX6_told_78 : decode cX6_told 78 = .ok (.getfield 109, 3) := by decide +kernel
theorem dX6_told_81 : decode cX6_told 81 = .ok (.invokevirtual 60, 3) := by decide +kernel
theorem dX6_told_84 : decode cX6_told 84 = .ok (.ireturn, 1) := by decide +kernel
theorem dX6_told_85 : decode cX6_told 85 = .ok (.aload_n 0, 1) := by decide +kernel
theorem dX6_told_86 : decode cX6_told 86 = .ok (.aload_n 3, 1) := by decide +kernel
theorem dX6_told_87 : decode cX6_told 87 = .ok (.getfield 98, 3) := by decide +kernel
theorem dX6_told_90 : decode cX6_told 90 = .ok (.invokevirtual 60, 3) := by decide +kernel
theorem dX6_told_93 : decode cX6_told 93 = .ok (.ireturn, 1) := by decide +kernel
theorem dX6_told_94 : decode cX6_told 94 = .ok (.aload_n 0, 1) := by decide +kernel
theorem dX6_told_95 : decode cX6_told 95 = .ok (.aload_n 3, 1) := by decide +kernel
theorem dX6_told_96 : decode cX6_told 96 = .ok (.getfield 128, 3) := by decide +kernel
theorem dX6_told_99 : decode cX6_told 99 = .ok (.invokevirtual 60, 3) := by decide +kernel
theorem dX6_told_102 : decode cX6_told 102 = .ok (.ireturn, 1) := by decide +kernel
theorem dX6_told_103 : decode cX6_told 103 = .ok (.aload_n 0, 1) := by decide +kernel
theorem dX6_told_104 : decode cX6_told 104 = .ok (.aload_n 3, 1) := by decide +kernel
theorem dX6_told_105 : decode cX6_told 105 = .ok (.getfield 131, 3) := by decide +kernel
theorem dX6_told_108 : decode cX6_told 108 = .ok (.invokevirtual 60, 3) := by decide +kernel
theorem dX6_told_111 : decode cX6_told 111 = .ok (.ireturn, 1) := by decide +kernel
theorem dX6_told_112 : decode cX6_told 112 = .ok (.aload_n 0, 1) := by decide +kernel
theorem dX6_told_113 : decode cX6_told 113 = .ok (.aload_n 3, 1) := by decide +kernel
theorem dX6_told_114 : decode cX6_told 114 = .ok (.getfield 134, 3) := by decide +kernel
theorem dX6_told_117 : decode cX6_told 117 = .ok (.invokevirtual 60, 3) := by decide +kernel
theorem dX6_told_120 : decode cX6_told 120 = .ok (.ireturn, 1) := by decide +kernel
theorem dX6_told_121 : decode cX6_told 121 = .ok (.aload_n 0, 1) := by decide +kernel
theorem dX6_told_122 : decode cX6_told 122 = .ok (.aload_n 3, 1) := by decide +kernel
theorem dX6_told_123 : decode cX6_told 123 = .ok (.getfield 95, 3) := by decide +kernel
theorem dX6_told_126 : decode cX6_told 126 = .ok (.invokevirtual 60, 3) := by decide +kernel
theorem dX6_told_129 : decode cX6_told 129 = .ok (.ireturn, 1) := by decide +kernel
theorem dX6_told_130 : decode cX6_told 130 = .ok (.aload_n 0, 1) := by decide +kernel
theorem dX6_told_131 : decode cX6_told 131 = .ok (.aload_n 3, 1) := by decide +kernel
theorem dX6_told_132 : decode cX6_told 132 = .ok (.getfield 115, 3) := by decide +kernel
theorem dX6_told_135 : decode cX6_told 135 = .ok (.invokevirtual 60, 3) := by decide +kernel
theorem dX6_told_138 : decode cX6_told 138 = .ok (.ireturn, 1) := by decide +kernel
theorem dX6_told_139 : decode cX6_told 139 = .ok (.aload_n 0, 1) := by decide +kernel
theorem dX6_told_140 : decode cX6_told 140 = .ok (.aload_n 0, 1) := by decide +kernel
theorem dX6_told_141 : decode cX6_told 141 = .ok (.getfield 12, 3) := by decide +kernel
theorem dX6_told_144 : decode cX6_told 144 = .ok (.aload_n 3, 1) := by decide +kernel
theorem dX6_told_145 : decode cX6_told 145 = .ok (.invokevirtual 137, 3) := by decide +kernel
theorem dX6_told_148 : decode cX6_told 148 = .ok (.ifCond .eq 7, 3) := by decide +kernel
theorem dX6_told_151 : decode cX6_told 151 = .ok (.iconst 1, 1) := by decide +kernel
theorem dX6_told_152 : decode cX6_told 152 = .ok (.goto 4, 3) := by decide +kernel
theorem dX6_told_155 : decode cX6_told 155 = .ok (.iconst 0, 1) := by decide +kernel
theorem dX6_told_156 : decode cX6_told 156 = .ok (.invokevirtual 60, 3) := by decide +kernel
theorem dX6_told_159 : decode cX6_told 159 = .ok (.ireturn, 1) := by decide +kernel
theorem dX6_told_160 : decode cX6_told 160 = .ok (.aload_n 0, 1) := by decide +kernel
theorem dX6_told_161 : decode cX6_told 161 = .ok (.aload_n 3, 1) := by decide +kernel
theorem dX6_told_162 : decode cX6_told 162 = .ok (.getfield 92, 3) := by decide +kernel
theorem dX6_told_165 : decode cX6_told 165 = .ok (.invokevirtual 60, 3) := by decide +kernel
theorem dX6_told_168 : decode cX6_told 168 = .ok (.ireturn, 1) := by decide +kernel
theorem dX6_told_169 : decode cX6_told 169 = .ok (.aload_n 0, 1) := by decide +kernel
theorem dX6_told_170 : decode cX6_told 170 = .ok (.aload_n 3, 1) := by decide +kernel
theorem dX6_told_171 : decode cX6_told 171 = .ok (.getfield 112, 3) := by decide +kernel
theorem dX6_told_174 : decode cX6_told 174 = .ok (.invokevirtual 60, 3) := by decide +kernel
theorem dX6_told_177 : decode cX6_told 177 = .ok (.ireturn, 1) := by decide +kernel
theorem dX6_told_178 : decode cX6_told 178 = .ok (.aload_n 0, 1) := by decide +kernel
theorem dX6_told_179 : decode cX6_told 179 = .ok (.iconst 2, 1) := by decide +kernel
theorem dX6_told_180 : decode cX6_told 180 = .ok (.invokevirtual 50, 3) := by decide +kernel
theorem dX6_told_183 : decode cX6_told 183 = .ok (.ireturn, 1) := by decide +kernel
theorem dX6_pages_0 : decode cX6_pages 0 = .ok (.aload_n 0, 1) := by decide +kernel
theorem dX6_pages_1 : decode cX6_pages 1 = .ok (.getfield 21, 3) := by decide +kernel
theorem dX6_pages_4 : decode cX6_pages 4 = .ok (.invokevirtual 141, 3) := by decide +kernel
theorem dX6_pages_7 : decode cX6_pages 7 = .ok (.aload_n 0, 1) := by decide +kernel
theorem dX6_pages_8 : decode cX6_pages 8 = .ok (.getfield 21, 3) := by decide +kernel
theorem dX6_pages_11 : decode cX6_pages 11 = .ok (.getfield 144, 3) := by decide +kernel
theorem dX6_pages_14 : decode cX6_pages 14 = .ok (.ifCond .eq 17, 3) := by decide +kernel
theorem dX6_pages_17 : decode cX6_pages 17 = .ok (.aload_n 0, 1) := by decide +kernel
theorem dX6_pages_18 : decode cX6_pages 18 = .ok (.aload_n 0, 1) := by decide +kernel
theorem dX6_pages_19 : decode cX6_pages 19 = .ok (.getfield 21, 3) := by decide +kernel
theorem dX6_pages_22 : decode cX6_pages 22 = .ok (.getfield 147, 3) := by decide +kernel
theorem dX6_pages_25 : decode cX6_pages 25 = .ok (.invokevirtual 60, 3) := by decide +kernel
theorem dX6_pages_28 : decode cX6_pages 28 = .ok (.goto 9, 3) := by decide +kernel
theorem dX6_pages_31 : decode cX6_pages 31 = .ok (.aload_n 0, 1) := by decide +kernel
theorem dX6_pages_32 : decode cX6_pages 32 = .ok (.bipush 6, 2) := by decide +kernel
theorem dX6_pages_34 : decode cX6_pages 34 = .ok (.invokevirtual 50, 3) := by decide +kernel
theorem dX6_pages_37 : decode cX6_pages 37 = .ok (.ireturn, 1) := by decide +kernel
theorem dX6_pageOf_0 : decode cX6_pageOf 0 = .ok (.aload_n 0, 1) := by decide +kernel
theorem dX6_pageOf_1 : decode cX6_pageOf 1 = .ok (.getfield 21, 3) := by decide +kernel
theorem dX6_pageOf_4 : decode cX6_pageOf 4 = .ok (.invokevirtual 141, 3) := by decide +kernel
theorem dX6_pageOf_7 : decode cX6_pageOf 7 = .ok (.aload_n 0, 1) := by decide +kernel
theorem dX6_pageOf_8 : decode cX6_pageOf 8 = .ok (.iload_n 1, 1) := by decide +kernel
theorem dX6_pageOf_9 : decode cX6_pageOf 9 = .ok (.invokevirtual 150, 3) := by decide +kernel
theorem dX6_pageOf_12 : decode cX6_pageOf 12 = .ok (.istore_n 2, 1) := by decide +kernel
theorem dX6_pageOf_13 : decode cX6_pageOf 13 = .ok (.iload_n 2, 1) := by decide +kernel
theorem dX6_pageOf_14 : decode cX6_pageOf 14 = .ok (.ifCond .ne 19, 3) := by decide +kernel
theorem dX6_pageOf_17 : decode cX6_pageOf 17 = .ok (.aload_n 0, 1) := by decide +kernel
theorem dX6_pageOf_18 : decode cX6_pageOf 18 = .ok (.aload_n 0, 1) := by decide +kernel
theorem dX6_pageOf_19 : decode cX6_pageOf 19 = .ok (.getfield 21, 3) := by decide +kernel
theorem dX6_pageOf_22 : decode cX6_pageOf 22 = .ok (.getfield 153, 3) := by decide +kernel
theorem dX6_pageOf_25 : decode cX6_pageOf 25 = .ok (.iload_n 1, 1) := by decide +kernel
theorem dX6_pageOf_26 : decode cX6_pageOf 26 = .ok (.iaload, 1) := by decide +kernel
theorem dX6_pageOf_27 : decode cX6_pageOf 27 = .ok (.invokevirtual 60, 3) := by decide +kernel
theorem dX6_pageOf_30 : decode cX6_pageOf 30 = .ok (.goto 8, 3) := by decide +kernel
theorem dX6_pageOf_33 : decode cX6_pageOf 33 = .ok (.aload_n 0, 1) := by decide +kernel
theorem dX6_pageOf_34 : decode cX6_pageOf 34 = .ok (.iload_n 2, 1) := by decide +kernel
theorem dX6_pageOf_35 : decode cX6_pageOf 35 = .ok (.invokevirtual 50, 3) := by decide +kernel
theorem dX6_pageOf_38 : decode cX6_pageOf 38 = .ok (.ireturn, 1) := by decide +kernel
theorem dX6_top_0 : decode cX6_top 0 = .ok (.aload_n 0, 1) := by decide +kernel
theorem dX6_top_1 : decode cX6_top 1 = .ok (.getfield 21, 3) := by decide +kernel
theorem dX6_top_4 : decode cX6_top 4 = .ok (.invokevirtual 141, 3) := by decide +kernel
theorem dX6_top_7 : decode cX6_top 7 = .ok (.aload_n 0, 1) := by decide +kernel
theorem dX6_top_8 : decode cX6_top 8 = .ok (.iload_n 1, 1) := by decide +kernel
theorem dX6_top_9 : decode cX6_top 9 = .ok (.invokevirtual 150, 3) := by decide +kernel
theorem dX6_top_12 : decode cX6_top 12 = .ok (.istore_n 2, 1) := by decide +kernel
theorem dX6_top_13 : decode cX6_top 13 = .ok (.iload_n 2, 1) := by decide +kernel
theorem dX6_top_14 : decode cX6_top 14 = .ok (.ifCond .ne 19, 3) := by decide +kernel
theorem dX6_top_17 : decode cX6_top 17 = .ok (.aload_n 0, 1) := by decide +kernel
theorem dX6_top_18 : decode cX6_top 18 = .ok (.aload_n 0, 1) := by decide +kernel
theorem dX6_top_19 : decode cX6_top 19 = .ok (.getfield 21, 3) := by decide +kernel
theorem dX6_top_22 : decode cX6_top 22 = .ok (.getfield 156, 3) := by decide +kernel
theorem dX6_top_25 : decode cX6_top 25 = .ok (.iload_n 1, 1) := by decide +kernel
theorem dX6_top_26 : decode cX6_top 26 = .ok (.iaload, 1) := by decide +kernel
theorem dX6_top_27 : decode cX6_top 27 = .ok (.invokevirtual 60, 3) := by decide +kernel
theorem dX6_top_30 : decode cX6_top 30 = .ok (.goto 8, 3) := by decide +kernel
theorem dX6_top_33 : decode cX6_top 33 = .ok (.aload_n 0, 1) := by decide +kernel
theorem dX6_top_34 : decode cX6_top 34 = .ok (.iload_n 2, 1) := by decide +kernel
theorem dX6_top_35 : decode cX6_top 35 = .ok (.invokevirtual 50, 3) := by decide +kernel
theorem dX6_top_38 : decode cX6_top 38 = .ok (.ireturn, 1) := by decide +kernel
theorem dX6_side_0 : decode cX6_side 0 = .ok (.aload_n 0, 1) := by decide +kernel
theorem dX6_side_1 : decode cX6_side 1 = .ok (.getfield 21, 3) := by decide +kernel
theorem dX6_side_4 : decode cX6_side 4 = .ok (.invokevirtual 141, 3) := by decide +kernel
theorem dX6_side_7 : decode cX6_side 7 = .ok (.aload_n 0, 1) := by decide +kernel
theorem dX6_side_8 : decode cX6_side 8 = .ok (.getfield 12, 3) := by decide +kernel
theorem dX6_side_11 : decode cX6_side 11 = .ok (.iload_n 1, 1) := by decide +kernel
theorem dX6_side_12 : decode cX6_side 12 = .ok (.invokevirtual 85, 3) := by decide +kernel
theorem dX6_side_15 : decode cX6_side 15 = .ok (.astore_n 2, 1) := by decide +kernel
theorem dX6_side_16 : decode cX6_side 16 = .ok (.aload_n 0, 1) := by decide +kernel
theorem dX6_side_17 : decode cX6_side 17 = .ok (.aload_n 2, 1) := by decide +kernel
theorem dX6_side_18 : decode cX6_side 18 = .ok (.invokevirtual 159, 3) := by decide +kernel
theorem dX6_side_21 : decode cX6_side 21 = .ok (.istore_n 3, 1) := by decide +kernel
theorem dX6_side_22 : decode cX6_side 22 = .ok (.aload_n 2, 1) := by decide +kernel
theorem dX6_side_23 : decode cX6_side 23 = .ok (.ifnull 18, 3) := by decide +kernel
theorem dX6_side_26 : decode cX6_side 26 = .ok (.iload_n 3, 1) := by decide +kernel
theorem dX6_side_27 : decode cX6_side 27 = .ok (.ifCond .ne 14, 3) := by decide +kernel
theorem dX6_side_30 : decode cX6_side 30 = .ok (.aload_n 0, 1) := by decide +kernel
theorem dX6_side_31 : decode cX6_side 31 = .ok (.aload_n 2, 1) := by decide +kernel
theorem dX6_side_32 : decode cX6_side 32 = .ok (.getfield 162, 3) := by decide +kernel
theorem dX6_side_35 : decode cX6_side 35 = .ok (.invokevirtual 60, 3) := by decide +kernel
theorem dX6_side_38 : decode cX6_side 38 = .ok (.goto 8, 3) := by decide +kernel
theorem dX6_side_41 : decode cX6_side 41 = .ok (.aload_n 0, 1) := by decide +kernel
theorem dX6_side_42 : decode cX6_side 42 = .ok (.iload_n 3, 1) := by decide +kernel
theorem dX6_side_43 : decode cX6_side 43 = .ok (.invokevirtual 50, 3) := by decide +kernel
theorem dX6_side_46 : decode cX6_side 46 = .ok (.ireturn, 1) := by decide +kernel
theorem dX6_place_0 : decode cX6_place 0 = .ok (.aload_n 0, 1) := by decide +kernel
theorem dX6_place_1 : decode cX6_place 1 = .ok (.getfield 21, 3) := by decide +kernel
theorem dX6_place_4 : decode cX6_place 4 = .ok (.invokevirtual 141, 3) := by decide +kernel
theorem dX6_place_7 : decode cX6_place 7 = .ok (.aload_n 0, 1) := by decide +kernel
theorem dX6_place_8 : decode cX6_place 8 = .ok (.getfield 12, 3) := by decide +kernel
theorem dX6_place_11 : decode cX6_place 11 = .ok (.iload_n 1, 1) := by decide +kernel
theorem dX6_place_12 : decode cX6_place 12 = .ok (.invokevirtual 85, 3) := by decide +kernel
theorem dX6_place_15 : decode cX6_place 15 = .ok (.astore_n 2, 1) := by decide +kernel
theorem dX6_place_16 : decode cX6_place 16 = .ok (.aload_n 0, 1) := by decide +kernel
theorem dX6_place_17 : decode cX6_place 17 = .ok (.aload_n 2, 1) := by decide +kernel
theorem dX6_place_18 : decode cX6_place 18 = .ok (.invokevirtual 159, 3) := by decide +kernel
theorem dX6_place_21 : decode cX6_place 21 = .ok (.istore_n 3, 1) := by decide +kernel
theorem dX6_place_22 : decode cX6_place 22 = .ok (.aload_n 2, 1) := by decide +kernel
theorem dX6_place_23 : decode cX6_place 23 = .ok (.ifnull 18, 3) := by decide +kernel
theorem dX6_place_26 : decode cX6_place 26 = .ok (.iload_n 3, 1) := by decide +kernel
theorem dX6_place_27 : decode cX6_place 27 = .ok (.ifCond .ne 14, 3) := by decide +kernel
theorem dX6_place_30 : decode cX6_place 30 = .ok (.aload_n 0, 1) := by decide +kernel
theorem dX6_place_31 : decode cX6_place 31 = .ok (.aload_n 2, 1) := by decide +kernel
theorem dX6_place_32 : decode cX6_place 32 = .ok (.getfield 165, 3) := by decide +kernel
theorem dX6_place_35 : decode cX6_place 35 = .ok (.invokevirtual 60, 3) := by decide +kernel
theorem dX6_place_38 : decode cX6_place 38 = .ok (.goto 8, 3) := by decide +kernel
theorem dX6_place_41 : decode cX6_place 41 = .ok (.aload_n 0, 1) := by decide +kernel
theorem dX6_place_42 : decode cX6_place 42 = .ok (.iload_n 3, 1) := by decide +kernel
theorem dX6_place_43 : decode cX6_place 43 = .ok (.invokevirtual 50, 3) := by decide +kernel
theorem dX6_place_46 : decode cX6_place 46 = .ok (.ireturn, 1) := by decide +kernel
theorem dX6_rest_0 : decode cX6_rest 0 = .ok (.aload_n 0, 1) := by decide +kernel
theorem dX6_rest_1 : decode cX6_rest 1 = .ok (.getfield 21, 3) := by decide +kernel
theorem dX6_rest_4 : decode cX6_rest 4 = .ok (.invokevirtual 141, 3) := by decide +kernel
theorem dX6_rest_7 : decode cX6_rest 7 = .ok (.aload_n 0, 1) := by decide +kernel
theorem dX6_rest_8 : decode cX6_rest 8 = .ok (.getfield 12, 3) := by decide +kernel
theorem dX6_rest_11 : decode cX6_rest 11 = .ok (.iload_n 1, 1) := by decide +kernel
theorem dX6_rest_12 : decode cX6_rest 12 = .ok (.invokevirtual 85, 3) := by decide +kernel
theorem dX6_rest_15 : decode cX6_rest 15 = .ok (.astore_n 2, 1) := by decide +kernel
theorem dX6_rest_16 : decode cX6_rest 16 = .ok (.aload_n 0, 1) := by decide +kernel
theorem dX6_rest_17 : decode cX6_rest 17 = .ok (.aload_n 2, 1) := by decide +kernel
theorem dX6_rest_18 : decode cX6_rest 18 = .ok (.invokevirtual 159, 3) := by decide +kernel
theorem dX6_rest_21 : decode cX6_rest 21 = .ok (.istore_n 3, 1) := by decide +kernel
theorem dX6_rest_22 : decode cX6_rest 22 = .ok (.aload_n 2, 1) := by decide +kernel
theorem dX6_rest_23 : decode cX6_rest 23 = .ok (.ifnull 18, 3) := by decide +kernel
theorem dX6_rest_26 : decode cX6_rest 26 = .ok (.iload_n 3, 1) := by decide +kernel
theorem dX6_rest_27 : decode cX6_rest 27 = .ok (.ifCond .ne 14, 3) := by decide +kernel
theorem dX6_rest_30 : decode cX6_rest 30 = .ok (.aload_n 0, 1) := by decide +kernel
theorem dX6_rest_31 : decode cX6_rest 31 = .ok (.aload_n 2, 1) := by decide +kernel
theorem dX6_rest_32 : decode cX6_rest 32 = .ok (.getfield 168, 3) := by decide +kernel
theorem dX6_rest_35 : decode cX6_rest 35 = .ok (.invokevirtual 60, 3) := by decide +kernel
theorem dX6_rest_38 : decode cX6_rest 38 = .ok (.goto 8, 3) := by decide +kernel
theorem dX6_rest_41 : decode cX6_rest 41 = .ok (.aload_n 0, 1) := by decide +kernel
theorem dX6_rest_42 : decode cX6_rest 42 = .ok (.iload_n 3, 1) := by decide +kernel
theorem dX6_rest_43 : decode cX6_rest 43 = .ok (.invokevirtual 50, 3) := by decide +kernel
theorem dX6_rest_46 : decode cX6_rest 46 = .ok (.ireturn, 1) := by decide +kernel
theorem dX6_column_0 : decode cX6_column 0 = .ok (.aload_n 0, 1) := by decide +kernel
theorem dX6_column_1 : decode cX6_column 1 = .ok (.getfield 21, 3) := by decide +kernel
theorem dX6_column_4 : decode cX6_column 4 = .ok (.invokevirtual 141, 3) := by decide +kernel
theorem dX6_column_7 : decode cX6_column 7 = .ok (.aload_n 0, 1) := by decide +kernel
theorem dX6_column_8 : decode cX6_column 8 = .ok (.getfield 12, 3) := by decide +kernel
theorem dX6_column_11 : decode cX6_column 11 = .ok (.iload_n 1, 1) := by decide +kernel
theorem dX6_column_12 : decode cX6_column 12 = .ok (.invokevirtual 85, 3) := by decide +kernel
theorem dX6_column_15 : decode cX6_column 15 = .ok (.astore_n 3, 1) := by decide +kernel
theorem dX6_column_16 : decode cX6_column 16 = .ok (.aload_n 0, 1) := by decide +kernel
theorem dX6_column_17 : decode cX6_column 17 = .ok (.aload_n 3, 1) := by decide +kernel
theorem dX6_column_18 : decode cX6_column 18 = .ok (.iload_n 2, 1) := by decide +kernel
theorem dX6_column_19 : decode cX6_column 19 = .ok (.invokevirtual 171, 3) := by decide +kernel
theorem dX6_column_22 : decode cX6_column 22 = .ok (.istore 4, 2) := by decide +kernel
theorem dX6_column_24 : decode cX6_column 24 = .ok (.aload_n 3, 1) := by decide +kernel
theorem dX6_column_25 : decode cX6_column 25 = .ok (.ifnull 24, 3) := by decide +kernel
theorem dX6_column_28 : decode cX6_column 28 = .ok (.iload 4, 2) := by decide +kernel
theorem dX6_column_30 : decode cX6_column 30 = .ok (.ifCond .ne 19, 3) := by decide +kernel
theorem dX6_column_33 : decode cX6_column 33 = .ok (.aload_n 0, 1) := by decide +kernel
theorem dX6_column_34 : decode cX6_column 34 = .ok (.aload_n 0, 1) := by decide +kernel
theorem dX6_column_35 : decode cX6_column 35 = .ok (.getfield 21, 3) := by decide +kernel
theorem dX6_column_38 : decode cX6_column 38 = .ok (.aload_n 3, 1) := by decide +kernel
theorem dX6_column_39 : decode cX6_column 39 = .ok (.iload_n 2, 1) := by decide +kernel
theorem dX6_column_40 : decode cX6_column 40 = .ok (.invokevirtual 175, 3) := by decide +kernel
theorem dX6_column_43 : decode cX6_column 43 = .ok (.invokevirtual 60, 3) := by decide +kernel
theorem dX6_column_46 : decode cX6_column 46 = .ok (.goto 9, 3) := by decide +kernel
theorem dX6_column_49 : decode cX6_column 49 = .ok (.aload_n 0, 1) := by decide +kernel
theorem dX6_column_50 : decode cX6_column 50 = .ok (.iload 4, 2) := by decide +kernel
theorem dX6_column_52 : decode cX6_column 52 = .ok (.invokevirtual 50, 3) := by decide +kernel
theorem dX6_column_55 : decode cX6_column 55 = .ok (.ireturn, 1) := by decide +kernel
theorem dX6_bracket_0 : decode cX6_bracket 0 = .ok (.aload_n 0, 1) := by decide +kernel
theorem dX6_bracket_1 : decode cX6_bracket 1 = .ok (.getfield 21, 3) := by decide +kernel
theorem dX6_bracket_4 : decode cX6_bracket 4 = .ok (.invokevirtual 141, 3) := by decide +kernel
theorem dX6_bracket_7 : decode cX6_bracket 7 = .ok (.aload_n 0, 1) := by decide +kernel
theorem dX6_bracket_8 : decode cX6_bracket 8 = .ok (.getfield 12, 3) := by decide +kernel
theorem dX6_bracket_11 : decode cX6_bracket 11 = .ok (.iload_n 1, 1) := by decide +kernel
theorem dX6_bracket_12 : decode cX6_bracket 12 = .ok (.invokevirtual 85, 3) := by decide +kernel
theorem dX6_bracket_15 : decode cX6_bracket 15 = .ok (.astore 4, 2) := by decide +kernel
theorem dX6_bracket_17 : decode cX6_bracket 17 = .ok (.aload_n 0, 1) := by decide +kernel
theorem dX6_bracket_18 : decode cX6_bracket 18 = .ok (.aload 4, 2) := by decide +kernel
theorem dX6_bracket_20 : decode cX6_bracket 20 = .ok (.iload_n 2, 1) := by decide +kernel
theorem dX6_bracket_21 : decode cX6_bracket 21 = .ok (.invokevirtual 171, 3) := by decide +kernel
theorem dX6_bracket_24 : decode cX6_bracket 24 = .ok (.istore 5, 2) := by decide +kernel
theorem dX6_bracket_26 : decode cX6_bracket 26 = .ok (.aload 4, 2) := by decide +kernel
theorem dX6_bracket_28 : decode cX6_bracket 28 = .ok (.ifnull 8, 3) := by decide +kernel
theorem dX6_bracket_31 : decode cX6_bracket 31 = .ok (.iload 5, 2) := by decide +kernel
theorem dX6_bracket_33 : decode cX6_bracket 33 = .ok (.ifCond .eq 10, 3) := by decide +kernel
theorem dX6_bracket_36 : decode cX6_bracket 36 = .ok (.aload_n 0, 1) := by decide +kernel
theorem dX6_bracket_37 : decode cX6_bracket 37 = .ok (.iload 5, 2) := by decide +kernel
theorem dX6_bracket_39 : decode cX6_bracket 39 = .ok (.invokevirtual 50, 3) := by decide +kernel
theorem dX6_bracket_42 : decode cX6_bracket 42 = .ok (.ireturn, 1) := by decide +kernel
theorem dX6_bracket_43 : decode cX6_bracket 43 = .ok (.aload_n 0, 1) := by decide +kernel
theorem dX6_bracket_44 : decode cX6_bracket 44 = .ok (.iload_n 3, 1) := by decide +kernel
theorem dX6_bracket_45 : decode cX6_bracket 45 = .ok (.ifCond .eq 16, 3) := by decide +kernel
theorem dX6_bracket_48 : decode cX6_bracket 48 = .ok (.aload_n 0, 1) := by decide +kernel
theorem dX6_bracket_49 : decode cX6_bracket 49 = .ok (.getfield 21, 3) := by decide +kernel
theorem dX6_bracket_52 : decode cX6_bracket 52 = .ok (.aload 4, 2) := by decide +kernel
theorem dX6_bracket_54 : decode cX6_bracket 54 = .ok (.iload_n 2, 1) := by decide +kernel
theorem dX6_bracket_55 : decode cX6_bracket 55 = .ok (.invokevirtual 178, 3) := by decide +kernel
theorem dX6_bracket_58 : decode cX6_bracket 58 = .ok (.goto 13, 3) := by decide +kernel
theorem dX6_bracket_61 : decode cX6_bracket 61 = .ok (.aload_n 0, 1) := by decide +kernel
theorem dX6_bracket_62 : decode cX6_bracket 62 = .ok (.getfield 21, 3) := by decide +kernel
theorem dX6_bracket_65 : decode cX6_bracket 65 = .ok (.aload 4, 2) := by decide +kernel
theorem dX6_bracket_67 : decode cX6_bracket 67 = .ok (.iload_n 2, 1) := by decide +kernel
theorem dX6_bracket_68 : decode cX6_bracket 68 = .ok (.invokevirtual 181, 3) := by decide +kernel
theorem dX6_bracket_71 : decode cX6_bracket 71 = .ok (.invokevirtual 60, 3) := by decide +kernel
theorem dX6_bracket_74 : decode cX6_bracket 74 = .ok (.ireturn, 1) := by decide +kernel
theorem dX6_cost_0 : decode cX6_cost 0 = .ok (.aload_n 0, 1) := by decide +kernel
theorem dX6_cost_1 : decode cX6_cost 1 = .ok (.getfield 21, 3) := by decide +kernel
theorem dX6_cost_4 : decode cX6_cost 4 = .ok (.invokevirtual 141, 3) := by decide +kernel
theorem dX6_cost_7 : decode cX6_cost 7 = .ok (.aload_n 0, 1) := by decide +kernel
theorem dX6_cost_8 : decode cX6_cost 8 = .ok (.iload_n 1, 1) := by decide +kernel
theorem dX6_cost_9 : decode cX6_cost 9 = .ok (.invokevirtual 184, 3) := by decide +kernel
theorem dX6_cost_12 : decode cX6_cost 12 = .ok (.istore_n 2, 1) := by decide +kernel
theorem dX6_cost_13 : decode cX6_cost 13 = .ok (.iload_n 2, 1) := by decide +kernel
theorem dX6_cost_14 : decode cX6_cost 14 = .ok (.ifCond .ne 19, 3) := by decide +kernel
theorem dX6_cost_17 : decode cX6_cost 17 = .ok (.aload_n 0, 1) := by decide +kernel
theorem dX6_cost_18 : decode cX6_cost 18 = .ok (.aload_n 0, 1) := by decide +kernel
theorem dX6_cost_19 : decode cX6_cost 19 = .ok (.getfield 21, 3) := by decide +kernel
theorem dX6_cost_22 : decode cX6_cost 22 = .ok (.getfield 187, 3) := by decide +kernel
theorem dX6_cost_25 : decode cX6_cost 25 = .ok (.iload_n 1, 1) := by decide +kernel
theorem dX6_cost_26 : decode cX6_cost 26 = .ok (.iaload, 1) := by decide +kernel
theorem dX6_cost_27 : decode cX6_cost 27 = .ok (.invokevirtual 60, 3) := by decide +kernel
theorem dX6_cost_30 : decode cX6_cost 30 = .ok (.goto 8, 3) := by decide +kernel
theorem dX6_cost_33 : decode cX6_cost 33 = .ok (.aload_n 0, 1) := by decide +kernel
theorem dX6_cost_34 : decode cX6_cost 34 = .ok (.iload_n 2, 1) := by decide +kernel
theorem dX6_cost_35 : decode cX6_cost 35 = .ok (.invokevirtual 50, 3) := by decide +kernel
theorem dX6_cost_38 : decode cX6_cost 38 = .ok (.ireturn, 1) := by decide +kernel
theorem dX6_runs_0 : decode cX6_runs 0 = .ok (.aload_n 0, 1) := by decide +kernel
theorem dX6_runs_1 : decode cX6_runs 1 = .ok (.getfield 21, 3) := by decide +kernel
theorem dX6_runs_4 : decode cX6_runs 4 = .ok (.invokevirtual 141, 3) := by decide +kernel
theorem dX6_runs_7 : decode cX6_runs 7 = .ok (.iload_n 2, 1) := by decide +kernel
theorem dX6_runs_8 : decode cX6_runs 8 = .ok (.iconst 0, 1) := by decide +kernel
theorem dX6_runs_9 : decode cX6_runs 9 = .ok (.iconst 1, 1) := by decide +kernel
theorem dX6_runs_10 : decode cX6_runs 10 = .ok (.invokestatic 29, 3) := by decide +kernel
theorem dX6_runs_13 : decode cX6_runs 13 = .ok (.ifCond .eq 11, 3) := by decide +kernel
theorem dX6_runs_16 : decode cX6_runs 16 = .ok (.aload_n 0, 1) := by decide +kernel
theorem dX6_runs_17 : decode cX6_runs 17 = .ok (.iload_n 1, 1) := by decide +kernel
theorem dX6_runs_18 : decode cX6_runs 18 = .ok (.invokevirtual 184, 3) := by decide +kernel
theorem dX6_runs_21 : decode cX6_runs 21 = .ok (.goto 4, 3) := by decide +kernel
theorem dX6_runs_24 : decode cX6_runs 24 = .ok (.iconst 2, 1) := by decide +kernel
theorem dX6_runs_25 : decode cX6_runs 25 = .ok (.istore_n 3, 1) := by decide +kernel
theorem dX6_runs_26 : decode cX6_runs 26 = .ok (.iload_n 3, 1) := by decide +kernel
theorem dX6_runs_27 : decode cX6_runs 27 = .ok (.ifCond .ne 19, 3) := by decide +kernel
theorem dX6_runs_30 : decode cX6_runs 30 = .ok (.aload_n 0, 1) := by decide +kernel
theorem dX6_runs_31 : decode cX6_runs 31 = .ok (.aload_n 0, 1) := by decide +kernel
theorem dX6_runs_32 : decode cX6_runs 32 = .ok (.getfield 21, 3) := by decide +kernel
theorem dX6_runs_35 : decode cX6_runs 35 = .ok (.iload_n 1, 1) := by decide +kernel
theorem dX6_runs_36 : decode cX6_runs 36 = .ok (.iload_n 2, 1) := by decide +kernel
theorem dX6_runs_37 : decode cX6_runs 37 = .ok (.invokevirtual 190, 3) := by decide +kernel
theorem dX6_runs_40 : decode cX6_runs 40 = .ok (.invokevirtual 60, 3) := by decide +kernel
theorem dX6_runs_43 : decode cX6_runs 43 = .ok (.goto 8, 3) := by decide +kernel
theorem dX6_runs_46 : decode cX6_runs 46 = .ok (.aload_n 0, 1) := by decide +kernel
theorem dX6_runs_47 : decode cX6_runs 47 = .ok (.iload_n 3, 1) := by decide +kernel
theorem dX6_runs_48 : decode cX6_runs 48 = .ok (.invokevirtual 50, 3) := by decide +kernel
theorem dX6_runs_51 : decode cX6_runs 51 = .ok (.ireturn, 1) := by decide +kernel
theorem dX6_moved_0 : decode cX6_moved 0 = .ok (.aload_n 0, 1) := by decide +kernel
theorem dX6_moved_1 : decode cX6_moved 1 = .ok (.getfield 21, 3) := by decide +kernel
theorem dX6_moved_4 : decode cX6_moved 4 = .ok (.invokevirtual 141, 3) := by decide +kernel
theorem dX6_moved_7 : decode cX6_moved 7 = .ok (.aload_n 0, 1) := by decide +kernel
theorem dX6_moved_8 : decode cX6_moved 8 = .ok (.iload_n 1, 1) := by decide +kernel
theorem dX6_moved_9 : decode cX6_moved 9 = .ok (.invokevirtual 184, 3) := by decide +kernel
theorem dX6_moved_12 : decode cX6_moved 12 = .ok (.istore_n 2, 1) := by decide +kernel
theorem dX6_moved_13 : decode cX6_moved 13 = .ok (.iload_n 2, 1) := by decide +kernel
theorem dX6_moved_14 : decode cX6_moved 14 = .ok (.ifCond .ne 18, 3) := by decide +kernel
theorem dX6_moved_17 : decode cX6_moved 17 = .ok (.aload_n 0, 1) := by decide +kernel
theorem dX6_moved_18 : decode cX6_moved 18 = .ok (.aload_n 0, 1) := by decide +kernel
theorem dX6_moved_19 : decode cX6_moved 19 = .ok (.getfield 21, 3) := by decide +kernel
theorem dX6_moved_22 : decode cX6_moved 22 = .ok (.iload_n 1, 1) := by decide +kernel
theorem dX6_moved_23 : decode cX6_moved 23 = .ok (.invokevirtual 194, 3) := by decide +kernel
theorem dX6_moved_26 : decode cX6_moved 26 = .ok (.invokevirtual 60, 3) := by decide +kernel
theorem dX6_moved_29 : decode cX6_moved 29 = .ok (.goto 8, 3) := by decide +kernel
theorem dX6_moved_32 : decode cX6_moved 32 = .ok (.aload_n 0, 1) := by decide +kernel
theorem dX6_moved_33 : decode cX6_moved 33 = .ok (.iload_n 2, 1) := by decide +kernel
theorem dX6_moved_34 : decode cX6_moved 34 = .ok (.invokevirtual 50, 3) := by decide +kernel
theorem dX6_moved_37 : decode cX6_moved 37 = .ok (.ireturn, 1) := by decide +kernel
theorem dX6_faultOfLine_0 : decode cX6_faultOfLine 0 = .ok (.aload_n 0, 1) := by decide +kernel
theorem dX6_faultOfLine_1 : decode cX6_faultOfLine 1 = .ok (.getfield 12, 3) := by decide +kernel
theorem dX6_faultOfLine_4 : decode cX6_faultOfLine 4 = .ok (.iload_n 1, 1) := by decide +kernel
theorem dX6_faultOfLine_5 : decode cX6_faultOfLine 5 = .ok (.invokevirtual 63, 3) := by decide +kernel
theorem dX6_faultOfLine_8 : decode cX6_faultOfLine 8 = .ok (.ifCond .ne 5, 3) := by decide +kernel
theorem dX6_faultOfLine_11 : decode cX6_faultOfLine 11 = .ok (.iconst 1, 1) := by decide +kernel
theorem dX6_faultOfLine_12 : decode cX6_faultOfLine 12 = .ok (.ireturn, 1) := by decide +kernel
theorem dX6_faultOfLine_13 : decode cX6_faultOfLine 13 = .ok (.aload_n 0, 1) := by decide +kernel
theorem dX6_faultOfLine_14 : decode cX6_faultOfLine 14 = .ok (.getfield 21, 3) := by decide +kernel
theorem dX6_faultOfLine_17 : decode cX6_faultOfLine 17 = .ok (.getfield 144, 3) := by decide +kernel
theorem dX6_faultOfLine_20 : decode cX6_faultOfLine 20 = .ok (.ifCond .eq 7, 3) := by decide +kernel
theorem dX6_faultOfLine_23 : decode cX6_faultOfLine 23 = .ok (.iconst 0, 1) := by decide +kernel
theorem dX6_faultOfLine_24 : decode cX6_faultOfLine 24 = .ok (.goto 5, 3) := by decide +kernel
theorem dX6_faultOfLine_27 : decode cX6_faultOfLine 27 = .ok (.bipush 6, 2) := by decide +kernel
theorem dX6_faultOfLine_29 : decode cX6_faultOfLine 29 = .ok (.ireturn, 1) := by decide +kernel
theorem dX6_faultOfNote_0 : decode cX6_faultOfNote 0 = .ok (.aload_n 1, 1) := by decide +kernel
theorem dX6_faultOfNote_1 : decode cX6_faultOfNote 1 = .ok (.ifnonnull 5, 3) := by decide +kernel
theorem dX6_faultOfNote_4 : decode cX6_faultOfNote 4 = .ok (.iconst 1, 1) := by decide +kernel
theorem dX6_faultOfNote_5 : decode cX6_faultOfNote 5 = .ok (.ireturn, 1) := by decide +kernel
theorem dX6_faultOfNote_6 : decode cX6_faultOfNote 6 = .ok (.aload_n 0, 1) := by decide +kernel
theorem dX6_faultOfNote_7 : decode cX6_faultOfNote 7 = .ok (.getfield 12, 3) := by decide +kernel
theorem dX6_faultOfNote_10 : decode cX6_faultOfNote 10 = .ok (.aload_n 1, 1) := by decide +kernel
theorem dX6_faultOfNote_11 : decode cX6_faultOfNote 11 = .ok (.invokevirtual 137, 3) := by decide +kernel
theorem dX6_faultOfNote_14 : decode cX6_faultOfNote 14 = .ok (.ifCond .ne 5, 3) := by decide +kernel
theorem dX6_faultOfNote_17 : decode cX6_faultOfNote 17 = .ok (.iconst 5, 1) := by decide +kernel
theorem dX6_faultOfNote_18 : decode cX6_faultOfNote 18 = .ok (.ireturn, 1) := by decide +kernel
theorem dX6_faultOfNote_19 : decode cX6_faultOfNote 19 = .ok (.aload_n 0, 1) := by decide +kernel
theorem dX6_faultOfNote_20 : decode cX6_faultOfNote 20 = .ok (.getfield 21, 3) := by decide +kernel
theorem dX6_faultOfNote_23 : decode cX6_faultOfNote 23 = .ok (.getfield 144, 3) := by decide +kernel
theorem dX6_faultOfNote_26 : decode cX6_faultOfNote 26 = .ok (.ifCond .eq 7, 3) := by decide +kernel
theorem dX6_faultOfNote_29 : decode cX6_faultOfNote 29 = .ok (.iconst 0, 1) := by decide +kernel
theorem dX6_faultOfNote_30 : decode cX6_faultOfNote 30 = .ok (.goto 5, 3) := by decide +kernel
theorem dX6_faultOfNote_33 : decode cX6_faultOfNote 33 = .ok (.bipush 6, 2) := by decide +kernel
theorem dX6_faultOfNote_35 : decode cX6_faultOfNote 35 = .ok (.ireturn, 1) := by decide +kernel
theorem dX6_faultOfPage_0 : decode cX6_faultOfPage 0 = .ok (.aload_n 0, 1) := by decide +kernel
theorem dX6_faultOfPage_1 : decode cX6_faultOfPage 1 = .ok (.getfield 21, 3) := by decide +kernel
theorem dX6_faultOfPage_4 : decode cX6_faultOfPage 4 = .ok (.getfield 144, 3) := by decide +kernel
theorem dX6_faultOfPage_7 : decode cX6_faultOfPage 7 = .ok (.ifCond .ne 6, 3) := by decide +kernel
theorem dX6_faultOfPage_10 : decode cX6_faultOfPage 10 = .ok (.bipush 6, 2) := by decide +kernel
theorem dX6_faultOfPage_12 : decode cX6_faultOfPage 12 = .ok (.ireturn, 1) := by decide +kernel
theorem dX6_faultOfPage_13 : decode cX6_faultOfPage 13 = .ok (.aload_n 0, 1) := by decide +kernel
theorem dX6_faultOfPage_14 : decode cX6_faultOfPage 14 = .ok (.getfield 21, 3) := by decide +kernel
theorem dX6_faultOfPage_17 : decode cX6_faultOfPage 17 = .ok (.iload_n 1, 1) := by decide +kernel
theorem dX6_faultOfPage_18 : decode cX6_faultOfPage 18 = .ok (.invokevirtual 197, 3) := by decide +kernel
theorem dX6_faultOfPage_21 : decode cX6_faultOfPage 21 = .ok (.ifCond .eq 7, 3) := by decide +kernel
theorem dX6_faultOfPage_24 : decode cX6_faultOfPage 24 = .ok (.iconst 0, 1) := by decide +kernel
theorem dX6_faultOfPage_25 : decode cX6_faultOfPage 25 = .ok (.goto 4, 3) := by decide +kernel
theorem dX6_faultOfPage_28 : decode cX6_faultOfPage 28 = .ok (.iconst 1, 1) := by decide +kernel
theorem dX6_faultOfPage_29 : decode cX6_faultOfPage 29 = .ok (.ireturn, 1) := by decide +kernel
theorem dX6_faultOfBracket_0 : decode cX6_faultOfBracket 0 = .ok (.aload_n 0, 1) := by decide +kernel
theorem dX6_faultOfBracket_1 : decode cX6_faultOfBracket 1 = .ok (.aload_n 1, 1) := by decide +kernel
theorem dX6_faultOfBracket_2 : decode cX6_faultOfBracket 2 = .ok (.invokevirtual 159, 3) := by decide +kernel
theorem dX6_faultOfBracket_5 : decode cX6_faultOfBracket 5 = .ok (.istore_n 3, 1) := by decide +kernel
theorem dX6_faultOfBracket_6 : decode cX6_faultOfBracket 6 = .ok (.aload_n 1, 1) := by decide +kernel
theorem dX6_faultOfBracket_7 : decode cX6_faultOfBracket 7 = .ok (.ifnull 7, 3) := by decide +kernel
theorem dX6_faultOfBracket_10 : decode cX6_faultOfBracket 10 = .ok (.iload_n 3, 1) := by decide +kernel
theorem dX6_faultOfBracket_11 : decode cX6_faultOfBracket 11 = .ok (.ifCond .eq 5, 3) := by decide +kernel
theorem dX6_faultOfBracket_14 : decode cX6_faultOfBracket 14 = .ok (.iload_n 3, 1) := by decide +kernel
theorem dX6_faultOfBracket_15 : decode cX6_faultOfBracket 15 = .ok (.ireturn, 1) := by decide +kernel
theorem dX6_faultOfBracket_16 : decode cX6_faultOfBracket 16 = .ok (.aload_n 0, 1) := by decide +kernel
theorem dX6_faultOfBracket_17 : decode cX6_faultOfBracket 17 = .ok (.getfield 21, 3) := by decide +kernel
theorem dX6_faultOfBracket_20 : decode cX6_faultOfBracket 20 = .ok (.iload_n 2, 1) := by decide +kernel
theorem dX6_faultOfBracket_21 : decode cX6_faultOfBracket 21 = .ok (.invokevirtual 197, 3) := by decide +kernel
theorem dX6_faultOfBracket_24 : decode cX6_faultOfBracket 24 = .ok (.ifCond .ne 5, 3) := by decide +kernel
theorem dX6_faultOfBracket_27 : decode cX6_faultOfBracket 27 = .ok (.iconst 1, 1) := by decide +kernel
theorem dX6_faultOfBracket_28 : decode cX6_faultOfBracket 28 = .ok (.ireturn, 1) := by decide +kernel
theorem dX6_faultOfBracket_29 : decode cX6_faultOfBracket 29 = .ok (.aload_n 0, 1) := by decide +kernel
theorem dX6_faultOfBracket_30 : decode cX6_faultOfBracket 30 = .ok (.getfield 21, 3) := by decide +kernel
theorem dX6_faultOfBracket_33 : decode cX6_faultOfBracket 33 = .ok (.aload_n 1, 1) := by decide +kernel
theorem dX6_faultOfBracket_34 : decode cX6_faultOfBracket 34 = .ok (.iload_n 2, 1) := by decide +kernel
theorem dX6_faultOfBracket_35 : decode cX6_faultOfBracket 35 = .ok (.invokevirtual 200, 3) := by decide +kernel
theorem dX6_faultOfBracket_38 : decode cX6_faultOfBracket 38 = .ok (.ifCond .eq 7, 3) := by decide +kernel
theorem dX6_faultOfBracket_41 : decode cX6_faultOfBracket 41 = .ok (.iconst 0, 1) := by decide +kernel
theorem dX6_faultOfBracket_42 : decode cX6_faultOfBracket 42 = .ok (.goto 5, 3) := by decide +kernel
theorem dX6_faultOfBracket_45 : decode cX6_faultOfBracket 45 = .ok (.bipush 8, 2) := by decide +kernel
theorem dX6_faultOfBracket_47 : decode cX6_faultOfBracket 47 = .ok (.ireturn, 1) := by decide +kernel
theorem dX6_accept_0 : decode cX6_accept 0 = .ok (.aload_n 0, 1) := by decide +kernel
theorem dX6_accept_1 : decode cX6_accept 1 = .ok (.getfield 21, 3) := by decide +kernel
theorem dX6_accept_4 : decode cX6_accept 4 = .ok (.iconst 1, 1) := by decide +kernel
theorem dX6_accept_5 : decode cX6_accept 5 = .ok (.putfield 204, 3) := by decide +kernel
theorem dX6_accept_8 : decode cX6_accept 8 = .ok (.aload_n 0, 1) := by decide +kernel
theorem dX6_accept_9 : decode cX6_accept 9 = .ok (.iconst 0, 1) := by decide +kernel
theorem dX6_accept_10 : decode cX6_accept 10 = .ok (.putfield 25, 3) := by decide +kernel
theorem dX6_accept_13 : decode cX6_accept 13 = .ok (.iconst 1, 1) := by decide +kernel
theorem dX6_accept_14 : decode cX6_accept 14 = .ok (.ireturn, 1) := by decide +kernel
theorem dX6_refuse_0 : decode cX6_refuse 0 = .ok (.aload_n 0, 1) := by decide +kernel
theorem dX6_refuse_1 : decode cX6_refuse 1 = .ok (.iload_n 1, 1) := by decide +kernel
theorem dX6_refuse_2 : decode cX6_refuse 2 = .ok (.putfield 25, 3) := by decide +kernel
theorem dX6_refuse_5 : decode cX6_refuse 5 = .ok (.iconst 0, 1) := by decide +kernel
theorem dX6_refuse_6 : decode cX6_refuse 6 = .ok (.ireturn, 1) := by decide +kernel
theorem dX6_give_0 : decode cX6_give 0 = .ok (.aload_n 0, 1) := by decide +kernel
theorem dX6_give_1 : decode cX6_give 1 = .ok (.iconst 0, 1) := by decide +kernel
theorem dX6_give_2 : decode cX6_give 2 = .ok (.putfield 25, 3) := by decide +kernel
theorem dX6_give_5 : decode cX6_give 5 = .ok (.iload_n 1, 1) := by decide +kernel
theorem dX6_give_6 : decode cX6_give 6 = .ok (.ireturn, 1) := by decide +kernel
theorem dX6_none_0 : decode cX6_none 0 = .ok (.aload_n 0, 1) := by decide +kernel
theorem dX6_none_1 : decode cX6_none 1 = .ok (.iload_n 1, 1) := by decide +kernel
theorem dX6_none_2 : decode cX6_none 2 = .ok (.putfield 25, 3) := by decide +kernel
theorem dX6_none_5 : decode cX6_none 5 = .ok (.iconst (-1), 1) := by decide +kernel
theorem dX6_none_6 : decode cX6_none 6 = .ok (.ireturn, 1) := by decide +kernel
theorem dX6_within_0 : decode cX6_within 0 = .ok (.iload_n 0, 1) := by decide +kernel
theorem dX6_within_1 : decode cX6_within 1 = .ok (.iload_n 1, 1) := by decide +kernel
theorem dX6_within_2 : decode cX6_within 2 = .ok (.if_icmp .lt 12, 3) := by decide +kernel
theorem dX6_within_5 : decode cX6_within 5 = .ok (.iload_n 0, 1) := by decide +kernel
theorem dX6_within_6 : decode cX6_within 6 = .ok (.iload_n 2, 1) := by decide +kernel
theorem dX6_within_7 : decode cX6_within 7 = .ok (.if_icmp .gt 7, 3) := by decide +kernel
theorem dX6_within_10 : decode cX6_within 10 = .ok (.iconst 1, 1) := by decide +kernel
theorem dX6_within_11 : decode cX6_within 11 = .ok (.goto 4, 3) := by decide +kernel
theorem dX6_within_14 : decode cX6_within 14 = .ok (.iconst 0, 1) := by decide +kernel
theorem dX6_within_15 : decode cX6_within 15 = .ok (.ireturn, 1) := by decide +kernel
theorem dX6_isLineHeight_0 : decode cX6_isLineHeight 0 = .ok (.iload_n 0, 1) := by decide +kernel
theorem dX6_isLineHeight_1 : decode cX6_isLineHeight 1 = .ok (.iconst 1, 1) := by decide +kernel
theorem dX6_isLineHeight_2 : decode cX6_isLineHeight 2 = .ok (.bipush 50, 2) := by decide +kernel
theorem dX6_isLineHeight_4 : decode cX6_isLineHeight 4 = .ok (.invokestatic 29, 3) := by decide +kernel
theorem dX6_isLineHeight_7 : decode cX6_isLineHeight 7 = .ok (.ireturn, 1) := by decide +kernel
theorem dX6_isNoteHeight_0 : decode cX6_isNoteHeight 0 = .ok (.iload_n 0, 1) := by decide +kernel
theorem dX6_isNoteHeight_1 : decode cX6_isNoteHeight 1 = .ok (.iconst 1, 1) := by decide +kernel
theorem dX6_isNoteHeight_2 : decode cX6_isNoteHeight 2 = .ok (.bipush 100, 2) := by decide +kernel
theorem dX6_isNoteHeight_4 : decode cX6_isNoteHeight 4 = .ok (.invokestatic 29, 3) := by decide +kernel
theorem dX6_isNoteHeight_7 : decode cX6_isNoteHeight 7 = .ok (.ireturn, 1) := by decide +kernel
theorem dX7_init_0 : decode cX7_init 0 = .ok (.aload_n 0, 1) := by decide +kernel
theorem dX7_init_1 : decode cX7_init 1 = .ok (.invokespecial 1, 3) := by decide +kernel
theorem dX7_init_4 : decode cX7_init 4 = .ok (.aload_n 0, 1) := by decide +kernel
theorem dX7_init_5 : decode cX7_init 5 = .ok (.bipush 100, 2) := by decide +kernel
theorem dX7_init_7 : decode cX7_init 7 = .ok (.putfield 7, 3) := by decide +kernel
theorem dX7_init_10 : decode cX7_init 10 = .ok (.aload_n 0, 1) := by decide +kernel
theorem dX7_init_11 : decode cX7_init 11 = .ok (.iconst 2, 1) := by decide +kernel
theorem dX7_init_12 : decode cX7_init 12 = .ok (.putfield 13, 3) := by decide +kernel
theorem dX7_init_15 : decode cX7_init 15 = .ok (.aload_n 0, 1) := by decide +kernel
theorem dX7_init_16 : decode cX7_init 16 = .ok (.bipush 50, 2) := by decide +kernel
theorem dX7_init_18 : decode cX7_init 18 = .ok (.putfield 16, 3) := by decide +kernel
theorem dX7_init_21 : decode cX7_init 21 = .ok (.aload_n 0, 1) := by decide +kernel
theorem dX7_init_22 : decode cX7_init 22 = .ok (.bipush 15, 2) := by decide +kernel
theorem dX7_init_24 : decode cX7_init 24 = .ok (.putfield 19, 3) := by decide +kernel
theorem dX7_init_27 : decode cX7_init 27 = .ok (.aload_n 0, 1) := by decide +kernel
theorem dX7_init_28 : decode cX7_init 28 = .ok (.bipush 60, 2) := by decide +kernel
theorem dX7_init_30 : decode cX7_init 30 = .ok (.newarray .int, 2) := by decide +kernel
theorem dX7_init_32 : decode cX7_init 32 = .ok (.putfield 22, 3) := by decide +kernel
theorem dX7_init_35 : decode cX7_init 35 = .ok (.aload_n 0, 1) := by decide +kernel
theorem dX7_init_36 : decode cX7_init 36 = .ok (.bipush 24, 2) := by decide +kernel
theorem dX7_init_38 : decode cX7_init 38 = .ok (.newarray .int, 2) := by decide +kernel
theorem dX7_init_40 : decode cX7_init 40 = .ok (.putfield 26, 3) := by decide +kernel
theorem dX7_init_43 : decode cX7_init 43 = .ok (.aload_n 0, 1) := by decide +kernel
theorem dX7_init_44 : decode cX7_init 44 = .ok (.bipush 24, 2) := by decide +kernel
theorem dX7_init_46 : decode cX7_init 46 = .ok (.newarray .int, 2) := by decide +kernel
theorem dX7_init_48 : decode cX7_init 48 = .ok (.putfield 29, 3) := by decide +kernel
theorem dX7_init_51 : decode cX7_init 51 = .ok (.aload_n 0, 1) := by decide +kernel
theorem dX7_init_52 : decode cX7_init 52 = .ok (.bipush 24, 2) := by decide +kernel
theorem dX7_init_54 : decode cX7_init 54 = .ok (.newarray .int, 2) := by decide +kernel
theorem dX7_init_56 : decode cX7_init 56 = .ok (.putfield 32, 3) := by decide +kernel
theorem dX7_init_59 : decode cX7_init 59 = .ok (.aload_n 0, 1) := by decide +kernel
theorem dX7_init_60 : decode cX7_init 60 = .ok (.bipush 24, 2) := by decide +kernel
theorem dX7_init_62 : decode cX7_init 62 = .ok (.newarray .int, 2) := by decide +kernel
theorem dX7_init_64 : decode cX7_init 64 = .ok (.putfield 35, 3) := by decide +kernel
theorem dX7_init_67 : decode cX7_init 67 = .ok (.aload_n 0, 1) := by decide +kernel
theorem dX7_init_68 : decode cX7_init 68 = .ok (.bipush 24, 2) := by decide +kernel
theorem dX7_init_70 : decode cX7_init 70 = .ok (.newarray .int, 2) := by decide +kernel
theorem dX7_init_72 : decode cX7_init 72 = .ok (.putfield 38, 3) := by decide +kernel
theorem dX7_init_75 : decode cX7_init 75 = .ok (.aload_n 0, 1) := by decide +kernel
theorem dX7_init_76 : decode cX7_init 76 = .ok (.bipush 24, 2) := by decide +kernel
theorem dX7_init_78 : decode cX7_init 78 = .ok (.newarray .int, 2) := by decide +kernel
theorem dX7_init_80 : decode cX7_init 80 = .ok (.putfield 41, 3) := by decide +kernel
theorem dX7_init_83 : decode cX7_init 83 = .ok (.aload_n 0, 1) := by decide +kernel
theorem dX7_init_84 : decode cX7_init 84 = .ok (.bipush 24, 2) := by decide +kernel
theorem dX7_init_86 : decode cX7_init 86 = .ok (.newarray .int, 2) := by decide +kernel
theorem dX7_init_88 : decode cX7_init 88 = .ok (.putfield 44, 3) := by decide +kernel
theorem dX7_init_91 : decode cX7_init 91 = .ok (.aload_n 0, 1) := by decide +kernel
theorem dX7_init_92 : decode cX7_init 92 = .ok (.bipush 24, 2) := by decide +kernel
theorem dX7_init_94 : decode cX7_init 94 = .ok (.newarray .int, 2) := by decide +kernel
theorem dX7_init_96 : decode cX7_init 96 = .ok (.putfield 47, 3) := by decide +kernel
theorem dX7_init_99 : decode cX7_init 99 = .ok (.aload_n 0, 1) := by decide +kernel
theorem dX7_init_100 : decode cX7_init 100 = .ok (.bipush 24, 2) := by decide +kernel
theorem dX7_init_102 : decode cX7_init 102 = .ok (.newarray .int, 2) := by decide +kernel
theorem dX7_init_104 : decode cX7_init 104 = .ok (.putfield 50, 3) := by decide +kernel
theorem dX7_init_107 : decode cX7_init 107 = .ok (.aload_n 0, 1) := by decide +kernel
theorem dX7_init_108 : decode cX7_init 108 = .ok (.bipush 24, 2) := by decide +kernel
theorem dX7_init_110 : decode cX7_init 110 = .ok (.newarray .int, 2) := by decide +kernel
theorem dX7_init_112 : decode cX7_init 112 = .ok (.putfield 53, 3) := by decide +kernel
theorem dX7_init_115 : decode cX7_init 115 = .ok (.aload_n 0, 1) := by decide +kernel
theorem dX7_init_116 : decode cX7_init 116 = .ok (.bipush 72, 2) := by decide +kernel
theorem dX7_init_118 : decode cX7_init 118 = .ok (.newarray .int, 2) := by decide +kernel
theorem dX7_init_120 : decode cX7_init 120 = .ok (.putfield 56, 3) := by decide +kernel
theorem dX7_init_123 : decode cX7_init 123 = .ok (.aload_n 0, 1) := by decide +kernel
theorem dX7_init_124 : decode cX7_init 124 = .ok (.sipush 141, 3) := by decide +kernel
theorem dX7_init_127 : decode cX7_init 127 = .ok (.newarray .int, 2) := by decide +kernel
theorem dX7_init_129 : decode cX7_init 129 = .ok (.putfield 59, 3) := by decide +kernel
theorem dX7_init_132 : decode cX7_init 132 = .ok (.aload_n 0, 1) := by decide +kernel
theorem dX7_init_133 : decode cX7_init 133 = .ok (.sipush 141, 3) := by decide +kernel
theorem dX7_init_136 : decode cX7_init 136 = .ok (.newarray .int, 2) := by decide +kernel
theorem dX7_init_138 : decode cX7_init 138 = .ok (.putfield 62, 3) := by decide +kernel
theorem dX7_init_141 : decode cX7_init 141 = .ok (.aload_n 0, 1) := by decide +kernel
theorem dX7_init_142 : decode cX7_init 142 = .ok (.sipush 282, 3) := by decide +kernel
theorem dX7_init_145 : decode cX7_init 145 = .ok (.newarray .int, 2) := by decide +kernel
theorem dX7_init_147 : decode cX7_init 147 = .ok (.putfield 65, 3) := by decide +kernel
theorem dX7_init_150 : decode cX7_init 150 = .ok (.aload_n 0, 1) := by decide +kernel
theorem dX7_init_151 : decode cX7_init 151 = .ok (.sipush 141, 3) := by decide +kernel
theorem dX7_init_154 : decode cX7_init 154 = .ok (.newarray .long, 2) := by decide +kernel
theorem dX7_init_156 : decode cX7_init 156 = .ok (.putfield 68, 3) := by decide +kernel
theorem dX7_init_159 : decode cX7_init 159 = .ok (.aload_n 0, 1) := by decide +kernel
theorem dX7_init_160 : decode cX7_init 160 = .ok (.bipush 60, 2) := by decide +kernel
theorem dX7_init_162 : decode cX7_init 162 = .ok (.newarray .int, 2) := by decide +kernel
theorem dX7_init_164 : decode cX7_init 164 = .ok (.putfield 72, 3) := by decide +kernel
theorem dX7_init_167 : decode cX7_init 167 = .ok (.aload_n 0, 1) := by decide +kernel
theorem dX7_init_168 : decode cX7_init 168 = .ok (.bipush 60, 2) := by decide +kernel
theorem dX7_init_170 : decode cX7_init 170 = .ok (.newarray .int, 2) := by decide +kernel
theorem dX7_init_172 : decode cX7_init 172 = .ok (.putfield 75, 3) := by decide +kernel
theorem dX7_init_175 : decode cX7_init 175 = .ok (.aload_n 0, 1) := by decide +kernel
theorem dX7_init_176 : decode cX7_init 176 = .ok (.bipush 24, 2) := by decide +kernel
theorem dX7_init_178 : decode cX7_init 178 = .ok (.newarray .int, 2) := by decide +kernel
theorem dX7_init_180 : decode cX7_init 180 = .ok (.putfield 78, 3) := by decide +kernel
theorem dX7_init_183 : decode cX7_init 183 = .ok (.aload_n 0, 1) := by decide +kernel
theorem dX7_init_184 : decode cX7_init 184 = .ok (.bipush 24, 2) := by decide +kernel
theorem dX7_init_186 : decode cX7_init 186 = .ok (.newarray .int, 2) := by decide +kernel
theorem dX7_init_188 : decode cX7_init 188 = .ok (.putfield 81, 3) := by decide +kernel
theorem dX7_init_191 : decode cX7_init 191 = .ok (.aload_n 0, 1) := by decide +kernel
theorem dX7_init_192 : decode cX7_init 192 = .ok (.bipush 24, 2) := by decide +kernel
theorem dX7_init_194 : decode cX7_init 194 = .ok (.newarray .int, 2) := by decide +kernel
theorem dX7_init_196 : decode cX7_init 196 = .ok (.putfield 84, 3) := by decide +kernel
theorem dX7_init_199 : decode cX7_init 199 = .ok (.aload_n 0, 1) := by decide +kernel
theorem dX7_init_200 : decode cX7_init 200 = .ok (.bipush 24, 2) := by decide +kernel
theorem dX7_init_202 : decode cX7_init 202 = .ok (.newarray .int, 2) := by decide +kernel
theorem dX7_init_204 : decode cX7_init 204 = .ok (.putfield 87, 3) := by decide +kernel
theorem dX7_init_207 : decode cX7_init 207 = .ok (.aload_n 0, 1) := by decide +kernel
theorem dX7_init_208 : decode cX7_init 208 = .ok (.bipush 24, 2) := by decide +kernel
theorem dX7_init_210 : decode cX7_init 210 = .ok (.newarray .int, 2) := by decide +kernel
theorem dX7_init_212 : decode cX7_init 212 = .ok (.putfield 90, 3) := by decide +kernel
theorem dX7_init_215 : decode cX7_init 215 = .ok (.aload_n 0, 1) := by decide +kernel
theorem dX7_init_216 : decode cX7_init 216 = .ok (.bipush 24, 2) := by decide +kernel
theorem dX7_init_218 : decode cX7_init 218 = .ok (.newarray .int, 2) := by decide +kernel
theorem dX7_init_220 : decode cX7_init 220 = .ok (.putfield 93, 3) := by decide +kernel
theorem dX7_init_223 : decode cX7_init 223 = .ok (.aload_n 0, 1) := by decide +kernel
theorem dX7_init_224 : decode cX7_init 224 = .ok (.bipush 24, 2) := by decide +kernel
theorem dX7_init_226 : decode cX7_init 226 = .ok (.newarray .int, 2) := by decide +kernel
theorem dX7_init_228 : decode cX7_init 228 = .ok (.putfield 96, 3) := by decide +kernel
theorem dX7_init_231 : decode cX7_init 231 = .ok (.aload_n 0, 1) := by decide +kernel
theorem dX7_init_232 : decode cX7_init 232 = .ok (.bipush 24, 2) := by decide +kernel
theorem dX7_init_234 : decode cX7_init 234 = .ok (.newarray .int, 2) := by decide +kernel
theorem dX7_init_236 : decode cX7_init 236 = .ok (.putfield 99, 3) := by decide +kernel
theorem dX7_init_239 : decode cX7_init 239 = .ok (.aload_n 0, 1) := by decide +kernel
theorem dX7_init_240 : decode cX7_init 240 = .ok (.bipush 24, 2) := by decide +kernel
theorem dX7_init_242 : decode cX7_init 242 = .ok (.newarray .int, 2) := by decide +kernel
theorem dX7_init_244 : decode cX7_init 244 = .ok (.putfield 102, 3) := by decide +kernel
theorem dX7_init_247 : decode cX7_init 247 = .ok (.aload_n 0, 1) := by decide +kernel
theorem dX7_init_248 : decode cX7_init 248 = .ok (.iconst 2, 1) := by decide +kernel
theorem dX7_init_249 : decode cX7_init 249 = .ok (.newarray .int, 2) := by decide +kernel
theorem dX7_init_251 : decode cX7_init 251 = .ok (.putfield 105, 3) := by decide +kernel
theorem dX7_init_254 : decode cX7_init 254 = .ok (.aload_n 0, 1) := by decide +kernel
theorem dX7_init_255 : decode cX7_init 255 = .ok (.iconst 2, 1) := by decide +kernel
theorem dX7_init_256 : decode cX7_init 256 = .ok (.newarray .int, 2) := by decide +kernel
theorem dX7_init_258 : decode cX7_init 258 = .ok (.putfield 108, 3) := by decide +kernel
theorem dX7_init_261 : decode cX7_init 261 = .ok (.aload_n 0, 1) := by decide +kernel
theorem dX7_init_262 : decode cX7_init 262 = .ok (.sipush 10025, 3) := by decide +kernel
theorem dX7_init_265 : decode cX7_init 265 = .ok (.newarray .long, 2) := by decide +kernel
theorem dX7_init_267 : decode cX7_init 267 = .ok (.putfield 111, 3) := by decide +kernel
theorem dX7_init_270 : decode cX7_init 270 = .ok (.aload_n 0, 1) := by decide +kernel
theorem dX7_init_271 : decode cX7_init 271 = .ok (.bipush 24, 2) := by decide +kernel
theorem dX7_init_273 : decode cX7_init 273 = .ok (.newarray .int, 2) := by decide +kernel
theorem dX7_init_275 : decode cX7_init 275 = .ok (.putfield 114, 3) := by decide +kernel
theorem dX7_init_278 : decode cX7_init 278 = .ok (.aload_n 0, 1) := by decide +kernel
theorem dX7_init_279 : decode cX7_init 279 = .ok (.bipush 24, 2) := by decide +kernel
theorem dX7_init_281 : decode cX7_init 281 = .ok (.newarray .int, 2) := by decide +kernel
theorem dX7_init_283 : decode cX7_init 283 = .ok (.putfield 117, 3) := by decide +kernel
theorem dX7_init_286 : decode cX7_init 286 = .ok (.aload_n 0, 1) := by decide +kernel
theorem dX7_init_287 : decode cX7_init 287 = .ok (.bipush 24, 2) := by decide +kernel
theorem dX7_init_289 : decode cX7_init 289 = .ok (.newarray .int, 2) := by decide +kernel
theorem dX7_init_291 : decode cX7_init 291 = .ok (.putfield 120, 3) := by decide +kernel
theorem dX7_init_294 : decode cX7_init 294 = .ok (.return_, 1) := by decide +kernel
theorem dX7_status_0 : decode cX7_status 0 = .ok (.aload_n 0, 1) := by decide +kernel
theorem dX7_status_1 : decode cX7_status 1 = .ok (.iconst 0, 1) := by decide +kernel
theorem dX7_status_2 : decode cX7_status 2 = .ok (.putfield 123, 3) := by decide +kernel
theorem dX7_status_5 : decode cX7_status 5 = .ok (.aload_n 0, 1) := by decide +kernel
theorem dX7_status_6 : decode cX7_status 6 = .ok (.getfield 126, 3) := by decide +kernel
theorem dX7_status_9 : decode cX7_status 9 = .ok (.ireturn, 1) := by decide +kernel
theorem dX7_refuse_0 : decode cX7_refuse 0 = .ok (.aload_n 0, 1) := by decide +kernel
theorem dX7_refuse_1 : decode cX7_refuse 1 = .ok (.iload_n 1, 1) := by decide +kernel
theorem dX7_refuse_2 : decode cX7_refuse 2 = .ok (.putfield 126, 3) := by decide +kernel
theorem dX7_refuse_5 : decode cX7_refuse 5 = .ok (.iconst (-1), 1) := by decide +kernel
theorem dX7_refuse_6 : decode cX7_refuse 6 = .ok (.ireturn, 1) := by decide +kernel
theorem dX7_no_0 : decode cX7_no 0 = .ok (.aload_n 0, 1) := by decide +kernel
theorem dX7_no_1 : decode cX7_no 1 = .ok (.iload_n 1, 1) := by decide +kernel
theorem dX7_no_2 : decode cX7_no 2 = .ok (.putfield 126, 3) := by decide +kernel
theorem dX7_no_5 : decode cX7_no 5 = .ok (.iconst 0, 1) := by decide +kernel
theorem dX7_no_6 : decode cX7_no 6 = .ok (.ireturn, 1) := by decide +kernel
theorem dX7_done_0 : decode cX7_done 0 = .ok (.aload_n 0, 1) := by decide +kernel
theorem dX7_done_1 : decode cX7_done 1 = .ok (.iconst 0, 1) := by decide +kernel
theorem dX7_done_2 : decode cX7_done 2 = .ok (.putfield 129, 3) := by decide +kernel
theorem dX7_done_5 : decode cX7_done 5 = .ok (.iconst 1, 1) := by decide +kernel
theorem dX7_done_6 : decode cX7_done 6 = .ok (.ireturn, 1) := by decide +kernel
theorem dX7_isLine_0 : decode cX7_isLine 0 = .ok (.iload_n 1, 1) := by decide +kernel
theorem dX7_isLine_1 : decode cX7_isLine 1 = .ok (.ifCond .lt 15, 3) := by decide +kernel
theorem dX7_isLine_4 : decode cX7_isLine 4 = .ok (.iload_n 1, 1) := by decide +kernel
theorem dX7_isLine_5 : decode cX7_isLine 5 = .ok (.aload_n 0, 1) := by decide +kernel
theorem dX7_isLine_6 : decode cX7_isLine 6 = .ok (.getfield 133, 3) := by decide +kernel
theorem dX7_isLine_9 : decode cX7_isLine 9 = .ok (.if_icmp .ge 7, 3) := by decide +kernel
theorem dX7_isLine_12 : decode cX7_isLine 12 = .ok (.iconst 1, 1) := by decide +kernel
theorem dX7_isLine_13 : decode cX7_isLine 13 = .ok (.goto 4, 3) := by decide +kernel
theorem dX7_isLine_16 : decode cX7_isLine 16 = .ok (.iconst 0, 1) := by decide +kernel
theorem dX7_isLine_17 : decode cX7_isLine 17 = .ok (.ireturn, 1) := by decide +kernel
theorem dX7_isNote_0 : decode cX7_isNote 0 = .ok (.iload_n 1, 1) := by decide +kernel
theorem dX7_isNote_1 : decode cX7_isNote 1 = .ok (.ifCond .lt 15, 3) := by decide +kernel
theorem dX7_isNote_4 : decode cX7_isNote 4 = .ok (.iload_n 1, 1) := by decide +kernel
theorem dX7_isNote_5 : decode cX7_isNote 5 = .ok (.aload_n 0, 1) := by decide +kernel
theorem dX7_isNote_6 : decode cX7_isNote 6 = .ok (.getfield 136, 3) := by decide +kernel
theorem dX7_isNote_9 : decode cX7_isNote 9 = .ok (.if_icmp .ge 7, 3) := by decide +kernel
theorem dX7_isNote_12 : decode cX7_isNote 12 = .ok (.iconst 1, 1) := by decide +kernel
theorem dX7_isNote_13 : decode cX7_isNote 13 = .ok (.goto 4, 3) := by decide +kernel
theorem dX7_isNote_16 : decode cX7_isNote 16 = .ok (.iconst 0, 1) := by decide +kernel
theorem dX7_isNote_17 : decode cX7_isNote 17 = .ok (.ireturn, 1) := by decide +kernel
theorem dX7_page_0 : decode cX7_page 0 = .ok (.aload_n 0, 1) := by decide +kernel
theorem dX7_page_1 : decode cX7_page 1 = .ok (.iconst 0, 1) := by decide +kernel
theorem dX7_page_2 : decode cX7_page 2 = .ok (.putfield 123, 3) := by decide +kernel
theorem dX7_page_5 : decode cX7_page 5 = .ok (.aload_n 0, 1) := by decide +kernel
theorem dX7_page_6 : decode cX7_page 6 = .ok (.iconst 0, 1) := by decide +kernel
theorem dX7_page_7 : decode cX7_page 7 = .ok (.putfield 126, 3) := by decide +kernel
theorem dX7_page_10 : decode cX7_page 10 = .ok (.iload_n 1, 1) := by decide +kernel
theorem dX7_page_11 : decode cX7_page 11 = .ok (.bipush 10, 2) := by decide +kernel
theorem dX7_page_13 : decode cX7_page 13 = .ok (.if_icmp .lt 20, 3) := by decide +kernel
theorem dX7_page_16 : decode cX7_page 16 = .ok (.iload_n 1, 1) := by decide +kernel
theorem dX7_page_17 : decode cX7_page 17 = .ok (.sipush 400, 3) := by decide +kernel
theorem dX7_page_20 : decode cX7_page 20 = .ok (.if_icmp .gt 13, 3) := by decide +kernel
theorem dX7_page_23 : decode cX7_page 23 = .ok (.iload_n 2, 1) := by decide +kernel
theorem dX7_page_24 : decode cX7_page 24 = .ok (.ifCond .lt 9, 3) := by decide +kernel
theorem dX7_page_27 : decode cX7_page 27 = .ok (.iload_n 2, 1) := by decide +kernel
theorem dX7_page_28 : decode cX7_page 28 = .ok (.bipush 20, 2) := by decide +kernel
theorem dX7_page_30 : decode cX7_page 30 = .ok (.if_icmp .le 9, 3) := by decide +kernel
theorem dX7_page_33 : decode cX7_page 33 = .ok (.aload_n 0, 1) := by decide +kernel
theorem dX7_page_34 : decode cX7_page 34 = .ok (.iconst 2, 1) := by decide +kernel
theorem dX7_page_35 : decode cX7_page 35 = .ok (.invokevirtual 139, 3) := by decide +kernel
theorem dX7_page_38 : decode cX7_page 38 = .ok (.ireturn, 1) := by decide +kernel
theorem dX7_page_39 : decode cX7_page 39 = .ok (.aload_n 0, 1) := by decide +kernel
theorem dX7_page_40 : decode cX7_page 40 = .ok (.iload_n 1, 1) := by decide +kernel
theorem dX7_page_41 : decode cX7_page 41 = .ok (.putfield 7, 3) := by decide +kernel
theorem dX7_page_44 : decode cX7_page 44 = .ok (.aload_n 0, 1) := by decide +kernel
theorem dX7_page_45 : decode cX7_page 45 = .ok (.iload_n 2, 1) := by decide +kernel
theorem dX7_page_46 : decode cX7_page 46 = .ok (.putfield 13, 3) := by decide +kernel
theorem dX7_page_49 : decode cX7_page 49 = .ok (.aload_n 0, 1) := by decide +kernel
theorem dX7_page_50 : decode cX7_page 50 = .ok (.invokevirtual 143, 3) := by decide +kernel
theorem dX7_page_53 : decode cX7_page 53 = .ok (.ireturn, 1) := by decide +kernel
theorem dX7_line_0 : decode cX7_line 0 = .ok (.aload_n 0, 1) := by decide +kernel
theorem dX7_line_1 : decode cX7_line 1 = .ok (.iconst 0, 1) := by decide +kernel
theorem dX7_line_2 : decode cX7_line 2 = .ok (.putfield 123, 3) := by decide +kernel
theorem dX7_line_5 : decode cX7_line 5 = .ok (.aload_n 0, 1) := by decide +kernel
theorem dX7_line_6 : decode cX7_line 6 = .ok (.iconst 0, 1) := by decide +kernel
theorem dX7_line_7 : decode cX7_line 7 = .ok (.putfield 126, 3) := by decide +kernel
theorem dX7_line_10 : decode cX7_line 10 = .ok (.iload_n 1, 1) := by decide +kernel
theorem dX7_line_11 : decode cX7_line 11 = .ok (.iconst 1, 1) := by decide +kernel
theorem dX7_line_12 : decode cX7_line 12 = .ok (.if_icmp .lt 9, 3) := by decide +kernel
theorem dX7_line_15 : decode cX7_line 15 = .ok (.iload_n 1, 1) := by decide +kernel
theorem dX7_line_16 : decode cX7_line 16 = .ok (.bipush 50, 2) := by decide +kernel
theorem dX7_line_18 : decode cX7_line 18 = .ok (.if_icmp .le 9, 3) := by decide +kernel
theorem dX7_line_21 : decode cX7_line 21 = .ok (.aload_n 0, 1) := by decide +kernel
theorem dX7_line_22 : decode cX7_line 22 = .ok (.iconst 2, 1) := by decide +kernel
theorem dX7_line_23 : decode cX7_line 23 = .ok (.invokevirtual 147, 3) := by decide +kernel
theorem dX7_line_26 : decode cX7_line 26 = .ok (.ireturn, 1) := by decide +kernel
theorem dX7_line_27 : decode cX7_line 27 = .ok (.aload_n 0, 1) := by decide +kernel
theorem dX7_line_28 : decode cX7_line 28 = .ok (.getfield 133, 3) := by decide +kernel
theorem dX7_line_31 : decode cX7_line 31 = .ok (.bipush 60, 2) := by decide +kernel
theorem dX7_line_33 : decode cX7_line 33 = .ok (.if_icmp .ne 9, 3) := by decide +kernel
theorem dX7_line_36 : decode cX7_line 36 = .ok (.aload_n 0, 1) := by decide +kernel
theorem dX7_line_37 : decode cX7_line 37 = .ok (.iconst 3, 1) := by decide +kernel
theorem dX7_line_38 : decode cX7_line 38 = .ok (.invokevirtual 147, 3) := by decide +kernel
theorem dX7_line_41 : decode cX7_line 41 = .ok (.ireturn, 1) := by decide +kernel
theorem dX7_line_42 : decode cX7_line 42 = .ok (.aload_n 0, 1) := by decide +kernel
theorem dX7_line_43 : decode cX7_line 43 = .ok (.getfield 22, 3) := by decide +kernel
theorem dX7_line_46 : decode cX7_line 46 = .ok (.aload_n 0, 1) := by decide +kernel
theorem dX7_line_47 : decode cX7_line 47 = .ok (.getfield 133, 3) := by decide +kernel
theorem dX7_line_50 : decode cX7_line 50 = .ok (.iload_n 1, 1) := by decide +kernel
theorem dX7_line_51 : decode cX7_line 51 = .ok (.iastore, 1) := by decide +kernel
theorem dX7_line_52 : decode cX7_line 52 = .ok (.aload_n 0, 1) := by decide +kernel
theorem dX7_line_53 : decode cX7_line 53 = .ok (.dup, 1) := by decide +kernel
theorem dX7_line_54 : decode cX7_line 54 = .ok (.getfield 133, 3) := by decide +kernel
theorem dX7_line_57 : decode cX7_line 57 = .ok (.iconst 1, 1) := by decide +kernel
theorem dX7_line_58 : decode cX7_line 58 = .ok (.iadd, 1) := by decide +kernel
theorem dX7_line_59 : decode cX7_line 59 = .ok (.putfield 133, 3) := by decide +kernel
theorem dX7_line_62 : decode cX7_line 62 = .ok (.aload_n 0, 1) := by decide +kernel
theorem dX7_line_63 : decode cX7_line 63 = .ok (.invokevirtual 143, 3) := by decide +kernel
theorem dX7_line_66 : decode cX7_line 66 = .ok (.pop, 1) := by decide +kernel
theorem dX7_line_67 : decode cX7_line 67 = .ok (.aload_n 0, 1) := by decide +kernel
theorem dX7_line_68 : decode cX7_line 68 = .ok (.getfield 133, 3) := by decide +kernel
theorem dX7_line_71 : decode cX7_line 71 = .ok (.iconst 1, 1) := by decide +kernel
theorem dX7_line_72 : decode cX7_line 72 = .ok (.isub, 1) := by decide +kernel
theorem dX7_line_73 : decode cX7_line 73 = .ok (.ireturn, 1) := by decide +kernel
theorem dX7_change_0 : decode cX7_change 0 = .ok (.aload_n 0, 1) := by decide +kernel
theorem dX7_change_1 : decode cX7_change 1 = .ok (.iconst 0, 1) := by decide +kernel
theorem dX7_change_2 : decode cX7_change 2 = .ok (.putfield 123, 3) := by decide +kernel
theorem dX7_change_5 : decode cX7_change 5 = .ok (.aload_n 0, 1) := by decide +kernel
theorem dX7_change_6 : decode cX7_change 6 = .ok (.iconst 0, 1) := by decide +kernel
theorem dX7_change_7 : decode cX7_change 7 = .ok (.putfield 126, 3) := by decide +kernel
theorem dX7_change_10 : decode cX7_change 10 = .ok (.aload_n 0, 1) := by decide +kernel
theorem dX7_change_11 : decode cX7_change 11 = .ok (.iload_n 1, 1) := by decide +kernel
theorem dX7_change_12 : decode cX7_change 12 = .ok (.invokevirtual 151, 3) := by decide +kernel
theorem dX7_change_15 : decode cX7_change 15 = .ok (.ifCond .ne 9, 3) := by decide +kernel
theorem dX7_change_18 : decode cX7_change 18 = .ok (.aload_n 0, 1) := by decide +kernel
theorem dX7_change_19 : decode cX7_change 19 = .ok (.iconst 1, 1) := by decide +kernel
theorem dX7_change_20 : decode cX7_change 20 = .ok (.invokevirtual 139, 3) := by decide +kernel
theorem dX7_change_23 : decode cX7_change 23 = .ok (.ireturn, 1) := by decide +kernel
theorem dX7_change_24 : decode cX7_change 24 = .ok (.iload_n 2, 1) := by decide +kernel
theorem dX7_change_25 : decode cX7_change 25 = .ok (.iconst 1, 1) := by decide +kernel
theorem dX7_change_26 : decode cX7_change 26 = .ok (.if_icmp .lt 9, 3) := by decide +kernel
theorem dX7_change_29 : decode cX7_change 29 = .ok (.iload_n 2, 1) := by decide +kernel
theorem dX7_change_30 : decode cX7_change 30 = .ok (.bipush 50, 2) := by decide +kernel
theorem dX7_change_32 : decode cX7_change 32 = .ok (.if_icmp .le 9, 3) := by decide +kernel
theorem dX7_change_35 : decode cX7_change 35 = .ok (.aload_n 0, 1) := by decide +kernel
theorem dX7_change_36 : decode cX7_change 36 = .ok (.iconst 2, 1) := by decide +kernel
end
section
theorem dX7_change_37 : decode cX7_change 37 = .ok (.invokevirtual 139, 3) := by decide +kernel
theorem dX7_change_40 : decode cX7_change 40 = .ok (.ireturn, 1) := by decide +kernel
theorem dX7_change_41 : decode cX7_change 41 = .ok (.aload_n 0, 1) := by decide +kernel
theorem dX7_change_42 : decode cX7_change 42 = .ok (.getfield 22, 3) := by decide +kernel
theorem dX7_change_45 : decode cX7_change 45 = .ok (.iload_n 1, 1) := by decide +kernel
theorem dX7_change_46 : decode cX7_change 46 = .ok (.iload_n 2, 1) := by decide +kernel
theorem dX7_change_47 : decode cX7_change 47 = .ok (.iastore, 1) := by decide +kernel
theorem dX7_change_48 : decode cX7_change 48 = .ok (.aload_n 0, 1) := by decide +kernel
theorem dX7_change_49 : decode cX7_change 49 = .ok (.invokevirtual 143, 3) := by decide +kernel
theorem dX7_change_52 : decode cX7_change 52 = .ok (.ireturn, 1) := by decide +kernel
theorem dX7_note_0 : decode cX7_note 0 = .ok (.aload_n 0, 1) := by decide +kernel
theorem dX7_note_1 : decode cX7_note 1 = .ok (.iconst 0, 1) := by decide +kernel
theorem dX7_note_2 : decode cX7_note 2 = .ok (.putfield 123, 3) := by decide +kernel
theorem dX7_note_5 : decode cX7_note 5 = .ok (.aload_n 0, 1) := by decide +kernel
theorem dX7_note_6 : decode cX7_note 6 = .ok (.iconst 0, 1) := by decide +kernel
theorem dX7_note_7 : decode cX7_note 7 = .ok (.putfield 126, 3) := by decide +kernel
theorem dX7_note_10 : decode cX7_note 10 = .ok (.aload_n 0, 1) := by decide +kernel
theorem dX7_note_11 : decode cX7_note 11 = .ok (.iload_n 1, 1) := by decide +kernel
theorem dX7_note_12 : decode cX7_note 12 = .ok (.invokevirtual 151, 3) := by decide +kernel
theorem dX7_note_15 : decode cX7_note 15 = .ok (.ifCond .ne 9, 3) := by decide +kernel
theorem dX7_note_18 : decode cX7_note 18 = .ok (.aload_n 0, 1) := by decide +kernel
theorem dX7_note_19 : decode cX7_note 19 = .ok (.iconst 1, 1) := by decide +kernel
theorem dX7_note_20 : decode cX7_note 20 = .ok (.invokevirtual 147, 3) := by decide +kernel
theorem dX7_note_23 : decode cX7_note 23 = .ok (.ireturn, 1) := by decide +kernel
theorem dX7_note_24 : decode cX7_note 24 = .ok (.iload_n 2, 1) := by decide +kernel
theorem dX7_note_25 : decode cX7_note 25 = .ok (.iconst 1, 1) := by decide +kernel
theorem dX7_note_26 : decode cX7_note 26 = .ok (.if_icmp .lt 42, 3) := by decide +kernel
theorem dX7_note_29 : decode cX7_note 29 = .ok (.iload_n 2, 1) := by decide +kernel
theorem dX7_note_30 : decode cX7_note 30 = .ok (.bipush 100, 2) := by decide +kernel
theorem dX7_note_32 : decode cX7_note 32 = .ok (.if_icmp .gt 36, 3) := by decide +kernel
theorem dX7_note_35 : decode cX7_note 35 = .ok (.iload_n 3, 1) := by decide +kernel
theorem dX7_note_36 : decode cX7_note 36 = .ok (.iconst 1, 1) := by decide +kernel
theorem dX7_note_37 : decode cX7_note 37 = .ok (.if_icmp .lt 31, 3) := by decide +kernel
theorem dX7_note_40 : decode cX7_note 40 = .ok (.iload_n 3, 1) := by decide +kernel
theorem dX7_note_41 : decode cX7_note 41 = .ok (.bipush 20, 2) := by decide +kernel
theorem dX7_note_43 : decode cX7_note 43 = .ok (.if_icmp .gt 25, 3) := by decide +kernel
theorem dX7_note_46 : decode cX7_note 46 = .ok (.iload 4, 2) := by decide +kernel
theorem dX7_note_48 : decode cX7_note 48 = .ok (.ifCond .lt 20, 3) := by decide +kernel
theorem dX7_note_51 : decode cX7_note 51 = .ok (.iload 4, 2) := by decide +kernel
theorem dX7_note_53 : decode cX7_note 53 = .ok (.iconst 2, 1) := by decide +kernel
theorem dX7_note_54 : decode cX7_note 54 = .ok (.if_icmp .gt 14, 3) := by decide +kernel
theorem dX7_note_57 : decode cX7_note 57 = .ok (.iload 5, 2) := by decide +kernel
theorem dX7_note_59 : decode cX7_note 59 = .ok (.ifCond .lt 9, 3) := by decide +kernel
theorem dX7_note_62 : decode cX7_note 62 = .ok (.iload 5, 2) := by decide +kernel
theorem dX7_note_64 : decode cX7_note 64 = .ok (.iconst 3, 1) := by decide +kernel
theorem dX7_note_65 : decode cX7_note 65 = .ok (.if_icmp .le 9, 3) := by decide +kernel
theorem dX7_note_68 : decode cX7_note 68 = .ok (.aload_n 0, 1) := by decide +kernel
theorem dX7_note_69 : decode cX7_note 69 = .ok (.iconst 2, 1) := by decide +kernel
theorem dX7_note_70 : decode cX7_note 70 = .ok (.invokevirtual 147, 3) := by decide +kernel
theorem dX7_note_73 : decode cX7_note 73 = .ok (.ireturn, 1) := by decide +kernel
theorem dX7_note_74 : decode cX7_note 74 = .ok (.aload_n 0, 1) := by decide +kernel
theorem dX7_note_75 : decode cX7_note 75 = .ok (.getfield 136, 3) := by decide +kernel
theorem dX7_note_78 : decode cX7_note 78 = .ok (.bipush 24, 2) := by decide +kernel
theorem dX7_note_80 : decode cX7_note 80 = .ok (.if_icmp .ne 9, 3) := by decide +kernel
theorem dX7_note_83 : decode cX7_note 83 = .ok (.aload_n 0, 1) := by decide +kernel
theorem dX7_note_84 : decode cX7_note 84 = .ok (.iconst 3, 1) := by decide +kernel
theorem dX7_note_85 : decode cX7_note 85 = .ok (.invokevirtual 147, 3) := by decide +kernel
theorem dX7_note_88 : decode cX7_note 88 = .ok (.ireturn, 1) := by decide +kernel
theorem dX7_note_89 : decode cX7_note 89 = .ok (.aload_n 0, 1) := by decide +kernel
theorem dX7_note_90 : decode cX7_note 90 = .ok (.getfield 26, 3) := by decide +kernel
theorem dX7_note_93 : decode cX7_note 93 = .ok (.aload_n 0, 1) := by decide +kernel
theorem dX7_note_94 : decode cX7_note 94 = .ok (.getfield 136, 3) := by decide +kernel
theorem dX7_note_97 : decode cX7_note 97 = .ok (.iload_n 1, 1) := by decide +kernel
theorem dX7_note_98 : decode cX7_note 98 = .ok (.iastore, 1) := by decide +kernel
theorem dX7_note_99 : decode cX7_note 99 = .ok (.aload_n 0, 1) := by decide +kernel
theorem dX7_note_100 : decode cX7_note 100 = .ok (.getfield 29, 3) := by decide +kernel
theorem dX7_note_103 : decode cX7_note 103 = .ok (.aload_n 0, 1) := by decide +kernel
theorem dX7_note_104 : decode cX7_note 104 = .ok (.getfield 136, 3) := by decide +kernel
theorem dX7_note_107 : decode cX7_note 107 = .ok (.iload_n 2, 1) := by decide +kernel
theorem dX7_note_108 : decode cX7_note 108 = .ok (.iastore, 1) := by decide +kernel
theorem dX7_note_109 : decode cX7_note 109 = .ok (.aload_n 0, 1) := by decide +kernel
theorem dX7_note_110 : decode cX7_note 110 = .ok (.getfield 32, 3) := by decide +kernel
theorem dX7_note_113 : decode cX7_note 113 = .ok (.aload_n 0, 1) := by decide +kernel
theorem dX7_note_114 : decode cX7_note 114 = .ok (.getfield 136, 3) := by decide +kernel
theorem dX7_note_117 : decode cX7_note 117 = .ok (.iload_n 3, 1) := by decide +kernel
theorem dX7_note_118 : decode cX7_note 118 = .ok (.iastore, 1) := by decide +kernel
theorem dX7_note_119 : decode cX7_note 119 = .ok (.aload_n 0, 1) := by decide +kernel
theorem dX7_note_120 : decode cX7_note 120 = .ok (.getfield 35, 3) := by decide +kernel
theorem dX7_note_123 : decode cX7_note 123 = .ok (.aload_n 0, 1) := by decide +kernel
theorem dX7_note_124 : decode cX7_note 124 = .ok (.getfield 136, 3) := by decide +kernel
theorem dX7_note_127 : decode cX7_note 127 = .ok (.iload 4, 2) := by decide +kernel
theorem dX7_note_129 : decode cX7_note 129 = .ok (.iastore, 1) := by decide +kernel
theorem dX7_note_130 : decode cX7_note 130 = .ok (.aload_n 0, 1) := by decide +kernel
theorem dX7_note_131 : decode cX7_note 131 = .ok (.getfield 38, 3) := by decide +kernel
theorem dX7_note_134 : decode cX7_note 134 = .ok (.aload_n 0, 1) := by decide +kernel
theorem dX7_note_135 : decode cX7_note 135 = .ok (.getfield 136, 3) := by decide +kernel
theorem dX7_note_138 : decode cX7_note 138 = .ok (.iload 5, 2) := by decide +kernel
theorem dX7_note_140 : decode cX7_note 140 = .ok (.iastore, 1) := by decide +kernel
theorem dX7_note_141 : decode cX7_note 141 = .ok (.aload_n 0, 1) := by decide +kernel
theorem dX7_note_142 : decode cX7_note 142 = .ok (.getfield 41, 3) := by decide +kernel
theorem dX7_note_145 : decode cX7_note 145 = .ok (.aload_n 0, 1) := by decide +kernel
theorem dX7_note_146 : decode cX7_note 146 = .ok (.getfield 136, 3) := by decide +kernel
theorem dX7_note_149 : decode cX7_note 149 = .ok (.iconst 0, 1) := by decide +kernel
theorem dX7_note_150 : decode cX7_note 150 = .ok (.iastore, 1) := by decide +kernel
theorem dX7_note_151 : decode cX7_note 151 = .ok (.aload_n 0, 1) := by decide +kernel
theorem dX7_note_152 : decode cX7_note 152 = .ok (.getfield 44, 3) := by decide +kernel
theorem dX7_note_155 : decode cX7_note 155 = .ok (.aload_n 0, 1) := by decide +kernel
theorem dX7_note_156 : decode cX7_note 156 = .ok (.getfield 136, 3) := by decide +kernel
theorem dX7_note_159 : decode cX7_note 159 = .ok (.iconst 0, 1) := by decide +kernel
theorem dX7_note_160 : decode cX7_note 160 = .ok (.iastore, 1) := by decide +kernel
theorem dX7_note_161 : decode cX7_note 161 = .ok (.aload_n 0, 1) := by decide +kernel
theorem dX7_note_162 : decode cX7_note 162 = .ok (.getfield 47, 3) := by decide +kernel
theorem dX7_note_165 : decode cX7_note 165 = .ok (.aload_n 0, 1) := by decide +kernel
theorem dX7_note_166 : decode cX7_note 166 = .ok (.getfield 136, 3) := by decide +kernel
theorem dX7_note_169 : decode cX7_note 169 = .ok (.iconst 0, 1) := by decide +kernel
theorem dX7_note_170 : decode cX7_note 170 = .ok (.iastore, 1) := by decide +kernel
theorem dX7_note_171 : decode cX7_note 171 = .ok (.aload_n 0, 1) := by decide +kernel
theorem dX7_note_172 : decode cX7_note 172 = .ok (.getfield 50, 3) := by decide +kernel
theorem dX7_note_175 : decode cX7_note 175 = .ok (.aload_n 0, 1) := by decide +kernel
theorem dX7_note_176 : decode cX7_note 176 = .ok (.getfield 136, 3) := by decide +kernel
theorem dX7_note_179 : decode cX7_note 179 = .ok (.iconst (-1), 1) := by decide +kernel
theorem dX7_note_180 : decode cX7_note 180 = .ok (.iastore, 1) := by decide +kernel
theorem dX7_note_181 : decode cX7_note 181 = .ok (.aload_n 0, 1) := by decide +kernel
theorem dX7_note_182 : decode cX7_note 182 = .ok (.getfield 53, 3) := by decide +kernel
theorem dX7_note_185 : decode cX7_note 185 = .ok (.aload_n 0, 1) := by decide +kernel
theorem dX7_note_186 : decode cX7_note 186 = .ok (.getfield 136, 3) := by decide +kernel
theorem dX7_note_189 : decode cX7_note 189 = .ok (.iconst (-1), 1) := by decide +kernel
theorem dX7_note_190 : decode cX7_note 190 = .ok (.iastore, 1) := by decide +kernel
theorem dX7_note_191 : decode cX7_note 191 = .ok (.aload_n 0, 1) := by decide +kernel
theorem dX7_note_192 : decode cX7_note 192 = .ok (.dup, 1) := by decide +kernel
theorem dX7_note_193 : decode cX7_note 193 = .ok (.getfield 136, 3) := by decide +kernel
theorem dX7_note_196 : decode cX7_note 196 = .ok (.iconst 1, 1) := by decide +kernel
theorem dX7_note_197 : decode cX7_note 197 = .ok (.iadd, 1) := by decide +kernel
theorem dX7_note_198 : decode cX7_note 198 = .ok (.putfield 136, 3) := by decide +kernel
theorem dX7_note_201 : decode cX7_note 201 = .ok (.aload_n 0, 1) := by decide +kernel
theorem dX7_note_202 : decode cX7_note 202 = .ok (.invokevirtual 143, 3) := by decide +kernel
theorem dX7_note_205 : decode cX7_note 205 = .ok (.pop, 1) := by decide +kernel
theorem dX7_note_206 : decode cX7_note 206 = .ok (.aload_n 0, 1) := by decide +kernel
theorem dX7_note_207 : decode cX7_note 207 = .ok (.getfield 136, 3) := by decide +kernel
theorem dX7_note_210 : decode cX7_note 210 = .ok (.iconst 1, 1) := by decide +kernel
theorem dX7_note_211 : decode cX7_note 211 = .ok (.isub, 1) := by decide +kernel
theorem dX7_note_212 : decode cX7_note 212 = .ok (.ireturn, 1) := by decide +kernel
theorem dX7_answer_0 : decode cX7_answer 0 = .ok (.aload_n 0, 1) := by decide +kernel
theorem dX7_answer_1 : decode cX7_answer 1 = .ok (.iconst 0, 1) := by decide +kernel
theorem dX7_answer_2 : decode cX7_answer 2 = .ok (.putfield 123, 3) := by decide +kernel
theorem dX7_answer_5 : decode cX7_answer 5 = .ok (.aload_n 0, 1) := by decide +kernel
theorem dX7_answer_6 : decode cX7_answer 6 = .ok (.iconst 0, 1) := by decide +kernel
theorem dX7_answer_7 : decode cX7_answer 7 = .ok (.putfield 126, 3) := by decide +kernel
theorem dX7_answer_10 : decode cX7_answer 10 = .ok (.aload_n 0, 1) := by decide +kernel
theorem dX7_answer_11 : decode cX7_answer 11 = .ok (.iload_n 1, 1) := by decide +kernel
theorem dX7_answer_12 : decode cX7_answer 12 = .ok (.invokevirtual 154, 3) := by decide +kernel
theorem dX7_answer_15 : decode cX7_answer 15 = .ok (.ifCond .ne 9, 3) := by decide +kernel
theorem dX7_answer_18 : decode cX7_answer 18 = .ok (.aload_n 0, 1) := by decide +kernel
theorem dX7_answer_19 : decode cX7_answer 19 = .ok (.iconst 1, 1) := by decide +kernel
theorem dX7_answer_20 : decode cX7_answer 20 = .ok (.invokevirtual 147, 3) := by decide +kernel
theorem dX7_answer_23 : decode cX7_answer 23 = .ok (.ireturn, 1) := by decide +kernel
theorem dX7_answer_24 : decode cX7_answer 24 = .ok (.iload_n 2, 1) := by decide +kernel
theorem dX7_answer_25 : decode cX7_answer 25 = .ok (.iconst 1, 1) := by decide +kernel
theorem dX7_answer_26 : decode cX7_answer 26 = .ok (.if_icmp .lt 9, 3) := by decide +kernel
theorem dX7_answer_29 : decode cX7_answer 29 = .ok (.iload_n 2, 1) := by decide +kernel
theorem dX7_answer_30 : decode cX7_answer 30 = .ok (.bipush 100, 2) := by decide +kernel
theorem dX7_answer_32 : decode cX7_answer 32 = .ok (.if_icmp .le 9, 3) := by decide +kernel
theorem dX7_answer_35 : decode cX7_answer 35 = .ok (.aload_n 0, 1) := by decide +kernel
theorem dX7_answer_36 : decode cX7_answer 36 = .ok (.iconst 2, 1) := by decide +kernel
theorem dX7_answer_37 : decode cX7_answer 37 = .ok (.invokevirtual 147, 3) := by decide +kernel
theorem dX7_answer_40 : decode cX7_answer 40 = .ok (.ireturn, 1) := by decide +kernel
theorem dX7_answer_41 : decode cX7_answer 41 = .ok (.aload_n 0, 1) := by decide +kernel
theorem dX7_answer_42 : decode cX7_answer 42 = .ok (.getfield 41, 3) := by decide +kernel
theorem dX7_answer_45 : decode cX7_answer 45 = .ok (.iload_n 1, 1) := by decide +kernel
theorem dX7_answer_46 : decode cX7_answer 46 = .ok (.iaload, 1) := by decide +kernel
theorem dX7_answer_47 : decode cX7_answer 47 = .ok (.iconst 4, 1) := by decide +kernel
theorem dX7_answer_48 : decode cX7_answer 48 = .ok (.if_icmp .ne 9, 3) := by decide +kernel
theorem dX7_answer_51 : decode cX7_answer 51 = .ok (.aload_n 0, 1) := by decide +kernel
theorem dX7_answer_52 : decode cX7_answer 52 = .ok (.iconst 3, 1) := by decide +kernel
theorem dX7_answer_53 : decode cX7_answer 53 = .ok (.invokevirtual 147, 3) := by decide +kernel
theorem dX7_answer_56 : decode cX7_answer 56 = .ok (.ireturn, 1) := by decide +kernel
theorem dX7_answer_57 : decode cX7_answer 57 = .ok (.aload_n 0, 1) := by decide +kernel
theorem dX7_answer_58 : decode cX7_answer 58 = .ok (.getfield 47, 3) := by decide +kernel
theorem dX7_answer_61 : decode cX7_answer 61 = .ok (.iload_n 1, 1) := by decide +kernel
theorem dX7_answer_62 : decode cX7_answer 62 = .ok (.iaload, 1) := by decide +kernel
theorem dX7_answer_63 : decode cX7_answer 63 = .ok (.ifCond .le 10, 3) := by decide +kernel
theorem dX7_answer_66 : decode cX7_answer 66 = .ok (.aload_n 0, 1) := by decide +kernel
theorem dX7_answer_67 : decode cX7_answer 67 = .ok (.bipush 7, 2) := by decide +kernel
theorem dX7_answer_69 : decode cX7_answer 69 = .ok (.invokevirtual 147, 3) := by decide +kernel
theorem dX7_answer_72 : decode cX7_answer 72 = .ok (.ireturn, 1) := by decide +kernel
theorem dX7_answer_73 : decode cX7_answer 73 = .ok (.aload_n 0, 1) := by decide +kernel
theorem dX7_answer_74 : decode cX7_answer 74 = .ok (.getfield 41, 3) := by decide +kernel
theorem dX7_answer_77 : decode cX7_answer 77 = .ok (.iload_n 1, 1) := by decide +kernel
theorem dX7_answer_78 : decode cX7_answer 78 = .ok (.dup2, 1) := by decide +kernel
theorem dX7_answer_79 : decode cX7_answer 79 = .ok (.iaload, 1) := by decide +kernel
theorem dX7_answer_80 : decode cX7_answer 80 = .ok (.iconst 1, 1) := by decide +kernel
theorem dX7_answer_81 : decode cX7_answer 81 = .ok (.iadd, 1) := by decide +kernel
theorem dX7_answer_82 : decode cX7_answer 82 = .ok (.iastore, 1) := by decide +kernel
theorem dX7_answer_83 : decode cX7_answer 83 = .ok (.aload_n 0, 1) := by decide +kernel
theorem dX7_answer_84 : decode cX7_answer 84 = .ok (.getfield 44, 3) := by decide +kernel
theorem dX7_answer_87 : decode cX7_answer 87 = .ok (.iload_n 1, 1) := by decide +kernel
theorem dX7_answer_88 : decode cX7_answer 88 = .ok (.dup2, 1) := by decide +kernel
theorem dX7_answer_89 : decode cX7_answer 89 = .ok (.iaload, 1) := by decide +kernel
theorem dX7_answer_90 : decode cX7_answer 90 = .ok (.iload_n 2, 1) := by decide +kernel
theorem dX7_answer_91 : decode cX7_answer 91 = .ok (.iadd, 1) := by decide +kernel
theorem dX7_answer_92 : decode cX7_answer 92 = .ok (.iastore, 1) := by decide +kernel
theorem dX7_answer_93 : decode cX7_answer 93 = .ok (.aload_n 0, 1) := by decide +kernel
theorem dX7_answer_94 : decode cX7_answer 94 = .ok (.invokevirtual 143, 3) := by decide +kernel
theorem dX7_answer_97 : decode cX7_answer 97 = .ok (.pop, 1) := by decide +kernel
theorem dX7_answer_98 : decode cX7_answer 98 = .ok (.aload_n 0, 1) := by decide +kernel
theorem dX7_answer_99 : decode cX7_answer 99 = .ok (.getfield 41, 3) := by decide +kernel
theorem dX7_answer_102 : decode cX7_answer 102 = .ok (.iload_n 1, 1) := by decide +kernel
theorem dX7_answer_103 : decode cX7_answer 103 = .ok (.iaload, 1) := by decide +kernel
theorem dX7_answer_104 : decode cX7_answer 104 = .ok (.ireturn, 1) := by decide +kernel
theorem dX7_cut_0 : decode cX7_cut 0 = .ok (.aload_n 0, 1) := by decide +kernel
theorem dX7_cut_1 : decode cX7_cut 1 = .ok (.iconst 0, 1) := by decide +kernel
theorem dX7_cut_2 : decode cX7_cut 2 = .ok (.putfield 123, 3) := by decide +kernel
theorem dX7_cut_5 : decode cX7_cut 5 = .ok (.aload_n 0, 1) := by decide +kernel
theorem dX7_cut_6 : decode cX7_cut 6 = .ok (.iconst 0, 1) := by decide +kernel
theorem dX7_cut_7 : decode cX7_cut 7 = .ok (.putfield 126, 3) := by decide +kernel
theorem dX7_cut_10 : decode cX7_cut 10 = .ok (.aload_n 0, 1) := by decide +kernel
theorem dX7_cut_11 : decode cX7_cut 11 = .ok (.iload_n 1, 1) := by decide +kernel
theorem dX7_cut_12 : decode cX7_cut 12 = .ok (.invokevirtual 154, 3) := by decide +kernel
theorem dX7_cut_15 : decode cX7_cut 15 = .ok (.ifCond .ne 9, 3) := by decide +kernel
theorem dX7_cut_18 : decode cX7_cut 18 = .ok (.aload_n 0, 1) := by decide +kernel
theorem dX7_cut_19 : decode cX7_cut 19 = .ok (.iconst 1, 1) := by decide +kernel
theorem dX7_cut_20 : decode cX7_cut 20 = .ok (.invokevirtual 147, 3) := by decide +kernel
theorem dX7_cut_23 : decode cX7_cut 23 = .ok (.ireturn, 1) := by decide +kernel
theorem dX7_cut_24 : decode cX7_cut 24 = .ok (.iload_n 2, 1) := by decide +kernel
theorem dX7_cut_25 : decode cX7_cut 25 = .ok (.iconst 1, 1) := by decide +kernel
theorem dX7_cut_26 : decode cX7_cut 26 = .ok (.if_icmp .lt 13, 3) := by decide +kernel
theorem dX7_cut_29 : decode cX7_cut 29 = .ok (.iload_n 2, 1) := by decide +kernel
theorem dX7_cut_30 : decode cX7_cut 30 = .ok (.aload_n 0, 1) := by decide +kernel
theorem dX7_cut_31 : decode cX7_cut 31 = .ok (.getfield 29, 3) := by decide +kernel
theorem dX7_cut_34 : decode cX7_cut 34 = .ok (.iload_n 1, 1) := by decide +kernel
theorem dX7_cut_35 : decode cX7_cut 35 = .ok (.iaload, 1) := by decide +kernel
theorem dX7_cut_36 : decode cX7_cut 36 = .ok (.if_icmp .lt 9, 3) := by decide +kernel
theorem dX7_cut_39 : decode cX7_cut 39 = .ok (.aload_n 0, 1) := by decide +kernel
theorem dX7_cut_40 : decode cX7_cut 40 = .ok (.iconst 2, 1) := by decide +kernel
theorem dX7_cut_41 : decode cX7_cut 41 = .ok (.invokevirtual 147, 3) := by decide +kernel
theorem dX7_cut_44 : decode cX7_cut 44 = .ok (.ireturn, 1) := by decide +kernel
theorem dX7_cut_45 : decode cX7_cut 45 = .ok (.aload_n 0, 1) := by decide +kernel
theorem dX7_cut_46 : decode cX7_cut 46 = .ok (.getfield 47, 3) := by decide +kernel
theorem dX7_cut_49 : decode cX7_cut 49 = .ok (.iload_n 1, 1) := by decide +kernel
theorem dX7_cut_50 : decode cX7_cut 50 = .ok (.iaload, 1) := by decide +kernel
theorem dX7_cut_51 : decode cX7_cut 51 = .ok (.iconst 3, 1) := by decide +kernel
theorem dX7_cut_52 : decode cX7_cut 52 = .ok (.if_icmp .ne 9, 3) := by decide +kernel
theorem dX7_cut_55 : decode cX7_cut 55 = .ok (.aload_n 0, 1) := by decide +kernel
theorem dX7_cut_56 : decode cX7_cut 56 = .ok (.iconst 3, 1) := by decide +kernel
theorem dX7_cut_57 : decode cX7_cut 57 = .ok (.invokevirtual 147, 3) := by decide +kernel
theorem dX7_cut_60 : decode cX7_cut 60 = .ok (.ireturn, 1) := by decide +kernel
theorem dX7_cut_61 : decode cX7_cut 61 = .ok (.iconst 0, 1) := by decide +kernel
theorem dX7_cut_62 : decode cX7_cut 62 = .ok (.istore_n 3, 1) := by decide +kernel
theorem dX7_cut_63 : decode cX7_cut 63 = .ok (.iload_n 3, 1) := by decide +kernel
theorem dX7_cut_64 : decode cX7_cut 64 = .ok (.aload_n 0, 1) := by decide +kernel
theorem dX7_cut_65 : decode cX7_cut 65 = .ok (.getfield 47, 3) := by decide +kernel
theorem dX7_cut_68 : decode cX7_cut 68 = .ok (.iload_n 1, 1) := by decide +kernel
theorem dX7_cut_69 : decode cX7_cut 69 = .ok (.iaload, 1) := by decide +kernel
theorem dX7_cut_70 : decode cX7_cut 70 = .ok (.if_icmp .ge 29, 3) := by decide +kernel
theorem dX7_cut_73 : decode cX7_cut 73 = .ok (.aload_n 0, 1) := by decide +kernel
theorem dX7_cut_74 : decode cX7_cut 74 = .ok (.getfield 56, 3) := by decide +kernel
theorem dX7_cut_77 : decode cX7_cut 77 = .ok (.iconst 3, 1) := by decide +kernel
theorem dX7_cut_78 : decode cX7_cut 78 = .ok (.iload_n 1, 1) := by decide +kernel
theorem dX7_cut_79 : decode cX7_cut 79 = .ok (.imul, 1) := by decide +kernel
theorem dX7_cut_80 : decode cX7_cut 80 = .ok (.iload_n 3, 1) := by decide +kernel
theorem dX7_cut_81 : decode cX7_cut 81 = .ok (.iadd, 1) := by decide +kernel
theorem dX7_cut_82 : decode cX7_cut 82 = .ok (.iaload, 1) := by decide +kernel
theorem dX7_cut_83 : decode cX7_cut 83 = .ok (.iload_n 2, 1) := by decide +kernel
theorem dX7_cut_84 : decode cX7_cut 84 = .ok (.if_icmp .ne 9, 3) := by decide +kernel
theorem dX7_cut_87 : decode cX7_cut 87 = .ok (.aload_n 0, 1) := by decide +kernel
theorem dX7_cut_88 : decode cX7_cut 88 = .ok (.iconst 4, 1) := by decide +kernel
theorem dX7_cut_89 : decode cX7_cut 89 = .ok (.invokevirtual 147, 3) := by decide +kernel
theorem dX7_cut_92 : decode cX7_cut 92 = .ok (.ireturn, 1) := by decide +kernel
theorem dX7_cut_93 : decode cX7_cut 93 = .ok (.iinc 3 1, 3) := by decide +kernel
theorem dX7_cut_96 : decode cX7_cut 96 = .ok (.goto (-33), 3) := by decide +kernel
theorem dX7_cut_99 : decode cX7_cut 99 = .ok (.aload_n 0, 1) := by decide +kernel
theorem dX7_cut_100 : decode cX7_cut 100 = .ok (.getfield 41, 3) := by decide +kernel
theorem dX7_cut_103 : decode cX7_cut 103 = .ok (.iload_n 1, 1) := by decide +kernel
theorem dX7_cut_104 : decode cX7_cut 104 = .ok (.iaload, 1) := by decide +kernel
theorem dX7_cut_105 : decode cX7_cut 105 = .ok (.ifCond .le 10, 3) := by decide +kernel
theorem dX7_cut_108 : decode cX7_cut 108 = .ok (.aload_n 0, 1) := by decide +kernel
theorem dX7_cut_109 : decode cX7_cut 109 = .ok (.bipush 7, 2) := by decide +kernel
theorem dX7_cut_111 : decode cX7_cut 111 = .ok (.invokevirtual 147, 3) := by decide +kernel
theorem dX7_cut_114 : decode cX7_cut 114 = .ok (.ireturn, 1) := by decide +kernel
theorem dX7_cut_115 : decode cX7_cut 115 = .ok (.aload_n 0, 1) := by decide +kernel
theorem dX7_cut_116 : decode cX7_cut 116 = .ok (.getfield 47, 3) := by decide +kernel
theorem dX7_cut_119 : decode cX7_cut 119 = .ok (.iload_n 1, 1) := by decide +kernel
theorem dX7_cut_120 : decode cX7_cut 120 = .ok (.iaload, 1) := by decide +kernel
theorem dX7_cut_121 : decode cX7_cut 121 = .ok (.istore_n 3, 1) := by decide +kernel
theorem dX7_cut_122 : decode cX7_cut 122 = .ok (.iload_n 3, 1) := by decide +kernel
theorem dX7_cut_123 : decode cX7_cut 123 = .ok (.ifCond .le 47, 3) := by decide +kernel
theorem dX7_cut_126 : decode cX7_cut 126 = .ok (.aload_n 0, 1) := by decide +kernel
theorem dX7_cut_127 : decode cX7_cut 127 = .ok (.getfield 56, 3) := by decide +kernel
theorem dX7_cut_130 : decode cX7_cut 130 = .ok (.iconst 3, 1) := by decide +kernel
theorem dX7_cut_131 : decode cX7_cut 131 = .ok (.iload_n 1, 1) := by decide +kernel
theorem dX7_cut_132 : decode cX7_cut 132 = .ok (.imul, 1) := by decide +kernel
theorem dX7_cut_133 : decode cX7_cut 133 = .ok (.iload_n 3, 1) := by decide +kernel
theorem dX7_cut_134 : decode cX7_cut 134 = .ok (.iadd, 1) := by decide +kernel
theorem dX7_cut_135 : decode cX7_cut 135 = .ok (.iconst 1, 1) := by decide +kernel
theorem dX7_cut_136 : decode cX7_cut 136 = .ok (.isub, 1) := by decide +kernel
theorem dX7_cut_137 : decode cX7_cut 137 = .ok (.iaload, 1) := by decide +kernel
theorem dX7_cut_138 : decode cX7_cut 138 = .ok (.iload_n 2, 1) := by decide +kernel
theorem dX7_cut_139 : decode cX7_cut 139 = .ok (.if_icmp .ge 31, 3) := by decide +kernel
theorem dX7_cut_142 : decode cX7_cut 142 = .ok (.aload_n 0, 1) := by decide +kernel
theorem dX7_cut_143 : decode cX7_cut 143 = .ok (.getfield 56, 3) := by decide +kernel
theorem dX7_cut_146 : decode cX7_cut 146 = .ok (.iconst 3, 1) := by decide +kernel
theorem dX7_cut_147 : decode cX7_cut 147 = .ok (.iload_n 1, 1) := by decide +kernel
theorem dX7_cut_148 : decode cX7_cut 148 = .ok (.imul, 1) := by decide +kernel
theorem dX7_cut_149 : decode cX7_cut 149 = .ok (.iload_n 3, 1) := by decide +kernel
theorem dX7_cut_150 : decode cX7_cut 150 = .ok (.iadd, 1) := by decide +kernel
theorem dX7_cut_151 : decode cX7_cut 151 = .ok (.aload_n 0, 1) := by decide +kernel
theorem dX7_cut_152 : decode cX7_cut 152 = .ok (.getfield 56, 3) := by decide +kernel
theorem dX7_cut_155 : decode cX7_cut 155 = .ok (.iconst 3, 1) := by decide +kernel
theorem dX7_cut_156 : decode cX7_cut 156 = .ok (.iload_n 1, 1) := by decide +kernel
theorem dX7_cut_157 : decode cX7_cut 157 = .ok (.imul, 1) := by decide +kernel
theorem dX7_cut_158 : decode cX7_cut 158 = .ok (.iload_n 3, 1) := by decide +kernel
theorem dX7_cut_159 : decode cX7_cut 159 = .ok (.iadd, 1) := by decide +kernel
theorem dX7_cut_160 : decode cX7_cut 160 = .ok (.iconst 1, 1) := by decide +kernel
theorem dX7_cut_161 : decode cX7_cut 161 = .ok (.isub, 1) := by decide +kernel
theorem dX7_cut_162 : decode cX7_cut 162 = .ok (.iaload, 1) := by decide +kernel
theorem dX7_cut_163 : decode cX7_cut 163 = .ok (.iastore, 1) := by decide +kernel
theorem dX7_cut_164 : decode cX7_cut 164 = .ok (.iinc 3 (-1), 3) := by decide +kernel
theorem dX7_cut_167 : decode cX7_cut 167 = .ok (.goto (-45), 3) := by decide +kernel
theorem dX7_cut_170 : decode cX7_cut 170 = .ok (.aload_n 0, 1) := by decide +kernel
theorem dX7_cut_171 : decode cX7_cut 171 = .ok (.getfield 56, 3) := by decide +kernel
theorem dX7_cut_174 : decode cX7_cut 174 = .ok (.iconst 3, 1) := by decide +kernel
theorem dX7_cut_175 : decode cX7_cut 175 = .ok (.iload_n 1, 1) := by decide +kernel
theorem dX7_cut_176 : decode cX7_cut 176 = .ok (.imul, 1) := by decide +kernel
theorem dX7_cut_177 : decode cX7_cut 177 = .ok (.iload_n 3, 1) := by decide +kernel
theorem dX7_cut_178 : decode cX7_cut 178 = .ok (.iadd, 1) := by decide +kernel
theorem dX7_cut_179 : decode cX7_cut 179 = .ok (.iload_n 2, 1) := by decide +kernel
theorem dX7_cut_180 : decode cX7_cut 180 = .ok (.iastore, 1) := by decide +kernel
theorem dX7_cut_181 : decode cX7_cut 181 = .ok (.aload_n 0, 1) := by decide +kernel
theorem dX7_cut_182 : decode cX7_cut 182 = .ok (.getfield 47, 3) := by decide +kernel
theorem dX7_cut_185 : decode cX7_cut 185 = .ok (.iload_n 1, 1) := by decide +kernel
theorem dX7_cut_186 : decode cX7_cut 186 = .ok (.dup2, 1) := by decide +kernel
theorem dX7_cut_187 : decode cX7_cut 187 = .ok (.iaload, 1) := by decide +kernel
theorem dX7_cut_188 : decode cX7_cut 188 = .ok (.iconst 1, 1) := by decide +kernel
theorem dX7_cut_189 : decode cX7_cut 189 = .ok (.iadd, 1) := by decide +kernel
theorem dX7_cut_190 : decode cX7_cut 190 = .ok (.iastore, 1) := by decide +kernel
theorem dX7_cut_191 : decode cX7_cut 191 = .ok (.aload_n 0, 1) := by decide +kernel
theorem dX7_cut_192 : decode cX7_cut 192 = .ok (.invokevirtual 143, 3) := by decide +kernel
theorem dX7_cut_195 : decode cX7_cut 195 = .ok (.pop, 1) := by decide +kernel
theorem dX7_cut_196 : decode cX7_cut 196 = .ok (.aload_n 0, 1) := by decide +kernel
theorem dX7_cut_197 : decode cX7_cut 197 = .ok (.getfield 47, 3) := by decide +kernel
theorem dX7_cut_200 : decode cX7_cut 200 = .ok (.iload_n 1, 1) := by decide +kernel
theorem dX7_cut_201 : decode cX7_cut 201 = .ok (.iaload, 1) := by decide +kernel
theorem dX7_cut_202 : decode cX7_cut 202 = .ok (.ireturn, 1) := by decide +kernel
theorem dX7_cutting_0 : decode cX7_cutting 0 = .ok (.aload_n 0, 1) := by decide +kernel
theorem dX7_cutting_1 : decode cX7_cutting 1 = .ok (.iconst 0, 1) := by decide +kernel
theorem dX7_cutting_2 : decode cX7_cutting 2 = .ok (.putfield 123, 3) := by decide +kernel
theorem dX7_cutting_5 : decode cX7_cutting 5 = .ok (.aload_n 0, 1) := by decide +kernel
theorem dX7_cutting_6 : decode cX7_cutting 6 = .ok (.iconst 0, 1) := by decide +kernel
theorem dX7_cutting_7 : decode cX7_cutting 7 = .ok (.putfield 126, 3) := by decide +kernel
theorem dX7_cutting_10 : decode cX7_cutting 10 = .ok (.iload_n 1, 1) := by decide +kernel
theorem dX7_cutting_11 : decode cX7_cutting 11 = .ok (.ifCond .lt 10, 3) := by decide +kernel
theorem dX7_cutting_14 : decode cX7_cutting 14 = .ok (.iload_n 1, 1) := by decide +kernel
theorem dX7_cutting_15 : decode cX7_cutting 15 = .ok (.sipush 1000, 3) := by decide +kernel
theorem dX7_cutting_18 : decode cX7_cutting 18 = .ok (.if_icmp .le 9, 3) := by decide +kernel
theorem dX7_cutting_21 : decode cX7_cutting 21 = .ok (.aload_n 0, 1) := by decide +kernel
theorem dX7_cutting_22 : decode cX7_cutting 22 = .ok (.iconst 2, 1) := by decide +kernel
theorem dX7_cutting_23 : decode cX7_cutting 23 = .ok (.invokevirtual 139, 3) := by decide +kernel
theorem dX7_cutting_26 : decode cX7_cutting 26 = .ok (.ireturn, 1) := by decide +kernel
theorem dX7_cutting_27 : decode cX7_cutting 27 = .ok (.aload_n 0, 1) := by decide +kernel
theorem dX7_cutting_28 : decode cX7_cutting 28 = .ok (.iload_n 1, 1) := by decide +kernel
theorem dX7_cutting_29 : decode cX7_cutting 29 = .ok (.putfield 16, 3) := by decide +kernel
theorem dX7_cutting_32 : decode cX7_cutting 32 = .ok (.aload_n 0, 1) := by decide +kernel
theorem dX7_cutting_33 : decode cX7_cutting 33 = .ok (.invokevirtual 143, 3) := by decide +kernel
theorem dX7_cutting_36 : decode cX7_cutting 36 = .ok (.ireturn, 1) := by decide +kernel
theorem dX7_bind_0 : decode cX7_bind 0 = .ok (.aload_n 0, 1) := by decide +kernel
theorem dX7_bind_1 : decode cX7_bind 1 = .ok (.iconst 0, 1) := by decide +kernel
theorem dX7_bind_2 : decode cX7_bind 2 = .ok (.putfield 123, 3) := by decide +kernel
theorem dX7_bind_5 : decode cX7_bind 5 = .ok (.aload_n 0, 1) := by decide +kernel
theorem dX7_bind_6 : decode cX7_bind 6 = .ok (.iconst 0, 1) := by decide +kernel
theorem dX7_bind_7 : decode cX7_bind 7 = .ok (.putfield 126, 3) := by decide +kernel
theorem dX7_bind_10 : decode cX7_bind 10 = .ok (.aload_n 0, 1) := by decide +kernel
theorem dX7_bind_11 : decode cX7_bind 11 = .ok (.iload_n 1, 1) := by decide +kernel
theorem dX7_bind_12 : decode cX7_bind 12 = .ok (.invokevirtual 154, 3) := by decide +kernel
theorem dX7_bind_15 : decode cX7_bind 15 = .ok (.ifCond .eq 16, 3) := by decide +kernel
theorem dX7_bind_18 : decode cX7_bind 18 = .ok (.iload_n 2, 1) := by decide +kernel
theorem dX7_bind_19 : decode cX7_bind 19 = .ok (.iconst (-1), 1) := by decide +kernel
theorem dX7_bind_20 : decode cX7_bind 20 = .ok (.if_icmp .eq 17, 3) := by decide +kernel
theorem dX7_bind_23 : decode cX7_bind 23 = .ok (.aload_n 0, 1) := by decide +kernel
theorem dX7_bind_24 : decode cX7_bind 24 = .ok (.iload_n 2, 1) := by decide +kernel
theorem dX7_bind_25 : decode cX7_bind 25 = .ok (.invokevirtual 151, 3) := by decide +kernel
theorem dX7_bind_28 : decode cX7_bind 28 = .ok (.ifCond .ne 9, 3) := by decide +kernel
theorem dX7_bind_31 : decode cX7_bind 31 = .ok (.aload_n 0, 1) := by decide +kernel
theorem dX7_bind_32 : decode cX7_bind 32 = .ok (.iconst 1, 1) := by decide +kernel
theorem dX7_bind_33 : decode cX7_bind 33 = .ok (.invokevirtual 139, 3) := by decide +kernel
theorem dX7_bind_36 : decode cX7_bind 36 = .ok (.ireturn, 1) := by decide +kernel
theorem dX7_bind_37 : decode cX7_bind 37 = .ok (.iload_n 2, 1) := by decide +kernel
theorem dX7_bind_38 : decode cX7_bind 38 = .ok (.iconst (-1), 1) := by decide +kernel
theorem dX7_bind_39 : decode cX7_bind 39 = .ok (.if_icmp .eq 19, 3) := by decide +kernel
theorem dX7_bind_42 : decode cX7_bind 42 = .ok (.iload_n 2, 1) := by decide +kernel
theorem dX7_bind_43 : decode cX7_bind 43 = .ok (.aload_n 0, 1) := by decide +kernel
theorem dX7_bind_44 : decode cX7_bind 44 = .ok (.getfield 26, 3) := by decide +kernel
theorem dX7_bind_47 : decode cX7_bind 47 = .ok (.iload_n 1, 1) := by decide +kernel
theorem dX7_bind_48 : decode cX7_bind 48 = .ok (.iaload, 1) := by decide +kernel
theorem dX7_bind_49 : decode cX7_bind 49 = .ok (.if_icmp .ge 9, 3) := by decide +kernel
theorem dX7_bind_52 : decode cX7_bind 52 = .ok (.aload_n 0, 1) := by decide +kernel
theorem dX7_bind_53 : decode cX7_bind 53 = .ok (.iconst 2, 1) := by decide +kernel
theorem dX7_bind_54 : decode cX7_bind 54 = .ok (.invokevirtual 139, 3) := by decide +kernel
theorem dX7_bind_57 : decode cX7_bind 57 = .ok (.ireturn, 1) := by decide +kernel
theorem dX7_bind_58 : decode cX7_bind 58 = .ok (.aload_n 0, 1) := by decide +kernel
theorem dX7_bind_59 : decode cX7_bind 59 = .ok (.getfield 53, 3) := by decide +kernel
theorem dX7_bind_62 : decode cX7_bind 62 = .ok (.iload_n 1, 1) := by decide +kernel
theorem dX7_bind_63 : decode cX7_bind 63 = .ok (.iload_n 2, 1) := by decide +kernel
theorem dX7_bind_64 : decode cX7_bind 64 = .ok (.iastore, 1) := by decide +kernel
theorem dX7_bind_65 : decode cX7_bind 65 = .ok (.aload_n 0, 1) := by decide +kernel
theorem dX7_bind_66 : decode cX7_bind 66 = .ok (.invokevirtual 143, 3) := by decide +kernel
theorem dX7_bind_69 : decode cX7_bind 69 = .ok (.ireturn, 1) := by decide +kernel
theorem dX7_fix_0 : decode cX7_fix 0 = .ok (.aload_n 0, 1) := by decide +kernel
theorem dX7_fix_1 : decode cX7_fix 1 = .ok (.iconst 0, 1) := by decide +kernel
theorem dX7_fix_2 : decode cX7_fix 2 = .ok (.putfield 123, 3) := by decide +kernel
theorem dX7_fix_5 : decode cX7_fix 5 = .ok (.aload_n 0, 1) := by decide +kernel
theorem dX7_fix_6 : decode cX7_fix 6 = .ok (.iconst 0, 1) := by decide +kernel
theorem dX7_fix_7 : decode cX7_fix 7 = .ok (.putfield 126, 3) := by decide +kernel
theorem dX7_fix_10 : decode cX7_fix 10 = .ok (.aload_n 0, 1) := by decide +kernel
theorem dX7_fix_11 : decode cX7_fix 11 = .ok (.iload_n 1, 1) := by decide +kernel
theorem dX7_fix_12 : decode cX7_fix 12 = .ok (.invokevirtual 154, 3) := by decide +kernel
theorem dX7_fix_15 : decode cX7_fix 15 = .ok (.ifCond .ne 9, 3) := by decide +kernel
theorem dX7_fix_18 : decode cX7_fix 18 = .ok (.aload_n 0, 1) := by decide +kernel
theorem dX7_fix_19 : decode cX7_fix 19 = .ok (.iconst 1, 1) := by decide +kernel
theorem dX7_fix_20 : decode cX7_fix 20 = .ok (.invokevirtual 139, 3) := by decide +kernel
theorem dX7_fix_23 : decode cX7_fix 23 = .ok (.ireturn, 1) := by decide +kernel
theorem dX7_fix_24 : decode cX7_fix 24 = .ok (.iload_n 2, 1) := by decide +kernel
theorem dX7_fix_25 : decode cX7_fix 25 = .ok (.ifCond .lt 10, 3) := by decide +kernel
theorem dX7_fix_28 : decode cX7_fix 28 = .ok (.iload_n 2, 1) := by decide +kernel
theorem dX7_fix_29 : decode cX7_fix 29 = .ok (.sipush 400, 3) := by decide +kernel
theorem dX7_fix_32 : decode cX7_fix 32 = .ok (.if_icmp .le 9, 3) := by decide +kernel
theorem dX7_fix_35 : decode cX7_fix 35 = .ok (.aload_n 0, 1) := by decide +kernel
theorem dX7_fix_36 : decode cX7_fix 36 = .ok (.iconst 2, 1) := by decide +kernel
theorem dX7_fix_37 : decode cX7_fix 37 = .ok (.invokevirtual 139, 3) := by decide +kernel
theorem dX7_fix_40 : decode cX7_fix 40 = .ok (.ireturn, 1) := by decide +kernel
theorem dX7_fix_41 : decode cX7_fix 41 = .ok (.aload_n 0, 1) := by decide +kernel
theorem dX7_fix_42 : decode cX7_fix 42 = .ok (.getfield 50, 3) := by decide +kernel
theorem dX7_fix_45 : decode cX7_fix 45 = .ok (.iload_n 1, 1) := by decide +kernel
theorem dX7_fix_46 : decode cX7_fix 46 = .ok (.iload_n 2, 1) := by decide +kernel
theorem dX7_fix_47 : decode cX7_fix 47 = .ok (.iastore, 1) := by decide +kernel
theorem dX7_fix_48 : decode cX7_fix 48 = .ok (.aload_n 0, 1) := by decide +kernel
theorem dX7_fix_49 : decode cX7_fix 49 = .ok (.invokevirtual 143, 3) := by decide +kernel
theorem dX7_fix_52 : decode cX7_fix 52 = .ok (.ireturn, 1) := by decide +kernel
theorem dX7_loose_0 : decode cX7_loose 0 = .ok (.aload_n 0, 1) := by decide +kernel
theorem dX7_loose_1 : decode cX7_loose 1 = .ok (.iconst 0, 1) := by decide +kernel
theorem dX7_loose_2 : decode cX7_loose 2 = .ok (.putfield 123, 3) := by decide +kernel
theorem dX7_loose_5 : decode cX7_loose 5 = .ok (.aload_n 0, 1) := by decide +kernel
theorem dX7_loose_6 : decode cX7_loose 6 = .ok (.iconst 0, 1) := by decide +kernel
theorem dX7_loose_7 : decode cX7_loose 7 = .ok (.putfield 126, 3) := by decide +kernel
theorem dX7_loose_10 : decode cX7_loose 10 = .ok (.aload_n 0, 1) := by decide +kernel
theorem dX7_loose_11 : decode cX7_loose 11 = .ok (.iload_n 1, 1) := by decide +kernel
theorem dX7_loose_12 : decode cX7_loose 12 = .ok (.invokevirtual 154, 3) := by decide +kernel
theorem dX7_loose_15 : decode cX7_loose 15 = .ok (.ifCond .ne 9, 3) := by decide +kernel
theorem dX7_loose_18 : decode cX7_loose 18 = .ok (.aload_n 0, 1) := by decide +kernel
theorem dX7_loose_19 : decode cX7_loose 19 = .ok (.iconst 1, 1) := by decide +kernel
theorem dX7_loose_20 : decode cX7_loose 20 = .ok (.invokevirtual 139, 3) := by decide +kernel
theorem dX7_loose_23 : decode cX7_loose 23 = .ok (.ireturn, 1) := by decide +kernel
theorem dX7_loose_24 : decode cX7_loose 24 = .ok (.aload_n 0, 1) := by decide +kernel
theorem dX7_loose_25 : decode cX7_loose 25 = .ok (.getfield 50, 3) := by decide +kernel
theorem dX7_loose_28 : decode cX7_loose 28 = .ok (.iload_n 1, 1) := by decide +kernel
theorem dX7_loose_29 : decode cX7_loose 29 = .ok (.iaload, 1) := by decide +kernel
theorem dX7_loose_30 : decode cX7_loose 30 = .ok (.ifCond .ge 9, 3) := by decide +kernel
theorem dX7_loose_33 : decode cX7_loose 33 = .ok (.aload_n 0, 1) := by decide +kernel
theorem dX7_loose_34 : decode cX7_loose 34 = .ok (.iconst 4, 1) := by decide +kernel
theorem dX7_loose_35 : decode cX7_loose 35 = .ok (.invokevirtual 139, 3) := by decide +kernel
theorem dX7_loose_38 : decode cX7_loose 38 = .ok (.ireturn, 1) := by decide +kernel
theorem dX7_loose_39 : decode cX7_loose 39 = .ok (.aload_n 0, 1) := by decide +kernel
theorem dX7_loose_40 : decode cX7_loose 40 = .ok (.getfield 50, 3) := by decide +kernel
theorem dX7_loose_43 : decode cX7_loose 43 = .ok (.iload_n 1, 1) := by decide +kernel
theorem dX7_loose_44 : decode cX7_loose 44 = .ok (.iconst (-1), 1) := by decide +kernel
theorem dX7_loose_45 : decode cX7_loose 45 = .ok (.iastore, 1) := by decide +kernel
theorem dX7_loose_46 : decode cX7_loose 46 = .ok (.aload_n 0, 1) := by decide +kernel
theorem dX7_loose_47 : decode cX7_loose 47 = .ok (.invokevirtual 143, 3) := by decide +kernel
theorem dX7_loose_50 : decode cX7_loose 50 = .ok (.ireturn, 1) := by decide +kernel
theorem dX7_move_0 : decode cX7_move 0 = .ok (.aload_n 0, 1) := by decide +kernel
theorem dX7_move_1 : decode cX7_move 1 = .ok (.iconst 0, 1) := by decide +kernel
theorem dX7_move_2 : decode cX7_move 2 = .ok (.putfield 123, 3) := by decide +kernel
theorem dX7_move_5 : decode cX7_move 5 = .ok (.aload_n 0, 1) := by decide +kernel
theorem dX7_move_6 : decode cX7_move 6 = .ok (.iconst 0, 1) := by decide +kernel
theorem dX7_move_7 : decode cX7_move 7 = .ok (.putfield 126, 3) := by decide +kernel
theorem dX7_move_10 : decode cX7_move 10 = .ok (.aload_n 0, 1) := by decide +kernel
theorem dX7_move_11 : decode cX7_move 11 = .ok (.iload_n 1, 1) := by decide +kernel
theorem dX7_move_12 : decode cX7_move 12 = .ok (.invokevirtual 154, 3) := by decide +kernel
theorem dX7_move_15 : decode cX7_move 15 = .ok (.ifCond .eq 11, 3) := by decide +kernel
theorem dX7_move_18 : decode cX7_move 18 = .ok (.aload_n 0, 1) := by decide +kernel
theorem dX7_move_19 : decode cX7_move 19 = .ok (.iload_n 2, 1) := by decide +kernel
theorem dX7_move_20 : decode cX7_move 20 = .ok (.invokevirtual 151, 3) := by decide +kernel
theorem dX7_move_23 : decode cX7_move 23 = .ok (.ifCond .ne 9, 3) := by decide +kernel
theorem dX7_move_26 : decode cX7_move 26 = .ok (.aload_n 0, 1) := by decide +kernel
theorem dX7_move_27 : decode cX7_move 27 = .ok (.iconst 1, 1) := by decide +kernel
theorem dX7_move_28 : decode cX7_move 28 = .ok (.invokevirtual 139, 3) := by decide +kernel
theorem dX7_move_31 : decode cX7_move 31 = .ok (.ireturn, 1) := by decide +kernel
theorem dX7_move_32 : decode cX7_move 32 = .ok (.aload_n 0, 1) := by decide +kernel
theorem dX7_move_33 : decode cX7_move 33 = .ok (.getfield 26, 3) := by decide +kernel
theorem dX7_move_36 : decode cX7_move 36 = .ok (.iload_n 1, 1) := by decide +kernel
theorem dX7_move_37 : decode cX7_move 37 = .ok (.iaload, 1) := by decide +kernel
theorem dX7_move_38 : decode cX7_move 38 = .ok (.iload_n 2, 1) := by decide +kernel
theorem dX7_move_39 : decode cX7_move 39 = .ok (.if_icmp .ne 9, 3) := by decide +kernel
theorem dX7_move_42 : decode cX7_move 42 = .ok (.aload_n 0, 1) := by decide +kernel
theorem dX7_move_43 : decode cX7_move 43 = .ok (.iconst 4, 1) := by decide +kernel
theorem dX7_move_44 : decode cX7_move 44 = .ok (.invokevirtual 139, 3) := by decide +kernel
theorem dX7_move_47 : decode cX7_move 47 = .ok (.ireturn, 1) := by decide +kernel
theorem dX7_move_48 : decode cX7_move 48 = .ok (.aload_n 0, 1) := by decide +kernel
theorem dX7_move_49 : decode cX7_move 49 = .ok (.getfield 26, 3) := by decide +kernel
theorem dX7_move_52 : decode cX7_move 52 = .ok (.iload_n 1, 1) := by decide +kernel
theorem dX7_move_53 : decode cX7_move 53 = .ok (.iload_n 2, 1) := by decide +kernel
theorem dX7_move_54 : decode cX7_move 54 = .ok (.iastore, 1) := by decide +kernel
theorem dX7_move_55 : decode cX7_move 55 = .ok (.aload_n 0, 1) := by decide +kernel
theorem dX7_move_56 : decode cX7_move 56 = .ok (.getfield 53, 3) := by decide +kernel
theorem dX7_move_59 : decode cX7_move 59 = .ok (.iload_n 1, 1) := by decide +kernel
theorem dX7_move_60 : decode cX7_move 60 = .ok (.iaload, 1) := by decide +kernel
theorem dX7_move_61 : decode cX7_move 61 = .ok (.ifCond .lt 20, 3) := by decide +kernel
theorem dX7_move_64 : decode cX7_move 64 = .ok (.aload_n 0, 1) := by decide +kernel
theorem dX7_move_65 : decode cX7_move 65 = .ok (.getfield 53, 3) := by decide +kernel
theorem dX7_move_68 : decode cX7_move 68 = .ok (.iload_n 1, 1) := by decide +kernel
theorem dX7_move_69 : decode cX7_move 69 = .ok (.iaload, 1) := by decide +kernel
theorem dX7_move_70 : decode cX7_move 70 = .ok (.iload_n 2, 1) := by decide +kernel
theorem dX7_move_71 : decode cX7_move 71 = .ok (.if_icmp .ge 10, 3) := by decide +kernel
theorem dX7_move_74 : decode cX7_move 74 = .ok (.aload_n 0, 1) := by decide +kernel
theorem dX7_move_75 : decode cX7_move 75 = .ok (.getfield 53, 3) := by decide +kernel
theorem dX7_move_78 : decode cX7_move 78 = .ok (.iload_n 1, 1) := by decide +kernel
theorem dX7_move_79 : decode cX7_move 79 = .ok (.iconst (-1), 1) := by decide +kernel
theorem dX7_move_80 : decode cX7_move 80 = .ok (.iastore, 1) := by decide +kernel
theorem dX7_move_81 : decode cX7_move 81 = .ok (.aload_n 0, 1) := by decide +kernel
theorem dX7_move_82 : decode cX7_move 82 = .ok (.invokevirtual 143, 3) := by decide +kernel
theorem dX7_move_85 : decode cX7_move 85 = .ok (.ireturn, 1) := by decide +kernel
theorem dX7_show_0 : decode cX7_show 0 = .ok (.aload_n 0, 1) := by decide +kernel
theorem dX7_show_1 : decode cX7_show 1 = .ok (.iconst 0, 1) := by decide +kernel
theorem dX7_show_2 : decode cX7_show 2 = .ok (.putfield 123, 3) := by decide +kernel
theorem dX7_show_5 : decode cX7_show 5 = .ok (.aload_n 0, 1) := by decide +kernel
theorem dX7_show_6 : decode cX7_show 6 = .ok (.iconst 0, 1) := by decide +kernel
theorem dX7_show_7 : decode cX7_show 7 = .ok (.putfield 126, 3) := by decide +kernel
theorem dX7_show_10 : decode cX7_show 10 = .ok (.iload_n 1, 1) := by decide +kernel
theorem dX7_show_11 : decode cX7_show 11 = .ok (.ifCond .lt 9, 3) := by decide +kernel
theorem dX7_show_14 : decode cX7_show 14 = .ok (.iload_n 1, 1) := by decide +kernel
theorem dX7_show_15 : decode cX7_show 15 = .ok (.bipush 15, 2) := by decide +kernel
theorem dX7_show_17 : decode cX7_show 17 = .ok (.if_icmp .le 9, 3) := by decide +kernel
theorem dX7_show_20 : decode cX7_show 20 = .ok (.aload_n 0, 1) := by decide +kernel
theorem dX7_show_21 : decode cX7_show 21 = .ok (.iconst 2, 1) := by decide +kernel
theorem dX7_show_22 : decode cX7_show 22 = .ok (.invokevirtual 139, 3) := by decide +kernel
theorem dX7_show_25 : decode cX7_show 25 = .ok (.ireturn, 1) := by decide +kernel
theorem dX7_show_26 : decode cX7_show 26 = .ok (.aload_n 0, 1) := by decide +kernel
theorem dX7_show_27 : decode cX7_show 27 = .ok (.iload_n 1, 1) := by decide +kernel
theorem dX7_show_28 : decode cX7_show 28 = .ok (.putfield 19, 3) := by decide +kernel
theorem dX7_show_31 : decode cX7_show 31 = .ok (.aload_n 0, 1) := by decide +kernel
theorem dX7_show_32 : decode cX7_show 32 = .ok (.invokevirtual 143, 3) := by decide +kernel
theorem dX7_show_35 : decode cX7_show 35 = .ok (.ireturn, 1) := by decide +kernel
theorem dX7_keep_0 : decode cX7_keep 0 = .ok (.aload_n 0, 1) := by decide +kernel
theorem dX7_keep_1 : decode cX7_keep 1 = .ok (.iconst 0, 1) := by decide +kernel
theorem dX7_keep_2 : decode cX7_keep 2 = .ok (.putfield 123, 3) := by decide +kernel
theorem dX7_keep_5 : decode cX7_keep 5 = .ok (.aload_n 0, 1) := by decide +kernel
theorem dX7_keep_6 : decode cX7_keep 6 = .ok (.iconst 0, 1) := by decide +kernel
theorem dX7_keep_7 : decode cX7_keep 7 = .ok (.putfield 126, 3) := by decide +kernel
theorem dX7_keep_10 : decode cX7_keep 10 = .ok (.aload_n 0, 1) := by decide +kernel
theorem dX7_keep_11 : decode cX7_keep 11 = .ok (.iload_n 1, 1) := by decide +kernel
theorem dX7_keep_12 : decode cX7_keep 12 = .ok (.putfield 157, 3) := by decide +kernel
theorem dX7_keep_15 : decode cX7_keep 15 = .ok (.aload_n 0, 1) := by decide +kernel
theorem dX7_keep_16 : decode cX7_keep 16 = .ok (.invokevirtual 143, 3) := by decide +kernel
theorem dX7_keep_19 : decode cX7_keep 19 = .ok (.ireturn, 1) := by decide +kernel
theorem dX7_isShown_0 : decode cX7_isShown 0 = .ok (.aload_n 0, 1) := by decide +kernel
theorem dX7_isShown_1 : decode cX7_isShown 1 = .ok (.getfield 19, 3) := by decide +kernel
theorem dX7_isShown_4 : decode cX7_isShown 4 = .ok (.aload_n 0, 1) := by decide +kernel
theorem dX7_isShown_5 : decode cX7_isShown 5 = .ok (.getfield 38, 3) := by decide +kernel
theorem dX7_isShown_8 : decode cX7_isShown 8 = .ok (.iload_n 1, 1) := by decide +kernel
theorem dX7_isShown_9 : decode cX7_isShown 9 = .ok (.iaload, 1) := by decide +kernel
theorem dX7_isShown_10 : decode cX7_isShown 10 = .ok (.ishr, 1) := by decide +kernel
theorem dX7_isShown_11 : decode cX7_isShown 11 = .ok (.iconst 1, 1) := by decide +kernel
theorem dX7_isShown_12 : decode cX7_isShown 12 = .ok (.iand, 1) := by decide +kernel
theorem dX7_isShown_13 : decode cX7_isShown 13 = .ok (.iconst 1, 1) := by decide +kernel
theorem dX7_isShown_14 : decode cX7_isShown 14 = .ok (.if_icmp .ne 7, 3) := by decide +kernel
theorem dX7_isShown_17 : decode cX7_isShown 17 = .ok (.iconst 1, 1) := by decide +kernel
theorem dX7_isShown_18 : decode cX7_isShown 18 = .ok (.goto 4, 3) := by decide +kernel
theorem dX7_isShown_21 : decode cX7_isShown 21 = .ok (.iconst 0, 1) := by decide +kernel
theorem dX7_isShown_22 : decode cX7_isShown 22 = .ok (.ireturn, 1) := by decide +kernel
theorem dX7_tallOf_0 : decode cX7_tallOf 0 = .ok (.aload_n 0, 1) := by decide +kernel
theorem dX7_tallOf_1 : decode cX7_tallOf 1 = .ok (.getfield 29, 3) := by decide +kernel
theorem dX7_tallOf_4 : decode cX7_tallOf 4 = .ok (.iload_n 1, 1) := by decide +kernel
theorem dX7_tallOf_5 : decode cX7_tallOf 5 = .ok (.iaload, 1) := by decide +kernel
theorem dX7_tallOf_6 : decode cX7_tallOf 6 = .ok (.aload_n 0, 1) := by decide +kernel
theorem dX7_tallOf_7 : decode cX7_tallOf 7 = .ok (.getfield 44, 3) := by decide +kernel
theorem dX7_tallOf_10 : decode cX7_tallOf 10 = .ok (.iload_n 1, 1) := by decide +kernel
theorem dX7_tallOf_11 : decode cX7_tallOf 11 = .ok (.iaload, 1) := by decide +kernel
theorem dX7_tallOf_12 : decode cX7_tallOf 12 = .ok (.iadd, 1) := by decide +kernel
theorem dX7_tallOf_13 : decode cX7_tallOf 13 = .ok (.ireturn, 1) := by decide +kernel
theorem dX7_told_0 : decode cX7_told 0 = .ok (.aload_n 0, 1) := by decide +kernel
theorem dX7_told_1 : decode cX7_told 1 = .ok (.iconst 0, 1) := by decide +kernel
theorem dX7_told_2 : decode cX7_told 2 = .ok (.putfield 123, 3) := by decide +kernel
theorem dX7_told_5 : decode cX7_told 5 = .ok (.aload_n 0, 1) := by decide +kernel
theorem dX7_told_6 : decode cX7_told 6 = .ok (.iconst 0, 1) := by decide +kernel
theorem dX7_told_7 : decode cX7_told 7 = .ok (.putfield 126, 3) := by decide +kernel
theorem dX7_told_10 : decode cX7_told 10 = .ok (.aload_n 0, 1) := by decide +kernel
theorem dX7_told_11 : decode cX7_told 11 = .ok (.iload_n 1, 1) := by decide +kernel
theorem dX7_told_12 : decode cX7_told 12 = .ok (.invokevirtual 154, 3) := by decide +kernel
theorem dX7_told_15 : decode cX7_told 15 = .ok (.ifCond .ne 9, 3) := by decide +kernel
theorem dX7_told_18 : decode cX7_told 18 = .ok (.aload_n 0, 1) := by decide +kernel
theorem dX7_told_19 : decode cX7_told 19 = .ok (.iconst 1, 1) := by decide +kernel
theorem dX7_told_20 : decode cX7_told 20 = .ok (.invokevirtual 147, 3) := by decide +kernel
theorem dX7_told_23 : decode cX7_told 23 = .ok (.ireturn, 1) := by decide +kernel
theorem dX7_told_24 : decode cX7_told 24 = .ok (.iload_n 2, 1) := by decide +kernel
theorem dX7_told_25 : decode cX7_told 25 = .ok (.tableswitch 131 0 9 #[55, 62, 69, 76, 83, 90, 96, 103, 117, 124], 55) := by decide +kernel
theorem dX7_told_80 : decode cX7_told 80 = .ok (.aload_n 0, 1) := by decide +kernel
theorem dX7_told_81 : decode cX7_told 81 = .ok (.getfield 26, 3) := by decide +kernel
theorem dX7_told_84 : decode cX7_told 84 = .ok (.iload_n 1, 1) := by decide +kernel
theorem dX7_told_85 : decode cX7_told 85 = .ok (.iaload, 1) := by decide +kernel
theorem dX7_told_86 : decode cX7_told 86 = .ok (.ireturn, 1) := by decide +kernel
theorem dX7_told_87 : decode cX7_told 87 = .ok (.aload_n 0, 1) := by decide +kernel
theorem dX7_told_88 : decode cX7_told 88 = .ok (.getfield 29, 3) := by decide +kernel
theorem dX7_told_91 : decode cX7_told 91 = .ok (.iload_n 1, 1) := by decide +kernel
theorem dX7_told_92 : decode cX7_told 92 = .ok (.iaload, 1) := by decide +kernel
theorem dX7_told_93 : decode cX7_told 93 = .ok (.ireturn, 1) := by decide +kernel
theorem dX7_told_94 : decode cX7_told 94 = .ok (.aload_n 0, 1) := by decide +kernel
theorem dX7_told_95 : decode cX7_told 95 = .ok (.getfield 32, 3) := by decide +kernel
theorem dX7_told_98 : decode cX7_told 98 = .ok (.iload_n 1, 1) := by decide +kernel
theorem dX7_told_99 : decode cX7_told 99 = .ok (.iaload, 1) := by decide +kernel
theorem dX7_told_100 : decode cX7_told 100 = .ok (.ireturn, 1) := by decide +kernel
theorem dX7_told_101 : decode cX7_told 101 = .ok (.aload_n 0, 1) := by decide +kernel
theorem dX7_told_102 : decode cX7_told 102 = .ok (.getfield 35, 3) := by decide +kernel
theorem dX7_told_105 : decode cX7_told 105 = .ok (.iload_n 1, 1) := by decide +kernel
theorem dX7_told_106 : decode cX7_told 106 = .ok (.iaload, 1) := by decide +kernel
theorem dX7_told_107 : decode cX7_told 107 = .ok (.ireturn, 1) := by decide +kernel
theorem dX7_told_108 : decode cX7_told 108 = .ok (.aload_n 0, 1) := by decide +kernel
theorem dX7_told_109 : decode cX7_told 109 = .ok (.getfield 38, 3) := by decide +kernel
theorem dX7_told_112 : decode cX7_told 112 = .ok (.iload_n 1, 1) := by decide +kernel
theorem dX7_told_113 : decode cX7_told 113 = .ok (.iaload, 1) := by decide +kernel
theorem dX7_told_114 : decode cX7_told 114 = .ok (.ireturn, 1) := by decide +kernel
theorem dX7_told_115 : decode cX7_told 115 = .ok (.aload_n 0, 1) := by decide +kernel
theorem dX7_told_116 : decode cX7_told 116 = .ok (.iload_n 1, 1) := by decide +kernel
theorem dX7_told_117 : decode cX7_told 117 = .ok (.invokevirtual 160, 3) := by decide +kernel
theorem dX7_told_120 : decode cX7_told 120 = .ok (.ireturn, 1) := by decide +kernel
theorem dX7_told_121 : decode cX7_told 121 = .ok (.aload_n 0, 1) := by decide +kernel
theorem dX7_told_122 : decode cX7_told 122 = .ok (.getfield 50, 3) := by decide +kernel
theorem dX7_told_125 : decode cX7_told 125 = .ok (.iload_n 1, 1) := by decide +kernel
theorem dX7_told_126 : decode cX7_told 126 = .ok (.iaload, 1) := by decide +kernel
theorem dX7_told_127 : decode cX7_told 127 = .ok (.ireturn, 1) := by decide +kernel
theorem dX7_told_128 : decode cX7_told 128 = .ok (.aload_n 0, 1) := by decide +kernel
theorem dX7_told_129 : decode cX7_told 129 = .ok (.iload_n 1, 1) := by decide +kernel
theorem dX7_told_130 : decode cX7_told 130 = .ok (.invokevirtual 163, 3) := by decide +kernel
theorem dX7_told_133 : decode cX7_told 133 = .ok (.ifCond .eq 7, 3) := by decide +kernel
theorem dX7_told_136 : decode cX7_told 136 = .ok (.iconst 1, 1) := by decide +kernel
theorem dX7_told_137 : decode cX7_told 137 = .ok (.goto 4, 3) := by decide +kernel
theorem dX7_told_140 : decode cX7_told 140 = .ok (.iconst 0, 1) := by decide +kernel
theorem dX7_told_141 : decode cX7_told 141 = .ok (.ireturn, 1) := by decide +kernel
theorem dX7_told_142 : decode cX7_told 142 = .ok (.aload_n 0, 1) := by decide +kernel
theorem dX7_told_143 : decode cX7_told 143 = .ok (.getfield 47, 3) := by decide +kernel
theorem dX7_told_146 : decode cX7_told 146 = .ok (.iload_n 1, 1) := by decide +kernel
theorem dX7_told_147 : decode cX7_told 147 = .ok (.iaload, 1) := by decide +kernel
theorem dX7_told_148 : decode cX7_told 148 = .ok (.ireturn, 1) := by decide +kernel
theorem dX7_told_149 : decode cX7_told 149 = .ok (.aload_n 0, 1) := by decide +kernel
theorem dX7_told_150 : decode cX7_told 150 = .ok (.getfield 53, 3) := by decide +kernel
theorem dX7_told_153 : decode cX7_told 153 = .ok (.iload_n 1, 1) := by decide +kernel
theorem dX7_told_154 : decode cX7_told 154 = .ok (.iaload, 1) := by decide +kernel
theorem dX7_told_155 : decode cX7_told 155 = .ok (.ireturn, 1) := by decide +kernel
theorem dX7_told_156 : decode cX7_told 156 = .ok (.aload_n 0, 1) := by decide +kernel
theorem dX7_told_157 : decode cX7_told 157 = .ok (.iconst 2, 1) := by decide +kernel
theorem dX7_told_158 : decode cX7_told 158 = .ok (.invokevirtual 147, 3) := by decide +kernel
theorem dX7_told_161 : decode cX7_told 161 = .ok (.ireturn, 1) := by decide +kernel
theorem dX7_gather_0 : decode cX7_gather 0 = .ok (.aload_n 0, 1) := by decide +kernel
theorem dX7_gather_1 : decode cX7_gather 1 = .ok (.iconst 0, 1) := by decide +kernel
theorem dX7_gather_2 : decode cX7_gather 2 = .ok (.putfield 166, 3) := by decide +kernel
theorem dX7_gather_5 : decode cX7_gather 5 = .ok (.iconst 0, 1) := by decide +kernel
theorem dX7_gather_6 : decode cX7_gather 6 = .ok (.istore_n 3, 1) := by decide +kernel
theorem dX7_gather_7 : decode cX7_gather 7 = .ok (.iload_n 1, 1) := by decide +kernel
theorem dX7_gather_8 : decode cX7_gather 8 = .ok (.istore 4, 2) := by decide +kernel
theorem dX7_gather_10 : decode cX7_gather 10 = .ok (.iload 4, 2) := by decide +kernel
theorem dX7_gather_12 : decode cX7_gather 12 = .ok (.iload_n 1, 1) := by decide +kernel
theorem dX7_gather_13 : decode cX7_gather 13 = .ok (.iload_n 2, 1) := by decide +kernel
theorem dX7_gather_14 : decode cX7_gather 14 = .ok (.iadd, 1) := by decide +kernel
theorem dX7_gather_15 : decode cX7_gather 15 = .ok (.if_icmp .ge 98, 3) := by decide +kernel
theorem dX7_gather_18 : decode cX7_gather 18 = .ok (.iconst 0, 1) := by decide +kernel
theorem dX7_gather_19 : decode cX7_gather 19 = .ok (.istore 5, 2) := by decide +kernel
theorem dX7_gather_21 : decode cX7_gather 21 = .ok (.iload 5, 2) := by decide +kernel
theorem dX7_gather_23 : decode cX7_gather 23 = .ok (.aload_n 0, 1) := by decide +kernel
theorem dX7_gather_24 : decode cX7_gather 24 = .ok (.getfield 136, 3) := by decide +kernel
theorem dX7_gather_27 : decode cX7_gather 27 = .ok (.if_icmp .ge 80, 3) := by decide +kernel
theorem dX7_gather_30 : decode cX7_gather 30 = .ok (.aload_n 0, 1) := by decide +kernel
theorem dX7_gather_31 : decode cX7_gather 31 = .ok (.getfield 26, 3) := by decide +kernel
theorem dX7_gather_34 : decode cX7_gather 34 = .ok (.iload 5, 2) := by decide +kernel
theorem dX7_gather_36 : decode cX7_gather 36 = .ok (.iaload, 1) := by decide +kernel
theorem dX7_gather_37 : decode cX7_gather 37 = .ok (.iload 4, 2) := by decide +kernel
theorem dX7_gather_39 : decode cX7_gather 39 = .ok (.if_icmp .ne 62, 3) := by decide +kernel
theorem dX7_gather_42 : decode cX7_gather 42 = .ok (.aload_n 0, 1) := by decide +kernel
theorem dX7_gather_43 : decode cX7_gather 43 = .ok (.getfield 157, 3) := by decide +kernel
theorem dX7_gather_46 : decode cX7_gather 46 = .ok (.ifCond .ne 15, 3) := by decide +kernel
theorem dX7_gather_49 : decode cX7_gather 49 = .ok (.aload_n 0, 1) := by decide +kernel
theorem dX7_gather_50 : decode cX7_gather 50 = .ok (.iload 5, 2) := by decide +kernel
theorem dX7_gather_52 : decode cX7_gather 52 = .ok (.invokevirtual 163, 3) := by decide +kernel
theorem dX7_gather_55 : decode cX7_gather 55 = .ok (.ifCond .ne 6, 3) := by decide +kernel
theorem dX7_gather_58 : decode cX7_gather 58 = .ok (.goto 43, 3) := by decide +kernel
theorem dX7_gather_61 : decode cX7_gather 61 = .ok (.aload_n 0, 1) := by decide +kernel
theorem dX7_gather_62 : decode cX7_gather 62 = .ok (.getfield 93, 3) := by decide +kernel
theorem dX7_gather_65 : decode cX7_gather 65 = .ok (.aload_n 0, 1) := by decide +kernel
theorem dX7_gather_66 : decode cX7_gather 66 = .ok (.getfield 166, 3) := by decide +kernel
theorem dX7_gather_69 : decode cX7_gather 69 = .ok (.iload 5, 2) := by decide +kernel
theorem dX7_gather_71 : decode cX7_gather 71 = .ok (.iastore, 1) := by decide +kernel
theorem dX7_gather_72 : decode cX7_gather 72 = .ok (.aload_n 0, 1) := by decide +kernel
theorem dX7_gather_73 : decode cX7_gather 73 = .ok (.dup, 1) := by decide +kernel
theorem dX7_gather_74 : decode cX7_gather 74 = .ok (.getfield 166, 3) := by decide +kernel
theorem dX7_gather_77 : decode cX7_gather 77 = .ok (.iconst 1, 1) := by decide +kernel
theorem dX7_gather_78 : decode cX7_gather 78 = .ok (.iadd, 1) := by decide +kernel
theorem dX7_gather_79 : decode cX7_gather 79 = .ok (.putfield 166, 3) := by decide +kernel
theorem dX7_gather_82 : decode cX7_gather 82 = .ok (.iload_n 3, 1) := by decide +kernel
theorem dX7_gather_83 : decode cX7_gather 83 = .ok (.aload_n 0, 1) := by decide +kernel
theorem dX7_gather_84 : decode cX7_gather 84 = .ok (.getfield 35, 3) := by decide +kernel
theorem dX7_gather_87 : decode cX7_gather 87 = .ok (.iload 5, 2) := by decide +kernel
theorem dX7_gather_89 : decode cX7_gather 89 = .ok (.iaload, 1) := by decide +kernel
theorem dX7_gather_90 : decode cX7_gather 90 = .ok (.iconst 2, 1) := by decide +kernel
theorem dX7_gather_91 : decode cX7_gather 91 = .ok (.if_icmp .ne 7, 3) := by decide +kernel
theorem dX7_gather_94 : decode cX7_gather 94 = .ok (.iconst 1, 1) := by decide +kernel
theorem dX7_gather_95 : decode cX7_gather 95 = .ok (.goto 4, 3) := by decide +kernel
theorem dX7_gather_98 : decode cX7_gather 98 = .ok (.iconst 0, 1) := by decide +kernel
theorem dX7_gather_99 : decode cX7_gather 99 = .ok (.iadd, 1) := by decide +kernel
theorem dX7_gather_100 : decode cX7_gather 100 = .ok (.istore_n 3, 1) := by decide +kernel
theorem dX7_gather_101 : decode cX7_gather 101 = .ok (.iinc 5 1, 3) := by decide +kernel
theorem dX7_gather_104 : decode cX7_gather 104 = .ok (.goto (-83), 3) := by decide +kernel
theorem dX7_gather_107 : decode cX7_gather 107 = .ok (.iinc 4 1, 3) := by decide +kernel
theorem dX7_gather_110 : decode cX7_gather 110 = .ok (.goto (-100), 3) := by decide +kernel
theorem dX7_gather_113 : decode cX7_gather 113 = .ok (.iload_n 3, 1) := by decide +kernel
theorem dX7_gather_114 : decode cX7_gather 114 = .ok (.ireturn, 1) := by decide +kernel
theorem dX7_sides_0 : decode cX7_sides 0 = .ok (.iload_n 1, 1) := by decide +kernel
theorem dX7_sides_1 : decode cX7_sides 1 = .ok (.istore_n 3, 1) := by decide +kernel
theorem dX7_sides_2 : decode cX7_sides 2 = .ok (.iconst 0, 1) := by decide +kernel
theorem dX7_sides_3 : decode cX7_sides 3 = .ok (.istore 4, 2) := by decide +kernel
theorem dX7_sides_5 : decode cX7_sides 5 = .ok (.iload 4, 2) := by decide +kernel
theorem dX7_sides_7 : decode cX7_sides 7 = .ok (.aload_n 0, 1) := by decide +kernel
theorem dX7_sides_8 : decode cX7_sides 8 = .ok (.getfield 166, 3) := by decide +kernel
theorem dX7_sides_11 : decode cX7_sides 11 = .ok (.if_icmp .ge 57, 3) := by decide +kernel
theorem dX7_sides_14 : decode cX7_sides 14 = .ok (.aload_n 0, 1) := by decide +kernel
theorem dX7_sides_15 : decode cX7_sides 15 = .ok (.getfield 96, 3) := by decide +kernel
theorem dX7_sides_18 : decode cX7_sides 18 = .ok (.iload 4, 2) := by decide +kernel
theorem dX7_sides_20 : decode cX7_sides 20 = .ok (.aload_n 0, 1) := by decide +kernel
theorem dX7_sides_21 : decode cX7_sides 21 = .ok (.getfield 35, 3) := by decide +kernel
theorem dX7_sides_24 : decode cX7_sides 24 = .ok (.aload_n 0, 1) := by decide +kernel
theorem dX7_sides_25 : decode cX7_sides 25 = .ok (.getfield 93, 3) := by decide +kernel
theorem dX7_sides_28 : decode cX7_sides 28 = .ok (.iload 4, 2) := by decide +kernel
theorem dX7_sides_30 : decode cX7_sides 30 = .ok (.iaload, 1) := by decide +kernel
theorem dX7_sides_31 : decode cX7_sides 31 = .ok (.iaload, 1) := by decide +kernel
theorem dX7_sides_32 : decode cX7_sides 32 = .ok (.iastore, 1) := by decide +kernel
theorem dX7_sides_33 : decode cX7_sides 33 = .ok (.aload_n 0, 1) := by decide +kernel
theorem dX7_sides_34 : decode cX7_sides 34 = .ok (.getfield 96, 3) := by decide +kernel
theorem dX7_sides_37 : decode cX7_sides 37 = .ok (.iload 4, 2) := by decide +kernel
theorem dX7_sides_39 : decode cX7_sides 39 = .ok (.iaload, 1) := by decide +kernel
theorem dX7_sides_40 : decode cX7_sides 40 = .ok (.iconst 2, 1) := by decide +kernel
theorem dX7_sides_41 : decode cX7_sides 41 = .ok (.if_icmp .ge 6, 3) := by decide +kernel
theorem dX7_sides_44 : decode cX7_sides 44 = .ok (.goto 18, 3) := by decide +kernel
theorem dX7_sides_47 : decode cX7_sides 47 = .ok (.iinc 3 (-1), 3) := by decide +kernel
theorem dX7_sides_50 : decode cX7_sides 50 = .ok (.aload_n 0, 1) := by decide +kernel
theorem dX7_sides_51 : decode cX7_sides 51 = .ok (.getfield 96, 3) := by decide +kernel
theorem dX7_sides_54 : decode cX7_sides 54 = .ok (.iload 4, 2) := by decide +kernel
theorem dX7_sides_56 : decode cX7_sides 56 = .ok (.iload_n 2, 1) := by decide +kernel
theorem dX7_sides_57 : decode cX7_sides 57 = .ok (.iload_n 3, 1) := by decide +kernel
theorem dX7_sides_58 : decode cX7_sides 58 = .ok (.ishr, 1) := by decide +kernel
theorem dX7_sides_59 : decode cX7_sides 59 = .ok (.iconst 1, 1) := by decide +kernel
theorem dX7_sides_60 : decode cX7_sides 60 = .ok (.iand, 1) := by decide +kernel
theorem dX7_sides_61 : decode cX7_sides 61 = .ok (.iastore, 1) := by decide +kernel
theorem dX7_sides_62 : decode cX7_sides 62 = .ok (.iinc 4 1, 3) := by decide +kernel
theorem dX7_sides_65 : decode cX7_sides 65 = .ok (.goto (-60), 3) := by decide +kernel
theorem dX7_sides_68 : decode cX7_sides 68 = .ok (.return_, 1) := by decide +kernel
theorem dX7_rowOf_0 : decode cX7_rowOf 0 = .ok (.aload_n 0, 1) := by decide +kernel
theorem dX7_rowOf_1 : decode cX7_rowOf 1 = .ok (.iconst 0, 1) := by decide +kernel
theorem dX7_rowOf_2 : decode cX7_rowOf 2 = .ok (.putfield 169, 3) := by decide +kernel
theorem dX7_rowOf_5 : decode cX7_rowOf 5 = .ok (.iconst 0, 1) := by decide +kernel
theorem dX7_rowOf_6 : decode cX7_rowOf 6 = .ok (.istore_n 2, 1) := by decide +kernel
theorem dX7_rowOf_7 : decode cX7_rowOf 7 = .ok (.iload_n 2, 1) := by decide +kernel
theorem dX7_rowOf_8 : decode cX7_rowOf 8 = .ok (.aload_n 0, 1) := by decide +kernel
theorem dX7_rowOf_9 : decode cX7_rowOf 9 = .ok (.getfield 166, 3) := by decide +kernel
theorem dX7_rowOf_12 : decode cX7_rowOf 12 = .ok (.if_icmp .ge 47, 3) := by decide +kernel
theorem dX7_rowOf_15 : decode cX7_rowOf 15 = .ok (.aload_n 0, 1) := by decide +kernel
theorem dX7_rowOf_16 : decode cX7_rowOf 16 = .ok (.getfield 96, 3) := by decide +kernel
theorem dX7_rowOf_19 : decode cX7_rowOf 19 = .ok (.iload_n 2, 1) := by decide +kernel
theorem dX7_rowOf_20 : decode cX7_rowOf 20 = .ok (.iaload, 1) := by decide +kernel
theorem dX7_rowOf_21 : decode cX7_rowOf 21 = .ok (.iload_n 1, 1) := by decide +kernel
theorem dX7_rowOf_22 : decode cX7_rowOf 22 = .ok (.if_icmp .eq 6, 3) := by decide +kernel
theorem dX7_rowOf_25 : decode cX7_rowOf 25 = .ok (.goto 28, 3) := by decide +kernel
theorem dX7_rowOf_28 : decode cX7_rowOf 28 = .ok (.aload_n 0, 1) := by decide +kernel
theorem dX7_rowOf_29 : decode cX7_rowOf 29 = .ok (.getfield 102, 3) := by decide +kernel
theorem dX7_rowOf_32 : decode cX7_rowOf 32 = .ok (.aload_n 0, 1) := by decide +kernel
theorem dX7_rowOf_33 : decode cX7_rowOf 33 = .ok (.getfield 169, 3) := by decide +kernel
theorem dX7_rowOf_36 : decode cX7_rowOf 36 = .ok (.aload_n 0, 1) := by decide +kernel
theorem dX7_rowOf_37 : decode cX7_rowOf 37 = .ok (.getfield 93, 3) := by decide +kernel
theorem dX7_rowOf_40 : decode cX7_rowOf 40 = .ok (.iload_n 2, 1) := by decide +kernel
theorem dX7_rowOf_41 : decode cX7_rowOf 41 = .ok (.iaload, 1) := by decide +kernel
theorem dX7_rowOf_42 : decode cX7_rowOf 42 = .ok (.iastore, 1) := by decide +kernel
theorem dX7_rowOf_43 : decode cX7_rowOf 43 = .ok (.aload_n 0, 1) := by decide +kernel
theorem dX7_rowOf_44 : decode cX7_rowOf 44 = .ok (.dup, 1) := by decide +kernel
theorem dX7_rowOf_45 : decode cX7_rowOf 45 = .ok (.getfield 169, 3) := by decide +kernel
theorem dX7_rowOf_48 : decode cX7_rowOf 48 = .ok (.iconst 1, 1) := by decide +kernel
theorem dX7_rowOf_49 : decode cX7_rowOf 49 = .ok (.iadd, 1) := by decide +kernel
theorem dX7_rowOf_50 : decode cX7_rowOf 50 = .ok (.putfield 169, 3) := by decide +kernel
theorem dX7_rowOf_53 : decode cX7_rowOf 53 = .ok (.iinc 2 1, 3) := by decide +kernel
theorem dX7_rowOf_56 : decode cX7_rowOf 56 = .ok (.goto (-49), 3) := by decide +kernel
theorem dX7_rowOf_59 : decode cX7_rowOf 59 = .ok (.return_, 1) := by decide +kernel
theorem dX7_choices_0 : decode cX7_choices 0 = .ok (.aload_n 0, 1) := by decide +kernel
theorem dX7_choices_1 : decode cX7_choices 1 = .ok (.getfield 169, 3) := by decide +kernel
theorem dX7_choices_4 : decode cX7_choices 4 = .ok (.ifCond .ne 5, 3) := by decide +kernel
theorem dX7_choices_7 : decode cX7_choices 7 = .ok (.iconst 1, 1) := by decide +kernel
theorem dX7_choices_8 : decode cX7_choices 8 = .ok (.ireturn, 1) := by decide +kernel
theorem dX7_choices_9 : decode cX7_choices 9 = .ok (.aload_n 0, 1) := by decide +kernel
theorem dX7_choices_10 : decode cX7_choices 10 = .ok (.getfield 102, 3) := by decide +kernel
theorem dX7_choices_13 : decode cX7_choices 13 = .ok (.aload_n 0, 1) := by decide +kernel
theorem dX7_choices_14 : decode cX7_choices 14 = .ok (.getfield 169, 3) := by decide +kernel
theorem dX7_choices_17 : decode cX7_choices 17 = .ok (.iconst 1, 1) := by decide +kernel
theorem dX7_choices_18 : decode cX7_choices 18 = .ok (.isub, 1) := by decide +kernel
theorem dX7_choices_19 : decode cX7_choices 19 = .ok (.iaload, 1) := by decide +kernel
theorem dX7_choices_20 : decode cX7_choices 20 = .ok (.istore_n 1, 1) := by decide +kernel
theorem dX7_choices_21 : decode cX7_choices 21 = .ok (.aload_n 0, 1) := by decide +kernel
theorem dX7_choices_22 : decode cX7_choices 22 = .ok (.getfield 50, 3) := by decide +kernel
theorem dX7_choices_25 : decode cX7_choices 25 = .ok (.iload_n 1, 1) := by decide +kernel
theorem dX7_choices_26 : decode cX7_choices 26 = .ok (.iaload, 1) := by decide +kernel
theorem dX7_choices_27 : decode cX7_choices 27 = .ok (.ifCond .lt 7, 3) := by decide +kernel
theorem dX7_choices_30 : decode cX7_choices 30 = .ok (.iconst 1, 1) := by decide +kernel
theorem dX7_choices_31 : decode cX7_choices 31 = .ok (.goto 11, 3) := by decide +kernel
theorem dX7_choices_34 : decode cX7_choices 34 = .ok (.iconst 1, 1) := by decide +kernel
theorem dX7_choices_35 : decode cX7_choices 35 = .ok (.aload_n 0, 1) := by decide +kernel
theorem dX7_choices_36 : decode cX7_choices 36 = .ok (.getfield 47, 3) := by decide +kernel
theorem dX7_choices_39 : decode cX7_choices 39 = .ok (.iload_n 1, 1) := by decide +kernel
theorem dX7_choices_40 : decode cX7_choices 40 = .ok (.iaload, 1) := by decide +kernel
theorem dX7_choices_41 : decode cX7_choices 41 = .ok (.iadd, 1) := by decide +kernel
theorem dX7_choices_42 : decode cX7_choices 42 = .ok (.ireturn, 1) := by decide +kernel
theorem dX7_tall_0 : decode cX7_tall 0 = .ok (.aload_n 0, 1) := by decide +kernel
theorem dX7_tall_1 : decode cX7_tall 1 = .ok (.getfield 102, 3) := by decide +kernel
theorem dX7_tall_4 : decode cX7_tall 4 = .ok (.iload_n 1, 1) := by decide +kernel
theorem dX7_tall_5 : decode cX7_tall 5 = .ok (.iaload, 1) := by decide +kernel
theorem dX7_tall_6 : decode cX7_tall 6 = .ok (.istore_n 3, 1) := by decide +kernel
theorem dX7_tall_7 : decode cX7_tall 7 = .ok (.iload_n 2, 1) := by decide +kernel
theorem dX7_tall_8 : decode cX7_tall 8 = .ok (.ifCond .eq 13, 3) := by decide +kernel
theorem dX7_tall_11 : decode cX7_tall 11 = .ok (.iload_n 1, 1) := by decide +kernel
theorem dX7_tall_12 : decode cX7_tall 12 = .ok (.aload_n 0, 1) := by decide +kernel
theorem dX7_tall_13 : decode cX7_tall 13 = .ok (.getfield 169, 3) := by decide +kernel
theorem dX7_tall_16 : decode cX7_tall 16 = .ok (.iconst 1, 1) := by decide +kernel
theorem dX7_tall_17 : decode cX7_tall 17 = .ok (.isub, 1) := by decide +kernel
theorem dX7_tall_18 : decode cX7_tall 18 = .ok (.if_icmp .ge 9, 3) := by decide +kernel
theorem dX7_tall_21 : decode cX7_tall 21 = .ok (.aload_n 0, 1) := by decide +kernel
theorem dX7_tall_22 : decode cX7_tall 22 = .ok (.iload_n 3, 1) := by decide +kernel
theorem dX7_tall_23 : decode cX7_tall 23 = .ok (.invokevirtual 160, 3) := by decide +kernel
theorem dX7_tall_26 : decode cX7_tall 26 = .ok (.ireturn, 1) := by decide +kernel
theorem dX7_tall_27 : decode cX7_tall 27 = .ok (.aload_n 0, 1) := by decide +kernel
theorem dX7_tall_28 : decode cX7_tall 28 = .ok (.getfield 56, 3) := by decide +kernel
theorem dX7_tall_31 : decode cX7_tall 31 = .ok (.iconst 3, 1) := by decide +kernel
theorem dX7_tall_32 : decode cX7_tall 32 = .ok (.iload_n 3, 1) := by decide +kernel
theorem dX7_tall_33 : decode cX7_tall 33 = .ok (.imul, 1) := by decide +kernel
theorem dX7_tall_34 : decode cX7_tall 34 = .ok (.iload_n 2, 1) := by decide +kernel
theorem dX7_tall_35 : decode cX7_tall 35 = .ok (.iadd, 1) := by decide +kernel
theorem dX7_tall_36 : decode cX7_tall 36 = .ok (.iconst 1, 1) := by decide +kernel
theorem dX7_tall_37 : decode cX7_tall 37 = .ok (.isub, 1) := by decide +kernel
theorem dX7_tall_38 : decode cX7_tall 38 = .ok (.iaload, 1) := by decide +kernel
theorem dX7_tall_39 : decode cX7_tall 39 = .ok (.istore 4, 2) := by decide +kernel
theorem dX7_tall_41 : decode cX7_tall 41 = .ok (.aload_n 0, 1) := by decide +kernel
theorem dX7_tall_42 : decode cX7_tall 42 = .ok (.getfield 29, 3) := by decide +kernel
theorem dX7_tall_45 : decode cX7_tall 45 = .ok (.iload_n 3, 1) := by decide +kernel
theorem dX7_tall_46 : decode cX7_tall 46 = .ok (.iaload, 1) := by decide +kernel
theorem dX7_tall_47 : decode cX7_tall 47 = .ok (.iload 4, 2) := by decide +kernel
theorem dX7_tall_49 : decode cX7_tall 49 = .ok (.isub, 1) := by decide +kernel
theorem dX7_tall_50 : decode cX7_tall 50 = .ok (.aload_n 0, 1) := by decide +kernel
theorem dX7_tall_51 : decode cX7_tall 51 = .ok (.getfield 7, 3) := by decide +kernel
theorem dX7_tall_54 : decode cX7_tall 54 = .ok (.if_icmp .le 7, 3) := by decide +kernel
theorem dX7_tall_57 : decode cX7_tall 57 = .ok (.iconst (-1), 1) := by decide +kernel
theorem dX7_tall_58 : decode cX7_tall 58 = .ok (.goto 5, 3) := by decide +kernel
theorem dX7_tall_61 : decode cX7_tall 61 = .ok (.iload 4, 2) := by decide +kernel
theorem dX7_tall_63 : decode cX7_tall 63 = .ok (.ireturn, 1) := by decide +kernel
theorem dX7_stands_0 : decode cX7_stands 0 = .ok (.iload_n 1, 1) := by decide +kernel
theorem dX7_stands_1 : decode cX7_stands 1 = .ok (.ifCond .le 12, 3) := by decide +kernel
theorem dX7_stands_4 : decode cX7_stands 4 = .ok (.iload_n 1, 1) := by decide +kernel
theorem dX7_stands_5 : decode cX7_stands 5 = .ok (.aload_n 0, 1) := by decide +kernel
theorem dX7_stands_6 : decode cX7_stands 6 = .ok (.getfield 13, 3) := by decide +kernel
theorem dX7_stands_9 : decode cX7_stands 9 = .ok (.iadd, 1) := by decide +kernel
theorem dX7_stands_10 : decode cX7_stands 10 = .ok (.goto 4, 3) := by decide +kernel
theorem dX7_stands_13 : decode cX7_stands 13 = .ok (.iconst 0, 1) := by decide +kernel
theorem dX7_stands_14 : decode cX7_stands 14 = .ok (.istore_n 3, 1) := by decide +kernel
theorem dX7_stands_15 : decode cX7_stands 15 = .ok (.iconst 0, 1) := by decide +kernel
theorem dX7_stands_16 : decode cX7_stands 16 = .ok (.istore 4, 2) := by decide +kernel
theorem dX7_stands_18 : decode cX7_stands 18 = .ok (.iload 4, 2) := by decide +kernel
theorem dX7_stands_20 : decode cX7_stands 20 = .ok (.aload_n 0, 1) := by decide +kernel
theorem dX7_stands_21 : decode cX7_stands 21 = .ok (.getfield 169, 3) := by decide +kernel
theorem dX7_stands_24 : decode cX7_stands 24 = .ok (.if_icmp .ge 96, 3) := by decide +kernel
theorem dX7_stands_27 : decode cX7_stands 27 = .ok (.aload_n 0, 1) := by decide +kernel
theorem dX7_stands_28 : decode cX7_stands 28 = .ok (.getfield 102, 3) := by decide +kernel
theorem dX7_stands_31 : decode cX7_stands 31 = .ok (.iload 4, 2) := by decide +kernel
theorem dX7_stands_33 : decode cX7_stands 33 = .ok (.iaload, 1) := by decide +kernel
theorem dX7_stands_34 : decode cX7_stands 34 = .ok (.istore 5, 2) := by decide +kernel
theorem dX7_stands_36 : decode cX7_stands 36 = .ok (.aload_n 0, 1) := by decide +kernel
theorem dX7_stands_37 : decode cX7_stands 37 = .ok (.iload 4, 2) := by decide +kernel
theorem dX7_stands_39 : decode cX7_stands 39 = .ok (.iload_n 2, 1) := by decide +kernel
theorem dX7_stands_40 : decode cX7_stands 40 = .ok (.invokevirtual 172, 3) := by decide +kernel
theorem dX7_stands_43 : decode cX7_stands 43 = .ok (.istore 6, 2) := by decide +kernel
theorem dX7_stands_45 : decode cX7_stands 45 = .ok (.iload 6, 2) := by decide +kernel
theorem dX7_stands_47 : decode cX7_stands 47 = .ok (.ifCond .lt 24, 3) := by decide +kernel
theorem dX7_stands_50 : decode cX7_stands 50 = .ok (.aload_n 0, 1) := by decide +kernel
theorem dX7_stands_51 : decode cX7_stands 51 = .ok (.getfield 50, 3) := by decide +kernel
theorem dX7_stands_54 : decode cX7_stands 54 = .ok (.iload 5, 2) := by decide +kernel
theorem dX7_stands_56 : decode cX7_stands 56 = .ok (.iaload, 1) := by decide +kernel
theorem dX7_stands_57 : decode cX7_stands 57 = .ok (.ifCond .lt 16, 3) := by decide +kernel
theorem dX7_stands_60 : decode cX7_stands 60 = .ok (.aload_n 0, 1) := by decide +kernel
theorem dX7_stands_61 : decode cX7_stands 61 = .ok (.getfield 50, 3) := by decide +kernel
theorem dX7_stands_64 : decode cX7_stands 64 = .ok (.iload 5, 2) := by decide +kernel
theorem dX7_stands_66 : decode cX7_stands 66 = .ok (.iaload, 1) := by decide +kernel
theorem dX7_stands_67 : decode cX7_stands 67 = .ok (.iload_n 3, 1) := by decide +kernel
theorem dX7_stands_68 : decode cX7_stands 68 = .ok (.if_icmp .ge 5, 3) := by decide +kernel
theorem dX7_stands_71 : decode cX7_stands 71 = .ok (.iconst 0, 1) := by decide +kernel
theorem dX7_stands_72 : decode cX7_stands 72 = .ok (.ireturn, 1) := by decide +kernel
theorem dX7_stands_73 : decode cX7_stands 73 = .ok (.aload_n 0, 1) := by decide +kernel
theorem dX7_stands_74 : decode cX7_stands 74 = .ok (.getfield 50, 3) := by decide +kernel
theorem dX7_stands_77 : decode cX7_stands 77 = .ok (.iload 5, 2) := by decide +kernel
theorem dX7_stands_79 : decode cX7_stands 79 = .ok (.iaload, 1) := by decide +kernel
theorem dX7_stands_80 : decode cX7_stands 80 = .ok (.ifCond .lt 11, 3) := by decide +kernel
theorem dX7_stands_83 : decode cX7_stands 83 = .ok (.aload_n 0, 1) := by decide +kernel
theorem dX7_stands_84 : decode cX7_stands 84 = .ok (.getfield 50, 3) := by decide +kernel
theorem dX7_stands_87 : decode cX7_stands 87 = .ok (.iload 5, 2) := by decide +kernel
theorem dX7_stands_89 : decode cX7_stands 89 = .ok (.iaload, 1) := by decide +kernel
theorem dX7_stands_90 : decode cX7_stands 90 = .ok (.istore_n 3, 1) := by decide +kernel
theorem dX7_stands_91 : decode cX7_stands 91 = .ok (.iload_n 3, 1) := by decide +kernel
theorem dX7_stands_92 : decode cX7_stands 92 = .ok (.iload 6, 2) := by decide +kernel
theorem dX7_stands_94 : decode cX7_stands 94 = .ok (.iadd, 1) := by decide +kernel
theorem dX7_stands_95 : decode cX7_stands 95 = .ok (.aload_n 0, 1) := by decide +kernel
theorem dX7_stands_96 : decode cX7_stands 96 = .ok (.getfield 7, 3) := by decide +kernel
theorem dX7_stands_99 : decode cX7_stands 99 = .ok (.if_icmp .le 5, 3) := by decide +kernel
theorem dX7_stands_102 : decode cX7_stands 102 = .ok (.iconst 0, 1) := by decide +kernel
theorem dX7_stands_103 : decode cX7_stands 103 = .ok (.ireturn, 1) := by decide +kernel
theorem dX7_stands_104 : decode cX7_stands 104 = .ok (.iload_n 3, 1) := by decide +kernel
theorem dX7_stands_105 : decode cX7_stands 105 = .ok (.iload 6, 2) := by decide +kernel
theorem dX7_stands_107 : decode cX7_stands 107 = .ok (.aload_n 0, 1) := by decide +kernel
theorem dX7_stands_108 : decode cX7_stands 108 = .ok (.getfield 13, 3) := by decide +kernel
theorem dX7_stands_111 : decode cX7_stands 111 = .ok (.iadd, 1) := by decide +kernel
theorem dX7_stands_112 : decode cX7_stands 112 = .ok (.iadd, 1) := by decide +kernel
theorem dX7_stands_113 : decode cX7_stands 113 = .ok (.istore_n 3, 1) := by decide +kernel
theorem dX7_stands_114 : decode cX7_stands 114 = .ok (.iinc 4 1, 3) := by decide +kernel
theorem dX7_stands_117 : decode cX7_stands 117 = .ok (.goto (-99), 3) := by decide +kernel
theorem dX7_stands_120 : decode cX7_stands 120 = .ok (.iconst 1, 1) := by decide +kernel
theorem dX7_stands_121 : decode cX7_stands 121 = .ok (.ireturn, 1) := by decide +kernel
theorem dX7_isHeld_0 : decode cX7_isHeld 0 = .ok (.iconst 0, 1) := by decide +kernel
theorem dX7_isHeld_1 : decode cX7_isHeld 1 = .ok (.istore 5, 2) := by decide +kernel
theorem dX7_isHeld_3 : decode cX7_isHeld 3 = .ok (.iload_n 1, 1) := by decide +kernel
theorem dX7_isHeld_4 : decode cX7_isHeld 4 = .ok (.istore 6, 2) := by decide +kernel
theorem dX7_isHeld_6 : decode cX7_isHeld 6 = .ok (.iload 6, 2) := by decide +kernel
theorem dX7_isHeld_8 : decode cX7_isHeld 8 = .ok (.iload_n 1, 1) := by decide +kernel
theorem dX7_isHeld_9 : decode cX7_isHeld 9 = .ok (.iload_n 2, 1) := by decide +kernel
theorem dX7_isHeld_10 : decode cX7_isHeld 10 = .ok (.iadd, 1) := by decide +kernel
theorem dX7_isHeld_11 : decode cX7_isHeld 11 = .ok (.if_icmp .ge 21, 3) := by decide +kernel
theorem dX7_isHeld_14 : decode cX7_isHeld 14 = .ok (.iload 5, 2) := by decide +kernel
theorem dX7_isHeld_16 : decode cX7_isHeld 16 = .ok (.aload_n 0, 1) := by decide +kernel
theorem dX7_isHeld_17 : decode cX7_isHeld 17 = .ok (.getfield 22, 3) := by decide +kernel
theorem dX7_isHeld_20 : decode cX7_isHeld 20 = .ok (.iload 6, 2) := by decide +kernel
theorem dX7_isHeld_22 : decode cX7_isHeld 22 = .ok (.iaload, 1) := by decide +kernel
theorem dX7_isHeld_23 : decode cX7_isHeld 23 = .ok (.iadd, 1) := by decide +kernel
theorem dX7_isHeld_24 : decode cX7_isHeld 24 = .ok (.istore 5, 2) := by decide +kernel
theorem dX7_isHeld_26 : decode cX7_isHeld 26 = .ok (.iinc 6 1, 3) := by decide +kernel
theorem dX7_isHeld_29 : decode cX7_isHeld 29 = .ok (.goto (-23), 3) := by decide +kernel
theorem dX7_isHeld_32 : decode cX7_isHeld 32 = .ok (.aload_n 0, 1) := by decide +kernel
theorem dX7_isHeld_33 : decode cX7_isHeld 33 = .ok (.iload_n 1, 1) := by decide +kernel
theorem dX7_isHeld_34 : decode cX7_isHeld 34 = .ok (.iload_n 2, 1) := by decide +kernel
theorem dX7_isHeld_35 : decode cX7_isHeld 35 = .ok (.invokevirtual 176, 3) := by decide +kernel
theorem dX7_isHeld_38 : decode cX7_isHeld 38 = .ok (.istore 6, 2) := by decide +kernel
theorem dX7_isHeld_40 : decode cX7_isHeld 40 = .ok (.iload 5, 2) := by decide +kernel
theorem dX7_isHeld_42 : decode cX7_isHeld 42 = .ok (.aload_n 0, 1) := by decide +kernel
theorem dX7_isHeld_43 : decode cX7_isHeld 43 = .ok (.getfield 7, 3) := by decide +kernel
theorem dX7_isHeld_46 : decode cX7_isHeld 46 = .ok (.if_icmp .gt 10, 3) := by decide +kernel
theorem dX7_isHeld_49 : decode cX7_isHeld 49 = .ok (.iload 6, 2) := by decide +kernel
theorem dX7_isHeld_51 : decode cX7_isHeld 51 = .ok (.bipush 6, 2) := by decide +kernel
theorem dX7_isHeld_53 : decode cX7_isHeld 53 = .ok (.if_icmp .le 5, 3) := by decide +kernel
theorem dX7_isHeld_56 : decode cX7_isHeld 56 = .ok (.iconst 0, 1) := by decide +kernel
theorem dX7_isHeld_57 : decode cX7_isHeld 57 = .ok (.ireturn, 1) := by decide +kernel
theorem dX7_isHeld_58 : decode cX7_isHeld 58 = .ok (.iconst 0, 1) := by decide +kernel
theorem dX7_isHeld_59 : decode cX7_isHeld 59 = .ok (.istore 7, 2) := by decide +kernel
theorem dX7_isHeld_61 : decode cX7_isHeld 61 = .ok (.iload 7, 2) := by decide +kernel
theorem dX7_isHeld_63 : decode cX7_isHeld 63 = .ok (.iconst 1, 1) := by decide +kernel
theorem dX7_isHeld_64 : decode cX7_isHeld 64 = .ok (.iload 6, 2) := by decide +kernel
theorem dX7_isHeld_66 : decode cX7_isHeld 66 = .ok (.ishl, 1) := by decide +kernel
theorem dX7_isHeld_67 : decode cX7_isHeld 67 = .ok (.if_icmp .ge 38, 3) := by decide +kernel
theorem dX7_isHeld_70 : decode cX7_isHeld 70 = .ok (.aload_n 0, 1) := by decide +kernel
theorem dX7_isHeld_71 : decode cX7_isHeld 71 = .ok (.iload 6, 2) := by decide +kernel
theorem dX7_isHeld_73 : decode cX7_isHeld 73 = .ok (.iload 7, 2) := by decide +kernel
theorem dX7_isHeld_75 : decode cX7_isHeld 75 = .ok (.invokevirtual 179, 3) := by decide +kernel
theorem dX7_isHeld_78 : decode cX7_isHeld 78 = .ok (.aload_n 0, 1) := by decide +kernel
theorem dX7_isHeld_79 : decode cX7_isHeld 79 = .ok (.iconst 0, 1) := by decide +kernel
theorem dX7_isHeld_80 : decode cX7_isHeld 80 = .ok (.iload_n 3, 1) := by decide +kernel
theorem dX7_isHeld_81 : decode cX7_isHeld 81 = .ok (.invokevirtual 183, 3) := by decide +kernel
theorem dX7_isHeld_84 : decode cX7_isHeld 84 = .ok (.ifCond .eq 15, 3) := by decide +kernel
theorem dX7_isHeld_87 : decode cX7_isHeld 87 = .ok (.aload_n 0, 1) := by decide +kernel
theorem dX7_isHeld_88 : decode cX7_isHeld 88 = .ok (.iconst 1, 1) := by decide +kernel
theorem dX7_isHeld_89 : decode cX7_isHeld 89 = .ok (.iload 4, 2) := by decide +kernel
theorem dX7_isHeld_91 : decode cX7_isHeld 91 = .ok (.invokevirtual 183, 3) := by decide +kernel
theorem dX7_isHeld_94 : decode cX7_isHeld 94 = .ok (.ifCond .eq 5, 3) := by decide +kernel
theorem dX7_isHeld_97 : decode cX7_isHeld 97 = .ok (.iconst 1, 1) := by decide +kernel
theorem dX7_isHeld_98 : decode cX7_isHeld 98 = .ok (.ireturn, 1) := by decide +kernel
theorem dX7_isHeld_99 : decode cX7_isHeld 99 = .ok (.iinc 7 1, 3) := by decide +kernel
theorem dX7_isHeld_102 : decode cX7_isHeld 102 = .ok (.goto (-41), 3) := by decide +kernel
theorem dX7_isHeld_105 : decode cX7_isHeld 105 = .ok (.iconst 0, 1) := by decide +kernel
theorem dX7_isHeld_106 : decode cX7_isHeld 106 = .ok (.ireturn, 1) := by decide +kernel
theorem dX7_canStand_0 : decode cX7_canStand 0 = .ok (.aload_n 0, 1) := by decide +kernel
theorem dX7_canStand_1 : decode cX7_canStand 1 = .ok (.iload_n 1, 1) := by decide +kernel
theorem dX7_canStand_2 : decode cX7_canStand 2 = .ok (.invokevirtual 187, 3) := by decide +kernel
theorem dX7_canStand_5 : decode cX7_canStand 5 = .ok (.aload_n 0, 1) := by decide +kernel
theorem dX7_canStand_6 : decode cX7_canStand 6 = .ok (.invokevirtual 191, 3) := by decide +kernel
theorem dX7_canStand_9 : decode cX7_canStand 9 = .ok (.istore_n 3, 1) := by decide +kernel
theorem dX7_canStand_10 : decode cX7_canStand 10 = .ok (.iconst 0, 1) := by decide +kernel
theorem dX7_canStand_11 : decode cX7_canStand 11 = .ok (.istore 4, 2) := by decide +kernel
theorem dX7_canStand_13 : decode cX7_canStand 13 = .ok (.iload 4, 2) := by decide +kernel
theorem dX7_canStand_15 : decode cX7_canStand 15 = .ok (.iload_n 3, 1) := by decide +kernel
theorem dX7_canStand_16 : decode cX7_canStand 16 = .ok (.if_icmp .ge 21, 3) := by decide +kernel
theorem dX7_canStand_19 : decode cX7_canStand 19 = .ok (.aload_n 0, 1) := by decide +kernel
theorem dX7_canStand_20 : decode cX7_canStand 20 = .ok (.iload_n 2, 1) := by decide +kernel
theorem dX7_canStand_21 : decode cX7_canStand 21 = .ok (.iload 4, 2) := by decide +kernel
theorem dX7_canStand_23 : decode cX7_canStand 23 = .ok (.invokevirtual 195, 3) := by decide +kernel
theorem dX7_canStand_26 : decode cX7_canStand 26 = .ok (.ifCond .eq 5, 3) := by decide +kernel
theorem dX7_canStand_29 : decode cX7_canStand 29 = .ok (.iconst 1, 1) := by decide +kernel
theorem dX7_canStand_30 : decode cX7_canStand 30 = .ok (.ireturn, 1) := by decide +kernel
theorem dX7_canStand_31 : decode cX7_canStand 31 = .ok (.iinc 4 1, 3) := by decide +kernel
theorem dX7_canStand_34 : decode cX7_canStand 34 = .ok (.goto (-21), 3) := by decide +kernel
theorem dX7_canStand_37 : decode cX7_canStand 37 = .ok (.iconst 0, 1) := by decide +kernel
theorem dX7_canStand_38 : decode cX7_canStand 38 = .ok (.ireturn, 1) := by decide +kernel
theorem dX7_costs_0 : decode cX7_costs 0 = .ok (.sipush 401, 3) := by decide +kernel
theorem dX7_costs_3 : decode cX7_costs 3 = .ok (.istore_n 3, 1) := by decide +kernel
theorem dX7_costs_4 : decode cX7_costs 4 = .ok (.iconst 0, 1) := by decide +kernel
theorem dX7_costs_5 : decode cX7_costs 5 = .ok (.istore 4, 2) := by decide +kernel
theorem dX7_costs_7 : decode cX7_costs 7 = .ok (.iload 4, 2) := by decide +kernel
theorem dX7_costs_9 : decode cX7_costs 9 = .ok (.iload_n 3, 1) := by decide +kernel
theorem dX7_costs_10 : decode cX7_costs 10 = .ok (.if_icmp .ge 24, 3) := by decide +kernel
theorem dX7_costs_13 : decode cX7_costs 13 = .ok (.aload_n 0, 1) := by decide +kernel
theorem dX7_costs_14 : decode cX7_costs 14 = .ok (.getfield 111, 3) := by decide +kernel
theorem dX7_costs_17 : decode cX7_costs 17 = .ok (.iload_n 3, 1) := by decide +kernel
theorem dX7_costs_18 : decode cX7_costs 18 = .ok (.aload_n 0, 1) := by decide +kernel
theorem dX7_costs_19 : decode cX7_costs 19 = .ok (.getfield 169, 3) := by decide +kernel
theorem dX7_costs_22 : decode cX7_costs 22 = .ok (.imul, 1) := by decide +kernel
theorem dX7_costs_23 : decode cX7_costs 23 = .ok (.iload 4, 2) := by decide +kernel
theorem dX7_costs_25 : decode cX7_costs 25 = .ok (.iadd, 1) := by decide +kernel
theorem dX7_costs_26 : decode cX7_costs 26 = .ok (.lconst 0, 1) := by decide +kernel
theorem dX7_costs_27 : decode cX7_costs 27 = .ok (.lastore, 1) := by decide +kernel
theorem dX7_costs_28 : decode cX7_costs 28 = .ok (.iinc 4 1, 3) := by decide +kernel
theorem dX7_costs_31 : decode cX7_costs 31 = .ok (.goto (-24), 3) := by decide +kernel
theorem dX7_costs_34 : decode cX7_costs 34 = .ok (.aload_n 0, 1) := by decide +kernel
theorem dX7_costs_35 : decode cX7_costs 35 = .ok (.getfield 169, 3) := by decide +kernel
theorem dX7_costs_38 : decode cX7_costs 38 = .ok (.iconst 1, 1) := by decide +kernel
theorem dX7_costs_39 : decode cX7_costs 39 = .ok (.isub, 1) := by decide +kernel
theorem dX7_costs_40 : decode cX7_costs 40 = .ok (.istore 4, 2) := by decide +kernel
theorem dX7_costs_42 : decode cX7_costs 42 = .ok (.iload 4, 2) := by decide +kernel
theorem dX7_costs_44 : decode cX7_costs 44 = .ok (.ifCond .lt 185, 3) := by decide +kernel
theorem dX7_costs_47 : decode cX7_costs 47 = .ok (.aload_n 0, 1) := by decide +kernel
theorem dX7_costs_48 : decode cX7_costs 48 = .ok (.getfield 102, 3) := by decide +kernel
theorem dX7_costs_51 : decode cX7_costs 51 = .ok (.iload 4, 2) := by decide +kernel
theorem dX7_costs_53 : decode cX7_costs 53 = .ok (.iaload, 1) := by decide +kernel
theorem dX7_costs_54 : decode cX7_costs 54 = .ok (.istore 5, 2) := by decide +kernel
theorem dX7_costs_56 : decode cX7_costs 56 = .ok (.aload_n 0, 1) := by decide +kernel
theorem dX7_costs_57 : decode cX7_costs 57 = .ok (.iload 4, 2) := by decide +kernel
theorem dX7_costs_59 : decode cX7_costs 59 = .ok (.iload_n 2, 1) := by decide +kernel
theorem dX7_costs_60 : decode cX7_costs 60 = .ok (.invokevirtual 172, 3) := by decide +kernel
theorem dX7_costs_63 : decode cX7_costs 63 = .ok (.istore 6, 2) := by decide +kernel
theorem dX7_costs_65 : decode cX7_costs 65 = .ok (.ldc2_w 198, 3) := by decide +kernel
theorem dX7_costs_68 : decode cX7_costs 68 = .ok (.lstore 7, 2) := by decide +kernel
theorem dX7_costs_70 : decode cX7_costs 70 = .ok (.sipush 400, 3) := by decide +kernel
theorem dX7_costs_73 : decode cX7_costs 73 = .ok (.istore 9, 2) := by decide +kernel
theorem dX7_costs_75 : decode cX7_costs 75 = .ok (.iload 9, 2) := by decide +kernel
theorem dX7_costs_77 : decode cX7_costs 77 = .ok (.ifCond .lt 146, 3) := by decide +kernel
theorem dX7_costs_80 : decode cX7_costs 80 = .ok (.iload 6, 2) := by decide +kernel
theorem dX7_costs_82 : decode cX7_costs 82 = .ok (.ifCond .lt 121, 3) := by decide +kernel
theorem dX7_costs_85 : decode cX7_costs 85 = .ok (.iload 9, 2) := by decide +kernel
theorem dX7_costs_87 : decode cX7_costs 87 = .ok (.iload 6, 2) := by decide +kernel
theorem dX7_costs_89 : decode cX7_costs 89 = .ok (.iadd, 1) := by decide +kernel
theorem dX7_costs_90 : decode cX7_costs 90 = .ok (.aload_n 0, 1) := by decide +kernel
theorem dX7_costs_91 : decode cX7_costs 91 = .ok (.getfield 7, 3) := by decide +kernel
theorem dX7_costs_94 : decode cX7_costs 94 = .ok (.if_icmp .gt 109, 3) := by decide +kernel
theorem dX7_costs_97 : decode cX7_costs 97 = .ok (.aload_n 0, 1) := by decide +kernel
theorem dX7_costs_98 : decode cX7_costs 98 = .ok (.getfield 50, 3) := by decide +kernel
theorem dX7_costs_101 : decode cX7_costs 101 = .ok (.iload 5, 2) := by decide +kernel
theorem dX7_costs_103 : decode cX7_costs 103 = .ok (.iaload, 1) := by decide +kernel
theorem dX7_costs_104 : decode cX7_costs 104 = .ok (.ifCond .lt 15, 3) := by decide +kernel
theorem dX7_costs_107 : decode cX7_costs 107 = .ok (.aload_n 0, 1) := by decide +kernel
theorem dX7_costs_108 : decode cX7_costs 108 = .ok (.getfield 50, 3) := by decide +kernel
theorem dX7_costs_111 : decode cX7_costs 111 = .ok (.iload 5, 2) := by decide +kernel
theorem dX7_costs_113 : decode cX7_costs 113 = .ok (.iaload, 1) := by decide +kernel
theorem dX7_costs_114 : decode cX7_costs 114 = .ok (.iload 9, 2) := by decide +kernel
theorem dX7_costs_116 : decode cX7_costs 116 = .ok (.if_icmp .ne 87, 3) := by decide +kernel
theorem dX7_costs_119 : decode cX7_costs 119 = .ok (.iload 9, 2) := by decide +kernel
theorem dX7_costs_121 : decode cX7_costs 121 = .ok (.iload 6, 2) := by decide +kernel
theorem dX7_costs_123 : decode cX7_costs 123 = .ok (.iadd, 1) := by decide +kernel
theorem dX7_costs_124 : decode cX7_costs 124 = .ok (.aload_n 0, 1) := by decide +kernel
theorem dX7_costs_125 : decode cX7_costs 125 = .ok (.getfield 13, 3) := by decide +kernel
theorem dX7_costs_128 : decode cX7_costs 128 = .ok (.iadd, 1) := by decide +kernel
theorem dX7_costs_129 : decode cX7_costs 129 = .ok (.istore 10, 2) := by decide +kernel
theorem dX7_costs_131 : decode cX7_costs 131 = .ok (.iload 4, 2) := by decide +kernel
theorem dX7_costs_133 : decode cX7_costs 133 = .ok (.aload_n 0, 1) := by decide +kernel
theorem dX7_costs_134 : decode cX7_costs 134 = .ok (.getfield 169, 3) := by decide +kernel
theorem dX7_costs_137 : decode cX7_costs 137 = .ok (.iconst 1, 1) := by decide +kernel
theorem dX7_costs_138 : decode cX7_costs 138 = .ok (.isub, 1) := by decide +kernel
theorem dX7_costs_139 : decode cX7_costs 139 = .ok (.if_icmp .ne 7, 3) := by decide +kernel
theorem dX7_costs_142 : decode cX7_costs 142 = .ok (.lconst 0, 1) := by decide +kernel
theorem dX7_costs_143 : decode cX7_costs 143 = .ok (.goto 31, 3) := by decide +kernel
theorem dX7_costs_146 : decode cX7_costs 146 = .ok (.iload 10, 2) := by decide +kernel
theorem dX7_costs_148 : decode cX7_costs 148 = .ok (.sipush 400, 3) := by decide +kernel
theorem dX7_costs_151 : decode cX7_costs 151 = .ok (.if_icmp .le 9, 3) := by decide +kernel
theorem dX7_costs_154 : decode cX7_costs 154 = .ok (.ldc2_w 198, 3) := by decide +kernel
theorem dX7_costs_157 : decode cX7_costs 157 = .ok (.goto 17, 3) := by decide +kernel
theorem dX7_costs_160 : decode cX7_costs 160 = .ok (.aload_n 0, 1) := by decide +kernel
theorem dX7_costs_161 : decode cX7_costs 161 = .ok (.getfield 111, 3) := by decide +kernel
theorem dX7_costs_164 : decode cX7_costs 164 = .ok (.iload_n 3, 1) := by decide +kernel
theorem dX7_costs_165 : decode cX7_costs 165 = .ok (.iload 4, 2) := by decide +kernel
theorem dX7_costs_167 : decode cX7_costs 167 = .ok (.iconst 1, 1) := by decide +kernel
theorem dX7_costs_168 : decode cX7_costs 168 = .ok (.iadd, 1) := by decide +kernel
theorem dX7_costs_169 : decode cX7_costs 169 = .ok (.imul, 1) := by decide +kernel
theorem dX7_costs_170 : decode cX7_costs 170 = .ok (.iload 10, 2) := by decide +kernel
theorem dX7_costs_172 : decode cX7_costs 172 = .ok (.iadd, 1) := by decide +kernel
theorem dX7_costs_173 : decode cX7_costs 173 = .ok (.laload, 1) := by decide +kernel
theorem dX7_costs_174 : decode cX7_costs 174 = .ok (.lstore 11, 2) := by decide +kernel
theorem dX7_costs_176 : decode cX7_costs 176 = .ok (.lload 11, 2) := by decide +kernel
theorem dX7_costs_178 : decode cX7_costs 178 = .ok (.ldc2_w 198, 3) := by decide +kernel
theorem dX7_costs_181 : decode cX7_costs 181 = .ok (.lcmp, 1) := by decide +kernel
theorem dX7_costs_182 : decode cX7_costs 182 = .ok (.ifCond .ge 21, 3) := by decide +kernel
theorem dX7_costs_185 : decode cX7_costs 185 = .ok (.lload 7, 2) := by decide +kernel
theorem dX7_costs_187 : decode cX7_costs 187 = .ok (.lload 11, 2) := by decide +kernel
theorem dX7_costs_189 : decode cX7_costs 189 = .ok (.aload_n 0, 1) := by decide +kernel
theorem dX7_costs_190 : decode cX7_costs 190 = .ok (.iload 5, 2) := by decide +kernel
theorem dX7_costs_192 : decode cX7_costs 192 = .ok (.iload 9, 2) := by decide +kernel
theorem dX7_costs_194 : decode cX7_costs 194 = .ok (.invokevirtual 200, 3) := by decide +kernel
theorem dX7_costs_197 : decode cX7_costs 197 = .ok (.ladd, 1) := by decide +kernel
theorem dX7_costs_198 : decode cX7_costs 198 = .ok (.invokestatic 204, 3) := by decide +kernel
theorem dX7_costs_201 : decode cX7_costs 201 = .ok (.lstore 7, 2) := by decide +kernel
theorem dX7_costs_203 : decode cX7_costs 203 = .ok (.aload_n 0, 1) := by decide +kernel
theorem dX7_costs_204 : decode cX7_costs 204 = .ok (.getfield 111, 3) := by decide +kernel
theorem dX7_costs_207 : decode cX7_costs 207 = .ok (.iload_n 3, 1) := by decide +kernel
theorem dX7_costs_208 : decode cX7_costs 208 = .ok (.iload 4, 2) := by decide +kernel
theorem dX7_costs_210 : decode cX7_costs 210 = .ok (.imul, 1) := by decide +kernel
theorem dX7_costs_211 : decode cX7_costs 211 = .ok (.iload 9, 2) := by decide +kernel
theorem dX7_costs_213 : decode cX7_costs 213 = .ok (.iadd, 1) := by decide +kernel
theorem dX7_costs_214 : decode cX7_costs 214 = .ok (.lload 7, 2) := by decide +kernel
theorem dX7_costs_216 : decode cX7_costs 216 = .ok (.lastore, 1) := by decide +kernel
theorem dX7_costs_217 : decode cX7_costs 217 = .ok (.iinc 9 (-1), 3) := by decide +kernel
theorem dX7_costs_220 : decode cX7_costs 220 = .ok (.goto (-145), 3) := by decide +kernel
theorem dX7_costs_223 : decode cX7_costs 223 = .ok (.iinc 4 (-1), 3) := by decide +kernel
theorem dX7_costs_226 : decode cX7_costs 226 = .ok (.goto (-184), 3) := by decide +kernel
theorem dX7_costs_229 : decode cX7_costs 229 = .ok (.iload_n 1, 1) := by decide +kernel
theorem dX7_costs_230 : decode cX7_costs 230 = .ok (.ifCond .le 12, 3) := by decide +kernel
theorem dX7_costs_233 : decode cX7_costs 233 = .ok (.iload_n 1, 1) := by decide +kernel
theorem dX7_costs_234 : decode cX7_costs 234 = .ok (.aload_n 0, 1) := by decide +kernel
theorem dX7_costs_235 : decode cX7_costs 235 = .ok (.getfield 13, 3) := by decide +kernel
theorem dX7_costs_238 : decode cX7_costs 238 = .ok (.iadd, 1) := by decide +kernel
theorem dX7_costs_239 : decode cX7_costs 239 = .ok (.goto 4, 3) := by decide +kernel
theorem dX7_costs_242 : decode cX7_costs 242 = .ok (.iconst 0, 1) := by decide +kernel
theorem dX7_costs_243 : decode cX7_costs 243 = .ok (.istore 4, 2) := by decide +kernel
theorem dX7_costs_245 : decode cX7_costs 245 = .ok (.aload_n 0, 1) := by decide +kernel
theorem dX7_costs_246 : decode cX7_costs 246 = .ok (.getfield 169, 3) := by decide +kernel
theorem dX7_costs_249 : decode cX7_costs 249 = .ok (.ifCond .le 15, 3) := by decide +kernel
theorem dX7_costs_252 : decode cX7_costs 252 = .ok (.iload 4, 2) := by decide +kernel
theorem dX7_costs_254 : decode cX7_costs 254 = .ok (.sipush 400, 3) := by decide +kernel
theorem dX7_costs_257 : decode cX7_costs 257 = .ok (.if_icmp .le 7, 3) := by decide +kernel
theorem dX7_costs_260 : decode cX7_costs 260 = .ok (.ldc2_w 198, 3) := by decide +kernel
theorem dX7_costs_263 : decode cX7_costs 263 = .ok (.lreturn, 1) := by decide +kernel
theorem dX7_costs_264 : decode cX7_costs 264 = .ok (.aload_n 0, 1) := by decide +kernel
theorem dX7_costs_265 : decode cX7_costs 265 = .ok (.getfield 169, 3) := by decide +kernel
theorem dX7_costs_268 : decode cX7_costs 268 = .ok (.ifCond .ne 7, 3) := by decide +kernel
theorem dX7_costs_271 : decode cX7_costs 271 = .ok (.lconst 0, 1) := by decide +kernel
theorem dX7_costs_272 : decode cX7_costs 272 = .ok (.goto 10, 3) := by decide +kernel
theorem dX7_costs_275 : decode cX7_costs 275 = .ok (.aload_n 0, 1) := by decide +kernel
theorem dX7_costs_276 : decode cX7_costs 276 = .ok (.getfield 111, 3) := by decide +kernel
theorem dX7_costs_279 : decode cX7_costs 279 = .ok (.iload 4, 2) := by decide +kernel
theorem dX7_costs_281 : decode cX7_costs 281 = .ok (.laload, 1) := by decide +kernel
theorem dX7_costs_282 : decode cX7_costs 282 = .ok (.lstore 5, 2) := by decide +kernel
theorem dX7_costs_284 : decode cX7_costs 284 = .ok (.lload 5, 2) := by decide +kernel
theorem dX7_costs_286 : decode cX7_costs 286 = .ok (.ldc2_w 198, 3) := by decide +kernel
theorem dX7_costs_289 : decode cX7_costs 289 = .ok (.lcmp, 1) := by decide +kernel
theorem dX7_costs_290 : decode cX7_costs 290 = .ok (.ifCond .lt 9, 3) := by decide +kernel
theorem dX7_costs_293 : decode cX7_costs 293 = .ok (.ldc2_w 198, 3) := by decide +kernel
theorem dX7_costs_296 : decode cX7_costs 296 = .ok (.goto 19, 3) := by decide +kernel
theorem dX7_costs_299 : decode cX7_costs 299 = .ok (.lload 5, 2) := by decide +kernel
theorem dX7_costs_301 : decode cX7_costs 301 = .ok (.iload_n 2, 1) := by decide +kernel
theorem dX7_costs_302 : decode cX7_costs 302 = .ok (.ifCond .le 10, 3) := by decide +kernel
theorem dX7_costs_305 : decode cX7_costs 305 = .ok (.aload_n 0, 1) := by decide +kernel
theorem dX7_costs_306 : decode cX7_costs 306 = .ok (.getfield 16, 3) := by decide +kernel
theorem dX7_costs_309 : decode cX7_costs 309 = .ok (.goto 4, 3) := by decide +kernel
theorem dX7_costs_312 : decode cX7_costs 312 = .ok (.iconst 0, 1) := by decide +kernel
theorem dX7_costs_313 : decode cX7_costs 313 = .ok (.i2l, 1) := by decide +kernel
theorem dX7_costs_314 : decode cX7_costs 314 = .ok (.ladd, 1) := by decide +kernel
theorem dX7_costs_315 : decode cX7_costs 315 = .ok (.lreturn, 1) := by decide +kernel
theorem dX7_own_0 : decode cX7_own 0 = .ok (.aload_n 0, 1) := by decide +kernel
theorem dX7_own_1 : decode cX7_own 1 = .ok (.getfield 50, 3) := by decide +kernel
theorem dX7_own_4 : decode cX7_own 4 = .ok (.iload_n 1, 1) := by decide +kernel
theorem dX7_own_5 : decode cX7_own 5 = .ok (.iaload, 1) := by decide +kernel
theorem dX7_own_6 : decode cX7_own 6 = .ok (.ifCond .lt 7, 3) := by decide +kernel
theorem dX7_own_9 : decode cX7_own 9 = .ok (.lconst 0, 1) := by decide +kernel
theorem dX7_own_10 : decode cX7_own 10 = .ok (.goto 28, 3) := by decide +kernel
theorem dX7_own_13 : decode cX7_own 13 = .ok (.aload_n 0, 1) := by decide +kernel
theorem dX7_own_14 : decode cX7_own 14 = .ok (.getfield 32, 3) := by decide +kernel
theorem dX7_own_17 : decode cX7_own 17 = .ok (.iload_n 1, 1) := by decide +kernel
theorem dX7_own_18 : decode cX7_own 18 = .ok (.iaload, 1) := by decide +kernel
theorem dX7_own_19 : decode cX7_own 19 = .ok (.i2l, 1) := by decide +kernel
theorem dX7_own_20 : decode cX7_own 20 = .ok (.iload_n 2, 1) := by decide +kernel
theorem dX7_own_21 : decode cX7_own 21 = .ok (.aload_n 0, 1) := by decide +kernel
theorem dX7_own_22 : decode cX7_own 22 = .ok (.getfield 72, 3) := by decide +kernel
theorem dX7_own_25 : decode cX7_own 25 = .ok (.aload_n 0, 1) := by decide +kernel
theorem dX7_own_26 : decode cX7_own 26 = .ok (.getfield 26, 3) := by decide +kernel
theorem dX7_own_29 : decode cX7_own 29 = .ok (.iload_n 1, 1) := by decide +kernel
theorem dX7_own_30 : decode cX7_own 30 = .ok (.iaload, 1) := by decide +kernel
theorem dX7_own_31 : decode cX7_own 31 = .ok (.iaload, 1) := by decide +kernel
theorem dX7_own_32 : decode cX7_own 32 = .ok (.isub, 1) := by decide +kernel
theorem dX7_own_33 : decode cX7_own 33 = .ok (.invokestatic 210, 3) := by decide +kernel
theorem dX7_own_36 : decode cX7_own 36 = .ok (.i2l, 1) := by decide +kernel
theorem dX7_own_37 : decode cX7_own 37 = .ok (.lmul, 1) := by decide +kernel
theorem dX7_own_38 : decode cX7_own 38 = .ok (.lreturn, 1) := by decide +kernel
theorem dX7_sets_0 : decode cX7_sets 0 = .ok (.aload_n 0, 1) := by decide +kernel
theorem dX7_sets_1 : decode cX7_sets 1 = .ok (.aload_n 0, 1) := by decide +kernel
theorem dX7_sets_2 : decode cX7_sets 2 = .ok (.getfield 59, 3) := by decide +kernel
theorem dX7_sets_5 : decode cX7_sets 5 = .ok (.iload_n 1, 1) := by decide +kernel
theorem dX7_sets_6 : decode cX7_sets 6 = .ok (.iaload, 1) := by decide +kernel
theorem dX7_sets_7 : decode cX7_sets 7 = .ok (.aload_n 0, 1) := by decide +kernel
theorem dX7_sets_8 : decode cX7_sets 8 = .ok (.getfield 62, 3) := by decide +kernel
theorem dX7_sets_11 : decode cX7_sets 11 = .ok (.iload_n 1, 1) := by decide +kernel
theorem dX7_sets_12 : decode cX7_sets 12 = .ok (.iaload, 1) := by decide +kernel
theorem dX7_sets_13 : decode cX7_sets 13 = .ok (.invokevirtual 176, 3) := by decide +kernel
theorem dX7_sets_16 : decode cX7_sets 16 = .ok (.istore_n 2, 1) := by decide +kernel
theorem dX7_sets_17 : decode cX7_sets 17 = .ok (.ldc2_w 198, 3) := by decide +kernel
theorem dX7_sets_20 : decode cX7_sets 20 = .ok (.lstore_n 3, 1) := by decide +kernel
theorem dX7_sets_21 : decode cX7_sets 21 = .ok (.iconst 0, 1) := by decide +kernel
theorem dX7_sets_22 : decode cX7_sets 22 = .ok (.istore 5, 2) := by decide +kernel
theorem dX7_sets_24 : decode cX7_sets 24 = .ok (.iconst 0, 1) := by decide +kernel
theorem dX7_sets_25 : decode cX7_sets 25 = .ok (.istore 6, 2) := by decide +kernel
theorem dX7_sets_27 : decode cX7_sets 27 = .ok (.iload 6, 2) := by decide +kernel
theorem dX7_sets_29 : decode cX7_sets 29 = .ok (.iconst 1, 1) := by decide +kernel
theorem dX7_sets_30 : decode cX7_sets 30 = .ok (.iload_n 2, 1) := by decide +kernel
theorem dX7_sets_31 : decode cX7_sets 31 = .ok (.ishl, 1) := by decide +kernel
theorem dX7_sets_32 : decode cX7_sets 32 = .ok (.if_icmp .ge 182, 3) := by decide +kernel
theorem dX7_sets_35 : decode cX7_sets 35 = .ok (.aload_n 0, 1) := by decide +kernel
theorem dX7_sets_36 : decode cX7_sets 36 = .ok (.iload_n 2, 1) := by decide +kernel
theorem dX7_sets_37 : decode cX7_sets 37 = .ok (.iload 6, 2) := by decide +kernel
theorem dX7_sets_39 : decode cX7_sets 39 = .ok (.invokevirtual 179, 3) := by decide +kernel
theorem dX7_sets_42 : decode cX7_sets 42 = .ok (.lconst 0, 1) := by decide +kernel
theorem dX7_sets_43 : decode cX7_sets 43 = .ok (.lstore 7, 2) := by decide +kernel
theorem dX7_sets_45 : decode cX7_sets 45 = .ok (.iconst 0, 1) := by decide +kernel
theorem dX7_sets_46 : decode cX7_sets 46 = .ok (.istore 9, 2) := by decide +kernel
theorem dX7_sets_48 : decode cX7_sets 48 = .ok (.iload 9, 2) := by decide +kernel
theorem dX7_sets_50 : decode cX7_sets 50 = .ok (.iconst 2, 1) := by decide +kernel
theorem dX7_sets_51 : decode cX7_sets 51 = .ok (.if_icmp .ge 116, 3) := by decide +kernel
theorem dX7_sets_54 : decode cX7_sets 54 = .ok (.aload_n 0, 1) := by decide +kernel
theorem dX7_sets_55 : decode cX7_sets 55 = .ok (.iload 9, 2) := by decide +kernel
theorem dX7_sets_57 : decode cX7_sets 57 = .ok (.invokevirtual 187, 3) := by decide +kernel
theorem dX7_sets_60 : decode cX7_sets 60 = .ok (.ldc2_w 198, 3) := by decide +kernel
theorem dX7_sets_63 : decode cX7_sets 63 = .ok (.lstore 10, 2) := by decide +kernel
theorem dX7_sets_65 : decode cX7_sets 65 = .ok (.aload_n 0, 1) := by decide +kernel
theorem dX7_sets_66 : decode cX7_sets 66 = .ok (.invokevirtual 191, 3) := by decide +kernel
theorem dX7_sets_69 : decode cX7_sets 69 = .ok (.istore 12, 2) := by decide +kernel
theorem dX7_sets_71 : decode cX7_sets 71 = .ok (.iconst 0, 1) := by decide +kernel
theorem dX7_sets_72 : decode cX7_sets 72 = .ok (.istore 13, 2) := by decide +kernel
theorem dX7_sets_74 : decode cX7_sets 74 = .ok (.iload 13, 2) := by decide +kernel
theorem dX7_sets_76 : decode cX7_sets 76 = .ok (.iload 12, 2) := by decide +kernel
theorem dX7_sets_78 : decode cX7_sets 78 = .ok (.if_icmp .ge 52, 3) := by decide +kernel
theorem dX7_sets_81 : decode cX7_sets 81 = .ok (.aload_n 0, 1) := by decide +kernel
theorem dX7_sets_82 : decode cX7_sets 82 = .ok (.aload_n 0, 1) := by decide +kernel
theorem dX7_sets_83 : decode cX7_sets 83 = .ok (.getfield 65, 3) := by decide +kernel
theorem dX7_sets_86 : decode cX7_sets 86 = .ok (.iconst 2, 1) := by decide +kernel
theorem dX7_sets_87 : decode cX7_sets 87 = .ok (.iload_n 1, 1) := by decide +kernel
theorem dX7_sets_88 : decode cX7_sets 88 = .ok (.imul, 1) := by decide +kernel
theorem dX7_sets_89 : decode cX7_sets 89 = .ok (.iload 9, 2) := by decide +kernel
theorem dX7_sets_91 : decode cX7_sets 91 = .ok (.iadd, 1) := by decide +kernel
theorem dX7_sets_92 : decode cX7_sets 92 = .ok (.iaload, 1) := by decide +kernel
theorem dX7_sets_93 : decode cX7_sets 93 = .ok (.iload 13, 2) := by decide +kernel
theorem dX7_sets_95 : decode cX7_sets 95 = .ok (.invokevirtual 213, 3) := by decide +kernel
theorem dX7_sets_98 : decode cX7_sets 98 = .ok (.lstore 14, 2) := by decide +kernel
theorem dX7_sets_100 : decode cX7_sets 100 = .ok (.lload 14, 2) := by decide +kernel
theorem dX7_sets_102 : decode cX7_sets 102 = .ok (.lload 10, 2) := by decide +kernel
theorem dX7_sets_104 : decode cX7_sets 104 = .ok (.lcmp, 1) := by decide +kernel
theorem dX7_sets_105 : decode cX7_sets 105 = .ok (.ifCond .lt 6, 3) := by decide +kernel
theorem dX7_sets_108 : decode cX7_sets 108 = .ok (.goto 16, 3) := by decide +kernel
theorem dX7_sets_111 : decode cX7_sets 111 = .ok (.lload 14, 2) := by decide +kernel
theorem dX7_sets_113 : decode cX7_sets 113 = .ok (.lstore 10, 2) := by decide +kernel
theorem dX7_sets_115 : decode cX7_sets 115 = .ok (.aload_n 0, 1) := by decide +kernel
theorem dX7_sets_116 : decode cX7_sets 116 = .ok (.getfield 105, 3) := by decide +kernel
theorem dX7_sets_119 : decode cX7_sets 119 = .ok (.iload 9, 2) := by decide +kernel
theorem dX7_sets_121 : decode cX7_sets 121 = .ok (.iload 13, 2) := by decide +kernel
theorem dX7_sets_123 : decode cX7_sets 123 = .ok (.iastore, 1) := by decide +kernel
theorem dX7_sets_124 : decode cX7_sets 124 = .ok (.iinc 13 1, 3) := by decide +kernel
theorem dX7_sets_127 : decode cX7_sets 127 = .ok (.goto (-53), 3) := by decide +kernel
theorem dX7_sets_130 : decode cX7_sets 130 = .ok (.lload 10, 2) := by decide +kernel
theorem dX7_sets_132 : decode cX7_sets 132 = .ok (.ldc2_w 198, 3) := by decide +kernel
theorem dX7_sets_135 : decode cX7_sets 135 = .ok (.lcmp, 1) := by decide +kernel
theorem dX7_sets_136 : decode cX7_sets 136 = .ok (.ifCond .ge 12, 3) := by decide +kernel
theorem dX7_sets_139 : decode cX7_sets 139 = .ok (.lload 7, 2) := by decide +kernel
theorem dX7_sets_141 : decode cX7_sets 141 = .ok (.ldc2_w 198, 3) := by decide +kernel
theorem dX7_sets_144 : decode cX7_sets 144 = .ok (.lcmp, 1) := by decide +kernel
theorem dX7_sets_145 : decode cX7_sets 145 = .ok (.ifCond .lt 9, 3) := by decide +kernel
theorem dX7_sets_148 : decode cX7_sets 148 = .ok (.ldc2_w 198, 3) := by decide +kernel
theorem dX7_sets_151 : decode cX7_sets 151 = .ok (.goto 8, 3) := by decide +kernel
theorem dX7_sets_154 : decode cX7_sets 154 = .ok (.lload 7, 2) := by decide +kernel
theorem dX7_sets_156 : decode cX7_sets 156 = .ok (.lload 10, 2) := by decide +kernel
theorem dX7_sets_158 : decode cX7_sets 158 = .ok (.ladd, 1) := by decide +kernel
theorem dX7_sets_159 : decode cX7_sets 159 = .ok (.lstore 7, 2) := by decide +kernel
theorem dX7_sets_161 : decode cX7_sets 161 = .ok (.iinc 9 1, 3) := by decide +kernel
theorem dX7_sets_164 : decode cX7_sets 164 = .ok (.goto (-116), 3) := by decide +kernel
theorem dX7_sets_167 : decode cX7_sets 167 = .ok (.lload 7, 2) := by decide +kernel
theorem dX7_sets_169 : decode cX7_sets 169 = .ok (.lload_n 3, 1) := by decide +kernel
theorem dX7_sets_170 : decode cX7_sets 170 = .ok (.lcmp, 1) := by decide +kernel
theorem dX7_sets_171 : decode cX7_sets 171 = .ok (.ifCond .lt 6, 3) := by decide +kernel
theorem dX7_sets_174 : decode cX7_sets 174 = .ok (.goto 34, 3) := by decide +kernel
theorem dX7_sets_177 : decode cX7_sets 177 = .ok (.lload 7, 2) := by decide +kernel
theorem dX7_sets_179 : decode cX7_sets 179 = .ok (.lstore_n 3, 1) := by decide +kernel
theorem dX7_sets_180 : decode cX7_sets 180 = .ok (.iload 6, 2) := by decide +kernel
theorem dX7_sets_182 : decode cX7_sets 182 = .ok (.istore 5, 2) := by decide +kernel
theorem dX7_sets_184 : decode cX7_sets 184 = .ok (.aload_n 0, 1) := by decide +kernel
theorem dX7_sets_185 : decode cX7_sets 185 = .ok (.getfield 108, 3) := by decide +kernel
theorem dX7_sets_188 : decode cX7_sets 188 = .ok (.iconst 0, 1) := by decide +kernel
theorem dX7_sets_189 : decode cX7_sets 189 = .ok (.aload_n 0, 1) := by decide +kernel
theorem dX7_sets_190 : decode cX7_sets 190 = .ok (.getfield 105, 3) := by decide +kernel
theorem dX7_sets_193 : decode cX7_sets 193 = .ok (.iconst 0, 1) := by decide +kernel
theorem dX7_sets_194 : decode cX7_sets 194 = .ok (.iaload, 1) := by decide +kernel
theorem dX7_sets_195 : decode cX7_sets 195 = .ok (.iastore, 1) := by decide +kernel
theorem dX7_sets_196 : decode cX7_sets 196 = .ok (.aload_n 0, 1) := by decide +kernel
theorem dX7_sets_197 : decode cX7_sets 197 = .ok (.getfield 108, 3) := by decide +kernel
theorem dX7_sets_200 : decode cX7_sets 200 = .ok (.iconst 1, 1) := by decide +kernel
theorem dX7_sets_201 : decode cX7_sets 201 = .ok (.aload_n 0, 1) := by decide +kernel
theorem dX7_sets_202 : decode cX7_sets 202 = .ok (.getfield 105, 3) := by decide +kernel
theorem dX7_sets_205 : decode cX7_sets 205 = .ok (.iconst 1, 1) := by decide +kernel
theorem dX7_sets_206 : decode cX7_sets 206 = .ok (.iaload, 1) := by decide +kernel
theorem dX7_sets_207 : decode cX7_sets 207 = .ok (.iastore, 1) := by decide +kernel
theorem dX7_sets_208 : decode cX7_sets 208 = .ok (.iinc 6 1, 3) := by decide +kernel
theorem dX7_sets_211 : decode cX7_sets 211 = .ok (.goto (-184), 3) := by decide +kernel
theorem dX7_sets_214 : decode cX7_sets 214 = .ok (.aload_n 0, 1) := by decide +kernel
theorem dX7_sets_215 : decode cX7_sets 215 = .ok (.getfield 68, 3) := by decide +kernel
theorem dX7_sets_218 : decode cX7_sets 218 = .ok (.iload_n 1, 1) := by decide +kernel
theorem dX7_sets_219 : decode cX7_sets 219 = .ok (.lload_n 3, 1) := by decide +kernel
theorem dX7_sets_220 : decode cX7_sets 220 = .ok (.lastore, 1) := by decide +kernel
theorem dX7_sets_221 : decode cX7_sets 221 = .ok (.aload_n 0, 1) := by decide +kernel
theorem dX7_sets_222 : decode cX7_sets 222 = .ok (.iload_n 2, 1) := by decide +kernel
theorem dX7_sets_223 : decode cX7_sets 223 = .ok (.iload 5, 2) := by decide +kernel
theorem dX7_sets_225 : decode cX7_sets 225 = .ok (.invokevirtual 179, 3) := by decide +kernel
theorem dX7_sets_228 : decode cX7_sets 228 = .ok (.iconst 0, 1) := by decide +kernel
theorem dX7_sets_229 : decode cX7_sets 229 = .ok (.istore 6, 2) := by decide +kernel
theorem dX7_sets_231 : decode cX7_sets 231 = .ok (.iload 6, 2) := by decide +kernel
theorem dX7_sets_233 : decode cX7_sets 233 = .ok (.iconst 2, 1) := by decide +kernel
theorem dX7_sets_234 : decode cX7_sets 234 = .ok (.if_icmp .ge 16, 3) := by decide +kernel
theorem dX7_sets_237 : decode cX7_sets 237 = .ok (.aload_n 0, 1) := by decide +kernel
theorem dX7_sets_238 : decode cX7_sets 238 = .ok (.iload_n 1, 1) := by decide +kernel
theorem dX7_sets_239 : decode cX7_sets 239 = .ok (.iload 6, 2) := by decide +kernel
theorem dX7_sets_241 : decode cX7_sets 241 = .ok (.invokevirtual 216, 3) := by decide +kernel
theorem dX7_sets_244 : decode cX7_sets 244 = .ok (.iinc 6 1, 3) := by decide +kernel
theorem dX7_sets_247 : decode cX7_sets 247 = .ok (.goto (-16), 3) := by decide +kernel
theorem dX7_sets_250 : decode cX7_sets 250 = .ok (.return_, 1) := by decide +kernel
theorem dX7_places_0 : decode cX7_places 0 = .ok (.aload_n 0, 1) := by decide +kernel
theorem dX7_places_1 : decode cX7_places 1 = .ok (.iload_n 2, 1) := by decide +kernel
theorem dX7_places_2 : decode cX7_places 2 = .ok (.invokevirtual 187, 3) := by decide +kernel
theorem dX7_places_5 : decode cX7_places 5 = .ok (.aload_n 0, 1) := by decide +kernel
theorem dX7_places_6 : decode cX7_places 6 = .ok (.getfield 108, 3) := by decide +kernel
theorem dX7_places_9 : decode cX7_places 9 = .ok (.iload_n 2, 1) := by decide +kernel
theorem dX7_places_10 : decode cX7_places 10 = .ok (.iaload, 1) := by decide +kernel
theorem dX7_places_11 : decode cX7_places 11 = .ok (.istore_n 3, 1) := by decide +kernel
theorem dX7_places_12 : decode cX7_places 12 = .ok (.aload_n 0, 1) := by decide +kernel
theorem dX7_places_13 : decode cX7_places 13 = .ok (.aload_n 0, 1) := by decide +kernel
theorem dX7_places_14 : decode cX7_places 14 = .ok (.getfield 65, 3) := by decide +kernel
theorem dX7_places_17 : decode cX7_places 17 = .ok (.iconst 2, 1) := by decide +kernel
theorem dX7_places_18 : decode cX7_places 18 = .ok (.iload_n 1, 1) := by decide +kernel
theorem dX7_places_19 : decode cX7_places 19 = .ok (.imul, 1) := by decide +kernel
theorem dX7_places_20 : decode cX7_places 20 = .ok (.iload_n 2, 1) := by decide +kernel
theorem dX7_places_21 : decode cX7_places 21 = .ok (.iadd, 1) := by decide +kernel
theorem dX7_places_22 : decode cX7_places 22 = .ok (.iaload, 1) := by decide +kernel
theorem dX7_places_23 : decode cX7_places 23 = .ok (.iload_n 3, 1) := by decide +kernel
theorem dX7_places_24 : decode cX7_places 24 = .ok (.invokevirtual 213, 3) := by decide +kernel
theorem dX7_places_27 : decode cX7_places 27 = .ok (.pop2, 1) := by decide +kernel
theorem dX7_places_28 : decode cX7_places 28 = .ok (.sipush 401, 3) := by decide +kernel
theorem dX7_places_31 : decode cX7_places 31 = .ok (.istore 4, 2) := by decide +kernel
theorem dX7_places_33 : decode cX7_places 33 = .ok (.aload_n 0, 1) := by decide +kernel
theorem dX7_places_34 : decode cX7_places 34 = .ok (.getfield 65, 3) := by decide +kernel
theorem dX7_places_37 : decode cX7_places 37 = .ok (.iconst 2, 1) := by decide +kernel
theorem dX7_places_38 : decode cX7_places 38 = .ok (.iload_n 1, 1) := by decide +kernel
theorem dX7_places_39 : decode cX7_places 39 = .ok (.imul, 1) := by decide +kernel
theorem dX7_places_40 : decode cX7_places 40 = .ok (.iload_n 2, 1) := by decide +kernel
theorem dX7_places_41 : decode cX7_places 41 = .ok (.iadd, 1) := by decide +kernel
theorem dX7_places_42 : decode cX7_places 42 = .ok (.iaload, 1) := by decide +kernel
theorem dX7_places_43 : decode cX7_places 43 = .ok (.ifCond .le 21, 3) := by decide +kernel
theorem dX7_places_46 : decode cX7_places 46 = .ok (.aload_n 0, 1) := by decide +kernel
theorem dX7_places_47 : decode cX7_places 47 = .ok (.getfield 65, 3) := by decide +kernel
theorem dX7_places_50 : decode cX7_places 50 = .ok (.iconst 2, 1) := by decide +kernel
theorem dX7_places_51 : decode cX7_places 51 = .ok (.iload_n 1, 1) := by decide +kernel
theorem dX7_places_52 : decode cX7_places 52 = .ok (.imul, 1) := by decide +kernel
theorem dX7_places_53 : decode cX7_places 53 = .ok (.iload_n 2, 1) := by decide +kernel
theorem dX7_places_54 : decode cX7_places 54 = .ok (.iadd, 1) := by decide +kernel
theorem dX7_places_55 : decode cX7_places 55 = .ok (.iaload, 1) := by decide +kernel
theorem dX7_places_56 : decode cX7_places 56 = .ok (.aload_n 0, 1) := by decide +kernel
theorem dX7_places_57 : decode cX7_places 57 = .ok (.getfield 13, 3) := by decide +kernel
theorem dX7_places_60 : decode cX7_places 60 = .ok (.iadd, 1) := by decide +kernel
theorem dX7_places_61 : decode cX7_places 61 = .ok (.goto 4, 3) := by decide +kernel
theorem dX7_places_64 : decode cX7_places 64 = .ok (.iconst 0, 1) := by decide +kernel
theorem dX7_places_65 : decode cX7_places 65 = .ok (.istore 5, 2) := by decide +kernel
theorem dX7_places_67 : decode cX7_places 67 = .ok (.aload_n 0, 1) := by decide +kernel
theorem dX7_places_68 : decode cX7_places 68 = .ok (.getfield 65, 3) := by decide +kernel
theorem dX7_places_71 : decode cX7_places 71 = .ok (.iconst 2, 1) := by decide +kernel
theorem dX7_places_72 : decode cX7_places 72 = .ok (.iload_n 1, 1) := by decide +kernel
theorem dX7_places_73 : decode cX7_places 73 = .ok (.imul, 1) := by decide +kernel
theorem dX7_places_74 : decode cX7_places 74 = .ok (.iconst 2, 1) := by decide +kernel
theorem dX7_places_75 : decode cX7_places 75 = .ok (.iadd, 1) := by decide +kernel
theorem dX7_places_76 : decode cX7_places 76 = .ok (.iload_n 2, 1) := by decide +kernel
theorem dX7_places_77 : decode cX7_places 77 = .ok (.iadd, 1) := by decide +kernel
theorem dX7_places_78 : decode cX7_places 78 = .ok (.iconst 0, 1) := by decide +kernel
theorem dX7_places_79 : decode cX7_places 79 = .ok (.iastore, 1) := by decide +kernel
theorem dX7_places_80 : decode cX7_places 80 = .ok (.iconst 0, 1) := by decide +kernel
theorem dX7_places_81 : decode cX7_places 81 = .ok (.istore 6, 2) := by decide +kernel
theorem dX7_places_83 : decode cX7_places 83 = .ok (.iload 6, 2) := by decide +kernel
theorem dX7_places_85 : decode cX7_places 85 = .ok (.aload_n 0, 1) := by decide +kernel
theorem dX7_places_86 : decode cX7_places 86 = .ok (.getfield 169, 3) := by decide +kernel
theorem dX7_places_89 : decode cX7_places 89 = .ok (.if_icmp .ge 163, 3) := by decide +kernel
theorem dX7_places_92 : decode cX7_places 92 = .ok (.aload_n 0, 1) := by decide +kernel
theorem dX7_places_93 : decode cX7_places 93 = .ok (.getfield 102, 3) := by decide +kernel
theorem dX7_places_96 : decode cX7_places 96 = .ok (.iload 6, 2) := by decide +kernel
theorem dX7_places_98 : decode cX7_places 98 = .ok (.iaload, 1) := by decide +kernel
theorem dX7_places_99 : decode cX7_places 99 = .ok (.istore 7, 2) := by decide +kernel
theorem dX7_places_101 : decode cX7_places 101 = .ok (.aload_n 0, 1) := by decide +kernel
theorem dX7_places_102 : decode cX7_places 102 = .ok (.getfield 111, 3) := by decide +kernel
theorem dX7_places_105 : decode cX7_places 105 = .ok (.iload 4, 2) := by decide +kernel
theorem dX7_places_107 : decode cX7_places 107 = .ok (.iload 6, 2) := by decide +kernel
theorem dX7_places_109 : decode cX7_places 109 = .ok (.imul, 1) := by decide +kernel
theorem dX7_places_110 : decode cX7_places 110 = .ok (.iload 5, 2) := by decide +kernel
theorem dX7_places_112 : decode cX7_places 112 = .ok (.iadd, 1) := by decide +kernel
theorem dX7_places_113 : decode cX7_places 113 = .ok (.laload, 1) := by decide +kernel
theorem dX7_places_114 : decode cX7_places 114 = .ok (.lstore 8, 2) := by decide +kernel
theorem dX7_places_116 : decode cX7_places 116 = .ok (.iload 5, 2) := by decide +kernel
theorem dX7_places_118 : decode cX7_places 118 = .ok (.istore 10, 2) := by decide +kernel
theorem dX7_places_120 : decode cX7_places 120 = .ok (.aload_n 0, 1) := by decide +kernel
theorem dX7_places_121 : decode cX7_places 121 = .ok (.iload 6, 2) := by decide +kernel
theorem dX7_places_123 : decode cX7_places 123 = .ok (.iload_n 3, 1) := by decide +kernel
theorem dX7_places_124 : decode cX7_places 124 = .ok (.iload 10, 2) := by decide +kernel
theorem dX7_places_126 : decode cX7_places 126 = .ok (.lload 8, 2) := by decide +kernel
theorem dX7_places_128 : decode cX7_places 128 = .ok (.invokevirtual 219, 3) := by decide +kernel
theorem dX7_places_131 : decode cX7_places 131 = .ok (.ifCond .ne 9, 3) := by decide +kernel
theorem dX7_places_134 : decode cX7_places 134 = .ok (.iinc 10 1, 3) := by decide +kernel
theorem dX7_places_137 : decode cX7_places 137 = .ok (.goto (-17), 3) := by decide +kernel
theorem dX7_places_140 : decode cX7_places 140 = .ok (.aload_n 0, 1) := by decide +kernel
theorem dX7_places_141 : decode cX7_places 141 = .ok (.getfield 78, 3) := by decide +kernel
theorem dX7_places_144 : decode cX7_places 144 = .ok (.iload 7, 2) := by decide +kernel
theorem dX7_places_146 : decode cX7_places 146 = .ok (.iload_n 2, 1) := by decide +kernel
theorem dX7_places_147 : decode cX7_places 147 = .ok (.iastore, 1) := by decide +kernel
theorem dX7_places_148 : decode cX7_places 148 = .ok (.aload_n 0, 1) := by decide +kernel
theorem dX7_places_149 : decode cX7_places 149 = .ok (.getfield 81, 3) := by decide +kernel
theorem dX7_places_152 : decode cX7_places 152 = .ok (.iload 7, 2) := by decide +kernel
theorem dX7_places_154 : decode cX7_places 154 = .ok (.iload 10, 2) := by decide +kernel
theorem dX7_places_156 : decode cX7_places 156 = .ok (.iastore, 1) := by decide +kernel
theorem dX7_places_157 : decode cX7_places 157 = .ok (.aload_n 0, 1) := by decide +kernel
theorem dX7_places_158 : decode cX7_places 158 = .ok (.getfield 84, 3) := by decide +kernel
theorem dX7_places_161 : decode cX7_places 161 = .ok (.iload 7, 2) := by decide +kernel
theorem dX7_places_163 : decode cX7_places 163 = .ok (.aload_n 0, 1) := by decide +kernel
theorem dX7_places_164 : decode cX7_places 164 = .ok (.iload 6, 2) := by decide +kernel
theorem dX7_places_166 : decode cX7_places 166 = .ok (.iload_n 3, 1) := by decide +kernel
theorem dX7_places_167 : decode cX7_places 167 = .ok (.invokevirtual 172, 3) := by decide +kernel
theorem dX7_places_170 : decode cX7_places 170 = .ok (.iastore, 1) := by decide +kernel
theorem dX7_places_171 : decode cX7_places 171 = .ok (.aload_n 0, 1) := by decide +kernel
theorem dX7_places_172 : decode cX7_places 172 = .ok (.getfield 87, 3) := by decide +kernel
theorem dX7_places_175 : decode cX7_places 175 = .ok (.iload 7, 2) := by decide +kernel
theorem dX7_places_177 : decode cX7_places 177 = .ok (.aload_n 0, 1) := by decide +kernel
theorem dX7_places_178 : decode cX7_places 178 = .ok (.iload 7, 2) := by decide +kernel
theorem dX7_places_180 : decode cX7_places 180 = .ok (.invokevirtual 160, 3) := by decide +kernel
theorem dX7_places_183 : decode cX7_places 183 = .ok (.aload_n 0, 1) := by decide +kernel
theorem dX7_places_184 : decode cX7_places 184 = .ok (.getfield 84, 3) := by decide +kernel
theorem dX7_places_187 : decode cX7_places 187 = .ok (.iload 7, 2) := by decide +kernel
theorem dX7_places_189 : decode cX7_places 189 = .ok (.iaload, 1) := by decide +kernel
theorem dX7_places_190 : decode cX7_places 190 = .ok (.isub, 1) := by decide +kernel
theorem dX7_places_191 : decode cX7_places 191 = .ok (.iastore, 1) := by decide +kernel
theorem dX7_places_192 : decode cX7_places 192 = .ok (.aload_n 0, 1) := by decide +kernel
theorem dX7_places_193 : decode cX7_places 193 = .ok (.getfield 90, 3) := by decide +kernel
theorem dX7_places_196 : decode cX7_places 196 = .ok (.iload 7, 2) := by decide +kernel
theorem dX7_places_198 : decode cX7_places 198 = .ok (.iload_n 1, 1) := by decide +kernel
theorem dX7_places_199 : decode cX7_places 199 = .ok (.iastore, 1) := by decide +kernel
theorem dX7_places_200 : decode cX7_places 200 = .ok (.aload_n 0, 1) := by decide +kernel
theorem dX7_places_201 : decode cX7_places 201 = .ok (.getfield 87, 3) := by decide +kernel
theorem dX7_places_204 : decode cX7_places 204 = .ok (.iload 7, 2) := by decide +kernel
theorem dX7_places_206 : decode cX7_places 206 = .ok (.iaload, 1) := by decide +kernel
theorem dX7_places_207 : decode cX7_places 207 = .ok (.ifCond .le 22, 3) := by decide +kernel
theorem dX7_places_210 : decode cX7_places 210 = .ok (.aload_n 0, 1) := by decide +kernel
theorem dX7_places_211 : decode cX7_places 211 = .ok (.getfield 65, 3) := by decide +kernel
theorem dX7_places_214 : decode cX7_places 214 = .ok (.iconst 2, 1) := by decide +kernel
theorem dX7_places_215 : decode cX7_places 215 = .ok (.iload_n 1, 1) := by decide +kernel
theorem dX7_places_216 : decode cX7_places 216 = .ok (.imul, 1) := by decide +kernel
theorem dX7_places_217 : decode cX7_places 217 = .ok (.iconst 2, 1) := by decide +kernel
theorem dX7_places_218 : decode cX7_places 218 = .ok (.iadd, 1) := by decide +kernel
theorem dX7_places_219 : decode cX7_places 219 = .ok (.iload_n 2, 1) := by decide +kernel
theorem dX7_places_220 : decode cX7_places 220 = .ok (.iadd, 1) := by decide +kernel
theorem dX7_places_221 : decode cX7_places 221 = .ok (.aload_n 0, 1) := by decide +kernel
theorem dX7_places_222 : decode cX7_places 222 = .ok (.getfield 87, 3) := by decide +kernel
theorem dX7_places_225 : decode cX7_places 225 = .ok (.iload 7, 2) := by decide +kernel
theorem dX7_places_227 : decode cX7_places 227 = .ok (.iaload, 1) := by decide +kernel
theorem dX7_places_228 : decode cX7_places 228 = .ok (.iastore, 1) := by decide +kernel
theorem dX7_places_229 : decode cX7_places 229 = .ok (.iload 10, 2) := by decide +kernel
theorem dX7_places_231 : decode cX7_places 231 = .ok (.aload_n 0, 1) := by decide +kernel
theorem dX7_places_232 : decode cX7_places 232 = .ok (.getfield 84, 3) := by decide +kernel
theorem dX7_places_235 : decode cX7_places 235 = .ok (.iload 7, 2) := by decide +kernel
theorem dX7_places_237 : decode cX7_places 237 = .ok (.iaload, 1) := by decide +kernel
theorem dX7_places_238 : decode cX7_places 238 = .ok (.iadd, 1) := by decide +kernel
theorem dX7_places_239 : decode cX7_places 239 = .ok (.aload_n 0, 1) := by decide +kernel
theorem dX7_places_240 : decode cX7_places 240 = .ok (.getfield 13, 3) := by decide +kernel
theorem dX7_places_243 : decode cX7_places 243 = .ok (.iadd, 1) := by decide +kernel
theorem dX7_places_244 : decode cX7_places 244 = .ok (.istore 5, 2) := by decide +kernel
theorem dX7_places_246 : decode cX7_places 246 = .ok (.iinc 6 1, 3) := by decide +kernel
theorem dX7_places_249 : decode cX7_places 249 = .ok (.goto (-166), 3) := by decide +kernel
theorem dX7_places_252 : decode cX7_places 252 = .ok (.return_, 1) := by decide +kernel
theorem dX7_isAt_0 : decode cX7_isAt 0 = .ok (.aload_n 0, 1) := by decide +kernel
theorem dX7_isAt_1 : decode cX7_isAt 1 = .ok (.getfield 102, 3) := by decide +kernel
theorem dX7_isAt_4 : decode cX7_isAt 4 = .ok (.iload_n 1, 1) := by decide +kernel
theorem dX7_isAt_5 : decode cX7_isAt 5 = .ok (.iaload, 1) := by decide +kernel
theorem dX7_isAt_6 : decode cX7_isAt 6 = .ok (.istore 6, 2) := by decide +kernel
theorem dX7_isAt_8 : decode cX7_isAt 8 = .ok (.aload_n 0, 1) := by decide +kernel
theorem dX7_isAt_9 : decode cX7_isAt 9 = .ok (.iload_n 1, 1) := by decide +kernel
theorem dX7_isAt_10 : decode cX7_isAt 10 = .ok (.iload_n 2, 1) := by decide +kernel
theorem dX7_isAt_11 : decode cX7_isAt 11 = .ok (.invokevirtual 172, 3) := by decide +kernel
theorem dX7_isAt_14 : decode cX7_isAt 14 = .ok (.istore 7, 2) := by decide +kernel
theorem dX7_isAt_16 : decode cX7_isAt 16 = .ok (.iload_n 3, 1) := by decide +kernel
theorem dX7_isAt_17 : decode cX7_isAt 17 = .ok (.iload 7, 2) := by decide +kernel
theorem dX7_isAt_19 : decode cX7_isAt 19 = .ok (.iadd, 1) := by decide +kernel
theorem dX7_isAt_20 : decode cX7_isAt 20 = .ok (.aload_n 0, 1) := by decide +kernel
theorem dX7_isAt_21 : decode cX7_isAt 21 = .ok (.getfield 7, 3) := by decide +kernel
theorem dX7_isAt_24 : decode cX7_isAt 24 = .ok (.if_icmp .gt 24, 3) := by decide +kernel
theorem dX7_isAt_27 : decode cX7_isAt 27 = .ok (.aload_n 0, 1) := by decide +kernel
end
section
theorem dX7_isAt_28 : decode cX7_isAt 28 = .ok (.getfield 50, 3) := by decide +kernel
theorem dX7_isAt_31 : decode cX7_isAt 31 = .ok (.iload 6, 2) := by decide +kernel
theorem dX7_isAt_33 : decode cX7_isAt 33 = .ok (.iaload, 1) := by decide +kernel
theorem dX7_isAt_34 : decode cX7_isAt 34 = .ok (.ifCond .lt 16, 3) := by decide +kernel
theorem dX7_isAt_37 : decode cX7_isAt 37 = .ok (.aload_n 0, 1) := by decide +kernel
theorem dX7_isAt_38 : decode cX7_isAt 38 = .ok (.getfield 50, 3) := by decide +kernel
theorem dX7_isAt_41 : decode cX7_isAt 41 = .ok (.iload 6, 2) := by decide +kernel
theorem dX7_isAt_43 : decode cX7_isAt 43 = .ok (.iaload, 1) := by decide +kernel
theorem dX7_isAt_44 : decode cX7_isAt 44 = .ok (.iload_n 3, 1) := by decide +kernel
theorem dX7_isAt_45 : decode cX7_isAt 45 = .ok (.if_icmp .eq 5, 3) := by decide +kernel
theorem dX7_isAt_48 : decode cX7_isAt 48 = .ok (.iconst 0, 1) := by decide +kernel
theorem dX7_isAt_49 : decode cX7_isAt 49 = .ok (.ireturn, 1) := by decide +kernel
theorem dX7_isAt_50 : decode cX7_isAt 50 = .ok (.iload_n 3, 1) := by decide +kernel
theorem dX7_isAt_51 : decode cX7_isAt 51 = .ok (.iload 7, 2) := by decide +kernel
theorem dX7_isAt_53 : decode cX7_isAt 53 = .ok (.iadd, 1) := by decide +kernel
theorem dX7_isAt_54 : decode cX7_isAt 54 = .ok (.aload_n 0, 1) := by decide +kernel
theorem dX7_isAt_55 : decode cX7_isAt 55 = .ok (.getfield 13, 3) := by decide +kernel
theorem dX7_isAt_58 : decode cX7_isAt 58 = .ok (.iadd, 1) := by decide +kernel
theorem dX7_isAt_59 : decode cX7_isAt 59 = .ok (.istore 8, 2) := by decide +kernel
theorem dX7_isAt_61 : decode cX7_isAt 61 = .ok (.iload_n 1, 1) := by decide +kernel
theorem dX7_isAt_62 : decode cX7_isAt 62 = .ok (.aload_n 0, 1) := by decide +kernel
theorem dX7_isAt_63 : decode cX7_isAt 63 = .ok (.getfield 169, 3) := by decide +kernel
theorem dX7_isAt_66 : decode cX7_isAt 66 = .ok (.iconst 1, 1) := by decide +kernel
theorem dX7_isAt_67 : decode cX7_isAt 67 = .ok (.isub, 1) := by decide +kernel
theorem dX7_isAt_68 : decode cX7_isAt 68 = .ok (.if_icmp .ne 7, 3) := by decide +kernel
theorem dX7_isAt_71 : decode cX7_isAt 71 = .ok (.lconst 0, 1) := by decide +kernel
theorem dX7_isAt_72 : decode cX7_isAt 72 = .ok (.goto 32, 3) := by decide +kernel
theorem dX7_isAt_75 : decode cX7_isAt 75 = .ok (.iload 8, 2) := by decide +kernel
theorem dX7_isAt_77 : decode cX7_isAt 77 = .ok (.sipush 400, 3) := by decide +kernel
theorem dX7_isAt_80 : decode cX7_isAt 80 = .ok (.if_icmp .le 9, 3) := by decide +kernel
theorem dX7_isAt_83 : decode cX7_isAt 83 = .ok (.ldc2_w 198, 3) := by decide +kernel
theorem dX7_isAt_86 : decode cX7_isAt 86 = .ok (.goto 18, 3) := by decide +kernel
theorem dX7_isAt_89 : decode cX7_isAt 89 = .ok (.aload_n 0, 1) := by decide +kernel
theorem dX7_isAt_90 : decode cX7_isAt 90 = .ok (.getfield 111, 3) := by decide +kernel
theorem dX7_isAt_93 : decode cX7_isAt 93 = .ok (.sipush 401, 3) := by decide +kernel
theorem dX7_isAt_96 : decode cX7_isAt 96 = .ok (.iload_n 1, 1) := by decide +kernel
theorem dX7_isAt_97 : decode cX7_isAt 97 = .ok (.iconst 1, 1) := by decide +kernel
theorem dX7_isAt_98 : decode cX7_isAt 98 = .ok (.iadd, 1) := by decide +kernel
theorem dX7_isAt_99 : decode cX7_isAt 99 = .ok (.imul, 1) := by decide +kernel
theorem dX7_isAt_100 : decode cX7_isAt 100 = .ok (.iload 8, 2) := by decide +kernel
theorem dX7_isAt_102 : decode cX7_isAt 102 = .ok (.iadd, 1) := by decide +kernel
theorem dX7_isAt_103 : decode cX7_isAt 103 = .ok (.laload, 1) := by decide +kernel
theorem dX7_isAt_104 : decode cX7_isAt 104 = .ok (.lstore 9, 2) := by decide +kernel
theorem dX7_isAt_106 : decode cX7_isAt 106 = .ok (.lload 9, 2) := by decide +kernel
theorem dX7_isAt_108 : decode cX7_isAt 108 = .ok (.ldc2_w 198, 3) := by decide +kernel
theorem dX7_isAt_111 : decode cX7_isAt 111 = .ok (.lcmp, 1) := by decide +kernel
theorem dX7_isAt_112 : decode cX7_isAt 112 = .ok (.ifCond .ge 23, 3) := by decide +kernel
theorem dX7_isAt_115 : decode cX7_isAt 115 = .ok (.lload 9, 2) := by decide +kernel
theorem dX7_isAt_117 : decode cX7_isAt 117 = .ok (.aload_n 0, 1) := by decide +kernel
theorem dX7_isAt_118 : decode cX7_isAt 118 = .ok (.iload 6, 2) := by decide +kernel
theorem dX7_isAt_120 : decode cX7_isAt 120 = .ok (.iload_n 3, 1) := by decide +kernel
theorem dX7_isAt_121 : decode cX7_isAt 121 = .ok (.invokevirtual 200, 3) := by decide +kernel
theorem dX7_isAt_124 : decode cX7_isAt 124 = .ok (.ladd, 1) := by decide +kernel
theorem dX7_isAt_125 : decode cX7_isAt 125 = .ok (.lload 4, 2) := by decide +kernel
theorem dX7_isAt_127 : decode cX7_isAt 127 = .ok (.lcmp, 1) := by decide +kernel
theorem dX7_isAt_128 : decode cX7_isAt 128 = .ok (.ifCond .ne 7, 3) := by decide +kernel
theorem dX7_isAt_131 : decode cX7_isAt 131 = .ok (.iconst 1, 1) := by decide +kernel
theorem dX7_isAt_132 : decode cX7_isAt 132 = .ok (.goto 4, 3) := by decide +kernel
theorem dX7_isAt_135 : decode cX7_isAt 135 = .ok (.iconst 0, 1) := by decide +kernel
theorem dX7_isAt_136 : decode cX7_isAt 136 = .ok (.ireturn, 1) := by decide +kernel
theorem dX7_setAll_0 : decode cX7_setAll 0 = .ok (.aload_n 0, 1) := by decide +kernel
theorem dX7_setAll_1 : decode cX7_setAll 1 = .ok (.getfield 129, 3) := by decide +kernel
theorem dX7_setAll_4 : decode cX7_setAll 4 = .ok (.ifCond .eq 4, 3) := by decide +kernel
theorem dX7_setAll_7 : decode cX7_setAll 7 = .ok (.return_, 1) := by decide +kernel
theorem dX7_setAll_8 : decode cX7_setAll 8 = .ok (.aload_n 0, 1) := by decide +kernel
theorem dX7_setAll_9 : decode cX7_setAll 9 = .ok (.iconst 1, 1) := by decide +kernel
theorem dX7_setAll_10 : decode cX7_setAll 10 = .ok (.putfield 129, 3) := by decide +kernel
theorem dX7_setAll_13 : decode cX7_setAll 13 = .ok (.aload_n 0, 1) := by decide +kernel
theorem dX7_setAll_14 : decode cX7_setAll 14 = .ok (.iconst 1, 1) := by decide +kernel
theorem dX7_setAll_15 : decode cX7_setAll 15 = .ok (.putfield 223, 3) := by decide +kernel
theorem dX7_setAll_18 : decode cX7_setAll 18 = .ok (.aload_n 0, 1) := by decide +kernel
theorem dX7_setAll_19 : decode cX7_setAll 19 = .ok (.iconst 0, 1) := by decide +kernel
theorem dX7_setAll_20 : decode cX7_setAll 20 = .ok (.putfield 226, 3) := by decide +kernel
theorem dX7_setAll_23 : decode cX7_setAll 23 = .ok (.iconst 0, 1) := by decide +kernel
theorem dX7_setAll_24 : decode cX7_setAll 24 = .ok (.istore_n 1, 1) := by decide +kernel
theorem dX7_setAll_25 : decode cX7_setAll 25 = .ok (.aload_n 0, 1) := by decide +kernel
theorem dX7_setAll_26 : decode cX7_setAll 26 = .ok (.getfield 65, 3) := by decide +kernel
theorem dX7_setAll_29 : decode cX7_setAll 29 = .ok (.iconst 0, 1) := by decide +kernel
theorem dX7_setAll_30 : decode cX7_setAll 30 = .ok (.iconst 0, 1) := by decide +kernel
theorem dX7_setAll_31 : decode cX7_setAll 31 = .ok (.iastore, 1) := by decide +kernel
theorem dX7_setAll_32 : decode cX7_setAll 32 = .ok (.aload_n 0, 1) := by decide +kernel
theorem dX7_setAll_33 : decode cX7_setAll 33 = .ok (.getfield 65, 3) := by decide +kernel
theorem dX7_setAll_36 : decode cX7_setAll 36 = .ok (.iconst 1, 1) := by decide +kernel
theorem dX7_setAll_37 : decode cX7_setAll 37 = .ok (.iconst 0, 1) := by decide +kernel
theorem dX7_setAll_38 : decode cX7_setAll 38 = .ok (.iastore, 1) := by decide +kernel
theorem dX7_setAll_39 : decode cX7_setAll 39 = .ok (.iload_n 1, 1) := by decide +kernel
theorem dX7_setAll_40 : decode cX7_setAll 40 = .ok (.aload_n 0, 1) := by decide +kernel
theorem dX7_setAll_41 : decode cX7_setAll 41 = .ok (.getfield 133, 3) := by decide +kernel
theorem dX7_setAll_44 : decode cX7_setAll 44 = .ok (.if_icmp .lt 33, 3) := by decide +kernel
theorem dX7_setAll_47 : decode cX7_setAll 47 = .ok (.aload_n 0, 1) := by decide +kernel
theorem dX7_setAll_48 : decode cX7_setAll 48 = .ok (.getfield 65, 3) := by decide +kernel
theorem dX7_setAll_51 : decode cX7_setAll 51 = .ok (.iconst 2, 1) := by decide +kernel
theorem dX7_setAll_52 : decode cX7_setAll 52 = .ok (.aload_n 0, 1) := by decide +kernel
theorem dX7_setAll_53 : decode cX7_setAll 53 = .ok (.getfield 226, 3) := by decide +kernel
theorem dX7_setAll_56 : decode cX7_setAll 56 = .ok (.imul, 1) := by decide +kernel
theorem dX7_setAll_57 : decode cX7_setAll 57 = .ok (.iaload, 1) := by decide +kernel
theorem dX7_setAll_58 : decode cX7_setAll 58 = .ok (.ifCond .gt 19, 3) := by decide +kernel
theorem dX7_setAll_61 : decode cX7_setAll 61 = .ok (.aload_n 0, 1) := by decide +kernel
theorem dX7_setAll_62 : decode cX7_setAll 62 = .ok (.getfield 65, 3) := by decide +kernel
theorem dX7_setAll_65 : decode cX7_setAll 65 = .ok (.iconst 2, 1) := by decide +kernel
theorem dX7_setAll_66 : decode cX7_setAll 66 = .ok (.aload_n 0, 1) := by decide +kernel
theorem dX7_setAll_67 : decode cX7_setAll 67 = .ok (.getfield 226, 3) := by decide +kernel
theorem dX7_setAll_70 : decode cX7_setAll 70 = .ok (.imul, 1) := by decide +kernel
theorem dX7_setAll_71 : decode cX7_setAll 71 = .ok (.iconst 1, 1) := by decide +kernel
theorem dX7_setAll_72 : decode cX7_setAll 72 = .ok (.iadd, 1) := by decide +kernel
theorem dX7_setAll_73 : decode cX7_setAll 73 = .ok (.iaload, 1) := by decide +kernel
theorem dX7_setAll_74 : decode cX7_setAll 74 = .ok (.ifCond .le 202, 3) := by decide +kernel
theorem dX7_setAll_77 : decode cX7_setAll 77 = .ok (.aload_n 0, 1) := by decide +kernel
theorem dX7_setAll_78 : decode cX7_setAll 78 = .ok (.getfield 65, 3) := by decide +kernel
theorem dX7_setAll_81 : decode cX7_setAll 81 = .ok (.iconst 2, 1) := by decide +kernel
theorem dX7_setAll_82 : decode cX7_setAll 82 = .ok (.aload_n 0, 1) := by decide +kernel
theorem dX7_setAll_83 : decode cX7_setAll 83 = .ok (.getfield 226, 3) := by decide +kernel
theorem dX7_setAll_86 : decode cX7_setAll 86 = .ok (.imul, 1) := by decide +kernel
theorem dX7_setAll_87 : decode cX7_setAll 87 = .ok (.iaload, 1) := by decide +kernel
theorem dX7_setAll_88 : decode cX7_setAll 88 = .ok (.istore_n 2, 1) := by decide +kernel
theorem dX7_setAll_89 : decode cX7_setAll 89 = .ok (.aload_n 0, 1) := by decide +kernel
theorem dX7_setAll_90 : decode cX7_setAll 90 = .ok (.getfield 65, 3) := by decide +kernel
theorem dX7_setAll_93 : decode cX7_setAll 93 = .ok (.iconst 2, 1) := by decide +kernel
theorem dX7_setAll_94 : decode cX7_setAll 94 = .ok (.aload_n 0, 1) := by decide +kernel
theorem dX7_setAll_95 : decode cX7_setAll 95 = .ok (.getfield 226, 3) := by decide +kernel
theorem dX7_setAll_98 : decode cX7_setAll 98 = .ok (.imul, 1) := by decide +kernel
theorem dX7_setAll_99 : decode cX7_setAll 99 = .ok (.iconst 1, 1) := by decide +kernel
theorem dX7_setAll_100 : decode cX7_setAll 100 = .ok (.iadd, 1) := by decide +kernel
theorem dX7_setAll_101 : decode cX7_setAll 101 = .ok (.iaload, 1) := by decide +kernel
theorem dX7_setAll_102 : decode cX7_setAll 102 = .ok (.istore_n 3, 1) := by decide +kernel
theorem dX7_setAll_103 : decode cX7_setAll 103 = .ok (.iconst 0, 1) := by decide +kernel
theorem dX7_setAll_104 : decode cX7_setAll 104 = .ok (.istore 4, 2) := by decide +kernel
theorem dX7_setAll_106 : decode cX7_setAll 106 = .ok (.aload_n 0, 1) := by decide +kernel
theorem dX7_setAll_107 : decode cX7_setAll 107 = .ok (.iload_n 1, 1) := by decide +kernel
theorem dX7_setAll_108 : decode cX7_setAll 108 = .ok (.iconst 0, 1) := by decide +kernel
theorem dX7_setAll_109 : decode cX7_setAll 109 = .ok (.iload_n 2, 1) := by decide +kernel
theorem dX7_setAll_110 : decode cX7_setAll 110 = .ok (.iload_n 3, 1) := by decide +kernel
theorem dX7_setAll_111 : decode cX7_setAll 111 = .ok (.invokevirtual 229, 3) := by decide +kernel
theorem dX7_setAll_114 : decode cX7_setAll 114 = .ok (.istore 5, 2) := by decide +kernel
theorem dX7_setAll_116 : decode cX7_setAll 116 = .ok (.iload 5, 2) := by decide +kernel
theorem dX7_setAll_118 : decode cX7_setAll 118 = .ok (.ifCond .eq 34, 3) := by decide +kernel
theorem dX7_setAll_121 : decode cX7_setAll 121 = .ok (.iload_n 1, 1) := by decide +kernel
theorem dX7_setAll_122 : decode cX7_setAll 122 = .ok (.iload 4, 2) := by decide +kernel
theorem dX7_setAll_124 : decode cX7_setAll 124 = .ok (.iadd, 1) := by decide +kernel
theorem dX7_setAll_125 : decode cX7_setAll 125 = .ok (.aload_n 0, 1) := by decide +kernel
theorem dX7_setAll_126 : decode cX7_setAll 126 = .ok (.getfield 133, 3) := by decide +kernel
theorem dX7_setAll_129 : decode cX7_setAll 129 = .ok (.if_icmp .ge 23, 3) := by decide +kernel
theorem dX7_setAll_132 : decode cX7_setAll 132 = .ok (.aload_n 0, 1) := by decide +kernel
theorem dX7_setAll_133 : decode cX7_setAll 133 = .ok (.iload_n 1, 1) := by decide +kernel
theorem dX7_setAll_134 : decode cX7_setAll 134 = .ok (.iload 4, 2) := by decide +kernel
theorem dX7_setAll_136 : decode cX7_setAll 136 = .ok (.iconst 1, 1) := by decide +kernel
theorem dX7_setAll_137 : decode cX7_setAll 137 = .ok (.iadd, 1) := by decide +kernel
theorem dX7_setAll_138 : decode cX7_setAll 138 = .ok (.iload_n 2, 1) := by decide +kernel
theorem dX7_setAll_139 : decode cX7_setAll 139 = .ok (.iload_n 3, 1) := by decide +kernel
theorem dX7_setAll_140 : decode cX7_setAll 140 = .ok (.invokevirtual 229, 3) := by decide +kernel
theorem dX7_setAll_143 : decode cX7_setAll 143 = .ok (.ifCond .eq 9, 3) := by decide +kernel
theorem dX7_setAll_146 : decode cX7_setAll 146 = .ok (.iinc 4 1, 3) := by decide +kernel
theorem dX7_setAll_149 : decode cX7_setAll 149 = .ok (.goto (-33), 3) := by decide +kernel
theorem dX7_setAll_152 : decode cX7_setAll 152 = .ok (.iload 5, 2) := by decide +kernel
theorem dX7_setAll_154 : decode cX7_setAll 154 = .ok (.ifCond .eq 16, 3) := by decide +kernel
theorem dX7_setAll_157 : decode cX7_setAll 157 = .ok (.iload 4, 2) := by decide +kernel
theorem dX7_setAll_159 : decode cX7_setAll 159 = .ok (.ifCond .ne 17, 3) := by decide +kernel
theorem dX7_setAll_162 : decode cX7_setAll 162 = .ok (.iload_n 2, 1) := by decide +kernel
theorem dX7_setAll_163 : decode cX7_setAll 163 = .ok (.ifCond .ne 13, 3) := by decide +kernel
theorem dX7_setAll_166 : decode cX7_setAll 166 = .ok (.iload_n 3, 1) := by decide +kernel
theorem dX7_setAll_167 : decode cX7_setAll 167 = .ok (.ifCond .ne 9, 3) := by decide +kernel
theorem dX7_setAll_170 : decode cX7_setAll 170 = .ok (.aload_n 0, 1) := by decide +kernel
theorem dX7_setAll_171 : decode cX7_setAll 171 = .ok (.iconst 0, 1) := by decide +kernel
theorem dX7_setAll_172 : decode cX7_setAll 172 = .ok (.putfield 223, 3) := by decide +kernel
theorem dX7_setAll_175 : decode cX7_setAll 175 = .ok (.return_, 1) := by decide +kernel
theorem dX7_setAll_176 : decode cX7_setAll 176 = .ok (.aload_n 0, 1) := by decide +kernel
theorem dX7_setAll_177 : decode cX7_setAll 177 = .ok (.getfield 59, 3) := by decide +kernel
theorem dX7_setAll_180 : decode cX7_setAll 180 = .ok (.aload_n 0, 1) := by decide +kernel
theorem dX7_setAll_181 : decode cX7_setAll 181 = .ok (.getfield 226, 3) := by decide +kernel
theorem dX7_setAll_184 : decode cX7_setAll 184 = .ok (.iload_n 1, 1) := by decide +kernel
theorem dX7_setAll_185 : decode cX7_setAll 185 = .ok (.iastore, 1) := by decide +kernel
theorem dX7_setAll_186 : decode cX7_setAll 186 = .ok (.aload_n 0, 1) := by decide +kernel
theorem dX7_setAll_187 : decode cX7_setAll 187 = .ok (.getfield 62, 3) := by decide +kernel
theorem dX7_setAll_190 : decode cX7_setAll 190 = .ok (.aload_n 0, 1) := by decide +kernel
theorem dX7_setAll_191 : decode cX7_setAll 191 = .ok (.getfield 226, 3) := by decide +kernel
theorem dX7_setAll_194 : decode cX7_setAll 194 = .ok (.iload 4, 2) := by decide +kernel
theorem dX7_setAll_196 : decode cX7_setAll 196 = .ok (.iastore, 1) := by decide +kernel
theorem dX7_setAll_197 : decode cX7_setAll 197 = .ok (.iconst 0, 1) := by decide +kernel
theorem dX7_setAll_198 : decode cX7_setAll 198 = .ok (.istore 6, 2) := by decide +kernel
theorem dX7_setAll_200 : decode cX7_setAll 200 = .ok (.iload_n 1, 1) := by decide +kernel
theorem dX7_setAll_201 : decode cX7_setAll 201 = .ok (.istore 7, 2) := by decide +kernel
theorem dX7_setAll_203 : decode cX7_setAll 203 = .ok (.iload 7, 2) := by decide +kernel
theorem dX7_setAll_205 : decode cX7_setAll 205 = .ok (.iload_n 1, 1) := by decide +kernel
theorem dX7_setAll_206 : decode cX7_setAll 206 = .ok (.iload 4, 2) := by decide +kernel
theorem dX7_setAll_208 : decode cX7_setAll 208 = .ok (.iadd, 1) := by decide +kernel
theorem dX7_setAll_209 : decode cX7_setAll 209 = .ok (.if_icmp .ge 41, 3) := by decide +kernel
theorem dX7_setAll_212 : decode cX7_setAll 212 = .ok (.aload_n 0, 1) := by decide +kernel
theorem dX7_setAll_213 : decode cX7_setAll 213 = .ok (.getfield 72, 3) := by decide +kernel
theorem dX7_setAll_216 : decode cX7_setAll 216 = .ok (.iload 7, 2) := by decide +kernel
theorem dX7_setAll_218 : decode cX7_setAll 218 = .ok (.iload 6, 2) := by decide +kernel
theorem dX7_setAll_220 : decode cX7_setAll 220 = .ok (.iastore, 1) := by decide +kernel
theorem dX7_setAll_221 : decode cX7_setAll 221 = .ok (.aload_n 0, 1) := by decide +kernel
theorem dX7_setAll_222 : decode cX7_setAll 222 = .ok (.getfield 75, 3) := by decide +kernel
theorem dX7_setAll_225 : decode cX7_setAll 225 = .ok (.iload 7, 2) := by decide +kernel
theorem dX7_setAll_227 : decode cX7_setAll 227 = .ok (.aload_n 0, 1) := by decide +kernel
theorem dX7_setAll_228 : decode cX7_setAll 228 = .ok (.getfield 226, 3) := by decide +kernel
theorem dX7_setAll_231 : decode cX7_setAll 231 = .ok (.iastore, 1) := by decide +kernel
theorem dX7_setAll_232 : decode cX7_setAll 232 = .ok (.iload 6, 2) := by decide +kernel
theorem dX7_setAll_234 : decode cX7_setAll 234 = .ok (.aload_n 0, 1) := by decide +kernel
theorem dX7_setAll_235 : decode cX7_setAll 235 = .ok (.getfield 22, 3) := by decide +kernel
theorem dX7_setAll_238 : decode cX7_setAll 238 = .ok (.iload 7, 2) := by decide +kernel
theorem dX7_setAll_240 : decode cX7_setAll 240 = .ok (.iaload, 1) := by decide +kernel
theorem dX7_setAll_241 : decode cX7_setAll 241 = .ok (.iadd, 1) := by decide +kernel
theorem dX7_setAll_242 : decode cX7_setAll 242 = .ok (.istore 6, 2) := by decide +kernel
theorem dX7_setAll_244 : decode cX7_setAll 244 = .ok (.iinc 7 1, 3) := by decide +kernel
theorem dX7_setAll_247 : decode cX7_setAll 247 = .ok (.goto (-44), 3) := by decide +kernel
theorem dX7_setAll_250 : decode cX7_setAll 250 = .ok (.aload_n 0, 1) := by decide +kernel
theorem dX7_setAll_251 : decode cX7_setAll 251 = .ok (.aload_n 0, 1) := by decide +kernel
theorem dX7_setAll_252 : decode cX7_setAll 252 = .ok (.getfield 226, 3) := by decide +kernel
theorem dX7_setAll_255 : decode cX7_setAll 255 = .ok (.invokevirtual 233, 3) := by decide +kernel
theorem dX7_setAll_258 : decode cX7_setAll 258 = .ok (.iload_n 1, 1) := by decide +kernel
theorem dX7_setAll_259 : decode cX7_setAll 259 = .ok (.iload 4, 2) := by decide +kernel
theorem dX7_setAll_261 : decode cX7_setAll 261 = .ok (.iadd, 1) := by decide +kernel
theorem dX7_setAll_262 : decode cX7_setAll 262 = .ok (.istore_n 1, 1) := by decide +kernel
theorem dX7_setAll_263 : decode cX7_setAll 263 = .ok (.aload_n 0, 1) := by decide +kernel
theorem dX7_setAll_264 : decode cX7_setAll 264 = .ok (.dup, 1) := by decide +kernel
theorem dX7_setAll_265 : decode cX7_setAll 265 = .ok (.getfield 226, 3) := by decide +kernel
theorem dX7_setAll_268 : decode cX7_setAll 268 = .ok (.iconst 1, 1) := by decide +kernel
theorem dX7_setAll_269 : decode cX7_setAll 269 = .ok (.iadd, 1) := by decide +kernel
theorem dX7_setAll_270 : decode cX7_setAll 270 = .ok (.putfield 226, 3) := by decide +kernel
theorem dX7_setAll_273 : decode cX7_setAll 273 = .ok (.goto (-234), 3) := by decide +kernel
theorem dX7_setAll_276 : decode cX7_setAll 276 = .ok (.return_, 1) := by decide +kernel
theorem dX7_lacks_0 : decode cX7_lacks 0 = .ok (.aload_n 0, 1) := by decide +kernel
theorem dX7_lacks_1 : decode cX7_lacks 1 = .ok (.invokevirtual 236, 3) := by decide +kernel
theorem dX7_lacks_4 : decode cX7_lacks 4 = .ok (.aload_n 0, 1) := by decide +kernel
theorem dX7_lacks_5 : decode cX7_lacks 5 = .ok (.getfield 223, 3) := by decide +kernel
theorem dX7_lacks_8 : decode cX7_lacks 8 = .ok (.ifCond .ne 7, 3) := by decide +kernel
theorem dX7_lacks_11 : decode cX7_lacks 11 = .ok (.iconst 1, 1) := by decide +kernel
theorem dX7_lacks_12 : decode cX7_lacks 12 = .ok (.goto 4, 3) := by decide +kernel
theorem dX7_lacks_15 : decode cX7_lacks 15 = .ok (.iconst 0, 1) := by decide +kernel
theorem dX7_lacks_16 : decode cX7_lacks 16 = .ok (.ireturn, 1) := by decide +kernel
theorem dX7_pages_0 : decode cX7_pages 0 = .ok (.aload_n 0, 1) := by decide +kernel
theorem dX7_pages_1 : decode cX7_pages 1 = .ok (.iconst 0, 1) := by decide +kernel
theorem dX7_pages_2 : decode cX7_pages 2 = .ok (.putfield 123, 3) := by decide +kernel
theorem dX7_pages_5 : decode cX7_pages 5 = .ok (.aload_n 0, 1) := by decide +kernel
theorem dX7_pages_6 : decode cX7_pages 6 = .ok (.iconst 0, 1) := by decide +kernel
theorem dX7_pages_7 : decode cX7_pages 7 = .ok (.putfield 126, 3) := by decide +kernel
theorem dX7_pages_10 : decode cX7_pages 10 = .ok (.aload_n 0, 1) := by decide +kernel
theorem dX7_pages_11 : decode cX7_pages 11 = .ok (.invokevirtual 239, 3) := by decide +kernel
theorem dX7_pages_14 : decode cX7_pages 14 = .ok (.ifCond .eq 12, 3) := by decide +kernel
theorem dX7_pages_17 : decode cX7_pages 17 = .ok (.aload_n 0, 1) := by decide +kernel
theorem dX7_pages_18 : decode cX7_pages 18 = .ok (.bipush 6, 2) := by decide +kernel
theorem dX7_pages_20 : decode cX7_pages 20 = .ok (.invokevirtual 147, 3) := by decide +kernel
theorem dX7_pages_23 : decode cX7_pages 23 = .ok (.goto 7, 3) := by decide +kernel
theorem dX7_pages_26 : decode cX7_pages 26 = .ok (.aload_n 0, 1) := by decide +kernel
theorem dX7_pages_27 : decode cX7_pages 27 = .ok (.getfield 226, 3) := by decide +kernel
theorem dX7_pages_30 : decode cX7_pages 30 = .ok (.ireturn, 1) := by decide +kernel
theorem dX7_pageOf_0 : decode cX7_pageOf 0 = .ok (.aload_n 0, 1) := by decide +kernel
theorem dX7_pageOf_1 : decode cX7_pageOf 1 = .ok (.iconst 0, 1) := by decide +kernel
theorem dX7_pageOf_2 : decode cX7_pageOf 2 = .ok (.putfield 123, 3) := by decide +kernel
theorem dX7_pageOf_5 : decode cX7_pageOf 5 = .ok (.aload_n 0, 1) := by decide +kernel
theorem dX7_pageOf_6 : decode cX7_pageOf 6 = .ok (.iconst 0, 1) := by decide +kernel
theorem dX7_pageOf_7 : decode cX7_pageOf 7 = .ok (.putfield 126, 3) := by decide +kernel
theorem dX7_pageOf_10 : decode cX7_pageOf 10 = .ok (.aload_n 0, 1) := by decide +kernel
theorem dX7_pageOf_11 : decode cX7_pageOf 11 = .ok (.iload_n 1, 1) := by decide +kernel
theorem dX7_pageOf_12 : decode cX7_pageOf 12 = .ok (.invokevirtual 151, 3) := by decide +kernel
theorem dX7_pageOf_15 : decode cX7_pageOf 15 = .ok (.ifCond .ne 9, 3) := by decide +kernel
theorem dX7_pageOf_18 : decode cX7_pageOf 18 = .ok (.aload_n 0, 1) := by decide +kernel
theorem dX7_pageOf_19 : decode cX7_pageOf 19 = .ok (.iconst 1, 1) := by decide +kernel
theorem dX7_pageOf_20 : decode cX7_pageOf 20 = .ok (.invokevirtual 147, 3) := by decide +kernel
theorem dX7_pageOf_23 : decode cX7_pageOf 23 = .ok (.ireturn, 1) := by decide +kernel
theorem dX7_pageOf_24 : decode cX7_pageOf 24 = .ok (.aload_n 0, 1) := by decide +kernel
theorem dX7_pageOf_25 : decode cX7_pageOf 25 = .ok (.invokevirtual 239, 3) := by decide +kernel
theorem dX7_pageOf_28 : decode cX7_pageOf 28 = .ok (.ifCond .eq 12, 3) := by decide +kernel
theorem dX7_pageOf_31 : decode cX7_pageOf 31 = .ok (.aload_n 0, 1) := by decide +kernel
theorem dX7_pageOf_32 : decode cX7_pageOf 32 = .ok (.bipush 6, 2) := by decide +kernel
theorem dX7_pageOf_34 : decode cX7_pageOf 34 = .ok (.invokevirtual 147, 3) := by decide +kernel
theorem dX7_pageOf_37 : decode cX7_pageOf 37 = .ok (.goto 9, 3) := by decide +kernel
theorem dX7_pageOf_40 : decode cX7_pageOf 40 = .ok (.aload_n 0, 1) := by decide +kernel
theorem dX7_pageOf_41 : decode cX7_pageOf 41 = .ok (.getfield 75, 3) := by decide +kernel
theorem dX7_pageOf_44 : decode cX7_pageOf 44 = .ok (.iload_n 1, 1) := by decide +kernel
theorem dX7_pageOf_45 : decode cX7_pageOf 45 = .ok (.iaload, 1) := by decide +kernel
theorem dX7_pageOf_46 : decode cX7_pageOf 46 = .ok (.ireturn, 1) := by decide +kernel
theorem dX7_top_0 : decode cX7_top 0 = .ok (.aload_n 0, 1) := by decide +kernel
theorem dX7_top_1 : decode cX7_top 1 = .ok (.iconst 0, 1) := by decide +kernel
theorem dX7_top_2 : decode cX7_top 2 = .ok (.putfield 123, 3) := by decide +kernel
theorem dX7_top_5 : decode cX7_top 5 = .ok (.aload_n 0, 1) := by decide +kernel
theorem dX7_top_6 : decode cX7_top 6 = .ok (.iconst 0, 1) := by decide +kernel
theorem dX7_top_7 : decode cX7_top 7 = .ok (.putfield 126, 3) := by decide +kernel
theorem dX7_top_10 : decode cX7_top 10 = .ok (.aload_n 0, 1) := by decide +kernel
theorem dX7_top_11 : decode cX7_top 11 = .ok (.iload_n 1, 1) := by decide +kernel
theorem dX7_top_12 : decode cX7_top 12 = .ok (.invokevirtual 151, 3) := by decide +kernel
theorem dX7_top_15 : decode cX7_top 15 = .ok (.ifCond .ne 9, 3) := by decide +kernel
theorem dX7_top_18 : decode cX7_top 18 = .ok (.aload_n 0, 1) := by decide +kernel
theorem dX7_top_19 : decode cX7_top 19 = .ok (.iconst 1, 1) := by decide +kernel
theorem dX7_top_20 : decode cX7_top 20 = .ok (.invokevirtual 147, 3) := by decide +kernel
theorem dX7_top_23 : decode cX7_top 23 = .ok (.ireturn, 1) := by decide +kernel
theorem dX7_top_24 : decode cX7_top 24 = .ok (.aload_n 0, 1) := by decide +kernel
theorem dX7_top_25 : decode cX7_top 25 = .ok (.invokevirtual 239, 3) := by decide +kernel
theorem dX7_top_28 : decode cX7_top 28 = .ok (.ifCond .eq 12, 3) := by decide +kernel
theorem dX7_top_31 : decode cX7_top 31 = .ok (.aload_n 0, 1) := by decide +kernel
theorem dX7_top_32 : decode cX7_top 32 = .ok (.bipush 6, 2) := by decide +kernel
theorem dX7_top_34 : decode cX7_top 34 = .ok (.invokevirtual 147, 3) := by decide +kernel
theorem dX7_top_37 : decode cX7_top 37 = .ok (.goto 9, 3) := by decide +kernel
theorem dX7_top_40 : decode cX7_top 40 = .ok (.aload_n 0, 1) := by decide +kernel
theorem dX7_top_41 : decode cX7_top 41 = .ok (.getfield 72, 3) := by decide +kernel
theorem dX7_top_44 : decode cX7_top 44 = .ok (.iload_n 1, 1) := by decide +kernel
theorem dX7_top_45 : decode cX7_top 45 = .ok (.iaload, 1) := by decide +kernel
theorem dX7_top_46 : decode cX7_top 46 = .ok (.ireturn, 1) := by decide +kernel
theorem dX7_asked_0 : decode cX7_asked 0 = .ok (.aload_n 0, 1) := by decide +kernel
theorem dX7_asked_1 : decode cX7_asked 1 = .ok (.iload_n 1, 1) := by decide +kernel
theorem dX7_asked_2 : decode cX7_asked 2 = .ok (.invokevirtual 154, 3) := by decide +kernel
theorem dX7_asked_5 : decode cX7_asked 5 = .ok (.ifCond .ne 5, 3) := by decide +kernel
theorem dX7_asked_8 : decode cX7_asked 8 = .ok (.iconst 1, 1) := by decide +kernel
theorem dX7_asked_9 : decode cX7_asked 9 = .ok (.ireturn, 1) := by decide +kernel
theorem dX7_asked_10 : decode cX7_asked 10 = .ok (.aload_n 0, 1) := by decide +kernel
theorem dX7_asked_11 : decode cX7_asked 11 = .ok (.iload_n 1, 1) := by decide +kernel
theorem dX7_asked_12 : decode cX7_asked 12 = .ok (.invokevirtual 163, 3) := by decide +kernel
theorem dX7_asked_15 : decode cX7_asked 15 = .ok (.ifCond .ne 5, 3) := by decide +kernel
theorem dX7_asked_18 : decode cX7_asked 18 = .ok (.iconst 5, 1) := by decide +kernel
theorem dX7_asked_19 : decode cX7_asked 19 = .ok (.ireturn, 1) := by decide +kernel
theorem dX7_asked_20 : decode cX7_asked 20 = .ok (.aload_n 0, 1) := by decide +kernel
theorem dX7_asked_21 : decode cX7_asked 21 = .ok (.invokevirtual 239, 3) := by decide +kernel
theorem dX7_asked_24 : decode cX7_asked 24 = .ok (.ifCond .eq 8, 3) := by decide +kernel
theorem dX7_asked_27 : decode cX7_asked 27 = .ok (.bipush 6, 2) := by decide +kernel
theorem dX7_asked_29 : decode cX7_asked 29 = .ok (.goto 4, 3) := by decide +kernel
theorem dX7_asked_32 : decode cX7_asked 32 = .ok (.iconst 0, 1) := by decide +kernel
theorem dX7_asked_33 : decode cX7_asked 33 = .ok (.ireturn, 1) := by decide +kernel
theorem dX7_side_0 : decode cX7_side 0 = .ok (.aload_n 0, 1) := by decide +kernel
theorem dX7_side_1 : decode cX7_side 1 = .ok (.iconst 0, 1) := by decide +kernel
theorem dX7_side_2 : decode cX7_side 2 = .ok (.putfield 123, 3) := by decide +kernel
theorem dX7_side_5 : decode cX7_side 5 = .ok (.aload_n 0, 1) := by decide +kernel
theorem dX7_side_6 : decode cX7_side 6 = .ok (.aload_n 0, 1) := by decide +kernel
theorem dX7_side_7 : decode cX7_side 7 = .ok (.iload_n 1, 1) := by decide +kernel
theorem dX7_side_8 : decode cX7_side 8 = .ok (.invokevirtual 242, 3) := by decide +kernel
theorem dX7_side_11 : decode cX7_side 11 = .ok (.putfield 126, 3) := by decide +kernel
theorem dX7_side_14 : decode cX7_side 14 = .ok (.aload_n 0, 1) := by decide +kernel
theorem dX7_side_15 : decode cX7_side 15 = .ok (.getfield 126, 3) := by decide +kernel
theorem dX7_side_18 : decode cX7_side 18 = .ok (.ifCond .le 7, 3) := by decide +kernel
theorem dX7_side_21 : decode cX7_side 21 = .ok (.iconst (-1), 1) := by decide +kernel
theorem dX7_side_22 : decode cX7_side 22 = .ok (.goto 9, 3) := by decide +kernel
theorem dX7_side_25 : decode cX7_side 25 = .ok (.aload_n 0, 1) := by decide +kernel
theorem dX7_side_26 : decode cX7_side 26 = .ok (.getfield 78, 3) := by decide +kernel
theorem dX7_side_29 : decode cX7_side 29 = .ok (.iload_n 1, 1) := by decide +kernel
theorem dX7_side_30 : decode cX7_side 30 = .ok (.iaload, 1) := by decide +kernel
theorem dX7_side_31 : decode cX7_side 31 = .ok (.ireturn, 1) := by decide +kernel
theorem dX7_place_0 : decode cX7_place 0 = .ok (.aload_n 0, 1) := by decide +kernel
theorem dX7_place_1 : decode cX7_place 1 = .ok (.iconst 0, 1) := by decide +kernel
theorem dX7_place_2 : decode cX7_place 2 = .ok (.putfield 123, 3) := by decide +kernel
theorem dX7_place_5 : decode cX7_place 5 = .ok (.aload_n 0, 1) := by decide +kernel
theorem dX7_place_6 : decode cX7_place 6 = .ok (.aload_n 0, 1) := by decide +kernel
theorem dX7_place_7 : decode cX7_place 7 = .ok (.iload_n 1, 1) := by decide +kernel
theorem dX7_place_8 : decode cX7_place 8 = .ok (.invokevirtual 242, 3) := by decide +kernel
theorem dX7_place_11 : decode cX7_place 11 = .ok (.putfield 126, 3) := by decide +kernel
theorem dX7_place_14 : decode cX7_place 14 = .ok (.aload_n 0, 1) := by decide +kernel
theorem dX7_place_15 : decode cX7_place 15 = .ok (.getfield 126, 3) := by decide +kernel
theorem dX7_place_18 : decode cX7_place 18 = .ok (.ifCond .le 7, 3) := by decide +kernel
theorem dX7_place_21 : decode cX7_place 21 = .ok (.iconst (-1), 1) := by decide +kernel
theorem dX7_place_22 : decode cX7_place 22 = .ok (.goto 9, 3) := by decide +kernel
theorem dX7_place_25 : decode cX7_place 25 = .ok (.aload_n 0, 1) := by decide +kernel
theorem dX7_place_26 : decode cX7_place 26 = .ok (.getfield 81, 3) := by decide +kernel
theorem dX7_place_29 : decode cX7_place 29 = .ok (.iload_n 1, 1) := by decide +kernel
theorem dX7_place_30 : decode cX7_place 30 = .ok (.iaload, 1) := by decide +kernel
theorem dX7_place_31 : decode cX7_place 31 = .ok (.ireturn, 1) := by decide +kernel
theorem dX7_rest_0 : decode cX7_rest 0 = .ok (.aload_n 0, 1) := by decide +kernel
theorem dX7_rest_1 : decode cX7_rest 1 = .ok (.iconst 0, 1) := by decide +kernel
theorem dX7_rest_2 : decode cX7_rest 2 = .ok (.putfield 123, 3) := by decide +kernel
theorem dX7_rest_5 : decode cX7_rest 5 = .ok (.aload_n 0, 1) := by decide +kernel
theorem dX7_rest_6 : decode cX7_rest 6 = .ok (.aload_n 0, 1) := by decide +kernel
theorem dX7_rest_7 : decode cX7_rest 7 = .ok (.iload_n 1, 1) := by decide +kernel
theorem dX7_rest_8 : decode cX7_rest 8 = .ok (.invokevirtual 242, 3) := by decide +kernel
theorem dX7_rest_11 : decode cX7_rest 11 = .ok (.putfield 126, 3) := by decide +kernel
theorem dX7_rest_14 : decode cX7_rest 14 = .ok (.aload_n 0, 1) := by decide +kernel
theorem dX7_rest_15 : decode cX7_rest 15 = .ok (.getfield 126, 3) := by decide +kernel
theorem dX7_rest_18 : decode cX7_rest 18 = .ok (.ifCond .le 7, 3) := by decide +kernel
theorem dX7_rest_21 : decode cX7_rest 21 = .ok (.iconst (-1), 1) := by decide +kernel
theorem dX7_rest_22 : decode cX7_rest 22 = .ok (.goto 9, 3) := by decide +kernel
theorem dX7_rest_25 : decode cX7_rest 25 = .ok (.aload_n 0, 1) := by decide +kernel
theorem dX7_rest_26 : decode cX7_rest 26 = .ok (.getfield 87, 3) := by decide +kernel
theorem dX7_rest_29 : decode cX7_rest 29 = .ok (.iload_n 1, 1) := by decide +kernel
theorem dX7_rest_30 : decode cX7_rest 30 = .ok (.iaload, 1) := by decide +kernel
theorem dX7_rest_31 : decode cX7_rest 31 = .ok (.ireturn, 1) := by decide +kernel
theorem dX7_brackets_0 : decode cX7_brackets 0 = .ok (.iconst 0, 1) := by decide +kernel
theorem dX7_brackets_1 : decode cX7_brackets 1 = .ok (.istore_n 2, 1) := by decide +kernel
theorem dX7_brackets_2 : decode cX7_brackets 2 = .ok (.iload_n 2, 1) := by decide +kernel
theorem dX7_brackets_3 : decode cX7_brackets 3 = .ok (.aload_n 0, 1) := by decide +kernel
theorem dX7_brackets_4 : decode cX7_brackets 4 = .ok (.getfield 136, 3) := by decide +kernel
theorem dX7_brackets_7 : decode cX7_brackets 7 = .ok (.if_icmp .ge 16, 3) := by decide +kernel
theorem dX7_brackets_10 : decode cX7_brackets 10 = .ok (.aload_n 0, 1) := by decide +kernel
theorem dX7_brackets_11 : decode cX7_brackets 11 = .ok (.getfield 114, 3) := by decide +kernel
theorem dX7_brackets_14 : decode cX7_brackets 14 = .ok (.iload_n 2, 1) := by decide +kernel
theorem dX7_brackets_15 : decode cX7_brackets 15 = .ok (.iconst (-1), 1) := by decide +kernel
theorem dX7_brackets_16 : decode cX7_brackets 16 = .ok (.iastore, 1) := by decide +kernel
theorem dX7_brackets_17 : decode cX7_brackets 17 = .ok (.iinc 2 1, 3) := by decide +kernel
theorem dX7_brackets_20 : decode cX7_brackets 20 = .ok (.goto (-18), 3) := by decide +kernel
theorem dX7_brackets_23 : decode cX7_brackets 23 = .ok (.aload_n 0, 1) := by decide +kernel
theorem dX7_brackets_24 : decode cX7_brackets 24 = .ok (.getfield 59, 3) := by decide +kernel
theorem dX7_brackets_27 : decode cX7_brackets 27 = .ok (.iload_n 1, 1) := by decide +kernel
theorem dX7_brackets_28 : decode cX7_brackets 28 = .ok (.iaload, 1) := by decide +kernel
theorem dX7_brackets_29 : decode cX7_brackets 29 = .ok (.istore_n 2, 1) := by decide +kernel
theorem dX7_brackets_30 : decode cX7_brackets 30 = .ok (.aload_n 0, 1) := by decide +kernel
theorem dX7_brackets_31 : decode cX7_brackets 31 = .ok (.getfield 59, 3) := by decide +kernel
theorem dX7_brackets_34 : decode cX7_brackets 34 = .ok (.iload_n 1, 1) := by decide +kernel
theorem dX7_brackets_35 : decode cX7_brackets 35 = .ok (.iaload, 1) := by decide +kernel
theorem dX7_brackets_36 : decode cX7_brackets 36 = .ok (.aload_n 0, 1) := by decide +kernel
theorem dX7_brackets_37 : decode cX7_brackets 37 = .ok (.getfield 62, 3) := by decide +kernel
theorem dX7_brackets_40 : decode cX7_brackets 40 = .ok (.iload_n 1, 1) := by decide +kernel
theorem dX7_brackets_41 : decode cX7_brackets 41 = .ok (.iaload, 1) := by decide +kernel
theorem dX7_brackets_42 : decode cX7_brackets 42 = .ok (.iadd, 1) := by decide +kernel
theorem dX7_brackets_43 : decode cX7_brackets 43 = .ok (.iconst 1, 1) := by decide +kernel
theorem dX7_brackets_44 : decode cX7_brackets 44 = .ok (.isub, 1) := by decide +kernel
theorem dX7_brackets_45 : decode cX7_brackets 45 = .ok (.istore_n 3, 1) := by decide +kernel
theorem dX7_brackets_46 : decode cX7_brackets 46 = .ok (.iconst 0, 1) := by decide +kernel
theorem dX7_brackets_47 : decode cX7_brackets 47 = .ok (.istore 4, 2) := by decide +kernel
theorem dX7_brackets_49 : decode cX7_brackets 49 = .ok (.iload 4, 2) := by decide +kernel
theorem dX7_brackets_51 : decode cX7_brackets 51 = .ok (.aload_n 0, 1) := by decide +kernel
theorem dX7_brackets_52 : decode cX7_brackets 52 = .ok (.getfield 133, 3) := by decide +kernel
theorem dX7_brackets_55 : decode cX7_brackets 55 = .ok (.if_icmp .ge 173, 3) := by decide +kernel
theorem dX7_brackets_58 : decode cX7_brackets 58 = .ok (.iconst 0, 1) := by decide +kernel
theorem dX7_brackets_59 : decode cX7_brackets 59 = .ok (.istore 5, 2) := by decide +kernel
theorem dX7_brackets_61 : decode cX7_brackets 61 = .ok (.iload 5, 2) := by decide +kernel
theorem dX7_brackets_63 : decode cX7_brackets 63 = .ok (.aload_n 0, 1) := by decide +kernel
theorem dX7_brackets_64 : decode cX7_brackets 64 = .ok (.getfield 136, 3) := by decide +kernel
theorem dX7_brackets_67 : decode cX7_brackets 67 = .ok (.if_icmp .ge 155, 3) := by decide +kernel
theorem dX7_brackets_70 : decode cX7_brackets 70 = .ok (.aload_n 0, 1) := by decide +kernel
theorem dX7_brackets_71 : decode cX7_brackets 71 = .ok (.getfield 26, 3) := by decide +kernel
theorem dX7_brackets_74 : decode cX7_brackets 74 = .ok (.iload 5, 2) := by decide +kernel
theorem dX7_brackets_76 : decode cX7_brackets 76 = .ok (.iaload, 1) := by decide +kernel
theorem dX7_brackets_77 : decode cX7_brackets 77 = .ok (.iload 4, 2) := by decide +kernel
theorem dX7_brackets_79 : decode cX7_brackets 79 = .ok (.if_icmp .ne 137, 3) := by decide +kernel
theorem dX7_brackets_82 : decode cX7_brackets 82 = .ok (.aload_n 0, 1) := by decide +kernel
theorem dX7_brackets_83 : decode cX7_brackets 83 = .ok (.getfield 53, 3) := by decide +kernel
theorem dX7_brackets_86 : decode cX7_brackets 86 = .ok (.iload 5, 2) := by decide +kernel
theorem dX7_brackets_88 : decode cX7_brackets 88 = .ok (.iaload, 1) := by decide +kernel
theorem dX7_brackets_89 : decode cX7_brackets 89 = .ok (.ifCond .lt 127, 3) := by decide +kernel
theorem dX7_brackets_92 : decode cX7_brackets 92 = .ok (.aload_n 0, 1) := by decide +kernel
theorem dX7_brackets_93 : decode cX7_brackets 93 = .ok (.getfield 157, 3) := by decide +kernel
theorem dX7_brackets_96 : decode cX7_brackets 96 = .ok (.ifCond .ne 15, 3) := by decide +kernel
theorem dX7_brackets_99 : decode cX7_brackets 99 = .ok (.aload_n 0, 1) := by decide +kernel
theorem dX7_brackets_100 : decode cX7_brackets 100 = .ok (.iload 5, 2) := by decide +kernel
theorem dX7_brackets_102 : decode cX7_brackets 102 = .ok (.invokevirtual 163, 3) := by decide +kernel
theorem dX7_brackets_105 : decode cX7_brackets 105 = .ok (.ifCond .ne 6, 3) := by decide +kernel
theorem dX7_brackets_108 : decode cX7_brackets 108 = .ok (.goto 108, 3) := by decide +kernel
theorem dX7_brackets_111 : decode cX7_brackets 111 = .ok (.iload_n 2, 1) := by decide +kernel
theorem dX7_brackets_112 : decode cX7_brackets 112 = .ok (.aload_n 0, 1) := by decide +kernel
theorem dX7_brackets_113 : decode cX7_brackets 113 = .ok (.getfield 26, 3) := by decide +kernel
theorem dX7_brackets_116 : decode cX7_brackets 116 = .ok (.iload 5, 2) := by decide +kernel
theorem dX7_brackets_118 : decode cX7_brackets 118 = .ok (.iaload, 1) := by decide +kernel
theorem dX7_brackets_119 : decode cX7_brackets 119 = .ok (.invokestatic 245, 3) := by decide +kernel
theorem dX7_brackets_122 : decode cX7_brackets 122 = .ok (.istore 6, 2) := by decide +kernel
theorem dX7_brackets_124 : decode cX7_brackets 124 = .ok (.iload_n 3, 1) := by decide +kernel
theorem dX7_brackets_125 : decode cX7_brackets 125 = .ok (.aload_n 0, 1) := by decide +kernel
theorem dX7_brackets_126 : decode cX7_brackets 126 = .ok (.getfield 53, 3) := by decide +kernel
theorem dX7_brackets_129 : decode cX7_brackets 129 = .ok (.iload 5, 2) := by decide +kernel
theorem dX7_brackets_131 : decode cX7_brackets 131 = .ok (.iaload, 1) := by decide +kernel
theorem dX7_brackets_132 : decode cX7_brackets 132 = .ok (.invokestatic 248, 3) := by decide +kernel
theorem dX7_brackets_135 : decode cX7_brackets 135 = .ok (.istore 7, 2) := by decide +kernel
theorem dX7_brackets_137 : decode cX7_brackets 137 = .ok (.iload 6, 2) := by decide +kernel
theorem dX7_brackets_139 : decode cX7_brackets 139 = .ok (.iload 7, 2) := by decide +kernel
theorem dX7_brackets_141 : decode cX7_brackets 141 = .ok (.if_icmp .le 6, 3) := by decide +kernel
theorem dX7_brackets_144 : decode cX7_brackets 144 = .ok (.goto 72, 3) := by decide +kernel
theorem dX7_brackets_147 : decode cX7_brackets 147 = .ok (.aload_n 0, 1) := by decide +kernel
theorem dX7_brackets_148 : decode cX7_brackets 148 = .ok (.getfield 114, 3) := by decide +kernel
theorem dX7_brackets_151 : decode cX7_brackets 151 = .ok (.iload 5, 2) := by decide +kernel
theorem dX7_brackets_153 : decode cX7_brackets 153 = .ok (.aload_n 0, 1) := by decide +kernel
theorem dX7_brackets_154 : decode cX7_brackets 154 = .ok (.getfield 72, 3) := by decide +kernel
theorem dX7_brackets_157 : decode cX7_brackets 157 = .ok (.iload 6, 2) := by decide +kernel
theorem dX7_brackets_159 : decode cX7_brackets 159 = .ok (.iaload, 1) := by decide +kernel
theorem dX7_brackets_160 : decode cX7_brackets 160 = .ok (.iastore, 1) := by decide +kernel
theorem dX7_brackets_161 : decode cX7_brackets 161 = .ok (.aload_n 0, 1) := by decide +kernel
theorem dX7_brackets_162 : decode cX7_brackets 162 = .ok (.getfield 117, 3) := by decide +kernel
theorem dX7_brackets_165 : decode cX7_brackets 165 = .ok (.iload 5, 2) := by decide +kernel
theorem dX7_brackets_167 : decode cX7_brackets 167 = .ok (.aload_n 0, 1) := by decide +kernel
theorem dX7_brackets_168 : decode cX7_brackets 168 = .ok (.getfield 72, 3) := by decide +kernel
theorem dX7_brackets_171 : decode cX7_brackets 171 = .ok (.iload 7, 2) := by decide +kernel
theorem dX7_brackets_173 : decode cX7_brackets 173 = .ok (.iaload, 1) := by decide +kernel
theorem dX7_brackets_174 : decode cX7_brackets 174 = .ok (.aload_n 0, 1) := by decide +kernel
theorem dX7_brackets_175 : decode cX7_brackets 175 = .ok (.getfield 22, 3) := by decide +kernel
theorem dX7_brackets_178 : decode cX7_brackets 178 = .ok (.iload 7, 2) := by decide +kernel
theorem dX7_brackets_180 : decode cX7_brackets 180 = .ok (.iaload, 1) := by decide +kernel
theorem dX7_brackets_181 : decode cX7_brackets 181 = .ok (.iadd, 1) := by decide +kernel
theorem dX7_brackets_182 : decode cX7_brackets 182 = .ok (.iastore, 1) := by decide +kernel
theorem dX7_brackets_183 : decode cX7_brackets 183 = .ok (.aload_n 0, 1) := by decide +kernel
theorem dX7_brackets_184 : decode cX7_brackets 184 = .ok (.getfield 120, 3) := by decide +kernel
theorem dX7_brackets_187 : decode cX7_brackets 187 = .ok (.iload 5, 2) := by decide +kernel
theorem dX7_brackets_189 : decode cX7_brackets 189 = .ok (.iconst 0, 1) := by decide +kernel
theorem dX7_brackets_190 : decode cX7_brackets 190 = .ok (.iastore, 1) := by decide +kernel
theorem dX7_brackets_191 : decode cX7_brackets 191 = .ok (.aload_n 0, 1) := by decide +kernel
theorem dX7_brackets_192 : decode cX7_brackets 192 = .ok (.iload 5, 2) := by decide +kernel
theorem dX7_brackets_194 : decode cX7_brackets 194 = .ok (.iload 4, 2) := by decide +kernel
theorem dX7_brackets_196 : decode cX7_brackets 196 = .ok (.invokevirtual 250, 3) := by decide +kernel
theorem dX7_brackets_199 : decode cX7_brackets 199 = .ok (.ifCond .eq 17, 3) := by decide +kernel
theorem dX7_brackets_202 : decode cX7_brackets 202 = .ok (.aload_n 0, 1) := by decide +kernel
theorem dX7_brackets_203 : decode cX7_brackets 203 = .ok (.getfield 120, 3) := by decide +kernel
theorem dX7_brackets_206 : decode cX7_brackets 206 = .ok (.iload 5, 2) := by decide +kernel
theorem dX7_brackets_208 : decode cX7_brackets 208 = .ok (.dup2, 1) := by decide +kernel
theorem dX7_brackets_209 : decode cX7_brackets 209 = .ok (.iaload, 1) := by decide +kernel
theorem dX7_brackets_210 : decode cX7_brackets 210 = .ok (.iconst 1, 1) := by decide +kernel
theorem dX7_brackets_211 : decode cX7_brackets 211 = .ok (.iadd, 1) := by decide +kernel
theorem dX7_brackets_212 : decode cX7_brackets 212 = .ok (.iastore, 1) := by decide +kernel
theorem dX7_brackets_213 : decode cX7_brackets 213 = .ok (.goto (-22), 3) := by decide +kernel
theorem dX7_brackets_216 : decode cX7_brackets 216 = .ok (.iinc 5 1, 3) := by decide +kernel
theorem dX7_brackets_219 : decode cX7_brackets 219 = .ok (.goto (-158), 3) := by decide +kernel
theorem dX7_brackets_222 : decode cX7_brackets 222 = .ok (.iinc 4 1, 3) := by decide +kernel
theorem dX7_brackets_225 : decode cX7_brackets 225 = .ok (.goto (-176), 3) := by decide +kernel
theorem dX7_brackets_228 : decode cX7_brackets 228 = .ok (.return_, 1) := by decide +kernel
theorem dX7_isMet_0 : decode cX7_isMet 0 = .ok (.iconst 0, 1) := by decide +kernel
theorem dX7_isMet_1 : decode cX7_isMet 1 = .ok (.istore_n 3, 1) := by decide +kernel
theorem dX7_isMet_2 : decode cX7_isMet 2 = .ok (.iload_n 3, 1) := by decide +kernel
theorem dX7_isMet_3 : decode cX7_isMet 3 = .ok (.aload_n 0, 1) := by decide +kernel
theorem dX7_isMet_4 : decode cX7_isMet 4 = .ok (.getfield 136, 3) := by decide +kernel
theorem dX7_isMet_7 : decode cX7_isMet 7 = .ok (.if_icmp .ge 117, 3) := by decide +kernel
theorem dX7_isMet_10 : decode cX7_isMet 10 = .ok (.aload_n 0, 1) := by decide +kernel
theorem dX7_isMet_11 : decode cX7_isMet 11 = .ok (.getfield 26, 3) := by decide +kernel
theorem dX7_isMet_14 : decode cX7_isMet 14 = .ok (.iload_n 3, 1) := by decide +kernel
theorem dX7_isMet_15 : decode cX7_isMet 15 = .ok (.iaload, 1) := by decide +kernel
theorem dX7_isMet_16 : decode cX7_isMet 16 = .ok (.iload_n 2, 1) := by decide +kernel
theorem dX7_isMet_17 : decode cX7_isMet 17 = .ok (.if_icmp .lt 18, 3) := by decide +kernel
theorem dX7_isMet_20 : decode cX7_isMet 20 = .ok (.aload_n 0, 1) := by decide +kernel
theorem dX7_isMet_21 : decode cX7_isMet 21 = .ok (.getfield 26, 3) := by decide +kernel
theorem dX7_isMet_24 : decode cX7_isMet 24 = .ok (.iload_n 3, 1) := by decide +kernel
theorem dX7_isMet_25 : decode cX7_isMet 25 = .ok (.iaload, 1) := by decide +kernel
theorem dX7_isMet_26 : decode cX7_isMet 26 = .ok (.iload_n 2, 1) := by decide +kernel
theorem dX7_isMet_27 : decode cX7_isMet 27 = .ok (.if_icmp .ne 12, 3) := by decide +kernel
theorem dX7_isMet_30 : decode cX7_isMet 30 = .ok (.iload_n 3, 1) := by decide +kernel
theorem dX7_isMet_31 : decode cX7_isMet 31 = .ok (.iload_n 1, 1) := by decide +kernel
theorem dX7_isMet_32 : decode cX7_isMet 32 = .ok (.if_icmp .ge 7, 3) := by decide +kernel
theorem dX7_isMet_35 : decode cX7_isMet 35 = .ok (.iconst 1, 1) := by decide +kernel
theorem dX7_isMet_36 : decode cX7_isMet 36 = .ok (.goto 4, 3) := by decide +kernel
theorem dX7_isMet_39 : decode cX7_isMet 39 = .ok (.iconst 0, 1) := by decide +kernel
theorem dX7_isMet_40 : decode cX7_isMet 40 = .ok (.istore 4, 2) := by decide +kernel
theorem dX7_isMet_42 : decode cX7_isMet 42 = .ok (.iload 4, 2) := by decide +kernel
theorem dX7_isMet_44 : decode cX7_isMet 44 = .ok (.ifCond .eq 74, 3) := by decide +kernel
theorem dX7_isMet_47 : decode cX7_isMet 47 = .ok (.aload_n 0, 1) := by decide +kernel
theorem dX7_isMet_48 : decode cX7_isMet 48 = .ok (.getfield 114, 3) := by decide +kernel
theorem dX7_isMet_51 : decode cX7_isMet 51 = .ok (.iload_n 3, 1) := by decide +kernel
theorem dX7_isMet_52 : decode cX7_isMet 52 = .ok (.iaload, 1) := by decide +kernel
theorem dX7_isMet_53 : decode cX7_isMet 53 = .ok (.ifCond .lt 65, 3) := by decide +kernel
theorem dX7_isMet_56 : decode cX7_isMet 56 = .ok (.aload_n 0, 1) := by decide +kernel
theorem dX7_isMet_57 : decode cX7_isMet 57 = .ok (.getfield 78, 3) := by decide +kernel
theorem dX7_isMet_60 : decode cX7_isMet 60 = .ok (.iload_n 3, 1) := by decide +kernel
theorem dX7_isMet_61 : decode cX7_isMet 61 = .ok (.iaload, 1) := by decide +kernel
theorem dX7_isMet_62 : decode cX7_isMet 62 = .ok (.aload_n 0, 1) := by decide +kernel
theorem dX7_isMet_63 : decode cX7_isMet 63 = .ok (.getfield 78, 3) := by decide +kernel
theorem dX7_isMet_66 : decode cX7_isMet 66 = .ok (.iload_n 1, 1) := by decide +kernel
theorem dX7_isMet_67 : decode cX7_isMet 67 = .ok (.iaload, 1) := by decide +kernel
theorem dX7_isMet_68 : decode cX7_isMet 68 = .ok (.if_icmp .ne 50, 3) := by decide +kernel
theorem dX7_isMet_71 : decode cX7_isMet 71 = .ok (.aload_n 0, 1) := by decide +kernel
theorem dX7_isMet_72 : decode cX7_isMet 72 = .ok (.getfield 120, 3) := by decide +kernel
theorem dX7_isMet_75 : decode cX7_isMet 75 = .ok (.iload_n 3, 1) := by decide +kernel
theorem dX7_isMet_76 : decode cX7_isMet 76 = .ok (.iaload, 1) := by decide +kernel
theorem dX7_isMet_77 : decode cX7_isMet 77 = .ok (.aload_n 0, 1) := by decide +kernel
theorem dX7_isMet_78 : decode cX7_isMet 78 = .ok (.getfield 120, 3) := by decide +kernel
theorem dX7_isMet_81 : decode cX7_isMet 81 = .ok (.iload_n 1, 1) := by decide +kernel
theorem dX7_isMet_82 : decode cX7_isMet 82 = .ok (.iaload, 1) := by decide +kernel
theorem dX7_isMet_83 : decode cX7_isMet 83 = .ok (.if_icmp .ne 35, 3) := by decide +kernel
theorem dX7_isMet_86 : decode cX7_isMet 86 = .ok (.aload_n 0, 1) := by decide +kernel
theorem dX7_isMet_87 : decode cX7_isMet 87 = .ok (.getfield 114, 3) := by decide +kernel
theorem dX7_isMet_90 : decode cX7_isMet 90 = .ok (.iload_n 3, 1) := by decide +kernel
theorem dX7_isMet_91 : decode cX7_isMet 91 = .ok (.iaload, 1) := by decide +kernel
theorem dX7_isMet_92 : decode cX7_isMet 92 = .ok (.aload_n 0, 1) := by decide +kernel
theorem dX7_isMet_93 : decode cX7_isMet 93 = .ok (.getfield 117, 3) := by decide +kernel
theorem dX7_isMet_96 : decode cX7_isMet 96 = .ok (.iload_n 1, 1) := by decide +kernel
theorem dX7_isMet_97 : decode cX7_isMet 97 = .ok (.iaload, 1) := by decide +kernel
theorem dX7_isMet_98 : decode cX7_isMet 98 = .ok (.if_icmp .ge 20, 3) := by decide +kernel
theorem dX7_isMet_101 : decode cX7_isMet 101 = .ok (.aload_n 0, 1) := by decide +kernel
theorem dX7_isMet_102 : decode cX7_isMet 102 = .ok (.getfield 114, 3) := by decide +kernel
theorem dX7_isMet_105 : decode cX7_isMet 105 = .ok (.iload_n 1, 1) := by decide +kernel
theorem dX7_isMet_106 : decode cX7_isMet 106 = .ok (.iaload, 1) := by decide +kernel
theorem dX7_isMet_107 : decode cX7_isMet 107 = .ok (.aload_n 0, 1) := by decide +kernel
theorem dX7_isMet_108 : decode cX7_isMet 108 = .ok (.getfield 117, 3) := by decide +kernel
theorem dX7_isMet_111 : decode cX7_isMet 111 = .ok (.iload_n 3, 1) := by decide +kernel
theorem dX7_isMet_112 : decode cX7_isMet 112 = .ok (.iaload, 1) := by decide +kernel
theorem dX7_isMet_113 : decode cX7_isMet 113 = .ok (.if_icmp .ge 5, 3) := by decide +kernel
theorem dX7_isMet_116 : decode cX7_isMet 116 = .ok (.iconst 1, 1) := by decide +kernel
theorem dX7_isMet_117 : decode cX7_isMet 117 = .ok (.ireturn, 1) := by decide +kernel
theorem dX7_isMet_118 : decode cX7_isMet 118 = .ok (.iinc 3 1, 3) := by decide +kernel
theorem dX7_isMet_121 : decode cX7_isMet 121 = .ok (.goto (-119), 3) := by decide +kernel
theorem dX7_isMet_124 : decode cX7_isMet 124 = .ok (.iconst 0, 1) := by decide +kernel
theorem dX7_isMet_125 : decode cX7_isMet 125 = .ok (.ireturn, 1) := by decide +kernel
theorem dX7_bracketed_0 : decode cX7_bracketed 0 = .ok (.aload_n 0, 1) := by decide +kernel
theorem dX7_bracketed_1 : decode cX7_bracketed 1 = .ok (.iload_n 1, 1) := by decide +kernel
theorem dX7_bracketed_2 : decode cX7_bracketed 2 = .ok (.invokevirtual 242, 3) := by decide +kernel
theorem dX7_bracketed_5 : decode cX7_bracketed 5 = .ok (.istore_n 3, 1) := by decide +kernel
theorem dX7_bracketed_6 : decode cX7_bracketed 6 = .ok (.iload_n 3, 1) := by decide +kernel
theorem dX7_bracketed_7 : decode cX7_bracketed 7 = .ok (.ifCond .le 5, 3) := by decide +kernel
theorem dX7_bracketed_10 : decode cX7_bracketed 10 = .ok (.iload_n 3, 1) := by decide +kernel
theorem dX7_bracketed_11 : decode cX7_bracketed 11 = .ok (.ireturn, 1) := by decide +kernel
theorem dX7_bracketed_12 : decode cX7_bracketed 12 = .ok (.iload_n 2, 1) := by decide +kernel
theorem dX7_bracketed_13 : decode cX7_bracketed 13 = .ok (.ifCond .lt 11, 3) := by decide +kernel
theorem dX7_bracketed_16 : decode cX7_bracketed 16 = .ok (.iload_n 2, 1) := by decide +kernel
theorem dX7_bracketed_17 : decode cX7_bracketed 17 = .ok (.aload_n 0, 1) := by decide +kernel
theorem dX7_bracketed_18 : decode cX7_bracketed 18 = .ok (.getfield 226, 3) := by decide +kernel
theorem dX7_bracketed_21 : decode cX7_bracketed 21 = .ok (.if_icmp .lt 5, 3) := by decide +kernel
theorem dX7_bracketed_24 : decode cX7_bracketed 24 = .ok (.iconst 1, 1) := by decide +kernel
theorem dX7_bracketed_25 : decode cX7_bracketed 25 = .ok (.ireturn, 1) := by decide +kernel
theorem dX7_bracketed_26 : decode cX7_bracketed 26 = .ok (.aload_n 0, 1) := by decide +kernel
theorem dX7_bracketed_27 : decode cX7_bracketed 27 = .ok (.iload_n 2, 1) := by decide +kernel
theorem dX7_bracketed_28 : decode cX7_bracketed 28 = .ok (.invokevirtual 253, 3) := by decide +kernel
theorem dX7_bracketed_31 : decode cX7_bracketed 31 = .ok (.aload_n 0, 1) := by decide +kernel
theorem dX7_bracketed_32 : decode cX7_bracketed 32 = .ok (.getfield 114, 3) := by decide +kernel
theorem dX7_bracketed_35 : decode cX7_bracketed 35 = .ok (.iload_n 1, 1) := by decide +kernel
theorem dX7_bracketed_36 : decode cX7_bracketed 36 = .ok (.iaload, 1) := by decide +kernel
theorem dX7_bracketed_37 : decode cX7_bracketed 37 = .ok (.ifCond .ge 8, 3) := by decide +kernel
theorem dX7_bracketed_40 : decode cX7_bracketed 40 = .ok (.bipush 8, 2) := by decide +kernel
theorem dX7_bracketed_42 : decode cX7_bracketed 42 = .ok (.goto 4, 3) := by decide +kernel
theorem dX7_bracketed_45 : decode cX7_bracketed 45 = .ok (.iconst 0, 1) := by decide +kernel
theorem dX7_bracketed_46 : decode cX7_bracketed 46 = .ok (.ireturn, 1) := by decide +kernel
theorem dX7_column_0 : decode cX7_column 0 = .ok (.aload_n 0, 1) := by decide +kernel
theorem dX7_column_1 : decode cX7_column 1 = .ok (.iconst 0, 1) := by decide +kernel
theorem dX7_column_2 : decode cX7_column 2 = .ok (.putfield 123, 3) := by decide +kernel
theorem dX7_column_5 : decode cX7_column 5 = .ok (.aload_n 0, 1) := by decide +kernel
theorem dX7_column_6 : decode cX7_column 6 = .ok (.aload_n 0, 1) := by decide +kernel
theorem dX7_column_7 : decode cX7_column 7 = .ok (.iload_n 1, 1) := by decide +kernel
theorem dX7_column_8 : decode cX7_column 8 = .ok (.iload_n 2, 1) := by decide +kernel
theorem dX7_column_9 : decode cX7_column 9 = .ok (.invokevirtual 256, 3) := by decide +kernel
theorem dX7_column_12 : decode cX7_column 12 = .ok (.putfield 126, 3) := by decide +kernel
theorem dX7_column_15 : decode cX7_column 15 = .ok (.aload_n 0, 1) := by decide +kernel
theorem dX7_column_16 : decode cX7_column 16 = .ok (.getfield 126, 3) := by decide +kernel
theorem dX7_column_19 : decode cX7_column 19 = .ok (.ifCond .le 7, 3) := by decide +kernel
theorem dX7_column_22 : decode cX7_column 22 = .ok (.iconst (-1), 1) := by decide +kernel
theorem dX7_column_23 : decode cX7_column 23 = .ok (.goto 9, 3) := by decide +kernel
theorem dX7_column_26 : decode cX7_column 26 = .ok (.aload_n 0, 1) := by decide +kernel
theorem dX7_column_27 : decode cX7_column 27 = .ok (.getfield 120, 3) := by decide +kernel
theorem dX7_column_30 : decode cX7_column 30 = .ok (.iload_n 1, 1) := by decide +kernel
theorem dX7_column_31 : decode cX7_column 31 = .ok (.iaload, 1) := by decide +kernel
theorem dX7_column_32 : decode cX7_column 32 = .ok (.ireturn, 1) := by decide +kernel
theorem dX7_bracket_0 : decode cX7_bracket 0 = .ok (.aload_n 0, 1) := by decide +kernel
theorem dX7_bracket_1 : decode cX7_bracket 1 = .ok (.iconst 0, 1) := by decide +kernel
theorem dX7_bracket_2 : decode cX7_bracket 2 = .ok (.putfield 123, 3) := by decide +kernel
theorem dX7_bracket_5 : decode cX7_bracket 5 = .ok (.aload_n 0, 1) := by decide +kernel
theorem dX7_bracket_6 : decode cX7_bracket 6 = .ok (.aload_n 0, 1) := by decide +kernel
theorem dX7_bracket_7 : decode cX7_bracket 7 = .ok (.iload_n 1, 1) := by decide +kernel
theorem dX7_bracket_8 : decode cX7_bracket 8 = .ok (.iload_n 2, 1) := by decide +kernel
theorem dX7_bracket_9 : decode cX7_bracket 9 = .ok (.invokevirtual 256, 3) := by decide +kernel
theorem dX7_bracket_12 : decode cX7_bracket 12 = .ok (.putfield 126, 3) := by decide +kernel
theorem dX7_bracket_15 : decode cX7_bracket 15 = .ok (.aload_n 0, 1) := by decide +kernel
theorem dX7_bracket_16 : decode cX7_bracket 16 = .ok (.getfield 126, 3) := by decide +kernel
theorem dX7_bracket_19 : decode cX7_bracket 19 = .ok (.ifCond .le 7, 3) := by decide +kernel
theorem dX7_bracket_22 : decode cX7_bracket 22 = .ok (.iconst (-1), 1) := by decide +kernel
theorem dX7_bracket_23 : decode cX7_bracket 23 = .ok (.goto 22, 3) := by decide +kernel
theorem dX7_bracket_26 : decode cX7_bracket 26 = .ok (.iload_n 3, 1) := by decide +kernel
theorem dX7_bracket_27 : decode cX7_bracket 27 = .ok (.ifCond .eq 12, 3) := by decide +kernel
theorem dX7_bracket_30 : decode cX7_bracket 30 = .ok (.aload_n 0, 1) := by decide +kernel
theorem dX7_bracket_31 : decode cX7_bracket 31 = .ok (.getfield 117, 3) := by decide +kernel
theorem dX7_bracket_34 : decode cX7_bracket 34 = .ok (.iload_n 1, 1) := by decide +kernel
theorem dX7_bracket_35 : decode cX7_bracket 35 = .ok (.iaload, 1) := by decide +kernel
theorem dX7_bracket_36 : decode cX7_bracket 36 = .ok (.goto 9, 3) := by decide +kernel
theorem dX7_bracket_39 : decode cX7_bracket 39 = .ok (.aload_n 0, 1) := by decide +kernel
theorem dX7_bracket_40 : decode cX7_bracket 40 = .ok (.getfield 114, 3) := by decide +kernel
theorem dX7_bracket_43 : decode cX7_bracket 43 = .ok (.iload_n 1, 1) := by decide +kernel
theorem dX7_bracket_44 : decode cX7_bracket 44 = .ok (.iaload, 1) := by decide +kernel
theorem dX7_bracket_45 : decode cX7_bracket 45 = .ok (.ireturn, 1) := by decide +kernel
theorem dX7_cost_0 : decode cX7_cost 0 = .ok (.aload_n 0, 1) := by decide +kernel
theorem dX7_cost_1 : decode cX7_cost 1 = .ok (.iconst 0, 1) := by decide +kernel
theorem dX7_cost_2 : decode cX7_cost 2 = .ok (.putfield 123, 3) := by decide +kernel
theorem dX7_cost_5 : decode cX7_cost 5 = .ok (.aload_n 0, 1) := by decide +kernel
theorem dX7_cost_6 : decode cX7_cost 6 = .ok (.iconst 0, 1) := by decide +kernel
theorem dX7_cost_7 : decode cX7_cost 7 = .ok (.putfield 126, 3) := by decide +kernel
theorem dX7_cost_10 : decode cX7_cost 10 = .ok (.aload_n 0, 1) := by decide +kernel
theorem dX7_cost_11 : decode cX7_cost 11 = .ok (.invokevirtual 239, 3) := by decide +kernel
theorem dX7_cost_14 : decode cX7_cost 14 = .ok (.ifCond .eq 10, 3) := by decide +kernel
theorem dX7_cost_17 : decode cX7_cost 17 = .ok (.aload_n 0, 1) := by decide +kernel
theorem dX7_cost_18 : decode cX7_cost 18 = .ok (.bipush 6, 2) := by decide +kernel
theorem dX7_cost_20 : decode cX7_cost 20 = .ok (.invokevirtual 147, 3) := by decide +kernel
theorem dX7_cost_23 : decode cX7_cost 23 = .ok (.ireturn, 1) := by decide +kernel
theorem dX7_cost_24 : decode cX7_cost 24 = .ok (.iload_n 1, 1) := by decide +kernel
theorem dX7_cost_25 : decode cX7_cost 25 = .ok (.ifCond .lt 11, 3) := by decide +kernel
theorem dX7_cost_28 : decode cX7_cost 28 = .ok (.iload_n 1, 1) := by decide +kernel
theorem dX7_cost_29 : decode cX7_cost 29 = .ok (.aload_n 0, 1) := by decide +kernel
theorem dX7_cost_30 : decode cX7_cost 30 = .ok (.getfield 226, 3) := by decide +kernel
theorem dX7_cost_33 : decode cX7_cost 33 = .ok (.if_icmp .lt 11, 3) := by decide +kernel
theorem dX7_cost_36 : decode cX7_cost 36 = .ok (.aload_n 0, 1) := by decide +kernel
theorem dX7_cost_37 : decode cX7_cost 37 = .ok (.iconst 1, 1) := by decide +kernel
theorem dX7_cost_38 : decode cX7_cost 38 = .ok (.invokevirtual 147, 3) := by decide +kernel
theorem dX7_cost_41 : decode cX7_cost 41 = .ok (.goto 10, 3) := by decide +kernel
theorem dX7_cost_44 : decode cX7_cost 44 = .ok (.aload_n 0, 1) := by decide +kernel
theorem dX7_cost_45 : decode cX7_cost 45 = .ok (.getfield 68, 3) := by decide +kernel
theorem dX7_cost_48 : decode cX7_cost 48 = .ok (.iload_n 1, 1) := by decide +kernel
theorem dX7_cost_49 : decode cX7_cost 49 = .ok (.laload, 1) := by decide +kernel
theorem dX7_cost_50 : decode cX7_cost 50 = .ok (.l2i, 1) := by decide +kernel
theorem dX7_cost_51 : decode cX7_cost 51 = .ok (.ireturn, 1) := by decide +kernel
theorem dX7_runs_0 : decode cX7_runs 0 = .ok (.aload_n 0, 1) := by decide +kernel
theorem dX7_runs_1 : decode cX7_runs 1 = .ok (.iconst 0, 1) := by decide +kernel
theorem dX7_runs_2 : decode cX7_runs 2 = .ok (.putfield 123, 3) := by decide +kernel
theorem dX7_runs_5 : decode cX7_runs 5 = .ok (.aload_n 0, 1) := by decide +kernel
theorem dX7_runs_6 : decode cX7_runs 6 = .ok (.iconst 0, 1) := by decide +kernel
theorem dX7_runs_7 : decode cX7_runs 7 = .ok (.putfield 126, 3) := by decide +kernel
theorem dX7_runs_10 : decode cX7_runs 10 = .ok (.iload_n 2, 1) := by decide +kernel
theorem dX7_runs_11 : decode cX7_runs 11 = .ok (.ifCond .lt 8, 3) := by decide +kernel
theorem dX7_runs_14 : decode cX7_runs 14 = .ok (.iload_n 2, 1) := by decide +kernel
theorem dX7_runs_15 : decode cX7_runs 15 = .ok (.iconst 1, 1) := by decide +kernel
theorem dX7_runs_16 : decode cX7_runs 16 = .ok (.if_icmp .le 9, 3) := by decide +kernel
theorem dX7_runs_19 : decode cX7_runs 19 = .ok (.aload_n 0, 1) := by decide +kernel
theorem dX7_runs_20 : decode cX7_runs 20 = .ok (.iconst 2, 1) := by decide +kernel
theorem dX7_runs_21 : decode cX7_runs 21 = .ok (.invokevirtual 147, 3) := by decide +kernel
theorem dX7_runs_24 : decode cX7_runs 24 = .ok (.ireturn, 1) := by decide +kernel
theorem dX7_runs_25 : decode cX7_runs 25 = .ok (.aload_n 0, 1) := by decide +kernel
theorem dX7_runs_26 : decode cX7_runs 26 = .ok (.invokevirtual 239, 3) := by decide +kernel
theorem dX7_runs_29 : decode cX7_runs 29 = .ok (.ifCond .eq 10, 3) := by decide +kernel
theorem dX7_runs_32 : decode cX7_runs 32 = .ok (.aload_n 0, 1) := by decide +kernel
theorem dX7_runs_33 : decode cX7_runs 33 = .ok (.bipush 6, 2) := by decide +kernel
theorem dX7_runs_35 : decode cX7_runs 35 = .ok (.invokevirtual 147, 3) := by decide +kernel
theorem dX7_runs_38 : decode cX7_runs 38 = .ok (.ireturn, 1) := by decide +kernel
theorem dX7_runs_39 : decode cX7_runs 39 = .ok (.iload_n 1, 1) := by decide +kernel
theorem dX7_runs_40 : decode cX7_runs 40 = .ok (.ifCond .lt 11, 3) := by decide +kernel
theorem dX7_runs_43 : decode cX7_runs 43 = .ok (.iload_n 1, 1) := by decide +kernel
theorem dX7_runs_44 : decode cX7_runs 44 = .ok (.aload_n 0, 1) := by decide +kernel
theorem dX7_runs_45 : decode cX7_runs 45 = .ok (.getfield 226, 3) := by decide +kernel
theorem dX7_runs_48 : decode cX7_runs 48 = .ok (.if_icmp .lt 9, 3) := by decide +kernel
theorem dX7_runs_51 : decode cX7_runs 51 = .ok (.aload_n 0, 1) := by decide +kernel
theorem dX7_runs_52 : decode cX7_runs 52 = .ok (.iconst 1, 1) := by decide +kernel
theorem dX7_runs_53 : decode cX7_runs 53 = .ok (.invokevirtual 147, 3) := by decide +kernel
theorem dX7_runs_56 : decode cX7_runs 56 = .ok (.ireturn, 1) := by decide +kernel
theorem dX7_runs_57 : decode cX7_runs 57 = .ok (.aload_n 0, 1) := by decide +kernel
theorem dX7_runs_58 : decode cX7_runs 58 = .ok (.getfield 65, 3) := by decide +kernel
theorem dX7_runs_61 : decode cX7_runs 61 = .ok (.iconst 2, 1) := by decide +kernel
theorem dX7_runs_62 : decode cX7_runs 62 = .ok (.iload_n 1, 1) := by decide +kernel
theorem dX7_runs_63 : decode cX7_runs 63 = .ok (.imul, 1) := by decide +kernel
theorem dX7_runs_64 : decode cX7_runs 64 = .ok (.iload_n 2, 1) := by decide +kernel
theorem dX7_runs_65 : decode cX7_runs 65 = .ok (.iadd, 1) := by decide +kernel
theorem dX7_runs_66 : decode cX7_runs 66 = .ok (.iaload, 1) := by decide +kernel
theorem dX7_runs_67 : decode cX7_runs 67 = .ok (.ifCond .le 7, 3) := by decide +kernel
theorem dX7_runs_70 : decode cX7_runs 70 = .ok (.iconst 1, 1) := by decide +kernel
theorem dX7_runs_71 : decode cX7_runs 71 = .ok (.goto 4, 3) := by decide +kernel
theorem dX7_runs_74 : decode cX7_runs 74 = .ok (.iconst 0, 1) := by decide +kernel
theorem dX7_runs_75 : decode cX7_runs 75 = .ok (.istore_n 3, 1) := by decide +kernel
theorem dX7_runs_76 : decode cX7_runs 76 = .ok (.iload_n 3, 1) := by decide +kernel
theorem dX7_runs_77 : decode cX7_runs 77 = .ok (.ifCond .le 21, 3) := by decide +kernel
theorem dX7_runs_80 : decode cX7_runs 80 = .ok (.aload_n 0, 1) := by decide +kernel
theorem dX7_runs_81 : decode cX7_runs 81 = .ok (.getfield 65, 3) := by decide +kernel
theorem dX7_runs_84 : decode cX7_runs 84 = .ok (.iconst 2, 1) := by decide +kernel
theorem dX7_runs_85 : decode cX7_runs 85 = .ok (.iload_n 1, 1) := by decide +kernel
theorem dX7_runs_86 : decode cX7_runs 86 = .ok (.imul, 1) := by decide +kernel
theorem dX7_runs_87 : decode cX7_runs 87 = .ok (.iload_n 2, 1) := by decide +kernel
theorem dX7_runs_88 : decode cX7_runs 88 = .ok (.iadd, 1) := by decide +kernel
theorem dX7_runs_89 : decode cX7_runs 89 = .ok (.iaload, 1) := by decide +kernel
theorem dX7_runs_90 : decode cX7_runs 90 = .ok (.aload_n 0, 1) := by decide +kernel
theorem dX7_runs_91 : decode cX7_runs 91 = .ok (.getfield 13, 3) := by decide +kernel
theorem dX7_runs_94 : decode cX7_runs 94 = .ok (.iadd, 1) := by decide +kernel
theorem dX7_runs_95 : decode cX7_runs 95 = .ok (.goto 4, 3) := by decide +kernel
theorem dX7_runs_98 : decode cX7_runs 98 = .ok (.iconst (-1), 1) := by decide +kernel
theorem dX7_runs_99 : decode cX7_runs 99 = .ok (.istore 4, 2) := by decide +kernel
theorem dX7_runs_101 : decode cX7_runs 101 = .ok (.aload_n 0, 1) := by decide +kernel
theorem dX7_runs_102 : decode cX7_runs 102 = .ok (.aload_n 0, 1) := by decide +kernel
theorem dX7_runs_103 : decode cX7_runs 103 = .ok (.getfield 59, 3) := by decide +kernel
theorem dX7_runs_106 : decode cX7_runs 106 = .ok (.iload_n 1, 1) := by decide +kernel
theorem dX7_runs_107 : decode cX7_runs 107 = .ok (.iaload, 1) := by decide +kernel
theorem dX7_runs_108 : decode cX7_runs 108 = .ok (.aload_n 0, 1) := by decide +kernel
theorem dX7_runs_109 : decode cX7_runs 109 = .ok (.getfield 62, 3) := by decide +kernel
theorem dX7_runs_112 : decode cX7_runs 112 = .ok (.iload_n 1, 1) := by decide +kernel
theorem dX7_runs_113 : decode cX7_runs 113 = .ok (.iaload, 1) := by decide +kernel
theorem dX7_runs_114 : decode cX7_runs 114 = .ok (.invokevirtual 176, 3) := by decide +kernel
theorem dX7_runs_117 : decode cX7_runs 117 = .ok (.pop, 1) := by decide +kernel
theorem dX7_runs_118 : decode cX7_runs 118 = .ok (.iconst 0, 1) := by decide +kernel
theorem dX7_runs_119 : decode cX7_runs 119 = .ok (.istore 5, 2) := by decide +kernel
theorem dX7_runs_121 : decode cX7_runs 121 = .ok (.iload 5, 2) := by decide +kernel
theorem dX7_runs_123 : decode cX7_runs 123 = .ok (.aload_n 0, 1) := by decide +kernel
theorem dX7_runs_124 : decode cX7_runs 124 = .ok (.getfield 166, 3) := by decide +kernel
theorem dX7_runs_127 : decode cX7_runs 127 = .ok (.if_icmp .ge 74, 3) := by decide +kernel
theorem dX7_runs_130 : decode cX7_runs 130 = .ok (.aload_n 0, 1) := by decide +kernel
theorem dX7_runs_131 : decode cX7_runs 131 = .ok (.getfield 93, 3) := by decide +kernel
theorem dX7_runs_134 : decode cX7_runs 134 = .ok (.iload 5, 2) := by decide +kernel
theorem dX7_runs_136 : decode cX7_runs 136 = .ok (.iaload, 1) := by decide +kernel
theorem dX7_runs_137 : decode cX7_runs 137 = .ok (.istore 6, 2) := by decide +kernel
theorem dX7_runs_139 : decode cX7_runs 139 = .ok (.aload_n 0, 1) := by decide +kernel
theorem dX7_runs_140 : decode cX7_runs 140 = .ok (.getfield 78, 3) := by decide +kernel
theorem dX7_runs_143 : decode cX7_runs 143 = .ok (.iload 6, 2) := by decide +kernel
theorem dX7_runs_145 : decode cX7_runs 145 = .ok (.iaload, 1) := by decide +kernel
theorem dX7_runs_146 : decode cX7_runs 146 = .ok (.iload_n 2, 1) := by decide +kernel
theorem dX7_runs_147 : decode cX7_runs 147 = .ok (.if_icmp .eq 6, 3) := by decide +kernel
theorem dX7_runs_150 : decode cX7_runs 150 = .ok (.goto 45, 3) := by decide +kernel
theorem dX7_runs_153 : decode cX7_runs 153 = .ok (.iload_n 3, 1) := by decide +kernel
theorem dX7_runs_154 : decode cX7_runs 154 = .ok (.aload_n 0, 1) := by decide +kernel
theorem dX7_runs_155 : decode cX7_runs 155 = .ok (.getfield 81, 3) := by decide +kernel
theorem dX7_runs_158 : decode cX7_runs 158 = .ok (.iload 6, 2) := by decide +kernel
theorem dX7_runs_160 : decode cX7_runs 160 = .ok (.iaload, 1) := by decide +kernel
theorem dX7_runs_161 : decode cX7_runs 161 = .ok (.iload 4, 2) := by decide +kernel
theorem dX7_runs_163 : decode cX7_runs 163 = .ok (.if_icmp .ne 7, 3) := by decide +kernel
theorem dX7_runs_166 : decode cX7_runs 166 = .ok (.iconst 0, 1) := by decide +kernel
theorem dX7_runs_167 : decode cX7_runs 167 = .ok (.goto 4, 3) := by decide +kernel
theorem dX7_runs_170 : decode cX7_runs 170 = .ok (.iconst 1, 1) := by decide +kernel
theorem dX7_runs_171 : decode cX7_runs 171 = .ok (.iadd, 1) := by decide +kernel
theorem dX7_runs_172 : decode cX7_runs 172 = .ok (.istore_n 3, 1) := by decide +kernel
theorem dX7_runs_173 : decode cX7_runs 173 = .ok (.aload_n 0, 1) := by decide +kernel
theorem dX7_runs_174 : decode cX7_runs 174 = .ok (.getfield 81, 3) := by decide +kernel
theorem dX7_runs_177 : decode cX7_runs 177 = .ok (.iload 6, 2) := by decide +kernel
theorem dX7_runs_179 : decode cX7_runs 179 = .ok (.iaload, 1) := by decide +kernel
theorem dX7_runs_180 : decode cX7_runs 180 = .ok (.aload_n 0, 1) := by decide +kernel
theorem dX7_runs_181 : decode cX7_runs 181 = .ok (.getfield 84, 3) := by decide +kernel
theorem dX7_runs_184 : decode cX7_runs 184 = .ok (.iload 6, 2) := by decide +kernel
theorem dX7_runs_186 : decode cX7_runs 186 = .ok (.iaload, 1) := by decide +kernel
theorem dX7_runs_187 : decode cX7_runs 187 = .ok (.iadd, 1) := by decide +kernel
theorem dX7_runs_188 : decode cX7_runs 188 = .ok (.aload_n 0, 1) := by decide +kernel
theorem dX7_runs_189 : decode cX7_runs 189 = .ok (.getfield 13, 3) := by decide +kernel
theorem dX7_runs_192 : decode cX7_runs 192 = .ok (.iadd, 1) := by decide +kernel
theorem dX7_runs_193 : decode cX7_runs 193 = .ok (.istore 4, 2) := by decide +kernel
theorem dX7_runs_195 : decode cX7_runs 195 = .ok (.iinc 5 1, 3) := by decide +kernel
theorem dX7_runs_198 : decode cX7_runs 198 = .ok (.goto (-77), 3) := by decide +kernel
theorem dX7_runs_201 : decode cX7_runs 201 = .ok (.iload_n 3, 1) := by decide +kernel
theorem dX7_runs_202 : decode cX7_runs 202 = .ok (.ireturn, 1) := by decide +kernel
theorem dX7_moved_0 : decode cX7_moved 0 = .ok (.aload_n 0, 1) := by decide +kernel
theorem dX7_moved_1 : decode cX7_moved 1 = .ok (.iconst 0, 1) := by decide +kernel
theorem dX7_moved_2 : decode cX7_moved 2 = .ok (.putfield 123, 3) := by decide +kernel
theorem dX7_moved_5 : decode cX7_moved 5 = .ok (.aload_n 0, 1) := by decide +kernel
theorem dX7_moved_6 : decode cX7_moved 6 = .ok (.iconst 0, 1) := by decide +kernel
theorem dX7_moved_7 : decode cX7_moved 7 = .ok (.putfield 126, 3) := by decide +kernel
theorem dX7_moved_10 : decode cX7_moved 10 = .ok (.aload_n 0, 1) := by decide +kernel
theorem dX7_moved_11 : decode cX7_moved 11 = .ok (.invokevirtual 239, 3) := by decide +kernel
theorem dX7_moved_14 : decode cX7_moved 14 = .ok (.ifCond .eq 10, 3) := by decide +kernel
theorem dX7_moved_17 : decode cX7_moved 17 = .ok (.aload_n 0, 1) := by decide +kernel
theorem dX7_moved_18 : decode cX7_moved 18 = .ok (.bipush 6, 2) := by decide +kernel
theorem dX7_moved_20 : decode cX7_moved 20 = .ok (.invokevirtual 147, 3) := by decide +kernel
theorem dX7_moved_23 : decode cX7_moved 23 = .ok (.ireturn, 1) := by decide +kernel
theorem dX7_moved_24 : decode cX7_moved 24 = .ok (.iload_n 1, 1) := by decide +kernel
theorem dX7_moved_25 : decode cX7_moved 25 = .ok (.ifCond .lt 11, 3) := by decide +kernel
theorem dX7_moved_28 : decode cX7_moved 28 = .ok (.iload_n 1, 1) := by decide +kernel
theorem dX7_moved_29 : decode cX7_moved 29 = .ok (.aload_n 0, 1) := by decide +kernel
theorem dX7_moved_30 : decode cX7_moved 30 = .ok (.getfield 226, 3) := by decide +kernel
theorem dX7_moved_33 : decode cX7_moved 33 = .ok (.if_icmp .lt 9, 3) := by decide +kernel
theorem dX7_moved_36 : decode cX7_moved 36 = .ok (.aload_n 0, 1) := by decide +kernel
theorem dX7_moved_37 : decode cX7_moved 37 = .ok (.iconst 1, 1) := by decide +kernel
theorem dX7_moved_38 : decode cX7_moved 38 = .ok (.invokevirtual 147, 3) := by decide +kernel
theorem dX7_moved_41 : decode cX7_moved 41 = .ok (.ireturn, 1) := by decide +kernel
theorem dX7_moved_42 : decode cX7_moved 42 = .ok (.aload_n 0, 1) := by decide +kernel
theorem dX7_moved_43 : decode cX7_moved 43 = .ok (.aload_n 0, 1) := by decide +kernel
theorem dX7_moved_44 : decode cX7_moved 44 = .ok (.getfield 59, 3) := by decide +kernel
theorem dX7_moved_47 : decode cX7_moved 47 = .ok (.iload_n 1, 1) := by decide +kernel
theorem dX7_moved_48 : decode cX7_moved 48 = .ok (.iaload, 1) := by decide +kernel
theorem dX7_moved_49 : decode cX7_moved 49 = .ok (.aload_n 0, 1) := by decide +kernel
theorem dX7_moved_50 : decode cX7_moved 50 = .ok (.getfield 62, 3) := by decide +kernel
theorem dX7_moved_53 : decode cX7_moved 53 = .ok (.iload_n 1, 1) := by decide +kernel
theorem dX7_moved_54 : decode cX7_moved 54 = .ok (.iaload, 1) := by decide +kernel
theorem dX7_moved_55 : decode cX7_moved 55 = .ok (.invokevirtual 176, 3) := by decide +kernel
theorem dX7_moved_58 : decode cX7_moved 58 = .ok (.pop, 1) := by decide +kernel
theorem dX7_moved_59 : decode cX7_moved 59 = .ok (.iconst 0, 1) := by decide +kernel
theorem dX7_moved_60 : decode cX7_moved 60 = .ok (.istore_n 2, 1) := by decide +kernel
theorem dX7_moved_61 : decode cX7_moved 61 = .ok (.iconst 0, 1) := by decide +kernel
theorem dX7_moved_62 : decode cX7_moved 62 = .ok (.istore_n 3, 1) := by decide +kernel
theorem dX7_moved_63 : decode cX7_moved 63 = .ok (.iload_n 3, 1) := by decide +kernel
theorem dX7_moved_64 : decode cX7_moved 64 = .ok (.aload_n 0, 1) := by decide +kernel
theorem dX7_moved_65 : decode cX7_moved 65 = .ok (.getfield 166, 3) := by decide +kernel
theorem dX7_moved_68 : decode cX7_moved 68 = .ok (.if_icmp .ge 47, 3) := by decide +kernel
theorem dX7_moved_71 : decode cX7_moved 71 = .ok (.iload_n 2, 1) := by decide +kernel
theorem dX7_moved_72 : decode cX7_moved 72 = .ok (.aload_n 0, 1) := by decide +kernel
theorem dX7_moved_73 : decode cX7_moved 73 = .ok (.getfield 81, 3) := by decide +kernel
theorem dX7_moved_76 : decode cX7_moved 76 = .ok (.aload_n 0, 1) := by decide +kernel
theorem dX7_moved_77 : decode cX7_moved 77 = .ok (.getfield 93, 3) := by decide +kernel
theorem dX7_moved_80 : decode cX7_moved 80 = .ok (.iload_n 3, 1) := by decide +kernel
theorem dX7_moved_81 : decode cX7_moved 81 = .ok (.iaload, 1) := by decide +kernel
theorem dX7_moved_82 : decode cX7_moved 82 = .ok (.iaload, 1) := by decide +kernel
theorem dX7_moved_83 : decode cX7_moved 83 = .ok (.aload_n 0, 1) := by decide +kernel
theorem dX7_moved_84 : decode cX7_moved 84 = .ok (.getfield 72, 3) := by decide +kernel
theorem dX7_moved_87 : decode cX7_moved 87 = .ok (.aload_n 0, 1) := by decide +kernel
theorem dX7_moved_88 : decode cX7_moved 88 = .ok (.getfield 26, 3) := by decide +kernel
theorem dX7_moved_91 : decode cX7_moved 91 = .ok (.aload_n 0, 1) := by decide +kernel
theorem dX7_moved_92 : decode cX7_moved 92 = .ok (.getfield 93, 3) := by decide +kernel
theorem dX7_moved_95 : decode cX7_moved 95 = .ok (.iload_n 3, 1) := by decide +kernel
theorem dX7_moved_96 : decode cX7_moved 96 = .ok (.iaload, 1) := by decide +kernel
theorem dX7_moved_97 : decode cX7_moved 97 = .ok (.iaload, 1) := by decide +kernel
theorem dX7_moved_98 : decode cX7_moved 98 = .ok (.iaload, 1) := by decide +kernel
theorem dX7_moved_99 : decode cX7_moved 99 = .ok (.if_icmp .eq 7, 3) := by decide +kernel
theorem dX7_moved_102 : decode cX7_moved 102 = .ok (.iconst 1, 1) := by decide +kernel
theorem dX7_moved_103 : decode cX7_moved 103 = .ok (.goto 4, 3) := by decide +kernel
theorem dX7_moved_106 : decode cX7_moved 106 = .ok (.iconst 0, 1) := by decide +kernel
theorem dX7_moved_107 : decode cX7_moved 107 = .ok (.iadd, 1) := by decide +kernel
theorem dX7_moved_108 : decode cX7_moved 108 = .ok (.istore_n 2, 1) := by decide +kernel
theorem dX7_moved_109 : decode cX7_moved 109 = .ok (.iinc 3 1, 3) := by decide +kernel
theorem dX7_moved_112 : decode cX7_moved 112 = .ok (.goto (-49), 3) := by decide +kernel
theorem dX7_moved_115 : decode cX7_moved 115 = .ok (.iload_n 2, 1) := by decide +kernel
theorem dX7_moved_116 : decode cX7_moved 116 = .ok (.ireturn, 1) := by decide +kernel
theorem dL_law_0 : decode cL_law 0 = .ok (.new 7, 3) := by decide +kernel
theorem dL_law_3 : decode cL_law 3 = .ok (.dup, 1) := by decide +kernel
theorem dL_law_4 : decode cL_law 4 = .ok (.invokespecial 9, 3) := by decide +kernel
theorem dL_law_7 : decode cL_law 7 = .ok (.astore_n 1, 1) := by decide +kernel
theorem dL_law_8 : decode cL_law 8 = .ok (.new 10, 3) := by decide +kernel
theorem dL_law_11 : decode cL_law 11 = .ok (.dup, 1) := by decide +kernel
theorem dL_law_12 : decode cL_law 12 = .ok (.invokespecial 12, 3) := by decide +kernel
theorem dL_law_15 : decode cL_law 15 = .ok (.astore_n 2, 1) := by decide +kernel
theorem dL_law_16 : decode cL_law 16 = .ok (.iconst 0, 1) := by decide +kernel
theorem dL_law_17 : decode cL_law 17 = .ok (.istore_n 3, 1) := by decide +kernel
theorem dL_law_18 : decode cL_law 18 = .ok (.iload_n 3, 1) := by decide +kernel
theorem dL_law_19 : decode cL_law 19 = .ok (.aload_n 0, 1) := by decide +kernel
theorem dL_law_20 : decode cL_law 20 = .ok (.arraylength, 1) := by decide +kernel
theorem dL_law_21 : decode cL_law 21 = .ok (.bipush 6, 2) := by decide +kernel
theorem dL_law_23 : decode cL_law 23 = .ok (.isub, 1) := by decide +kernel
theorem dL_law_24 : decode cL_law 24 = .ok (.if_icmp .gt 904, 3) := by decide +kernel
theorem dL_law_27 : decode cL_law 27 = .ok (.aload_n 0, 1) := by decide +kernel
theorem dL_law_28 : decode cL_law 28 = .ok (.iload_n 3, 1) := by decide +kernel
theorem dL_law_29 : decode cL_law 29 = .ok (.iaload, 1) := by decide +kernel
theorem dL_law_30 : decode cL_law 30 = .ok (.bipush 31, 2) := by decide +kernel
theorem dL_law_32 : decode cL_law 32 = .ok (.iand, 1) := by decide +kernel
theorem dL_law_33 : decode cL_law 33 = .ok (.tableswitch 889 0 25 #[119, 132, 165, 188, 221, 284, 317, 350, 373, 406, 439, 462, 495, 518, 557, 590, 603, 626, 649, 672, 695, 718, 751, 810, 833, 866], 119) := by decide +kernel
theorem dL_law_152 : decode cL_law 152 = .ok (.aload_n 1, 1) := by decide +kernel
theorem dL_law_153 : decode cL_law 153 = .ok (.invokevirtual 13, 3) := by decide +kernel
theorem dL_law_156 : decode cL_law 156 = .ok (.aload_n 2, 1) := by decide +kernel
theorem dL_law_157 : decode cL_law 157 = .ok (.invokevirtual 17, 3) := by decide +kernel
theorem dL_law_160 : decode cL_law 160 = .ok (.if_icmp .eq 762, 3) := by decide +kernel
theorem dL_law_163 : decode cL_law 163 = .ok (.iconst 0, 1) := by decide +kernel
theorem dL_law_164 : decode cL_law 164 = .ok (.ireturn, 1) := by decide +kernel
theorem dL_law_165 : decode cL_law 165 = .ok (.aload_n 1, 1) := by decide +kernel
theorem dL_law_166 : decode cL_law 166 = .ok (.aload_n 0, 1) := by decide +kernel
theorem dL_law_167 : decode cL_law 167 = .ok (.iload_n 3, 1) := by decide +kernel
theorem dL_law_168 : decode cL_law 168 = .ok (.iconst 1, 1) := by decide +kernel
theorem dL_law_169 : decode cL_law 169 = .ok (.iadd, 1) := by decide +kernel
theorem dL_law_170 : decode cL_law 170 = .ok (.iaload, 1) := by decide +kernel
theorem dL_law_171 : decode cL_law 171 = .ok (.aload_n 0, 1) := by decide +kernel
theorem dL_law_172 : decode cL_law 172 = .ok (.iload_n 3, 1) := by decide +kernel
theorem dL_law_173 : decode cL_law 173 = .ok (.iconst 2, 1) := by decide +kernel
theorem dL_law_174 : decode cL_law 174 = .ok (.iadd, 1) := by decide +kernel
theorem dL_law_175 : decode cL_law 175 = .ok (.iaload, 1) := by decide +kernel
theorem dL_law_176 : decode cL_law 176 = .ok (.invokevirtual 18, 3) := by decide +kernel
theorem dL_law_179 : decode cL_law 179 = .ok (.aload_n 2, 1) := by decide +kernel
theorem dL_law_180 : decode cL_law 180 = .ok (.aload_n 0, 1) := by decide +kernel
theorem dL_law_181 : decode cL_law 181 = .ok (.iload_n 3, 1) := by decide +kernel
theorem dL_law_182 : decode cL_law 182 = .ok (.iconst 1, 1) := by decide +kernel
theorem dL_law_183 : decode cL_law 183 = .ok (.iadd, 1) := by decide +kernel
theorem dL_law_184 : decode cL_law 184 = .ok (.iaload, 1) := by decide +kernel
theorem dL_law_185 : decode cL_law 185 = .ok (.aload_n 0, 1) := by decide +kernel
theorem dL_law_186 : decode cL_law 186 = .ok (.iload_n 3, 1) := by decide +kernel
theorem dL_law_187 : decode cL_law 187 = .ok (.iconst 2, 1) := by decide +kernel
theorem dL_law_188 : decode cL_law 188 = .ok (.iadd, 1) := by decide +kernel
theorem dL_law_189 : decode cL_law 189 = .ok (.iaload, 1) := by decide +kernel
theorem dL_law_190 : decode cL_law 190 = .ok (.invokevirtual 22, 3) := by decide +kernel
theorem dL_law_193 : decode cL_law 193 = .ok (.if_icmp .eq 729, 3) := by decide +kernel
theorem dL_law_196 : decode cL_law 196 = .ok (.iconst 0, 1) := by decide +kernel
theorem dL_law_197 : decode cL_law 197 = .ok (.ireturn, 1) := by decide +kernel
theorem dL_law_198 : decode cL_law 198 = .ok (.aload_n 1, 1) := by decide +kernel
theorem dL_law_199 : decode cL_law 199 = .ok (.aload_n 0, 1) := by decide +kernel
theorem dL_law_200 : decode cL_law 200 = .ok (.iload_n 3, 1) := by decide +kernel
theorem dL_law_201 : decode cL_law 201 = .ok (.iconst 1, 1) := by decide +kernel
theorem dL_law_202 : decode cL_law 202 = .ok (.iadd, 1) := by decide +kernel
theorem dL_law_203 : decode cL_law 203 = .ok (.iaload, 1) := by decide +kernel
theorem dL_law_204 : decode cL_law 204 = .ok (.invokevirtual 23, 3) := by decide +kernel
theorem dL_law_207 : decode cL_law 207 = .ok (.aload_n 2, 1) := by decide +kernel
theorem dL_law_208 : decode cL_law 208 = .ok (.aload_n 0, 1) := by decide +kernel
theorem dL_law_209 : decode cL_law 209 = .ok (.iload_n 3, 1) := by decide +kernel
theorem dL_law_210 : decode cL_law 210 = .ok (.iconst 1, 1) := by decide +kernel
theorem dL_law_211 : decode cL_law 211 = .ok (.iadd, 1) := by decide +kernel
theorem dL_law_212 : decode cL_law 212 = .ok (.iaload, 1) := by decide +kernel
theorem dL_law_213 : decode cL_law 213 = .ok (.invokevirtual 27, 3) := by decide +kernel
theorem dL_law_216 : decode cL_law 216 = .ok (.if_icmp .eq 706, 3) := by decide +kernel
theorem dL_law_219 : decode cL_law 219 = .ok (.iconst 0, 1) := by decide +kernel
theorem dL_law_220 : decode cL_law 220 = .ok (.ireturn, 1) := by decide +kernel
theorem dL_law_221 : decode cL_law 221 = .ok (.aload_n 1, 1) := by decide +kernel
theorem dL_law_222 : decode cL_law 222 = .ok (.aload_n 0, 1) := by decide +kernel
theorem dL_law_223 : decode cL_law 223 = .ok (.iload_n 3, 1) := by decide +kernel
theorem dL_law_224 : decode cL_law 224 = .ok (.iconst 1, 1) := by decide +kernel
theorem dL_law_225 : decode cL_law 225 = .ok (.iadd, 1) := by decide +kernel
theorem dL_law_226 : decode cL_law 226 = .ok (.iaload, 1) := by decide +kernel
theorem dL_law_227 : decode cL_law 227 = .ok (.aload_n 0, 1) := by decide +kernel
theorem dL_law_228 : decode cL_law 228 = .ok (.iload_n 3, 1) := by decide +kernel
theorem dL_law_229 : decode cL_law 229 = .ok (.iconst 2, 1) := by decide +kernel
theorem dL_law_230 : decode cL_law 230 = .ok (.iadd, 1) := by decide +kernel
theorem dL_law_231 : decode cL_law 231 = .ok (.iaload, 1) := by decide +kernel
theorem dL_law_232 : decode cL_law 232 = .ok (.invokevirtual 28, 3) := by decide +kernel
theorem dL_law_235 : decode cL_law 235 = .ok (.aload_n 2, 1) := by decide +kernel
theorem dL_law_236 : decode cL_law 236 = .ok (.aload_n 0, 1) := by decide +kernel
theorem dL_law_237 : decode cL_law 237 = .ok (.iload_n 3, 1) := by decide +kernel
theorem dL_law_238 : decode cL_law 238 = .ok (.iconst 1, 1) := by decide +kernel
theorem dL_law_239 : decode cL_law 239 = .ok (.iadd, 1) := by decide +kernel
theorem dL_law_240 : decode cL_law 240 = .ok (.iaload, 1) := by decide +kernel
theorem dL_law_241 : decode cL_law 241 = .ok (.aload_n 0, 1) := by decide +kernel
theorem dL_law_242 : decode cL_law 242 = .ok (.iload_n 3, 1) := by decide +kernel
theorem dL_law_243 : decode cL_law 243 = .ok (.iconst 2, 1) := by decide +kernel
theorem dL_law_244 : decode cL_law 244 = .ok (.iadd, 1) := by decide +kernel
theorem dL_law_245 : decode cL_law 245 = .ok (.iaload, 1) := by decide +kernel
theorem dL_law_246 : decode cL_law 246 = .ok (.invokevirtual 31, 3) := by decide +kernel
theorem dL_law_249 : decode cL_law 249 = .ok (.if_icmp .eq 673, 3) := by decide +kernel
theorem dL_law_252 : decode cL_law 252 = .ok (.iconst 0, 1) := by decide +kernel
theorem dL_law_253 : decode cL_law 253 = .ok (.ireturn, 1) := by decide +kernel
theorem dL_law_254 : decode cL_law 254 = .ok (.aload_n 1, 1) := by decide +kernel
theorem dL_law_255 : decode cL_law 255 = .ok (.aload_n 0, 1) := by decide +kernel
theorem dL_law_256 : decode cL_law 256 = .ok (.iload_n 3, 1) := by decide +kernel
theorem dL_law_257 : decode cL_law 257 = .ok (.iconst 1, 1) := by decide +kernel
theorem dL_law_258 : decode cL_law 258 = .ok (.iadd, 1) := by decide +kernel
theorem dL_law_259 : decode cL_law 259 = .ok (.iaload, 1) := by decide +kernel
theorem dL_law_260 : decode cL_law 260 = .ok (.aload_n 0, 1) := by decide +kernel
theorem dL_law_261 : decode cL_law 261 = .ok (.iload_n 3, 1) := by decide +kernel
theorem dL_law_262 : decode cL_law 262 = .ok (.iconst 2, 1) := by decide +kernel
theorem dL_law_263 : decode cL_law 263 = .ok (.iadd, 1) := by decide +kernel
theorem dL_law_264 : decode cL_law 264 = .ok (.iaload, 1) := by decide +kernel
theorem dL_law_265 : decode cL_law 265 = .ok (.aload_n 0, 1) := by decide +kernel
theorem dL_law_266 : decode cL_law 266 = .ok (.iload_n 3, 1) := by decide +kernel
theorem dL_law_267 : decode cL_law 267 = .ok (.iconst 3, 1) := by decide +kernel
theorem dL_law_268 : decode cL_law 268 = .ok (.iadd, 1) := by decide +kernel
theorem dL_law_269 : decode cL_law 269 = .ok (.iaload, 1) := by decide +kernel
theorem dL_law_270 : decode cL_law 270 = .ok (.aload_n 0, 1) := by decide +kernel
theorem dL_law_271 : decode cL_law 271 = .ok (.iload_n 3, 1) := by decide +kernel
theorem dL_law_272 : decode cL_law 272 = .ok (.iconst 4, 1) := by decide +kernel
theorem dL_law_273 : decode cL_law 273 = .ok (.iadd, 1) := by decide +kernel
theorem dL_law_274 : decode cL_law 274 = .ok (.iaload, 1) := by decide +kernel
theorem dL_law_275 : decode cL_law 275 = .ok (.aload_n 0, 1) := by decide +kernel
theorem dL_law_276 : decode cL_law 276 = .ok (.iload_n 3, 1) := by decide +kernel
theorem dL_law_277 : decode cL_law 277 = .ok (.iconst 5, 1) := by decide +kernel
theorem dL_law_278 : decode cL_law 278 = .ok (.iadd, 1) := by decide +kernel
theorem dL_law_279 : decode cL_law 279 = .ok (.iaload, 1) := by decide +kernel
theorem dL_law_280 : decode cL_law 280 = .ok (.invokevirtual 32, 3) := by decide +kernel
theorem dL_law_283 : decode cL_law 283 = .ok (.aload_n 2, 1) := by decide +kernel
theorem dL_law_284 : decode cL_law 284 = .ok (.aload_n 0, 1) := by decide +kernel
theorem dL_law_285 : decode cL_law 285 = .ok (.iload_n 3, 1) := by decide +kernel
theorem dL_law_286 : decode cL_law 286 = .ok (.iconst 1, 1) := by decide +kernel
theorem dL_law_287 : decode cL_law 287 = .ok (.iadd, 1) := by decide +kernel
theorem dL_law_288 : decode cL_law 288 = .ok (.iaload, 1) := by decide +kernel
theorem dL_law_289 : decode cL_law 289 = .ok (.aload_n 0, 1) := by decide +kernel
theorem dL_law_290 : decode cL_law 290 = .ok (.iload_n 3, 1) := by decide +kernel
theorem dL_law_291 : decode cL_law 291 = .ok (.iconst 2, 1) := by decide +kernel
theorem dL_law_292 : decode cL_law 292 = .ok (.iadd, 1) := by decide +kernel
theorem dL_law_293 : decode cL_law 293 = .ok (.iaload, 1) := by decide +kernel
theorem dL_law_294 : decode cL_law 294 = .ok (.aload_n 0, 1) := by decide +kernel
theorem dL_law_295 : decode cL_law 295 = .ok (.iload_n 3, 1) := by decide +kernel
theorem dL_law_296 : decode cL_law 296 = .ok (.iconst 3, 1) := by decide +kernel
theorem dL_law_297 : decode cL_law 297 = .ok (.iadd, 1) := by decide +kernel
theorem dL_law_298 : decode cL_law 298 = .ok (.iaload, 1) := by decide +kernel
theorem dL_law_299 : decode cL_law 299 = .ok (.aload_n 0, 1) := by decide +kernel
theorem dL_law_300 : decode cL_law 300 = .ok (.iload_n 3, 1) := by decide +kernel
theorem dL_law_301 : decode cL_law 301 = .ok (.iconst 4, 1) := by decide +kernel
theorem dL_law_302 : decode cL_law 302 = .ok (.iadd, 1) := by decide +kernel
theorem dL_law_303 : decode cL_law 303 = .ok (.iaload, 1) := by decide +kernel
theorem dL_law_304 : decode cL_law 304 = .ok (.aload_n 0, 1) := by decide +kernel
theorem dL_law_305 : decode cL_law 305 = .ok (.iload_n 3, 1) := by decide +kernel
theorem dL_law_306 : decode cL_law 306 = .ok (.iconst 5, 1) := by decide +kernel
theorem dL_law_307 : decode cL_law 307 = .ok (.iadd, 1) := by decide +kernel
theorem dL_law_308 : decode cL_law 308 = .ok (.iaload, 1) := by decide +kernel
theorem dL_law_309 : decode cL_law 309 = .ok (.invokevirtual 36, 3) := by decide +kernel
theorem dL_law_312 : decode cL_law 312 = .ok (.if_icmp .eq 610, 3) := by decide +kernel
theorem dL_law_315 : decode cL_law 315 = .ok (.iconst 0, 1) := by decide +kernel
theorem dL_law_316 : decode cL_law 316 = .ok (.ireturn, 1) := by decide +kernel
theorem dL_law_317 : decode cL_law 317 = .ok (.aload_n 1, 1) := by decide +kernel
theorem dL_law_318 : decode cL_law 318 = .ok (.aload_n 0, 1) := by decide +kernel
theorem dL_law_319 : decode cL_law 319 = .ok (.iload_n 3, 1) := by decide +kernel
theorem dL_law_320 : decode cL_law 320 = .ok (.iconst 1, 1) := by decide +kernel
theorem dL_law_321 : decode cL_law 321 = .ok (.iadd, 1) := by decide +kernel
theorem dL_law_322 : decode cL_law 322 = .ok (.iaload, 1) := by decide +kernel
theorem dL_law_323 : decode cL_law 323 = .ok (.aload_n 0, 1) := by decide +kernel
theorem dL_law_324 : decode cL_law 324 = .ok (.iload_n 3, 1) := by decide +kernel
theorem dL_law_325 : decode cL_law 325 = .ok (.iconst 2, 1) := by decide +kernel
theorem dL_law_326 : decode cL_law 326 = .ok (.iadd, 1) := by decide +kernel
theorem dL_law_327 : decode cL_law 327 = .ok (.iaload, 1) := by decide +kernel
theorem dL_law_328 : decode cL_law 328 = .ok (.invokevirtual 37, 3) := by decide +kernel
theorem dL_law_331 : decode cL_law 331 = .ok (.aload_n 2, 1) := by decide +kernel
theorem dL_law_332 : decode cL_law 332 = .ok (.aload_n 0, 1) := by decide +kernel
theorem dL_law_333 : decode cL_law 333 = .ok (.iload_n 3, 1) := by decide +kernel
theorem dL_law_334 : decode cL_law 334 = .ok (.iconst 1, 1) := by decide +kernel
theorem dL_law_335 : decode cL_law 335 = .ok (.iadd, 1) := by decide +kernel
theorem dL_law_336 : decode cL_law 336 = .ok (.iaload, 1) := by decide +kernel
theorem dL_law_337 : decode cL_law 337 = .ok (.aload_n 0, 1) := by decide +kernel
theorem dL_law_338 : decode cL_law 338 = .ok (.iload_n 3, 1) := by decide +kernel
theorem dL_law_339 : decode cL_law 339 = .ok (.iconst 2, 1) := by decide +kernel
theorem dL_law_340 : decode cL_law 340 = .ok (.iadd, 1) := by decide +kernel
theorem dL_law_341 : decode cL_law 341 = .ok (.iaload, 1) := by decide +kernel
theorem dL_law_342 : decode cL_law 342 = .ok (.invokevirtual 41, 3) := by decide +kernel
theorem dL_law_345 : decode cL_law 345 = .ok (.if_icmp .eq 577, 3) := by decide +kernel
theorem dL_law_348 : decode cL_law 348 = .ok (.iconst 0, 1) := by decide +kernel
theorem dL_law_349 : decode cL_law 349 = .ok (.ireturn, 1) := by decide +kernel
theorem dL_law_350 : decode cL_law 350 = .ok (.aload_n 1, 1) := by decide +kernel
theorem dL_law_351 : decode cL_law 351 = .ok (.aload_n 0, 1) := by decide +kernel
theorem dL_law_352 : decode cL_law 352 = .ok (.iload_n 3, 1) := by decide +kernel
theorem dL_law_353 : decode cL_law 353 = .ok (.iconst 1, 1) := by decide +kernel
theorem dL_law_354 : decode cL_law 354 = .ok (.iadd, 1) := by decide +kernel
theorem dL_law_355 : decode cL_law 355 = .ok (.iaload, 1) := by decide +kernel
theorem dL_law_356 : decode cL_law 356 = .ok (.aload_n 0, 1) := by decide +kernel
theorem dL_law_357 : decode cL_law 357 = .ok (.iload_n 3, 1) := by decide +kernel
theorem dL_law_358 : decode cL_law 358 = .ok (.iconst 2, 1) := by decide +kernel
theorem dL_law_359 : decode cL_law 359 = .ok (.iadd, 1) := by decide +kernel
theorem dL_law_360 : decode cL_law 360 = .ok (.iaload, 1) := by decide +kernel
theorem dL_law_361 : decode cL_law 361 = .ok (.invokevirtual 42, 3) := by decide +kernel
theorem dL_law_364 : decode cL_law 364 = .ok (.aload_n 2, 1) := by decide +kernel
theorem dL_law_365 : decode cL_law 365 = .ok (.aload_n 0, 1) := by decide +kernel
theorem dL_law_366 : decode cL_law 366 = .ok (.iload_n 3, 1) := by decide +kernel
theorem dL_law_367 : decode cL_law 367 = .ok (.iconst 1, 1) := by decide +kernel
theorem dL_law_368 : decode cL_law 368 = .ok (.iadd, 1) := by decide +kernel
theorem dL_law_369 : decode cL_law 369 = .ok (.iaload, 1) := by decide +kernel
theorem dL_law_370 : decode cL_law 370 = .ok (.aload_n 0, 1) := by decide +kernel
theorem dL_law_371 : decode cL_law 371 = .ok (.iload_n 3, 1) := by decide +kernel
theorem dL_law_372 : decode cL_law 372 = .ok (.iconst 2, 1) := by decide +kernel
theorem dL_law_373 : decode cL_law 373 = .ok (.iadd, 1) := by decide +kernel
theorem dL_law_374 : decode cL_law 374 = .ok (.iaload, 1) := by decide +kernel
theorem dL_law_375 : decode cL_law 375 = .ok (.invokevirtual 45, 3) := by decide +kernel
theorem dL_law_378 : decode cL_law 378 = .ok (.if_icmp .eq 544, 3) := by decide +kernel
theorem dL_law_381 : decode cL_law 381 = .ok (.iconst 0, 1) := by decide +kernel
theorem dL_law_382 : decode cL_law 382 = .ok (.ireturn, 1) := by decide +kernel
theorem dL_law_383 : decode cL_law 383 = .ok (.aload_n 1, 1) := by decide +kernel
theorem dL_law_384 : decode cL_law 384 = .ok (.aload_n 0, 1) := by decide +kernel
theorem dL_law_385 : decode cL_law 385 = .ok (.iload_n 3, 1) := by decide +kernel
theorem dL_law_386 : decode cL_law 386 = .ok (.iconst 1, 1) := by decide +kernel
theorem dL_law_387 : decode cL_law 387 = .ok (.iadd, 1) := by decide +kernel
theorem dL_law_388 : decode cL_law 388 = .ok (.iaload, 1) := by decide +kernel
theorem dL_law_389 : decode cL_law 389 = .ok (.invokevirtual 46, 3) := by decide +kernel
theorem dL_law_392 : decode cL_law 392 = .ok (.aload_n 2, 1) := by decide +kernel
theorem dL_law_393 : decode cL_law 393 = .ok (.aload_n 0, 1) := by decide +kernel
theorem dL_law_394 : decode cL_law 394 = .ok (.iload_n 3, 1) := by decide +kernel
theorem dL_law_395 : decode cL_law 395 = .ok (.iconst 1, 1) := by decide +kernel
theorem dL_law_396 : decode cL_law 396 = .ok (.iadd, 1) := by decide +kernel
theorem dL_law_397 : decode cL_law 397 = .ok (.iaload, 1) := by decide +kernel
theorem dL_law_398 : decode cL_law 398 = .ok (.invokevirtual 50, 3) := by decide +kernel
theorem dL_law_401 : decode cL_law 401 = .ok (.if_icmp .eq 521, 3) := by decide +kernel
theorem dL_law_404 : decode cL_law 404 = .ok (.iconst 0, 1) := by decide +kernel
theorem dL_law_405 : decode cL_law 405 = .ok (.ireturn, 1) := by decide +kernel
theorem dL_law_406 : decode cL_law 406 = .ok (.aload_n 1, 1) := by decide +kernel
theorem dL_law_407 : decode cL_law 407 = .ok (.aload_n 0, 1) := by decide +kernel
theorem dL_law_408 : decode cL_law 408 = .ok (.iload_n 3, 1) := by decide +kernel
theorem dL_law_409 : decode cL_law 409 = .ok (.iconst 1, 1) := by decide +kernel
theorem dL_law_410 : decode cL_law 410 = .ok (.iadd, 1) := by decide +kernel
theorem dL_law_411 : decode cL_law 411 = .ok (.iaload, 1) := by decide +kernel
theorem dL_law_412 : decode cL_law 412 = .ok (.aload_n 0, 1) := by decide +kernel
theorem dL_law_413 : decode cL_law 413 = .ok (.iload_n 3, 1) := by decide +kernel
theorem dL_law_414 : decode cL_law 414 = .ok (.iconst 2, 1) := by decide +kernel
theorem dL_law_415 : decode cL_law 415 = .ok (.iadd, 1) := by decide +kernel
theorem dL_law_416 : decode cL_law 416 = .ok (.iaload, 1) := by decide +kernel
theorem dL_law_417 : decode cL_law 417 = .ok (.invokevirtual 51, 3) := by decide +kernel
theorem dL_law_420 : decode cL_law 420 = .ok (.aload_n 2, 1) := by decide +kernel
theorem dL_law_421 : decode cL_law 421 = .ok (.aload_n 0, 1) := by decide +kernel
theorem dL_law_422 : decode cL_law 422 = .ok (.iload_n 3, 1) := by decide +kernel
theorem dL_law_423 : decode cL_law 423 = .ok (.iconst 1, 1) := by decide +kernel
theorem dL_law_424 : decode cL_law 424 = .ok (.iadd, 1) := by decide +kernel
theorem dL_law_425 : decode cL_law 425 = .ok (.iaload, 1) := by decide +kernel
theorem dL_law_426 : decode cL_law 426 = .ok (.aload_n 0, 1) := by decide +kernel
theorem dL_law_427 : decode cL_law 427 = .ok (.iload_n 3, 1) := by decide +kernel
theorem dL_law_428 : decode cL_law 428 = .ok (.iconst 2, 1) := by decide +kernel
theorem dL_law_429 : decode cL_law 429 = .ok (.iadd, 1) := by decide +kernel
theorem dL_law_430 : decode cL_law 430 = .ok (.iaload, 1) := by decide +kernel
theorem dL_law_431 : decode cL_law 431 = .ok (.invokevirtual 54, 3) := by decide +kernel
theorem dL_law_434 : decode cL_law 434 = .ok (.if_icmp .eq 488, 3) := by decide +kernel
theorem dL_law_437 : decode cL_law 437 = .ok (.iconst 0, 1) := by decide +kernel
theorem dL_law_438 : decode cL_law 438 = .ok (.ireturn, 1) := by decide +kernel
theorem dL_law_439 : decode cL_law 439 = .ok (.aload_n 1, 1) := by decide +kernel
theorem dL_law_440 : decode cL_law 440 = .ok (.aload_n 0, 1) := by decide +kernel
theorem dL_law_441 : decode cL_law 441 = .ok (.iload_n 3, 1) := by decide +kernel
theorem dL_law_442 : decode cL_law 442 = .ok (.iconst 1, 1) := by decide +kernel
theorem dL_law_443 : decode cL_law 443 = .ok (.iadd, 1) := by decide +kernel
theorem dL_law_444 : decode cL_law 444 = .ok (.iaload, 1) := by decide +kernel
theorem dL_law_445 : decode cL_law 445 = .ok (.aload_n 0, 1) := by decide +kernel
theorem dL_law_446 : decode cL_law 446 = .ok (.iload_n 3, 1) := by decide +kernel
theorem dL_law_447 : decode cL_law 447 = .ok (.iconst 2, 1) := by decide +kernel
theorem dL_law_448 : decode cL_law 448 = .ok (.iadd, 1) := by decide +kernel
theorem dL_law_449 : decode cL_law 449 = .ok (.iaload, 1) := by decide +kernel
theorem dL_law_450 : decode cL_law 450 = .ok (.invokevirtual 55, 3) := by decide +kernel
theorem dL_law_453 : decode cL_law 453 = .ok (.aload_n 2, 1) := by decide +kernel
theorem dL_law_454 : decode cL_law 454 = .ok (.aload_n 0, 1) := by decide +kernel
theorem dL_law_455 : decode cL_law 455 = .ok (.iload_n 3, 1) := by decide +kernel
theorem dL_law_456 : decode cL_law 456 = .ok (.iconst 1, 1) := by decide +kernel
theorem dL_law_457 : decode cL_law 457 = .ok (.iadd, 1) := by decide +kernel
theorem dL_law_458 : decode cL_law 458 = .ok (.iaload, 1) := by decide +kernel
theorem dL_law_459 : decode cL_law 459 = .ok (.aload_n 0, 1) := by decide +kernel
theorem dL_law_460 : decode cL_law 460 = .ok (.iload_n 3, 1) := by decide +kernel
theorem dL_law_461 : decode cL_law 461 = .ok (.iconst 2, 1) := by decide +kernel
theorem dL_law_462 : decode cL_law 462 = .ok (.iadd, 1) := by decide +kernel
theorem dL_law_463 : decode cL_law 463 = .ok (.iaload, 1) := by decide +kernel
theorem dL_law_464 : decode cL_law 464 = .ok (.invokevirtual 58, 3) := by decide +kernel
theorem dL_law_467 : decode cL_law 467 = .ok (.if_icmp .eq 455, 3) := by decide +kernel
theorem dL_law_470 : decode cL_law 470 = .ok (.iconst 0, 1) := by decide +kernel
theorem dL_law_471 : decode cL_law 471 = .ok (.ireturn, 1) := by decide +kernel
theorem dL_law_472 : decode cL_law 472 = .ok (.aload_n 1, 1) := by decide +kernel
theorem dL_law_473 : decode cL_law 473 = .ok (.aload_n 0, 1) := by decide +kernel
theorem dL_law_474 : decode cL_law 474 = .ok (.iload_n 3, 1) := by decide +kernel
theorem dL_law_475 : decode cL_law 475 = .ok (.iconst 1, 1) := by decide +kernel
theorem dL_law_476 : decode cL_law 476 = .ok (.iadd, 1) := by decide +kernel
theorem dL_law_477 : decode cL_law 477 = .ok (.iaload, 1) := by decide +kernel
theorem dL_law_478 : decode cL_law 478 = .ok (.invokevirtual 59, 3) := by decide +kernel
theorem dL_law_481 : decode cL_law 481 = .ok (.aload_n 2, 1) := by decide +kernel
theorem dL_law_482 : decode cL_law 482 = .ok (.aload_n 0, 1) := by decide +kernel
theorem dL_law_483 : decode cL_law 483 = .ok (.iload_n 3, 1) := by decide +kernel
theorem dL_law_484 : decode cL_law 484 = .ok (.iconst 1, 1) := by decide +kernel
theorem dL_law_485 : decode cL_law 485 = .ok (.iadd, 1) := by decide +kernel
theorem dL_law_486 : decode cL_law 486 = .ok (.iaload, 1) := by decide +kernel
theorem dL_law_487 : decode cL_law 487 = .ok (.invokevirtual 62, 3) := by decide +kernel
theorem dL_law_490 : decode cL_law 490 = .ok (.if_icmp .eq 432, 3) := by decide +kernel
theorem dL_law_493 : decode cL_law 493 = .ok (.iconst 0, 1) := by decide +kernel
theorem dL_law_494 : decode cL_law 494 = .ok (.ireturn, 1) := by decide +kernel
theorem dL_law_495 : decode cL_law 495 = .ok (.aload_n 1, 1) := by decide +kernel
theorem dL_law_496 : decode cL_law 496 = .ok (.aload_n 0, 1) := by decide +kernel
theorem dL_law_497 : decode cL_law 497 = .ok (.iload_n 3, 1) := by decide +kernel
theorem dL_law_498 : decode cL_law 498 = .ok (.iconst 1, 1) := by decide +kernel
theorem dL_law_499 : decode cL_law 499 = .ok (.iadd, 1) := by decide +kernel
theorem dL_law_500 : decode cL_law 500 = .ok (.iaload, 1) := by decide +kernel
theorem dL_law_501 : decode cL_law 501 = .ok (.aload_n 0, 1) := by decide +kernel
theorem dL_law_502 : decode cL_law 502 = .ok (.iload_n 3, 1) := by decide +kernel
theorem dL_law_503 : decode cL_law 503 = .ok (.iconst 2, 1) := by decide +kernel
theorem dL_law_504 : decode cL_law 504 = .ok (.iadd, 1) := by decide +kernel
theorem dL_law_505 : decode cL_law 505 = .ok (.iaload, 1) := by decide +kernel
theorem dL_law_506 : decode cL_law 506 = .ok (.invokevirtual 63, 3) := by decide +kernel
theorem dL_law_509 : decode cL_law 509 = .ok (.aload_n 2, 1) := by decide +kernel
theorem dL_law_510 : decode cL_law 510 = .ok (.aload_n 0, 1) := by decide +kernel
theorem dL_law_511 : decode cL_law 511 = .ok (.iload_n 3, 1) := by decide +kernel
theorem dL_law_512 : decode cL_law 512 = .ok (.iconst 1, 1) := by decide +kernel
theorem dL_law_513 : decode cL_law 513 = .ok (.iadd, 1) := by decide +kernel
theorem dL_law_514 : decode cL_law 514 = .ok (.iaload, 1) := by decide +kernel
theorem dL_law_515 : decode cL_law 515 = .ok (.aload_n 0, 1) := by decide +kernel
theorem dL_law_516 : decode cL_law 516 = .ok (.iload_n 3, 1) := by decide +kernel
theorem dL_law_517 : decode cL_law 517 = .ok (.iconst 2, 1) := by decide +kernel
theorem dL_law_518 : decode cL_law 518 = .ok (.iadd, 1) := by decide +kernel
theorem dL_law_519 : decode cL_law 519 = .ok (.iaload, 1) := by decide +kernel
theorem dL_law_520 : decode cL_law 520 = .ok (.invokevirtual 66, 3) := by decide +kernel
theorem dL_law_523 : decode cL_law 523 = .ok (.if_icmp .eq 399, 3) := by decide +kernel
theorem dL_law_526 : decode cL_law 526 = .ok (.iconst 0, 1) := by decide +kernel
theorem dL_law_527 : decode cL_law 527 = .ok (.ireturn, 1) := by decide +kernel
theorem dL_law_528 : decode cL_law 528 = .ok (.aload_n 1, 1) := by decide +kernel
theorem dL_law_529 : decode cL_law 529 = .ok (.aload_n 0, 1) := by decide +kernel
theorem dL_law_530 : decode cL_law 530 = .ok (.iload_n 3, 1) := by decide +kernel
theorem dL_law_531 : decode cL_law 531 = .ok (.iconst 1, 1) := by decide +kernel
theorem dL_law_532 : decode cL_law 532 = .ok (.iadd, 1) := by decide +kernel
theorem dL_law_533 : decode cL_law 533 = .ok (.iaload, 1) := by decide +kernel
theorem dL_law_534 : decode cL_law 534 = .ok (.invokevirtual 67, 3) := by decide +kernel
theorem dL_law_537 : decode cL_law 537 = .ok (.aload_n 2, 1) := by decide +kernel
theorem dL_law_538 : decode cL_law 538 = .ok (.aload_n 0, 1) := by decide +kernel
theorem dL_law_539 : decode cL_law 539 = .ok (.iload_n 3, 1) := by decide +kernel
theorem dL_law_540 : decode cL_law 540 = .ok (.iconst 1, 1) := by decide +kernel
theorem dL_law_541 : decode cL_law 541 = .ok (.iadd, 1) := by decide +kernel
theorem dL_law_542 : decode cL_law 542 = .ok (.iaload, 1) := by decide +kernel
theorem dL_law_543 : decode cL_law 543 = .ok (.invokevirtual 70, 3) := by decide +kernel
theorem dL_law_546 : decode cL_law 546 = .ok (.if_icmp .eq 376, 3) := by decide +kernel
theorem dL_law_549 : decode cL_law 549 = .ok (.iconst 0, 1) := by decide +kernel
theorem dL_law_550 : decode cL_law 550 = .ok (.ireturn, 1) := by decide +kernel
theorem dL_law_551 : decode cL_law 551 = .ok (.aload_n 1, 1) := by decide +kernel
theorem dL_law_552 : decode cL_law 552 = .ok (.aload_n 0, 1) := by decide +kernel
theorem dL_law_553 : decode cL_law 553 = .ok (.iload_n 3, 1) := by decide +kernel
theorem dL_law_554 : decode cL_law 554 = .ok (.iconst 1, 1) := by decide +kernel
theorem dL_law_555 : decode cL_law 555 = .ok (.iadd, 1) := by decide +kernel
theorem dL_law_556 : decode cL_law 556 = .ok (.iaload, 1) := by decide +kernel
theorem dL_law_557 : decode cL_law 557 = .ok (.ifCond .eq 7, 3) := by decide +kernel
theorem dL_law_560 : decode cL_law 560 = .ok (.iconst 1, 1) := by decide +kernel
theorem dL_law_561 : decode cL_law 561 = .ok (.goto 4, 3) := by decide +kernel
theorem dL_law_564 : decode cL_law 564 = .ok (.iconst 0, 1) := by decide +kernel
theorem dL_law_565 : decode cL_law 565 = .ok (.invokevirtual 71, 3) := by decide +kernel
theorem dL_law_568 : decode cL_law 568 = .ok (.aload_n 2, 1) := by decide +kernel
theorem dL_law_569 : decode cL_law 569 = .ok (.aload_n 0, 1) := by decide +kernel
theorem dL_law_570 : decode cL_law 570 = .ok (.iload_n 3, 1) := by decide +kernel
theorem dL_law_571 : decode cL_law 571 = .ok (.iconst 1, 1) := by decide +kernel
theorem dL_law_572 : decode cL_law 572 = .ok (.iadd, 1) := by decide +kernel
theorem dL_law_573 : decode cL_law 573 = .ok (.iaload, 1) := by decide +kernel
theorem dL_law_574 : decode cL_law 574 = .ok (.ifCond .eq 7, 3) := by decide +kernel
theorem dL_law_577 : decode cL_law 577 = .ok (.iconst 1, 1) := by decide +kernel
theorem dL_law_578 : decode cL_law 578 = .ok (.goto 4, 3) := by decide +kernel
theorem dL_law_581 : decode cL_law 581 = .ok (.iconst 0, 1) := by decide +kernel
theorem dL_law_582 : decode cL_law 582 = .ok (.invokevirtual 75, 3) := by decide +kernel
theorem dL_law_585 : decode cL_law 585 = .ok (.if_icmp .eq 337, 3) := by decide +kernel
theorem dL_law_588 : decode cL_law 588 = .ok (.iconst 0, 1) := by decide +kernel
theorem dL_law_589 : decode cL_law 589 = .ok (.ireturn, 1) := by decide +kernel
theorem dL_law_590 : decode cL_law 590 = .ok (.aload_n 1, 1) := by decide +kernel
theorem dL_law_591 : decode cL_law 591 = .ok (.aload_n 0, 1) := by decide +kernel
theorem dL_law_592 : decode cL_law 592 = .ok (.iload_n 3, 1) := by decide +kernel
theorem dL_law_593 : decode cL_law 593 = .ok (.iconst 1, 1) := by decide +kernel
theorem dL_law_594 : decode cL_law 594 = .ok (.iadd, 1) := by decide +kernel
theorem dL_law_595 : decode cL_law 595 = .ok (.iaload, 1) := by decide +kernel
theorem dL_law_596 : decode cL_law 596 = .ok (.aload_n 0, 1) := by decide +kernel
theorem dL_law_597 : decode cL_law 597 = .ok (.iload_n 3, 1) := by decide +kernel
theorem dL_law_598 : decode cL_law 598 = .ok (.iconst 2, 1) := by decide +kernel
theorem dL_law_599 : decode cL_law 599 = .ok (.iadd, 1) := by decide +kernel
theorem dL_law_600 : decode cL_law 600 = .ok (.iaload, 1) := by decide +kernel
theorem dL_law_601 : decode cL_law 601 = .ok (.invokevirtual 76, 3) := by decide +kernel
theorem dL_law_604 : decode cL_law 604 = .ok (.aload_n 2, 1) := by decide +kernel
theorem dL_law_605 : decode cL_law 605 = .ok (.aload_n 0, 1) := by decide +kernel
theorem dL_law_606 : decode cL_law 606 = .ok (.iload_n 3, 1) := by decide +kernel
theorem dL_law_607 : decode cL_law 607 = .ok (.iconst 1, 1) := by decide +kernel
theorem dL_law_608 : decode cL_law 608 = .ok (.iadd, 1) := by decide +kernel
theorem dL_law_609 : decode cL_law 609 = .ok (.iaload, 1) := by decide +kernel
theorem dL_law_610 : decode cL_law 610 = .ok (.aload_n 0, 1) := by decide +kernel
theorem dL_law_611 : decode cL_law 611 = .ok (.iload_n 3, 1) := by decide +kernel
theorem dL_law_612 : decode cL_law 612 = .ok (.iconst 2, 1) := by decide +kernel
theorem dL_law_613 : decode cL_law 613 = .ok (.iadd, 1) := by decide +kernel
theorem dL_law_614 : decode cL_law 614 = .ok (.iaload, 1) := by decide +kernel
theorem dL_law_615 : decode cL_law 615 = .ok (.invokevirtual 79, 3) := by decide +kernel
theorem dL_law_618 : decode cL_law 618 = .ok (.if_icmp .eq 304, 3) := by decide +kernel
theorem dL_law_621 : decode cL_law 621 = .ok (.iconst 0, 1) := by decide +kernel
theorem dL_law_622 : decode cL_law 622 = .ok (.ireturn, 1) := by decide +kernel
theorem dL_law_623 : decode cL_law 623 = .ok (.aload_n 1, 1) := by decide +kernel
theorem dL_law_624 : decode cL_law 624 = .ok (.invokevirtual 80, 3) := by decide +kernel
theorem dL_law_627 : decode cL_law 627 = .ok (.aload_n 2, 1) := by decide +kernel
theorem dL_law_628 : decode cL_law 628 = .ok (.invokevirtual 83, 3) := by decide +kernel
theorem dL_law_631 : decode cL_law 631 = .ok (.if_icmp .eq 291, 3) := by decide +kernel
theorem dL_law_634 : decode cL_law 634 = .ok (.iconst 0, 1) := by decide +kernel
theorem dL_law_635 : decode cL_law 635 = .ok (.ireturn, 1) := by decide +kernel
theorem dL_law_636 : decode cL_law 636 = .ok (.aload_n 1, 1) := by decide +kernel
theorem dL_law_637 : decode cL_law 637 = .ok (.aload_n 0, 1) := by decide +kernel
theorem dL_law_638 : decode cL_law 638 = .ok (.iload_n 3, 1) := by decide +kernel
theorem dL_law_639 : decode cL_law 639 = .ok (.iconst 1, 1) := by decide +kernel
theorem dL_law_640 : decode cL_law 640 = .ok (.iadd, 1) := by decide +kernel
theorem dL_law_641 : decode cL_law 641 = .ok (.iaload, 1) := by decide +kernel
theorem dL_law_642 : decode cL_law 642 = .ok (.invokevirtual 84, 3) := by decide +kernel
theorem dL_law_645 : decode cL_law 645 = .ok (.aload_n 2, 1) := by decide +kernel
theorem dL_law_646 : decode cL_law 646 = .ok (.aload_n 0, 1) := by decide +kernel
theorem dL_law_647 : decode cL_law 647 = .ok (.iload_n 3, 1) := by decide +kernel
theorem dL_law_648 : decode cL_law 648 = .ok (.iconst 1, 1) := by decide +kernel
theorem dL_law_649 : decode cL_law 649 = .ok (.iadd, 1) := by decide +kernel
theorem dL_law_650 : decode cL_law 650 = .ok (.iaload, 1) := by decide +kernel
theorem dL_law_651 : decode cL_law 651 = .ok (.invokevirtual 87, 3) := by decide +kernel
theorem dL_law_654 : decode cL_law 654 = .ok (.if_icmp .eq 268, 3) := by decide +kernel
theorem dL_law_657 : decode cL_law 657 = .ok (.iconst 0, 1) := by decide +kernel
theorem dL_law_658 : decode cL_law 658 = .ok (.ireturn, 1) := by decide +kernel
theorem dL_law_659 : decode cL_law 659 = .ok (.aload_n 1, 1) := by decide +kernel
theorem dL_law_660 : decode cL_law 660 = .ok (.aload_n 0, 1) := by decide +kernel
theorem dL_law_661 : decode cL_law 661 = .ok (.iload_n 3, 1) := by decide +kernel
theorem dL_law_662 : decode cL_law 662 = .ok (.iconst 1, 1) := by decide +kernel
theorem dL_law_663 : decode cL_law 663 = .ok (.iadd, 1) := by decide +kernel
theorem dL_law_664 : decode cL_law 664 = .ok (.iaload, 1) := by decide +kernel
theorem dL_law_665 : decode cL_law 665 = .ok (.invokevirtual 88, 3) := by decide +kernel
theorem dL_law_668 : decode cL_law 668 = .ok (.aload_n 2, 1) := by decide +kernel
theorem dL_law_669 : decode cL_law 669 = .ok (.aload_n 0, 1) := by decide +kernel
theorem dL_law_670 : decode cL_law 670 = .ok (.iload_n 3, 1) := by decide +kernel
theorem dL_law_671 : decode cL_law 671 = .ok (.iconst 1, 1) := by decide +kernel
theorem dL_law_672 : decode cL_law 672 = .ok (.iadd, 1) := by decide +kernel
theorem dL_law_673 : decode cL_law 673 = .ok (.iaload, 1) := by decide +kernel
theorem dL_law_674 : decode cL_law 674 = .ok (.invokevirtual 91, 3) := by decide +kernel
theorem dL_law_677 : decode cL_law 677 = .ok (.if_icmp .eq 245, 3) := by decide +kernel
theorem dL_law_680 : decode cL_law 680 = .ok (.iconst 0, 1) := by decide +kernel
theorem dL_law_681 : decode cL_law 681 = .ok (.ireturn, 1) := by decide +kernel
theorem dL_law_682 : decode cL_law 682 = .ok (.aload_n 1, 1) := by decide +kernel
theorem dL_law_683 : decode cL_law 683 = .ok (.aload_n 0, 1) := by decide +kernel
theorem dL_law_684 : decode cL_law 684 = .ok (.iload_n 3, 1) := by decide +kernel
theorem dL_law_685 : decode cL_law 685 = .ok (.iconst 1, 1) := by decide +kernel
theorem dL_law_686 : decode cL_law 686 = .ok (.iadd, 1) := by decide +kernel
theorem dL_law_687 : decode cL_law 687 = .ok (.iaload, 1) := by decide +kernel
theorem dL_law_688 : decode cL_law 688 = .ok (.invokevirtual 92, 3) := by decide +kernel
theorem dL_law_691 : decode cL_law 691 = .ok (.aload_n 2, 1) := by decide +kernel
theorem dL_law_692 : decode cL_law 692 = .ok (.aload_n 0, 1) := by decide +kernel
theorem dL_law_693 : decode cL_law 693 = .ok (.iload_n 3, 1) := by decide +kernel
theorem dL_law_694 : decode cL_law 694 = .ok (.iconst 1, 1) := by decide +kernel
theorem dL_law_695 : decode cL_law 695 = .ok (.iadd, 1) := by decide +kernel
theorem dL_law_696 : decode cL_law 696 = .ok (.iaload, 1) := by decide +kernel
theorem dL_law_697 : decode cL_law 697 = .ok (.invokevirtual 95, 3) := by decide +kernel
theorem dL_law_700 : decode cL_law 700 = .ok (.if_icmp .eq 222, 3) := by decide +kernel
theorem dL_law_703 : decode cL_law 703 = .ok (.iconst 0, 1) := by decide +kernel
theorem dL_law_704 : decode cL_law 704 = .ok (.ireturn, 1) := by decide +kernel
theorem dL_law_705 : decode cL_law 705 = .ok (.aload_n 1, 1) := by decide +kernel
theorem dL_law_706 : decode cL_law 706 = .ok (.aload_n 0, 1) := by decide +kernel
theorem dL_law_707 : decode cL_law 707 = .ok (.iload_n 3, 1) := by decide +kernel
theorem dL_law_708 : decode cL_law 708 = .ok (.iconst 1, 1) := by decide +kernel
theorem dL_law_709 : decode cL_law 709 = .ok (.iadd, 1) := by decide +kernel
theorem dL_law_710 : decode cL_law 710 = .ok (.iaload, 1) := by decide +kernel
theorem dL_law_711 : decode cL_law 711 = .ok (.invokevirtual 96, 3) := by decide +kernel
theorem dL_law_714 : decode cL_law 714 = .ok (.aload_n 2, 1) := by decide +kernel
theorem dL_law_715 : decode cL_law 715 = .ok (.aload_n 0, 1) := by decide +kernel
theorem dL_law_716 : decode cL_law 716 = .ok (.iload_n 3, 1) := by decide +kernel
theorem dL_law_717 : decode cL_law 717 = .ok (.iconst 1, 1) := by decide +kernel
theorem dL_law_718 : decode cL_law 718 = .ok (.iadd, 1) := by decide +kernel
theorem dL_law_719 : decode cL_law 719 = .ok (.iaload, 1) := by decide +kernel
theorem dL_law_720 : decode cL_law 720 = .ok (.invokevirtual 99, 3) := by decide +kernel
theorem dL_law_723 : decode cL_law 723 = .ok (.if_icmp .eq 199, 3) := by decide +kernel
theorem dL_law_726 : decode cL_law 726 = .ok (.iconst 0, 1) := by decide +kernel
theorem dL_law_727 : decode cL_law 727 = .ok (.ireturn, 1) := by decide +kernel
theorem dL_law_728 : decode cL_law 728 = .ok (.aload_n 1, 1) := by decide +kernel
theorem dL_law_729 : decode cL_law 729 = .ok (.aload_n 0, 1) := by decide +kernel
theorem dL_law_730 : decode cL_law 730 = .ok (.iload_n 3, 1) := by decide +kernel
theorem dL_law_731 : decode cL_law 731 = .ok (.iconst 1, 1) := by decide +kernel
theorem dL_law_732 : decode cL_law 732 = .ok (.iadd, 1) := by decide +kernel
theorem dL_law_733 : decode cL_law 733 = .ok (.iaload, 1) := by decide +kernel
theorem dL_law_734 : decode cL_law 734 = .ok (.invokevirtual 100, 3) := by decide +kernel
theorem dL_law_737 : decode cL_law 737 = .ok (.aload_n 2, 1) := by decide +kernel
theorem dL_law_738 : decode cL_law 738 = .ok (.aload_n 0, 1) := by decide +kernel
theorem dL_law_739 : decode cL_law 739 = .ok (.iload_n 3, 1) := by decide +kernel
theorem dL_law_740 : decode cL_law 740 = .ok (.iconst 1, 1) := by decide +kernel
theorem dL_law_741 : decode cL_law 741 = .ok (.iadd, 1) := by decide +kernel
theorem dL_law_742 : decode cL_law 742 = .ok (.iaload, 1) := by decide +kernel
theorem dL_law_743 : decode cL_law 743 = .ok (.invokevirtual 103, 3) := by decide +kernel
theorem dL_law_746 : decode cL_law 746 = .ok (.if_icmp .eq 176, 3) := by decide +kernel
theorem dL_law_749 : decode cL_law 749 = .ok (.iconst 0, 1) := by decide +kernel
theorem dL_law_750 : decode cL_law 750 = .ok (.ireturn, 1) := by decide +kernel
theorem dL_law_751 : decode cL_law 751 = .ok (.aload_n 1, 1) := by decide +kernel
theorem dL_law_752 : decode cL_law 752 = .ok (.aload_n 0, 1) := by decide +kernel
theorem dL_law_753 : decode cL_law 753 = .ok (.iload_n 3, 1) := by decide +kernel
theorem dL_law_754 : decode cL_law 754 = .ok (.iconst 1, 1) := by decide +kernel
theorem dL_law_755 : decode cL_law 755 = .ok (.iadd, 1) := by decide +kernel
theorem dL_law_756 : decode cL_law 756 = .ok (.iaload, 1) := by decide +kernel
theorem dL_law_757 : decode cL_law 757 = .ok (.aload_n 0, 1) := by decide +kernel
theorem dL_law_758 : decode cL_law 758 = .ok (.iload_n 3, 1) := by decide +kernel
theorem dL_law_759 : decode cL_law 759 = .ok (.iconst 2, 1) := by decide +kernel
theorem dL_law_760 : decode cL_law 760 = .ok (.iadd, 1) := by decide +kernel
theorem dL_law_761 : decode cL_law 761 = .ok (.iaload, 1) := by decide +kernel
theorem dL_law_762 : decode cL_law 762 = .ok (.invokevirtual 104, 3) := by decide +kernel
theorem dL_law_765 : decode cL_law 765 = .ok (.aload_n 2, 1) := by decide +kernel
theorem dL_law_766 : decode cL_law 766 = .ok (.aload_n 0, 1) := by decide +kernel
theorem dL_law_767 : decode cL_law 767 = .ok (.iload_n 3, 1) := by decide +kernel
theorem dL_law_768 : decode cL_law 768 = .ok (.iconst 1, 1) := by decide +kernel
theorem dL_law_769 : decode cL_law 769 = .ok (.iadd, 1) := by decide +kernel
theorem dL_law_770 : decode cL_law 770 = .ok (.iaload, 1) := by decide +kernel
theorem dL_law_771 : decode cL_law 771 = .ok (.aload_n 0, 1) := by decide +kernel
theorem dL_law_772 : decode cL_law 772 = .ok (.iload_n 3, 1) := by decide +kernel
theorem dL_law_773 : decode cL_law 773 = .ok (.iconst 2, 1) := by decide +kernel
theorem dL_law_774 : decode cL_law 774 = .ok (.iadd, 1) := by decide +kernel
theorem dL_law_775 : decode cL_law 775 = .ok (.iaload, 1) := by decide +kernel
theorem dL_law_776 : decode cL_law 776 = .ok (.invokevirtual 107, 3) := by decide +kernel
theorem dL_law_779 : decode cL_law 779 = .ok (.if_icmp .eq 143, 3) := by decide +kernel
theorem dL_law_782 : decode cL_law 782 = .ok (.iconst 0, 1) := by decide +kernel
theorem dL_law_783 : decode cL_law 783 = .ok (.ireturn, 1) := by decide +kernel
theorem dL_law_784 : decode cL_law 784 = .ok (.aload_n 1, 1) := by decide +kernel
theorem dL_law_785 : decode cL_law 785 = .ok (.aload_n 0, 1) := by decide +kernel
theorem dL_law_786 : decode cL_law 786 = .ok (.iload_n 3, 1) := by decide +kernel
theorem dL_law_787 : decode cL_law 787 = .ok (.iconst 1, 1) := by decide +kernel
theorem dL_law_788 : decode cL_law 788 = .ok (.iadd, 1) := by decide +kernel
theorem dL_law_789 : decode cL_law 789 = .ok (.iaload, 1) := by decide +kernel
theorem dL_law_790 : decode cL_law 790 = .ok (.aload_n 0, 1) := by decide +kernel
theorem dL_law_791 : decode cL_law 791 = .ok (.iload_n 3, 1) := by decide +kernel
theorem dL_law_792 : decode cL_law 792 = .ok (.iconst 2, 1) := by decide +kernel
theorem dL_law_793 : decode cL_law 793 = .ok (.iadd, 1) := by decide +kernel
theorem dL_law_794 : decode cL_law 794 = .ok (.iaload, 1) := by decide +kernel
theorem dL_law_795 : decode cL_law 795 = .ok (.aload_n 0, 1) := by decide +kernel
theorem dL_law_796 : decode cL_law 796 = .ok (.iload_n 3, 1) := by decide +kernel
theorem dL_law_797 : decode cL_law 797 = .ok (.iconst 3, 1) := by decide +kernel
theorem dL_law_798 : decode cL_law 798 = .ok (.iadd, 1) := by decide +kernel
theorem dL_law_799 : decode cL_law 799 = .ok (.iaload, 1) := by decide +kernel
theorem dL_law_800 : decode cL_law 800 = .ok (.ifCond .eq 7, 3) := by decide +kernel
theorem dL_law_803 : decode cL_law 803 = .ok (.iconst 1, 1) := by decide +kernel
theorem dL_law_804 : decode cL_law 804 = .ok (.goto 4, 3) := by decide +kernel
theorem dL_law_807 : decode cL_law 807 = .ok (.iconst 0, 1) := by decide +kernel
theorem dL_law_808 : decode cL_law 808 = .ok (.invokevirtual 108, 3) := by decide +kernel
theorem dL_law_811 : decode cL_law 811 = .ok (.aload_n 2, 1) := by decide +kernel
theorem dL_law_812 : decode cL_law 812 = .ok (.aload_n 0, 1) := by decide +kernel
theorem dL_law_813 : decode cL_law 813 = .ok (.iload_n 3, 1) := by decide +kernel
theorem dL_law_814 : decode cL_law 814 = .ok (.iconst 1, 1) := by decide +kernel
theorem dL_law_815 : decode cL_law 815 = .ok (.iadd, 1) := by decide +kernel
theorem dL_law_816 : decode cL_law 816 = .ok (.iaload, 1) := by decide +kernel
theorem dL_law_817 : decode cL_law 817 = .ok (.aload_n 0, 1) := by decide +kernel
theorem dL_law_818 : decode cL_law 818 = .ok (.iload_n 3, 1) := by decide +kernel
theorem dL_law_819 : decode cL_law 819 = .ok (.iconst 2, 1) := by decide +kernel
theorem dL_law_820 : decode cL_law 820 = .ok (.iadd, 1) := by decide +kernel
theorem dL_law_821 : decode cL_law 821 = .ok (.iaload, 1) := by decide +kernel
theorem dL_law_822 : decode cL_law 822 = .ok (.aload_n 0, 1) := by decide +kernel
theorem dL_law_823 : decode cL_law 823 = .ok (.iload_n 3, 1) := by decide +kernel
theorem dL_law_824 : decode cL_law 824 = .ok (.iconst 3, 1) := by decide +kernel
theorem dL_law_825 : decode cL_law 825 = .ok (.iadd, 1) := by decide +kernel
theorem dL_law_826 : decode cL_law 826 = .ok (.iaload, 1) := by decide +kernel
theorem dL_law_827 : decode cL_law 827 = .ok (.ifCond .eq 7, 3) := by decide +kernel
theorem dL_law_830 : decode cL_law 830 = .ok (.iconst 1, 1) := by decide +kernel
theorem dL_law_831 : decode cL_law 831 = .ok (.goto 4, 3) := by decide +kernel
theorem dL_law_834 : decode cL_law 834 = .ok (.iconst 0, 1) := by decide +kernel
theorem dL_law_835 : decode cL_law 835 = .ok (.invokevirtual 112, 3) := by decide +kernel
theorem dL_law_838 : decode cL_law 838 = .ok (.if_icmp .eq 84, 3) := by decide +kernel
theorem dL_law_841 : decode cL_law 841 = .ok (.iconst 0, 1) := by decide +kernel
theorem dL_law_842 : decode cL_law 842 = .ok (.ireturn, 1) := by decide +kernel
theorem dL_law_843 : decode cL_law 843 = .ok (.aload_n 1, 1) := by decide +kernel
theorem dL_law_844 : decode cL_law 844 = .ok (.aload_n 0, 1) := by decide +kernel
theorem dL_law_845 : decode cL_law 845 = .ok (.iload_n 3, 1) := by decide +kernel
theorem dL_law_846 : decode cL_law 846 = .ok (.iconst 1, 1) := by decide +kernel
theorem dL_law_847 : decode cL_law 847 = .ok (.iadd, 1) := by decide +kernel
theorem dL_law_848 : decode cL_law 848 = .ok (.iaload, 1) := by decide +kernel
theorem dL_law_849 : decode cL_law 849 = .ok (.invokevirtual 113, 3) := by decide +kernel
theorem dL_law_852 : decode cL_law 852 = .ok (.aload_n 2, 1) := by decide +kernel
theorem dL_law_853 : decode cL_law 853 = .ok (.aload_n 0, 1) := by decide +kernel
theorem dL_law_854 : decode cL_law 854 = .ok (.iload_n 3, 1) := by decide +kernel
theorem dL_law_855 : decode cL_law 855 = .ok (.iconst 1, 1) := by decide +kernel
theorem dL_law_856 : decode cL_law 856 = .ok (.iadd, 1) := by decide +kernel
theorem dL_law_857 : decode cL_law 857 = .ok (.iaload, 1) := by decide +kernel
theorem dL_law_858 : decode cL_law 858 = .ok (.invokevirtual 116, 3) := by decide +kernel
theorem dL_law_861 : decode cL_law 861 = .ok (.if_icmp .eq 61, 3) := by decide +kernel
theorem dL_law_864 : decode cL_law 864 = .ok (.iconst 0, 1) := by decide +kernel
theorem dL_law_865 : decode cL_law 865 = .ok (.ireturn, 1) := by decide +kernel
theorem dL_law_866 : decode cL_law 866 = .ok (.aload_n 1, 1) := by decide +kernel
theorem dL_law_867 : decode cL_law 867 = .ok (.aload_n 0, 1) := by decide +kernel
theorem dL_law_868 : decode cL_law 868 = .ok (.iload_n 3, 1) := by decide +kernel
theorem dL_law_869 : decode cL_law 869 = .ok (.iconst 1, 1) := by decide +kernel
theorem dL_law_870 : decode cL_law 870 = .ok (.iadd, 1) := by decide +kernel
theorem dL_law_871 : decode cL_law 871 = .ok (.iaload, 1) := by decide +kernel
theorem dL_law_872 : decode cL_law 872 = .ok (.aload_n 0, 1) := by decide +kernel
theorem dL_law_873 : decode cL_law 873 = .ok (.iload_n 3, 1) := by decide +kernel
theorem dL_law_874 : decode cL_law 874 = .ok (.iconst 2, 1) := by decide +kernel
theorem dL_law_875 : decode cL_law 875 = .ok (.iadd, 1) := by decide +kernel
theorem dL_law_876 : decode cL_law 876 = .ok (.iaload, 1) := by decide +kernel
theorem dL_law_877 : decode cL_law 877 = .ok (.invokevirtual 117, 3) := by decide +kernel
theorem dL_law_880 : decode cL_law 880 = .ok (.aload_n 2, 1) := by decide +kernel
theorem dL_law_881 : decode cL_law 881 = .ok (.aload_n 0, 1) := by decide +kernel
theorem dL_law_882 : decode cL_law 882 = .ok (.iload_n 3, 1) := by decide +kernel
theorem dL_law_883 : decode cL_law 883 = .ok (.iconst 1, 1) := by decide +kernel
theorem dL_law_884 : decode cL_law 884 = .ok (.iadd, 1) := by decide +kernel
theorem dL_law_885 : decode cL_law 885 = .ok (.iaload, 1) := by decide +kernel
theorem dL_law_886 : decode cL_law 886 = .ok (.aload_n 0, 1) := by decide +kernel
theorem dL_law_887 : decode cL_law 887 = .ok (.iload_n 3, 1) := by decide +kernel
theorem dL_law_888 : decode cL_law 888 = .ok (.iconst 2, 1) := by decide +kernel
theorem dL_law_889 : decode cL_law 889 = .ok (.iadd, 1) := by decide +kernel
theorem dL_law_890 : decode cL_law 890 = .ok (.iaload, 1) := by decide +kernel
theorem dL_law_891 : decode cL_law 891 = .ok (.invokevirtual 120, 3) := by decide +kernel
theorem dL_law_894 : decode cL_law 894 = .ok (.if_icmp .eq 28, 3) := by decide +kernel
theorem dL_law_897 : decode cL_law 897 = .ok (.iconst 0, 1) := by decide +kernel
theorem dL_law_898 : decode cL_law 898 = .ok (.ireturn, 1) := by decide +kernel
theorem dL_law_899 : decode cL_law 899 = .ok (.aload_n 1, 1) := by decide +kernel
theorem dL_law_900 : decode cL_law 900 = .ok (.aload_n 0, 1) := by decide +kernel
theorem dL_law_901 : decode cL_law 901 = .ok (.iload_n 3, 1) := by decide +kernel
theorem dL_law_902 : decode cL_law 902 = .ok (.iconst 1, 1) := by decide +kernel
theorem dL_law_903 : decode cL_law 903 = .ok (.iadd, 1) := by decide +kernel
theorem dL_law_904 : decode cL_law 904 = .ok (.iaload, 1) := by decide +kernel
theorem dL_law_905 : decode cL_law 905 = .ok (.invokevirtual 121, 3) := by decide +kernel
theorem dL_law_908 : decode cL_law 908 = .ok (.aload_n 2, 1) := by decide +kernel
theorem dL_law_909 : decode cL_law 909 = .ok (.aload_n 0, 1) := by decide +kernel
theorem dL_law_910 : decode cL_law 910 = .ok (.iload_n 3, 1) := by decide +kernel
theorem dL_law_911 : decode cL_law 911 = .ok (.iconst 1, 1) := by decide +kernel
theorem dL_law_912 : decode cL_law 912 = .ok (.iadd, 1) := by decide +kernel
theorem dL_law_913 : decode cL_law 913 = .ok (.iaload, 1) := by decide +kernel
theorem dL_law_914 : decode cL_law 914 = .ok (.invokevirtual 124, 3) := by decide +kernel
theorem dL_law_917 : decode cL_law 917 = .ok (.if_icmp .eq 5, 3) := by decide +kernel
theorem dL_law_920 : decode cL_law 920 = .ok (.iconst 0, 1) := by decide +kernel
theorem dL_law_921 : decode cL_law 921 = .ok (.ireturn, 1) := by decide +kernel
theorem dL_law_922 : decode cL_law 922 = .ok (.iinc 3 6, 3) := by decide +kernel
theorem dL_law_925 : decode cL_law 925 = .ok (.goto (-907), 3) := by decide +kernel
theorem dL_law_928 : decode cL_law 928 = .ok (.iconst 1, 1) := by decide +kernel
theorem dL_law_929 : decode cL_law 929 = .ok (.ireturn, 1) := by decide +kernel
end
section
/-! the tables of the abstract machine, by program (wip/gen/mktables.py): class numbers 0..7 = X0..X7, 8 the law, 9 Math; method numbers in the order of the names, then Math, the law last -/
def am_cns : List String := [RX0, RX1, RX2, RX3, RX4, RX5, RX6, RX7, RL, "java/lang/Math"]
def am_cn (o : Nat) : String := am_cns.getD o ""
/-- a method: class, name, bytes, locals, return type, parameters, frames below, locals below, place of its code word; kind (0 virtual, 1 static, 2 made), place of static or instanceMethod, place of selects -/
abbrev am_Me : Type := Nat × MethodName × ByteArray × Nat × Option FieldType × Nat × Nat × Nat × Nat × Nat × Nat × Nat
def am_ms : List am_Me := [(0, yX0_init, cX0_init, 1, none, 0, 1, 20, 69, 2, 68, 0),
  (0, yX0_addLine, cX0_addLine, 2, some .int, 1, 0, 0, 319, 0, 317, 318),
  (0, yX0_addNote, cX0_addNote, 2, some .int, 1, 0, 0, 425, 0, 423, 424),
  (0, yX0_hasLine, cX0_hasLine, 2, some .boolean, 1, 0, 0, 331, 0, 329, 330),
  (0, yX0_find, cX0_find, 2, some (.object "EdgeNotes$Note"), 1, 0, 0, 433, 0, 431, 432),
  (0, yX0_isShown, cX0_isShown, 2, some .boolean, 1, 0, 0, 485, 0, 483, 484),
  (0, yX0_isSet, cX0_isSet, 2, some .boolean, 1, 1, 21, 501, 0, 499, 500),
  (1, yX1_init, cX1_init, 2, none, 1, 3, 64, 123, 2, 122, 0),
  (1, yX1_refresh, cX1_refresh, 4, none, 0, 6, 157, 493, 0, 491, 492),
  (1, yX1_hasPage, cX1_hasPage, 2, some .boolean, 1, 0, 0, 638, 0, 636, 637),
  (1, yX1_takeLines, cX1_takeLines, 4, some .int, 1, 5, 113, 522, 0, 521, 5),
  (1, yX1_layPage, cX1_layPage, 7, none, 3, 5, 131, 563, 0, 562, 10),
  (1, yX1_countRuns, cX1_countRuns, 7, some .int, 2, 1, 22, 693, 0, 691, 692),
  (1, yX1_countMoved, cX1_countMoved, 4, some .int, 1, 1, 21, 702, 0, 700, 701),
  (1, yX1_hasBracket, cX1_hasBracket, 3, some .boolean, 2, 2, 45, 642, 0, 640, 641),
  (1, yX1_bracketBegin, cX1_bracketBegin, 3, some .int, 2, 3, 67, 677, 0, 675, 676),
  (1, yX1_bracketEnd, cX1_bracketEnd, 4, some .int, 2, 3, 67, 673, 0, 671, 672),
  (1, yX1_firstOf, cX1_firstOf, 3, some .int, 2, 1, 23, 647, 0, 646, 17),
  (1, yX1_lastOf, cX1_lastOf, 3, some .int, 2, 1, 23, 652, 0, 651, 18),
  (1, yX1_columnOf, cX1_columnOf, 5, some .int, 2, 4, 94, 657, 0, 655, 656),
  (1, yX1_takenAhead, cX1_takenAhead, 8, some .int, 2, 3, 67, 662, 0, 661, 19),
  (1, yX1_leastFree, cX1_leastFree, 2, some .int, 1, 0, 0, 665, 1, 664, 0),
  (2, yX2_init, cX2_init, 3, none, 2, 1, 20, 155, 2, 154, 0),
  (2, yX2_clear, cX2_clear, 1, none, 0, 0, 0, 542, 0, 540, 541),
  (2, yX2_add, cX2_add, 2, none, 1, 0, 0, 546, 0, 544, 545),
  (2, yX2_fits, cX2_fits, 4, some .boolean, 0, 2, 45, 550, 0, 548, 549),
  (2, yX2_fitsCut, cX2_fitsCut, 4, some .boolean, 2, 1, 22, 555, 0, 554, 9),
  (2, yX2_choose, cX2_choose, 7, some .int, 1, 3, 78, 572, 0, 570, 571),
  (2, yX2_stand, cX2_stand, 5, none, 1, 3, 78, 597, 0, 595, 596),
  (2, yX2_leastCost, cX2_leastCost, 9, some .int, 2, 2, 50, 576, 0, 575, 11),
  (2, yX2_hangCeilings, cX2_hangCeilings, 5, some .boolean, 1, 1, 20, 580, 0, 579, 12),
  (2, yX2_pull, cX2_pull, 8, some .int, 2, 1, 23, 593, 0, 592, 13),
  (3, yX3_init, cX3_init, 6, none, 5, 1, 20, 343, 2, 342, 0),
  (3, yX3_isFixed, cX3_isFixed, 1, some .boolean, 0, 0, 0, 465, 0, 463, 464),
  (3, yX3_leavesAtMost, cX3_leavesAtMost, 3, some .boolean, 2, 0, 0, 559, 0, 557, 558),
  (3, yX3_hasCut, cX3_hasCut, 3, some .boolean, 1, 0, 0, 441, 0, 439, 440),
  (3, yX3_addCut, cX3_addCut, 3, none, 1, 0, 0, 445, 0, 443, 444),
  (4, yX4_init, cX4_init, 1, none, 0, 1, 20, 131, 2, 130, 0),
  (4, yX4_gather, cX4_gather, 4, none, 1, 2, 42, 497, 0, 495, 496),
  (4, yX4_insert, cX4_insert, 3, none, 1, 0, 0, 506, 0, 505, 4),
  (5, yX5_init, cX5_init, 3, none, 2, 2, 42, 149, 2, 148, 0),
  (5, yX5_beginBook, cX5_beginBook, 1, none, 0, 0, 0, 510, 0, 508, 509),
  (5, yX5_beginPage, cX5_beginPage, 1, none, 0, 0, 0, 518, 0, 516, 517),
  (5, yX5_carries, cX5_carries, 1, some .boolean, 0, 0, 0, 514, 0, 512, 513),
  (5, yX5_takeNotesOf, cX5_takeNotesOf, 4, some .boolean, 1, 4, 90, 526, 0, 524, 525),
  (5, yX5_findDealing, cX5_findDealing, 3, some .boolean, 1, 3, 68, 530, 0, 529, 6),
  (5, yX5_dealings, cX5_dealings, 1, some .int, 0, 0, 0, 534, 0, 533, 7),
  (5, yX5_deal, cX5_deal, 6, none, 1, 1, 21, 538, 0, 537, 8),
  (5, yX5_setBest, cX5_setBest, 8, some .int, 0, 4, 104, 567, 0, 565, 566),
  (6, yX6_init, cX6_init, 1, none, 0, 4, 85, 61, 2, 60, 0),
  (6, yX6_status, cX6_status, 1, some .int, 0, 0, 0, 289, 0, 287, 288),
  (6, yX6_page, cX6_page, 3, some .boolean, 2, 1, 22, 293, 0, 291, 292),
  (6, yX6_line, cX6_line, 2, some .int, 1, 2, 42, 308, 0, 306, 307),
  (6, yX6_change, cX6_change, 3, some .boolean, 2, 2, 42, 327, 0, 325, 326),
  (6, yX6_note, cX6_note, 7, some .int, 5, 2, 45, 335, 0, 333, 334),
  (6, yX6_answer, cX6_answer, 4, some .int, 2, 2, 42, 429, 0, 427, 428),
  (6, yX6_cut, cX6_cut, 4, some .int, 2, 1, 22, 437, 0, 435, 436),
  (6, yX6_cutting, cX6_cutting, 2, some .boolean, 1, 1, 22, 449, 0, 447, 448),
  (6, yX6_bind, cX6_bind, 4, some .boolean, 2, 1, 21, 453, 0, 451, 452),
  (6, yX6_fix, cX6_fix, 4, some .boolean, 2, 1, 22, 457, 0, 455, 456),
  (6, yX6_loose, cX6_loose, 3, some .boolean, 1, 1, 21, 461, 0, 459, 460),
  (6, yX6_move, cX6_move, 4, some .boolean, 2, 1, 21, 469, 0, 467, 468),
  (6, yX6_show, cX6_show, 2, some .boolean, 1, 1, 22, 473, 0, 471, 472),
  (6, yX6_keep, cX6_keep, 2, some .boolean, 1, 1, 20, 477, 0, 475, 476),
  (6, yX6_told, cX6_told, 4, some .int, 2, 1, 21, 481, 0, 479, 480),
  (6, yX6_pages, cX6_pages, 1, some .int, 0, 7, 180, 489, 0, 487, 488),
  (6, yX6_pageOf, cX6_pageOf, 3, some .int, 1, 7, 180, 602, 0, 600, 601),
  (6, yX6_top, cX6_top, 3, some .int, 1, 7, 180, 610, 0, 608, 609),
  (6, yX6_side, cX6_side, 4, some .int, 1, 7, 180, 614, 0, 612, 613),
  (6, yX6_place, cX6_place, 4, some .int, 1, 7, 180, 622, 0, 620, 621),
  (6, yX6_rest, cX6_rest, 4, some .int, 1, 7, 180, 626, 0, 624, 625),
  (6, yX6_column, cX6_column, 5, some .int, 2, 7, 180, 630, 0, 628, 629),
  (6, yX6_bracket, cX6_bracket, 6, some .int, 3, 7, 180, 669, 0, 667, 668),
  (6, yX6_cost, cX6_cost, 3, some .int, 1, 7, 180, 681, 0, 679, 680),
  (6, yX6_runs, cX6_runs, 4, some .int, 2, 7, 180, 689, 0, 687, 688),
  (6, yX6_moved, cX6_moved, 3, some .int, 1, 7, 180, 698, 0, 696, 697),
  (6, yX6_faultOfLine, cX6_faultOfLine, 2, some .int, 1, 1, 21, 606, 0, 605, 14),
  (6, yX6_faultOfNote, cX6_faultOfNote, 2, some .int, 1, 1, 21, 618, 0, 617, 15),
  (6, yX6_faultOfPage, cX6_faultOfPage, 2, some .int, 1, 1, 21, 685, 0, 684, 20),
  (6, yX6_faultOfBracket, cX6_faultOfBracket, 4, some .int, 2, 3, 67, 634, 0, 633, 16),
  (6, yX6_accept, cX6_accept, 1, some .boolean, 0, 0, 0, 304, 0, 303, 1),
  (6, yX6_refuse, cX6_refuse, 2, some .boolean, 1, 0, 0, 300, 0, 299, 0),
  (6, yX6_give, cX6_give, 2, some .int, 1, 0, 0, 323, 0, 322, 3),
  (6, yX6_none, cX6_none, 2, some .int, 1, 0, 0, 315, 0, 314, 2),
  (6, yX6_within, cX6_within, 3, some .boolean, 3, 0, 0, 296, 1, 295, 0),
  (6, yX6_isLineHeight, cX6_isLineHeight, 1, some .boolean, 1, 1, 22, 311, 1, 310, 0),
  (6, yX6_isNoteHeight, cX6_isNoteHeight, 1, some .boolean, 1, 1, 22, 338, 1, 337, 0),
  (7, yX7_init, cX7_init, 1, none, 0, 1, 20, 707, 2, 706, 0),
  (7, yX7_status, cX7_status, 1, some .int, 0, 0, 0, 855, 0, 853, 854),
  (7, yX7_refuse, cX7_refuse, 2, some .int, 1, 0, 0, 875, 0, 874, 23),
  (7, yX7_no, cX7_no, 2, some .boolean, 1, 0, 0, 863, 0, 862, 21),
  (7, yX7_done, cX7_done, 1, some .boolean, 0, 0, 0, 867, 0, 866, 22),
  (7, yX7_isLine, cX7_isLine, 2, some .boolean, 1, 0, 0, 883, 0, 882, 24),
  (7, yX7_isNote, cX7_isNote, 2, some .boolean, 1, 0, 0, 895, 0, 894, 25),
  (7, yX7_page, cX7_page, 3, some .boolean, 2, 1, 21, 859, 0, 857, 858),
  (7, yX7_line, cX7_line, 2, some .int, 1, 1, 21, 871, 0, 869, 870),
  (7, yX7_change, cX7_change, 3, some .boolean, 2, 1, 21, 879, 0, 877, 878),
  (7, yX7_note, cX7_note, 6, some .int, 5, 1, 21, 887, 0, 885, 886),
  (7, yX7_answer, cX7_answer, 3, some .int, 2, 1, 21, 891, 0, 889, 890),
  (7, yX7_cut, cX7_cut, 4, some .int, 2, 1, 21, 899, 0, 897, 898),
  (7, yX7_cutting, cX7_cutting, 2, some .boolean, 1, 1, 21, 903, 0, 901, 902),
  (7, yX7_bind, cX7_bind, 3, some .boolean, 2, 1, 21, 907, 0, 905, 906),
  (7, yX7_fix, cX7_fix, 3, some .boolean, 2, 1, 21, 911, 0, 909, 910),
  (7, yX7_loose, cX7_loose, 2, some .boolean, 1, 1, 21, 915, 0, 913, 914),
  (7, yX7_move, cX7_move, 3, some .boolean, 2, 1, 21, 919, 0, 917, 918),
  (7, yX7_show, cX7_show, 2, some .boolean, 1, 1, 21, 923, 0, 921, 922),
  (7, yX7_keep, cX7_keep, 2, some .boolean, 1, 1, 20, 927, 0, 925, 926),
  (7, yX7_isShown, cX7_isShown, 2, some .boolean, 1, 0, 0, 939, 0, 938, 27),
  (7, yX7_tallOf, cX7_tallOf, 2, some .int, 1, 0, 0, 935, 0, 934, 26),
  (7, yX7_told, cX7_told, 3, some .int, 2, 1, 21, 931, 0, 929, 930),
  (7, yX7_gather, cX7_gather, 6, some .int, 2, 1, 21, 959, 0, 958, 31),
  (7, yX7_sides, cX7_sides, 5, none, 2, 0, 0, 963, 0, 962, 32),
  (7, yX7_rowOf, cX7_rowOf, 3, none, 1, 0, 0, 971, 0, 970, 34),
  (7, yX7_choices, cX7_choices, 2, some .int, 0, 0, 0, 975, 0, 974, 35),
  (7, yX7_tall, cX7_tall, 5, some .int, 2, 1, 21, 983, 0, 982, 37),
  (7, yX7_stands, cX7_stands, 7, some .boolean, 2, 2, 45, 979, 0, 978, 36),
  (7, yX7_isHeld, cX7_isHeld, 8, some .boolean, 4, 4, 95, 955, 0, 954, 30),
  (7, yX7_canStand, cX7_canStand, 5, some .boolean, 2, 3, 71, 967, 0, 966, 33),
  (7, yX7_costs, cX7_costs, 13, some .long, 2, 2, 45, 992, 0, 991, 39),
  (7, yX7_own, cX7_own, 3, some .long, 2, 1, 23, 996, 0, 995, 40),
  (7, yX7_sets, cX7_sets, 16, none, 1, 4, 107, 987, 0, 986, 38),
  (7, yX7_places, cX7_places, 11, none, 2, 3, 77, 1004, 0, 1003, 41),
  (7, yX7_isAt, cX7_isAt, 11, some .boolean, 4, 2, 45, 1008, 0, 1007, 42),
  (7, yX7_setAll, cX7_setAll, 8, none, 0, 5, 142, 951, 0, 950, 29),
  (7, yX7_lacks, cX7_lacks, 1, some .boolean, 0, 6, 169, 947, 0, 946, 28),
  (7, yX7_pages, cX7_pages, 1, some .int, 0, 7, 189, 943, 0, 941, 942),
  (7, yX7_pageOf, cX7_pageOf, 2, some .int, 1, 7, 189, 1012, 0, 1010, 1011),
  (7, yX7_top, cX7_top, 2, some .int, 1, 7, 189, 1016, 0, 1014, 1015),
  (7, yX7_asked, cX7_asked, 2, some .int, 1, 7, 189, 1024, 0, 1023, 43),
  (7, yX7_side, cX7_side, 2, some .int, 1, 8, 210, 1020, 0, 1018, 1019),
  (7, yX7_place, cX7_place, 2, some .int, 1, 8, 210, 1028, 0, 1026, 1027),
  (7, yX7_rest, cX7_rest, 2, some .int, 1, 8, 210, 1032, 0, 1030, 1031),
  (7, yX7_brackets, cX7_brackets, 8, none, 1, 1, 24, 1044, 0, 1043, 45),
  (7, yX7_isMet, cX7_isMet, 5, some .boolean, 2, 0, 0, 1050, 0, 1049, 46),
  (7, yX7_bracketed, cX7_bracketed, 4, some .int, 2, 8, 210, 1040, 0, 1039, 44),
  (7, yX7_column, cX7_column, 3, some .int, 2, 9, 233, 1036, 0, 1034, 1035),
  (7, yX7_bracket, cX7_bracket, 4, some .int, 3, 9, 233, 1054, 0, 1052, 1053),
  (7, yX7_cost, cX7_cost, 2, some .int, 1, 7, 189, 1058, 0, 1056, 1057),
  (7, yX7_runs, cX7_runs, 7, some .int, 2, 7, 189, 1062, 0, 1060, 1061),
  (7, yX7_moved, cX7_moved, 4, some .int, 1, 7, 189, 1066, 0, 1064, 1065),
  (8, yL_law, cL_law, 4, some .boolean, 1, 10, 256, 0, 0, 0, 0)]
def am_m (k : Nat) : am_Me := am_ms.getD k (0, yL_law, ⟨#[]⟩, 0, none, 0, 0, 0, 0, 0, 0, 0)
def am_cl (k : Nat) : Nat := (am_m k).1
def am_y (k : Nat) : MethodName := (am_m k).2.1
def am_by (k : Nat) : ByteArray := (am_m k).2.2.1
def am_ml (k : Nat) : Nat := (am_m k).2.2.2.1
def am_rt (k : Nat) : Option FieldType := (am_m k).2.2.2.2.1
def am_na (k : Nat) : Nat := (am_m k).2.2.2.2.2.1
def am_fr (k : Nat) : Nat := (am_m k).2.2.2.2.2.2.1
def am_lo (k : Nat) : Nat := (am_m k).2.2.2.2.2.2.2.1
def am_cp (k : Nat) : Nat := (am_m k).2.2.2.2.2.2.2.2.1
def am_kd (k : Nat) : Nat := (am_m k).2.2.2.2.2.2.2.2.2.1
def am_ip (k : Nat) : Nat := (am_m k).2.2.2.2.2.2.2.2.2.2.1
def am_sp (k : Nat) : Nat := (am_m k).2.2.2.2.2.2.2.2.2.2.2
def am_lawk : Nat := 140
/-- fields: (class, pool number), (class of the object, place), place of the word -/
def am_fls : List ((Nat × Nat) × (Nat × Nat) × Nat) := [((0, 9), (0, 0), 73), ((0, 17), (0, 1), 76), ((0, 21), (0, 4), 84), ((0, 25), (0, 5), 88), ((0, 28), (0, 6), 92), ((0, 31), (0, 7), 95), ((0, 34), (0, 2), 78), ((0, 37), (0, 3), 82), ((0, 40), (3, 3), 355), ((0, 43), (0, 8), 97), ((1, 9), (1, 0), 227), ((1, 15), (1, 1), 229), ((1, 18), (1, 2), 231), ((1, 21), (1, 4), 235), ((1, 25), (1, 5), 237), ((1, 28), (1, 6), 239), ((1, 31), (1, 7), 240), ((1, 34), (1, 8), 241), ((1, 37), (1, 9), 242), ((1, 42), (1, 10), 243), ((1, 48), (1, 12), 245), ((1, 52), (1, 11), 244), ((1, 61), (1, 13), 246), ((1, 65), (1, 3), 233), ((1, 76), (0, 2), 79), ((1, 96), (0, 0), 74), ((1, 99), (0, 4), 86), ((1, 106), (5, 2), 206), ((1, 109), (5, 3), 208), ((1, 112), (5, 0), 202), ((1, 116), (2, 11), 171), ((1, 120), (5, 1), 204), ((1, 123), (4, 0), 136), ((1, 127), (3, 6), 365), ((1, 132), (3, 11), 378), ((1, 145), (0, 5), 91), ((1, 148), (3, 12), 380), ((1, 151), (3, 13), 383), ((1, 154), (3, 8), 370), ((1, 157), (3, 10), 376), ((1, 180), (4, 1), 139), ((1, 187), (3, 15), 388), ((2, 11), (2, 2), 160), ((2, 17), (2, 3), 161), ((2, 21), (2, 4), 162), ((2, 24), (2, 5), 163), ((2, 27), (2, 6), 164), ((2, 30), (2, 7), 165), ((2, 33), (2, 0), 158), ((2, 37), (2, 1), 159), ((2, 41), (2, 9), 167), ((2, 44), (2, 11), 170), ((2, 47), (0, 5), 89), ((2, 52), (2, 10), 168), ((2, 55), (3, 8), 369), ((2, 62), (3, 9), 373), ((2, 65), (0, 4), 87), ((2, 72), (3, 5), 360), ((2, 75), (3, 4), 358), ((2, 82), (2, 12), 172), ((2, 89), (0, 6), 93), ((2, 98), (3, 12), 381), ((2, 101), (3, 13), 384), ((2, 104), (3, 14), 386), ((2, 107), (3, 0), 346), ((2, 112), (2, 8), 166), ((2, 115), (3, 11), 379), ((2, 121), (3, 1), 349), ((3, 9), (3, 4), 357), ((3, 15), (3, 9), 372), ((3, 19), (3, 10), 375), ((3, 22), (3, 6), 362), ((3, 25), (3, 0), 345), ((3, 28), (3, 1), 348), ((3, 31), (3, 2), 351), ((3, 34), (3, 3), 354), ((3, 37), (3, 8), 368), ((3, 40), (3, 5), 359), ((4, 11), (4, 0), 134), ((4, 17), (4, 1), 137), ((4, 21), (0, 3), 81), ((4, 26), (0, 1), 77), ((4, 35), (3, 6), 363), ((5, 9), (5, 4), 209), ((5, 20), (5, 0), 201), ((5, 24), (5, 1), 203), ((5, 27), (2, 11), 169), ((5, 31), (5, 3), 207), ((5, 34), (5, 2), 205), ((5, 37), (5, 5), 210), ((5, 40), (5, 6), 211), ((5, 43), (4, 1), 138), ((5, 48), (4, 0), 135), ((5, 52), (3, 6), 364), ((5, 57), (3, 2), 352), ((5, 88), (2, 12), 173), ((6, 12), (6, 0), 276), ((6, 21), (6, 1), 277), ((6, 25), (6, 2), 278), ((6, 37), (0, 4), 85), ((6, 40), (0, 5), 90), ((6, 54), (0, 2), 80), ((6, 66), (0, 0), 75), ((6, 73), (0, 3), 83), ((6, 89), (3, 7), 367), ((6, 92), (3, 5), 361), ((6, 95), (3, 8), 371), ((6, 98), (3, 0), 347), ((6, 106), (0, 6), 94), ((6, 109), (3, 6), 366), ((6, 112), (3, 10), 377), ((6, 115), (3, 9), 374), ((6, 121), (0, 7), 96), ((6, 124), (0, 8), 98), ((6, 128), (3, 1), 350), ((6, 131), (3, 2), 353), ((6, 134), (3, 3), 356), ((6, 144), (1, 4), 236), ((6, 147), (1, 3), 234), ((6, 153), (1, 0), 228), ((6, 156), (1, 1), 230), ((6, 162), (3, 12), 382), ((6, 165), (3, 13), 385), ((6, 168), (3, 14), 387), ((6, 187), (1, 2), 232), ((6, 204), (1, 5), 238), ((7, 7), (7, 2), 711), ((7, 13), (7, 3), 712), ((7, 16), (7, 4), 713), ((7, 19), (7, 5), 714), ((7, 22), (7, 9), 718), ((7, 26), (7, 10), 719), ((7, 29), (7, 11), 720), ((7, 32), (7, 12), 721), ((7, 35), (7, 13), 722), ((7, 38), (7, 14), 723), ((7, 41), (7, 15), 724), ((7, 44), (7, 16), 725), ((7, 47), (7, 17), 726), ((7, 50), (7, 18), 727), ((7, 53), (7, 19), 728), ((7, 56), (7, 20), 729), ((7, 59), (7, 24), 733), ((7, 62), (7, 25), 734), ((7, 65), (7, 26), 735), ((7, 68), (7, 27), 736), ((7, 72), (7, 28), 737), ((7, 75), (7, 29), 738), ((7, 78), (7, 30), 739), ((7, 81), (7, 31), 740), ((7, 84), (7, 32), 741), ((7, 87), (7, 33), 742), ((7, 90), (7, 34), 743), ((7, 93), (7, 35), 744), ((7, 96), (7, 36), 745), ((7, 99), (7, 37), 746), ((7, 102), (7, 38), 747), ((7, 105), (7, 41), 750), ((7, 108), (7, 42), 751), ((7, 111), (7, 43), 752), ((7, 114), (7, 44), 753), ((7, 117), (7, 45), 754), ((7, 120), (7, 46), 755), ((7, 123), (7, 1), 710), ((7, 126), (7, 0), 709), ((7, 129), (7, 21), 730), ((7, 133), (7, 7), 716), ((7, 136), (7, 8), 717), ((7, 157), (7, 6), 715), ((7, 166), (7, 39), 748), ((7, 169), (7, 40), 749), ((7, 223), (7, 22), 731), ((7, 226), (7, 23), 732)]
/-- methods: (class, pool number), method, 0 plain or 1 nest, place of the link word -/
def am_mls : List ((Nat × Nat) × Nat × Nat × Nat) := [((0, 47), 5, 0, 502), ((1, 47), 37, 1, 129), ((1, 58), 40, 0, 147), ((1, 69), 38, 0, 494), ((1, 73), 41, 0, 507), ((1, 81), 43, 0, 511), ((1, 85), 42, 0, 515), ((1, 88), 10, 0, 519), ((1, 92), 11, 0, 560), ((1, 102), 44, 0, 523), ((1, 134), 48, 0, 564), ((1, 138), 9, 0, 643), ((1, 141), 84, 1, 694), ((1, 160), 17, 0, 644), ((1, 164), 18, 0, 649), ((1, 167), 14, 0, 658), ((1, 181), 20, 0, 659), ((1, 184), 21, 0, 663), ((2, 58), 33, 0, 551), ((2, 68), 26, 0, 552), ((2, 78), 34, 0, 556), ((2, 85), 29, 0, 573), ((2, 108), 30, 0, 577), ((2, 128), 31, 0, 590), ((4, 27), 6, 0, 498), ((4, 31), 39, 0, 503), ((5, 17), 22, 0, 153), ((5, 60), 45, 0, 527), ((5, 64), 46, 0, 531), ((5, 68), 47, 0, 535), ((5, 72), 25, 0, 547), ((5, 76), 23, 0, 539), ((5, 79), 24, 0, 543), ((5, 84), 27, 0, 569), ((5, 91), 28, 0, 594), ((6, 11), 0, 1, 67), ((6, 18), 7, 0, 121), ((6, 29), 84, 0, 294), ((6, 33), 81, 0, 297), ((6, 43), 80, 0, 301), ((6, 47), 85, 0, 309), ((6, 50), 83, 0, 312), ((6, 57), 1, 0, 316), ((6, 60), 82, 0, 320), ((6, 63), 3, 0, 328), ((6, 70), 86, 0, 336), ((6, 78), 32, 0, 341), ((6, 81), 2, 0, 422), ((6, 85), 4, 0, 430), ((6, 99), 35, 0, 438), ((6, 102), 36, 0, 442), ((6, 118), 33, 0, 462), ((6, 137), 5, 0, 482), ((6, 141), 8, 0, 490), ((6, 150), 76, 0, 603), ((6, 159), 77, 0, 615), ((6, 171), 79, 0, 631), ((6, 175), 19, 0, 654), ((6, 178), 16, 0, 670), ((6, 181), 15, 0, 674), ((6, 184), 78, 0, 682), ((6, 190), 12, 0, 690), ((6, 194), 13, 0, 699), ((6, 197), 9, 0, 635), ((6, 200), 14, 0, 639), ((7, 139), 90, 0, 860), ((7, 143), 91, 0, 864), ((7, 147), 89, 0, 872), ((7, 151), 92, 0, 880), ((7, 154), 93, 0, 892), ((7, 160), 108, 0, 932), ((7, 163), 107, 0, 936), ((7, 172), 114, 0, 980), ((7, 176), 110, 0, 956), ((7, 179), 111, 0, 960), ((7, 183), 117, 0, 964), ((7, 187), 112, 0, 968), ((7, 191), 113, 0, 972), ((7, 195), 115, 0, 976), ((7, 200), 119, 0, 993), ((7, 213), 118, 0, 989), ((7, 216), 121, 0, 1001), ((7, 219), 122, 0, 1005), ((7, 229), 116, 0, 952), ((7, 233), 120, 0, 984), ((7, 236), 123, 0, 948), ((7, 239), 124, 0, 944), ((7, 242), 128, 0, 1021), ((7, 250), 133, 0, 1047), ((7, 253), 132, 0, 1041), ((7, 256), 134, 0, 1037), ((8, 9), 49, 0, 59), ((8, 12), 87, 0, 705), ((8, 13), 50, 0, 286), ((8, 17), 88, 0, 852), ((8, 18), 51, 0, 290), ((8, 22), 94, 0, 856), ((8, 23), 52, 0, 305), ((8, 27), 95, 0, 868), ((8, 28), 53, 0, 324), ((8, 31), 96, 0, 876), ((8, 32), 54, 0, 332), ((8, 36), 97, 0, 884), ((8, 37), 55, 0, 426), ((8, 41), 98, 0, 888), ((8, 42), 56, 0, 434), ((8, 45), 99, 0, 896), ((8, 46), 57, 0, 446), ((8, 50), 100, 0, 900), ((8, 51), 58, 0, 450), ((8, 54), 101, 0, 904), ((8, 55), 59, 0, 454), ((8, 58), 102, 0, 908), ((8, 59), 60, 0, 458), ((8, 62), 103, 0, 912), ((8, 63), 61, 0, 466), ((8, 66), 104, 0, 916), ((8, 67), 62, 0, 470), ((8, 70), 105, 0, 920), ((8, 71), 63, 0, 474), ((8, 75), 106, 0, 924), ((8, 76), 64, 0, 478), ((8, 79), 109, 0, 928), ((8, 80), 65, 0, 486), ((8, 83), 125, 0, 940), ((8, 84), 66, 0, 599), ((8, 87), 126, 0, 1009), ((8, 88), 67, 0, 607), ((8, 91), 127, 0, 1013), ((8, 92), 68, 0, 611), ((8, 95), 129, 0, 1017), ((8, 96), 69, 0, 619), ((8, 99), 130, 0, 1025), ((8, 100), 70, 0, 623), ((8, 103), 131, 0, 1029), ((8, 104), 71, 0, 627), ((8, 107), 135, 0, 1033), ((8, 108), 72, 0, 666), ((8, 112), 136, 0, 1051), ((8, 113), 73, 0, 678), ((8, 116), 137, 0, 1055), ((8, 117), 74, 0, 686), ((8, 120), 138, 0, 1059), ((8, 121), 75, 0, 695), ((8, 124), 139, 0, 1063)]
/-- Math: (class, pool number), 0 abs 1 max 2 min 3 min of longs, place of the link; places of static and code -/
def am_mts : List ((Nat × Nat) × Nat × Nat) := [((1, 171), 1, 648), ((1, 177), 2, 653), ((2, 93), 2, 581), ((2, 118), 1, 584), ((2, 124), 0, 587), ((7, 204), 3, 998), ((7, 210), 0, 997), ((7, 245), 1, 1045), ((7, 248), 2, 1046)]
def am_mps : List (Nat × Nat) := [(588, 589), (585, 586), (582, 583), (999, 1000)]
/-- Object.<init>: (class, pool number), place -/
def am_ois : List ((Nat × Nat) × Nat) := [((0, 3), 70), ((1, 3), 124), ((2, 3), 156), ((3, 3), 344), ((4, 3), 132), ((5, 3), 150), ((6, 3), 62), ((7, 1), 708)]
/-- new: (class, pool number), class made, place of the classLink; anewarray of Note: 100; new int[][]: 101 -/
def am_nls : List ((Nat × Nat) × Nat × Nat) := [((0, 15), 100, 71), ((1, 40), 101, 125), ((1, 45), 4, 127), ((1, 56), 5, 145), ((2, 9), 100, 157), ((4, 9), 100, 133), ((5, 15), 2, 151), ((6, 9), 0, 65), ((6, 16), 1, 119), ((6, 76), 3, 339), ((8, 7), 6, 57), ((8, 10), 7, 703)]
/-- classes: slots, place of instantiable, place of initialized -/
def am_cls : List (Nat × Nat × Nat) := [(9, 66, 49), (14, 120, 50), (13, 152, 53), (16, 340, 55), (2, 128, 51), (7, 146, 52), (3, 58, 48), (47, 704, 54), (0, 0, 47), (0, 0, 56)]
/-- fields of a class: 0 int, 1 long, 2 reference, 3 boolean; and whether final -/
def am_fts : List (List (Nat × Bool)) := [[(2, true), (2, true), (0, false), (0, false), (0, false), (0, false), (0, false), (0, false), (3, false)],
  [(2, true), (2, true), (2, true), (0, false), (3, false), (3, false), (2, true), (2, true), (2, true), (2, true), (2, true), (2, true), (2, true), (2, true)],
  [(2, true), (0, true), (2, true), (2, true), (2, true), (2, true), (2, true), (2, true), (0, false), (0, false), (0, false), (0, false), (0, false)],
  [(0, true), (0, true), (0, true), (0, true), (2, true), (0, false), (0, false), (0, false), (0, false), (0, false), (0, false), (0, false), (0, false), (0, false), (0, false), (0, false)],
  [(2, true), (0, false)],
  [(2, true), (2, true), (0, false), (0, false), (2, true), (0, false), (0, false)],
  [(2, true), (2, true), (0, false)],
  [(0, false), (0, false), (0, false), (0, false), (0, false), (0, false), (3, false), (0, false), (0, false), (2, true), (2, true), (2, true), (2, true), (2, true), (2, true), (2, true), (2, true), (2, true), (2, true), (2, true), (2, true), (3, false), (3, false), (0, false), (2, true), (2, true), (2, true), (2, true), (2, true), (2, true), (2, true), (2, true), (2, true), (2, true), (2, true), (2, true), (2, true), (2, true), (2, true), (0, false), (0, false), (2, true), (2, true), (2, true), (2, true), (2, true), (2, true)]]
def am_poInst : Nat := 63
def am_poCode : Nat := 64
def am_paInt : Nat := 118
def am_paLong : Nat := 851
def am_paNote : Nat := 72
def am_paII : Nat := 126
def am_pkP : Nat := 568
def am_pkE : Nat := 598
def am_pkL : Nat := 988
def am_ldcs : List ((Nat × Nat) × Int × Nat) := [((5, 83), 16777216, 568), ((2, 92), 16777216, 598)]
def am_ldc2s : List ((Nat × Nat) × Int × Nat) := [((7, 198), 1000000000000, 988)]
/-- what the cells are, in the order in which they are made: (0, class), (1, n) int[n], (2, n) long[n], (3, n) Note[n], (4, n) int[n][]; behind these a Note and its cuts, by turns -/
def am_kinds : List (Nat × Nat) := [(0, 6), (0, 0), (1, 60), (3, 24), (0, 1), (1, 60), (1, 60), (1, 84), (1, 84), (1, 84), (1, 84), (1, 84), (4, 2), (1, 84), (1, 84), (0, 4), (3, 24), (0, 5), (0, 2), (3, 24), (1, 24), (1, 24), (1, 24), (1, 24), (1, 24), (0, 2), (3, 24), (1, 24), (1, 24), (1, 24), (1, 24), (1, 24), (0, 7), (1, 60), (1, 24), (1, 24), (1, 24), (1, 24), (1, 24), (1, 24), (1, 24), (1, 24), (1, 24), (1, 24), (1, 72), (1, 141), (1, 141), (1, 282), (2, 141), (1, 60), (1, 60), (1, 24), (1, 24), (1, 24), (1, 24), (1, 24), (1, 24), (1, 24), (1, 24), (1, 24), (1, 2), (1, 2), (2, 10025), (1, 24), (1, 24), (1, 24)]
def am_kindN (i : Nat) : Nat × Nat := if i < 66 then am_kinds.getD i (9, 0) else if i % 2 = 0 then (0, 3) else (1, 3)
end
section
/-! THE ABSTRACT MACHINE. Values are (tag, number): 0 int, 1 long, 2 reference (a cell's number; below 0: null), 3 the script; 9 nothing. Memory: cell, place -> number. What a cell is stands fixed by its number (am_kind). -/
abbrev am_V : Type := Nat × Int
abbrev am_M : Type := Int → Int → Int
def am_w32 (x : Int) : Int := Int.bmod x 4294967296
def am_w64 (x : Int) : Int := Int.bmod x 18446744073709551616
def am_set (μ : am_M) (i j x : Int) : am_M := fun a b => if a = i ∧ b = j then x else μ a b
def am_kind (i : Int) : Nat × Nat := if i < 0 then (9, 0) else am_kindN i.toNat
/-- the field's sort: 0 int, 1 long, 2 reference, 3 boolean -/
def am_fs (ci j : Nat) : Nat × Bool := (am_fts.getD ci []).getD j (9, true)
def am_ft (ci j : Nat) : Nat := if (am_fs ci j).1 = 3 then 0 else (am_fs ci j).1
def am_N (ci : Nat) : Nat := (am_fts.getD ci []).length
/-- the tag of a place of a cell, and how many places it has -/
def am_tag (k : Nat × Nat) (j : Nat) : Nat := match k.1 with
  | 0 => am_ft k.2 j
  | 1 => 0
  | 2 => 1
  | _ => 2
def am_len (k : Nat × Nat) : Nat := match k.1 with
  | 0 => am_N k.2
  | _ => k.2
/-- what a new cell holds -/
def am_zero (k : Nat × Nat) : Int → Int := fun j => if am_tag k j.toNat = 2 then -1 else 0
def am_new (μ : am_M) (i : Int) (f : Int → Int) : am_M := fun a b => if a = i then f b else μ a b
def am_kill (L : List am_V) (i : Nat) : List am_V := match i with
  | 0 => L
  | i + 1 => match L[i]? with
    | some (1, _) => L.set i (9, 0)
    | _ => L
def am_sto (L : List am_V) (i : Nat) (v : am_V) : List am_V := (am_kill L i).set i v
def am_sto2 (L : List am_V) (i : Nat) (v : am_V) : List am_V := ((am_kill L i).set i v).set (i + 1) (9, 0)
def am_ent : List am_V → List am_V
  | [] => []
  | v :: r => if v.1 = 1 then v :: (9, 0) :: am_ent r else v :: am_ent r
def am_entry (k : Nat) (as : List am_V) : List am_V := am_ent as ++ List.replicate (am_ml k - (am_ent as).length) (9, 0)
def am_cat (v : am_V) : Nat := if v.1 = 1 then 2 else 1
def am_cats (l : List am_V) : Nat := (l.map am_cat).sum
abbrev am_S : Type := Nat × List am_V × List am_V × Nat × am_M
abbrev am_R : Type := am_S ⊕ ((Nat × List am_V × List am_V) ⊕ Option am_V)
abbrev am_Sc : Type := Option (Int × (Int → Int))
def am_go (pc : Nat) (off : Int) (L st : List am_V) (n : Nat) (μ : am_M) : Option am_R := if 0 ≤ (pc : Int) + off then some (.inl (((pc : Int) + off).toNat, L, st, n, μ)) else none
def am_if (c : Prop) [Decidable c] (pc : Nat) (off : Int) (L st : List am_V) (n : Nat) (μ : am_M) : Option am_R := if 0 ≤ (pc : Int) + off then some (.inl ((if c then ((pc : Int) + off).toNat else pc + 3), L, st, n, μ)) else none
def am_cc (c : ClassFile.Cond) (x y : Int) : Bool := match c with
  | .eq => decide (x = y)
  | .ne => decide (x ≠ y)
  | .lt => decide (x < y)
  | .ge => decide (y ≤ x)
  | .gt => decide (y < x)
  | .le => decide (x ≤ y)
def am_lin (ins : Instr) : Nat := match ins with
  | .iload _ | .lload _ | .aload _ | .istore _ | .lstore _ | .astore _ | .bipush _ | .ldc _ | .newarray _ => 2
  | .sipush _ | .ldc2_w _ | .iinc _ _ | .if_icmp _ _ | .ifCond _ _ | .ifnull _ | .ifnonnull _ | .goto _ | .getfield _ | .putfield _ | .new _ | .anewarray _ | .invokevirtual _ | .invokespecial _ | .invokestatic _ => 3
  | .multianewarray _ _ => 4
  | _ => 1
def am_len_ok (ins : Instr) (len : Nat) : Bool := match ins with
  | .tableswitch _ _ _ _ => true
  | _ => len == am_lin ins
def am_ld (t : Nat) (pc' : Nat) (i : Nat) (L st : List am_V) (n : Nat) (μ : am_M) : Option am_R := match L[i]? with
  | some v => if v.1 = t then some (.inl (pc', L, v :: st, n, μ)) else none
  | none => none
def am_lda (pc' : Nat) (i : Nat) (L st : List am_V) (n : Nat) (μ : am_M) : Option am_R := match L[i]? with
  | some v => if v.1 = 2 ∨ v.1 = 3 then some (.inl (pc', L, v :: st, n, μ)) else none
  | none => none
def am_st1 (k t : Nat) (pc' : Nat) (i : Nat) (L st : List am_V) (n : Nat) (μ : am_M) : Option am_R := match st with
  | v :: rest => if v.1 = t ∧ i < am_ml k then some (.inl (pc', am_sto L i v, rest, n, μ)) else none
  | [] => none
def am_st2 (k : Nat) (pc' : Nat) (i : Nat) (L st : List am_V) (n : Nat) (μ : am_M) : Option am_R := match st with
  | v :: rest => if v.1 = 1 ∧ i + 1 < am_ml k then some (.inl (pc', am_sto2 L i v, rest, n, μ)) else none
  | [] => none
/-- two ints, or two longs, to one -/
def am_bin (t r : Nat) (f : Int → Int → Int) (pc : Nat) (L st : List am_V) (n : Nat) (μ : am_M) : Option am_R := match st with
  | y :: x :: rest => if y.1 = t ∧ x.1 = t then some (.inl (pc + 1, L, (r, f x.2 y.2) :: rest, n, μ)) else none
  | _ => none
def am_un (t r : Nat) (f : Int → Int) (pc : Nat) (L st : List am_V) (n : Nat) (μ : am_M) : Option am_R := match st with
  | x :: rest => if x.1 = t then some (.inl (pc + 1, L, (r, f x.2) :: rest, n, μ)) else none
  | _ => none
def am_cmp (x y : Int) : Int := if y < x then 1 else if x = y then 0 else -1
/-- an array's place is read -/
def am_ald (ks : List Nat) (t : Nat) (sc : am_Sc) (pc : Nat) (L st : List am_V) (n : Nat) (μ : am_M) : Option am_R := match st with
  | j :: a :: rest => if j.1 = 0 ∧ a.1 = 2 ∧ (am_kind a.2).1 ∈ ks ∧ 0 ≤ j.2 ∧ j.2 < ((am_kind a.2).2 : Int) then some (.inl (pc + 1, L, (t, μ a.2 j.2) :: rest, n, μ))
    else match sc with
      | some (l, xs) => if t = 0 ∧ j.1 = 0 ∧ a.1 = 3 ∧ 0 ≤ j.2 ∧ j.2 < l then some (.inl (pc + 1, L, (0, xs j.2) :: rest, n, μ)) else none
      | none => none
  | _ => none
def am_ast (kd t : Nat) (pc : Nat) (L st : List am_V) (n : Nat) (μ : am_M) : Option am_R := match st with
  | x :: j :: a :: rest => if x.1 = t ∧ j.1 = 0 ∧ a.1 = 2 ∧ (am_kind a.2).1 = kd ∧ 0 ≤ j.2 ∧ j.2 < ((am_kind a.2).2 : Int) ∧ (t = 2 → am_kind x.2 = (0, 3)) then some (.inl (pc + 1, L, rest, n, am_set μ a.2 j.2 x.2)) else none
  | _ => none
def am_call (kd k idx : Nat) (L st : List am_V) : Option am_R := match am_mls.lookup (am_cl k, idx) with
  | some (k', _, _) => if am_kd k' = kd ∧ am_fr k' + 1 ≤ am_fr k ∧ 19 + am_ml k' + am_lo k' ≤ am_lo k ∧ k' < am_lawk then
      (if kd = 1 then
        if am_na k' ≤ st.length ∧ (st.take (am_na k')).all (fun v => decide (v.1 ≤ 2)) = true ∧ am_cats (st.drop (am_na k')) ≤ 8 ∧ am_cats (st.take (am_na k')).reverse ≤ am_ml k' then some (.inr (.inl (k', (st.take (am_na k')).reverse, st.drop (am_na k')))) else none
      else match st.drop (am_na k') with
        | a :: rest => if a.1 = 2 ∧ am_kind a.2 = (0, am_cl k') ∧ (st.take (am_na k')).all (fun v => decide (v.1 ≤ 2)) = true ∧ am_cats rest ≤ 8 ∧ am_cats (a :: (st.take (am_na k')).reverse) ≤ am_ml k' then some (.inr (.inl (k', a :: (st.take (am_na k')).reverse, rest))) else none
        | [] => none)
    else none
  | none => none
def am_abs (x : Int) : Int := if 0 ≤ x then x else am_w32 (-x)
def am_mabs (pc : Nat) (L st : List am_V) (n : Nat) (μ : am_M) : Option am_R := match st with
  | x :: rest => if x.1 = 0 ∧ am_cats rest ≤ 8 then some (.inl (pc + 3, L, (0, am_abs x.2) :: rest, n, μ)) else none
  | _ => none
def am_m2 (t : Nat) (g : Int → Int → Int) (pc : Nat) (L st : List am_V) (n : Nat) (μ : am_M) : Option am_R := match st with
  | y :: x :: rest => if x.1 = t ∧ y.1 = t ∧ am_cats rest ≤ 8 then some (.inl (pc + 3, L, (t, g x.2 y.2) :: rest, n, μ)) else none
  | _ => none
def am_do (sc : am_Sc) (k pc : Nat) (ins : Instr) (L st : List am_V) (n : Nat) (μ : am_M) : Option am_R := match ins with
  | .iconst i => if -32768 ≤ i ∧ i ≤ 32767 then some (.inl (pc + 1, L, (0, i) :: st, n, μ)) else none
  | .bipush i => if -128 ≤ i ∧ i ≤ 127 then some (.inl (pc + 2, L, (0, i) :: st, n, μ)) else none
  | .sipush i => if -32768 ≤ i ∧ i ≤ 32767 then some (.inl (pc + 3, L, (0, i) :: st, n, μ)) else none
  | .lconst i => some (.inl (pc + 1, L, (1, (i : Nat)) :: st, n, μ))
  | .ldc idx => match am_ldcs.lookup (am_cl k, idx) with
    | some (x, _) => some (.inl (pc + 2, L, (0, x) :: st, n, μ))
    | none => none
  | .ldc2_w idx => match am_ldc2s.lookup (am_cl k, idx) with
    | some (x, _) => some (.inl (pc + 3, L, (1, x) :: st, n, μ))
    | none => none
  | .aconst_null => some (.inl (pc + 1, L, (2, -1) :: st, n, μ))
  | .iload i => am_ld 0 (pc + 2) i L st n μ
  | .iload_n i => am_ld 0 (pc + 1) i L st n μ
  | .lload i => am_ld 1 (pc + 2) i L st n μ
  | .lload_n i => am_ld 1 (pc + 1) i L st n μ
  | .aload i => am_lda (pc + 2) i L st n μ
  | .aload_n i => am_lda (pc + 1) i L st n μ
  | .istore i => am_st1 k 0 (pc + 2) i L st n μ
  | .istore_n i => am_st1 k 0 (pc + 1) i L st n μ
  | .lstore i => am_st2 k (pc + 2) i L st n μ
  | .lstore_n i => am_st2 k (pc + 1) i L st n μ
  | .astore i => am_st1 k 2 (pc + 2) i L st n μ
  | .astore_n i => am_st1 k 2 (pc + 1) i L st n μ
  | .iinc i c => match L[i]? with
    | some v => if v.1 = 0 ∧ i < am_ml k then some (.inl (pc + 3, am_sto L i (0, am_w32 (v.2 + c)), st, n, μ)) else none
    | none => none
  | .iadd => am_bin 0 0 (fun x y => am_w32 (x + y)) pc L st n μ
  | .isub => am_bin 0 0 (fun x y => am_w32 (x - y)) pc L st n μ
  | .imul => am_bin 0 0 (fun x y => am_w32 (x * y)) pc L st n μ
  | .ineg => am_un 0 0 (fun x => am_w32 (-x)) pc L st n μ
  | .iand => am_bin 0 0 (fun x y => (Int32.ofInt x &&& Int32.ofInt y).toInt) pc L st n μ
  | .ior => am_bin 0 0 (fun x y => (Int32.ofInt x ||| Int32.ofInt y).toInt) pc L st n μ
  | .ishl => am_bin 0 0 (fun x y => (Int32.ofInt x <<< (Int32.ofInt y &&& 31)).toInt) pc L st n μ
  | .ishr => am_bin 0 0 (fun x y => (Int32.ofInt x >>> (Int32.ofInt y &&& 31)).toInt) pc L st n μ
  | .ladd => am_bin 1 1 (fun x y => am_w64 (x + y)) pc L st n μ
  | .lmul => am_bin 1 1 (fun x y => am_w64 (x * y)) pc L st n μ
  | .lcmp => am_bin 1 0 am_cmp pc L st n μ
  | .i2l => am_un 0 1 (fun x => x) pc L st n μ
  | .l2i => am_un 1 0 am_w32 pc L st n μ
  | .if_icmp c off => match st with
    | y :: x :: rest => if y.1 = 0 ∧ x.1 = 0 then am_if (am_cc c x.2 y.2 = true) pc off L rest n μ else none
    | _ => none
  | .ifCond c off => match st with
    | x :: rest => if x.1 = 0 then am_if (am_cc c x.2 0 = true) pc off L rest n μ else none
    | _ => none
  | .ifnull off => match st with
    | x :: rest => if x.1 = 2 then am_if (x.2 < 0) pc off L rest n μ else none
    | _ => none
  | .ifnonnull off => match st with
    | x :: rest => if x.1 = 2 then am_if (0 ≤ x.2) pc off L rest n μ else none
    | _ => none
  | .goto off => am_go pc off L st n μ
  | .tableswitch dflt lo hi offs => match st with
    | x :: rest => if x.1 = 0 then (if x.2 < lo ∨ hi < x.2 then am_go pc dflt L rest n μ else match offs[(x.2 - lo).toNat]? with
      | some off => am_go pc off L rest n μ
      | none => none) else none
    | _ => none
  | .dup => match st with
    | v :: rest => if v.1 = 0 ∨ v.1 = 2 then some (.inl (pc + 1, L, v :: v :: rest, n, μ)) else none
    | _ => none
  | .dup_x1 => match st with
    | v :: w :: rest => if (v.1 = 0 ∨ v.1 = 2) ∧ (w.1 = 0 ∨ w.1 = 2) then some (.inl (pc + 1, L, v :: w :: v :: rest, n, μ)) else none
    | _ => none
  | .dup2 => match st with
    | v :: w :: rest => if (v.1 = 0 ∨ v.1 = 2) ∧ (w.1 = 0 ∨ w.1 = 2) then some (.inl (pc + 1, L, v :: w :: v :: w :: rest, n, μ)) else none
    | _ => none
  | .pop => match st with
    | v :: rest => if v.1 = 0 ∨ v.1 = 2 then some (.inl (pc + 1, L, rest, n, μ)) else none
    | _ => none
  | .pop2 => match st with
    | v :: rest => if v.1 = 1 then some (.inl (pc + 1, L, rest, n, μ)) else none
    | _ => none
  | .getfield idx => match am_fls.lookup (am_cl k, idx) with
    | some (q, _) => match st with
      | a :: rest => if a.1 = 2 ∧ am_kind a.2 = (0, q.1) then some (.inl (pc + 3, L, (am_ft q.1 q.2, μ a.2 q.2) :: rest, n, μ)) else none
      | _ => none
    | none => none
  | .putfield idx => match am_fls.lookup (am_cl k, idx) with
    | some (q, _) => match st with
      | v :: a :: rest => if a.1 = 2 ∧ am_kind a.2 = (0, q.1) ∧ v.1 = am_ft q.1 q.2 ∧ ((am_fs q.1 q.2).2 = true → am_kd k = 2 ∧ am_cl k = q.1) ∧ ((am_fs q.1 q.2).1 = 3 → v.2 = 0 ∨ v.2 = 1) then some (.inl (pc + 3, L, rest, n, am_set μ a.2 q.2 v.2)) else none
      | _ => none
    | none => none
  | .iaload => am_ald [1] 0 sc pc L st n μ
  | .laload => am_ald [2] 1 none pc L st n μ
  | .aaload => am_ald [3, 4] 2 none pc L st n μ
  | .iastore => am_ast 1 0 pc L st n μ
  | .lastore => am_ast 2 1 pc L st n μ
  | .aastore => am_ast 3 2 pc L st n μ
  | .arraylength => match st with
    | a :: rest => if a.1 = 2 ∧ (am_kind a.2).1 ∈ [1, 2, 3, 4] then some (.inl (pc + 1, L, (0, ((am_kind a.2).2 : Int)) :: rest, n, μ)) else match sc with
      | some (l, _) => if a.1 = 3 then some (.inl (pc + 1, L, (0, l) :: rest, n, μ)) else none
      | none => none
    | _ => none
  | .newarray ty => match st with
    | c :: rest => if c.1 = 0 ∧ 0 ≤ c.2 ∧ am_kind n = ((if newarray.typeOf ty = .int then 1 else 2), c.2.toNat) ∧ (newarray.typeOf ty = .int ∨ newarray.typeOf ty = .long) then some (.inl (pc + 2, L, (2, (n : Int)) :: rest, n + 1, am_new μ n (fun _ => 0))) else none
    | _ => none
  | .anewarray idx => match st with
    | c :: rest => if c.1 = 0 ∧ 0 ≤ c.2 ∧ am_kind n = (3, c.2.toNat) ∧ (am_nls.lookup (am_cl k, idx)).map (fun q => q.1) = some 100 then some (.inl (pc + 3, L, (2, (n : Int)) :: rest, n + 1, am_new μ n (fun _ => -1))) else none
    | _ => none
  | .multianewarray idx d => match st with
    | c :: b :: rest => if d = 2 ∧ c.1 = 0 ∧ b.1 = 0 ∧ b.2 = 2 ∧ 0 ≤ c.2 ∧ am_kind n = (4, 2) ∧ am_kind (n + 1) = (1, c.2.toNat) ∧ am_kind (n + 2) = (1, c.2.toNat) ∧ (am_nls.lookup (am_cl k, idx)).map (fun q => q.1) = some 101 then
        some (.inl (pc + 4, L, (2, (n : Int)) :: rest, n + 3, am_new (am_new (am_new μ n (fun j => if j = 0 then n + 1 else if j = 1 then n + 2 else -1)) (n + 1) (fun _ => 0)) (n + 2) (fun _ => 0))) else none
    | _ => none
  | .new idx => match am_nls.lookup (am_cl k, idx) with
    | some (ci, _) => if am_kind n = (0, ci) ∧ ci < 8 then some (.inl (pc + 3, L, (2, (n : Int)) :: st, n + 1, am_new μ n (am_zero (0, ci)))) else none
    | none => none
  | .invokespecial idx => match am_ois.lookup (am_cl k, idx) with
    | some _ => match st with
      | a :: rest => if a.1 = 2 ∧ 0 ≤ a.2 ∧ am_cats rest ≤ 8 ∧ 1 ≤ am_fr k ∧ 20 ≤ am_lo k then some (.inl (pc + 3, L, rest, n, μ)) else none
      | _ => none
    | none => am_call 2 k idx L st
  | .invokevirtual idx => am_call 0 k idx L st
  | .invokestatic idx => match am_mts.lookup (am_cl k, idx) with
    | some (f, _) => if 1 ≤ am_fr k ∧ 23 ≤ am_lo k then (if f = 0 then am_mabs pc L st n μ else if f = 1 then am_m2 0 max pc L st n μ else if f = 2 then am_m2 0 min pc L st n μ else am_m2 1 min pc L st n μ) else none
    | none => am_call 1 k idx L st
  | .ireturn => match st with
    | [v] => if v.1 = 0 ∧ (am_rt k = some .int ∨ am_rt k = some .boolean ∧ (v.2 = 0 ∨ v.2 = 1)) then some (.inr (.inr (some v))) else none
    | _ => none
  | .lreturn => match st with
    | [v] => if v.1 = 1 ∧ am_rt k = some .long then some (.inr (.inr (some v))) else none
    | _ => none
  | .areturn => match st with
    | [v] => if v.1 = 2 ∧ am_rt k = some (.object RX3) then some (.inr (.inr (some v))) else none
    | _ => none
  | .return_ => match st with
    | [] => if am_rt k = none then some (.inr (.inr none)) else none
    | _ => none
  | _ => none
def am_step (sc : am_Sc) (k pc : Nat) (L st : List am_V) (n : Nat) (μ : am_M) : Option am_R := match decode (am_by k) pc with
  | .ok (ins, len) => if am_len_ok ins len = true then am_do sc k pc ins L st n μ else none
  | _ => none
/-- a run of a method, with fuel: its answer, how many cells there are, memory -/
def am_ex : Nat → am_Sc → Nat → Nat → List am_V → List am_V → Nat → am_M → Option (Option am_V × Nat × am_M)
  | 0, _, _, _, _, _, _, _ => none
  | f + 1, sc, k, pc, L, st, n, μ => match am_step sc k pc L st n μ with
    | none => none
    | some (.inl (pc', L', st', n', μ')) => if n ≤ n' then am_ex f sc k pc' L' st' n' μ' else none
    | some (.inr (.inl (k', as, rest))) => match am_ex f none k' 0 (am_entry k' as) [] n μ with
      | none => none
      | some (r, n', μ') => am_ex f sc k (pc + 3) L (r.toList ++ rest) n' μ'
    | some (.inr (.inr r)) => some (r, n, μ)
end
section
/-! the tables hold what the words of the Statement say -/
def am_cT (ci : Nat) : vw_C := vwCl.getD ci ("", TX0, 0)
def am_T (ci : Nat) : u_T := (am_cT ci).2.1
def am_tyo (ci : Nat) : Nat → FieldType := match ci with
  | 0 => tyX0
  | 1 => tyX1
  | 2 => tyX2
  | 3 => tyX3
  | 4 => tyX4
  | 5 => tyX5
  | 6 => tyX6
  | _ => tyX7
def am_co (o : Nat) : Nat × Nat × Nat := am_cls.getD o (0, 0, 0)
theorem am_all {p : Nat → Bool} {n : Nat} (h : (List.range n).all p = true) {k : Nat} (hk : k < n) : p k = true := List.all_eq_true.mp h k (List.mem_range.mpr hk)
def am_tb : List Cond := lw_tbl.filter goodWord
theorem am_mem {i : Nat} {w : Cond} (h : lw_tbl[i]? = some w) (hg : goodWord w = true) : w ∈ am_tb := List.mem_filter.mpr ⟨List.mem_of_getElem? h, hg⟩
theorem am_good {ws : List Cond} (h : ∀ w ∈ ws, w ∈ am_tb) : GoodIn am_tb ws := fun w hw => ⟨h w hw, good_of_word (List.mem_filter.mp (h w hw)).2⟩
theorem am_v_inst0 : (List.range 140).all (fun k => decide (am_kd k = 1) || decide (lw_tbl[am_ip k]? = some (Cond.instanceMethod (am_y k)))) = true := by decide +kernel
theorem am_v_inst {k : Nat} (hk : k < 140) (h : am_kd k ≠ 1) : Cond.instanceMethod (am_y k) ∈ am_tb := by
  have := am_all am_v_inst0 hk
  simp only [Bool.or_eq_true, decide_eq_true_eq] at this
  exact am_mem (this.resolve_left h) rfl
theorem am_v_stat0 : (List.range 140).all (fun k => !decide (am_kd k = 1) || decide (lw_tbl[am_ip k]? = some (Cond.static (am_y k)))) = true := by decide +kernel
theorem am_v_stat {k : Nat} (hk : k < 140) (h : am_kd k = 1) : Cond.static (am_y k) ∈ am_tb := by
  have := am_all am_v_stat0 hk
  simp only [h, decide_true, Bool.not_true, Bool.false_or, decide_eq_true_eq] at this
  exact am_mem this rfl
theorem am_v_sel0 : (List.range 140).all (fun k => !decide (am_kd k = 0) || decide (lw_tbl[am_sp k]? = some (Cond.selects (am_cn (am_cl k)) (am_y k) (am_y k)))) = true := by decide +kernel
theorem am_v_sel {k : Nat} (hk : k < 140) (h : am_kd k = 0) : Cond.selects (am_cn (am_cl k)) (am_y k) (am_y k) ∈ am_tb := by
  have := am_all am_v_sel0 hk
  simp only [h, decide_true, Bool.not_true, Bool.false_or, decide_eq_true_eq] at this
  exact am_mem this rfl
theorem am_v_y0 : (List.range 141).all (fun k => decide ((am_y k).cls = am_cn (am_cl k)) && decide ((am_y k).cls ≠ "java/lang/invoke/MethodHandle") && decide ((am_y k).cls ≠ "java/lang/invoke/VarHandle") && decide ((parseMethodDescriptor (am_y k).desc).map (fun d => d.parameters.length) = some (am_na k)) && plainName (am_y k).cls && (decide (am_kd k = 2) == decide ((am_y k).name = "<init>")) && decide (am_cl k < 10)) = true := by decide +kernel
theorem am_v_y {k : Nat} (hk : k < 141) : (am_y k).cls = am_cn (am_cl k) ∧ (am_y k).cls ≠ "java/lang/invoke/MethodHandle" ∧ (am_y k).cls ≠ "java/lang/invoke/VarHandle" ∧ (parseMethodDescriptor (am_y k).desc).map (fun d => d.parameters.length) = some (am_na k) ∧ plainName (am_y k).cls = true ∧ (am_kd k = 2 ↔ (am_y k).name = "<init>") ∧ am_cl k < 10 := by
  have := am_all am_v_y0 hk
  simp only [Bool.and_eq_true, decide_eq_true_eq, beq_iff_eq, decide_eq_decide] at this
  obtain ⟨⟨⟨⟨⟨⟨h1, h2⟩, h3⟩, h4⟩, h5⟩, h6⟩, h7⟩ := this
  exact ⟨h1, h2, h3, h4, h5, h6, h7⟩
theorem am_v_ini0 : (List.range 10).all (fun o => decide (lw_tbl[(am_co o).2.2]? = some (Cond.initialized (am_cn o)))) = true := by decide +kernel
theorem am_v_ini {o : Nat} (ho : o < 10) : Cond.initialized (am_cn o) ∈ am_tb := am_mem (of_decide_eq_true (am_all am_v_ini0 ho)) rfl
theorem am_v_mls0 : am_mls.all (fun q => decide (q.2.1 < 141) && decide (lw_tbl[q.2.2.2]? = some (if q.2.2.1 = 0 then Cond.methodLink (am_cn q.1.1) q.1.2 (am_y q.2.1) else Cond.methodLinkNest (am_cn q.1.1) q.1.2 (am_y q.2.1) RX6))) = true := by decide +kernel
theorem am_v_fls0 : am_fls.all (fun q => decide (q.2.1.1 < 8) && decide (q.2.1.2 < am_N q.2.1.1) && decide (lw_tbl[q.2.2]? = some (Cond.fieldLink (am_cn q.1.1) q.1.2 (am_T q.2.1.1 q.2.1.2).1 (am_T q.2.1.1 q.2.1.2).2.1 (am_T q.2.1.1 q.2.1.2).2.2.1))) = true := by decide +kernel
theorem am_v_ois0 : am_ois.all (fun q => decide (lw_tbl[q.2]? = some (Cond.methodLink (am_cn q.1.1) q.1.2 Lib.objectInit))) = true := by decide +kernel
theorem am_v_nls0 : am_nls.all (fun q => decide (lw_tbl[q.2.2]? = some (Cond.classLink (am_cn q.1.1) q.1.2 (if q.2.1 = 100 then RX3 else if q.2.1 = 101 then "[" ++ (FieldType.array .int).toString else am_cn q.2.1)))) = true := by decide +kernel
theorem am_v_cls0 : (List.range 8).all (fun ci => decide ((am_cT ci).2.2 = am_N ci) && decide ((am_cT ci).1 = am_cn ci) && decide (lw_tbl[(am_co ci).2.1]? = some (Cond.instantiable (am_cn ci) (am_N ci))) && (List.range (am_N ci)).all (fun j => decide (parseFieldDescriptor (am_T ci j).2.2.1 = some (am_tyo ci j)) && decide ((am_T ci j).2.2.2 = (am_fs ci j).2) && decide ((am_T ci j).1 = am_cn ci))) = true := by decide +kernel
theorem am_v_nm0 : ∀ ci, ci < 8 → ∀ a, a < am_N ci → ∀ b, b < am_N ci → a ≠ b → (am_T ci a).2.1 ≠ (am_T ci b).2.1 := by
  intro ci h
  match ci, h with
  | 0, _ => exact nmX0
  | 1, _ => exact nmX1
  | 2, _ => exact nmX2
  | 3, _ => exact nmX3
  | 4, _ => exact nmX4
  | 5, _ => exact nmX5
  | 6, _ => exact nmX6
  | 7, _ => exact nmX7
theorem am_v_uws0 : (List.range 8).all (fun ci => (u_ws (am_cn ci) (am_T ci) (am_N ci)).all (fun w => decide (w ∈ lw_tbl) && goodWord w)) = true := by decide +kernel
theorem am_v_obj : lw_tbl[am_poInst]? = some (Cond.instanceMethod Lib.objectInit) ∧ lw_tbl[am_poCode]? = some (Cond.code Lib.objectInit ⟨#[0xb1]⟩ 1 none) := by decide +kernel
theorem am_v_arr : lw_tbl[am_paInt]? = some (Cond.arrayClass .int) ∧ lw_tbl[am_paLong]? = some (Cond.arrayClass .long) ∧ lw_tbl[am_paNote]? = some (Cond.arrayOver (.object RX3)) ∧ lw_tbl[am_paII]? = some (Cond.arrayOver (.array .int)) := by decide +kernel
theorem am_v_ldc0 : am_ldcs.all (fun q => decide (lw_tbl[q.2.2]? = some (Cond.constant (am_cn q.1.1) q.1.2 (Int32.ofInt q.2.1))) && decide (-2147483648 ≤ q.2.1) && decide (q.2.1 < 2147483648)) = true := by decide +kernel
theorem am_v_ldc20 : am_ldc2s.all (fun q => decide (lw_tbl[q.2.2]? = some (Cond.constantLong (am_cn q.1.1) q.1.2 (Int64.ofInt q.2.1))) && decide (-9223372036854775808 ≤ q.2.1) && decide (q.2.1 < 9223372036854775808)) = true := by decide +kernel
/-- the sorts of fields agree with their types -/
def am_tyS (ty : FieldType) : Nat := match ty with
  | .int => 0
  | .long => 1
  | .boolean => 3
  | .object _ => 2
  | .array _ => 2
  | _ => 9
theorem am_v_tyS0 : (List.range 8).all (fun ci => (List.range (am_N ci)).all (fun j => decide (am_tyS (am_tyo ci j) = (am_fs ci j).1))) = true := by decide +kernel
theorem am_lookup {α β : Type} [BEq α] [LawfulBEq α] {l : List (α × β)} {a : α} {b : β} (h : l.lookup a = some b) : (a, b) ∈ l := by
  induction l with
  | nil => cases h
  | cons x t ih =>
    obtain ⟨x1, x2⟩ := x
    simp only [List.lookup] at h
    split at h
    · rename_i hx
      cases h
      rw [eq_of_beq hx]
      exact List.mem_cons_self
    · exact List.mem_cons_of_mem _ (ih h)
set_option maxRecDepth 20000 in
theorem am_vc0 : lw_tbl[69]? = some (Cond.code (am_y 0) (am_by 0) (am_ml 0) (am_rt 0)) := by rfl
set_option maxRecDepth 20000 in
theorem am_vc1 : lw_tbl[319]? = some (Cond.code (am_y 1) (am_by 1) (am_ml 1) (am_rt 1)) := by rfl
set_option maxRecDepth 20000 in
theorem am_vc2 : lw_tbl[425]? = some (Cond.code (am_y 2) (am_by 2) (am_ml 2) (am_rt 2)) := by rfl
set_option maxRecDepth 20000 in
theorem am_vc3 : lw_tbl[331]? = some (Cond.code (am_y 3) (am_by 3) (am_ml 3) (am_rt 3)) := by rfl
set_option maxRecDepth 20000 in
theorem am_vc4 : lw_tbl[433]? = some (Cond.code (am_y 4) (am_by 4) (am_ml 4) (am_rt 4)) := by rfl
set_option maxRecDepth 20000 in
theorem am_vc5 : lw_tbl[485]? = some (Cond.code (am_y 5) (am_by 5) (am_ml 5) (am_rt 5)) := by rfl
set_option maxRecDepth 20000 in
theorem am_vc6 : lw_tbl[501]? = some (Cond.code (am_y 6) (am_by 6) (am_ml 6) (am_rt 6)) := by rfl
set_option maxRecDepth 20000 in
theorem am_vc7 : lw_tbl[123]? = some (Cond.code (am_y 7) (am_by 7) (am_ml 7) (am_rt 7)) := by rfl
set_option maxRecDepth 20000 in
theorem am_vc8 : lw_tbl[493]? = some (Cond.code (am_y 8) (am_by 8) (am_ml 8) (am_rt 8)) := by rfl
set_option maxRecDepth 20000 in
theorem am_vc9 : lw_tbl[638]? = some (Cond.code (am_y 9) (am_by 9) (am_ml 9) (am_rt 9)) := by rfl
set_option maxRecDepth 20000 in
theorem am_vc10 : lw_tbl[522]? = some (Cond.code (am_y 10) (am_by 10) (am_ml 10) (am_rt 10)) := by rfl
set_option maxRecDepth 20000 in
theorem am_vc11 : lw_tbl[563]? = some (Cond.code (am_y 11) (am_by 11) (am_ml 11) (am_rt 11)) := by rfl
set_option maxRecDepth 20000 in
theorem am_vc12 : lw_tbl[693]? = some (Cond.code (am_y 12) (am_by 12) (am_ml 12) (am_rt 12)) := by rfl
set_option maxRecDepth 20000 in
theorem am_vc13 : lw_tbl[702]? = some (Cond.code (am_y 13) (am_by 13) (am_ml 13) (am_rt 13)) := by rfl
set_option maxRecDepth 20000 in
theorem am_vc14 : lw_tbl[642]? = some (Cond.code (am_y 14) (am_by 14) (am_ml 14) (am_rt 14)) := by rfl
set_option maxRecDepth 20000 in
theorem am_vc15 : lw_tbl[677]? = some (Cond.code (am_y 15) (am_by 15) (am_ml 15) (am_rt 15)) := by rfl
set_option maxRecDepth 20000 in
theorem am_vc16 : lw_tbl[673]? = some (Cond.code (am_y 16) (am_by 16) (am_ml 16) (am_rt 16)) := by rfl
set_option maxRecDepth 20000 in
theorem am_vc17 : lw_tbl[647]? = some (Cond.code (am_y 17) (am_by 17) (am_ml 17) (am_rt 17)) := by rfl
set_option maxRecDepth 20000 in
theorem am_vc18 : lw_tbl[652]? = some (Cond.code (am_y 18) (am_by 18) (am_ml 18) (am_rt 18)) := by rfl
set_option maxRecDepth 20000 in
theorem am_vc19 : lw_tbl[657]? = some (Cond.code (am_y 19) (am_by 19) (am_ml 19) (am_rt 19)) := by rfl
set_option maxRecDepth 20000 in
theorem am_vc20 : lw_tbl[662]? = some (Cond.code (am_y 20) (am_by 20) (am_ml 20) (am_rt 20)) := by rfl
set_option maxRecDepth 20000 in
theorem am_vc21 : lw_tbl[665]? = some (Cond.code (am_y 21) (am_by 21) (am_ml 21) (am_rt 21)) := by rfl
set_option maxRecDepth 20000 in
theorem am_vc22 : lw_tbl[155]? = some (Cond.code (am_y 22) (am_by 22) (am_ml 22) (am_rt 22)) := by rfl
set_option maxRecDepth 20000 in
theorem am_vc23 : lw_tbl[542]? = some (Cond.code (am_y 23) (am_by 23) (am_ml 23) (am_rt 23)) := by rfl
set_option maxRecDepth 20000 in
theorem am_vc24 : lw_tbl[546]? = some (Cond.code (am_y 24) (am_by 24) (am_ml 24) (am_rt 24)) := by rfl
set_option maxRecDepth 20000 in
theorem am_vc25 : lw_tbl[550]? = some (Cond.code (am_y 25) (am_by 25) (am_ml 25) (am_rt 25)) := by rfl
set_option maxRecDepth 20000 in
theorem am_vc26 : lw_tbl[555]? = some (Cond.code (am_y 26) (am_by 26) (am_ml 26) (am_rt 26)) := by rfl
set_option maxRecDepth 20000 in
theorem am_vc27 : lw_tbl[572]? = some (Cond.code (am_y 27) (am_by 27) (am_ml 27) (am_rt 27)) := by rfl
set_option maxRecDepth 20000 in
theorem am_vc28 : lw_tbl[597]? = some (Cond.code (am_y 28) (am_by 28) (am_ml 28) (am_rt 28)) := by rfl
set_option maxRecDepth 20000 in
theorem am_vc29 : lw_tbl[576]? = some (Cond.code (am_y 29) (am_by 29) (am_ml 29) (am_rt 29)) := by rfl
set_option maxRecDepth 20000 in
theorem am_vc30 : lw_tbl[580]? = some (Cond.code (am_y 30) (am_by 30) (am_ml 30) (am_rt 30)) := by rfl
set_option maxRecDepth 20000 in
theorem am_vc31 : lw_tbl[593]? = some (Cond.code (am_y 31) (am_by 31) (am_ml 31) (am_rt 31)) := by rfl
set_option maxRecDepth 20000 in
theorem am_vc32 : lw_tbl[343]? = some (Cond.code (am_y 32) (am_by 32) (am_ml 32) (am_rt 32)) := by rfl
set_option maxRecDepth 20000 in
theorem am_vc33 : lw_tbl[465]? = some (Cond.code (am_y 33) (am_by 33) (am_ml 33) (am_rt 33)) := by rfl
set_option maxRecDepth 20000 in
theorem am_vc34 : lw_tbl[559]? = some (Cond.code (am_y 34) (am_by 34) (am_ml 34) (am_rt 34)) := by rfl
set_option maxRecDepth 20000 in
theorem am_vc35 : lw_tbl[441]? = some (Cond.code (am_y 35) (am_by 35) (am_ml 35) (am_rt 35)) := by rfl
set_option maxRecDepth 20000 in
theorem am_vc36 : lw_tbl[445]? = some (Cond.code (am_y 36) (am_by 36) (am_ml 36) (am_rt 36)) := by rfl
set_option maxRecDepth 20000 in
theorem am_vc37 : lw_tbl[131]? = some (Cond.code (am_y 37) (am_by 37) (am_ml 37) (am_rt 37)) := by rfl
set_option maxRecDepth 20000 in
theorem am_vc38 : lw_tbl[497]? = some (Cond.code (am_y 38) (am_by 38) (am_ml 38) (am_rt 38)) := by rfl
set_option maxRecDepth 20000 in
theorem am_vc39 : lw_tbl[506]? = some (Cond.code (am_y 39) (am_by 39) (am_ml 39) (am_rt 39)) := by rfl
set_option maxRecDepth 20000 in
theorem am_vc40 : lw_tbl[149]? = some (Cond.code (am_y 40) (am_by 40) (am_ml 40) (am_rt 40)) := by rfl
set_option maxRecDepth 20000 in
theorem am_vc41 : lw_tbl[510]? = some (Cond.code (am_y 41) (am_by 41) (am_ml 41) (am_rt 41)) := by rfl
set_option maxRecDepth 20000 in
theorem am_vc42 : lw_tbl[518]? = some (Cond.code (am_y 42) (am_by 42) (am_ml 42) (am_rt 42)) := by rfl
set_option maxRecDepth 20000 in
theorem am_vc43 : lw_tbl[514]? = some (Cond.code (am_y 43) (am_by 43) (am_ml 43) (am_rt 43)) := by rfl
set_option maxRecDepth 20000 in
theorem am_vc44 : lw_tbl[526]? = some (Cond.code (am_y 44) (am_by 44) (am_ml 44) (am_rt 44)) := by rfl
set_option maxRecDepth 20000 in
theorem am_vc45 : lw_tbl[530]? = some (Cond.code (am_y 45) (am_by 45) (am_ml 45) (am_rt 45)) := by rfl
set_option maxRecDepth 20000 in
theorem am_vc46 : lw_tbl[534]? = some (Cond.code (am_y 46) (am_by 46) (am_ml 46) (am_rt 46)) := by rfl
set_option maxRecDepth 20000 in
theorem am_vc47 : lw_tbl[538]? = some (Cond.code (am_y 47) (am_by 47) (am_ml 47) (am_rt 47)) := by rfl
set_option maxRecDepth 20000 in
theorem am_vc48 : lw_tbl[567]? = some (Cond.code (am_y 48) (am_by 48) (am_ml 48) (am_rt 48)) := by rfl
set_option maxRecDepth 20000 in
theorem am_vc49 : lw_tbl[61]? = some (Cond.code (am_y 49) (am_by 49) (am_ml 49) (am_rt 49)) := by rfl
set_option maxRecDepth 20000 in
theorem am_vc50 : lw_tbl[289]? = some (Cond.code (am_y 50) (am_by 50) (am_ml 50) (am_rt 50)) := by rfl
set_option maxRecDepth 20000 in
theorem am_vc51 : lw_tbl[293]? = some (Cond.code (am_y 51) (am_by 51) (am_ml 51) (am_rt 51)) := by rfl
set_option maxRecDepth 20000 in
theorem am_vc52 : lw_tbl[308]? = some (Cond.code (am_y 52) (am_by 52) (am_ml 52) (am_rt 52)) := by rfl
set_option maxRecDepth 20000 in
theorem am_vc53 : lw_tbl[327]? = some (Cond.code (am_y 53) (am_by 53) (am_ml 53) (am_rt 53)) := by rfl
set_option maxRecDepth 20000 in
theorem am_vc54 : lw_tbl[335]? = some (Cond.code (am_y 54) (am_by 54) (am_ml 54) (am_rt 54)) := by rfl
set_option maxRecDepth 20000 in
theorem am_vc55 : lw_tbl[429]? = some (Cond.code (am_y 55) (am_by 55) (am_ml 55) (am_rt 55)) := by rfl
set_option maxRecDepth 20000 in
theorem am_vc56 : lw_tbl[437]? = some (Cond.code (am_y 56) (am_by 56) (am_ml 56) (am_rt 56)) := by rfl
set_option maxRecDepth 20000 in
theorem am_vc57 : lw_tbl[449]? = some (Cond.code (am_y 57) (am_by 57) (am_ml 57) (am_rt 57)) := by rfl
set_option maxRecDepth 20000 in
theorem am_vc58 : lw_tbl[453]? = some (Cond.code (am_y 58) (am_by 58) (am_ml 58) (am_rt 58)) := by rfl
set_option maxRecDepth 20000 in
theorem am_vc59 : lw_tbl[457]? = some (Cond.code (am_y 59) (am_by 59) (am_ml 59) (am_rt 59)) := by rfl
set_option maxRecDepth 20000 in
theorem am_vc60 : lw_tbl[461]? = some (Cond.code (am_y 60) (am_by 60) (am_ml 60) (am_rt 60)) := by rfl
set_option maxRecDepth 20000 in
theorem am_vc61 : lw_tbl[469]? = some (Cond.code (am_y 61) (am_by 61) (am_ml 61) (am_rt 61)) := by rfl
set_option maxRecDepth 20000 in
theorem am_vc62 : lw_tbl[473]? = some (Cond.code (am_y 62) (am_by 62) (am_ml 62) (am_rt 62)) := by rfl
set_option maxRecDepth 20000 in
theorem am_vc63 : lw_tbl[477]? = some (Cond.code (am_y 63) (am_by 63) (am_ml 63) (am_rt 63)) := by rfl
set_option maxRecDepth 20000 in
theorem am_vc64 : lw_tbl[481]? = some (Cond.code (am_y 64) (am_by 64) (am_ml 64) (am_rt 64)) := by rfl
set_option maxRecDepth 20000 in
theorem am_vc65 : lw_tbl[489]? = some (Cond.code (am_y 65) (am_by 65) (am_ml 65) (am_rt 65)) := by rfl
set_option maxRecDepth 20000 in
theorem am_vc66 : lw_tbl[602]? = some (Cond.code (am_y 66) (am_by 66) (am_ml 66) (am_rt 66)) := by rfl
set_option maxRecDepth 20000 in
theorem am_vc67 : lw_tbl[610]? = some (Cond.code (am_y 67) (am_by 67) (am_ml 67) (am_rt 67)) := by rfl
set_option maxRecDepth 20000 in
theorem am_vc68 : lw_tbl[614]? = some (Cond.code (am_y 68) (am_by 68) (am_ml 68) (am_rt 68)) := by rfl
set_option maxRecDepth 20000 in
theorem am_vc69 : lw_tbl[622]? = some (Cond.code (am_y 69) (am_by 69) (am_ml 69) (am_rt 69)) := by rfl
set_option maxRecDepth 20000 in
theorem am_vc70 : lw_tbl[626]? = some (Cond.code (am_y 70) (am_by 70) (am_ml 70) (am_rt 70)) := by rfl
set_option maxRecDepth 20000 in
theorem am_vc71 : lw_tbl[630]? = some (Cond.code (am_y 71) (am_by 71) (am_ml 71) (am_rt 71)) := by rfl
set_option maxRecDepth 20000 in
theorem am_vc72 : lw_tbl[669]? = some (Cond.code (am_y 72) (am_by 72) (am_ml 72) (am_rt 72)) := by rfl
set_option maxRecDepth 20000 in
theorem am_vc73 : lw_tbl[681]? = some (Cond.code (am_y 73) (am_by 73) (am_ml 73) (am_rt 73)) := by rfl
set_option maxRecDepth 20000 in
theorem am_vc74 : lw_tbl[689]? = some (Cond.code (am_y 74) (am_by 74) (am_ml 74) (am_rt 74)) := by rfl
set_option maxRecDepth 20000 in
theorem am_vc75 : lw_tbl[698]? = some (Cond.code (am_y 75) (am_by 75) (am_ml 75) (am_rt 75)) := by rfl
set_option maxRecDepth 20000 in
theorem am_vc76 : lw_tbl[606]? = some (Cond.code (am_y 76) (am_by 76) (am_ml 76) (am_rt 76)) := by rfl
set_option maxRecDepth 20000 in
theorem am_vc77 : lw_tbl[618]? = some (Cond.code (am_y 77) (am_by 77) (am_ml 77) (am_rt 77)) := by rfl
set_option maxRecDepth 20000 in
theorem am_vc78 : lw_tbl[685]? = some (Cond.code (am_y 78) (am_by 78) (am_ml 78) (am_rt 78)) := by rfl
set_option maxRecDepth 20000 in
theorem am_vc79 : lw_tbl[634]? = some (Cond.code (am_y 79) (am_by 79) (am_ml 79) (am_rt 79)) := by rfl
set_option maxRecDepth 20000 in
theorem am_vc80 : lw_tbl[304]? = some (Cond.code (am_y 80) (am_by 80) (am_ml 80) (am_rt 80)) := by rfl
set_option maxRecDepth 20000 in
theorem am_vc81 : lw_tbl[300]? = some (Cond.code (am_y 81) (am_by 81) (am_ml 81) (am_rt 81)) := by rfl
set_option maxRecDepth 20000 in
theorem am_vc82 : lw_tbl[323]? = some (Cond.code (am_y 82) (am_by 82) (am_ml 82) (am_rt 82)) := by rfl
set_option maxRecDepth 20000 in
theorem am_vc83 : lw_tbl[315]? = some (Cond.code (am_y 83) (am_by 83) (am_ml 83) (am_rt 83)) := by rfl
set_option maxRecDepth 20000 in
theorem am_vc84 : lw_tbl[296]? = some (Cond.code (am_y 84) (am_by 84) (am_ml 84) (am_rt 84)) := by rfl
set_option maxRecDepth 20000 in
theorem am_vc85 : lw_tbl[311]? = some (Cond.code (am_y 85) (am_by 85) (am_ml 85) (am_rt 85)) := by rfl
set_option maxRecDepth 20000 in
theorem am_vc86 : lw_tbl[338]? = some (Cond.code (am_y 86) (am_by 86) (am_ml 86) (am_rt 86)) := by rfl
set_option maxRecDepth 20000 in
theorem am_vc87 : lw_tbl[707]? = some (Cond.code (am_y 87) (am_by 87) (am_ml 87) (am_rt 87)) := by rfl
set_option maxRecDepth 20000 in
theorem am_vc88 : lw_tbl[855]? = some (Cond.code (am_y 88) (am_by 88) (am_ml 88) (am_rt 88)) := by rfl
set_option maxRecDepth 20000 in
theorem am_vc89 : lw_tbl[875]? = some (Cond.code (am_y 89) (am_by 89) (am_ml 89) (am_rt 89)) := by rfl
set_option maxRecDepth 20000 in
theorem am_vc90 : lw_tbl[863]? = some (Cond.code (am_y 90) (am_by 90) (am_ml 90) (am_rt 90)) := by rfl
set_option maxRecDepth 20000 in
theorem am_vc91 : lw_tbl[867]? = some (Cond.code (am_y 91) (am_by 91) (am_ml 91) (am_rt 91)) := by rfl
set_option maxRecDepth 20000 in
theorem am_vc92 : lw_tbl[883]? = some (Cond.code (am_y 92) (am_by 92) (am_ml 92) (am_rt 92)) := by rfl
set_option maxRecDepth 20000 in
theorem am_vc93 : lw_tbl[895]? = some (Cond.code (am_y 93) (am_by 93) (am_ml 93) (am_rt 93)) := by rfl
set_option maxRecDepth 20000 in
theorem am_vc94 : lw_tbl[859]? = some (Cond.code (am_y 94) (am_by 94) (am_ml 94) (am_rt 94)) := by rfl
set_option maxRecDepth 20000 in
theorem am_vc95 : lw_tbl[871]? = some (Cond.code (am_y 95) (am_by 95) (am_ml 95) (am_rt 95)) := by rfl
set_option maxRecDepth 20000 in
theorem am_vc96 : lw_tbl[879]? = some (Cond.code (am_y 96) (am_by 96) (am_ml 96) (am_rt 96)) := by rfl
set_option maxRecDepth 20000 in
theorem am_vc97 : lw_tbl[887]? = some (Cond.code (am_y 97) (am_by 97) (am_ml 97) (am_rt 97)) := by rfl
set_option maxRecDepth 20000 in
theorem am_vc98 : lw_tbl[891]? = some (Cond.code (am_y 98) (am_by 98) (am_ml 98) (am_rt 98)) := by rfl
set_option maxRecDepth 20000 in
theorem am_vc99 : lw_tbl[899]? = some (Cond.code (am_y 99) (am_by 99) (am_ml 99) (am_rt 99)) := by rfl
set_option maxRecDepth 20000 in
theorem am_vc100 : lw_tbl[903]? = some (Cond.code (am_y 100) (am_by 100) (am_ml 100) (am_rt 100)) := by rfl
set_option maxRecDepth 20000 in
theorem am_vc101 : lw_tbl[907]? = some (Cond.code (am_y 101) (am_by 101) (am_ml 101) (am_rt 101)) := by rfl
set_option maxRecDepth 20000 in
theorem am_vc102 : lw_tbl[911]? = some (Cond.code (am_y 102) (am_by 102) (am_ml 102) (am_rt 102)) := by rfl
set_option maxRecDepth 20000 in
theorem am_vc103 : lw_tbl[915]? = some (Cond.code (am_y 103) (am_by 103) (am_ml 103) (am_rt 103)) := by rfl
set_option maxRecDepth 20000 in
theorem am_vc104 : lw_tbl[919]? = some (Cond.code (am_y 104) (am_by 104) (am_ml 104) (am_rt 104)) := by rfl
set_option maxRecDepth 20000 in
theorem am_vc105 : lw_tbl[923]? = some (Cond.code (am_y 105) (am_by 105) (am_ml 105) (am_rt 105)) := by rfl
set_option maxRecDepth 20000 in
theorem am_vc106 : lw_tbl[927]? = some (Cond.code (am_y 106) (am_by 106) (am_ml 106) (am_rt 106)) := by rfl
set_option maxRecDepth 20000 in
theorem am_vc107 : lw_tbl[939]? = some (Cond.code (am_y 107) (am_by 107) (am_ml 107) (am_rt 107)) := by rfl
set_option maxRecDepth 20000 in
theorem am_vc108 : lw_tbl[935]? = some (Cond.code (am_y 108) (am_by 108) (am_ml 108) (am_rt 108)) := by rfl
set_option maxRecDepth 20000 in
theorem am_vc109 : lw_tbl[931]? = some (Cond.code (am_y 109) (am_by 109) (am_ml 109) (am_rt 109)) := by rfl
set_option maxRecDepth 20000 in
theorem am_vc110 : lw_tbl[959]? = some (Cond.code (am_y 110) (am_by 110) (am_ml 110) (am_rt 110)) := by rfl
set_option maxRecDepth 20000 in
theorem am_vc111 : lw_tbl[963]? = some (Cond.code (am_y 111) (am_by 111) (am_ml 111) (am_rt 111)) := by rfl
set_option maxRecDepth 20000 in
theorem am_vc112 : lw_tbl[971]? = some (Cond.code (am_y 112) (am_by 112) (am_ml 112) (am_rt 112)) := by rfl
set_option maxRecDepth 20000 in
theorem am_vc113 : lw_tbl[975]? = some (Cond.code (am_y 113) (am_by 113) (am_ml 113) (am_rt 113)) := by rfl
set_option maxRecDepth 20000 in
theorem am_vc114 : lw_tbl[983]? = some (Cond.code (am_y 114) (am_by 114) (am_ml 114) (am_rt 114)) := by rfl
set_option maxRecDepth 20000 in
theorem am_vc115 : lw_tbl[979]? = some (Cond.code (am_y 115) (am_by 115) (am_ml 115) (am_rt 115)) := by rfl
set_option maxRecDepth 20000 in
theorem am_vc116 : lw_tbl[955]? = some (Cond.code (am_y 116) (am_by 116) (am_ml 116) (am_rt 116)) := by rfl
set_option maxRecDepth 20000 in
theorem am_vc117 : lw_tbl[967]? = some (Cond.code (am_y 117) (am_by 117) (am_ml 117) (am_rt 117)) := by rfl
set_option maxRecDepth 20000 in
theorem am_vc118 : lw_tbl[992]? = some (Cond.code (am_y 118) (am_by 118) (am_ml 118) (am_rt 118)) := by rfl
set_option maxRecDepth 20000 in
theorem am_vc119 : lw_tbl[996]? = some (Cond.code (am_y 119) (am_by 119) (am_ml 119) (am_rt 119)) := by rfl
set_option maxRecDepth 20000 in
theorem am_vc120 : lw_tbl[987]? = some (Cond.code (am_y 120) (am_by 120) (am_ml 120) (am_rt 120)) := by rfl
set_option maxRecDepth 20000 in
theorem am_vc121 : lw_tbl[1004]? = some (Cond.code (am_y 121) (am_by 121) (am_ml 121) (am_rt 121)) := by rfl
set_option maxRecDepth 20000 in
theorem am_vc122 : lw_tbl[1008]? = some (Cond.code (am_y 122) (am_by 122) (am_ml 122) (am_rt 122)) := by rfl
set_option maxRecDepth 20000 in
theorem am_vc123 : lw_tbl[951]? = some (Cond.code (am_y 123) (am_by 123) (am_ml 123) (am_rt 123)) := by rfl
set_option maxRecDepth 20000 in
theorem am_vc124 : lw_tbl[947]? = some (Cond.code (am_y 124) (am_by 124) (am_ml 124) (am_rt 124)) := by rfl
set_option maxRecDepth 20000 in
theorem am_vc125 : lw_tbl[943]? = some (Cond.code (am_y 125) (am_by 125) (am_ml 125) (am_rt 125)) := by rfl
set_option maxRecDepth 20000 in
theorem am_vc126 : lw_tbl[1012]? = some (Cond.code (am_y 126) (am_by 126) (am_ml 126) (am_rt 126)) := by rfl
set_option maxRecDepth 20000 in
theorem am_vc127 : lw_tbl[1016]? = some (Cond.code (am_y 127) (am_by 127) (am_ml 127) (am_rt 127)) := by rfl
set_option maxRecDepth 20000 in
theorem am_vc128 : lw_tbl[1024]? = some (Cond.code (am_y 128) (am_by 128) (am_ml 128) (am_rt 128)) := by rfl
set_option maxRecDepth 20000 in
theorem am_vc129 : lw_tbl[1020]? = some (Cond.code (am_y 129) (am_by 129) (am_ml 129) (am_rt 129)) := by rfl
set_option maxRecDepth 20000 in
theorem am_vc130 : lw_tbl[1028]? = some (Cond.code (am_y 130) (am_by 130) (am_ml 130) (am_rt 130)) := by rfl
set_option maxRecDepth 20000 in
theorem am_vc131 : lw_tbl[1032]? = some (Cond.code (am_y 131) (am_by 131) (am_ml 131) (am_rt 131)) := by rfl
set_option maxRecDepth 20000 in
theorem am_vc132 : lw_tbl[1044]? = some (Cond.code (am_y 132) (am_by 132) (am_ml 132) (am_rt 132)) := by rfl
set_option maxRecDepth 20000 in
theorem am_vc133 : lw_tbl[1050]? = some (Cond.code (am_y 133) (am_by 133) (am_ml 133) (am_rt 133)) := by rfl
set_option maxRecDepth 20000 in
theorem am_vc134 : lw_tbl[1040]? = some (Cond.code (am_y 134) (am_by 134) (am_ml 134) (am_rt 134)) := by rfl
set_option maxRecDepth 20000 in
theorem am_vc135 : lw_tbl[1036]? = some (Cond.code (am_y 135) (am_by 135) (am_ml 135) (am_rt 135)) := by rfl
set_option maxRecDepth 20000 in
theorem am_vc136 : lw_tbl[1054]? = some (Cond.code (am_y 136) (am_by 136) (am_ml 136) (am_rt 136)) := by rfl
set_option maxRecDepth 20000 in
theorem am_vc137 : lw_tbl[1058]? = some (Cond.code (am_y 137) (am_by 137) (am_ml 137) (am_rt 137)) := by rfl
set_option maxRecDepth 20000 in
theorem am_vc138 : lw_tbl[1062]? = some (Cond.code (am_y 138) (am_by 138) (am_ml 138) (am_rt 138)) := by rfl
set_option maxRecDepth 20000 in
theorem am_vc139 : lw_tbl[1066]? = some (Cond.code (am_y 139) (am_by 139) (am_ml 139) (am_rt 139)) := by rfl
theorem am_v_code : ∀ {k : Nat}, k < 140 → Cond.code (am_y k) (am_by k) (am_ml k) (am_rt k) ∈ am_tb := by
  intro k hk
  match k, hk with
  | 0, _ => exact am_mem am_vc0 rfl
  | 1, _ => exact am_mem am_vc1 rfl
  | 2, _ => exact am_mem am_vc2 rfl
  | 3, _ => exact am_mem am_vc3 rfl
  | 4, _ => exact am_mem am_vc4 rfl
  | 5, _ => exact am_mem am_vc5 rfl
  | 6, _ => exact am_mem am_vc6 rfl
  | 7, _ => exact am_mem am_vc7 rfl
  | 8, _ => exact am_mem am_vc8 rfl
  | 9, _ => exact am_mem am_vc9 rfl
  | 10, _ => exact am_mem am_vc10 rfl
  | 11, _ => exact am_mem am_vc11 rfl
  | 12, _ => exact am_mem am_vc12 rfl
  | 13, _ => exact am_mem am_vc13 rfl
  | 14, _ => exact am_mem am_vc14 rfl
  | 15, _ => exact am_mem am_vc15 rfl
  | 16, _ => exact am_mem am_vc16 rfl
  | 17, _ => exact am_mem am_vc17 rfl
  | 18, _ => exact am_mem am_vc18 rfl
  | 19, _ => exact am_mem am_vc19 rfl
  | 20, _ => exact am_mem am_vc20 rfl
  | 21, _ => exact am_mem am_vc21 rfl
  | 22, _ => exact am_mem am_vc22 rfl
  | 23, _ => exact am_mem am_vc23 rfl
  | 24, _ => exact am_mem am_vc24 rfl
  | 25, _ => exact am_mem am_vc25 rfl
  | 26, _ => exact am_mem am_vc26 rfl
  | 27, _ => exact am_mem am_vc27 rfl
  | 28, _ => exact am_mem am_vc28 rfl
  | 29, _ => exact am_mem am_vc29 rfl
  | 30, _ => exact am_mem am_vc30 rfl
  | 31, _ => exact am_mem am_vc31 rfl
  | 32, _ => exact am_mem am_vc32 rfl
  | 33, _ => exact am_mem am_vc33 rfl
  | 34, _ => exact am_mem am_vc34 rfl
  | 35, _ => exact am_mem am_vc35 rfl
  | 36, _ => exact am_mem am_vc36 rfl
  | 37, _ => exact am_mem am_vc37 rfl
  | 38, _ => exact am_mem am_vc38 rfl
  | 39, _ => exact am_mem am_vc39 rfl
  | 40, _ => exact am_mem am_vc40 rfl
  | 41, _ => exact am_mem am_vc41 rfl
  | 42, _ => exact am_mem am_vc42 rfl
  | 43, _ => exact am_mem am_vc43 rfl
  | 44, _ => exact am_mem am_vc44 rfl
  | 45, _ => exact am_mem am_vc45 rfl
  | 46, _ => exact am_mem am_vc46 rfl
  | 47, _ => exact am_mem am_vc47 rfl
  | 48, _ => exact am_mem am_vc48 rfl
  | 49, _ => exact am_mem am_vc49 rfl
  | 50, _ => exact am_mem am_vc50 rfl
  | 51, _ => exact am_mem am_vc51 rfl
  | 52, _ => exact am_mem am_vc52 rfl
  | 53, _ => exact am_mem am_vc53 rfl
  | 54, _ => exact am_mem am_vc54 rfl
  | 55, _ => exact am_mem am_vc55 rfl
  | 56, _ => exact am_mem am_vc56 rfl
  | 57, _ => exact am_mem am_vc57 rfl
  | 58, _ => exact am_mem am_vc58 rfl
  | 59, _ => exact am_mem am_vc59 rfl
  | 60, _ => exact am_mem am_vc60 rfl
  | 61, _ => exact am_mem am_vc61 rfl
  | 62, _ => exact am_mem am_vc62 rfl
  | 63, _ => exact am_mem am_vc63 rfl
  | 64, _ => exact am_mem am_vc64 rfl
  | 65, _ => exact am_mem am_vc65 rfl
  | 66, _ => exact am_mem am_vc66 rfl
  | 67, _ => exact am_mem am_vc67 rfl
  | 68, _ => exact am_mem am_vc68 rfl
  | 69, _ => exact am_mem am_vc69 rfl
  | 70, _ => exact am_mem am_vc70 rfl
  | 71, _ => exact am_mem am_vc71 rfl
  | 72, _ => exact am_mem am_vc72 rfl
  | 73, _ => exact am_mem am_vc73 rfl
  | 74, _ => exact am_mem am_vc74 rfl
  | 75, _ => exact am_mem am_vc75 rfl
  | 76, _ => exact am_mem am_vc76 rfl
  | 77, _ => exact am_mem am_vc77 rfl
  | 78, _ => exact am_mem am_vc78 rfl
  | 79, _ => exact am_mem am_vc79 rfl
  | 80, _ => exact am_mem am_vc80 rfl
  | 81, _ => exact am_mem am_vc81 rfl
  | 82, _ => exact am_mem am_vc82 rfl
  | 83, _ => exact am_mem am_vc83 rfl
  | 84, _ => exact am_mem am_vc84 rfl
  | 85, _ => exact am_mem am_vc85 rfl
  | 86, _ => exact am_mem am_vc86 rfl
  | 87, _ => exact am_mem am_vc87 rfl
  | 88, _ => exact am_mem am_vc88 rfl
  | 89, _ => exact am_mem am_vc89 rfl
  | 90, _ => exact am_mem am_vc90 rfl
  | 91, _ => exact am_mem am_vc91 rfl
  | 92, _ => exact am_mem am_vc92 rfl
  | 93, _ => exact am_mem am_vc93 rfl
  | 94, _ => exact am_mem am_vc94 rfl
  | 95, _ => exact am_mem am_vc95 rfl
  | 96, _ => exact am_mem am_vc96 rfl
  | 97, _ => exact am_mem am_vc97 rfl
  | 98, _ => exact am_mem am_vc98 rfl
  | 99, _ => exact am_mem am_vc99 rfl
  | 100, _ => exact am_mem am_vc100 rfl
  | 101, _ => exact am_mem am_vc101 rfl
  | 102, _ => exact am_mem am_vc102 rfl
  | 103, _ => exact am_mem am_vc103 rfl
  | 104, _ => exact am_mem am_vc104 rfl
  | 105, _ => exact am_mem am_vc105 rfl
  | 106, _ => exact am_mem am_vc106 rfl
  | 107, _ => exact am_mem am_vc107 rfl
  | 108, _ => exact am_mem am_vc108 rfl
  | 109, _ => exact am_mem am_vc109 rfl
  | 110, _ => exact am_mem am_vc110 rfl
  | 111, _ => exact am_mem am_vc111 rfl
  | 112, _ => exact am_mem am_vc112 rfl
  | 113, _ => exact am_mem am_vc113 rfl
  | 114, _ => exact am_mem am_vc114 rfl
  | 115, _ => exact am_mem am_vc115 rfl
  | 116, _ => exact am_mem am_vc116 rfl
  | 117, _ => exact am_mem am_vc117 rfl
  | 118, _ => exact am_mem am_vc118 rfl
  | 119, _ => exact am_mem am_vc119 rfl
  | 120, _ => exact am_mem am_vc120 rfl
  | 121, _ => exact am_mem am_vc121 rfl
  | 122, _ => exact am_mem am_vc122 rfl
  | 123, _ => exact am_mem am_vc123 rfl
  | 124, _ => exact am_mem am_vc124 rfl
  | 125, _ => exact am_mem am_vc125 rfl
  | 126, _ => exact am_mem am_vc126 rfl
  | 127, _ => exact am_mem am_vc127 rfl
  | 128, _ => exact am_mem am_vc128 rfl
  | 129, _ => exact am_mem am_vc129 rfl
  | 130, _ => exact am_mem am_vc130 rfl
  | 131, _ => exact am_mem am_vc131 rfl
  | 132, _ => exact am_mem am_vc132 rfl
  | 133, _ => exact am_mem am_vc133 rfl
  | 134, _ => exact am_mem am_vc134 rfl
  | 135, _ => exact am_mem am_vc135 rfl
  | 136, _ => exact am_mem am_vc136 rfl
  | 137, _ => exact am_mem am_vc137 rfl
  | 138, _ => exact am_mem am_vc138 rfl
  | 139, _ => exact am_mem am_vc139 rfl
  | n + 140, h => exact absurd h (by omega)
theorem am_v_math : am_mps.length = 4 ∧ lw_tbl[(am_mps.getD 0 (0, 0)).1]? = some (Cond.static Lib.Math.abs.name) ∧ lw_tbl[(am_mps.getD 1 (0, 0)).1]? = some (Cond.static Lib.Math.max.name) ∧ lw_tbl[(am_mps.getD 2 (0, 0)).1]? = some (Cond.static Lib.Math.min.name) ∧ lw_tbl[(am_mps.getD 3 (0, 0)).1]? = some (Cond.static Lib.MathLoose.min_long.x) := by decide +kernel
theorem am_v_mathc : lw_tbl[(am_mps.getD 0 (0, 0)).2]? = some (Cond.code Lib.Math.abs.name Lib.Math.abs.code 1 (some .int)) ∧ lw_tbl[(am_mps.getD 1 (0, 0)).2]? = some (Cond.code Lib.Math.max.name Lib.Math.max.code 2 (some .int)) ∧ lw_tbl[(am_mps.getD 2 (0, 0)).2]? = some (Cond.code Lib.Math.min.name Lib.Math.min.code 2 (some .int)) ∧ lw_tbl[(am_mps.getD 3 (0, 0)).2]? = some (Cond.code Lib.MathLoose.min_long.x Lib.MathLoose.min_long.code 4 (some .long)) := by decide +kernel
theorem am_v_mts0 : am_mts.all (fun q => decide (lw_tbl[q.2.2]? = some (Cond.methodLink (am_cn q.1.1) q.1.2 (if q.2.1 = 0 then Lib.Math.abs.name else if q.2.1 = 1 then Lib.Math.max.name else if q.2.1 = 2 then Lib.Math.min.name else Lib.MathLoose.min_long.x)))) = true := by decide +kernel
end
section
/-! what an abstract state stands for -/
def am_rf (ad : Nat → Nat) (x : Int) : Option Nat := if x < 0 then none else some (ad x.toNat)
def am_cv (b : Nat) (ad : Nat → Nat) (v : am_V) : Value := match v.1 with
  | 0 => .int (Int32.ofInt v.2)
  | 1 => .long (Int64.ofInt v.2)
  | 2 => va_rf (am_rf ad v.2)
  | 3 => .ref b
  | _ => .null
def am_cell (dA : Nat → ClassId) (b : Nat) (ad : Nat → Nat) (k : Nat × Nat) (f : Int → Int) : va_E := match k.1 with
  | 0 => .inr (k.2, (List.range (am_N k.2)).map (fun (j : Nat) => am_cv b ad (am_ft k.2 j, f (j : Int))))
  | 1 => .inl (dA 0, k.2, .inl (fun j => Int32.ofInt (f (j : Int))))
  | 2 => .inl (dA 1, k.2, .inr (.inl (fun j => Int64.ofInt (f (j : Int)))))
  | 3 => .inl (dA 2, k.2, .inr (.inr (.inr (.inr (fun j => am_rf ad (f (j : Int)))))))
  | _ => .inl (dA 3, k.2, .inr (.inr (.inr (.inr (fun j => am_rf ad (f (j : Int)))))))
def am_tys (dA : Nat → ClassId) : List (ClassId × FieldType) := [(dA 0, .int), (dA 1, .long), (dA 2, .object RX3), (dA 3, .array .int)]
def am_W (dA : Nat → ClassId) (b : Nat) (ad : Nat → Nat) (n : Nat) (μ : am_M) : va_W := (List.range n).map (fun (i : Nat) => (ad i, am_cell dA b ad (am_kind (i : Int)) (μ (i : Int))))
def am_ok (n : Nat) (v : am_V) : Prop := match v.1 with
  | 0 => -2147483648 ≤ v.2 ∧ v.2 < 2147483648
  | 1 => -9223372036854775808 ≤ v.2 ∧ v.2 < 9223372036854775808
  | 2 => v.2 < (n : Int)
  | _ => True
def am_oks (n : Nat) (l : List am_V) : Prop := ∀ v ∈ l, am_ok n v
def am_G (n : Nat) (μ : am_M) : Prop := ∀ i : Nat, i < n → ∀ j : Int, am_ok n (am_tag (am_kind (i : Int)) j.toNat, μ (i : Int) j)
def am_sl : Nat → Nat
  | 0 => 0
  | n + 1 => am_sl n + am_len (am_kind (n : Int))
theorem am_sl_mono {a b : Nat} (h : a ≤ b) : am_sl a ≤ am_sl b := by
  induction h with
  | refl => exact Nat.le_refl _
  | step _ ih => exact Nat.le_trans ih (Nat.le_add_right _ _)
theorem am_ok_mono {n n' : Nat} (h : n ≤ n') {v : am_V} (hv : am_ok n v) : am_ok n' v := by
  unfold am_ok at *
  split <;> simp_all
  omega
theorem am_oks_mono {n n' : Nat} (h : n ≤ n') {l : List am_V} (hv : am_oks n l) : am_oks n' l := fun v hm => am_ok_mono h (hv v hm)
theorem am_rf_congr {n : Nat} {ad ad' : Nat → Nat} (ha : ∀ i, i < n → ad' i = ad i) {x : Int} (hx : x < (n : Int)) : am_rf ad' x = am_rf ad x := by
  unfold am_rf
  split
  · rfl
  · rw [ha _ (by omega)]
theorem am_cv_congr {b n : Nat} {ad ad' : Nat → Nat} (ha : ∀ i, i < n → ad' i = ad i) {v : am_V} (hv : am_ok n v) : am_cv b ad' v = am_cv b ad v := by
  obtain ⟨t, x⟩ := v
  unfold am_cv
  match t, hv with
  | 0, _ => rfl
  | 1, _ => rfl
  | 2, hv => exact congrArg va_rf (am_rf_congr ha hv)
  | 3, _ => rfl
  | _ + 4, _ => rfl
theorem am_cvs_congr {b n : Nat} {ad ad' : Nat → Nat} (ha : ∀ i, i < n → ad' i = ad i) {l : List am_V} (hv : am_oks n l) : l.map (am_cv b ad') = l.map (am_cv b ad) := List.map_congr_left (fun v hm => am_cv_congr ha (hv v hm))
theorem am_cell_congr {dA : Nat → ClassId} {b n : Nat} {ad ad' : Nat → Nat} (ha : ∀ i, i < n → ad' i = ad i) {k : Nat × Nat} {f : Int → Int} (hf : ∀ j : Int, am_ok n (am_tag k j.toNat, f j)) : am_cell dA b ad' k f = am_cell dA b ad k f := by
  obtain ⟨k1, k2⟩ := k
  unfold am_cell
  match k1, hf with
  | 0, hf =>
    show Sum.inr _ = Sum.inr _
    congr 2
    exact List.map_congr_left (fun j _ => am_cv_congr ha (hf (j : Int)))
  | 1, _ => rfl
  | 2, _ => rfl
  | 3, hf =>
    show Sum.inl _ = Sum.inl _
    have h : (fun j : Nat => am_rf ad' (f (j : Int))) = fun j : Nat => am_rf ad (f (j : Int)) := funext fun j => am_rf_congr ha (hf (j : Int))
    simp only [h]
  | _ + 4, hf =>
    show Sum.inl _ = Sum.inl _
    have h : (fun j : Nat => am_rf ad' (f (j : Int))) = fun j : Nat => am_rf ad (f (j : Int)) := funext fun j => am_rf_congr ha (hf (j : Int))
    simp only [h]
section
variable {dA : Nat → ClassId} {b n : Nat} {ad ad' : Nat → Nat} {μ μ' : am_M}
theorem am_W_len : (am_W dA b ad n μ).length = n := by simp [am_W]
theorem am_W_get {i : Nat} (hi : i < n) : (am_W dA b ad n μ)[i]? = some (ad i, am_cell dA b ad (am_kind (i : Int)) (μ (i : Int))) := by
  simp [am_W, hi]
theorem am_W_none {i : Nat} (hi : n ≤ i) : (am_W dA b ad n μ)[i]? = none := by
  rw [List.getElem?_eq_none_iff, am_W_len]; exact hi
theorem am_W_upd {i : Nat} (hi : i < n) {c : va_E} (h : ∀ a : Int, a ≠ (i : Int) → μ' a = μ a) (hc : am_cell dA b ad (am_kind (i : Int)) (μ' (i : Int)) = c) : (am_W dA b ad n μ).set i (ad i, c) = am_W dA b ad n μ' := by
  apply List.ext_getElem?
  intro k
  by_cases hk : k < n
  · rw [am_W_get hk, List.getElem?_set]
    by_cases e : i = k
    · subst e
      rw [if_pos rfl, if_pos (by rw [am_W_len]; exact hi), hc]
    · rw [if_neg e, am_W_get hk, h (k : Int) (by omega)]
  · rw [am_W_none (by omega), List.getElem?_eq_none_iff, List.length_set, am_W_len]
    omega
theorem am_W_push (hG : am_G n μ) (ha : ∀ i, i < n → ad' i = ad i) (hm : ∀ a : Int, a < (n : Int) → μ' a = μ a) {q : Nat} {c : va_E} (hq : ad' n = q) (hc : am_cell dA b ad' (am_kind (n : Int)) (μ' (n : Int)) = c) : am_W dA b ad n μ ++ [(q, c)] = am_W dA b ad' (n + 1) μ' := by
  unfold am_W
  rw [List.range_succ, List.map_append]
  congr 1
  · apply List.map_congr_left
    intro i hi
    have hi := List.mem_range.mp hi
    rw [ha i hi, hm (i : Int) (by omega), am_cell_congr ha (hG i hi)]
  · simp [hq, hc]
end
theorem am_cat_cv {b : Nat} {ad : Nat → Nat} (v : am_V) : (am_cv b ad v).category = am_cat v := by
  obtain ⟨t, x⟩ := v
  unfold am_cv am_cat
  match t with
  | 0 => rfl
  | 1 => rfl
  | 2 =>
    show (va_rf (am_rf ad x)).category = 1
    cases am_rf ad x <;> rfl
  | 3 => rfl
  | _ + 4 => simp; rfl
theorem am_cats_cv {b : Nat} {ad : Nat → Nat} (l : List am_V) : ((l.map (am_cv b ad)).map (fun v => v.category)).sum = am_cats l := by
  unfold am_cats
  rw [List.map_map]
  congr 1
  exact List.map_congr_left (fun v _ => am_cat_cv v)
/-- the locals -/
def am_L (b : Nat) (ad : Nat → Nat) (L : List am_V) (cls : Array Slot) (nL : Nat) : Prop := cls.size = nL ∧ lv_wf cls ∧ L.length = nL ∧ ∀ (i : Nat) (v : am_V), L[i]? = some v → v.1 ≤ 3 → cls[i]? = some (.val (am_cv b ad v))
def am_lv (b : Nat) (ad : Nat → Nat) (L : List am_V) : List (Nat × Value) := (List.range L.length).filterMap (fun i => match L[i]? with
  | some v => if v.1 ≤ 3 then some (i, am_cv b ad v) else none
  | none => none)
theorem am_lv_mem {b : Nat} {ad : Nat → Nat} {L : List am_V} {i : Nat} {v : am_V} (h : L[i]? = some v) (hv : v.1 ≤ 3) : (i, am_cv b ad v) ∈ am_lv b ad L := by
  unfold am_lv
  refine List.mem_filterMap.mpr ⟨i, List.mem_range.mpr (List.getElem?_eq_some_iff.mp h).1, ?_⟩
  rw [h]
  simp [hv]
theorem am_lv_of {b : Nat} {ad : Nat → Nat} {L : List am_V} {q : Nat × Value} (h : q ∈ am_lv b ad L) : ∃ v, L[q.1]? = some v ∧ v.1 ≤ 3 ∧ q.2 = am_cv b ad v := by
  unfold am_lv at h
  obtain ⟨i, -, hi⟩ := List.mem_filterMap.mp h
  split at hi
  · rename_i v hv
    split at hi
    · rename_i hle
      cases hi
      exact ⟨v, hv, hle, rfl⟩
    · cases hi
  · cases hi
theorem am_L_has {b : Nat} {ad : Nat → Nat} {L : List am_V} {cls : Array Slot} {nL : Nat} (h : am_L b ad L cls nL) : lv_has cls nL (am_lv b ad L) := ⟨h.1, h.2.1, fun q hq => by
  obtain ⟨v, h1, h2, h3⟩ := am_lv_of hq
  rw [h3]
  exact h.2.2.2 q.1 v h1 h2⟩
theorem am_L_congr {b n nL : Nat} {ad ad' : Nat → Nat} (ha : ∀ i, i < n → ad' i = ad i) {L : List am_V} {cls : Array Slot} (hv : am_oks n L) (h : am_L b ad L cls nL) : am_L b ad' L cls nL := ⟨h.1, h.2.1, h.2.2.1, fun i v h1 h2 => by
  rw [am_cv_congr ha (hv v (List.mem_of_getElem? h1))]
  exact h.2.2.2 i v h1 h2⟩
theorem am_kill_len (L : List am_V) (i : Nat) : (am_kill L i).length = L.length := by
  unfold am_kill
  split
  · rfl
  · split <;> simp
theorem am_kill_get {L : List am_V} {i j : Nat} {v : am_V} (h : (am_kill L i)[j]? = some v) : v = (9, 0) ∨ (L[j]? = some v ∧ ¬ (j + 1 = i ∧ v.1 = 1)) := by
  unfold am_kill at h
  split at h
  · exact Or.inr ⟨h, by omega⟩
  · rename_i i
    split at h
    · rename_i x hx
      rw [List.getElem?_set] at h
      split at h
      · split at h
        · cases h; exact Or.inl rfl
        · cases h
      · exact Or.inr ⟨h, by omega⟩
    · rename_i hx
      refine Or.inr ⟨h, fun hh => ?_⟩
      obtain ⟨e1, e2⟩ := hh
      have : j = i := by omega
      subst this
      obtain ⟨t, x⟩ := v
      cases e2
      exact hx x h
theorem am_sto_L {b nL : Nat} {ad : Nat → Nat} {L : List am_V} {cls' : Array Slot} {i : Nat} {v : am_V} (hi : i < nL) (hl : L.length = nL) (hv : v.1 ≠ 1) (h : lv_has cls' nL ((i, am_cv b ad v) :: (am_lv b ad L).filter (fun q => !(q.1 == i) && !(q.1 + 1 == i && q.2.category == 2)))) : am_L b ad (am_sto L i v) cls' nL := by
  refine ⟨h.1, h.2.1, by simp [am_sto, am_kill_len, hl], fun j w h1 h2 => ?_⟩
  unfold am_sto at h1
  rw [List.getElem?_set] at h1
  split at h1
  · rename_i e
    subst e
    rw [if_pos (by rw [am_kill_len, hl]; exact hi)] at h1
    cases h1
    exact h.2.2 _ List.mem_cons_self
  · rename_i e
    rcases am_kill_get h1 with h3 | ⟨h3, h4⟩
    · rw [h3] at h2; exact absurd h2 (by decide)
    · refine h.2.2 (j, am_cv b ad w) (List.mem_cons_of_mem _ (List.mem_filter.mpr ⟨am_lv_mem h3 h2, ?_⟩))
      simp only [am_cat_cv]
      unfold am_cat
      by_cases e1 : w.1 = 1
      · have : ¬ j + 1 = i := fun q => h4 ⟨q, e1⟩
        simp [e1, this, Ne.symm e]
      · simp [e1, Ne.symm e]
theorem am_sto2_L {b nL : Nat} {ad : Nat → Nat} {L : List am_V} {cls' : Array Slot} {i : Nat} {v : am_V} (hi : i + 1 < nL) (hl : L.length = nL) (h : lv_has cls' nL ((i, am_cv b ad v) :: (am_lv b ad L).filter (fun q => !(q.1 == i) && (!(q.1 == i + 1) && !(q.1 + 1 == i && q.2.category == 2))))) : am_L b ad (am_sto2 L i v) cls' nL := by
  refine ⟨h.1, h.2.1, by simp [am_sto2, am_kill_len, hl], fun j w h1 h2 => ?_⟩
  unfold am_sto2 at h1
  rw [List.getElem?_set] at h1
  split at h1
  · split at h1
    · cases h1
      exact absurd h2 (by decide)
    · cases h1
  · rename_i e9
    rw [List.getElem?_set] at h1
    split at h1
    · rename_i e
      subst e
      rw [if_pos (by rw [am_kill_len, hl]; omega)] at h1
      cases h1
      exact h.2.2 _ List.mem_cons_self
    · rename_i e
      rcases am_kill_get h1 with h3 | ⟨h3, h4⟩
      · rw [h3] at h2; exact absurd h2 (by decide)
      · refine h.2.2 (j, am_cv b ad w) (List.mem_cons_of_mem _ (List.mem_filter.mpr ⟨am_lv_mem h3 h2, ?_⟩))
        simp only [am_cat_cv]
        unfold am_cat
        by_cases e1 : w.1 = 1
        · have : ¬ j + 1 = i := fun q => h4 ⟨q, e1⟩
          simp [e1, this, Ne.symm e, Ne.symm e9]
        · simp [e1, Ne.symm e, Ne.symm e9]
theorem am_oks_kill {n : Nat} {L : List am_V} (h : am_oks n L) (i : Nat) : am_oks n (am_kill L i) := by
  intro v hv
  obtain ⟨j, hj⟩ := List.getElem?_of_mem hv
  rcases am_kill_get hj with h1 | ⟨h1, -⟩
  · rw [h1]; trivial
  · exact h v (List.mem_of_getElem? h1)
theorem am_oks_set {n : Nat} {L : List am_V} (h : am_oks n L) (i : Nat) {v : am_V} (hv : am_ok n v) : am_oks n (L.set i v) := by
  intro w hw
  rcases List.mem_or_eq_of_mem_set hw with h1 | h1
  · exact h w h1
  · rw [h1]; exact hv
theorem am_oks_sto {n : Nat} {L : List am_V} (h : am_oks n L) (i : Nat) {v : am_V} (hv : am_ok n v) : am_oks n (am_sto L i v) := am_oks_set (am_oks_kill h i) i hv
theorem am_oks_sto2 {n : Nat} {L : List am_V} (h : am_oks n L) (i : Nat) {v : am_V} (hv : am_ok n v) : am_oks n (am_sto2 L i v) := am_oks_set (am_oks_set (am_oks_kill h i) i hv) (i + 1) trivial
theorem am_oks_cons {n : Nat} {l : List am_V} {v : am_V} (hv : am_ok n v) (h : am_oks n l) : am_oks n (v :: l) := fun w hw => (List.mem_cons.mp hw).elim (fun e => e ▸ hv) (h w)
theorem am_oks_tail {n : Nat} {l : List am_V} {v : am_V} (h : am_oks n (v :: l)) : am_oks n l := fun w hw => h w (List.mem_cons_of_mem _ hw)
theorem am_oks_head {n : Nat} {l : List am_V} {v : am_V} (h : am_oks n (v :: l)) : am_ok n v := h v List.mem_cons_self
theorem am_G_set {n : Nat} {μ : am_M} (hG : am_G n μ) {a : Nat} {j x : Int} (hx : am_ok n (am_tag (am_kind (a : Int)) j.toNat, x)) : am_G n (am_set μ (a : Int) j x) := by
  intro i hi j'
  unfold am_set
  split
  · rename_i e
    obtain ⟨e1, e2⟩ := e
    rw [e1, e2]
    exact hx
  · exact hG i hi j'
theorem am_G_new {n : Nat} {μ : am_M} (hG : am_G n μ) {f : Int → Int} (hf : ∀ j : Int, am_ok (n + 1) (am_tag (am_kind (n : Int)) j.toNat, f j)) : am_G (n + 1) (am_new μ (n : Int) f) := by
  intro i hi j
  unfold am_new
  split
  · rename_i e
    rw [e]
    exact hf j
  · exact am_ok_mono (Nat.le_succ n) (hG i (by omega) j)
/-! numbers -/
theorem am_w32_ok (n : Nat) (x : Int) : am_ok n (0, am_w32 x) := by
  show _ ∧ _
  have h1 := Int.le_bmod (x := x) (m := 4294967296) (by decide)
  have h2 := Int.bmod_lt (x := x) (m := 4294967296) (by decide)
  unfold am_w32
  dsimp only
  omega
theorem am_w64_ok (n : Nat) (x : Int) : am_ok n (1, am_w64 x) := by
  show _ ∧ _
  have h1 := Int.le_bmod (x := x) (m := 18446744073709551616) (by decide)
  have h2 := Int.bmod_lt (x := x) (m := 18446744073709551616) (by decide)
  unfold am_w64
  dsimp only
  omega
theorem am_i32_ok (n : Nat) (x : Int32) : am_ok n (0, x.toInt) := ⟨x.minValue_le_toInt, by have := x.toInt_lt; exact this⟩
theorem am_32 {x : Int} (h : -2147483648 ≤ x ∧ x < 2147483648) : (Int32.ofInt x).toInt = x := Int32.toInt_ofInt_of_le h.1 h.2
theorem am_64 {x : Int} (h : -9223372036854775808 ≤ x ∧ x < 9223372036854775808) : (Int64.ofInt x).toInt = x := Int64.toInt_ofInt_of_le h.1 h.2
theorem am_w32_of (x : Int) : Int32.ofInt (am_w32 x) = Int32.ofInt x := by
  apply Int32.toInt_inj.mp
  rw [Int32.toInt_ofInt, Int32.toInt_ofInt]
  unfold am_w32
  exact Int.bmod_bmod
theorem am_w64_of (x : Int) : Int64.ofInt (am_w64 x) = Int64.ofInt x := by
  apply Int64.toInt_inj.mp
  rw [Int64.toInt_ofInt, Int64.toInt_ofInt]
  unfold am_w64
  exact Int.bmod_bmod
theorem am_w32_id {x : Int} (h : -2147483648 ≤ x ∧ x < 2147483648) : am_w32 x = x := by
  unfold am_w32
  rw [Int.bmod_eq_of_le] <;> omega
theorem am_w64_id {x : Int} (h : -9223372036854775808 ≤ x ∧ x < 9223372036854775808) : am_w64 x = x := by
  unfold am_w64
  rw [Int.bmod_eq_of_le] <;> omega
theorem am_lt32 {x y : Int} (hx : -2147483648 ≤ x ∧ x < 2147483648) (hy : -2147483648 ≤ y ∧ y < 2147483648) : Int32.ofInt x < Int32.ofInt y ↔ x < y := by
  rw [Int32.lt_iff_toInt_lt, am_32 hx, am_32 hy]
theorem am_le32 {x y : Int} (hx : -2147483648 ≤ x ∧ x < 2147483648) (hy : -2147483648 ≤ y ∧ y < 2147483648) : Int32.ofInt x ≤ Int32.ofInt y ↔ x ≤ y := by
  rw [Int32.le_iff_toInt_le, am_32 hx, am_32 hy]
theorem am_eq32 {x y : Int} (hx : -2147483648 ≤ x ∧ x < 2147483648) (hy : -2147483648 ≤ y ∧ y < 2147483648) : Int32.ofInt x = Int32.ofInt y ↔ x = y := by
  rw [← Int32.toInt_inj, am_32 hx, am_32 hy]
theorem am_lt64 {x y : Int} (hx : -9223372036854775808 ≤ x ∧ x < 9223372036854775808) (hy : -9223372036854775808 ≤ y ∧ y < 9223372036854775808) : Int64.ofInt x < Int64.ofInt y ↔ x < y := by
  rw [Int64.lt_iff_toInt_lt, am_64 hx, am_64 hy]
theorem am_eq64 {x y : Int} (hx : -9223372036854775808 ≤ x ∧ x < 9223372036854775808) (hy : -9223372036854775808 ≤ y ∧ y < 9223372036854775808) : Int64.ofInt x = Int64.ofInt y ↔ x = y := by
  rw [← Int64.toInt_inj, am_64 hx, am_64 hy]
theorem am_clamp {x : Int} (h0 : 0 ≤ x) (h1 : x < 2147483648) : (Int32.ofInt x).toNatClampNeg = x.toNat := by
  unfold Int32.toNatClampNeg
  rw [am_32 ⟨by omega, h1⟩]
theorem am_in {x : Int} {n : Nat} (h0 : 0 ≤ x) (h1 : x < 2147483648) (h : x < (n : Int)) : vp_in (Int32.ofInt x) n := by
  rw [vp_in_iff, am_32 ⟨by omega, h1⟩]
  exact ⟨h0, h⟩
theorem am_b8 {x : Int} (h : -128 ≤ x ∧ x ≤ 127) : (Int8.ofInt x).toInt32 = Int32.ofInt x := by
  apply Int32.toInt_inj.mp
  rw [Int8.toInt_toInt32, Int8.toInt_ofInt_of_le (by omega) (by omega), am_32 (by omega)]
theorem am_b16 {x : Int} (h : -32768 ≤ x ∧ x ≤ 32767) : (Int16.ofInt x).toInt32 = Int32.ofInt x := by
  apply Int32.toInt_inj.mp
  rw [Int16.toInt_toInt32, Int16.toInt_ofInt_of_le (by omega) (by omega), am_32 (by omega)]
theorem am_i2l {x : Int} (h : -2147483648 ≤ x ∧ x < 2147483648) : (Int32.ofInt x).toInt64 = Int64.ofInt x := by
  apply Int64.toInt_inj.mp
  rw [Int32.toInt_toInt64, am_32 h, am_64 (by omega)]
theorem am_l2i {x : Int} (h : -9223372036854775808 ≤ x ∧ x < 9223372036854775808) : (Int64.ofInt x).toInt32 = Int32.ofInt (am_w32 x) := by
  apply Int32.toInt_inj.mp
  rw [Int64.toInt_toInt32, am_64 h, am_w32_of, Int32.toInt_ofInt]
end
section
/-! what a frame of the machine knows; what moves along -/
theorem va_AOA.spec {ty : FieldType} {U : State} (h : va_AOA ty U) : ∃ comp c k, U.vm.findClass (FieldType.array ty).toString = some comp ∧ (U.vm.classes.findIdx? fun (x : Class) => match x.kind with | .array component _ => component == comp | _ => false) = some c ∧ U.vm.classes[c]? = some k ∧ (match k.kind with | .array _ t => decide (t = FieldType.array ty) && decide (U.vm.findClass ("[" ++ (FieldType.array ty).toString) = some c) | _ => false) = true := by
  unfold va_AOA Cond.before Cond.holds at h
  simp only [Cond.value, beq_iff_eq] at h
  cases hc : U.vm.findClass (FieldType.array ty).toString with
  | none => simp [hc] at h
  | some comp =>
    simp only [hc, Option.bind_some, Option.bind_eq_some_iff, Option.map_eq_some_iff] at h
    obtain ⟨c, hi, k, hk, hb⟩ := h
    exact ⟨comp, c, k, rfl, hi, hk, hb⟩
theorem va_AOA.moved {ty : FieldType} {u U : State} (hvm : u.vm.Alike U.vm) (h : va_AOA ty u) : va_AOA ty U := by
  obtain ⟨comp, c, k, h1, h2, h3, h4⟩ := va_AOA.spec h
  obtain ⟨k', hk', he⟩ := hvm.2.2 _ _ h3
  have hi : (U.vm.classes.findIdx? fun (x : Class) => match x.kind with | .array component _ => component == comp | _ => false) = some c := by
    have e1 := va_idx_bare U.vm comp
    have e2 := va_idx_bare u.vm comp
    have e3 : U.vm.bare = u.vm.bare := by first | exact hvm.bare_eq | exact hvm.bare_eq.symm
    rw [e3] at e1
    exact e1.symm.trans (e2.trans h2)
  have f1 : U.vm.findClass (FieldType.array ty).toString = some comp := by rw [hvm.findClass]; exact h1
  have f2 : U.vm.findClass ("[" ++ (FieldType.array ty).toString) = u.vm.findClass ("[" ++ (FieldType.array ty).toString) := by rw [hvm.findClass]
  have hkind : k'.kind = k.kind := by rw [he]
  unfold va_AOA Cond.before Cond.holds
  simp only [Cond.value]
  rw [f1, Option.bind_some]
  refine (congrArg (fun o : Option Nat => (o.bind (fun c => (U.vm.classes[c]?).map fun (k : Class) => match k.kind with | .array _ t => decide (t = FieldType.array ty) && decide (U.vm.findClass ("[" ++ (FieldType.array ty).toString) = some c) | _ => false) == some true)) hi).trans ?_
  simp only [Option.bind_some, hk', Option.map_some, hkind, f2]
  rw [h4]
  rfl
def am_X (s : State) : Prop := va_AO RX3 s ∧ va_AOA .int s ∧ ∀ q ∈ am_mls, q.2.2.1 ≠ 0 → va_Nw (Cond.methodLinkNest (am_cn q.1.1) q.1.2 (am_y q.2.1) RX6) s
theorem am_X.warm {s U : State} (hW : s.WarmedH U.vm) (h : am_X s) : am_X U := ⟨va_AO.moved hW.alike h.1, va_AOA.moved hW.alike h.2.1, fun q hq hn => va_Nw.warmM hW (h.2.2 q hq hn)⟩
theorem am_X.same {s U : State} (hv : s.vm = U.vm) (h : am_X s) : am_X U := ⟨va_AO.moved (by rw [hv]; exact Vm.Alike.refl U.vm) h.1, va_AOA.moved (by rw [hv]; exact Vm.Alike.refl U.vm) h.2.1, fun q hq hn => va_Nw.same rfl hv (h.2.2 q hq hn)⟩
def am_F (p : Program) (R : Room) (s : State) (m : MethodId) (args : Array Value) (meth : Method) (c : Code) (k : Nat) : Prop :=
  p.tables.exec = Jvm.exec ∧ c.code = am_by k ∧ c.maxLocals = am_ml k ∧ s.vm.findClass (am_cn (am_cl k)) = some m.cls ∧ (∀ w ∈ am_tb, w.before args s = true) ∧ am_X s ∧ am_fr k ≤ R.frames ∧ am_lo k ≤ R.locals ∧ (am_kd k = 2 → meth.name = "<init>") ∧ meth.locks = false ∧ meth.sig.returnType = am_rt k ∧ k < 141
def am_H (D : va_G) (dA : Nat → ClassId) (b : Nat) (A : Nat → Prop) (s : State) (ad : Nat → Nat) (n : Nat) (μ : am_M) (H : Heap) (locs : List Loc) : Prop :=
  va_K D vwCl (am_tys dA) s ∧ va_P D vwCl (am_W dA b ad n μ) H ∧ va_D A (am_W dA b ad n μ) ∧ va_S A s.heap H locs ∧ am_G n μ ∧ ∀ q, s.heap.size ≤ q → A q
/-- the script, where the frame has it -/
def am_Scr (sc : am_Sc) (b : Nat) (A : Nat → Prop) (s : State) : Prop := ∀ (l : Int) (xs : Int → Int), sc = some (l, xs) → ∃ N : Nat, l = (N : Int) ∧ N < 2147483648 ∧ va_X b N (fun j => Int32.ofInt (xs (j : Int))) s s.heap ∧ b < s.heap.size ∧ ¬ A b ∧ ∀ j : Int, am_ok 0 (0, xs j)
def am_Kk (p : Program) (l : Launch) (e : Env) (R : Room) (s : State) (m : MethodId) (args : Array Value) (below : List Frame) (meth : Method) (c : Code) (Q : State → Prop) (D : va_G) (dA : Nat → ClassId) (b : Nat) (A : Nat → Prop) (k n0 : Nat) (ad : Nat → Nat) (n : Nat) (pc' : Nat) (L' st' : List am_V) (n' : Nat) (μ' : am_M) : Prop :=
  ∀ (ad' : Nat → Nat) (cls' : Array Slot) (H' : Heap) (locs' : List Loc), (∀ i, i < n → ad' i = ad i) → am_H D dA b A s ad' n' μ' H' locs' → am_L b ad' L' cls' (am_ml k) → am_oks n' L' → am_oks n' st' → W p l e R s m args below meth c H' locs' (n' - n0) (am_sl n' - am_sl n0) Q (F0 m pc' cls' (st'.map (am_cv b ad')))
theorem am_kind_pos {i : Int} {q : Nat × Nat} (h : am_kind i = q) (hq : q.1 ≠ 9) : 0 ≤ i := by
  unfold am_kind at h
  split at h
  · rw [← h] at hq; exact absurd rfl hq
  · omega
theorem am_go_inv {pc : Nat} {off : Int} {L st : List am_V} {n : Nat} {μ : am_M} {q : am_R} (h : am_go pc off L st n μ = some q) : ∃ tgt : Nat, (pc : Int) + off = (tgt : Int) ∧ q = .inl (tgt, L, st, n, μ) := by
  unfold am_go at h
  split at h
  · cases h
    exact ⟨_, by omega, rfl⟩
  · cases h
theorem am_bin_inv {t r : Nat} {f : Int → Int → Int} {pc : Nat} {L st : List am_V} {n : Nat} {μ : am_M} {q : am_R} (h : am_bin t r f pc L st n μ = some q) : ∃ (x y : Int) (rest : List am_V), st = (t, y) :: (t, x) :: rest ∧ q = .inl (pc + 1, L, (r, f x y) :: rest, n, μ) := by
  unfold am_bin at h
  split at h
  · rename_i y x rest
    split at h
    · rename_i hh
      obtain ⟨h1, h2⟩ := hh
      cases h
      obtain ⟨y1, y2⟩ := y
      obtain ⟨x1, x2⟩ := x
      cases h1; cases h2
      exact ⟨x2, y2, rest, rfl, rfl⟩
    · cases h
  · cases h
theorem am_un_inv {t r : Nat} {f : Int → Int} {pc : Nat} {L st : List am_V} {n : Nat} {μ : am_M} {q : am_R} (h : am_un t r f pc L st n μ = some q) : ∃ (x : Int) (rest : List am_V), st = (t, x) :: rest ∧ q = .inl (pc + 1, L, (r, f x) :: rest, n, μ) := by
  unfold am_un at h
  split at h
  · rename_i x rest
    split at h
    · rename_i h1
      cases h
      obtain ⟨x1, x2⟩ := x
      cases h1
      exact ⟨x2, rest, rfl, rfl⟩
    · cases h
  · cases h
theorem am_ld_inv {t pc' i : Nat} {L st : List am_V} {n : Nat} {μ : am_M} {q : am_R} (h : am_ld t pc' i L st n μ = some q) : ∃ x : Int, L[i]? = some (t, x) ∧ q = .inl (pc', L, (t, x) :: st, n, μ) := by
  unfold am_ld at h
  split at h
  · rename_i v hv
    split at h
    · rename_i h1
      cases h
      obtain ⟨v1, v2⟩ := v
      cases h1
      exact ⟨v2, hv, rfl⟩
    · cases h
  · cases h
theorem am_lda_inv {pc' i : Nat} {L st : List am_V} {n : Nat} {μ : am_M} {q : am_R} (h : am_lda pc' i L st n μ = some q) : ∃ v : am_V, L[i]? = some v ∧ (v.1 = 2 ∨ v.1 = 3) ∧ q = .inl (pc', L, v :: st, n, μ) := by
  unfold am_lda at h
  split at h
  · rename_i v hv
    split at h
    · rename_i h1
      cases h
      exact ⟨v, hv, h1, rfl⟩
    · cases h
  · cases h
theorem am_st1_inv {k t pc' i : Nat} {L st : List am_V} {n : Nat} {μ : am_M} {q : am_R} (h : am_st1 k t pc' i L st n μ = some q) : ∃ (x : Int) (rest : List am_V), st = (t, x) :: rest ∧ i < am_ml k ∧ q = .inl (pc', am_sto L i (t, x), rest, n, μ) := by
  unfold am_st1 at h
  split at h
  · rename_i v rest
    split at h
    · rename_i h1
      obtain ⟨h1, h2⟩ := h1
      cases h
      obtain ⟨v1, v2⟩ := v
      cases h1
      exact ⟨v2, rest, rfl, h2, rfl⟩
    · cases h
  · cases h
theorem am_st2_inv {k pc' i : Nat} {L st : List am_V} {n : Nat} {μ : am_M} {q : am_R} (h : am_st2 k pc' i L st n μ = some q) : ∃ (x : Int) (rest : List am_V), st = (1, x) :: rest ∧ i + 1 < am_ml k ∧ q = .inl (pc', am_sto2 L i (1, x), rest, n, μ) := by
  unfold am_st2 at h
  split at h
  · rename_i v rest
    split at h
    · rename_i h1
      obtain ⟨h1, h2⟩ := h1
      cases h
      obtain ⟨v1, v2⟩ := v
      cases h1
      exact ⟨v2, rest, rfl, h2, rfl⟩
    · cases h
  · cases h
theorem am_cv0 (b : Nat) (ad : Nat → Nat) (x : Int) : am_cv b ad (0, x) = .int (Int32.ofInt x) := rfl
theorem am_cv1 (b : Nat) (ad : Nat → Nat) (x : Int) : am_cv b ad (1, x) = .long (Int64.ofInt x) := rfl
theorem am_cv2 (b : Nat) (ad : Nat → Nat) (x : Int) : am_cv b ad (2, x) = va_rf (am_rf ad x) := rfl
theorem am_cv2p (b : Nat) (ad : Nat → Nat) {x : Int} (h : 0 ≤ x) : am_cv b ad (2, x) = .ref (ad x.toNat) := by
  rw [am_cv2]
  unfold am_rf
  rw [if_neg (by omega)]
  rfl
theorem am_cv2n (b : Nat) (ad : Nat → Nat) {x : Int} (h : x < 0) : am_cv b ad (2, x) = .null := by
  rw [am_cv2]
  unfold am_rf
  rw [if_pos h]
  rfl
theorem am_cvr {b : Nat} {ad : Nat → Nat} {v : am_V} (h : v.1 = 2 ∨ v.1 = 3) : am_cv b ad v = .null ∨ ∃ a, am_cv b ad v = .ref a := by
  obtain ⟨t, x⟩ := v
  rcases h with h | h
  · cases h
    by_cases hx : x < 0
    · exact Or.inl (am_cv2n b ad hx)
    · exact Or.inr ⟨_, am_cv2p b ad (by omega)⟩
  · cases h
    exact Or.inr ⟨b, rfl⟩
end
section
/-! one instruction of the abstract machine is one of the machine -/
section
variable {p : Program} {l : Launch} {e : Env} {R : Room} {s : State} {m : MethodId} {args : Array Value} {below : List Frame} {meth : Method} {c : Code} {Q : State → Prop} {D : va_G} {dA : Nat → ClassId} {b : Nat} {A : Nat → Prop} {k n0 : Nat} {ad : Nat → Nat} {n pc : Nat} {L st : List am_V} {μ : am_M} {cls : Array Slot} {H : Heap} {locs : List Loc} {sc : am_Sc} {pc' : Nat} {L' st' : List am_V} {n' : Nat} {μ' : am_M}
theorem am_kk0 (kk : am_Kk p l e R s m args below meth c Q D dA b A k n0 ad n pc' L' st' n μ) (hH : am_H D dA b A s ad n μ H locs) (hL : am_L b ad L' cls (am_ml k)) (hLo : am_oks n L') (hso : am_oks n st') : W p l e R s m args below meth c H locs (n - n0) (am_sl n - am_sl n0) Q (F0 m pc' cls (st'.map (am_cv b ad))) := kk ad cls H locs (fun _ _ => rfl) hH hL hLo hso
/-- constants and loads: a value more on the stack -/
theorem am_o_iconst {i : Int} (hF : am_F p R s m args meth c k) (hH : am_H D dA b A s ad n μ H locs) (hL : am_L b ad L cls (am_ml k)) (hLo : am_oks n L) (hso : am_oks n st) (hd : decode (am_by k) pc = .ok (.iconst i, 1)) (hi : -32768 ≤ i ∧ i ≤ 32767) (kk : am_Kk p l e R s m args below meth c Q D dA b A k n0 ad n (pc + 1) L ((0, i) :: st) n μ) : W p l e R s m args below meth c H locs (n - n0) (am_sl n - am_sl n0) Q (F0 m pc cls (st.map (am_cv b ad))) :=
  lv_iconst hF.1 hF.2.1 hd rfl (am_kk0 kk hH hL hLo (am_oks_cons ⟨by show _ ≤ i; omega, by show i < _; omega⟩ hso))
theorem am_o_bipush {i : Int} (hF : am_F p R s m args meth c k) (hH : am_H D dA b A s ad n μ H locs) (hL : am_L b ad L cls (am_ml k)) (hLo : am_oks n L) (hso : am_oks n st) (hd : decode (am_by k) pc = .ok (.bipush i, 2)) (hi : -128 ≤ i ∧ i ≤ 127) (kk : am_Kk p l e R s m args below meth c Q D dA b A k n0 ad n (pc + 2) L ((0, i) :: st) n μ) : W p l e R s m args below meth c H locs (n - n0) (am_sl n - am_sl n0) Q (F0 m pc cls (st.map (am_cv b ad))) :=
  lv_bipush hF.1 hF.2.1 hd (am_b8 hi) (am_kk0 kk hH hL hLo (am_oks_cons ⟨by show _ ≤ i; omega, by show i < _; omega⟩ hso))
theorem am_o_sipush {i : Int} (hF : am_F p R s m args meth c k) (hH : am_H D dA b A s ad n μ H locs) (hL : am_L b ad L cls (am_ml k)) (hLo : am_oks n L) (hso : am_oks n st) (hd : decode (am_by k) pc = .ok (.sipush i, 3)) (hi : -32768 ≤ i ∧ i ≤ 32767) (kk : am_Kk p l e R s m args below meth c Q D dA b A k n0 ad n (pc + 3) L ((0, i) :: st) n μ) : W p l e R s m args below meth c H locs (n - n0) (am_sl n - am_sl n0) Q (F0 m pc cls (st.map (am_cv b ad))) :=
  lv_sipush hF.1 hF.2.1 hd (am_b16 hi) (am_kk0 kk hH hL hLo (am_oks_cons ⟨by show _ ≤ i; omega, by show i < _; omega⟩ hso))
theorem am_o_lconst {i : Fin 2} (hF : am_F p R s m args meth c k) (hH : am_H D dA b A s ad n μ H locs) (hL : am_L b ad L cls (am_ml k)) (hLo : am_oks n L) (hso : am_oks n st) (hd : decode (am_by k) pc = .ok (.lconst i, 1)) (kk : am_Kk p l e R s m args below meth c Q D dA b A k n0 ad n (pc + 1) L ((1, ((i : Nat) : Int)) :: st) n μ) : W p l e R s m args below meth c H locs (n - n0) (am_sl n - am_sl n0) Q (F0 m pc cls (st.map (am_cv b ad))) := by
  refine lv_lconst hF.1 hF.2.1 hd (v := Int64.ofInt ((i : Nat) : Int)) ?_ (am_kk0 kk hH hL hLo (am_oks_cons ⟨by show _ ≤ ((i : Nat) : Int); omega, by show ((i : Nat) : Int) < _; omega⟩ hso))
  match i with
  | 0 => rfl
  | 1 => rfl
theorem am_o_ldc {idx : Nat} {x : Int} {q : Nat} (hF : am_F p R s m args meth c k) (hH : am_H D dA b A s ad n μ H locs) (hL : am_L b ad L cls (am_ml k)) (hLo : am_oks n L) (hso : am_oks n st) (hd : decode (am_by k) pc = .ok (.ldc idx, 2)) (ht : am_ldcs.lookup (am_cl k, idx) = some (x, q)) (kk : am_Kk p l e R s m args below meth c Q D dA b A k n0 ad n (pc + 2) L ((0, x) :: st) n μ) : W p l e R s m args below meth c H locs (n - n0) (am_sl n - am_sl n0) Q (F0 m pc cls (st.map (am_cv b ad))) := by
  have h1 := List.all_eq_true.mp am_v_ldc0 _ (am_lookup ht)
  simp only [Bool.and_eq_true, decide_eq_true_eq] at h1
  obtain ⟨⟨h1, h2⟩, h3⟩ := h1
  exact lv_ldc hF.1 hF.2.1 hF.2.2.2.1 (hF.2.2.2.2.1 _ (am_mem h1 rfl)) hd (am_kk0 kk hH hL hLo (am_oks_cons ⟨h2, h3⟩ hso))
theorem am_o_ldc2 {idx : Nat} {x : Int} {q : Nat} (hF : am_F p R s m args meth c k) (hH : am_H D dA b A s ad n μ H locs) (hL : am_L b ad L cls (am_ml k)) (hLo : am_oks n L) (hso : am_oks n st) (hd : decode (am_by k) pc = .ok (.ldc2_w idx, 3)) (ht : am_ldc2s.lookup (am_cl k, idx) = some (x, q)) (kk : am_Kk p l e R s m args below meth c Q D dA b A k n0 ad n (pc + 3) L ((1, x) :: st) n μ) : W p l e R s m args below meth c H locs (n - n0) (am_sl n - am_sl n0) Q (F0 m pc cls (st.map (am_cv b ad))) := by
  have h1 := List.all_eq_true.mp am_v_ldc20 _ (am_lookup ht)
  simp only [Bool.and_eq_true, decide_eq_true_eq] at h1
  obtain ⟨⟨h1, h2⟩, h3⟩ := h1
  exact lv_ldc2 hF.1 hF.2.1 hF.2.2.2.1 (hF.2.2.2.2.1 _ (am_mem h1 rfl)) hd (am_kk0 kk hH hL hLo (am_oks_cons ⟨h2, h3⟩ hso))
theorem am_o_null (hF : am_F p R s m args meth c k) (hH : am_H D dA b A s ad n μ H locs) (hL : am_L b ad L cls (am_ml k)) (hLo : am_oks n L) (hso : am_oks n st) (hd : decode (am_by k) pc = .ok (.aconst_null, 1)) (kk : am_Kk p l e R s m args below meth c Q D dA b A k n0 ad n (pc + 1) L ((2, -1) :: st) n μ) : W p l e R s m args below meth c H locs (n - n0) (am_sl n - am_sl n0) Q (F0 m pc cls (st.map (am_cv b ad))) :=
  lv_null hF.1 hF.2.1 hd (am_kk0 kk hH hL hLo (am_oks_cons (show (-1 : Int) < (n : Int) by omega) hso))
theorem am_Lat (hL : am_L b ad L cls (am_ml k)) {i : Nat} {v : am_V} (h : L[i]? = some v) (hv : v.1 ≤ 3) : cls[i]? = some (.val (am_cv b ad v)) := hL.2.2.2 i v h hv
theorem am_o_iload {i : Nat} {x : Int} (hF : am_F p R s m args meth c k) (hH : am_H D dA b A s ad n μ H locs) (hL : am_L b ad L cls (am_ml k)) (hLo : am_oks n L) (hso : am_oks n st) (hi : L[i]? = some (0, x)) (hd : decode (am_by k) pc = .ok (.iload i, 2)) (kk : am_Kk p l e R s m args below meth c Q D dA b A k n0 ad n (pc + 2) L ((0, x) :: st) n μ) : W p l e R s m args below meth c H locs (n - n0) (am_sl n - am_sl n0) Q (F0 m pc cls (st.map (am_cv b ad))) :=
  lv_iload hF.1 hF.2.1 hd (am_Lat hL hi (by dsimp only; omega)) (am_kk0 kk hH hL hLo (am_oks_cons (hLo _ (List.mem_of_getElem? hi)) hso))
theorem am_o_iload_n {i : Fin 4} {x : Int} (hF : am_F p R s m args meth c k) (hH : am_H D dA b A s ad n μ H locs) (hL : am_L b ad L cls (am_ml k)) (hLo : am_oks n L) (hso : am_oks n st) (hi : L[(i : Nat)]? = some (0, x)) (hd : decode (am_by k) pc = .ok (.iload_n i, 1)) (kk : am_Kk p l e R s m args below meth c Q D dA b A k n0 ad n (pc + 1) L ((0, x) :: st) n μ) : W p l e R s m args below meth c H locs (n - n0) (am_sl n - am_sl n0) Q (F0 m pc cls (st.map (am_cv b ad))) :=
  lv_iload_n hF.1 hF.2.1 hd rfl (am_Lat hL hi (by dsimp only; omega)) (am_kk0 kk hH hL hLo (am_oks_cons (hLo _ (List.mem_of_getElem? hi)) hso))
theorem am_o_lload {i : Nat} {x : Int} (hF : am_F p R s m args meth c k) (hH : am_H D dA b A s ad n μ H locs) (hL : am_L b ad L cls (am_ml k)) (hLo : am_oks n L) (hso : am_oks n st) (hi : L[i]? = some (1, x)) (hd : decode (am_by k) pc = .ok (.lload i, 2)) (kk : am_Kk p l e R s m args below meth c Q D dA b A k n0 ad n (pc + 2) L ((1, x) :: st) n μ) : W p l e R s m args below meth c H locs (n - n0) (am_sl n - am_sl n0) Q (F0 m pc cls (st.map (am_cv b ad))) :=
  lv_lload hF.1 hF.2.1 hd (am_Lat hL hi (by dsimp only; omega)) (am_kk0 kk hH hL hLo (am_oks_cons (hLo _ (List.mem_of_getElem? hi)) hso))
theorem am_o_lload_n {i : Fin 4} {x : Int} (hF : am_F p R s m args meth c k) (hH : am_H D dA b A s ad n μ H locs) (hL : am_L b ad L cls (am_ml k)) (hLo : am_oks n L) (hso : am_oks n st) (hi : L[(i : Nat)]? = some (1, x)) (hd : decode (am_by k) pc = .ok (.lload_n i, 1)) (kk : am_Kk p l e R s m args below meth c Q D dA b A k n0 ad n (pc + 1) L ((1, x) :: st) n μ) : W p l e R s m args below meth c H locs (n - n0) (am_sl n - am_sl n0) Q (F0 m pc cls (st.map (am_cv b ad))) :=
  lv_lload_n hF.1 hF.2.1 hd rfl (am_Lat hL hi (by dsimp only; omega)) (am_kk0 kk hH hL hLo (am_oks_cons (hLo _ (List.mem_of_getElem? hi)) hso))
theorem am_o_aload {i : Nat} {v : am_V} (hF : am_F p R s m args meth c k) (hH : am_H D dA b A s ad n μ H locs) (hL : am_L b ad L cls (am_ml k)) (hLo : am_oks n L) (hso : am_oks n st) (hi : L[i]? = some v) (hv : v.1 = 2 ∨ v.1 = 3) (hd : decode (am_by k) pc = .ok (.aload i, 2)) (kk : am_Kk p l e R s m args below meth c Q D dA b A k n0 ad n (pc + 2) L (v :: st) n μ) : W p l e R s m args below meth c H locs (n - n0) (am_sl n - am_sl n0) Q (F0 m pc cls (st.map (am_cv b ad))) := by
  have h1 := am_Lat hL hi (by omega)
  have h2 := am_kk0 kk hH hL hLo (am_oks_cons (hLo _ (List.mem_of_getElem? hi)) hso)
  rw [List.map_cons] at h2
  rcases am_cvr (b := b) (ad := ad) hv with e | ⟨a, e⟩
  · rw [e] at h1 h2; exact lv_aloadN hF.1 hF.2.1 hd h1 h2
  · rw [e] at h1 h2; exact lv_aload hF.1 hF.2.1 hd h1 h2
theorem am_o_aload_n {i : Fin 4} {v : am_V} (hF : am_F p R s m args meth c k) (hH : am_H D dA b A s ad n μ H locs) (hL : am_L b ad L cls (am_ml k)) (hLo : am_oks n L) (hso : am_oks n st) (hi : L[(i : Nat)]? = some v) (hv : v.1 = 2 ∨ v.1 = 3) (hd : decode (am_by k) pc = .ok (.aload_n i, 1)) (kk : am_Kk p l e R s m args below meth c Q D dA b A k n0 ad n (pc + 1) L (v :: st) n μ) : W p l e R s m args below meth c H locs (n - n0) (am_sl n - am_sl n0) Q (F0 m pc cls (st.map (am_cv b ad))) := by
  have h1 := am_Lat hL hi (by omega)
  have h2 := am_kk0 kk hH hL hLo (am_oks_cons (hLo _ (List.mem_of_getElem? hi)) hso)
  rw [List.map_cons] at h2
  rcases am_cvr (b := b) (ad := ad) hv with e | ⟨a, e⟩
  · rw [e] at h1 h2; exact lv_aload_nN hF.1 hF.2.1 hd rfl h1 h2
  · rw [e] at h1 h2; exact lv_aload_n hF.1 hF.2.1 hd rfl h1 h2
/-- stores -/
theorem am_o_istore {i : Nat} {x : Int} (hF : am_F p R s m args meth c k) (hH : am_H D dA b A s ad n μ H locs) (hL : am_L b ad L cls (am_ml k)) (hLo : am_oks n L) (hso : am_oks n ((0, x) :: st)) (hi : i < am_ml k) (hd : decode (am_by k) pc = .ok (.istore i, 2)) (kk : am_Kk p l e R s m args below meth c Q D dA b A k n0 ad n (pc + 2) (am_sto L i (0, x)) st n μ) : W p l e R s m args below meth c H locs (n - n0) (am_sl n - am_sl n0) Q (F0 m pc cls (((0, x) :: st).map (am_cv b ad))) :=
  lv_istore hF.1 hF.2.1 hd (am_L_has hL) hi rfl (fun ls' h => kk ad ls' H locs (fun _ _ => rfl) hH (am_sto_L (v := (0, x)) hi hL.2.2.1 (show (0 : Nat) ≠ 1 by decide) h) (am_oks_sto hLo i (am_oks_head hso)) (am_oks_tail hso))
theorem am_o_istore_n {i : Fin 4} {x : Int} (hF : am_F p R s m args meth c k) (hH : am_H D dA b A s ad n μ H locs) (hL : am_L b ad L cls (am_ml k)) (hLo : am_oks n L) (hso : am_oks n ((0, x) :: st)) (hi : (i : Nat) < am_ml k) (hd : decode (am_by k) pc = .ok (.istore_n i, 1)) (kk : am_Kk p l e R s m args below meth c Q D dA b A k n0 ad n (pc + 1) (am_sto L i (0, x)) st n μ) : W p l e R s m args below meth c H locs (n - n0) (am_sl n - am_sl n0) Q (F0 m pc cls (((0, x) :: st).map (am_cv b ad))) :=
  lv_istore_n hF.1 hF.2.1 hd rfl (am_L_has hL) hi rfl (fun ls' h => kk ad ls' H locs (fun _ _ => rfl) hH (am_sto_L (v := (0, x)) hi hL.2.2.1 (show (0 : Nat) ≠ 1 by decide) h) (am_oks_sto hLo i (am_oks_head hso)) (am_oks_tail hso))
theorem am_o_lstore {i : Nat} {x : Int} (hF : am_F p R s m args meth c k) (hH : am_H D dA b A s ad n μ H locs) (hL : am_L b ad L cls (am_ml k)) (hLo : am_oks n L) (hso : am_oks n ((1, x) :: st)) (hi : i + 1 < am_ml k) (hd : decode (am_by k) pc = .ok (.lstore i, 2)) (kk : am_Kk p l e R s m args below meth c Q D dA b A k n0 ad n (pc + 2) (am_sto2 L i (1, x)) st n μ) : W p l e R s m args below meth c H locs (n - n0) (am_sl n - am_sl n0) Q (F0 m pc cls (((1, x) :: st).map (am_cv b ad))) :=
  lv_lstore hF.1 hF.2.1 hd (am_L_has hL) hi rfl (fun ls' h => kk ad ls' H locs (fun _ _ => rfl) hH (am_sto2_L (v := (1, x)) hi hL.2.2.1 h) (am_oks_sto2 hLo i (am_oks_head hso)) (am_oks_tail hso))
theorem am_o_lstore_n {i : Fin 4} {x : Int} (hF : am_F p R s m args meth c k) (hH : am_H D dA b A s ad n μ H locs) (hL : am_L b ad L cls (am_ml k)) (hLo : am_oks n L) (hso : am_oks n ((1, x) :: st)) (hi : (i : Nat) + 1 < am_ml k) (hd : decode (am_by k) pc = .ok (.lstore_n i, 1)) (kk : am_Kk p l e R s m args below meth c Q D dA b A k n0 ad n (pc + 1) (am_sto2 L i (1, x)) st n μ) : W p l e R s m args below meth c H locs (n - n0) (am_sl n - am_sl n0) Q (F0 m pc cls (((1, x) :: st).map (am_cv b ad))) :=
  lv_lstore_n hF.1 hF.2.1 hd rfl (am_L_has hL) hi rfl (fun ls' h => kk ad ls' H locs (fun _ _ => rfl) hH (am_sto2_L (v := (1, x)) hi hL.2.2.1 h) (am_oks_sto2 hLo i (am_oks_head hso)) (am_oks_tail hso))
theorem am_o_astore {i : Nat} {x : Int} (hF : am_F p R s m args meth c k) (hH : am_H D dA b A s ad n μ H locs) (hL : am_L b ad L cls (am_ml k)) (hLo : am_oks n L) (hso : am_oks n ((2, x) :: st)) (hi : i < am_ml k) (hd : decode (am_by k) pc = .ok (.astore i, 2)) (kk : am_Kk p l e R s m args below meth c Q D dA b A k n0 ad n (pc + 2) (am_sto L i (2, x)) st n μ) : W p l e R s m args below meth c H locs (n - n0) (am_sl n - am_sl n0) Q (F0 m pc cls (((2, x) :: st).map (am_cv b ad))) := by
  have h2 : ∀ ls' : Array Slot, lv_has ls' (am_ml k) ((i, am_cv b ad (2, x)) :: (am_lv b ad L).filter (fun q => !(q.1 == i) && !(q.1 + 1 == i && q.2.category == 2))) → W p l e R s m args below meth c H locs (n - n0) (am_sl n - am_sl n0) Q (F0 m (pc + 2) ls' (st.map (am_cv b ad))) := fun ls' h => kk ad ls' H locs (fun _ _ => rfl) hH (am_sto_L (v := (2, x)) hi hL.2.2.1 (show (2 : Nat) ≠ 1 by decide) h) (am_oks_sto hLo i (am_oks_head hso)) (am_oks_tail hso)
  rw [List.map_cons]
  rcases am_cvr (b := b) (ad := ad) (v := (2, x)) (Or.inl rfl) with e | ⟨a, e⟩
  · rw [e] at h2 ⊢; exact lv_astoreN hF.1 hF.2.1 hd (am_L_has hL) hi rfl h2
  · rw [e] at h2 ⊢; exact lv_astore hF.1 hF.2.1 hd (am_L_has hL) hi rfl h2
theorem am_o_astore_n {i : Fin 4} {x : Int} (hF : am_F p R s m args meth c k) (hH : am_H D dA b A s ad n μ H locs) (hL : am_L b ad L cls (am_ml k)) (hLo : am_oks n L) (hso : am_oks n ((2, x) :: st)) (hi : (i : Nat) < am_ml k) (hd : decode (am_by k) pc = .ok (.astore_n i, 1)) (kk : am_Kk p l e R s m args below meth c Q D dA b A k n0 ad n (pc + 1) (am_sto L i (2, x)) st n μ) : W p l e R s m args below meth c H locs (n - n0) (am_sl n - am_sl n0) Q (F0 m pc cls (((2, x) :: st).map (am_cv b ad))) := by
  have h2 : ∀ ls' : Array Slot, lv_has ls' (am_ml k) (((i : Nat), am_cv b ad (2, x)) :: (am_lv b ad L).filter (fun q => !(q.1 == (i : Nat)) && !(q.1 + 1 == (i : Nat) && q.2.category == 2))) → W p l e R s m args below meth c H locs (n - n0) (am_sl n - am_sl n0) Q (F0 m (pc + 1) ls' (st.map (am_cv b ad))) := fun ls' h => kk ad ls' H locs (fun _ _ => rfl) hH (am_sto_L (v := (2, x)) hi hL.2.2.1 (show (2 : Nat) ≠ 1 by decide) h) (am_oks_sto hLo i (am_oks_head hso)) (am_oks_tail hso)
  rw [List.map_cons]
  rcases am_cvr (b := b) (ad := ad) (v := (2, x)) (Or.inl rfl) with e | ⟨a, e⟩
  · rw [e] at h2 ⊢; exact lv_astore_nN hF.1 hF.2.1 hd rfl (am_L_has hL) hi rfl h2
  · rw [e] at h2 ⊢; exact lv_astore_n hF.1 hF.2.1 hd rfl (am_L_has hL) hi rfl h2
theorem am_o_iinc {i : Nat} {d x : Int} (hF : am_F p R s m args meth c k) (hH : am_H D dA b A s ad n μ H locs) (hL : am_L b ad L cls (am_ml k)) (hLo : am_oks n L) (hso : am_oks n st) (hi : L[i]? = some (0, x)) (hm : i < am_ml k) (hd : decode (am_by k) pc = .ok (.iinc i d, 3)) (kk : am_Kk p l e R s m args below meth c Q D dA b A k n0 ad n (pc + 3) (am_sto L i (0, am_w32 (x + d))) st n μ) : W p l e R s m args below meth c H locs (n - n0) (am_sl n - am_sl n0) Q (F0 m pc cls (st.map (am_cv b ad))) := by
  obtain ⟨q, hq⟩ := List.getElem?_of_mem (am_lv_mem (b := b) (ad := ad) hi (by decide : (0 : Nat) ≤ 3))
  exact lv_iinc (k := q) (v := Int32.ofInt (am_w32 (x + d))) hF.1 hF.2.1 hd (am_L_has hL) hq (by rw [am_w32_of, Int32.ofInt_add]) hm rfl (fun ls' h => kk ad ls' H locs (fun _ _ => rfl) hH (am_sto_L (v := (0, am_w32 (x + d))) hm hL.2.2.1 (show (0 : Nat) ≠ 1 by decide) h) (am_oks_sto hLo i (am_w32_ok n _)) hso)
end
end
section
section
variable {p : Program} {l : Launch} {e : Env} {R : Room} {s : State} {m : MethodId} {args : Array Value} {below : List Frame} {meth : Method} {c : Code} {Q : State → Prop} {D : va_G} {dA : Nat → ClassId} {b : Nat} {A : Nat → Prop} {k n0 : Nat} {ad : Nat → Nat} {n pc : Nat} {L st : List am_V} {μ : am_M} {cls : Array Slot} {H : Heap} {locs : List Loc} {sc : am_Sc} {pc' : Nat} {L' st' : List am_V} {n' : Nat} {μ' : am_M}
theorem am_o_iadd {x y : Int} (hF : am_F p R s m args meth c k) (hH : am_H D dA b A s ad n μ H locs) (hL : am_L b ad L cls (am_ml k)) (hLo : am_oks n L)  (hso : am_oks n ((0, y) :: (0, x) :: st)) (hd : decode (am_by k) pc = .ok (.iadd, 1)) (kk : am_Kk p l e R s m args below meth c Q D dA b A k n0 ad n (pc + 1) (L) ((0, am_w32 (x + y)) :: st) (n) (μ)) : W p l e R s m args below meth c H locs (n - n0) (am_sl n - am_sl n0) Q (F0 m pc cls (((0, y) :: (0, x) :: st).map (am_cv b ad))) := by
  have hx := am_oks_head (am_oks_tail hso)
  have hy := am_oks_head hso
  have h1 := am_kk0 kk hH hL hLo (am_oks_cons (am_w32_ok n _) (am_oks_tail (am_oks_tail hso)))
  rw [List.map_cons, am_cv0, am_w32_of, Int32.ofInt_add] at h1
  exact lv_iadd hF.1 hF.2.1 hd (h1)
theorem am_o_isub {x y : Int} (hF : am_F p R s m args meth c k) (hH : am_H D dA b A s ad n μ H locs) (hL : am_L b ad L cls (am_ml k)) (hLo : am_oks n L)  (hso : am_oks n ((0, y) :: (0, x) :: st)) (hd : decode (am_by k) pc = .ok (.isub, 1)) (kk : am_Kk p l e R s m args below meth c Q D dA b A k n0 ad n (pc + 1) (L) ((0, am_w32 (x - y)) :: st) (n) (μ)) : W p l e R s m args below meth c H locs (n - n0) (am_sl n - am_sl n0) Q (F0 m pc cls (((0, y) :: (0, x) :: st).map (am_cv b ad))) := by
  have hx := am_oks_head (am_oks_tail hso)
  have hy := am_oks_head hso
  have h1 := am_kk0 kk hH hL hLo (am_oks_cons (am_w32_ok n _) (am_oks_tail (am_oks_tail hso)))
  rw [List.map_cons, am_cv0, am_w32_of, Int32.ofInt_sub] at h1
  exact lv_isub hF.1 hF.2.1 hd (h1)
theorem am_o_imul {x y : Int} (hF : am_F p R s m args meth c k) (hH : am_H D dA b A s ad n μ H locs) (hL : am_L b ad L cls (am_ml k)) (hLo : am_oks n L)  (hso : am_oks n ((0, y) :: (0, x) :: st)) (hd : decode (am_by k) pc = .ok (.imul, 1)) (kk : am_Kk p l e R s m args below meth c Q D dA b A k n0 ad n (pc + 1) (L) ((0, am_w32 (x * y)) :: st) (n) (μ)) : W p l e R s m args below meth c H locs (n - n0) (am_sl n - am_sl n0) Q (F0 m pc cls (((0, y) :: (0, x) :: st).map (am_cv b ad))) := by
  have hx := am_oks_head (am_oks_tail hso)
  have hy := am_oks_head hso
  have h1 := am_kk0 kk hH hL hLo (am_oks_cons (am_w32_ok n _) (am_oks_tail (am_oks_tail hso)))
  rw [List.map_cons, am_cv0, am_w32_of, Int32.ofInt_mul] at h1
  exact lv_imul hF.1 hF.2.1 hd (h1)
theorem am_o_iand {x y : Int} (hF : am_F p R s m args meth c k) (hH : am_H D dA b A s ad n μ H locs) (hL : am_L b ad L cls (am_ml k)) (hLo : am_oks n L)  (hso : am_oks n ((0, y) :: (0, x) :: st)) (hd : decode (am_by k) pc = .ok (.iand, 1)) (kk : am_Kk p l e R s m args below meth c Q D dA b A k n0 ad n (pc + 1) (L) ((0, (Int32.ofInt x &&& Int32.ofInt y).toInt) :: st) (n) (μ)) : W p l e R s m args below meth c H locs (n - n0) (am_sl n - am_sl n0) Q (F0 m pc cls (((0, y) :: (0, x) :: st).map (am_cv b ad))) := by
  have hx := am_oks_head (am_oks_tail hso)
  have hy := am_oks_head hso
  have h1 := am_kk0 kk hH hL hLo (am_oks_cons (am_i32_ok n _) (am_oks_tail (am_oks_tail hso)))
  rw [List.map_cons, am_cv0, Int32.ofInt_toInt] at h1
  exact lv_iand hF.1 hF.2.1 hd (h1)
theorem am_o_ior {x y : Int} (hF : am_F p R s m args meth c k) (hH : am_H D dA b A s ad n μ H locs) (hL : am_L b ad L cls (am_ml k)) (hLo : am_oks n L)  (hso : am_oks n ((0, y) :: (0, x) :: st)) (hd : decode (am_by k) pc = .ok (.ior, 1)) (kk : am_Kk p l e R s m args below meth c Q D dA b A k n0 ad n (pc + 1) (L) ((0, (Int32.ofInt x ||| Int32.ofInt y).toInt) :: st) (n) (μ)) : W p l e R s m args below meth c H locs (n - n0) (am_sl n - am_sl n0) Q (F0 m pc cls (((0, y) :: (0, x) :: st).map (am_cv b ad))) := by
  have hx := am_oks_head (am_oks_tail hso)
  have hy := am_oks_head hso
  have h1 := am_kk0 kk hH hL hLo (am_oks_cons (am_i32_ok n _) (am_oks_tail (am_oks_tail hso)))
  rw [List.map_cons, am_cv0, Int32.ofInt_toInt] at h1
  exact lv_ior hF.1 hF.2.1 hd (h1)
theorem am_o_ishl {x y : Int} (hF : am_F p R s m args meth c k) (hH : am_H D dA b A s ad n μ H locs) (hL : am_L b ad L cls (am_ml k)) (hLo : am_oks n L)  (hso : am_oks n ((0, y) :: (0, x) :: st)) (hd : decode (am_by k) pc = .ok (.ishl, 1)) (kk : am_Kk p l e R s m args below meth c Q D dA b A k n0 ad n (pc + 1) (L) ((0, (Int32.ofInt x <<< (Int32.ofInt y &&& 31)).toInt) :: st) (n) (μ)) : W p l e R s m args below meth c H locs (n - n0) (am_sl n - am_sl n0) Q (F0 m pc cls (((0, y) :: (0, x) :: st).map (am_cv b ad))) := by
  have hx := am_oks_head (am_oks_tail hso)
  have hy := am_oks_head hso
  have h1 := am_kk0 kk hH hL hLo (am_oks_cons (am_i32_ok n _) (am_oks_tail (am_oks_tail hso)))
  rw [List.map_cons, am_cv0, Int32.ofInt_toInt] at h1
  exact lv_ishl hF.1 hF.2.1 hd (h1)
theorem am_o_ishr {x y : Int} (hF : am_F p R s m args meth c k) (hH : am_H D dA b A s ad n μ H locs) (hL : am_L b ad L cls (am_ml k)) (hLo : am_oks n L)  (hso : am_oks n ((0, y) :: (0, x) :: st)) (hd : decode (am_by k) pc = .ok (.ishr, 1)) (kk : am_Kk p l e R s m args below meth c Q D dA b A k n0 ad n (pc + 1) (L) ((0, (Int32.ofInt x >>> (Int32.ofInt y &&& 31)).toInt) :: st) (n) (μ)) : W p l e R s m args below meth c H locs (n - n0) (am_sl n - am_sl n0) Q (F0 m pc cls (((0, y) :: (0, x) :: st).map (am_cv b ad))) := by
  have hx := am_oks_head (am_oks_tail hso)
  have hy := am_oks_head hso
  have h1 := am_kk0 kk hH hL hLo (am_oks_cons (am_i32_ok n _) (am_oks_tail (am_oks_tail hso)))
  rw [List.map_cons, am_cv0, Int32.ofInt_toInt] at h1
  exact lv_ishr hF.1 hF.2.1 hd (h1)
theorem am_o_ladd {x y : Int} (hF : am_F p R s m args meth c k) (hH : am_H D dA b A s ad n μ H locs) (hL : am_L b ad L cls (am_ml k)) (hLo : am_oks n L)  (hso : am_oks n ((1, y) :: (1, x) :: st)) (hd : decode (am_by k) pc = .ok (.ladd, 1)) (kk : am_Kk p l e R s m args below meth c Q D dA b A k n0 ad n (pc + 1) (L) ((1, am_w64 (x + y)) :: st) (n) (μ)) : W p l e R s m args below meth c H locs (n - n0) (am_sl n - am_sl n0) Q (F0 m pc cls (((1, y) :: (1, x) :: st).map (am_cv b ad))) := by
  have hx := am_oks_head (am_oks_tail hso)
  have hy := am_oks_head hso
  have h1 := am_kk0 kk hH hL hLo (am_oks_cons (am_w64_ok n _) (am_oks_tail (am_oks_tail hso)))
  rw [List.map_cons, am_cv1, am_w64_of, Int64.ofInt_add] at h1
  exact lv_ladd hF.1 hF.2.1 hd (h1)
theorem am_o_lmul {x y : Int} (hF : am_F p R s m args meth c k) (hH : am_H D dA b A s ad n μ H locs) (hL : am_L b ad L cls (am_ml k)) (hLo : am_oks n L)  (hso : am_oks n ((1, y) :: (1, x) :: st)) (hd : decode (am_by k) pc = .ok (.lmul, 1)) (kk : am_Kk p l e R s m args below meth c Q D dA b A k n0 ad n (pc + 1) (L) ((1, am_w64 (x * y)) :: st) (n) (μ)) : W p l e R s m args below meth c H locs (n - n0) (am_sl n - am_sl n0) Q (F0 m pc cls (((1, y) :: (1, x) :: st).map (am_cv b ad))) := by
  have hx := am_oks_head (am_oks_tail hso)
  have hy := am_oks_head hso
  have h1 := am_kk0 kk hH hL hLo (am_oks_cons (am_w64_ok n _) (am_oks_tail (am_oks_tail hso)))
  rw [List.map_cons, am_cv1, am_w64_of, Int64.ofInt_mul] at h1
  exact lv_lmul hF.1 hF.2.1 hd (h1)
theorem am_cmp_ok (n : Nat) (x y : Int) : am_ok n (0, am_cmp x y) := by
  show _ ∧ _
  unfold am_cmp
  split
  · decide
  · split <;> decide
theorem am_cmp_of {x y : Int} (hx : am_ok n (1, x)) (hy : am_ok n (1, y)) : Int32.ofInt (am_cmp x y) = lg_cmp (Int64.ofInt x) (Int64.ofInt y) := by
  unfold am_cmp lg_cmp
  simp only [gt_iff_lt, am_lt64 hy hx, am_eq64 hx hy, am_lt64 hx hy]
  by_cases h1 : y < x
  · simp [h1]
  · by_cases h2 : x = y
    · simp [h2]
    · simp [h1, h2]
theorem am_o_lcmp {x y : Int} (hF : am_F p R s m args meth c k) (hH : am_H D dA b A s ad n μ H locs) (hL : am_L b ad L cls (am_ml k)) (hLo : am_oks n L)  (hso : am_oks n ((1, y) :: (1, x) :: st)) (hd : decode (am_by k) pc = .ok (.lcmp, 1)) (kk : am_Kk p l e R s m args below meth c Q D dA b A k n0 ad n (pc + 1) (L) ((0, am_cmp x y) :: st) (n) (μ)) : W p l e R s m args below meth c H locs (n - n0) (am_sl n - am_sl n0) Q (F0 m pc cls (((1, y) :: (1, x) :: st).map (am_cv b ad))) := by
  have hx := am_oks_head (am_oks_tail hso)
  have hy := am_oks_head hso
  have h1 := am_kk0 kk hH hL hLo (am_oks_cons (am_cmp_ok n x y) (am_oks_tail (am_oks_tail hso)))
  rw [List.map_cons, am_cv0, am_cmp_of hx hy] at h1
  exact W.lcmp hF.1 hF.2.1 hd h1
theorem am_o_ineg {x : Int} (hF : am_F p R s m args meth c k) (hH : am_H D dA b A s ad n μ H locs) (hL : am_L b ad L cls (am_ml k)) (hLo : am_oks n L)  (hso : am_oks n ((0, x) :: st)) (hd : decode (am_by k) pc = .ok (.ineg, 1)) (kk : am_Kk p l e R s m args below meth c Q D dA b A k n0 ad n (pc + 1) (L) ((0, am_w32 (-x)) :: st) (n) (μ)) : W p l e R s m args below meth c H locs (n - n0) (am_sl n - am_sl n0) Q (F0 m pc cls (((0, x) :: st).map (am_cv b ad))) := by
  have h1 := am_kk0 kk hH hL hLo (am_oks_cons (am_w32_ok n _) (am_oks_tail hso))
  rw [List.map_cons, am_cv0, am_w32_of, Int32.ofInt_neg] at h1
  exact lv_ineg hF.1 hF.2.1 hd h1
theorem am_o_i2l {x : Int} (hF : am_F p R s m args meth c k) (hH : am_H D dA b A s ad n μ H locs) (hL : am_L b ad L cls (am_ml k)) (hLo : am_oks n L)  (hso : am_oks n ((0, x) :: st)) (hd : decode (am_by k) pc = .ok (.i2l, 1)) (kk : am_Kk p l e R s m args below meth c Q D dA b A k n0 ad n (pc + 1) (L) ((1, x) :: st) (n) (μ)) : W p l e R s m args below meth c H locs (n - n0) (am_sl n - am_sl n0) Q (F0 m pc cls (((0, x) :: st).map (am_cv b ad))) := by
  have hx : -2147483648 ≤ x ∧ x < 2147483648 := am_oks_head hso
  exact lv_i2l hF.1 hF.2.1 hd (am_i2l hx) (am_kk0 kk hH hL hLo (am_oks_cons ⟨by show _ ≤ x; omega, by show x < _; omega⟩ (am_oks_tail hso)))
theorem am_o_l2i {x : Int} (hF : am_F p R s m args meth c k) (hH : am_H D dA b A s ad n μ H locs) (hL : am_L b ad L cls (am_ml k)) (hLo : am_oks n L)  (hso : am_oks n ((1, x) :: st)) (hd : decode (am_by k) pc = .ok (.l2i, 1)) (kk : am_Kk p l e R s m args below meth c Q D dA b A k n0 ad n (pc + 1) (L) ((0, am_w32 x) :: st) (n) (μ)) : W p l e R s m args below meth c H locs (n - n0) (am_sl n - am_sl n0) Q (F0 m pc cls (((1, x) :: st).map (am_cv b ad))) := by
  exact lv_l2i hF.1 hF.2.1 hd (am_l2i (am_oks_head hso)) (am_kk0 kk hH hL hLo (am_oks_cons (am_w32_ok n x) (am_oks_tail hso)))
theorem am_o_icmp_eq {x y off : Int} {tgt : Nat} (hF : am_F p R s m args meth c k) (hH : am_H D dA b A s ad n μ H locs) (hL : am_L b ad L cls (am_ml k)) (hLo : am_oks n L)  (hso : am_oks n ((0, y) :: (0, x) :: st)) (hd : decode (am_by k) pc = .ok (.if_icmp .eq off, 3)) (ht : (pc : Int) + off = (tgt : Int)) (kt : x = y → am_Kk p l e R s m args below meth c Q D dA b A k n0 ad n tgt L st n μ) (kf : ¬ x = y → am_Kk p l e R s m args below meth c Q D dA b A k n0 ad n (pc + 3) L st n μ) : W p l e R s m args below meth c H locs (n - n0) (am_sl n - am_sl n0) Q (F0 m pc cls (((0, y) :: (0, x) :: st).map (am_cv b ad))) := by
  have hx : -2147483648 ≤ x ∧ x < 2147483648 := am_oks_head (am_oks_tail hso)
  have hy : -2147483648 ≤ y ∧ y < 2147483648 := am_oks_head hso
  have hr := am_oks_tail (am_oks_tail hso)
  have h9 := am_eq32 hx hy
  exact lv_icmp_eq hF.1 hF.2.1 hd ht (fun q => am_kk0 (kt (h9.mp q)) hH hL hLo hr) (fun q => am_kk0 (kf (fun z => q (h9.mpr z))) hH hL hLo hr)
theorem am_o_if_eq {x y off : Int} {tgt : Nat} (hF : am_F p R s m args meth c k) (hH : am_H D dA b A s ad n μ H locs) (hL : am_L b ad L cls (am_ml k)) (hLo : am_oks n L)  (hso : am_oks n ((0, x) :: st)) (hd : decode (am_by k) pc = .ok (.ifCond .eq off, 3)) (ht : (pc : Int) + off = (tgt : Int)) (kt : x = 0 → am_Kk p l e R s m args below meth c Q D dA b A k n0 ad n tgt L st n μ) (kf : ¬ x = 0 → am_Kk p l e R s m args below meth c Q D dA b A k n0 ad n (pc + 3) L st n μ) : W p l e R s m args below meth c H locs (n - n0) (am_sl n - am_sl n0) Q (F0 m pc cls (((0, x) :: st).map (am_cv b ad))) := by
  have hx : -2147483648 ≤ x ∧ x < 2147483648 := am_oks_head hso
  have hy : (-2147483648 : Int) ≤ 0 ∧ (0 : Int) < 2147483648 := by decide
  have hr := am_oks_tail hso
  have h9 := am_eq32 hx hy
  exact lv_if_eq hF.1 hF.2.1 hd ht (fun q => am_kk0 (kt (h9.mp q)) hH hL hLo hr) (fun q => am_kk0 (kf (fun z => q (h9.mpr z))) hH hL hLo hr)
theorem am_o_icmp_lt {x y off : Int} {tgt : Nat} (hF : am_F p R s m args meth c k) (hH : am_H D dA b A s ad n μ H locs) (hL : am_L b ad L cls (am_ml k)) (hLo : am_oks n L)  (hso : am_oks n ((0, y) :: (0, x) :: st)) (hd : decode (am_by k) pc = .ok (.if_icmp .lt off, 3)) (ht : (pc : Int) + off = (tgt : Int)) (kt : x < y → am_Kk p l e R s m args below meth c Q D dA b A k n0 ad n tgt L st n μ) (kf : ¬ x < y → am_Kk p l e R s m args below meth c Q D dA b A k n0 ad n (pc + 3) L st n μ) : W p l e R s m args below meth c H locs (n - n0) (am_sl n - am_sl n0) Q (F0 m pc cls (((0, y) :: (0, x) :: st).map (am_cv b ad))) := by
  have hx : -2147483648 ≤ x ∧ x < 2147483648 := am_oks_head (am_oks_tail hso)
  have hy : -2147483648 ≤ y ∧ y < 2147483648 := am_oks_head hso
  have hr := am_oks_tail (am_oks_tail hso)
  have h9 := am_lt32 hx hy
  exact lv_icmp_lt hF.1 hF.2.1 hd ht (fun q => am_kk0 (kt (h9.mp q)) hH hL hLo hr) (fun q => am_kk0 (kf (fun z => q (h9.mpr z))) hH hL hLo hr)
theorem am_o_if_lt {x y off : Int} {tgt : Nat} (hF : am_F p R s m args meth c k) (hH : am_H D dA b A s ad n μ H locs) (hL : am_L b ad L cls (am_ml k)) (hLo : am_oks n L)  (hso : am_oks n ((0, x) :: st)) (hd : decode (am_by k) pc = .ok (.ifCond .lt off, 3)) (ht : (pc : Int) + off = (tgt : Int)) (kt : x < 0 → am_Kk p l e R s m args below meth c Q D dA b A k n0 ad n tgt L st n μ) (kf : ¬ x < 0 → am_Kk p l e R s m args below meth c Q D dA b A k n0 ad n (pc + 3) L st n μ) : W p l e R s m args below meth c H locs (n - n0) (am_sl n - am_sl n0) Q (F0 m pc cls (((0, x) :: st).map (am_cv b ad))) := by
  have hx : -2147483648 ≤ x ∧ x < 2147483648 := am_oks_head hso
  have hy : (-2147483648 : Int) ≤ 0 ∧ (0 : Int) < 2147483648 := by decide
  have hr := am_oks_tail hso
  have h9 := am_lt32 hx hy
  exact lv_if_lt hF.1 hF.2.1 hd ht (fun q => am_kk0 (kt (h9.mp q)) hH hL hLo hr) (fun q => am_kk0 (kf (fun z => q (h9.mpr z))) hH hL hLo hr)
theorem am_o_icmp_ge {x y off : Int} {tgt : Nat} (hF : am_F p R s m args meth c k) (hH : am_H D dA b A s ad n μ H locs) (hL : am_L b ad L cls (am_ml k)) (hLo : am_oks n L)  (hso : am_oks n ((0, y) :: (0, x) :: st)) (hd : decode (am_by k) pc = .ok (.if_icmp .ge off, 3)) (ht : (pc : Int) + off = (tgt : Int)) (kt : y ≤ x → am_Kk p l e R s m args below meth c Q D dA b A k n0 ad n tgt L st n μ) (kf : ¬ y ≤ x → am_Kk p l e R s m args below meth c Q D dA b A k n0 ad n (pc + 3) L st n μ) : W p l e R s m args below meth c H locs (n - n0) (am_sl n - am_sl n0) Q (F0 m pc cls (((0, y) :: (0, x) :: st).map (am_cv b ad))) := by
  have hx : -2147483648 ≤ x ∧ x < 2147483648 := am_oks_head (am_oks_tail hso)
  have hy : -2147483648 ≤ y ∧ y < 2147483648 := am_oks_head hso
  have hr := am_oks_tail (am_oks_tail hso)
  have h9 := am_le32 hy hx
  exact lv_icmp_ge hF.1 hF.2.1 hd ht (fun q => am_kk0 (kt (h9.mp q)) hH hL hLo hr) (fun q => am_kk0 (kf (fun z => q (h9.mpr z))) hH hL hLo hr)
theorem am_o_if_ge {x y off : Int} {tgt : Nat} (hF : am_F p R s m args meth c k) (hH : am_H D dA b A s ad n μ H locs) (hL : am_L b ad L cls (am_ml k)) (hLo : am_oks n L)  (hso : am_oks n ((0, x) :: st)) (hd : decode (am_by k) pc = .ok (.ifCond .ge off, 3)) (ht : (pc : Int) + off = (tgt : Int)) (kt : 0 ≤ x → am_Kk p l e R s m args below meth c Q D dA b A k n0 ad n tgt L st n μ) (kf : ¬ 0 ≤ x → am_Kk p l e R s m args below meth c Q D dA b A k n0 ad n (pc + 3) L st n μ) : W p l e R s m args below meth c H locs (n - n0) (am_sl n - am_sl n0) Q (F0 m pc cls (((0, x) :: st).map (am_cv b ad))) := by
  have hx : -2147483648 ≤ x ∧ x < 2147483648 := am_oks_head hso
  have hy : (-2147483648 : Int) ≤ 0 ∧ (0 : Int) < 2147483648 := by decide
  have hr := am_oks_tail hso
  have h9 := am_le32 hy hx
  exact lv_if_ge hF.1 hF.2.1 hd ht (fun q => am_kk0 (kt (h9.mp q)) hH hL hLo hr) (fun q => am_kk0 (kf (fun z => q (h9.mpr z))) hH hL hLo hr)
theorem am_o_icmp_gt {x y off : Int} {tgt : Nat} (hF : am_F p R s m args meth c k) (hH : am_H D dA b A s ad n μ H locs) (hL : am_L b ad L cls (am_ml k)) (hLo : am_oks n L)  (hso : am_oks n ((0, y) :: (0, x) :: st)) (hd : decode (am_by k) pc = .ok (.if_icmp .gt off, 3)) (ht : (pc : Int) + off = (tgt : Int)) (kt : y < x → am_Kk p l e R s m args below meth c Q D dA b A k n0 ad n tgt L st n μ) (kf : ¬ y < x → am_Kk p l e R s m args below meth c Q D dA b A k n0 ad n (pc + 3) L st n μ) : W p l e R s m args below meth c H locs (n - n0) (am_sl n - am_sl n0) Q (F0 m pc cls (((0, y) :: (0, x) :: st).map (am_cv b ad))) := by
  have hx : -2147483648 ≤ x ∧ x < 2147483648 := am_oks_head (am_oks_tail hso)
  have hy : -2147483648 ≤ y ∧ y < 2147483648 := am_oks_head hso
  have hr := am_oks_tail (am_oks_tail hso)
  have h9 := am_lt32 hy hx
  exact lv_icmp_gt hF.1 hF.2.1 hd ht (fun q => am_kk0 (kt (h9.mp q)) hH hL hLo hr) (fun q => am_kk0 (kf (fun z => q (h9.mpr z))) hH hL hLo hr)
theorem am_o_if_gt {x y off : Int} {tgt : Nat} (hF : am_F p R s m args meth c k) (hH : am_H D dA b A s ad n μ H locs) (hL : am_L b ad L cls (am_ml k)) (hLo : am_oks n L)  (hso : am_oks n ((0, x) :: st)) (hd : decode (am_by k) pc = .ok (.ifCond .gt off, 3)) (ht : (pc : Int) + off = (tgt : Int)) (kt : 0 < x → am_Kk p l e R s m args below meth c Q D dA b A k n0 ad n tgt L st n μ) (kf : ¬ 0 < x → am_Kk p l e R s m args below meth c Q D dA b A k n0 ad n (pc + 3) L st n μ) : W p l e R s m args below meth c H locs (n - n0) (am_sl n - am_sl n0) Q (F0 m pc cls (((0, x) :: st).map (am_cv b ad))) := by
  have hx : -2147483648 ≤ x ∧ x < 2147483648 := am_oks_head hso
  have hy : (-2147483648 : Int) ≤ 0 ∧ (0 : Int) < 2147483648 := by decide
  have hr := am_oks_tail hso
  have h9 := am_lt32 hy hx
  exact lv_if_gt hF.1 hF.2.1 hd ht (fun q => am_kk0 (kt (h9.mp q)) hH hL hLo hr) (fun q => am_kk0 (kf (fun z => q (h9.mpr z))) hH hL hLo hr)
theorem am_o_icmp_le {x y off : Int} {tgt : Nat} (hF : am_F p R s m args meth c k) (hH : am_H D dA b A s ad n μ H locs) (hL : am_L b ad L cls (am_ml k)) (hLo : am_oks n L)  (hso : am_oks n ((0, y) :: (0, x) :: st)) (hd : decode (am_by k) pc = .ok (.if_icmp .le off, 3)) (ht : (pc : Int) + off = (tgt : Int)) (kt : x ≤ y → am_Kk p l e R s m args below meth c Q D dA b A k n0 ad n tgt L st n μ) (kf : ¬ x ≤ y → am_Kk p l e R s m args below meth c Q D dA b A k n0 ad n (pc + 3) L st n μ) : W p l e R s m args below meth c H locs (n - n0) (am_sl n - am_sl n0) Q (F0 m pc cls (((0, y) :: (0, x) :: st).map (am_cv b ad))) := by
  have hx : -2147483648 ≤ x ∧ x < 2147483648 := am_oks_head (am_oks_tail hso)
  have hy : -2147483648 ≤ y ∧ y < 2147483648 := am_oks_head hso
  have hr := am_oks_tail (am_oks_tail hso)
  have h9 := am_le32 hx hy
  exact lv_icmp_le hF.1 hF.2.1 hd ht (fun q => am_kk0 (kt (h9.mp q)) hH hL hLo hr) (fun q => am_kk0 (kf (fun z => q (h9.mpr z))) hH hL hLo hr)
theorem am_o_if_le {x y off : Int} {tgt : Nat} (hF : am_F p R s m args meth c k) (hH : am_H D dA b A s ad n μ H locs) (hL : am_L b ad L cls (am_ml k)) (hLo : am_oks n L)  (hso : am_oks n ((0, x) :: st)) (hd : decode (am_by k) pc = .ok (.ifCond .le off, 3)) (ht : (pc : Int) + off = (tgt : Int)) (kt : x ≤ 0 → am_Kk p l e R s m args below meth c Q D dA b A k n0 ad n tgt L st n μ) (kf : ¬ x ≤ 0 → am_Kk p l e R s m args below meth c Q D dA b A k n0 ad n (pc + 3) L st n μ) : W p l e R s m args below meth c H locs (n - n0) (am_sl n - am_sl n0) Q (F0 m pc cls (((0, x) :: st).map (am_cv b ad))) := by
  have hx : -2147483648 ≤ x ∧ x < 2147483648 := am_oks_head hso
  have hy : (-2147483648 : Int) ≤ 0 ∧ (0 : Int) < 2147483648 := by decide
  have hr := am_oks_tail hso
  have h9 := am_le32 hx hy
  exact lv_if_le hF.1 hF.2.1 hd ht (fun q => am_kk0 (kt (h9.mp q)) hH hL hLo hr) (fun q => am_kk0 (kf (fun z => q (h9.mpr z))) hH hL hLo hr)
theorem am_o_icmp_ne {x y off : Int} {tgt : Nat} (hF : am_F p R s m args meth c k) (hH : am_H D dA b A s ad n μ H locs) (hL : am_L b ad L cls (am_ml k)) (hLo : am_oks n L)  (hso : am_oks n ((0, y) :: (0, x) :: st)) (hd : decode (am_by k) pc = .ok (.if_icmp .ne off, 3)) (ht : (pc : Int) + off = (tgt : Int)) (kt : x ≠ y → am_Kk p l e R s m args below meth c Q D dA b A k n0 ad n tgt L st n μ) (kf : ¬ x ≠ y → am_Kk p l e R s m args below meth c Q D dA b A k n0 ad n (pc + 3) L st n μ) : W p l e R s m args below meth c H locs (n - n0) (am_sl n - am_sl n0) Q (F0 m pc cls (((0, y) :: (0, x) :: st).map (am_cv b ad))) := by
  have hx : -2147483648 ≤ x ∧ x < 2147483648 := am_oks_head (am_oks_tail hso)
  have hy : -2147483648 ≤ y ∧ y < 2147483648 := am_oks_head hso
  have hr := am_oks_tail (am_oks_tail hso)
  have h9 := not_congr (am_eq32 hx hy)
  exact lv_icmp_ne hF.1 hF.2.1 hd ht (fun q => am_kk0 (kt (h9.mp q)) hH hL hLo hr) (fun q => am_kk0 (kf (fun z => (h9.mpr z) q)) hH hL hLo hr)
theorem am_o_if_ne {x y off : Int} {tgt : Nat} (hF : am_F p R s m args meth c k) (hH : am_H D dA b A s ad n μ H locs) (hL : am_L b ad L cls (am_ml k)) (hLo : am_oks n L)  (hso : am_oks n ((0, x) :: st)) (hd : decode (am_by k) pc = .ok (.ifCond .ne off, 3)) (ht : (pc : Int) + off = (tgt : Int)) (kt : x ≠ 0 → am_Kk p l e R s m args below meth c Q D dA b A k n0 ad n tgt L st n μ) (kf : ¬ x ≠ 0 → am_Kk p l e R s m args below meth c Q D dA b A k n0 ad n (pc + 3) L st n μ) : W p l e R s m args below meth c H locs (n - n0) (am_sl n - am_sl n0) Q (F0 m pc cls (((0, x) :: st).map (am_cv b ad))) := by
  have hx : -2147483648 ≤ x ∧ x < 2147483648 := am_oks_head hso
  have hy : (-2147483648 : Int) ≤ 0 ∧ (0 : Int) < 2147483648 := by decide
  have hr := am_oks_tail hso
  have h9 := not_congr (am_eq32 hx hy)
  exact lv_if_ne hF.1 hF.2.1 hd ht (fun q => am_kk0 (kt (h9.mp q)) hH hL hLo hr) (fun q => am_kk0 (kf (fun z => (h9.mpr z) q)) hH hL hLo hr)
theorem am_o_goto {off : Int} {tgt : Nat} (hF : am_F p R s m args meth c k) (hH : am_H D dA b A s ad n μ H locs) (hL : am_L b ad L cls (am_ml k)) (hLo : am_oks n L)  (hso : am_oks n st) (hd : decode (am_by k) pc = .ok (.goto off, 3)) (ht : (pc : Int) + off = (tgt : Int)) (kk : am_Kk p l e R s m args below meth c Q D dA b A k n0 ad n (tgt) (L) (st) (n) (μ)) : W p l e R s m args below meth c H locs (n - n0) (am_sl n - am_sl n0) Q (F0 m pc cls ((st).map (am_cv b ad))) := lv_goto hF.1 hF.2.1 hd ht (am_kk0 kk hH hL hLo hso)
theorem am_o_ifnull {x off : Int} {tgt : Nat} (hF : am_F p R s m args meth c k) (hH : am_H D dA b A s ad n μ H locs) (hL : am_L b ad L cls (am_ml k)) (hLo : am_oks n L)  (hso : am_oks n ((2, x) :: st)) (hd : decode (am_by k) pc = .ok (.ifnull off, 3)) (ht : (pc : Int) + off = (tgt : Int)) (kt : x < 0 → am_Kk p l e R s m args below meth c Q D dA b A k n0 ad n tgt L st n μ) (kf : ¬ x < 0 → am_Kk p l e R s m args below meth c Q D dA b A k n0 ad n (pc + 3) L st n μ) : W p l e R s m args below meth c H locs (n - n0) (am_sl n - am_sl n0) Q (F0 m pc cls (((2, x) :: st).map (am_cv b ad))) := by
  have hr := am_oks_tail hso
  rw [List.map_cons]
  by_cases h : x < 0
  · rw [am_cv2n b ad h]; exact lv_ifnullN hF.1 hF.2.1 hd ht (am_kk0 (kt h) hH hL hLo hr)
  · rw [am_cv2p b ad (by omega)]; exact lv_ifnull hF.1 hF.2.1 hd (am_kk0 (kf h) hH hL hLo hr)
theorem am_o_ifnonnull {x off : Int} {tgt : Nat} (hF : am_F p R s m args meth c k) (hH : am_H D dA b A s ad n μ H locs) (hL : am_L b ad L cls (am_ml k)) (hLo : am_oks n L)  (hso : am_oks n ((2, x) :: st)) (hd : decode (am_by k) pc = .ok (.ifnonnull off, 3)) (ht : (pc : Int) + off = (tgt : Int)) (kt : 0 ≤ x → am_Kk p l e R s m args below meth c Q D dA b A k n0 ad n tgt L st n μ) (kf : ¬ 0 ≤ x → am_Kk p l e R s m args below meth c Q D dA b A k n0 ad n (pc + 3) L st n μ) : W p l e R s m args below meth c H locs (n - n0) (am_sl n - am_sl n0) Q (F0 m pc cls (((2, x) :: st).map (am_cv b ad))) := by
  have hr := am_oks_tail hso
  rw [List.map_cons]
  by_cases h : 0 ≤ x
  · rw [am_cv2p b ad h]; exact lv_ifnonnull hF.1 hF.2.1 hd ht (am_kk0 (kt h) hH hL hLo hr)
  · rw [am_cv2n b ad (by omega)]; exact lv_ifnonnullN hF.1 hF.2.1 hd (am_kk0 (kf h) hH hL hLo hr)
theorem am_cat1 {v : am_V} (h : v.1 = 0 ∨ v.1 = 2) : (am_cv b ad v).category = 1 := by
  rw [am_cat_cv]
  unfold am_cat
  rw [if_neg (by omega)]
theorem am_o_dup {v : am_V} (hF : am_F p R s m args meth c k) (hH : am_H D dA b A s ad n μ H locs) (hL : am_L b ad L cls (am_ml k)) (hLo : am_oks n L)  (hso : am_oks n (v :: st)) (hv : v.1 = 0 ∨ v.1 = 2) (hd : decode (am_by k) pc = .ok (.dup, 1)) (kk : am_Kk p l e R s m args below meth c Q D dA b A k n0 ad n (pc + 1) (L) (v :: v :: st) (n) (μ)) : W p l e R s m args below meth c H locs (n - n0) (am_sl n - am_sl n0) Q (F0 m pc cls ((v :: st).map (am_cv b ad))) := lv_dup hF.1 hF.2.1 hd (am_cat1 hv) (am_kk0 kk hH hL hLo (am_oks_cons (am_oks_head hso) hso))
theorem am_o_dup_x1 {v w : am_V} (hF : am_F p R s m args meth c k) (hH : am_H D dA b A s ad n μ H locs) (hL : am_L b ad L cls (am_ml k)) (hLo : am_oks n L)  (hso : am_oks n (v :: w :: st)) (hv : v.1 = 0 ∨ v.1 = 2) (hw : w.1 = 0 ∨ w.1 = 2) (hd : decode (am_by k) pc = .ok (.dup_x1, 1)) (kk : am_Kk p l e R s m args below meth c Q D dA b A k n0 ad n (pc + 1) (L) (v :: w :: v :: st) (n) (μ)) : W p l e R s m args below meth c H locs (n - n0) (am_sl n - am_sl n0) Q (F0 m pc cls ((v :: w :: st).map (am_cv b ad))) := lv_dup_x1 hF.1 hF.2.1 hd (am_cat1 hv) (am_cat1 hw) (am_kk0 kk hH hL hLo (am_oks_cons (am_oks_head hso) (am_oks_cons (am_oks_head (am_oks_tail hso)) (am_oks_cons (am_oks_head hso) (am_oks_tail (am_oks_tail hso))))))
theorem am_o_dup2 {v w : am_V} (hF : am_F p R s m args meth c k) (hH : am_H D dA b A s ad n μ H locs) (hL : am_L b ad L cls (am_ml k)) (hLo : am_oks n L)  (hso : am_oks n (v :: w :: st)) (hv : v.1 = 0 ∨ v.1 = 2) (hw : w.1 = 0 ∨ w.1 = 2) (hd : decode (am_by k) pc = .ok (.dup2, 1)) (kk : am_Kk p l e R s m args below meth c Q D dA b A k n0 ad n (pc + 1) (L) (v :: w :: v :: w :: st) (n) (μ)) : W p l e R s m args below meth c H locs (n - n0) (am_sl n - am_sl n0) Q (F0 m pc cls ((v :: w :: st).map (am_cv b ad))) := lv_dup2_11 hF.1 hF.2.1 hd (am_cat1 hv) (am_cat1 hw) (am_kk0 kk hH hL hLo (am_oks_cons (am_oks_head hso) (am_oks_cons (am_oks_head (am_oks_tail hso)) hso)))
theorem am_o_pop {v : am_V} (hF : am_F p R s m args meth c k) (hH : am_H D dA b A s ad n μ H locs) (hL : am_L b ad L cls (am_ml k)) (hLo : am_oks n L)  (hso : am_oks n (v :: st)) (hv : v.1 = 0 ∨ v.1 = 2) (hd : decode (am_by k) pc = .ok (.pop, 1)) (kk : am_Kk p l e R s m args below meth c Q D dA b A k n0 ad n (pc + 1) (L) (st) (n) (μ)) : W p l e R s m args below meth c H locs (n - n0) (am_sl n - am_sl n0) Q (F0 m pc cls ((v :: st).map (am_cv b ad))) := lv_pop hF.1 hF.2.1 hd (am_cat1 hv) (am_kk0 kk hH hL hLo (am_oks_tail hso))
theorem am_o_pop2 {x : Int} (hF : am_F p R s m args meth c k) (hH : am_H D dA b A s ad n μ H locs) (hL : am_L b ad L cls (am_ml k)) (hLo : am_oks n L)  (hso : am_oks n ((1, x) :: st)) (hd : decode (am_by k) pc = .ok (.pop2, 1)) (kk : am_Kk p l e R s m args below meth c Q D dA b A k n0 ad n (pc + 1) (L) (st) (n) (μ)) : W p l e R s m args below meth c H locs (n - n0) (am_sl n - am_sl n0) Q (F0 m pc cls (((1, x) :: st).map (am_cv b ad))) := lv_pop2_2 hF.1 hF.2.1 hd rfl (am_kk0 kk hH hL hLo (am_oks_tail hso))
theorem am_o_table {x dflt lo hi : Int} {offs : Array Int} {len tgt : Nat} (hF : am_F p R s m args meth c k) (hH : am_H D dA b A s ad n μ H locs) (hL : am_L b ad L cls (am_ml k)) (hLo : am_oks n L)  (hso : am_oks n ((0, x) :: st)) (hd : decode (am_by k) pc = .ok (.tableswitch dflt lo hi offs, len)) (ht : ((x < lo ∨ hi < x) ∧ (pc : Int) + dflt = (tgt : Int)) ∨ (¬ (x < lo ∨ hi < x) ∧ ∃ off, offs[(x - lo).toNat]? = some off ∧ (pc : Int) + off = (tgt : Int))) (kk : am_Kk p l e R s m args below meth c Q D dA b A k n0 ad n (tgt) (L) (st) (n) (μ)) : W p l e R s m args below meth c H locs (n - n0) (am_sl n - am_sl n0) Q (F0 m pc cls (((0, x) :: st).map (am_cv b ad))) := by
  have hx : -2147483648 ≤ x ∧ x < 2147483648 := am_oks_head hso
  have hr := am_oks_tail hso
  rcases ht with ⟨h1, h2⟩ | ⟨h1, off, h2, h3⟩
  · exact lv_tableOut hF.1 hF.2.1 hd (by rw [am_32 hx]; exact h1) h2 (am_kk0 kk hH hL hLo hr)
  · exact lv_tableIn hF.1 hF.2.1 hd (by rw [am_32 hx]; omega) (by rw [am_32 hx]; omega) (by rw [am_32 hx]; exact h2) h3 (am_kk0 kk hH hL hLo hr)
end
end
section
section
variable {p : Program} {l : Launch} {e : Env} {R : Room} {s : State} {m : MethodId} {args : Array Value} {below : List Frame} {meth : Method} {c : Code} {Q : State → Prop} {D : va_G} {dA : Nat → ClassId} {b : Nat} {A : Nat → Prop} {k n0 : Nat} {ad : Nat → Nat} {n pc : Nat} {L st : List am_V} {μ : am_M} {cls : Array Slot} {H : Heap} {locs : List Loc} {sc : am_Sc} {pc' : Nat} {L' st' : List am_V} {n' : Nat} {μ' : am_M}
theorem am_c_obj {ci : Nat} (f : Int → Int) : am_cell dA b ad (0, ci) f = .inr (ci, (List.range (am_N ci)).map (fun (j : Nat) => am_cv b ad (am_ft ci j, f (j : Int)))) := rfl
theorem am_c_int {z : Nat} (f : Int → Int) : am_cell dA b ad (1, z) f = .inl (dA 0, z, .inl (fun j => Int32.ofInt (f (j : Int)))) := rfl
theorem am_c_long {z : Nat} (f : Int → Int) : am_cell dA b ad (2, z) f = .inl (dA 1, z, .inr (.inl (fun j => Int64.ofInt (f (j : Int))))) := rfl
theorem am_c_note {z : Nat} (f : Int → Int) : am_cell dA b ad (3, z) f = .inl (dA 2, z, .inr (.inr (.inr (.inr (fun j => am_rf ad (f (j : Int))))))) := rfl
theorem am_c_ii {z : Nat} (f : Int → Int) : am_cell dA b ad (4, z) f = .inl (dA 3, z, .inr (.inr (.inr (.inr (fun j => am_rf ad (f (j : Int))))))) := rfl
/-- a cell of the world, by its number -/
theorem am_at {x : Int} {q : Nat × Nat} (hx : x < (n : Int)) (h0 : 0 ≤ x) (hq : am_kind x = q) : (am_W dA b ad n μ)[x.toNat]? = some (ad x.toNat, am_cell dA b ad q (μ x)) := by
  have h := am_W_get (dA := dA) (b := b) (ad := ad) (μ := μ) (show x.toNat < n by omega)
  rw [show ((x.toNat : Nat) : Int) = x by omega, hq] at h
  exact h
theorem am_fld {o idx : Nat} {q : Nat × Nat} {w : Nat} (h : am_fls.lookup (o, idx) = some (q, w)) : q.1 < 8 ∧ q.2 < am_N q.1 ∧ Cond.fieldLink (am_cn o) idx (am_T q.1 q.2).1 (am_T q.1 q.2).2.1 (am_T q.1 q.2).2.2.1 ∈ am_tb := by
  have h1 := List.all_eq_true.mp am_v_fls0 _ (am_lookup h)
  simp only [Bool.and_eq_true, decide_eq_true_eq] at h1
  exact ⟨h1.1.1, h1.1.2, am_mem h1.2 rfl⟩
theorem am_clsv {ci : Nat} (h : ci < 8) : vwCl[ci]? = some (am_cn ci, am_T ci, am_N ci) ∧ Cond.instantiable (am_cn ci) (am_N ci) ∈ am_tb ∧ (∀ w ∈ u_ws (am_cn ci) (am_T ci) (am_N ci), w ∈ am_tb) ∧ ∀ j, j < am_N ci → parseFieldDescriptor (am_T ci j).2.2.1 = some (am_tyo ci j) ∧ (am_T ci j).2.2.2 = (am_fs ci j).2 ∧ (am_T ci j).1 = am_cn ci ∧ am_tyS (am_tyo ci j) = (am_fs ci j).1 := by
  have h1 := am_all am_v_cls0 h
  have h2 := am_all am_v_uws0 h
  have h3 := am_all am_v_tyS0 h
  simp only [Bool.and_eq_true, decide_eq_true_eq] at h1
  obtain ⟨⟨⟨e1, e2⟩, e3⟩, e4⟩ := h1
  refine ⟨?_, am_mem e3 rfl, fun w hw => ?_, fun j hj => ?_⟩
  · rw [← e1, ← e2]
    have hl : ci < vwCl.length := h
    unfold am_T am_cT
    rw [List.getD_eq_getElem?_getD, List.getElem?_eq_getElem hl]
    rfl
  · have h4 := List.all_eq_true.mp h2 w hw
    simp only [Bool.and_eq_true, decide_eq_true_eq] at h4
    exact List.mem_filter.mpr h4
  · have h5 := am_all e4 hj
    have h6 := am_all h3 hj
    simp only [Bool.and_eq_true, decide_eq_true_eq] at h5 h6
    exact ⟨h5.1.1, h5.1.2, h5.2, h6⟩
theorem am_fs_get {ci j : Nat} {f : Int → Int} (hj : j < am_N ci) : ((List.range (am_N ci)).map (fun (j : Nat) => am_cv b ad (am_ft ci j, f (j : Int))))[j]? = some (am_cv b ad (am_ft ci j, f (j : Int))) := by
  simp [hj]
theorem am_o_get {idx w : Nat} {q : Nat × Nat} {x : Int} (hF : am_F p R s m args meth c k) (hH : am_H D dA b A s ad n μ H locs) (hL : am_L b ad L cls (am_ml k)) (hLo : am_oks n L)  (hso : am_oks n ((2, x) :: st)) (hd : decode (am_by k) pc = .ok (.getfield idx, 3)) (ht : am_fls.lookup (am_cl k, idx) = some (q, w)) (hk : am_kind x = (0, q.1)) (kk : am_Kk p l e R s m args below meth c Q D dA b A k n0 ad n (pc + 3) (L) ((am_ft q.1 q.2, μ x (q.2 : Int)) :: st) (n) (μ)) : W p l e R s m args below meth c H locs (n - n0) (am_sl n - am_sl n0) Q (F0 m pc cls (((2, x) :: st).map (am_cv b ad))) := by
  obtain ⟨hx, hb, hml, hown, hts, -⟩ := hF
  obtain ⟨h8, hN, hw⟩ := am_fld ht
  obtain ⟨hc, -, hin, -⟩ := am_clsv h8
  have h0 : 0 ≤ x := am_kind_pos hk (show (0 : Nat) ≠ 9 by decide)
  have hlt : x < (n : Int) := am_oks_head hso
  have hat := am_at (dA := dA) (b := b) (ad := ad) (μ := μ) hlt h0 hk
  rw [am_c_obj] at hat
  have h1 := am_kk0 kk hH hL hLo (am_oks_cons (by have := hH.2.2.2.2.1 x.toNat (by omega) (q.2 : Int); rw [show ((x.toNat : Nat) : Int) = x by omega, hk] at this; exact this) (am_oks_tail hso))
  rw [List.map_cons, am_cv2p b ad h0]
  exact va_get hx hb hts hin hown hH.1 hH.2.1 x.toNat hat hc q.2 hN (hts _ hw) (fun _ h9 => h9) (am_fs_get hN) hd h1
theorem am_put_cell {ci j : Nat} {x y : Int} (hx : am_kind x = (0, ci)) (hj : j < am_N ci) : am_cell dA b ad (0, ci) (am_set μ x (j : Int) y x) = .inr (ci, ((List.range (am_N ci)).map (fun (j : Nat) => am_cv b ad (am_ft ci j, μ x (j : Int)))).set j (am_cv b ad (am_ft ci j, y))) := by
  rw [am_c_obj]
  congr 2
  apply List.ext_getElem?
  intro i
  rw [List.getElem?_set]
  by_cases e : j = i
  · subst e
    simp [hj, am_set]
  · rw [if_neg e]
    simp only [List.getElem?_map]
    cases h : (List.range (am_N ci))[i]? with
    | none => rfl
    | some i' =>
      have : i' = i := by
        have := List.getElem?_eq_some_iff.mp h
        obtain ⟨h1, h2⟩ := this
        rw [List.getElem_range] at h2
        exact h2.symm
      subst this
      simp only [Option.map_some]
      unfold am_set
      rw [if_neg (by omega)]
theorem am_set_ne {x y j : Int} : ∀ a : Int, a ≠ x → am_set μ x j y a = μ a := fun a ha => funext fun z => by
  unfold am_set
  rw [if_neg (fun h => ha h.1)]
theorem am_v_fs3 : (List.range 8).all (fun ci => (List.range (am_N ci)).all (fun j => decide ((am_fs ci j).1 ≤ 3))) = true := by decide +kernel
theorem am_fit {ci j : Nat} (h8 : ci < 8) (hj : j < am_N ci) {y : Int} (hb : (am_fs ci j).1 = 3 → y = 0 ∨ y = 1) : narrow (am_tyo ci j) (am_cv b ad (am_ft ci j, y)) = am_cv b ad (am_ft ci j, y) ∧ fits (am_tyo ci j) (am_cv b ad (am_ft ci j, y)) = true := by
  have h := ((am_clsv h8).2.2.2 j hj).2.2.2
  have h3 : (am_fs ci j).1 ≤ 3 := of_decide_eq_true (am_all (am_all am_v_fs3 h8) hj)
  unfold am_ft
  generalize am_tyo ci j = ty at h ⊢
  generalize (am_fs ci j).1 = t at h hb h3 ⊢
  subst h
  cases ty with
  | int => exact ⟨rfl, rfl⟩
  | long => exact ⟨rfl, rfl⟩
  | boolean =>
    rcases hb rfl with rfl | rfl
    · exact ⟨rfl, rfl⟩
    · exact ⟨rfl, rfl⟩
  | object C =>
    show narrow (.object C) (va_rf (am_rf ad y)) = va_rf (am_rf ad y) ∧ fits (.object C) (va_rf (am_rf ad y)) = true
    cases am_rf ad y <;> exact ⟨rfl, rfl⟩
  | array C =>
    show narrow (.array C) (va_rf (am_rf ad y)) = va_rf (am_rf ad y) ∧ fits (.array C) (va_rf (am_rf ad y)) = true
    cases am_rf ad y <;> exact ⟨rfl, rfl⟩
  | _ => exact absurd h3 (by decide)
theorem am_o_put {idx w : Nat} {q : Nat × Nat} {x y : Int} (hF : am_F p R s m args meth c k) (hH : am_H D dA b A s ad n μ H locs) (hL : am_L b ad L cls (am_ml k)) (hLo : am_oks n L)  (hso : am_oks n ((am_ft q.1 q.2, y) :: (2, x) :: st)) (hd : decode (am_by k) pc = .ok (.putfield idx, 3)) (ht : am_fls.lookup (am_cl k, idx) = some (q, w)) (hk : am_kind x = (0, q.1)) (hfin : (am_fs q.1 q.2).2 = true → am_kd k = 2 ∧ am_cl k = q.1) (hbo : (am_fs q.1 q.2).1 = 3 → y = 0 ∨ y = 1) (kk : am_Kk p l e R s m args below meth c Q D dA b A k n0 ad n (pc + 3) (L) (st) (n) (am_set μ x (q.2 : Int) y)) : W p l e R s m args below meth c H locs (n - n0) (am_sl n - am_sl n0) Q (F0 m pc cls (((am_ft q.1 q.2, y) :: (2, x) :: st).map (am_cv b ad))) := by
  obtain ⟨hx, hb, hml, hown, hts, hX, hfr, hlo, hini, -⟩ := hF
  obtain ⟨h8, hN, hw⟩ := am_fld ht
  obtain ⟨hc, -, hin, hty⟩ := am_clsv h8
  have h0 : 0 ≤ x := am_kind_pos hk (show (0 : Nat) ≠ 9 by decide)
  have hlt : x < (n : Int) := am_oks_head (am_oks_tail hso)
  have hat := am_at (dA := dA) (b := b) (ad := ad) (μ := μ) hlt h0 hk
  rw [am_c_obj] at hat
  have hfit := am_fit (b := b) (ad := ad) h8 hN hbo
  have hupd := am_W_upd (dA := dA) (b := b) (ad := ad) (μ := μ) (μ' := am_set μ x (q.2 : Int) y) (i := x.toNat) (n := n) (c := .inr (q.1, ((List.range (am_N q.1)).map (fun (j : Nat) => am_cv b ad (am_ft q.1 j, μ x (j : Int)))).set q.2 (am_cv b ad (am_ft q.1 q.2, y)))) (by omega) (by rw [show ((x.toNat : Nat) : Int) = x by omega]; exact am_set_ne) (by rw [show ((x.toNat : Nat) : Int) = x by omega, hk]; exact am_put_cell hk hN)
  have hG' : am_G n (am_set μ x (q.2 : Int) y) := by
    have := am_G_set (a := x.toNat) (j := (q.2 : Int)) (x := y) hH.2.2.2.2.1 (by rw [show ((x.toNat : Nat) : Int) = x by omega, hk]; exact am_oks_head hso)
    rw [show ((x.toNat : Nat) : Int) = x by omega] at this
    exact this
  have hk2 : ∀ (H1 : Heap) (locs1 : List Loc), va_P D vwCl ((am_W dA b ad n μ).set x.toNat (ad x.toNat, .inr (q.1, ((List.range (am_N q.1)).map (fun (j : Nat) => am_cv b ad (am_ft q.1 j, μ x (j : Int)))).set q.2 (am_cv b ad (am_ft q.1 q.2, y))))) H1 → va_D A ((am_W dA b ad n μ).set x.toNat (ad x.toNat, .inr (q.1, ((List.range (am_N q.1)).map (fun (j : Nat) => am_cv b ad (am_ft q.1 j, μ x (j : Int)))).set q.2 (am_cv b ad (am_ft q.1 q.2, y))))) → va_S A s.heap H1 locs1 → W p l e R s m args below meth c H1 locs1 (n - n0) (am_sl n - am_sl n0) Q (F0 m (pc + 3) cls (st.map (am_cv b ad))) := by
    intro H1 locs1 hP hD hS
    rw [hupd] at hP hD
    exact kk ad cls H1 locs1 (fun _ _ => rfl) ⟨hH.1, hP, hD, hS, hG', hH.2.2.2.2.2⟩ hL hLo (am_oks_tail (am_oks_tail hso))
  rw [List.map_cons, List.map_cons, am_cv2p b ad h0]
  cases hf : (am_fs q.1 q.2).2 with
  | false => exact va_put hx hb hts hin (am_tyo q.1) (fun j hj => (hty j hj).1) (am_v_nm0 q.1 h8) hown hH.1 hH.2.1 hH.2.2.1 hH.2.2.2.1 x.toNat hat hc q.2 hN (hts _ hw) (fun _ h9 => h9) ((hty q.2 hN).2.1.trans hf) (hty q.2 hN).1 hfit.1 hfit.2 (by simp [hN]) hd hk2
  | true =>
    obtain ⟨z1, z2⟩ := hfin hf
    exact va_putF hx hb hts hin (am_tyo q.1) (fun j hj => (hty j hj).1) (am_v_nm0 q.1 h8) hown hH.1 hH.2.1 hH.2.2.1 hH.2.2.2.1 x.toNat hat hc q.2 hN (hts _ hw) (fun _ h9 => h9) ((hty q.2 hN).2.1.trans hf) (hini z1) ((hty q.2 hN).2.2.1.trans (by rw [z2])) (hty q.2 hN).1 hfit.1 hfit.2 (by simp [hN]) hd hk2
end
end
section
section
variable {p : Program} {l : Launch} {e : Env} {R : Room} {s : State} {m : MethodId} {args : Array Value} {below : List Frame} {meth : Method} {c : Code} {Q : State → Prop} {D : va_G} {dA : Nat → ClassId} {b : Nat} {A : Nat → Prop} {k n0 : Nat} {ad : Nat → Nat} {n pc : Nat} {L st : List am_V} {μ : am_M} {cls : Array Slot} {H : Heap} {locs : List Loc} {sc : am_Sc} {pc' : Nat} {L' st' : List am_V} {n' : Nat} {μ' : am_M}
theorem am_tn {x : Int} (h : 0 ≤ x) : ((x.toNat : Nat) : Int) = x := by omega
theorem am_elem {x j : Int} {q : Nat × Nat} (hG : am_G n μ) (h0 : 0 ≤ x) (hx : x < (n : Int)) (hq : am_kind x = q) : am_ok n (am_tag q j.toNat, μ x j) := by
  have := hG x.toNat (by omega) j
  rw [am_tn h0, hq] at this
  exact this
theorem va_alda {C : FieldType} (hexec : p.tables.exec = Jvm.exec) {cc : ByteArray} (hb : c.code = cc) {cl : List vw_C} {tys : List (ClassId × FieldType)} {ws : va_W} {a : Nat} {ls : Array Slot} {rest : List Value} {cells slots : Nat} (hK : va_K D cl tys s) (hP : va_P D cl ws H) (q0 t0 : Nat) {cA : ClassId} {n : Nat} {f : Nat → Option Nat} (ha : ws[q0]? = some (a, .inl (cA, n, .inr (.inr (.inr (.inr f)))))) (ht : tys[t0]? = some (cA, .array C)) {i : Int32} (hin : vp_in i n) (hdg : decode cc pc = .ok (.aaload, 1))
    (kk : W p l e R s m args below meth c H locs cells slots Q (F0 m (pc + 1) ls (va_rf (f i.toNatClampNeg) :: rest))) : W p l e R s m args below meth c H locs cells slots Q (F0 m pc ls (.int i :: .ref a :: rest)) := by
  have hlt : i.toNatClampNeg < n := Nat.not_le.mp fun q => hin (Or.inr q)
  exact W.aald (v := va_rf (f i.toNatClampNeg)) (ty := .array C) hexec hb (hP q0 _ ha) ((hK.2 t0 _ ht).1 n (fun j => va_rf (f j))) rfl (fun q => by cases q) (by show ¬ (i < 0 ∨ (arrV _ _ _).slots.size ≤ _); rw [arrV_size]; exact hin) (by show (arrV _ _ _).slots[_]? = _; rw [arrV_read _ _ hlt]) rfl rfl hdg kk
theorem am_o_iald {x j : Int} {z : Nat} (hF : am_F p R s m args meth c k) (hH : am_H D dA b A s ad n μ H locs) (hL : am_L b ad L cls (am_ml k)) (hLo : am_oks n L)  (hso : am_oks n ((0, j) :: (2, x) :: st)) (hd : decode (am_by k) pc = .ok (.iaload, 1)) (hk : am_kind x = (1, z)) (hj0 : 0 ≤ j) (hj : j < (z : Int)) (kk : am_Kk p l e R s m args below meth c Q D dA b A k n0 ad n (pc + 1) (L) ((0, μ x j) :: st) (n) (μ)) : W p l e R s m args below meth c H locs (n - n0) (am_sl n - am_sl n0) Q (F0 m pc cls (((0, j) :: (2, x) :: st).map (am_cv b ad))) := by
  obtain ⟨hx, hb, hml, hown, hts, -⟩ := hF
  have h0 : 0 ≤ x := am_kind_pos hk (show (1 : Nat) ≠ 9 by decide)
  have hlt : x < (n : Int) := am_oks_head (am_oks_tail hso)
  have hj32 : -2147483648 ≤ j ∧ j < 2147483648 := am_oks_head hso
  have hat := am_at (dA := dA) (b := b) (ad := ad) (μ := μ) hlt h0 hk
  rw [am_c_int] at hat
  have h1 := am_kk0 kk hH hL hLo (am_oks_cons (am_elem (j := j) hH.2.2.2.2.1 h0 hlt hk) (am_oks_tail (am_oks_tail hso)))
  rw [List.map_cons, List.map_cons, am_cv2p b ad h0]
  refine va_iald hx hb hH.1 hH.2.1 x.toNat 0 hat rfl (am_in hj0 hj32.2 hj) hd ?_
  rw [am_clamp hj0 hj32.2, am_tn hj0]
  exact h1
theorem am_o_lald {x j : Int} {z : Nat} (hF : am_F p R s m args meth c k) (hH : am_H D dA b A s ad n μ H locs) (hL : am_L b ad L cls (am_ml k)) (hLo : am_oks n L)  (hso : am_oks n ((0, j) :: (2, x) :: st)) (hd : decode (am_by k) pc = .ok (.laload, 1)) (hk : am_kind x = (2, z)) (hj0 : 0 ≤ j) (hj : j < (z : Int)) (kk : am_Kk p l e R s m args below meth c Q D dA b A k n0 ad n (pc + 1) (L) ((1, μ x j) :: st) (n) (μ)) : W p l e R s m args below meth c H locs (n - n0) (am_sl n - am_sl n0) Q (F0 m pc cls (((0, j) :: (2, x) :: st).map (am_cv b ad))) := by
  obtain ⟨hx, hb, hml, hown, hts, -⟩ := hF
  have h0 : 0 ≤ x := am_kind_pos hk (show (2 : Nat) ≠ 9 by decide)
  have hlt : x < (n : Int) := am_oks_head (am_oks_tail hso)
  have hj32 : -2147483648 ≤ j ∧ j < 2147483648 := am_oks_head hso
  have hat := am_at (dA := dA) (b := b) (ad := ad) (μ := μ) hlt h0 hk
  rw [am_c_long] at hat
  have h1 := am_kk0 kk hH hL hLo (am_oks_cons (am_elem (j := j) hH.2.2.2.2.1 h0 hlt hk) (am_oks_tail (am_oks_tail hso)))
  rw [List.map_cons, List.map_cons, am_cv2p b ad h0]
  refine va_lald hx hb hH.1 hH.2.1 x.toNat 1 hat rfl (am_in hj0 hj32.2 hj) hd ?_
  rw [am_clamp hj0 hj32.2, am_tn hj0]
  exact h1
theorem am_o_aald {x j : Int} {z : Nat} (hF : am_F p R s m args meth c k) (hH : am_H D dA b A s ad n μ H locs) (hL : am_L b ad L cls (am_ml k)) (hLo : am_oks n L)  (hso : am_oks n ((0, j) :: (2, x) :: st)) (hd : decode (am_by k) pc = .ok (.aaload, 1)) (hk : am_kind x = (3, z)) (hj0 : 0 ≤ j) (hj : j < (z : Int)) (kk : am_Kk p l e R s m args below meth c Q D dA b A k n0 ad n (pc + 1) (L) ((2, μ x j) :: st) (n) (μ)) : W p l e R s m args below meth c H locs (n - n0) (am_sl n - am_sl n0) Q (F0 m pc cls (((0, j) :: (2, x) :: st).map (am_cv b ad))) := by
  obtain ⟨hx, hb, hml, hown, hts, -⟩ := hF
  have h0 : 0 ≤ x := am_kind_pos hk (show (3 : Nat) ≠ 9 by decide)
  have hlt : x < (n : Int) := am_oks_head (am_oks_tail hso)
  have hj32 : -2147483648 ≤ j ∧ j < 2147483648 := am_oks_head hso
  have hat := am_at (dA := dA) (b := b) (ad := ad) (μ := μ) hlt h0 hk
  rw [am_c_note] at hat
  have h1 := am_kk0 kk hH hL hLo (am_oks_cons (am_elem (j := j) hH.2.2.2.2.1 h0 hlt hk) (am_oks_tail (am_oks_tail hso)))
  rw [List.map_cons, List.map_cons, am_cv2p b ad h0]
  refine va_aldq hx hb hH.1 hH.2.1 x.toNat 2 hat rfl (am_in hj0 hj32.2 hj) hd ?_
  rw [am_clamp hj0 hj32.2, am_tn hj0]
  exact h1
theorem am_o_ald4 {x j : Int} {z : Nat} (hF : am_F p R s m args meth c k) (hH : am_H D dA b A s ad n μ H locs) (hL : am_L b ad L cls (am_ml k)) (hLo : am_oks n L)  (hso : am_oks n ((0, j) :: (2, x) :: st)) (hd : decode (am_by k) pc = .ok (.aaload, 1)) (hk : am_kind x = (4, z)) (hj0 : 0 ≤ j) (hj : j < (z : Int)) (kk : am_Kk p l e R s m args below meth c Q D dA b A k n0 ad n (pc + 1) (L) ((2, μ x j) :: st) (n) (μ)) : W p l e R s m args below meth c H locs (n - n0) (am_sl n - am_sl n0) Q (F0 m pc cls (((0, j) :: (2, x) :: st).map (am_cv b ad))) := by
  obtain ⟨hx, hb, hml, hown, hts, -⟩ := hF
  have h0 : 0 ≤ x := am_kind_pos hk (show (4 : Nat) ≠ 9 by decide)
  have hlt : x < (n : Int) := am_oks_head (am_oks_tail hso)
  have hj32 : -2147483648 ≤ j ∧ j < 2147483648 := am_oks_head hso
  have hat := am_at (dA := dA) (b := b) (ad := ad) (μ := μ) hlt h0 hk
  rw [am_c_ii] at hat
  have h1 := am_kk0 kk hH hL hLo (am_oks_cons (am_elem (j := j) hH.2.2.2.2.1 h0 hlt hk) (am_oks_tail (am_oks_tail hso)))
  rw [List.map_cons, List.map_cons, am_cv2p b ad h0]
  refine va_alda hx hb hH.1 hH.2.1 x.toNat 3 hat rfl (am_in hj0 hj32.2 hj) hd ?_
  rw [am_clamp hj0 hj32.2, am_tn hj0]
  exact h1
theorem am_o_iast {x j y : Int} {z : Nat} (hF : am_F p R s m args meth c k) (hH : am_H D dA b A s ad n μ H locs) (hL : am_L b ad L cls (am_ml k)) (hLo : am_oks n L)  (hso : am_oks n ((0, y) :: (0, j) :: (2, x) :: st)) (hd : decode (am_by k) pc = .ok (.iastore, 1)) (hk : am_kind x = (1, z)) (hj0 : 0 ≤ j) (hj : j < (z : Int)) (kk : am_Kk p l e R s m args below meth c Q D dA b A k n0 ad n (pc + 1) (L) (st) (n) (am_set μ x j y)) : W p l e R s m args below meth c H locs (n - n0) (am_sl n - am_sl n0) Q (F0 m pc cls (((0, y) :: (0, j) :: (2, x) :: st).map (am_cv b ad))) := by
  obtain ⟨hx, hb, hml, hown, hts, -⟩ := hF
  have h0 : 0 ≤ x := am_kind_pos hk (show (1 : Nat) ≠ 9 by decide)
  have hlt : x < (n : Int) := am_oks_head (am_oks_tail (am_oks_tail hso))
  have hj32 : -2147483648 ≤ j ∧ j < 2147483648 := am_oks_head (am_oks_tail hso)
  have hat := am_at (dA := dA) (b := b) (ad := ad) (μ := μ) hlt h0 hk
  rw [am_c_int] at hat
  have hupd := am_W_upd (dA := dA) (b := b) (ad := ad) (μ := μ) (μ' := am_set μ x j y) (i := x.toNat) (n := n) (c := .inl (dA 0, z, .inl (upd (fun i => Int32.ofInt (μ x (i : Int))) j.toNat (Int32.ofInt (y))))) (by omega) (by rw [am_tn h0]; exact am_set_ne) (by
    rw [am_tn h0, hk, am_c_int]
    have e : (fun i : Nat => Int32.ofInt (am_set μ x j y x (i : Int))) = upd (fun i => Int32.ofInt (μ x (i : Int))) j.toNat (Int32.ofInt (y)) := funext fun i => by
      unfold upd am_set
      by_cases e : i = j.toNat
      · subst e
        rw [am_tn hj0]
        simp
      · rw [if_neg e, if_neg (by omega)]
    rw [e])
  have hG' : am_G n (am_set μ x j y) := by
    have := am_G_set (a := x.toNat) (j := j) (x := y) hH.2.2.2.2.1 (by rw [am_tn h0, hk]; exact am_oks_head hso)
    rw [am_tn h0] at this
    exact this
  rw [List.map_cons, List.map_cons, List.map_cons, am_cv2p b ad h0]
  refine va_iast hx hb hH.1 hH.2.1 hH.2.2.1 hH.2.2.2.1 x.toNat 0 hat rfl (am_in hj0 hj32.2 hj) hd (fun H1 locs1 hP hD hS => ?_)
  rw [am_clamp hj0 hj32.2, hupd] at hP hD
  exact kk ad cls H1 locs1 (fun _ _ => rfl) ⟨hH.1, hP, hD, hS, hG', hH.2.2.2.2.2⟩ hL hLo (am_oks_tail (am_oks_tail (am_oks_tail hso)))
theorem am_o_last {x j y : Int} {z : Nat} (hF : am_F p R s m args meth c k) (hH : am_H D dA b A s ad n μ H locs) (hL : am_L b ad L cls (am_ml k)) (hLo : am_oks n L)  (hso : am_oks n ((1, y) :: (0, j) :: (2, x) :: st)) (hd : decode (am_by k) pc = .ok (.lastore, 1)) (hk : am_kind x = (2, z)) (hj0 : 0 ≤ j) (hj : j < (z : Int)) (kk : am_Kk p l e R s m args below meth c Q D dA b A k n0 ad n (pc + 1) (L) (st) (n) (am_set μ x j y)) : W p l e R s m args below meth c H locs (n - n0) (am_sl n - am_sl n0) Q (F0 m pc cls (((1, y) :: (0, j) :: (2, x) :: st).map (am_cv b ad))) := by
  obtain ⟨hx, hb, hml, hown, hts, -⟩ := hF
  have h0 : 0 ≤ x := am_kind_pos hk (show (2 : Nat) ≠ 9 by decide)
  have hlt : x < (n : Int) := am_oks_head (am_oks_tail (am_oks_tail hso))
  have hj32 : -2147483648 ≤ j ∧ j < 2147483648 := am_oks_head (am_oks_tail hso)
  have hat := am_at (dA := dA) (b := b) (ad := ad) (μ := μ) hlt h0 hk
  rw [am_c_long] at hat
  have hupd := am_W_upd (dA := dA) (b := b) (ad := ad) (μ := μ) (μ' := am_set μ x j y) (i := x.toNat) (n := n) (c := .inl (dA 1, z, .inr (.inl (vp_updL (fun i => Int64.ofInt (μ x (i : Int))) j.toNat (Int64.ofInt (y)))))) (by omega) (by rw [am_tn h0]; exact am_set_ne) (by
    rw [am_tn h0, hk, am_c_long]
    have e : (fun i : Nat => Int64.ofInt (am_set μ x j y x (i : Int))) = vp_updL (fun i => Int64.ofInt (μ x (i : Int))) j.toNat (Int64.ofInt (y)) := funext fun i => by
      unfold vp_updL am_set
      by_cases e : i = j.toNat
      · subst e
        rw [am_tn hj0]
        simp
      · rw [if_neg e, if_neg (by omega)]
    rw [e])
  have hG' : am_G n (am_set μ x j y) := by
    have := am_G_set (a := x.toNat) (j := j) (x := y) hH.2.2.2.2.1 (by rw [am_tn h0, hk]; exact am_oks_head hso)
    rw [am_tn h0] at this
    exact this
  rw [List.map_cons, List.map_cons, List.map_cons, am_cv2p b ad h0]
  refine va_last hx hb hH.1 hH.2.1 hH.2.2.1 hH.2.2.2.1 x.toNat 1 hat rfl (am_in hj0 hj32.2 hj) hd (fun H1 locs1 hP hD hS => ?_)
  rw [am_clamp hj0 hj32.2, hupd] at hP hD
  exact kk ad cls H1 locs1 (fun _ _ => rfl) ⟨hH.1, hP, hD, hS, hG', hH.2.2.2.2.2⟩ hL hLo (am_oks_tail (am_oks_tail (am_oks_tail hso)))
theorem am_o_aast {x j y : Int} {z : Nat} (hF : am_F p R s m args meth c k) (hH : am_H D dA b A s ad n μ H locs) (hL : am_L b ad L cls (am_ml k)) (hLo : am_oks n L)  (hso : am_oks n ((2, y) :: (0, j) :: (2, x) :: st)) (hd : decode (am_by k) pc = .ok (.aastore, 1)) (hk : am_kind x = (3, z)) (hy : am_kind y = (0, 3)) (hj0 : 0 ≤ j) (hj : j < (z : Int)) (kk : am_Kk p l e R s m args below meth c Q D dA b A k n0 ad n (pc + 1) (L) (st) (n) (am_set μ x j y)) : W p l e R s m args below meth c H locs (n - n0) (am_sl n - am_sl n0) Q (F0 m pc cls (((2, y) :: (0, j) :: (2, x) :: st).map (am_cv b ad))) := by
  obtain ⟨hx, hb, hml, hown, hts, -⟩ := hF
  have h0 : 0 ≤ x := am_kind_pos hk (show (3 : Nat) ≠ 9 by decide)
  have hy0 : 0 ≤ y := am_kind_pos hy (show (0 : Nat) ≠ 9 by decide)
  have hlt : x < (n : Int) := am_oks_head (am_oks_tail (am_oks_tail hso))
  have hylt : y < (n : Int) := am_oks_head hso
  have hj32 : -2147483648 ≤ j ∧ j < 2147483648 := am_oks_head (am_oks_tail hso)
  have hat := am_at (dA := dA) (b := b) (ad := ad) (μ := μ) hlt h0 hk
  have hyt := am_at (dA := dA) (b := b) (ad := ad) (μ := μ) hylt hy0 hy
  rw [am_c_note] at hat
  rw [am_c_obj] at hyt
  have hupd := am_W_upd (dA := dA) (b := b) (ad := ad) (μ := μ) (μ' := am_set μ x j y) (i := x.toNat) (n := n) (c := .inl (dA 2, z, .inr (.inr (.inr (.inr (va_up (fun i => am_rf ad (μ x (i : Int))) j.toNat (some (ad y.toNat)))))))) (by omega) (by rw [am_tn h0]; exact am_set_ne) (by
    rw [am_tn h0, hk, am_c_note]
    have e : (fun i : Nat => am_rf ad (am_set μ x j y x (i : Int))) = va_up (fun i => am_rf ad (μ x (i : Int))) j.toNat (some (ad y.toNat)) := funext fun i => by
      unfold va_up am_set
      by_cases e : i = j.toNat
      · subst e
        rw [am_tn hj0]
        simp only [and_self, if_true]
        unfold am_rf
        rw [if_neg (by omega)]
      · rw [if_neg e, if_neg (by omega)]
    rw [e])
  have hG' : am_G n (am_set μ x j y) := by
    have := am_G_set (a := x.toNat) (j := j) (x := y) hH.2.2.2.2.1 (by rw [am_tn h0, hk]; exact am_oks_head hso)
    rw [am_tn h0] at this
    exact this
  rw [List.map_cons, List.map_cons, List.map_cons, am_cv2p b ad h0, am_cv2p b ad hy0]
  refine va_astq hx hb hH.1 hH.2.1 hH.2.2.1 hH.2.2.2.1 x.toNat 2 y.toNat 3 hat rfl hyt (show vwCl[3]? = some (RX3, TX3, 16) from rfl) (am_in hj0 hj32.2 hj) hd (fun H1 locs1 hP hD hS => ?_)
  rw [am_clamp hj0 hj32.2, hupd] at hP hD
  exact kk ad cls H1 locs1 (fun _ _ => rfl) ⟨hH.1, hP, hD, hS, hG', hH.2.2.2.2.2⟩ hL hLo (am_oks_tail (am_oks_tail (am_oks_tail hso)))
theorem am_o_alen {x : Int} {q : Nat × Nat} (hF : am_F p R s m args meth c k) (hH : am_H D dA b A s ad n μ H locs) (hL : am_L b ad L cls (am_ml k)) (hLo : am_oks n L)  (hso : am_oks n ((2, x) :: st)) (hd : decode (am_by k) pc = .ok (.arraylength, 1)) (hk : am_kind x = q) (hq : q.1 ∈ [1, 2, 3, 4]) (hz : q.2 < 2147483648) (kk : am_Kk p l e R s m args below meth c Q D dA b A k n0 ad n (pc + 1) (L) ((0, (q.2 : Int)) :: st) (n) (μ)) : W p l e R s m args below meth c H locs (n - n0) (am_sl n - am_sl n0) Q (F0 m pc cls (((2, x) :: st).map (am_cv b ad))) := by
  obtain ⟨hx, hb, hml, hown, hts, -⟩ := hF
  obtain ⟨q1, z⟩ := q
  have h0 : 0 ≤ x := am_kind_pos hk (by intro e; dsimp only at e; rw [e] at hq; simp at hq)
  have hlt : x < (n : Int) := am_oks_head hso
  have hat := am_at (dA := dA) (b := b) (ad := ad) (μ := μ) hlt h0 hk
  have h1 := am_kk0 kk hH hL hLo (am_oks_cons ⟨by show _ ≤ (z : Int); omega, by show (z : Int) < _; dsimp only at hz; omega⟩ (am_oks_tail hso))
  rw [List.map_cons, am_cv2p b ad h0]
  have hv : Int32.ofNat z = Int32.ofInt (z : Int) := by first | rfl | exact (Int32.ofInt_eq_ofNat).symm | simp
  match q1, hq, hat with
  | 1, _, hat => rw [am_c_int] at hat; exact va_alen hx hb hH.1 hH.2.1 x.toNat 0 hat rfl hv hd h1
  | 2, _, hat => rw [am_c_long] at hat; exact va_alen hx hb hH.1 hH.2.1 x.toNat 1 hat rfl hv hd h1
  | 3, _, hat => rw [am_c_note] at hat; exact va_alen hx hb hH.1 hH.2.1 x.toNat 2 hat rfl hv hd h1
  | 4, _, hat => rw [am_c_ii] at hat; exact va_alen hx hb hH.1 hH.2.1 x.toNat 3 hat rfl hv hd h1
  | 0, h, _ => simp at h
  | _ + 5, h, _ => simp at h
theorem am_o_sld {x j ln : Int} {xs : Int → Int} (hF : am_F p R s m args meth c k) (hH : am_H D dA b A s ad n μ H locs) (hL : am_L b ad L cls (am_ml k)) (hLo : am_oks n L)  (hsc : am_Scr sc b A s) (hs : sc = some (ln, xs)) (hso : am_oks n ((0, j) :: (3, x) :: st)) (hd : decode (am_by k) pc = .ok (.iaload, 1)) (hj0 : 0 ≤ j) (hj : j < ln) (kk : am_Kk p l e R s m args below meth c Q D dA b A k n0 ad n (pc + 1) (L) ((0, xs j) :: st) (n) (μ)) : W p l e R s m args below meth c H locs (n - n0) (am_sl n - am_sl n0) Q (F0 m pc cls (((0, j) :: (3, x) :: st).map (am_cv b ad))) := by
  obtain ⟨hx, hb, hml, hown, hts, -⟩ := hF
  obtain ⟨N, e1, e2, hX, hbl, hbA, hok⟩ := hsc ln xs hs
  have hj32 : -2147483648 ≤ j ∧ j < 2147483648 := am_oks_head hso
  have h1 := am_kk0 kk hH hL hLo (am_oks_cons (hok j) (am_oks_tail (am_oks_tail hso)))
  refine va_sld hx hb hX hbl hbA hH.2.2.2.1 (am_in hj0 hj32.2 (by omega)) hd ?_
  rw [am_clamp hj0 hj32.2, am_tn hj0]
  exact h1
theorem am_o_slen {x ln : Int} {xs : Int → Int} (hF : am_F p R s m args meth c k) (hH : am_H D dA b A s ad n μ H locs) (hL : am_L b ad L cls (am_ml k)) (hLo : am_oks n L)  (hsc : am_Scr sc b A s) (hs : sc = some (ln, xs)) (hso : am_oks n ((3, x) :: st)) (hd : decode (am_by k) pc = .ok (.arraylength, 1)) (kk : am_Kk p l e R s m args below meth c Q D dA b A k n0 ad n (pc + 1) (L) ((0, ln) :: st) (n) (μ)) : W p l e R s m args below meth c H locs (n - n0) (am_sl n - am_sl n0) Q (F0 m pc cls (((3, x) :: st).map (am_cv b ad))) := by
  obtain ⟨hx, hb, hml, hown, hts, -⟩ := hF
  obtain ⟨N, e1, e2, hX, hbl, hbA, hok⟩ := hsc ln xs hs
  have h1 := am_kk0 kk hH hL hLo (am_oks_cons ⟨by show _ ≤ ln; omega, by show ln < _; omega⟩ (am_oks_tail hso))
  refine va_slen hx hb hX hbl hbA hH.2.2.2.1 hd ?_
  rw [List.map_cons, am_cv0, e1] at h1
  have hv : Int32.ofNat N = Int32.ofInt (N : Int) := by first | rfl | exact (Int32.ofInt_eq_ofNat).symm | simp
  rw [hv]
  exact h1
theorem am_kind_lt0 : (List.range 66).all (fun i => decide ((am_kindN i).2 < 2147483648)) = true := by decide +kernel
theorem am_kind_lt20 : (List.range 66).all (fun i => decide ((am_kindN i).2 ≤ 10025)) = true := by decide +kernel
theorem am_kind_lt2 (x : Int) : (am_kind x).2 ≤ 10025 := by
  unfold am_kind
  split
  · decide
  · by_cases h : x.toNat < 66
    · exact of_decide_eq_true (am_all am_kind_lt20 h)
    · unfold am_kindN
      rw [if_neg h]
      split <;> decide
theorem am_kind_lt (x : Int) : (am_kind x).2 < 2147483648 := by
  unfold am_kind
  split
  · decide
  · by_cases h : x.toNat < 66
    · exact of_decide_eq_true (am_all am_kind_lt0 h)
    · unfold am_kindN
      rw [if_neg h]
      split <;> decide
end
end
section
section
variable {p : Program} {l : Launch} {e : Env} {R : Room} {s : State} {m : MethodId} {args : Array Value} {below : List Frame} {meth : Method} {c : Code} {Q : State → Prop} {D : va_G} {dA : Nat → ClassId} {b : Nat} {A : Nat → Prop} {k n0 : Nat} {ad : Nat → Nat} {n pc : Nat} {L st : List am_V} {μ : am_M} {cls : Array Slot} {H : Heap} {locs : List Loc} {sc : am_Sc} {pc' : Nat} {L' st' : List am_V} {n' : Nat} {μ' : am_M}
theorem am_alloc {q N' : Nat} {cE : va_E} {f : Int → Int} {H1 : Heap} (hH : am_H D dA b A s ad n μ H locs) (hL : am_L b ad L cls (am_ml k)) (hLo : am_oks n L) (hso : am_oks n st) (hn0 : n0 ≤ n) (hlen : am_len (am_kind (n : Int)) = N') (hf : ∀ j : Int, am_ok (n + 1) (am_tag (am_kind (n : Int)) j.toNat, f j)) (hcell : ∀ ad' : Nat → Nat, (∀ i, i < n → ad' i = ad i) → ad' n = q → am_cell dA b ad' (am_kind (n : Int)) f = cE)
    (hP : va_P D vwCl (am_W dA b ad n μ ++ [(q, cE)]) H1) (hD : va_D A (am_W dA b ad n μ ++ [(q, cE)])) (hS : va_S A s.heap H1 locs)
    (kk : am_Kk p l e R s m args below meth c Q D dA b A k n0 ad n pc' L ((2, (n : Int)) :: st) (n + 1) (am_new μ (n : Int) f)) : W p l e R s m args below meth c H1 locs (n - n0 + 1) (am_sl n - am_sl n0 + N') Q (F0 m pc' cls (.ref q :: st.map (am_cv b ad))) := by
  let ad' : Nat → Nat := fun i => if i = n then q else ad i
  have ha : ∀ i, i < n → ad' i = ad i := fun i hi => if_neg (by omega)
  have hq : ad' n = q := if_pos rfl
  have hW := am_W_push (dA := dA) (b := b) (ad := ad) (ad' := ad') (μ := μ) (μ' := am_new μ (n : Int) f) (q := q) (c := cE) hH.2.2.2.2.1 ha (fun a h => by unfold am_new; funext z; rw [if_neg (by omega)]) hq (by
    rw [← hcell ad' ha hq]
    congr 1
    funext z
    unfold am_new
    rw [if_pos rfl])
  rw [hW] at hP hD
  have h1 := kk ad' cls H1 locs ha ⟨hH.1, hP, hD, hS, am_G_new hH.2.2.2.2.1 hf, hH.2.2.2.2.2⟩ (am_L_congr ha hLo hL) (am_oks_mono (Nat.le_succ n) hLo) (am_oks_cons (show ((n : Int)) < ((n + 1 : Nat) : Int) by omega) (am_oks_mono (Nat.le_succ n) hso))
  rw [List.map_cons, am_cvs_congr ha hso, am_cv2p b ad' (by omega), Int.toNat_natCast, hq] at h1
  refine W.cs (by omega) ?_ h1
  have := am_sl_mono hn0
  show am_sl n - am_sl n0 + N' = am_sl n + am_len (am_kind (n : Int)) - am_sl n0
  omega
theorem am_dA {t : Nat} {ty : FieldType} {cA cB : ClassId} (hK : va_K D vwCl (am_tys dA) s) (ht : (am_tys dA)[t]? = some (cB, ty)) (hK2 : va_K D vwCl (am_tys dA ++ [(cA, ty)]) s) (hp : va_RA s cA ty → va_RA s cB ty → cA = cB) : cA = cB := by
  exact hp (hK2.2 4 (cA, ty) rfl).2 (hK.2 t (cB, ty) ht).2
theorem am_o_newi {x : Int} {ty : ArrayType} (hF : am_F p R s m args meth c k) (hH : am_H D dA b A s ad n μ H locs) (hL : am_L b ad L cls (am_ml k)) (hLo : am_oks n L)  (hso : am_oks n ((0, x) :: st)) (hd : decode (am_by k) pc = .ok (.newarray ty, 2)) (hty : newarray.typeOf ty = .int) (hx0 : 0 ≤ x) (hk : am_kind (n : Int) = (1, x.toNat)) (hn0 : n0 ≤ n) (hc : n + 1 - n0 ≤ R.cells) (hs : am_sl (n + 1) - am_sl n0 ≤ R.slots) (kk : am_Kk p l e R s m args below meth c Q D dA b A k n0 ad n (pc + 2) (L) ((2, (n : Int)) :: st) (n + 1) (am_new μ (n : Int) (fun _ => 0))) : W p l e R s m args below meth c H locs (n - n0) (am_sl n - am_sl n0) Q (F0 m pc cls (((0, x) :: st).map (am_cv b ad))) := by
  obtain ⟨hx, hb, hml, hown, hts, -⟩ := hF
  have hx32 : -2147483648 ≤ x ∧ x < 2147483648 := am_oks_head hso
  have hl : am_len (am_kind (n : Int)) = x.toNat := by rw [hk]; rfl
  have hsl : am_sl (n + 1) = am_sl n + x.toNat := by show am_sl n + am_len (am_kind (n : Int)) = _; rw [hl]
  have hz := am_kind_lt (n : Int)
  rw [hk] at hz
  have hm := am_sl_mono hn0
  have hsm : x.toNat ≤ 10025 := by
    have := am_kind_lt2 (n : Int)
    rw [hk] at this
    exact this
  refine va_newa (N' := x.toNat) (a0 := (x.toNat, .inl (fun _ => Int32.ofInt 0))) hx hb (ty := .int) (by rw [hty]; exact hts _ (am_mem am_v_arr.1 rfl)) hty hH.1 hH.2.1 hH.2.2.1 hH.2.2.2.1 hH.2.2.2.2.2 (fun _ => rfl) (by rw [← Int32.not_le, Decidable.not_not]; exact (am_le32 (by decide) hx32).mpr hx0) (am_clamp hx0 hx32.2) (by show x.toNat * 4 ≤ _; omega) (by omega) (by omega) hd (fun q cA H1 hK2 hP hD hS => ?_)
  have e : cA = dA 0 := am_dA (t := 0) hH.1 rfl hK2 (fun h1 h2 => Option.some.inj (h1.symm.trans h2))
  subst e
  exact am_alloc hH hL hLo (am_oks_tail hso) hn0 hl (fun j => by rw [hk]; exact ⟨by show _ ≤ (0 : Int); decide, by show (0 : Int) < _; decide⟩) (fun ad' _ _ => by rw [hk]; rfl) hP hD hS kk
theorem am_o_newl {x : Int} {ty : ArrayType} (hF : am_F p R s m args meth c k) (hH : am_H D dA b A s ad n μ H locs) (hL : am_L b ad L cls (am_ml k)) (hLo : am_oks n L)  (hso : am_oks n ((0, x) :: st)) (hd : decode (am_by k) pc = .ok (.newarray ty, 2)) (hty : newarray.typeOf ty = .long) (hx0 : 0 ≤ x) (hk : am_kind (n : Int) = (2, x.toNat)) (hn0 : n0 ≤ n) (hc : n + 1 - n0 ≤ R.cells) (hs : am_sl (n + 1) - am_sl n0 ≤ R.slots) (kk : am_Kk p l e R s m args below meth c Q D dA b A k n0 ad n (pc + 2) (L) ((2, (n : Int)) :: st) (n + 1) (am_new μ (n : Int) (fun _ => 0))) : W p l e R s m args below meth c H locs (n - n0) (am_sl n - am_sl n0) Q (F0 m pc cls (((0, x) :: st).map (am_cv b ad))) := by
  obtain ⟨hx, hb, hml, hown, hts, -⟩ := hF
  have hx32 : -2147483648 ≤ x ∧ x < 2147483648 := am_oks_head hso
  have hl : am_len (am_kind (n : Int)) = x.toNat := by rw [hk]; rfl
  have hsl : am_sl (n + 1) = am_sl n + x.toNat := by show am_sl n + am_len (am_kind (n : Int)) = _; rw [hl]
  have hm := am_sl_mono hn0
  have hsm : x.toNat ≤ 10025 := by
    have := am_kind_lt2 (n : Int)
    rw [hk] at this
    exact this
  refine va_newa (N' := x.toNat) (a0 := (x.toNat, .inr (.inl (fun _ => Int64.ofInt 0)))) hx hb (ty := .long) (by rw [hty]; exact hts _ (am_mem am_v_arr.2.1 rfl)) hty hH.1 hH.2.1 hH.2.2.1 hH.2.2.2.1 hH.2.2.2.2.2 (fun _ => rfl) (by rw [← Int32.not_le, Decidable.not_not]; exact (am_le32 (by decide) hx32).mpr hx0) (am_clamp hx0 hx32.2) (by show x.toNat * 8 ≤ _; omega) (by omega) (by omega) hd (fun q cA H1 hK2 hP hD hS => ?_)
  have e : cA = dA 1 := am_dA (t := 1) hH.1 rfl hK2 (fun h1 h2 => Option.some.inj (h1.symm.trans h2))
  subst e
  exact am_alloc hH hL hLo (am_oks_tail hso) hn0 hl (fun j => by rw [hk]; exact ⟨by show _ ≤ (0 : Int); decide, by show (0 : Int) < _; decide⟩) (fun ad' _ _ => by rw [hk]; rfl) hP hD hS kk
theorem am_o_newn {x : Int} {idx : Nat} (hF : am_F p R s m args meth c k) (hH : am_H D dA b A s ad n μ H locs) (hL : am_L b ad L cls (am_ml k)) (hLo : am_oks n L)  (hso : am_oks n ((0, x) :: st)) (hd : decode (am_by k) pc = .ok (.anewarray idx, 3)) (ht : (am_nls.lookup (am_cl k, idx)).map (fun q => q.1) = some 100) (hx0 : 0 ≤ x) (hk : am_kind (n : Int) = (3, x.toNat)) (hn0 : n0 ≤ n) (hc : n + 1 - n0 ≤ R.cells) (hs : am_sl (n + 1) - am_sl n0 ≤ R.slots) (kk : am_Kk p l e R s m args below meth c Q D dA b A k n0 ad n (pc + 3) (L) ((2, (n : Int)) :: st) (n + 1) (am_new μ (n : Int) (fun _ => -1))) : W p l e R s m args below meth c H locs (n - n0) (am_sl n - am_sl n0) Q (F0 m pc cls (((0, x) :: st).map (am_cv b ad))) := by
  obtain ⟨hx, hb, hml, hown, hts, hXs, -⟩ := hF
  have hx32 : -2147483648 ≤ x ∧ x < 2147483648 := am_oks_head hso
  have hl : am_len (am_kind (n : Int)) = x.toNat := by rw [hk]; rfl
  have hsl : am_sl (n + 1) = am_sl n + x.toNat := by show am_sl n + am_len (am_kind (n : Int)) = _; rw [hl]
  have hm := am_sl_mono hn0
  have hsm : x.toNat ≤ 10025 := by
    have := am_kind_lt2 (n : Int)
    rw [hk] at this
    exact this
  obtain ⟨⟨q1, q2⟩, h1, h2⟩ := Option.map_eq_some_iff.mp ht
  dsimp only at h2
  subst h2
  have hw := of_decide_eq_true (List.all_eq_true.mp am_v_nls0 _ (am_lookup h1))
  refine va_newq (N' := x.toNat) hx hb hown (C := RX3) (hts _ (am_mem hw rfl)) hXs.1 hH.1 hH.2.1 hH.2.2.1 hH.2.2.2.1 hH.2.2.2.2.2 (by rw [← Int32.not_le, Decidable.not_not]; exact (am_le32 (by decide) hx32).mpr hx0) (am_clamp hx0 hx32.2) (by omega) (by omega) (by omega) hd (fun q cA H1 hK2 hP hD hS => ?_)
  have e : cA = dA 2 := am_dA (t := 2) hH.1 rfl hK2 (fun h1 h2 => by
    obtain ⟨-, -, -, -, -, h3⟩ := h1
    obtain ⟨-, -, -, -, -, h4⟩ := h2
    exact Option.some.inj (h3.symm.trans h4))
  subst e
  exact am_alloc hH hL hLo (am_oks_tail hso) hn0 hl (fun j => by rw [hk]; show (-1 : Int) < _; omega) (fun ad' _ _ => by rw [hk]; rfl) hP hD hS kk
theorem am_o_mna {x y : Int} {idx : Nat} (hF : am_F p R s m args meth c k) (hH : am_H D dA b A s ad n μ H locs) (hL : am_L b ad L cls (am_ml k)) (hLo : am_oks n L)  (hso : am_oks n ((0, x) :: (0, y) :: st)) (hd : decode (am_by k) pc = .ok (.multianewarray idx 2, 4)) (ht : (am_nls.lookup (am_cl k, idx)).map (fun q => q.1) = some 101) (hy : y = 2) (hx0 : 0 ≤ x) (hk : am_kind (n : Int) = (4, 2)) (hk1 : am_kind ((n : Int) + 1) = (1, x.toNat)) (hk2 : am_kind ((n : Int) + 2) = (1, x.toNat)) (hn0 : n0 ≤ n) (hc : n + 3 - n0 ≤ R.cells) (hs : am_sl (n + 3) - am_sl n0 ≤ R.slots) (kk : am_Kk p l e R s m args below meth c Q D dA b A k n0 ad n (pc + 4) (L) ((2, (n : Int)) :: st) (n + 3) (am_new (am_new (am_new μ n (fun j => if j = 0 then n + 1 else if j = 1 then n + 2 else -1)) (n + 1) (fun _ => 0)) (n + 2) (fun _ => 0))) : W p l e R s m args below meth c H locs (n - n0) (am_sl n - am_sl n0) Q (F0 m pc cls (((0, x) :: (0, y) :: st).map (am_cv b ad))) := by
  obtain ⟨hx, hb, hml, hown, hts, hXs, -⟩ := hF
  subst hy
  have hx32 : -2147483648 ≤ x ∧ x < 2147483648 := am_oks_head hso
  have hsl : am_sl (n + 3) = am_sl n + 2 + x.toNat + x.toNat := by
    show am_sl n + am_len (am_kind (n : Int)) + am_len (am_kind ((n + 1 : Nat) : Int)) + am_len (am_kind ((n + 2 : Nat) : Int)) = _
    rw [hk, show ((n + 1 : Nat) : Int) = (n : Int) + 1 by omega, show ((n + 2 : Nat) : Int) = (n : Int) + 2 by omega, hk1, hk2]
    rfl
  have hm := am_sl_mono hn0
  have hsm : x.toNat ≤ 10025 := by
    have := am_kind_lt2 ((n : Int) + 1)
    rw [hk1] at this
    exact this
  obtain ⟨⟨q1, q2⟩, h1, h2⟩ := Option.map_eq_some_iff.mp ht
  dsimp only at h2
  subst h2
  have hw := of_decide_eq_true (List.all_eq_true.mp am_v_nls0 _ (am_lookup h1))
  have hcy : s.vm.findClass (FieldType.array .int).toString = some (dA 0) := (hH.1.2 0 (dA 0, .int) rfl).2
  refine va_mna (X := am_W dA b ad n μ) (L := []) (f := fun _ => .inr (0, [])) (ty := .int) (cy := dA 0) (N' := 2) (K' := x.toNat) (z := (x.toNat, .inl (fun _ => Int32.ofInt 0))) hx hb hown (hts _ (am_mem hw rfl)) hXs.2.1 (hts _ (am_mem am_v_arr.1 rfl)) hcy hH.1 (by show va_P D vwCl (am_W dA b ad n μ ++ []) H; rw [List.append_nil]; exact hH.2.1) (by show va_D A (am_W dA b ad n μ ++ []); rw [List.append_nil]; exact hH.2.2.1) hH.2.2.2.1 hH.2.2.2.2.2 (by show ¬ Int32.ofInt 2 < 0; decide) (by rw [← Int32.not_le, Decidable.not_not]; exact (am_le32 (by decide) hx32).mpr hx0) (by rfl) (am_clamp hx0 hx32.2) (by decide) (by show x.toNat * 4 ≤ _; omega) (by omega) rfl rfl (by omega) (by omega) (fun c => ?_) hd (fun q r cA H1 hinj _ hK2 hP hD hS => ?_)
  · show ({ cls := c, slots := Array.replicate x.toNat (Value.int 0), vm := .none } : Cell) = _
    rw [arrV_new]
    rfl
  have e : cA = dA 3 := am_dA (t := 3) hH.1 rfl hK2 (fun h1 h2 => Option.some.inj (h1.symm.trans h2))
  subst e
  have hpl : va_pl ([] ++ (List.range 2).map r) (vr_up (fun _ => .inr (0, [])) ((List.range 2).map r) (.inl (dA 0, x.toNat, .inl (fun _ => Int32.ofInt 0)))) = ([(r 0, .inl (dA 0, x.toNat, .inl (fun _ => Int32.ofInt 0))), (r 1, .inl (dA 0, x.toNat, .inl (fun _ => Int32.ofInt 0)))] : va_W) := by
    show ([(r 0, vr_up _ [r 0, r 1] _ (r 0)), (r 1, vr_up _ [r 0, r 1] _ (r 1))] : va_W) = _
    rw [vr_up_in (by simp), vr_up_in (by simp)]
  rw [hpl] at hP hD
  let ad' : Nat → Nat := fun i => if i = n then q else if i = n + 1 then r 0 else if i = n + 2 then r 1 else ad i
  let μ' : am_M := am_new (am_new (am_new μ n (fun j => if j = 0 then n + 1 else if j = 1 then n + 2 else -1)) (n + 1) (fun _ => 0)) (n + 2) (fun _ => 0)
  have ha : ∀ i, i < n → ad' i = ad i := fun i hi => by
    show (if i = n then q else if i = n + 1 then r 0 else if i = n + 2 then r 1 else ad i) = ad i
    rw [if_neg (by omega), if_neg (by omega), if_neg (by omega)]
  have a0 : ad' n = q := if_pos rfl
  have a1 : ad' (n + 1) = r 0 := by
    show (if n + 1 = n then q else if n + 1 = n + 1 then r 0 else if n + 1 = n + 2 then r 1 else ad (n + 1)) = r 0
    rw [if_neg (by omega), if_pos rfl]
  have a2 : ad' (n + 2) = r 1 := by
    show (if n + 2 = n then q else if n + 2 = n + 1 then r 0 else if n + 2 = n + 2 then r 1 else ad (n + 2)) = r 1
    rw [if_neg (by omega), if_neg (by omega), if_pos rfl]
  have m0 : ∀ a : Int, a < (n : Int) → μ' a = μ a := fun a h => by
    funext z
    show (if a = (n : Int) + 2 then 0 else if a = (n : Int) + 1 then 0 else if a = (n : Int) then _ else μ a z) = μ a z
    rw [if_neg (by omega), if_neg (by omega), if_neg (by omega)]
  have m1 : μ' (n : Int) = (fun j => if j = 0 then (n : Int) + 1 else if j = 1 then (n : Int) + 2 else -1) := by
    funext z
    show (if (n : Int) = (n : Int) + 2 then 0 else if (n : Int) = (n : Int) + 1 then 0 else if (n : Int) = (n : Int) then (if z = 0 then (n : Int) + 1 else if z = 1 then (n : Int) + 2 else -1) else μ n z) = _
    rw [if_neg (by omega), if_neg (by omega), if_pos rfl]
  have m2 : μ' ((n : Int) + 1) = (fun _ => 0) := by
    funext z
    show (if (n : Int) + 1 = (n : Int) + 2 then (0 : Int) else if (n : Int) + 1 = (n : Int) + 1 then 0 else _) = 0
    rw [if_neg (by omega), if_pos rfl]
  have m3 : μ' ((n : Int) + 2) = (fun _ => 0) := by
    funext z
    show (if (n : Int) + 2 = (n : Int) + 2 then (0 : Int) else _) = 0
    rw [if_pos rfl]
  have hW : (am_W dA b ad n μ ++ [(q, .inl (dA 3, 2, .inr (.inr (.inr (.inr (fun i => if i < 2 then some (r i) else none))))))]) ++ ([(r 0, .inl (dA 0, x.toNat, .inl (fun _ => Int32.ofInt 0))), (r 1, .inl (dA 0, x.toNat, .inl (fun _ => Int32.ofInt 0)))] : va_W) = am_W dA b ad' (n + 3) μ' := by
    unfold am_W
    rw [List.range_succ, List.range_succ, List.range_succ]
    simp only [List.map_append, List.map_cons, List.map_nil, List.append_assoc]
    congr 1
    · apply List.map_congr_left
      intro i hi
      have hi := List.mem_range.mp hi
      rw [ha i hi, m0 (i : Int) (by omega), am_cell_congr ha (hH.2.2.2.2.1 i hi)]
    · rw [a0, a1, a2, show ((n + 1 : Nat) : Int) = (n : Int) + 1 by omega, show ((n + 2 : Nat) : Int) = (n : Int) + 2 by omega, hk, hk1, hk2, m1, m2, m3, am_c_ii, am_c_int]
      have e : (fun i : Nat => am_rf ad' (if (i : Int) = 0 then (n : Int) + 1 else if (i : Int) = 1 then (n : Int) + 2 else -1)) = fun i => if i < 2 then some (r i) else none := by
        funext i
        match i with
        | 0 =>
          show am_rf ad' ((n : Int) + 1) = some (r 0)
          unfold am_rf
          rw [if_neg (by omega), show ((n : Int) + 1).toNat = n + 1 by omega, a1]
        | 1 =>
          show am_rf ad' ((n : Int) + 2) = some (r 1)
          unfold am_rf
          rw [if_neg (by omega), show ((n : Int) + 2).toNat = n + 2 by omega, a2]
        | i + 2 =>
          rw [if_neg (by omega), if_neg (by omega), if_neg (by omega)]
          rfl
      rw [e]
      rfl
  rw [hW] at hP hD
  have hG' : am_G (n + 3) μ' := by
    intro i hi j
    by_cases h1 : i < n
    · rw [m0 (i : Int) (by omega)]
      exact am_ok_mono (by omega) (hH.2.2.2.2.1 i h1 j)
    · by_cases h2 : i = n
      · subst h2
        rw [hk, m1]
        show (if j = 0 then (i : Int) + 1 else if j = 1 then (i : Int) + 2 else -1) < ((i + 3 : Nat) : Int)
        split
        · omega
        · split <;> omega
      · by_cases h3 : i = n + 1
        · subst h3
          rw [show ((n + 1 : Nat) : Int) = (n : Int) + 1 by omega, hk1, m2]
          exact ⟨by show _ ≤ (0 : Int); decide, by show (0 : Int) < _; decide⟩
        · have h4 : i = n + 2 := by omega
          subst h4
          rw [show ((n + 2 : Nat) : Int) = (n : Int) + 2 by omega, hk2, m3]
          exact ⟨by show _ ≤ (0 : Int); decide, by show (0 : Int) < _; decide⟩
  have hr := am_oks_tail (am_oks_tail hso)
  have h9 := kk ad' cls H1 locs ha ⟨hH.1, hP, hD, hS, hG', hH.2.2.2.2.2⟩ (am_L_congr ha hLo hL) (am_oks_mono (by omega) hLo) (am_oks_cons (show ((n : Int)) < ((n + 3 : Nat) : Int) by omega) (am_oks_mono (by omega) hr))
  rw [List.map_cons, am_cvs_congr ha hr, am_cv2p b ad' (by omega), Int.toNat_natCast, a0] at h9
  exact W.cs (by omega) (by omega) h9
theorem am_zero_ok (n : Nat) (q : Nat × Nat) (j : Int) : am_ok n (am_tag q j.toNat, am_zero q j) := by
  unfold am_zero
  generalize am_tag q j.toNat = t
  match t with
  | 0 => exact ⟨by decide, by decide⟩
  | 1 => exact ⟨by decide, by decide⟩
  | 2 => show (-1 : Int) < _; omega
  | _ + 3 => trivial
theorem am_zero_v {ci j : Nat} (h8 : ci < 8) (hj : j < am_N ci) : defaultValue (am_tyo ci j) = am_cv b ad (am_ft ci j, am_zero (0, ci) (j : Int)) := by
  have h := ((am_clsv h8).2.2.2 j hj).2.2.2
  have h3 : (am_fs ci j).1 ≤ 3 := of_decide_eq_true (am_all (am_all am_v_fs3 h8) hj)
  unfold am_zero
  show defaultValue (am_tyo ci j) = am_cv b ad (am_ft ci j, if am_ft ci ((j : Int)).toNat = 2 then -1 else 0)
  rw [Int.toNat_natCast]
  unfold am_ft
  generalize am_tyo ci j = ty at h ⊢
  generalize (am_fs ci j).1 = t at h h3 ⊢
  subst h
  cases ty with
  | int => rfl
  | long => rfl
  | boolean => rfl
  | object C => rfl
  | array C => rfl
  | _ => exact absurd h3 (by decide)
theorem am_o_new {idx ci w : Nat} (hF : am_F p R s m args meth c k) (hH : am_H D dA b A s ad n μ H locs) (hL : am_L b ad L cls (am_ml k)) (hLo : am_oks n L)  (hso : am_oks n st) (hd : decode (am_by k) pc = .ok (.new idx, 3)) (ht : am_nls.lookup (am_cl k, idx) = some (ci, w)) (h8 : ci < 8) (hk : am_kind (n : Int) = (0, ci)) (hn0 : n0 ≤ n) (hc : n + 1 - n0 ≤ R.cells) (hs : am_sl (n + 1) - am_sl n0 ≤ R.slots) (kk : am_Kk p l e R s m args below meth c Q D dA b A k n0 ad n (pc + 3) (L) ((2, (n : Int)) :: st) (n + 1) (am_new μ (n : Int) (am_zero (0, ci)))) : W p l e R s m args below meth c H locs (n - n0) (am_sl n - am_sl n0) Q (F0 m pc cls ((st).map (am_cv b ad))) := by
  obtain ⟨hx, hb, hml, hown, hts, hXs, -⟩ := hF
  have hl : am_len (am_kind (n : Int)) = am_N ci := by rw [hk]; rfl
  have hsl : am_sl (n + 1) = am_sl n + am_N ci := by show am_sl n + am_len (am_kind (n : Int)) = _; rw [hl]
  have hm := am_sl_mono hn0
  obtain ⟨hcl, hins, hin, hty⟩ := am_clsv h8
  have hw := of_decide_eq_true (List.all_eq_true.mp am_v_nls0 _ (am_lookup ht))
  dsimp only at hw
  rw [if_neg (by omega), if_neg (by omega)] at hw
  refine va_new (fs := (List.range (am_N ci)).map (fun (j : Nat) => am_cv b ad (am_ft ci j, am_zero (0, ci) (j : Int)))) hx hb hts hin (am_tyo ci) (fun j hj => (hty j hj).1) hown (hts _ (am_mem hw rfl)) (hts _ hins) (hts _ (am_v_ini (by omega))) hH.1 hH.2.1 hH.2.2.1 hH.2.2.2.1 hH.2.2.2.2.2 hcl (fun j hj => ?_) (by omega) (by omega) hd (fun q H1 hP hD hS => ?_)
  · unfold vp_V
    rw [List.getD_eq_getElem?_getD, am_fs_get (f := am_zero (0, ci)) hj]
    exact am_zero_v h8 hj
  · refine am_alloc hH hL hLo hso hn0 hl (fun j => by rw [hk]; exact am_zero_ok _ _ j) (fun ad' _ _ => ?_) hP hD hS kk
    rw [hk, am_c_obj]
    congr 2
    refine List.map_congr_left (fun j hj => ?_)
    have hj := List.mem_range.mp hj
    rw [← am_zero_v h8 hj, ← am_zero_v h8 hj]
theorem am_o_oinit {idx w : Nat} {x : Int} (hF : am_F p R s m args meth c k) (hH : am_H D dA b A s ad n μ H locs) (hL : am_L b ad L cls (am_ml k)) (hLo : am_oks n L)  (hso : am_oks n ((2, x) :: st)) (hd : decode (am_by k) pc = .ok (.invokespecial idx, 3)) (ht : am_ois.lookup (am_cl k, idx) = some w) (hx0 : 0 ≤ x) (hcat : am_cats st ≤ 8) (hfr1 : 1 ≤ am_fr k) (hlo1 : 20 ≤ am_lo k) (kk : am_Kk p l e R s m args below meth c Q D dA b A k n0 ad n (pc + 3) (L) (st) (n) (μ)) : W p l e R s m args below meth c H locs (n - n0) (am_sl n - am_sl n0) Q (F0 m pc cls (((2, x) :: st).map (am_cv b ad))) := by
  obtain ⟨hx, hb, hml, hown, hts, hXs, hfr, hlo, -⟩ := hF
  have hw := of_decide_eq_true (List.all_eq_true.mp am_v_ois0 _ (am_lookup ht))
  have h1 := am_kk0 kk hH hL hLo (am_oks_tail hso)
  rw [List.map_cons, am_cv2p b ad hx0]
  refine W.objInit hx hb hown (hts _ (am_mem hw rfl)) (hts _ (am_mem am_v_obj.1 rfl)) (hts _ (am_mem am_v_obj.2 rfl)) rfl (hL.1.trans hml.symm) rfl hd (by omega) ?_ h1
  have h2 : ((st.map (am_cv b ad)).map fun v => v.category).sum ≤ 8 := by rw [am_cats_cv]; exact hcat
  have h3 := lv_room (m := m) (pc := pc) (ls := cls) (rest := .ref (ad x.toNat) :: st.map (am_cv b ad)) h2
  omega
theorem am_mtw {o idx f w : Nat} (ht : am_mts.lookup (o, idx) = some (f, w)) : Cond.methodLink (am_cn o) idx (if f = 0 then Lib.Math.abs.name else if f = 1 then Lib.Math.max.name else if f = 2 then Lib.Math.min.name else Lib.MathLoose.min_long.x) ∈ am_tb := am_mem (of_decide_eq_true (List.all_eq_true.mp am_v_mts0 _ (am_lookup ht))) rfl
theorem am_o_abs {idx w : Nat} {x : Int} (hF : am_F p R s m args meth c k) (hH : am_H D dA b A s ad n μ H locs) (hL : am_L b ad L cls (am_ml k)) (hLo : am_oks n L)  (hso : am_oks n ((0, x) :: st)) (hd : decode (am_by k) pc = .ok (.invokestatic idx, 3)) (ht : am_mts.lookup (am_cl k, idx) = some (0, w)) (hcat : am_cats st ≤ 8) (hfr1 : 1 ≤ am_fr k) (hlo1 : 23 ≤ am_lo k) (hc : n - n0 ≤ R.cells) (hs : am_sl n - am_sl n0 ≤ R.slots) (kk : am_Kk p l e R s m args below meth c Q D dA b A k n0 ad n (pc + 3) (L) ((0, am_abs x) :: st) (n) (μ)) : W p l e R s m args below meth c H locs (n - n0) (am_sl n - am_sl n0) Q (F0 m pc cls (((0, x) :: st).map (am_cv b ad))) := by
  obtain ⟨hx, hb, hml, hown, hts, hXs, hfr, hlo, -⟩ := hF
  have hw := am_mtw ht
  have hx32 : -2147483648 ≤ x ∧ x < 2147483648 := am_oks_head hso
  have h2 : ((st.map (am_cv b ad)).map fun v => v.category).sum ≤ 8 := by rw [am_cats_cv]; exact hcat
  have h1 := am_kk0 kk hH hL hLo (am_oks_cons (by unfold am_abs; split; exact hx32; exact am_w32_ok n _) (am_oks_tail hso))
  refine va_mabs hx hb (hml.trans hL.1.symm) hown (hts _ hw) (hts _ (am_mem am_v_math.2.1 rfl)) (hts _ (am_v_ini (o := 9) (by decide))) (hts _ (am_mem am_v_mathc.1 rfl)) (by omega) (by omega) hc hs hd ?_
  rw [List.map_cons, am_cv0] at h1
  have e : Int32.ofInt (am_abs x) = if 0 ≤ Int32.ofInt x then Int32.ofInt x else 0 - Int32.ofInt x := by
    unfold am_abs
    have h9 : (0 : Int32) ≤ Int32.ofInt x ↔ 0 ≤ x := am_le32 (x := 0) (by decide) hx32
    by_cases h : 0 ≤ x
    · rw [if_pos h, if_pos (h9.mpr h)]
    · rw [if_neg h, if_neg (fun z => h (h9.mp z)), am_w32_of, Int32.ofInt_neg, Int32.zero_sub]
  rw [e] at h1
  exact h1
theorem am_o_max {idx w : Nat} {x y : Int} (hF : am_F p R s m args meth c k) (hH : am_H D dA b A s ad n μ H locs) (hL : am_L b ad L cls (am_ml k)) (hLo : am_oks n L)  (hso : am_oks n ((0, y) :: (0, x) :: st)) (hd : decode (am_by k) pc = .ok (.invokestatic idx, 3)) (ht : am_mts.lookup (am_cl k, idx) = some (1, w)) (hcat : am_cats st ≤ 8) (hfr1 : 1 ≤ am_fr k) (hlo1 : 23 ≤ am_lo k) (hc : n - n0 ≤ R.cells) (hs : am_sl n - am_sl n0 ≤ R.slots) (kk : am_Kk p l e R s m args below meth c Q D dA b A k n0 ad n (pc + 3) (L) ((0, max x y) :: st) (n) (μ)) : W p l e R s m args below meth c H locs (n - n0) (am_sl n - am_sl n0) Q (F0 m pc cls (((0, y) :: (0, x) :: st).map (am_cv b ad))) := by
  obtain ⟨hx, hb, hml, hown, hts, hXs, hfr, hlo, -⟩ := hF
  have hw := am_mtw ht
  have hx32 : -2147483648 ≤ x ∧ x < 2147483648 := am_oks_head (am_oks_tail hso)
  have hy32 : -2147483648 ≤ y ∧ y < 2147483648 := am_oks_head hso
  have h2 : ((st.map (am_cv b ad)).map fun v => v.category).sum ≤ 8 := by rw [am_cats_cv]; exact hcat
  have h1 := am_kk0 kk hH hL hLo (am_oks_cons (⟨by show _ ≤ max x y; omega, by show max x y < _; omega⟩) (am_oks_tail (am_oks_tail hso)))
  refine va_mmax hx hb (hml.trans hL.1.symm) hown (hts _ hw) (hts _ (am_mem am_v_math.2.2.1 rfl)) (hts _ (am_v_ini (o := 9) (by decide))) (hts _ (am_mem am_v_mathc.2.1 rfl)) (by omega) (by omega) hc hs hd ?_
  rw [List.map_cons, am_cv0] at h1
  have e : Int32.ofInt (max x y) = if Int32.ofInt x < Int32.ofInt y then Int32.ofInt y else Int32.ofInt x := by
    have h9 := am_lt32 (x := x) (y := y) hx32 hy32
    by_cases h : x < y
    · rw [if_pos (h9.mpr h)]
      congr 1
      omega
    · rw [if_neg (fun z => h (h9.mp z))]
      congr 1
      omega
  rw [e] at h1
  exact h1
theorem am_o_min {idx w : Nat} {x y : Int} (hF : am_F p R s m args meth c k) (hH : am_H D dA b A s ad n μ H locs) (hL : am_L b ad L cls (am_ml k)) (hLo : am_oks n L)  (hso : am_oks n ((0, y) :: (0, x) :: st)) (hd : decode (am_by k) pc = .ok (.invokestatic idx, 3)) (ht : am_mts.lookup (am_cl k, idx) = some (2, w)) (hcat : am_cats st ≤ 8) (hfr1 : 1 ≤ am_fr k) (hlo1 : 23 ≤ am_lo k) (hc : n - n0 ≤ R.cells) (hs : am_sl n - am_sl n0 ≤ R.slots) (kk : am_Kk p l e R s m args below meth c Q D dA b A k n0 ad n (pc + 3) (L) ((0, min x y) :: st) (n) (μ)) : W p l e R s m args below meth c H locs (n - n0) (am_sl n - am_sl n0) Q (F0 m pc cls (((0, y) :: (0, x) :: st).map (am_cv b ad))) := by
  obtain ⟨hx, hb, hml, hown, hts, hXs, hfr, hlo, -⟩ := hF
  have hw := am_mtw ht
  have hx32 : -2147483648 ≤ x ∧ x < 2147483648 := am_oks_head (am_oks_tail hso)
  have hy32 : -2147483648 ≤ y ∧ y < 2147483648 := am_oks_head hso
  have h2 : ((st.map (am_cv b ad)).map fun v => v.category).sum ≤ 8 := by rw [am_cats_cv]; exact hcat
  have h1 := am_kk0 kk hH hL hLo (am_oks_cons (⟨by show _ ≤ min x y; omega, by show min x y < _; omega⟩) (am_oks_tail (am_oks_tail hso)))
  refine va_mmin hx hb (hml.trans hL.1.symm) hown (hts _ hw) (hts _ (am_mem am_v_math.2.2.2.1 rfl)) (hts _ (am_v_ini (o := 9) (by decide))) (hts _ (am_mem am_v_mathc.2.2.1 rfl)) (by omega) (by omega) hc hs hd ?_
  rw [List.map_cons, am_cv0] at h1
  have e : Int32.ofInt (min x y) = if Int32.ofInt y < Int32.ofInt x then Int32.ofInt y else Int32.ofInt x := by
    have h9 := am_lt32 (x := y) (y := x) hy32 hx32
    by_cases h : y < x
    · rw [if_pos (h9.mpr h)]
      congr 1
      omega
    · rw [if_neg (fun z => h (h9.mp z))]
      congr 1
      omega
  rw [e] at h1
  exact h1
theorem am_o_minl {idx w : Nat} {x y : Int} (hF : am_F p R s m args meth c k) (hH : am_H D dA b A s ad n μ H locs) (hL : am_L b ad L cls (am_ml k)) (hLo : am_oks n L)  (hso : am_oks n ((1, y) :: (1, x) :: st)) (hd : decode (am_by k) pc = .ok (.invokestatic idx, 3)) (ht : am_mts.lookup (am_cl k, idx) = some (3, w)) (hcat : am_cats st ≤ 8) (hfr1 : 1 ≤ am_fr k) (hlo1 : 23 ≤ am_lo k) (hc : n - n0 ≤ R.cells) (hs : am_sl n - am_sl n0 ≤ R.slots) (kk : am_Kk p l e R s m args below meth c Q D dA b A k n0 ad n (pc + 3) (L) ((1, min x y) :: st) (n) (μ)) : W p l e R s m args below meth c H locs (n - n0) (am_sl n - am_sl n0) Q (F0 m pc cls (((1, y) :: (1, x) :: st).map (am_cv b ad))) := by
  obtain ⟨hx, hb, hml, hown, hts, hXs, hfr, hlo, -⟩ := hF
  have hw := am_mtw ht
  have hx32 : -9223372036854775808 ≤ x ∧ x < 9223372036854775808 := am_oks_head (am_oks_tail hso)
  have hy32 : -9223372036854775808 ≤ y ∧ y < 9223372036854775808 := am_oks_head hso
  have h2 : ((st.map (am_cv b ad)).map fun v => v.category).sum ≤ 8 := by rw [am_cats_cv]; exact hcat
  have h1 := am_kk0 kk hH hL hLo (am_oks_cons (⟨by show _ ≤ min x y; omega, by show min x y < _; omega⟩) (am_oks_tail (am_oks_tail hso)))
  refine va_mmin_long hx hb (hml.trans hL.1.symm) hown (hts _ hw) (hts _ (am_mem am_v_math.2.2.2.2 rfl)) (hts _ (am_v_ini (o := 9) (by decide))) (hts _ (am_mem am_v_mathc.2.2.2 rfl)) (by omega) (by omega) hc hs hd ?_
  rw [List.map_cons, am_cv1] at h1
  have e : Int64.ofInt (min x y) = if Int64.ofInt y < Int64.ofInt x then Int64.ofInt y else Int64.ofInt x := by
    have h9 := am_lt64 (x := y) (y := x) hy32 hx32
    by_cases h : y < x
    · rw [if_pos (h9.mpr h)]
      congr 1
      omega
    · rw [if_neg (fun z => h (h9.mp z))]
      congr 1
      omega
  rw [e] at h1
  exact h1
end
end
section
theorem am_mabs_inv {pc : Nat} {L st : List am_V} {n : Nat} {μ : am_M} {q : am_R} (h : am_mabs pc L st n μ = some q) : ∃ (x : Int) (rest : List am_V), st = (0, x) :: rest ∧ am_cats rest ≤ 8 ∧ q = .inl (pc + 3, L, (0, am_abs x) :: rest, n, μ) := by
  unfold am_mabs at h
  split at h
  · rename_i x rest
    split at h
    · rename_i h1
      obtain ⟨h1, h2⟩ := h1
      cases h
      obtain ⟨x1, x2⟩ := x
      cases h1
      exact ⟨x2, rest, rfl, h2, rfl⟩
    · cases h
  · cases h
theorem am_m2_inv {t : Nat} {g : Int → Int → Int} {pc : Nat} {L st : List am_V} {n : Nat} {μ : am_M} {q : am_R} (h : am_m2 t g pc L st n μ = some q) : ∃ (x y : Int) (rest : List am_V), st = (t, y) :: (t, x) :: rest ∧ am_cats rest ≤ 8 ∧ q = .inl (pc + 3, L, (t, g x y) :: rest, n, μ) := by
  unfold am_m2 at h
  split at h
  · rename_i y x rest
    split at h
    · rename_i h1
      obtain ⟨h1, h3, h2⟩ := h1
      cases h
      obtain ⟨x1, x2⟩ := x
      obtain ⟨y1, y2⟩ := y
      cases h1; cases h3
      exact ⟨x2, y2, rest, rfl, h2, rfl⟩
    · cases h
  · cases h
theorem am_mts3 {o idx f w : Nat} (h : am_mts.lookup (o, idx) = some (f, w)) : f ≤ 3 := of_decide_eq_true (List.all_eq_true.mp (show am_mts.all (fun q => decide (q.2.1 ≤ 3)) = true by decide +kernel) _ (am_lookup h))
theorem am_call_ninl (kd k idx : Nat) (L st : List am_V) {q : am_S} : ¬ am_call kd k idx L st = some (.inl q) := by
  unfold am_call
  intro h
  split at h
  · split at h
    · split at h
      · split at h
        · cases h
        · cases h
      · split at h
        · split at h
          · cases h
          · cases h
        · cases h
    · cases h
  · cases h
theorem am_if_inv {c : Prop} [Decidable c] {pc : Nat} {off : Int} {L st : List am_V} {n : Nat} {μ : am_M} {q : am_R} (h : am_if c pc off L st n μ = some q) : ∃ tgt : Nat, (pc : Int) + off = (tgt : Int) ∧ q = .inl ((if c then tgt else pc + 3), L, st, n, μ) := by
  unfold am_if at h
  split at h
  · cases h
    exact ⟨_, by omega, rfl⟩
  · cases h
theorem am_lk {ins : Instr} {len z : Nat} (hlen : am_len_ok ins len = true) (h : am_len_ok ins len = (len == z)) : len = z := eq_of_beq (h ▸ hlen)
section
variable {p : Program} {l : Launch} {e : Env} {R : Room} {s : State} {m : MethodId} {args : Array Value} {below : List Frame} {meth : Method} {c : Code} {Q : State → Prop} {D : va_G} {dA : Nat → ClassId} {b : Nat} {A : Nat → Prop} {k n0 : Nat} {ad : Nat → Nat} {n pc : Nat} {L st : List am_V} {μ : am_M} {cls : Array Slot} {H : Heap} {locs : List Loc} {sc : am_Sc} {pc' : Nat} {L' st' : List am_V} {n' : Nat} {μ' : am_M}
theorem am_kt {cd : Prop} [Decidable cd] {x y : Nat} (hc : cd) (kk : am_Kk p l e R s m args below meth c Q D dA b A k n0 ad n (if cd then x else y) L' st' n' μ') : am_Kk p l e R s m args below meth c Q D dA b A k n0 ad n x L' st' n' μ' := by
  rw [if_pos hc] at kk
  exact kk
theorem am_kf {cd : Prop} [Decidable cd] {x y : Nat} (hc : ¬ cd) (kk : am_Kk p l e R s m args below meth c Q D dA b A k n0 ad n (if cd then x else y) L' st' n' μ') : am_Kk p l e R s m args below meth c Q D dA b A k n0 ad n y L' st' n' μ' := by
  rw [if_neg hc] at kk
  exact kk
set_option maxHeartbeats 1000000 in
theorem am_do_W (hF : am_F p R s m args meth c k) (hH : am_H D dA b A s ad n μ H locs) (hL : am_L b ad L cls (am_ml k)) (hLo : am_oks n L)  (hsc : am_Scr sc b A s) (hso : am_oks n st) (hn0 : n0 ≤ n) {ins : Instr} {len : Nat} (hd : decode (am_by k) pc = .ok (ins, len)) (hlen : am_len_ok ins len = true) (h : am_do sc k pc ins L st n μ = some (.inl (pc', L', st', n', μ'))) (hc : n' - n0 ≤ R.cells) (hs : am_sl n' - am_sl n0 ≤ R.slots) (kk : am_Kk p l e R s m args below meth c Q D dA b A k n0 ad n pc' L' st' n' μ') : W p l e R s m args below meth c H locs (n - n0) (am_sl n - am_sl n0) Q (F0 m pc cls ((st).map (am_cv b ad))) := by
  cases ins with
  | iconst i =>
    obtain rfl := am_lk (z := 1) hlen rfl
    simp only [am_do] at h
    split at h
    · rename_i hi
      cases h
      exact am_o_iconst hF hH hL hLo hso hd hi kk
    · cases h
  | bipush i =>
    obtain rfl := am_lk (z := 2) hlen rfl
    simp only [am_do] at h
    split at h
    · rename_i hi
      cases h
      exact am_o_bipush hF hH hL hLo hso hd hi kk
    · cases h
  | sipush i =>
    obtain rfl := am_lk (z := 3) hlen rfl
    simp only [am_do] at h
    split at h
    · rename_i hi
      cases h
      exact am_o_sipush hF hH hL hLo hso hd hi kk
    · cases h
  | lconst i =>
    obtain rfl := am_lk (z := 1) hlen rfl
    simp only [am_do] at h
    cases h
    exact am_o_lconst hF hH hL hLo hso hd kk
  | ldc idx =>
    obtain rfl := am_lk (z := 2) hlen rfl
    simp only [am_do] at h
    split at h
    · rename_i x q ht
      cases h
      exact am_o_ldc hF hH hL hLo hso hd ht kk
    · cases h
  | ldc2_w idx =>
    obtain rfl := am_lk (z := 3) hlen rfl
    simp only [am_do] at h
    split at h
    · rename_i x q ht
      cases h
      exact am_o_ldc2 hF hH hL hLo hso hd ht kk
    · cases h
  | aconst_null =>
    obtain rfl := am_lk (z := 1) hlen rfl
    simp only [am_do] at h
    cases h
    exact am_o_null hF hH hL hLo hso hd kk
  | iload i =>
    obtain rfl := am_lk (z := 2) hlen rfl
    simp only [am_do] at h
    obtain ⟨x, hi, e⟩ := am_ld_inv h
    cases e
    exact am_o_iload hF hH hL hLo hso hi hd kk
  | iload_n i =>
    obtain rfl := am_lk (z := 1) hlen rfl
    simp only [am_do] at h
    obtain ⟨x, hi, e⟩ := am_ld_inv h
    cases e
    exact am_o_iload_n hF hH hL hLo hso hi hd kk
  | lload i =>
    obtain rfl := am_lk (z := 2) hlen rfl
    simp only [am_do] at h
    obtain ⟨x, hi, e⟩ := am_ld_inv h
    cases e
    exact am_o_lload hF hH hL hLo hso hi hd kk
  | lload_n i =>
    obtain rfl := am_lk (z := 1) hlen rfl
    simp only [am_do] at h
    obtain ⟨x, hi, e⟩ := am_ld_inv h
    cases e
    exact am_o_lload_n hF hH hL hLo hso hi hd kk
  | aload i =>
    obtain rfl := am_lk (z := 2) hlen rfl
    simp only [am_do] at h
    obtain ⟨v, hi, hv, e⟩ := am_lda_inv h
    cases e
    exact am_o_aload hF hH hL hLo hso hi hv hd kk
  | aload_n i =>
    obtain rfl := am_lk (z := 1) hlen rfl
    simp only [am_do] at h
    obtain ⟨v, hi, hv, e⟩ := am_lda_inv h
    cases e
    exact am_o_aload_n hF hH hL hLo hso hi hv hd kk
  | istore i =>
    obtain rfl := am_lk (z := 2) hlen rfl
    simp only [am_do] at h
    obtain ⟨x, rest, e0, hi, e⟩ := am_st1_inv h
    subst e0
    cases e
    exact am_o_istore hF hH hL hLo hso hi hd kk
  | istore_n i =>
    obtain rfl := am_lk (z := 1) hlen rfl
    simp only [am_do] at h
    obtain ⟨x, rest, e0, hi, e⟩ := am_st1_inv h
    subst e0
    cases e
    exact am_o_istore_n hF hH hL hLo hso hi hd kk
  | astore i =>
    obtain rfl := am_lk (z := 2) hlen rfl
    simp only [am_do] at h
    obtain ⟨x, rest, e0, hi, e⟩ := am_st1_inv h
    subst e0
    cases e
    exact am_o_astore hF hH hL hLo hso hi hd kk
  | astore_n i =>
    obtain rfl := am_lk (z := 1) hlen rfl
    simp only [am_do] at h
    obtain ⟨x, rest, e0, hi, e⟩ := am_st1_inv h
    subst e0
    cases e
    exact am_o_astore_n hF hH hL hLo hso hi hd kk
  | lstore i =>
    obtain rfl := am_lk (z := 2) hlen rfl
    simp only [am_do] at h
    obtain ⟨x, rest, e0, hi, e⟩ := am_st2_inv h
    subst e0
    cases e
    exact am_o_lstore hF hH hL hLo hso hi hd kk
  | lstore_n i =>
    obtain rfl := am_lk (z := 1) hlen rfl
    simp only [am_do] at h
    obtain ⟨x, rest, e0, hi, e⟩ := am_st2_inv h
    subst e0
    cases e
    exact am_o_lstore_n hF hH hL hLo hso hi hd kk
  | iinc i d =>
    obtain rfl := am_lk (z := 3) hlen rfl
    simp only [am_do] at h
    split at h
    · rename_i v hv
      split at h
      · rename_i h1
        obtain ⟨h1, h2⟩ := h1
        cases h
        obtain ⟨v1, v2⟩ := v
        cases h1
        exact am_o_iinc hF hH hL hLo hso hv h2 hd kk
      · cases h
    · cases h
  | iadd =>
    obtain rfl := am_lk (z := 1) hlen rfl
    simp only [am_do] at h
    obtain ⟨x, y, rest, e0, e⟩ := am_bin_inv h
    subst e0
    cases e
    exact am_o_iadd hF hH hL hLo hso hd kk
  | isub =>
    obtain rfl := am_lk (z := 1) hlen rfl
    simp only [am_do] at h
    obtain ⟨x, y, rest, e0, e⟩ := am_bin_inv h
    subst e0
    cases e
    exact am_o_isub hF hH hL hLo hso hd kk
  | imul =>
    obtain rfl := am_lk (z := 1) hlen rfl
    simp only [am_do] at h
    obtain ⟨x, y, rest, e0, e⟩ := am_bin_inv h
    subst e0
    cases e
    exact am_o_imul hF hH hL hLo hso hd kk
  | iand =>
    obtain rfl := am_lk (z := 1) hlen rfl
    simp only [am_do] at h
    obtain ⟨x, y, rest, e0, e⟩ := am_bin_inv h
    subst e0
    cases e
    exact am_o_iand hF hH hL hLo hso hd kk
  | ior =>
    obtain rfl := am_lk (z := 1) hlen rfl
    simp only [am_do] at h
    obtain ⟨x, y, rest, e0, e⟩ := am_bin_inv h
    subst e0
    cases e
    exact am_o_ior hF hH hL hLo hso hd kk
  | ishl =>
    obtain rfl := am_lk (z := 1) hlen rfl
    simp only [am_do] at h
    obtain ⟨x, y, rest, e0, e⟩ := am_bin_inv h
    subst e0
    cases e
    exact am_o_ishl hF hH hL hLo hso hd kk
  | ishr =>
    obtain rfl := am_lk (z := 1) hlen rfl
    simp only [am_do] at h
    obtain ⟨x, y, rest, e0, e⟩ := am_bin_inv h
    subst e0
    cases e
    exact am_o_ishr hF hH hL hLo hso hd kk
  | ladd =>
    obtain rfl := am_lk (z := 1) hlen rfl
    simp only [am_do] at h
    obtain ⟨x, y, rest, e0, e⟩ := am_bin_inv h
    subst e0
    cases e
    exact am_o_ladd hF hH hL hLo hso hd kk
  | lmul =>
    obtain rfl := am_lk (z := 1) hlen rfl
    simp only [am_do] at h
    obtain ⟨x, y, rest, e0, e⟩ := am_bin_inv h
    subst e0
    cases e
    exact am_o_lmul hF hH hL hLo hso hd kk
  | lcmp =>
    obtain rfl := am_lk (z := 1) hlen rfl
    simp only [am_do] at h
    obtain ⟨x, y, rest, e0, e⟩ := am_bin_inv h
    subst e0
    cases e
    exact am_o_lcmp hF hH hL hLo hso hd kk
  | ineg =>
    obtain rfl := am_lk (z := 1) hlen rfl
    simp only [am_do] at h
    obtain ⟨x, rest, e0, e⟩ := am_un_inv h
    subst e0
    cases e
    exact am_o_ineg hF hH hL hLo hso hd kk
  | i2l =>
    obtain rfl := am_lk (z := 1) hlen rfl
    simp only [am_do] at h
    obtain ⟨x, rest, e0, e⟩ := am_un_inv h
    subst e0
    cases e
    exact am_o_i2l hF hH hL hLo hso hd kk
  | l2i =>
    obtain rfl := am_lk (z := 1) hlen rfl
    simp only [am_do] at h
    obtain ⟨x, rest, e0, e⟩ := am_un_inv h
    subst e0
    cases e
    exact am_o_l2i hF hH hL hLo hso hd kk
  | if_icmp c off =>
    obtain rfl := am_lk (z := 3) hlen rfl
    simp only [am_do] at h
    split at h
    · rename_i y x rest
      split at h
      · rename_i h1
        obtain ⟨h1, h2⟩ := h1
        obtain ⟨y1, y2⟩ := y
        obtain ⟨x1, x2⟩ := x
        cases h1; cases h2
        obtain ⟨tgt, ht, e⟩ := am_if_inv h
        cases e
        cases c with
        | eq => exact am_o_icmp_eq hF hH hL hLo hso hd ht (fun z => am_kt (show am_cc .eq x2 y2 = true from decide_eq_true z) kk) (fun z => am_kf (show ¬ am_cc .eq x2 y2 = true from fun q => z (of_decide_eq_true q)) kk)
        | ne => exact am_o_icmp_ne hF hH hL hLo hso hd ht (fun z => am_kt (show am_cc .ne x2 y2 = true from decide_eq_true z) kk) (fun z => am_kf (show ¬ am_cc .ne x2 y2 = true from fun q => z (of_decide_eq_true q)) kk)
        | lt => exact am_o_icmp_lt hF hH hL hLo hso hd ht (fun z => am_kt (show am_cc .lt x2 y2 = true from decide_eq_true z) kk) (fun z => am_kf (show ¬ am_cc .lt x2 y2 = true from fun q => z (of_decide_eq_true q)) kk)
        | ge => exact am_o_icmp_ge hF hH hL hLo hso hd ht (fun z => am_kt (show am_cc .ge x2 y2 = true from decide_eq_true z) kk) (fun z => am_kf (show ¬ am_cc .ge x2 y2 = true from fun q => z (of_decide_eq_true q)) kk)
        | gt => exact am_o_icmp_gt hF hH hL hLo hso hd ht (fun z => am_kt (show am_cc .gt x2 y2 = true from decide_eq_true z) kk) (fun z => am_kf (show ¬ am_cc .gt x2 y2 = true from fun q => z (of_decide_eq_true q)) kk)
        | le => exact am_o_icmp_le hF hH hL hLo hso hd ht (fun z => am_kt (show am_cc .le x2 y2 = true from decide_eq_true z) kk) (fun z => am_kf (show ¬ am_cc .le x2 y2 = true from fun q => z (of_decide_eq_true q)) kk)
      · cases h
    · cases h
  | ifCond c off =>
    obtain rfl := am_lk (z := 3) hlen rfl
    simp only [am_do] at h
    split at h
    · rename_i x rest
      split at h
      · rename_i h1
        obtain ⟨x1, x2⟩ := x
        cases h1
        obtain ⟨tgt, ht, e⟩ := am_if_inv h
        cases e
        cases c with
        | eq => exact am_o_if_eq (y := 0) hF hH hL hLo hso hd ht (fun z => am_kt (show am_cc .eq x2 0 = true from decide_eq_true z) kk) (fun z => am_kf (show ¬ am_cc .eq x2 0 = true from fun q => z (of_decide_eq_true q)) kk)
        | ne => exact am_o_if_ne (y := 0) hF hH hL hLo hso hd ht (fun z => am_kt (show am_cc .ne x2 0 = true from decide_eq_true z) kk) (fun z => am_kf (show ¬ am_cc .ne x2 0 = true from fun q => z (of_decide_eq_true q)) kk)
        | lt => exact am_o_if_lt (y := 0) hF hH hL hLo hso hd ht (fun z => am_kt (show am_cc .lt x2 0 = true from decide_eq_true z) kk) (fun z => am_kf (show ¬ am_cc .lt x2 0 = true from fun q => z (of_decide_eq_true q)) kk)
        | ge => exact am_o_if_ge (y := 0) hF hH hL hLo hso hd ht (fun z => am_kt (show am_cc .ge x2 0 = true from decide_eq_true z) kk) (fun z => am_kf (show ¬ am_cc .ge x2 0 = true from fun q => z (of_decide_eq_true q)) kk)
        | gt => exact am_o_if_gt (y := 0) hF hH hL hLo hso hd ht (fun z => am_kt (show am_cc .gt x2 0 = true from decide_eq_true z) kk) (fun z => am_kf (show ¬ am_cc .gt x2 0 = true from fun q => z (of_decide_eq_true q)) kk)
        | le => exact am_o_if_le (y := 0) hF hH hL hLo hso hd ht (fun z => am_kt (show am_cc .le x2 0 = true from decide_eq_true z) kk) (fun z => am_kf (show ¬ am_cc .le x2 0 = true from fun q => z (of_decide_eq_true q)) kk)
      · cases h
    · cases h
  | ifnull off =>
    obtain rfl := am_lk (z := 3) hlen rfl
    simp only [am_do] at h
    split at h
    · rename_i x rest
      split at h
      · rename_i h1
        obtain ⟨x1, x2⟩ := x
        cases h1
        obtain ⟨tgt, ht, e⟩ := am_if_inv h
        cases e
        exact am_o_ifnull hF hH hL hLo hso hd ht (fun z => by rw [if_pos z] at kk; exact kk) (fun z => by rw [if_neg z] at kk; exact kk)
      · cases h
    · cases h
  | ifnonnull off =>
    obtain rfl := am_lk (z := 3) hlen rfl
    simp only [am_do] at h
    split at h
    · rename_i x rest
      split at h
      · rename_i h1
        obtain ⟨x1, x2⟩ := x
        cases h1
        obtain ⟨tgt, ht, e⟩ := am_if_inv h
        cases e
        exact am_o_ifnonnull hF hH hL hLo hso hd ht (fun z => by rw [if_pos z] at kk; exact kk) (fun z => by rw [if_neg z] at kk; exact kk)
      · cases h
    · cases h
  | goto off =>
    obtain rfl := am_lk (z := 3) hlen rfl
    simp only [am_do] at h
    obtain ⟨tgt, ht, e⟩ := am_go_inv h
    cases e
    exact am_o_goto hF hH hL hLo hso hd ht kk
  | tableswitch dflt lo hi offs =>
    simp only [am_do] at h
    split at h
    · rename_i x rest
      split at h
      · rename_i h1
        obtain ⟨x1, x2⟩ := x
        cases h1
        split at h
        · rename_i h2
          obtain ⟨tgt, ht, e⟩ := am_go_inv h
          cases e
          exact am_o_table hF hH hL hLo hso hd (Or.inl ⟨h2, ht⟩) kk
        · rename_i h2
          split at h
          · rename_i off ho
            obtain ⟨tgt, ht, e⟩ := am_go_inv h
            cases e
            exact am_o_table hF hH hL hLo hso hd (Or.inr ⟨h2, off, ho, ht⟩) kk
          · cases h
      · cases h
    · cases h
  | dup =>
    obtain rfl := am_lk (z := 1) hlen rfl
    simp only [am_do] at h
    split at h
    · split at h
      · rename_i h1
        cases h
        exact am_o_dup hF hH hL hLo hso h1 hd kk
      · cases h
    · cases h
  | dup_x1 =>
    obtain rfl := am_lk (z := 1) hlen rfl
    simp only [am_do] at h
    split at h
    · split at h
      · rename_i h1
        cases h
        exact am_o_dup_x1 hF hH hL hLo hso h1.1 h1.2 hd kk
      · cases h
    · cases h
  | dup2 =>
    obtain rfl := am_lk (z := 1) hlen rfl
    simp only [am_do] at h
    split at h
    · split at h
      · rename_i h1
        cases h
        exact am_o_dup2 hF hH hL hLo hso h1.1 h1.2 hd kk
      · cases h
    · cases h
  | pop =>
    obtain rfl := am_lk (z := 1) hlen rfl
    simp only [am_do] at h
    split at h
    · split at h
      · rename_i h1
        cases h
        exact am_o_pop hF hH hL hLo hso h1 hd kk
      · cases h
    · cases h
  | pop2 =>
    obtain rfl := am_lk (z := 1) hlen rfl
    simp only [am_do] at h
    split at h
    · rename_i v rest
      split at h
      · rename_i h1
        cases h
        obtain ⟨v1, v2⟩ := v
        cases h1
        exact am_o_pop2 hF hH hL hLo hso hd kk
      · cases h
    · cases h
  | getfield idx =>
    obtain rfl := am_lk (z := 3) hlen rfl
    simp only [am_do] at h
    split at h
    · rename_i q w ht
      split at h
      · rename_i a rest
        split at h
        · rename_i h1
          obtain ⟨h1, h2⟩ := h1
          cases h
          obtain ⟨a1, a2⟩ := a
          cases h1
          exact am_o_get hF hH hL hLo hso hd ht h2 kk
        · cases h
      · cases h
    · cases h
  | putfield idx =>
    obtain rfl := am_lk (z := 3) hlen rfl
    simp only [am_do] at h
    split at h
    · rename_i q w ht
      split at h
      · rename_i v a rest
        split at h
        · rename_i h1
          obtain ⟨h1, h2, h3, h4, h5⟩ := h1
          cases h
          obtain ⟨a1, a2⟩ := a
          obtain ⟨v1, v2⟩ := v
          cases h1
          dsimp only at h3
          subst h3
          exact am_o_put hF hH hL hLo hso hd ht h2 h4 h5 kk
        · cases h
      · cases h
    · cases h
  | iaload =>
    obtain rfl := am_lk (z := 1) hlen rfl
    simp only [am_do] at h
    unfold am_ald at h
    split at h
    · rename_i j a rest
      split at h
      · rename_i h1
        obtain ⟨h1, h2, h3, h4, h5⟩ := h1
        cases h
        obtain ⟨j1, j2⟩ := j
        obtain ⟨a1, a2⟩ := a
        cases h1; cases h2
        obtain ⟨z, hz⟩ : ∃ z, z = am_kind a2 := ⟨_, rfl⟩
        obtain ⟨z1, z2⟩ := z
        dsimp only at h3 h4 h5
        rw [← hz] at h3 h5
        have h6 : z1 = 1 := by simpa using h3
        subst h6
        exact am_o_iald hF hH hL hLo hso hd hz.symm h4 h5 kk
      · split at h
        · rename_i ln xs
          split at h
          · rename_i h1
            obtain ⟨-, h1, h2, h3, h4⟩ := h1
            cases h
            obtain ⟨j1, j2⟩ := j
            obtain ⟨a1, a2⟩ := a
            cases h1; cases h2
            exact am_o_sld hF hH hL hLo hsc rfl hso hd h3 h4 kk
          · cases h
        · cases h
    · cases h
  | laload =>
    obtain rfl := am_lk (z := 1) hlen rfl
    simp only [am_do] at h
    unfold am_ald at h
    split at h
    · rename_i j a rest
      split at h
      · rename_i h1
        obtain ⟨h1, h2, h3, h4, h5⟩ := h1
        cases h
        obtain ⟨j1, j2⟩ := j
        obtain ⟨a1, a2⟩ := a
        cases h1; cases h2
        obtain ⟨z, hz⟩ : ∃ z, z = am_kind a2 := ⟨_, rfl⟩
        obtain ⟨z1, z2⟩ := z
        dsimp only at h3 h4 h5
        rw [← hz] at h3 h5
        have h6 : z1 = 2 := by simpa using h3
        subst h6
        exact am_o_lald hF hH hL hLo hso hd hz.symm h4 h5 kk
      · cases h
    · cases h
  | aaload =>
    obtain rfl := am_lk (z := 1) hlen rfl
    simp only [am_do] at h
    unfold am_ald at h
    split at h
    · rename_i j a rest
      split at h
      · rename_i h1
        obtain ⟨h1, h2, h3, h4, h5⟩ := h1
        cases h
        obtain ⟨j1, j2⟩ := j
        obtain ⟨a1, a2⟩ := a
        cases h1; cases h2
        obtain ⟨z, hz⟩ : ∃ z, z = am_kind a2 := ⟨_, rfl⟩
        obtain ⟨z1, z2⟩ := z
        dsimp only at h3 h4 h5
        rw [← hz] at h3 h5
        have h6 : z1 = 3 ∨ z1 = 4 := by simpa using h3
        rcases h6 with h6 | h6
        · subst h6
          exact am_o_aald hF hH hL hLo hso hd hz.symm h4 h5 kk
        · subst h6
          exact am_o_ald4 hF hH hL hLo hso hd hz.symm h4 h5 kk
      · cases h
    · cases h
  | iastore =>
    obtain rfl := am_lk (z := 1) hlen rfl
    simp only [am_do] at h
    unfold am_ast at h
    split at h
    · rename_i x j a rest
      split at h
      · rename_i h1
        obtain ⟨h0, h1, h2, h3, h4, h5, h6⟩ := h1
        cases h
        obtain ⟨x1, x2⟩ := x
        obtain ⟨j1, j2⟩ := j
        obtain ⟨a1, a2⟩ := a
        cases h0; cases h1; cases h2
        obtain ⟨z, hz⟩ : ∃ z, z = am_kind a2 := ⟨_, rfl⟩
        obtain ⟨z1, z2⟩ := z
        dsimp only at h3 h4 h5
        rw [← hz] at h3 h5
        cases h3
        exact am_o_iast hF hH hL hLo hso hd hz.symm  h4 h5 kk
      · cases h
    · cases h
  | lastore =>
    obtain rfl := am_lk (z := 1) hlen rfl
    simp only [am_do] at h
    unfold am_ast at h
    split at h
    · rename_i x j a rest
      split at h
      · rename_i h1
        obtain ⟨h0, h1, h2, h3, h4, h5, h6⟩ := h1
        cases h
        obtain ⟨x1, x2⟩ := x
        obtain ⟨j1, j2⟩ := j
        obtain ⟨a1, a2⟩ := a
        cases h0; cases h1; cases h2
        obtain ⟨z, hz⟩ : ∃ z, z = am_kind a2 := ⟨_, rfl⟩
        obtain ⟨z1, z2⟩ := z
        dsimp only at h3 h4 h5
        rw [← hz] at h3 h5
        cases h3
        exact am_o_last hF hH hL hLo hso hd hz.symm  h4 h5 kk
      · cases h
    · cases h
  | aastore =>
    obtain rfl := am_lk (z := 1) hlen rfl
    simp only [am_do] at h
    unfold am_ast at h
    split at h
    · rename_i x j a rest
      split at h
      · rename_i h1
        obtain ⟨h0, h1, h2, h3, h4, h5, h6⟩ := h1
        cases h
        obtain ⟨x1, x2⟩ := x
        obtain ⟨j1, j2⟩ := j
        obtain ⟨a1, a2⟩ := a
        cases h0; cases h1; cases h2
        obtain ⟨z, hz⟩ : ∃ z, z = am_kind a2 := ⟨_, rfl⟩
        obtain ⟨z1, z2⟩ := z
        dsimp only at h3 h4 h5
        rw [← hz] at h3 h5
        cases h3
        exact am_o_aast hF hH hL hLo hso hd hz.symm (h6 rfl) h4 h5 kk
      · cases h
    · cases h
  | arraylength =>
    obtain rfl := am_lk (z := 1) hlen rfl
    simp only [am_do] at h
    split at h
    · rename_i a rest
      split at h
      · rename_i h1
        obtain ⟨h1, h2⟩ := h1
        cases h
        obtain ⟨a1, a2⟩ := a
        cases h1
        exact am_o_alen hF hH hL hLo hso hd rfl h2 (am_kind_lt a2) kk
      · split at h
        · rename_i ln xs
          split at h
          · rename_i h1
            cases h
            obtain ⟨a1, a2⟩ := a
            cases h1
            exact am_o_slen hF hH hL hLo hsc rfl hso hd kk
          · cases h
        · cases h
    · cases h
  | newarray ty =>
    obtain rfl := am_lk (z := 2) hlen rfl
    simp only [am_do] at h
    split at h
    · rename_i v rest
      by_cases h1 : v.1 = 0 ∧ 0 ≤ v.2 ∧ am_kind n = ((if newarray.typeOf ty = .int then 1 else 2), v.2.toNat) ∧ (newarray.typeOf ty = .int ∨ newarray.typeOf ty = .long)
      · rw [if_pos h1] at h
        obtain ⟨v1, v2⟩ := v
        have h2 := h1.2.1
        have h3 := h1.2.2.1
        have h4 := h1.2.2.2
        have h0 : v1 = 0 := h1.1
        clear h1
        subst h0
        cases h
        dsimp only at h2 h3
        by_cases h5 : newarray.typeOf ty = .int
        · rw [if_pos h5] at h3
          exact am_o_newi hF hH hL hLo hso hd h5 h2 h3 hn0 hc hs kk
        · rw [if_neg h5] at h3
          exact am_o_newl hF hH hL hLo hso hd (h4.resolve_left h5) h2 h3 hn0 hc hs kk
      · rw [if_neg h1] at h
        cases h
    · cases h
  | anewarray idx =>
    obtain rfl := am_lk (z := 3) hlen rfl
    simp only [am_do] at h
    split at h
    · rename_i v rest
      split at h
      · rename_i h1
        obtain ⟨h1, h2, h3, h4⟩ := h1
        cases h
        obtain ⟨v1, v2⟩ := v
        cases h1
        exact am_o_newn hF hH hL hLo hso hd h4 h2 h3 hn0 hc hs kk
      · cases h
    · cases h
  | multianewarray idx d =>
    obtain rfl := am_lk (z := 4) hlen rfl
    simp only [am_do] at h
    split at h
    · rename_i v w rest
      split at h
      · rename_i h1
        obtain ⟨h0, h1, h2, h3, h4, h5, h6, h7, h8⟩ := h1
        cases h
        subst h0
        obtain ⟨v1, v2⟩ := v
        obtain ⟨w1, w2⟩ := w
        cases h1; cases h2
        exact am_o_mna hF hH hL hLo hso hd h8 h3 h4 h5 h6 h7 hn0 hc hs kk
      · cases h
    · cases h
  | new idx =>
    obtain rfl := am_lk (z := 3) hlen rfl
    simp only [am_do] at h
    split at h
    · rename_i ci w ht
      split at h
      · rename_i h1
        cases h
        exact am_o_new hF hH hL hLo hso hd ht h1.2 h1.1 hn0 hc hs kk
      · cases h
    · cases h
  | invokespecial idx =>
    obtain rfl := am_lk (z := 3) hlen rfl
    simp only [am_do] at h
    split at h
    · rename_i w ht
      split at h
      · rename_i a rest
        split at h
        · rename_i h1
          obtain ⟨h1, h2, h3, h4, h5⟩ := h1
          cases h
          obtain ⟨a1, a2⟩ := a
          cases h1
          exact am_o_oinit hF hH hL hLo hso hd ht h2 h3 h4 h5 kk
        · cases h
      · cases h
    · exact absurd h (am_call_ninl _ _ _ _ _)
  | invokevirtual idx =>
    obtain rfl := am_lk (z := 3) hlen rfl
    simp only [am_do] at h
    exact absurd h (am_call_ninl _ _ _ _ _)
  | invokestatic idx =>
    obtain rfl := am_lk (z := 3) hlen rfl
    simp only [am_do] at h
    split at h
    · rename_i f w ht
      by_cases hfl : 1 ≤ am_fr k ∧ 23 ≤ am_lo k
      · rw [if_pos hfl] at h
        have h9 := am_mts3 ht
        obtain rfl | rfl | rfl | rfl : f = 0 ∨ f = 1 ∨ f = 2 ∨ f = 3 := by omega
        · obtain ⟨x, rest, e0, h2, e⟩ := am_mabs_inv (show am_mabs pc L st n μ = _ from h)
          subst e0
          cases e
          exact am_o_abs hF hH hL hLo hso hd ht h2 hfl.1 hfl.2 hc hs kk
        · obtain ⟨x, y, rest, e0, h2, e⟩ := am_m2_inv (show am_m2 0 max pc L st n μ = _ from h)
          subst e0
          cases e
          exact am_o_max hF hH hL hLo hso hd ht h2 hfl.1 hfl.2 hc hs kk
        · obtain ⟨x, y, rest, e0, h2, e⟩ := am_m2_inv (show am_m2 0 min pc L st n μ = _ from h)
          subst e0
          cases e
          exact am_o_min hF hH hL hLo hso hd ht h2 hfl.1 hfl.2 hc hs kk
        · obtain ⟨x, y, rest, e0, h2, e⟩ := am_m2_inv (show am_m2 1 min pc L st n μ = _ from h)
          subst e0
          cases e
          exact am_o_minl hF hH hL hLo hso hd ht h2 hfl.1 hfl.2 hc hs kk
      · rw [if_neg hfl] at h
        cases h
    · exact absurd h (am_call_ninl _ _ _ _ _)
  | ireturn =>
    obtain rfl := am_lk (z := 1) hlen rfl
    simp only [am_do] at h
    split at h
    · split at h
      · cases h
      · cases h
    · cases h
  | lreturn =>
    obtain rfl := am_lk (z := 1) hlen rfl
    simp only [am_do] at h
    split at h
    · split at h
      · cases h
      · cases h
    · cases h
  | areturn =>
    obtain rfl := am_lk (z := 1) hlen rfl
    simp only [am_do] at h
    split at h
    · split at h
      · cases h
      · cases h
    · cases h
  | return_ =>
    obtain rfl := am_lk (z := 1) hlen rfl
    simp only [am_do] at h
    split at h
    · split at h
      · cases h
      · cases h
    · cases h
  | _ => exact absurd h (by simp [am_do])
end
end
section
set_option maxHeartbeats 1000000 in
theorem am_do_call {sc : am_Sc} {k pc : Nat} {ins : Instr} {L st : List am_V} {n : Nat} {μ : am_M} {q : Nat × List am_V × List am_V} (h : am_do sc k pc ins L st n μ = some (.inr (.inl q))) : ∃ (kd idx : Nat), ((ins = .invokevirtual idx ∧ kd = 0) ∨ (ins = .invokestatic idx ∧ kd = 1) ∨ (ins = .invokespecial idx ∧ kd = 2)) ∧ am_call kd k idx L st = some (.inr (.inl q)) := by
  cases ins with
  | iconst i =>
    simp only [am_do] at h
    repeat' (first | (cases h; done) | split at h)
  | bipush i =>
    simp only [am_do] at h
    repeat' (first | (cases h; done) | split at h)
  | sipush i =>
    simp only [am_do] at h
    repeat' (first | (cases h; done) | split at h)
  | ldc idx =>
    simp only [am_do] at h
    repeat' (first | (cases h; done) | split at h)
  | ldc2_w idx =>
    simp only [am_do] at h
    repeat' (first | (cases h; done) | split at h)
  | iinc i d =>
    simp only [am_do] at h
    repeat' (first | (cases h; done) | split at h)
  | dup =>
    simp only [am_do] at h
    repeat' (first | (cases h; done) | split at h)
  | dup_x1 =>
    simp only [am_do] at h
    repeat' (first | (cases h; done) | split at h)
  | dup2 =>
    simp only [am_do] at h
    repeat' (first | (cases h; done) | split at h)
  | pop =>
    simp only [am_do] at h
    repeat' (first | (cases h; done) | split at h)
  | pop2 =>
    simp only [am_do] at h
    repeat' (first | (cases h; done) | split at h)
  | getfield idx =>
    simp only [am_do] at h
    repeat' (first | (cases h; done) | split at h)
  | putfield idx =>
    simp only [am_do] at h
    repeat' (first | (cases h; done) | split at h)
  | arraylength =>
    simp only [am_do] at h
    repeat' (first | (cases h; done) | split at h)
  | anewarray idx =>
    simp only [am_do] at h
    repeat' (first | (cases h; done) | split at h)
  | multianewarray idx d =>
    simp only [am_do] at h
    repeat' (first | (cases h; done) | split at h)
  | new idx =>
    simp only [am_do] at h
    repeat' (first | (cases h; done) | split at h)
  | lconst i =>
    simp only [am_do] at h
    cases h
  | aconst_null =>
    simp only [am_do] at h
    cases h
  | iload i =>
    simp only [am_do] at h
    obtain ⟨x, hi, e⟩ := am_ld_inv h
    cases e
  | iload_n i =>
    simp only [am_do] at h
    obtain ⟨x, hi, e⟩ := am_ld_inv h
    cases e
  | lload i =>
    simp only [am_do] at h
    obtain ⟨x, hi, e⟩ := am_ld_inv h
    cases e
  | lload_n i =>
    simp only [am_do] at h
    obtain ⟨x, hi, e⟩ := am_ld_inv h
    cases e
  | aload i =>
    simp only [am_do] at h
    obtain ⟨v, hi, hv, e⟩ := am_lda_inv h
    cases e
  | aload_n i =>
    simp only [am_do] at h
    obtain ⟨v, hi, hv, e⟩ := am_lda_inv h
    cases e
  | istore i =>
    simp only [am_do] at h
    obtain ⟨x, rest, e0, hi, e⟩ := am_st1_inv h
    cases e
  | istore_n i =>
    simp only [am_do] at h
    obtain ⟨x, rest, e0, hi, e⟩ := am_st1_inv h
    cases e
  | astore i =>
    simp only [am_do] at h
    obtain ⟨x, rest, e0, hi, e⟩ := am_st1_inv h
    cases e
  | astore_n i =>
    simp only [am_do] at h
    obtain ⟨x, rest, e0, hi, e⟩ := am_st1_inv h
    cases e
  | lstore i =>
    simp only [am_do] at h
    obtain ⟨x, rest, e0, hi, e⟩ := am_st2_inv h
    cases e
  | lstore_n i =>
    simp only [am_do] at h
    obtain ⟨x, rest, e0, hi, e⟩ := am_st2_inv h
    cases e
  | iadd =>
    simp only [am_do] at h
    obtain ⟨x, y, rest, e0, e⟩ := am_bin_inv h
    cases e
  | isub =>
    simp only [am_do] at h
    obtain ⟨x, y, rest, e0, e⟩ := am_bin_inv h
    cases e
  | imul =>
    simp only [am_do] at h
    obtain ⟨x, y, rest, e0, e⟩ := am_bin_inv h
    cases e
  | iand =>
    simp only [am_do] at h
    obtain ⟨x, y, rest, e0, e⟩ := am_bin_inv h
    cases e
  | ior =>
    simp only [am_do] at h
    obtain ⟨x, y, rest, e0, e⟩ := am_bin_inv h
    cases e
  | ishl =>
    simp only [am_do] at h
    obtain ⟨x, y, rest, e0, e⟩ := am_bin_inv h
    cases e
  | ishr =>
    simp only [am_do] at h
    obtain ⟨x, y, rest, e0, e⟩ := am_bin_inv h
    cases e
  | ladd =>
    simp only [am_do] at h
    obtain ⟨x, y, rest, e0, e⟩ := am_bin_inv h
    cases e
  | lmul =>
    simp only [am_do] at h
    obtain ⟨x, y, rest, e0, e⟩ := am_bin_inv h
    cases e
  | lcmp =>
    simp only [am_do] at h
    obtain ⟨x, y, rest, e0, e⟩ := am_bin_inv h
    cases e
  | ineg =>
    simp only [am_do] at h
    obtain ⟨x, rest, e0, e⟩ := am_un_inv h
    cases e
  | i2l =>
    simp only [am_do] at h
    obtain ⟨x, rest, e0, e⟩ := am_un_inv h
    cases e
  | l2i =>
    simp only [am_do] at h
    obtain ⟨x, rest, e0, e⟩ := am_un_inv h
    cases e
  | if_icmp c off =>
    simp only [am_do] at h
    split at h
    · split at h
      · obtain ⟨tgt, ht, e⟩ := am_if_inv h
        cases e
      · cases h
    · cases h
  | ifCond c off =>
    simp only [am_do] at h
    split at h
    · split at h
      · obtain ⟨tgt, ht, e⟩ := am_if_inv h
        cases e
      · cases h
    · cases h
  | ifnull off =>
    simp only [am_do] at h
    split at h
    · split at h
      · obtain ⟨tgt, ht, e⟩ := am_if_inv h
        cases e
      · cases h
    · cases h
  | ifnonnull off =>
    simp only [am_do] at h
    split at h
    · split at h
      · obtain ⟨tgt, ht, e⟩ := am_if_inv h
        cases e
      · cases h
    · cases h
  | goto off =>
    simp only [am_do] at h
    obtain ⟨tgt, ht, e⟩ := am_go_inv h
    cases e
  | tableswitch dflt lo hi offs =>
    simp only [am_do] at h
    split at h
    · split at h
      · split at h
        · obtain ⟨tgt, ht, e⟩ := am_go_inv h
          cases e
        · split at h
          · obtain ⟨tgt, ht, e⟩ := am_go_inv h
            cases e
          · cases h
      · cases h
    · cases h
  | iaload =>
    simp only [am_do] at h
    unfold am_ald at h
    repeat' (first | (cases h; done) | split at h)
  | laload =>
    simp only [am_do] at h
    unfold am_ald at h
    repeat' (first | (cases h; done) | split at h)
  | aaload =>
    simp only [am_do] at h
    unfold am_ald at h
    repeat' (first | (cases h; done) | split at h)
  | iastore =>
    simp only [am_do] at h
    unfold am_ast at h
    repeat' (first | (cases h; done) | split at h)
  | lastore =>
    simp only [am_do] at h
    unfold am_ast at h
    repeat' (first | (cases h; done) | split at h)
  | aastore =>
    simp only [am_do] at h
    unfold am_ast at h
    repeat' (first | (cases h; done) | split at h)
  | newarray ty =>
    simp only [am_do] at h
    split at h
    · rename_i v rest
      by_cases h1 : v.1 = 0 ∧ 0 ≤ v.2 ∧ am_kind n = ((if newarray.typeOf ty = .int then 1 else 2), v.2.toNat) ∧ (newarray.typeOf ty = .int ∨ newarray.typeOf ty = .long)
      · rw [if_pos h1] at h; cases h
      · rw [if_neg h1] at h; cases h
    · cases h
  | invokevirtual idx =>
    simp only [am_do] at h
    exact ⟨0, idx, Or.inl ⟨rfl, rfl⟩, h⟩
  | invokestatic idx =>
    simp only [am_do] at h
    split at h
    · rename_i f w ht
      by_cases hfl : 1 ≤ am_fr k ∧ 23 ≤ am_lo k
      · rw [if_pos hfl] at h
        have h9 := am_mts3 ht
        obtain rfl | rfl | rfl | rfl : f = 0 ∨ f = 1 ∨ f = 2 ∨ f = 3 := by omega
        · obtain ⟨x, rest, e0, h2, e⟩ := am_mabs_inv (show am_mabs pc L st n μ = _ from h)
          cases e
        · obtain ⟨x, y, rest, e0, h2, e⟩ := am_m2_inv (show am_m2 0 max pc L st n μ = _ from h)
          cases e
        · obtain ⟨x, y, rest, e0, h2, e⟩ := am_m2_inv (show am_m2 0 min pc L st n μ = _ from h)
          cases e
        · obtain ⟨x, y, rest, e0, h2, e⟩ := am_m2_inv (show am_m2 1 min pc L st n μ = _ from h)
          cases e
      · rw [if_neg hfl] at h
        cases h
    · exact ⟨1, idx, Or.inr (Or.inl ⟨rfl, rfl⟩), h⟩
  | invokespecial idx =>
    simp only [am_do] at h
    split at h
    · split at h
      · split at h
        · cases h
        · cases h
      · cases h
    · exact ⟨2, idx, Or.inr (Or.inr ⟨rfl, rfl⟩), h⟩
  | ireturn =>
    simp only [am_do] at h
    split at h
    · split at h
      · cases h
      · cases h
    · cases h
  | lreturn =>
    simp only [am_do] at h
    split at h
    · split at h
      · cases h
      · cases h
    · cases h
  | areturn =>
    simp only [am_do] at h
    split at h
    · split at h
      · cases h
      · cases h
    · cases h
  | return_ =>
    simp only [am_do] at h
    split at h
    · split at h
      · cases h
      · cases h
    · cases h
  | _ => exact absurd h (by simp [am_do])
def am_isr (k : Nat) (ins : Instr) (r : Option am_V) : Prop := (ins = .ireturn ∧ ∃ x, r = some (0, x) ∧ (am_rt k = some .int ∨ am_rt k = some .boolean ∧ (x = 0 ∨ x = 1))) ∨ (ins = .lreturn ∧ ∃ x, r = some (1, x) ∧ am_rt k = some .long) ∨ (ins = .areturn ∧ ∃ x, r = some (2, x) ∧ am_rt k = some (.object RX3)) ∨ (ins = .return_ ∧ r = none ∧ am_rt k = none)
theorem am_call_nret (kd k idx : Nat) (L st : List am_V) {q : Option am_V} : ¬ am_call kd k idx L st = some (.inr (.inr q)) := by
  unfold am_call
  intro h
  split at h
  · split at h
    · split at h
      · split at h
        · cases h
        · cases h
      · split at h
        · split at h
          · cases h
          · cases h
        · cases h
    · cases h
  · cases h
set_option maxHeartbeats 1000000 in
theorem am_do_ret {sc : am_Sc} {k pc : Nat} {ins : Instr} {L st : List am_V} {n : Nat} {μ : am_M} {r : Option am_V} (h : am_do sc k pc ins L st n μ = some (.inr (.inr r))) : st = r.toList ∧ am_isr k ins r := by
  cases ins with
  | iconst i =>
    simp only [am_do] at h
    repeat' (first | (cases h; done) | split at h)
  | bipush i =>
    simp only [am_do] at h
    repeat' (first | (cases h; done) | split at h)
  | sipush i =>
    simp only [am_do] at h
    repeat' (first | (cases h; done) | split at h)
  | ldc idx =>
    simp only [am_do] at h
    repeat' (first | (cases h; done) | split at h)
  | ldc2_w idx =>
    simp only [am_do] at h
    repeat' (first | (cases h; done) | split at h)
  | iinc i d =>
    simp only [am_do] at h
    repeat' (first | (cases h; done) | split at h)
  | dup =>
    simp only [am_do] at h
    repeat' (first | (cases h; done) | split at h)
  | dup_x1 =>
    simp only [am_do] at h
    repeat' (first | (cases h; done) | split at h)
  | dup2 =>
    simp only [am_do] at h
    repeat' (first | (cases h; done) | split at h)
  | pop =>
    simp only [am_do] at h
    repeat' (first | (cases h; done) | split at h)
  | pop2 =>
    simp only [am_do] at h
    repeat' (first | (cases h; done) | split at h)
  | getfield idx =>
    simp only [am_do] at h
    repeat' (first | (cases h; done) | split at h)
  | putfield idx =>
    simp only [am_do] at h
    repeat' (first | (cases h; done) | split at h)
  | arraylength =>
    simp only [am_do] at h
    repeat' (first | (cases h; done) | split at h)
  | anewarray idx =>
    simp only [am_do] at h
    repeat' (first | (cases h; done) | split at h)
  | multianewarray idx d =>
    simp only [am_do] at h
    repeat' (first | (cases h; done) | split at h)
  | new idx =>
    simp only [am_do] at h
    repeat' (first | (cases h; done) | split at h)
  | lconst i =>
    simp only [am_do] at h
    cases h
  | aconst_null =>
    simp only [am_do] at h
    cases h
  | iload i =>
    simp only [am_do] at h
    obtain ⟨x, hi, e⟩ := am_ld_inv h
    cases e
  | iload_n i =>
    simp only [am_do] at h
    obtain ⟨x, hi, e⟩ := am_ld_inv h
    cases e
  | lload i =>
    simp only [am_do] at h
    obtain ⟨x, hi, e⟩ := am_ld_inv h
    cases e
  | lload_n i =>
    simp only [am_do] at h
    obtain ⟨x, hi, e⟩ := am_ld_inv h
    cases e
  | aload i =>
    simp only [am_do] at h
    obtain ⟨v, hi, hv, e⟩ := am_lda_inv h
    cases e
  | aload_n i =>
    simp only [am_do] at h
    obtain ⟨v, hi, hv, e⟩ := am_lda_inv h
    cases e
  | istore i =>
    simp only [am_do] at h
    obtain ⟨x, rest, e0, hi, e⟩ := am_st1_inv h
    cases e
  | istore_n i =>
    simp only [am_do] at h
    obtain ⟨x, rest, e0, hi, e⟩ := am_st1_inv h
    cases e
  | astore i =>
    simp only [am_do] at h
    obtain ⟨x, rest, e0, hi, e⟩ := am_st1_inv h
    cases e
  | astore_n i =>
    simp only [am_do] at h
    obtain ⟨x, rest, e0, hi, e⟩ := am_st1_inv h
    cases e
  | lstore i =>
    simp only [am_do] at h
    obtain ⟨x, rest, e0, hi, e⟩ := am_st2_inv h
    cases e
  | lstore_n i =>
    simp only [am_do] at h
    obtain ⟨x, rest, e0, hi, e⟩ := am_st2_inv h
    cases e
  | iadd =>
    simp only [am_do] at h
    obtain ⟨x, y, rest, e0, e⟩ := am_bin_inv h
    cases e
  | isub =>
    simp only [am_do] at h
    obtain ⟨x, y, rest, e0, e⟩ := am_bin_inv h
    cases e
  | imul =>
    simp only [am_do] at h
    obtain ⟨x, y, rest, e0, e⟩ := am_bin_inv h
    cases e
  | iand =>
    simp only [am_do] at h
    obtain ⟨x, y, rest, e0, e⟩ := am_bin_inv h
    cases e
  | ior =>
    simp only [am_do] at h
    obtain ⟨x, y, rest, e0, e⟩ := am_bin_inv h
    cases e
  | ishl =>
    simp only [am_do] at h
    obtain ⟨x, y, rest, e0, e⟩ := am_bin_inv h
    cases e
  | ishr =>
    simp only [am_do] at h
    obtain ⟨x, y, rest, e0, e⟩ := am_bin_inv h
    cases e
  | ladd =>
    simp only [am_do] at h
    obtain ⟨x, y, rest, e0, e⟩ := am_bin_inv h
    cases e
  | lmul =>
    simp only [am_do] at h
    obtain ⟨x, y, rest, e0, e⟩ := am_bin_inv h
    cases e
  | lcmp =>
    simp only [am_do] at h
    obtain ⟨x, y, rest, e0, e⟩ := am_bin_inv h
    cases e
  | ineg =>
    simp only [am_do] at h
    obtain ⟨x, rest, e0, e⟩ := am_un_inv h
    cases e
  | i2l =>
    simp only [am_do] at h
    obtain ⟨x, rest, e0, e⟩ := am_un_inv h
    cases e
  | l2i =>
    simp only [am_do] at h
    obtain ⟨x, rest, e0, e⟩ := am_un_inv h
    cases e
  | if_icmp c off =>
    simp only [am_do] at h
    split at h
    · split at h
      · obtain ⟨tgt, ht, e⟩ := am_if_inv h
        cases e
      · cases h
    · cases h
  | ifCond c off =>
    simp only [am_do] at h
    split at h
    · split at h
      · obtain ⟨tgt, ht, e⟩ := am_if_inv h
        cases e
      · cases h
    · cases h
  | ifnull off =>
    simp only [am_do] at h
    split at h
    · split at h
      · obtain ⟨tgt, ht, e⟩ := am_if_inv h
        cases e
      · cases h
    · cases h
  | ifnonnull off =>
    simp only [am_do] at h
    split at h
    · split at h
      · obtain ⟨tgt, ht, e⟩ := am_if_inv h
        cases e
      · cases h
    · cases h
  | goto off =>
    simp only [am_do] at h
    obtain ⟨tgt, ht, e⟩ := am_go_inv h
    cases e
  | tableswitch dflt lo hi offs =>
    simp only [am_do] at h
    split at h
    · split at h
      · split at h
        · obtain ⟨tgt, ht, e⟩ := am_go_inv h
          cases e
        · split at h
          · obtain ⟨tgt, ht, e⟩ := am_go_inv h
            cases e
          · cases h
      · cases h
    · cases h
  | iaload =>
    simp only [am_do] at h
    unfold am_ald at h
    repeat' (first | (cases h; done) | split at h)
  | laload =>
    simp only [am_do] at h
    unfold am_ald at h
    repeat' (first | (cases h; done) | split at h)
  | aaload =>
    simp only [am_do] at h
    unfold am_ald at h
    repeat' (first | (cases h; done) | split at h)
  | iastore =>
    simp only [am_do] at h
    unfold am_ast at h
    repeat' (first | (cases h; done) | split at h)
  | lastore =>
    simp only [am_do] at h
    unfold am_ast at h
    repeat' (first | (cases h; done) | split at h)
  | aastore =>
    simp only [am_do] at h
    unfold am_ast at h
    repeat' (first | (cases h; done) | split at h)
  | newarray ty =>
    simp only [am_do] at h
    split at h
    · rename_i v rest
      by_cases h1 : v.1 = 0 ∧ 0 ≤ v.2 ∧ am_kind n = ((if newarray.typeOf ty = .int then 1 else 2), v.2.toNat) ∧ (newarray.typeOf ty = .int ∨ newarray.typeOf ty = .long)
      · rw [if_pos h1] at h; cases h
      · rw [if_neg h1] at h; cases h
    · cases h
  | invokevirtual idx =>
    simp only [am_do] at h
    exact absurd h (am_call_nret _ _ _ _ _)
  | invokestatic idx =>
    simp only [am_do] at h
    split at h
    · rename_i f w ht
      by_cases hfl : 1 ≤ am_fr k ∧ 23 ≤ am_lo k
      · rw [if_pos hfl] at h
        have h9 := am_mts3 ht
        obtain rfl | rfl | rfl | rfl : f = 0 ∨ f = 1 ∨ f = 2 ∨ f = 3 := by omega
        · obtain ⟨x, rest, e0, h2, e⟩ := am_mabs_inv (show am_mabs pc L st n μ = _ from h)
          cases e
        · obtain ⟨x, y, rest, e0, h2, e⟩ := am_m2_inv (show am_m2 0 max pc L st n μ = _ from h)
          cases e
        · obtain ⟨x, y, rest, e0, h2, e⟩ := am_m2_inv (show am_m2 0 min pc L st n μ = _ from h)
          cases e
        · obtain ⟨x, y, rest, e0, h2, e⟩ := am_m2_inv (show am_m2 1 min pc L st n μ = _ from h)
          cases e
      · rw [if_neg hfl] at h
        cases h
    · exact absurd h (am_call_nret _ _ _ _ _)
  | invokespecial idx =>
    simp only [am_do] at h
    split at h
    · split at h
      · split at h
        · cases h
        · cases h
      · cases h
    · exact absurd h (am_call_nret _ _ _ _ _)
  | ireturn =>
    simp only [am_do] at h
    split at h
    · rename_i v
      split at h
      · rename_i h1
        cases h
        obtain ⟨v1, v2⟩ := v
        obtain ⟨h1, h2⟩ := h1
        cases h1
        exact ⟨rfl, Or.inl ⟨rfl, v2, rfl, h2⟩⟩
      · cases h
    · cases h
  | lreturn =>
    simp only [am_do] at h
    split at h
    · rename_i v
      split at h
      · rename_i h1
        cases h
        obtain ⟨v1, v2⟩ := v
        obtain ⟨h1, h2⟩ := h1
        cases h1
        exact ⟨rfl, Or.inr (Or.inl ⟨rfl, v2, rfl, h2⟩)⟩
      · cases h
    · cases h
  | areturn =>
    simp only [am_do] at h
    split at h
    · rename_i v
      split at h
      · rename_i h1
        cases h
        obtain ⟨v1, v2⟩ := v
        obtain ⟨h1, h2⟩ := h1
        cases h1
        exact ⟨rfl, Or.inr (Or.inr (Or.inl ⟨rfl, v2, rfl, h2⟩))⟩
      · cases h
    · cases h
  | return_ =>
    simp only [am_do] at h
    split at h
    · split at h
      · rename_i h1
        cases h
        exact ⟨rfl, Or.inr (Or.inr (Or.inr ⟨rfl, rfl, h1⟩))⟩
      · cases h
    · cases h
  | _ => exact absurd h (by simp [am_do])
theorem am_call_inv {kd k idx : Nat} {L st : List am_V} {k' : Nat} {as rest : List am_V} (h : am_call kd k idx L st = some (.inr (.inl (k', as, rest)))) : ∃ w1 w2 : Nat, am_mls.lookup (am_cl k, idx) = some (k', w1, w2) ∧ am_kd k' = kd ∧ am_fr k' + 1 ≤ am_fr k ∧ 19 + am_ml k' + am_lo k' ≤ am_lo k ∧ k' < am_lawk ∧ am_cats as ≤ am_ml k' ∧ am_cats rest ≤ 8 ∧ ((kd = 1 ∧ as.length = am_na k' ∧ st = as.reverse ++ rest) ∨ (kd ≠ 1 ∧ ∃ (x : Int) (as' : List am_V), as = (2, x) :: as' ∧ am_kind x = (0, am_cl k') ∧ as'.length = am_na k' ∧ st = as'.reverse ++ (2, x) :: rest)) := by
  unfold am_call at h
  split at h
  · rename_i k1 w1 w2 ht
    split at h
    · rename_i h1
      obtain ⟨h1, h2, h3, h4⟩ := h1
      split at h
      · rename_i hkd
        split at h
        · rename_i h5
          obtain ⟨h5, h6, h7, h8⟩ := h5
          cases h
          refine ⟨w1, w2, ht, h1, h2, h3, h4, h8, h7, Or.inl ⟨hkd, ?_, ?_⟩⟩
          · simp; omega
          · rw [List.reverse_reverse, List.take_append_drop]
        · cases h
      · rename_i hkd
        split at h
        · rename_i a rest1 hdr
          split at h
          · rename_i h5
            obtain ⟨h5, h6, h7, h8, h9⟩ := h5
            cases h
            obtain ⟨a1, a2⟩ := a
            cases h5
            refine ⟨w1, w2, ht, h1, h2, h3, h4, h9, h8, Or.inr ⟨hkd, a2, _, rfl, h6, ?_, ?_⟩⟩
            · have : (st.drop (am_na k')).length ≠ 0 := by rw [hdr]; simp
              simp at this ⊢
              omega
            · rw [List.reverse_reverse, ← hdr, List.take_append_drop]
          · cases h
        · cases h
    · cases h
  · cases h
theorem am_v_mls1 : am_mls.all (fun q => (decide (q.2.2.1 = 0) || decide (am_kd q.2.1 ≠ 0)) && (decide (am_kd q.2.1 ≠ 2) || decide (am_rt q.2.1 = none)) && decide (am_cl q.2.1 < 8)) = true := by decide +kernel
end
section
/-! a run of the abstract machine is a run of the machine -/
def am_rm (k n n' : Nat) : Room := { frames := am_fr k, cells := n' - n, slots := am_sl n' - am_sl n, locals := am_lo k }
def am_ws (k : Nat) : List Cond := Cond.code (am_y k) (am_by k) (am_ml k) (am_rt k) :: am_tb
def am_Pc (D : va_G) (dA : Nat → ClassId) (b : Nat) (ad : Nat → Nat) (n : Nat) (μ : am_M) (as : List am_V) (sz : Nat) : Array Value → State → Prop := va_Pc (as.map (am_cv b ad)) (fun U => U.heap.size = sz ∧ va_P D vwCl (am_W dA b ad n μ) U.heap ∧ va_K D vwCl (am_tys dA) U ∧ va_D (fun _ => True) (am_W dA b ad n μ) ∧ am_X U)
def am_Qc (D : va_G) (dA : Nat → ClassId) (b : Nat) (ad : Nat → Nat) (n : Nat) (μ : am_M) (sz : Nat) (r : Option am_V) (n' : Nat) (μ' : am_M) : Array Value → State → Outcome → State → Prop := fun _ st oc t => (∃ ad' : Nat → Nat, (∀ i, i < n → ad' i = ad i) ∧ oc = .returned (r.map (am_cv b ad')) ∧ va_P D vwCl (am_W dA b ad' n' μ') t.heap ∧ va_D (va_A (am_W dA b ad n μ) sz) (am_W dA b ad' n' μ') ∧ am_G n' μ' ∧ ∀ v, r = some v → am_ok n' v) ∧ va_F (va_A (am_W dA b ad n μ) sz) st t
theorem am_ex_mono {f : Nat} : ∀ {sc : am_Sc} {k pc : Nat} {L st : List am_V} {n : Nat} {μ : am_M} {r : Option am_V} {n' : Nat} {μ' : am_M}, am_ex f sc k pc L st n μ = some (r, n', μ') → n ≤ n' := by
  induction f with
  | zero => intro sc k pc L st n μ r n' μ' h; cases h
  | succ f ih =>
    intro sc k pc L st n μ r n' μ' h
    simp only [am_ex] at h
    split at h
    · cases h
    · split at h
      · rename_i hle
        exact Nat.le_trans hle (ih h)
      · cases h
    · split at h
      · cases h
      · rename_i h1
        exact Nat.le_trans (ih h1) (ih h)
    · cases h
      exact Nat.le_refl _
theorem am_step_inv {sc : am_Sc} {k pc : Nat} {L st : List am_V} {n : Nat} {μ : am_M} {q : am_R} (h : am_step sc k pc L st n μ = some q) : ∃ (ins : Instr) (len : Nat), decode (am_by k) pc = .ok (ins, len) ∧ am_len_ok ins len = true ∧ am_do sc k pc ins L st n μ = some q := by
  unfold am_step at h
  split at h
  · rename_i ins len hd
    split at h
    · rename_i hl
      exact ⟨ins, len, hd, hl, h⟩
    · cases h
  · cases h
theorem am_cats_cons (v : am_V) (r : List am_V) : am_cats (v :: r) = am_cat v + am_cats r := rfl
theorem am_ent_len (as : List am_V) : (am_ent as).length = am_cats as := by
  induction as with
  | nil => rfl
  | cons v r ih =>
    rw [am_cats_cons]
    unfold am_ent am_cat
    split
    · simp only [List.length_cons, ih]
      omega
    · simp only [List.length_cons, ih]
      omega
theorem am_ar1 {n0 n n1 R : Nat} (h1 : n0 ≤ n) (h2 : n ≤ n1) (h3 : n1 - n0 ≤ R) : n - n0 + (n1 - n) ≤ R := by omega
theorem am_ar2 {n0 n n1 : Nat} (h1 : n0 ≤ n) (h2 : n ≤ n1) : n - n0 + (n1 - n) = n1 - n0 := by omega
theorem am_sl_len {b : Nat} {ad : Nat → Nat} (as : List am_V) : (lg_sl (as.map (am_cv b ad))).length = am_cats as := by
  induction as with
  | nil => rfl
  | cons v r ih =>
    unfold lg_sl at ih ⊢
    rw [List.map_cons, List.flatMap_cons, List.length_append, ih]
    unfold am_cats
    rw [List.map_cons, List.sum_cons, am_cat_cv]
    congr 1
    unfold am_cat
    split
    · rfl
    · rfl
theorem am_ent_args {b : Nat} {ad : Nat → Nat} (as : List am_V) : ∀ (o i : Nat) (v : am_V), (am_ent as)[i]? = some v → v.1 ≤ 3 → (o + i, am_cv b ad v) ∈ lv_args o (as.map (am_cv b ad)) := by
  induction as with
  | nil => intro o i v h; simp [am_ent] at h
  | cons w r ih =>
    intro o i v h hv
    unfold am_ent at h
    rw [List.map_cons]
    unfold lv_args
    rw [am_cat_cv]
    unfold am_cat
    split at h
    · rename_i h1
      rw [if_pos h1, if_pos rfl]
      match i, h with
      | 0, h => cases h; exact List.mem_cons_self
      | 1, h => cases h; exact absurd hv (by decide)
      | i + 2, h =>
        have := ih (o + 2) i v h hv
        rw [show o + 2 + i = o + (i + 2) by omega] at this
        exact List.mem_cons_of_mem _ this
    · rename_i h1
      rw [if_neg h1, if_neg (by decide)]
      match i, h with
      | 0, h => cases h; exact List.mem_cons_self
      | i + 1, h =>
        have := ih (o + 1) i v h hv
        rw [show o + 1 + i = o + (i + 1) by omega] at this
        exact List.mem_cons_of_mem _ this
theorem am_entry_L {b : Nat} {ad : Nat → Nat} {k : Nat} {as : List am_V} (h : am_cats as ≤ am_ml k) : am_L b ad (am_entry k as) ((lg_sl (as.map (am_cv b ad)) ++ List.replicate (am_ml k - (lg_sl (as.map (am_cv b ad))).length) Slot.unset).toArray) (am_ml k) := by
  have h1 := lv_entry (as.map (am_cv b ad)) (n := am_ml k) (by rw [am_sl_len]; exact h)
  refine ⟨h1.1, h1.2.1, ?_, fun i v hi hv => ?_⟩
  · unfold am_entry
    rw [List.length_append, List.length_replicate, am_ent_len]
    omega
  · unfold am_entry at hi
    rw [List.getElem?_append] at hi
    split at hi
    · have := am_ent_args (b := b) (ad := ad) as 0 i v hi hv
      rw [Nat.zero_add] at this
      exact h1.2.2 _ this
    · rw [List.getElem?_replicate] at hi
      split at hi
      · cases hi; exact absurd hv (by decide)
      · cases hi
theorem am_entry_oks {n k : Nat} {as : List am_V} (h : am_oks n as) : am_oks n (am_entry k as) := by
  have h1 : am_oks n (am_ent as) := by
    induction as with
    | nil => intro v hv; cases hv
    | cons w r ih =>
      unfold am_ent
      split
      · exact am_oks_cons (am_oks_head h) (am_oks_cons trivial (ih (am_oks_tail h)))
      · exact am_oks_cons (am_oks_head h) (ih (am_oks_tail h))
  intro v hv
  unfold am_entry at hv
  rcases List.mem_append.mp hv with h2 | h2
  · exact h1 v h2
  · rw [List.eq_of_mem_replicate h2]; trivial
/-- what is to be shown of runs with fuel f -/
def am_Sound (f : Nat) : Prop := ∀ {sc : am_Sc} {k pc : Nat} {L st : List am_V} {n : Nat} {μ : am_M} {r : Option am_V} {n' : Nat} {μ' : am_M}, am_ex f sc k pc L st n μ = some (r, n', μ') → ∀ {p : Program} {l : Launch} {e : Env} {R : Room} {s : State} {m : MethodId} {args : Array Value} {below : List Frame} {meth : Method} {c : Code} {Q : State → Prop} {D : va_G} {dA : Nat → ClassId} {b : Nat} {A : Nat → Prop} {n0 : Nat} {ad : Nat → Nat} {cls : Array Slot} {H : Heap} {locs : List Loc}, am_F p R s m args meth c k → am_H D dA b A s ad n μ H locs → am_Scr sc b A s → am_L b ad L cls (am_ml k) → am_oks n L → am_oks n st → n0 ≤ n → n' - n0 ≤ R.cells → am_sl n' - am_sl n0 ≤ R.slots →
  (∀ (ad' : Nat → Nat) (cls' : Array Slot) (H' : Heap) (locs' : List Loc) (pc' : Nat) (ins : Instr), (∀ i, i < n → ad' i = ad i) → am_H D dA b A s ad' n' μ' H' locs' → (∀ v, r = some v → am_ok n' v) → decode (am_by k) pc' = .ok (ins, 1) → am_isr k ins r → W p l e R s m args below meth c H' locs' (n' - n0) (am_sl n' - am_sl n0) Q (F0 m pc' cls' (r.toList.map (am_cv b ad')))) →
  W p l e R s m args below meth c H locs (n - n0) (am_sl n - am_sl n0) Q (F0 m pc cls (st.map (am_cv b ad)))
theorem am_run {f : Nat} (IH : am_Sound f) {k : Nat} {as : List am_V} {n : Nat} {μ : am_M} {r : Option am_V} {n' : Nat} {μ' : am_M} (h : am_ex f none k 0 (am_entry k as) [] n μ = some (r, n', μ')) (hk : k < 140) (hos : am_oks n as) (hG : am_G n μ) (hcat : am_cats as ≤ am_ml k) (l : Launch) (D : va_G) (dA : Nat → ClassId) (b : Nat) (ad : Nat → Nat) (sz : Nat) : Met l (am_y k) (am_ws k) (am_rm k n n') (am_Pc D dA b ad n μ as sz) (am_Qc D dA b ad n μ sz r n' μ') (n' - n) (am_sl n' - am_sl n) (va_A (am_W dA b ad n μ) sz) := by
  obtain ⟨v1, v2, v3, v4, v5, v6, v7⟩ := am_v_y (show k < 141 by omega)
  refine Met.ofW (cc := am_by k) (maxL := am_ml k) (ret := am_rt k) v5 rfl ?_
  intro p e s m args below meth c s₁ B hml hv
  obtain ⟨rfl, hsz, hP, hK, hD0, hX⟩ := hv
  subst hsz
  have hts0 := atoms_spec (ws := am_ws k) B.pre
  have hown : s.vm.findClass (am_cn (am_cl k)) = some m.cls := by
    rw [← v1]
    exact findClass_of_methodNamed B.named
  have hin := (name_of_methodNamed B.named B.method).1
  have hF : am_F p (am_rm k n n') s m (as.map (am_cv b ad)).toArray meth c k := ⟨B.exec, B.bytes, hml, hown, fun w hw => hts0 w (List.mem_cons_of_mem _ hw), hX, Nat.le_refl _, Nat.le_refl _, fun hkd => hin.trans (v6.mp hkd), B.notSynchronized, B.returns, by omega⟩
  have hH : am_H D dA b (va_A (am_W dA b ad n μ) s.heap.size) s ad n μ s.heap [] := ⟨hK, hP, hD0.self, va_S.rf, hG, fun q hq => Or.inr hq⟩
  rw [lg_entry_eq]
  have hlocks := B.notSynchronized
  refine W.cs (Nat.sub_self n).symm (Nat.sub_self (am_sl n)).symm (IH h hF hH (fun _ _ hh => by cases hh) (am_entry_L hcat) (am_entry_oks hos) (fun v hv => by cases hv) (Nat.le_refl n) (Nat.le_refl _) (Nat.le_refl _) ?_)
  intro ad' cls' H' locs' pc' ins ha hH' hr hd hisr
  have hq : ∀ t : State, t.heap = H' → am_Qc D dA b ad n μ s.heap.size r n' μ' (as.map (am_cv b ad)).toArray s (.returned (r.map (am_cv b ad'))) t := fun t ht => ⟨⟨ad', ha, rfl, by rw [ht]; exact hH'.2.1, hH'.2.2.1, hH'.2.2.2.2.1, hr⟩, hH'.2.2.2.1.F ht⟩
  rcases hisr with ⟨rfl, x, rfl, hrt⟩ | ⟨rfl, x, rfl, hrt⟩ | ⟨rfl, x, rfl, hrt⟩ | ⟨rfl, rfl, hrt⟩
  · rcases hrt with hrt | ⟨hrt, hx⟩
    · exact W.iret B.exec B.bytes (B.returns.trans hrt) (fun t ht _ => hq t ht) hH'.2.2.2.1.2.2 hd hlocks
    · exact W.zret B.exec B.bytes (B.returns.trans hrt) (by rcases hx with rfl | rfl <;> rfl) (fun t ht _ => hq t ht) hH'.2.2.2.1.2.2 hd hlocks
  · exact W.lret B.exec B.bytes (B.returns.trans hrt) (fun t ht _ => hq t ht) hH'.2.2.2.1.2.2 hd hlocks
  · exact W.aret B.exec B.bytes (B.returns.trans hrt) (Or.inl ⟨_, rfl⟩) (am_cvr (v := (2, x)) (Or.inl rfl)) (fun t ht _ => hq t ht) hH'.2.2.2.1.2.2 hd hlocks
  · exact W.vret B.exec B.bytes (B.returns.trans hrt) (fun t ht _ => hq t ht) hH'.2.2.2.1.2.2 hd hlocks
section
variable {p : Program} {l : Launch} {e : Env} {R : Room} {s : State} {m : MethodId} {args : Array Value} {below : List Frame} {meth : Method} {c : Code} {Q : State → Prop} {D : va_G} {dA : Nat → ClassId} {b : Nat} {A : Nat → Prop} {k n0 : Nat} {ad : Nat → Nat} {n pc : Nat} {L st : List am_V} {μ : am_M} {cls : Array Slot} {H : Heap} {locs : List Loc}
theorem am_callr {r : Option am_V} {n1 : Nat} {μ1 : am_M} {cells slots mc ms : Nat} {st0 rest : List Value} {a : Array Value} (hr : va_Run p l e R s m args below meth c H locs cells slots mc ms (F0 m pc cls st0) rest (am_Qc D dA b ad n μ H.size r n1 μ1 a) (va_A (am_W dA b ad n μ) H.size)) (hH : am_H D dA b A s ad n μ H locs)
    (kk : ∀ (ad' : Nat → Nat) (H1 : Heap) (locs1 : List Loc), (∀ i, i < n → ad' i = ad i) → am_H D dA b A s ad' n1 μ1 H1 locs1 → (∀ v, r = some v → am_ok n1 v) → W p l e R s m args below meth c H1 locs1 (cells + mc) (slots + ms) Q (F0 m (pc + 3) cls ((r.map (am_cv b ad')).toList ++ rest))) : W p l e R s m args below meth c H locs cells slots Q (F0 m pc cls st0) := by
  intro T hT X
  obtain ⟨v, st₀, t, T', L, h0, X', hL, e1, e2, ⟨⟨ad', ha, hv, hP1, hD1, hG1, hr1⟩, hz, hk⟩, st⟩ := hr T hT X
  cases hv
  rw [h0] at hz hk
  obtain ⟨hK, hP, hD, hS, hG, hA⟩ := hH
  have hfree : ∀ q, va_A (am_W dA b ad n μ) H.size q → A q := by
    intro q hq
    rcases hq with ⟨i, x, hx⟩ | hq
    · exact hD.2 i _ hx
    · exact hA q (Nat.le_trans hS.1 hq)
  obtain ⟨t2, a1, b1⟩ := kk ad' T'.heap (locs ++ L) ha ⟨hK, by rw [e1]; exact hP1, hD1.weaken (fun _ q _ h => hfree q.1 h), ⟨Nat.le_trans hS.1 (by rw [e1]; exact hz), fun q h1 h2 => by rw [e1, hk q (Nat.lt_of_lt_of_le h1 hS.1) (fun z => h2 (hfree q z))]; exact hS.2.1 q h1 h2, fun q hq => by
      rcases List.mem_append.mp hq with h | h
      · exact hS.2.2 q h
      · exact hfree _ (hL q h)⟩, hG1, hA⟩ hr1 T' rfl X'
  exact ⟨t2, st t2 a1, b1⟩
theorem am_blind {as : List am_V} {sz : Nat} : FrameBlind (am_Pc D dA b ad n μ as sz) := fun a U g mk q => by
  obtain ⟨q0, q1, qP, qK, qD, qX⟩ := q
  exact ⟨q0, q1, qP, va_K.moved (u := U) (U := U.calling g mk a) (Vm.Alike.refl U.vm) qK, qD, am_X.same (s := U) (U := U.calling g mk a) rfl qX⟩
theorem am_pre (hF : am_F p R s m args meth c k) (hH : am_H D dA b A s ad n μ H locs) {as : List am_V} : ∀ U : State, U.heap = H → s.WarmedH U.vm → am_Pc D dA b ad n μ as H.size (as.map (am_cv b ad)).toArray U := fun U hU hW => ⟨rfl, by rw [hU], by rw [hU]; exact hH.2.1, va_K.moved hW.alike hH.1, hH.2.2.1.weaken (fun _ _ _ _ => trivial), am_X.warm hW hF.2.2.2.2.2.1⟩
theorem am_call_W {f : Nat} (IH : am_Sound f) (hF : am_F p R s m args meth c k) (hH : am_H D dA b A s ad n μ H locs) (hL : am_L b ad L cls (am_ml k)) (hso : am_oks n st) (hn0 : n0 ≤ n) {kd idx : Nat} {ins : Instr} {len : Nat} (hd : decode (am_by k) pc = .ok (ins, len)) (hlen : am_len_ok ins len = true) (hins : (ins = .invokevirtual idx ∧ kd = 0) ∨ (ins = .invokestatic idx ∧ kd = 1) ∨ (ins = .invokespecial idx ∧ kd = 2)) {k' : Nat} {as rest : List am_V} (h : am_call kd k idx L st = some (.inr (.inl (k', as, rest)))) {r : Option am_V} {n1 : Nat} {μ1 : am_M} (hex : am_ex f none k' 0 (am_entry k' as) [] n μ = some (r, n1, μ1)) (hc : n1 - n0 ≤ R.cells) (hs : am_sl n1 - am_sl n0 ≤ R.slots)
    (kk : ∀ (ad' : Nat → Nat) (H1 : Heap) (locs1 : List Loc), (∀ i, i < n → ad' i = ad i) → am_H D dA b A s ad' n1 μ1 H1 locs1 → (∀ v, r = some v → am_ok n1 v) → W p l e R s m args below meth c H1 locs1 (n1 - n0) (am_sl n1 - am_sl n0) Q (F0 m (pc + 3) cls ((r.toList ++ rest).map (am_cv b ad')))) : W p l e R s m args below meth c H locs (n - n0) (am_sl n - am_sl n0) Q (F0 m pc cls (st.map (am_cv b ad))) := by
  obtain ⟨w1, w2, ht, hkd, hfr, hlo, hk', hcat, hrest, hst⟩ := am_call_inv h
  have hmono := am_ex_mono hex
  have hsm := am_sl_mono hmono
  have hs0 := am_sl_mono hn0
  have hk40 : k' < 140 := hk'
  obtain ⟨v1, v2, v3, v4, v5, v6, v7⟩ := am_v_y (show k' < 141 by omega)
  have hm1 := List.all_eq_true.mp am_v_mls1 _ (am_lookup ht)
  have hm0 := List.all_eq_true.mp am_v_mls0 _ (am_lookup ht)
  simp only [Bool.and_eq_true, Bool.or_eq_true, decide_eq_true_eq] at hm1 hm0
  obtain ⟨⟨hm1, hm2⟩, hm3⟩ := hm1
  have hx := hF.1
  have hb := hF.2.1
  have hml := hF.2.2.1
  have hown := hF.2.2.2.1
  have hts := hF.2.2.2.2.1
  have hfrR := hF.2.2.2.2.2.2.1
  have hloR := hF.2.2.2.2.2.2.2.1
  have hRm : (am_rm k' n n1).frames + 1 ≤ R.frames ∧ 8 + (am_ml k' + 11) + (am_rm k' n n1).locals ≤ R.locals := ⟨by show am_fr k' + 1 ≤ _; omega, by show 8 + (am_ml k' + 11) + am_lo k' ≤ _; omega⟩
  have hfs : n - n0 + (n1 - n) ≤ R.cells ∧ am_sl n - am_sl n0 + (am_sl n1 - am_sl n) ≤ R.slots := ⟨am_ar1 hn0 hmono hc, am_ar1 hs0 hsm hs⟩
  have hGood : GoodIn am_tb (am_ws k') := am_good (fun w hw => (List.mem_cons.mp hw).elim (fun e => e ▸ am_v_code hk40) id)
  have hini : (Cond.initialized (am_y k').cls).before args s = true := by rw [v1]; exact hts _ (am_v_ini (by omega))
  have hcats : (((rest.map (am_cv b ad))).map fun v => v.category).sum ≤ 8 := by rw [am_cats_cv]; exact hrest
  have hkk : ∀ (ad' : Nat → Nat) (H1 : Heap) (locs1 : List Loc), (∀ i, i < n → ad' i = ad i) → am_H D dA b A s ad' n1 μ1 H1 locs1 → (∀ v, r = some v → am_ok n1 v) → W p l e R s m args below meth c H1 locs1 (n - n0 + (n1 - n)) (am_sl n - am_sl n0 + (am_sl n1 - am_sl n)) Q (F0 m (pc + 3) cls ((r.map (am_cv b ad')).toList ++ rest.map (am_cv b ad))) := by
    intro ad' H1 locs1 ha hH1 hr1
    have h9 := kk ad' H1 locs1 ha hH1 hr1
    have hro : am_oks n rest := by
      intro v hv
      rcases hst with ⟨-, -, e⟩ | ⟨-, x, as', -, -, -, e⟩
      · exact hso v (by rw [e]; exact List.mem_append_right _ hv)
      · exact hso v (by rw [e]; exact List.mem_append_right _ (List.mem_cons_of_mem _ hv))
    rw [List.map_append, am_cvs_congr ha hro] at h9
    have e : (r.map (am_cv b ad')).toList = r.toList.map (am_cv b ad') := by cases r <;> rfl
    rw [e]
    exact W.cs (am_ar2 hn0 hmono) (am_ar2 hs0 hsm) h9
  rcases hst with ⟨hk1, hlen1, hst⟩ | ⟨hk1, x, as', has, hkx, hlen1, hst⟩
  · -- static
    have hos : am_oks n as := fun v hv => hso v (by rw [hst]; exact List.mem_append_left _ (List.mem_reverse.mpr hv))
    have hM := am_run IH hex hk40 hos hH.2.2.2.2.1 hcat l D dA b ad H.size
    have hstat := am_v_stat hk40 (hkd.trans hk1)
    have hins1 : ins = .invokestatic idx := by rcases hins with h | h | h <;> first | exact h.1 | exact absurd (h.2.symm.trans hk1) (by decide)
    subst hins1
    obtain rfl := am_lk (z := 3) hlen rfl
    have hstack : st.map (am_cv b ad) = (as.map (am_cv b ad)).reverse ++ rest.map (am_cv b ad) := by rw [hst, List.map_append, List.map_reverse]
    by_cases hne : w1 = 0
    · rw [if_pos hne] at hm0
      refine am_callr (va_runS (As := as.map (am_cv b ad)) (rest := rest.map (am_cv b ad)) ⟨hx, hb, hml, hown, hts⟩ hM (va_cwS (am_na k') hts (am_good (fun w hw => ?_)) rfl rfl rfl ⟨v2, v3, v4⟩ hRm) ⟨am_blind, am_pre hF hH⟩ rfl (by rw [List.length_map, hlen1]) hL.1 hstack (lv_room hcats) hd hfs) hH hkk
      simp only [va_wsS, List.cons_append, List.nil_append, List.mem_cons] at hw
      rcases hw with rfl | rfl | rfl | hw
      · exact am_mem hm0.2 rfl
      · exact hstat
      · rw [v1]; exact am_v_ini (by omega)
      · exact (hGood w hw).1
    · rw [if_neg hne] at hm0
      have hl : va_Nw (.methodLinkNest (am_cn (am_cl k)) idx (am_y k') RX6) s := hF.2.2.2.2.2.1.2.2 ((am_cl k, idx), (k', w1, w2)) (am_lookup ht) hne
      have hcn : va_CN R s args (am_cn (am_cl k)) idx (am_y k') RX6 (am_by k') (am_ml k') (am_rt k') (am_ws k') (am_rm k' n n1) (n1 - n) (am_sl n1 - am_sl n) (am_na k') := va_cnB (am_na k') hts hGood rfl rfl rfl hl hini ⟨v2, v3, v4⟩ hRm
      have hfix : CallFix p m c (am_by k) (am_ml k) s args am_tb (am_cn (am_cl k)) := ⟨hx, hb, hml, hown, hts⟩
      have hrun := va_runSN (g := F0 m pc cls (st.map (am_cv b ad))) (locs := locs) (below := below) (e := e) (meth := meth) (As := as.map (am_cv b ad)) (rest := rest.map (am_cv b ad)) hfix hM ⟨hcn, hts _ hstat, trivial⟩ ⟨am_blind, am_pre hF hH⟩ rfl (by rw [List.length_map, hlen1]) hL.1 hstack (lv_room hcats) hd hfs
      exact am_callr hrun hH hkk
  · subst has
    have hos : am_oks n ((2, x) :: as') := fun v hv => hso v (by
      rw [hst]
      rcases List.mem_cons.mp hv with h | h
      · rw [h]; exact List.mem_append_right _ List.mem_cons_self
      · exact List.mem_append_left _ (List.mem_reverse.mpr h))
    have hx0 : 0 ≤ x := am_kind_pos hkx (show (0 : Nat) ≠ 9 by decide)
    have hxl : x < (n : Int) := am_oks_head hos
    have hM := am_run IH hex hk40 hos hH.2.2.2.2.1 hcat l D dA b ad H.size
    have hinst := am_v_inst hk40 (by omega)
    have hstack : st.map (am_cv b ad) = (as'.map (am_cv b ad)).reverse ++ Value.ref (ad x.toNat) :: rest.map (am_cv b ad) := by rw [hst, List.map_append, List.map_reverse, List.map_cons, am_cv2p b ad hx0]
    have hpre : ∀ U : State, U.heap = H → s.WarmedH U.vm → am_Pc D dA b ad n μ ((2, x) :: as') H.size (Value.ref (ad x.toNat) :: as'.map (am_cv b ad)).toArray U := by
      have := am_pre hF hH (as := (2, x) :: as')
      rw [List.map_cons, am_cv2p b ad hx0] at this
      exact this
    have hQ : (((2, x) :: as').map (am_cv b ad)).toArray = (Value.ref (ad x.toNat) :: as'.map (am_cv b ad)).toArray := by rw [List.map_cons, am_cv2p b ad hx0]
    rcases hins with ⟨rfl, rfl⟩ | ⟨rfl, rfl⟩ | ⟨rfl, rfl⟩
    · obtain rfl := am_lk (z := 3) hlen rfl
      have hw0 : w1 = 0 := hm1.resolve_right (fun z => z hkd)
      rw [if_pos hw0] at hm0
      have hat := am_at (dA := dA) (b := b) (ad := ad) (μ := μ) hxl hx0 hkx
      rw [am_c_obj] at hat
      have hrecv := va_recv hH.1 hH.2.1 (am_clsv hm3).1 hat
      refine am_callr (va_runV (C := am_cn (am_cl k')) (As := as'.map (am_cv b ad)) (rest := rest.map (am_cv b ad)) ⟨hx, hb, hml, hown, hts⟩ hM (cwV (am_na k') hts (am_good (fun w hw => ?_)) rfl rfl rfl ⟨v1, v2, v3, v4⟩ hRm) ⟨am_blind, hrecv, hpre⟩ rfl (by rw [List.length_map, hlen1]) hL.1 hstack (lv_room hcats) hd hfs) hH hkk
      simp only [wsV, List.cons_append, List.nil_append, List.mem_cons] at hw
      rcases hw with rfl | rfl | rfl | rfl | hw
      · exact am_mem hm0.2 rfl
      · exact hinst
      · exact am_v_sel hk40 hkd
      · exact am_v_ini (by omega)
      · exact (hGood w hw).1
    · exact absurd rfl hk1
    · obtain rfl := am_lk (z := 3) hlen rfl
      have hrt : am_rt k' = none := hm2.resolve_left (fun z => z hkd)
      have hws : am_ws k' = Cond.code (am_y k') (am_by k') (am_ml k') none :: am_tb := by unfold am_ws; rw [hrt]
      by_cases hne : w1 = 0
      · rw [if_pos hne] at hm0
        exact am_callr (va_runI (As := as'.map (am_cv b ad)) (rest := rest.map (am_cv b ad)) ⟨hx, hb, hml, hown, hts⟩ hM (cwI (am_na k') hts hGood hws rfl rfl hini (hts _ (am_mem hm0.2 rfl)) (hts _ hinst) (v6.mp hkd) ⟨v2, v3, v4⟩ hRm) ⟨am_blind, hpre⟩ rfl (by rw [List.length_map, hlen1]) hL.1 hstack (lv_room hcats) hd hfs) hH hkk
      · rw [if_neg hne] at hm0
        have hl : va_Nw (.methodLinkNest (am_cn (am_cl k)) idx (am_y k') RX6) s := hF.2.2.2.2.2.1.2.2 ((am_cl k, idx), (k', w1, w2)) (am_lookup ht) hne
        have hcn : va_CN R s args (am_cn (am_cl k)) idx (am_y k') RX6 (am_by k') (am_ml k') none (am_ws k') (am_rm k' n n1) (n1 - n) (am_sl n1 - am_sl n) (am_na k') := va_cnB (am_na k') hts hGood hws rfl rfl hl hini ⟨v2, v3, v4⟩ hRm
        have hfix : CallFix p m c (am_by k) (am_ml k) s args am_tb (am_cn (am_cl k)) := ⟨hx, hb, hml, hown, hts⟩
        have hrun := va_runIN (g := F0 m pc cls (st.map (am_cv b ad))) (locs := locs) (below := below) (e := e) (meth := meth) (As := as'.map (am_cv b ad)) (rest := rest.map (am_cv b ad)) hfix hM ⟨hcn, v6.mp hkd, hts _ hinst⟩ ⟨am_blind, hpre⟩ rfl (by rw [List.length_map, hlen1]) hL.1 hstack (lv_room hcats) hd hfs
        exact am_callr hrun hH hkk
end
theorem am_sound : ∀ f : Nat, am_Sound f := by
  intro f
  induction f with
  | zero => intro sc k pc L st n μ r n' μ' h; cases h
  | succ f IH =>
    intro sc k pc L st n μ r n' μ' h p l e R s m args below meth c Q D dA b A n0 ad cls H locs hF hH hsc hL hLo hso hn0 hc hs hret
    simp only [am_ex] at h
    split at h
    · cases h
    · rename_i pc1 L1 st1 n1 μ1 hstep
      obtain ⟨ins, len, hd, hlen, hdo⟩ := am_step_inv hstep
      split at h
      · rename_i hle
        have hm := am_ex_mono h
        have hsm := am_sl_mono hm
        exact am_do_W hF hH hL hLo hsc hso hn0 hd hlen hdo (by omega) (by omega) (fun ad1 cls1 H1 locs1 ha1 hH1 hL1 hLo1 hso1 => IH h hF hH1 hsc hL1 hLo1 hso1 (by omega) hc hs (fun ad' cls' H' locs' pc' ins' ha' hH' hr' hd' hi' => hret ad' cls' H' locs' pc' ins' (fun i hi => (ha' i (by omega)).trans (ha1 i hi)) hH' hr' hd' hi'))
      · cases h
    · rename_i k1 as rest hstep
      obtain ⟨ins, len, hd, hlen, hdo⟩ := am_step_inv hstep
      split at h
      · cases h
      · rename_i r1 n1 μ1 hex
        obtain ⟨kd, idx, hins, hcall⟩ := am_do_call hdo
        have hm1 := am_ex_mono hex
        have hm := am_ex_mono h
        have hsm := am_sl_mono hm
        have hsub : am_oks n rest := by
          obtain ⟨w1, w2, -, -, -, -, -, -, -, hst⟩ := am_call_inv hcall
          intro v hv
          rcases hst with ⟨-, -, e⟩ | ⟨-, x, as', -, -, -, e⟩
          · exact hso v (by rw [e]; exact List.mem_append_right _ hv)
          · exact hso v (by rw [e]; exact List.mem_append_right _ (List.mem_cons_of_mem _ hv))
        exact am_call_W IH hF hH hL hso hn0 hd hlen hins hcall hex (by omega) (by omega) (fun ad1 H1 locs1 ha1 hH1 hr1 => IH h hF hH1 hsc (am_L_congr ha1 hLo hL) (am_oks_mono hm1 hLo) (fun v hv => by
          rcases List.mem_append.mp hv with h2 | h2
          · exact hr1 v (by cases r1 with | none => cases h2 | some w => simp at h2; rw [h2])
          · exact am_ok_mono hm1 (hsub v h2)) (by omega) hc hs (fun ad' cls' H' locs' pc' ins' ha' hH' hr' hd' hi' => hret ad' cls' H' locs' pc' ins' (fun i hi => (ha' i (by omega)).trans (ha1 i hi)) hH' hr' hd' hi'))
    · rename_i r1 hstep
      obtain ⟨ins, len, hd, hlen, hdo⟩ := am_step_inv hstep
      obtain ⟨hst, hisr⟩ := am_do_ret hdo
      cases h
      subst hst
      have hl1 : len = 1 := by
        rcases hisr with ⟨rfl, -⟩ | ⟨rfl, -⟩ | ⟨rfl, -⟩ | ⟨rfl, -⟩ <;> exact am_lk hlen rfl
      subst hl1
      exact hret ad cls H locs pc ins (fun _ _ => rfl) hH (fun v hv => hso v (by rw [hv]; exact List.mem_cons_self)) hd hisr
end
section
def R_law : String := "EdgeNotesLaw"
def lw_P (b : Addr) (xs : List Int32) (args : Array Value) (s : State) : Prop := args = #[.ref b] ∧ s.IntsAt b xs ∧ xs.length ≤ 3072 ∧ (Jvm.Cond.and given_1 narrow_1).before args s = true
def lw_Q (_ : Array Value) (s : State) (o : Outcome) (t : State) : Prop := o = .returned (some (.int 1)) ∧ Framed s o t [] 600000 7302250
def lw_Z (below : List Frame) (a : Array Value) (s : State) : State → Prop := fun t => ∃ o, t.status = .running ∧ Ended t below o ∧ lw_Q a s o t
/-- the law's own end, with 1 on the stack, nothing written that was there before, its room as the claim has it -/
theorem lw_ret {p : Program} {l : Launch} {e : Env} {s : State} {m : MethodId} {below : List Frame} {meth : Method} {c : Code} {b : Nat} (hx : p.tables.exec = Jvm.exec) (hb : c.code = code) (hr : meth.sig.returnType = ret) (hlocks : meth.locks = false) {pc : Nat} {H : Heap} {ls : Array Slot} (hdg : decode code pc = .ok (.ireturn, 1)) : W p l e room_1 s m #[Value.ref b] below meth c H [] 600000 7302250 (lw_Z below #[Value.ref b] s) (F0 m pc ls [.int 1]) := by
  intro T hT X
  obtain ⟨fs, hret, hrun, hended, hW, hframe⟩ := X.leave (v := some (.int 1)) (hlocks := hlocks) (fun h => by rw [hr] at h; cases h)
  have hmeth' : T.vm.method? m = some meth := X.method'
  refine ⟨T.setFrames fs, ?_, .returned (some (.int 1)), hrun, hended, rfl, ⟨_, rfl⟩, hW, hframe⟩
  jvm_step X.here [X.here.top, hx, hb, hdg, hmeth', hr, ret, narrow_b1]
  (try refine ⟨rfl, ?_⟩); (try refine ⟨rfl, ?_⟩)
  first | (intro acts; rw [hret _ acts rfl rfl rfl]) | rw [hret _ _ rfl rfl rfl]
  exact Steps.refl _
/-- what holds at the law's entry: the machine, the code, the tables' words (any of lw_tbl by 'hts w (by decide +kernel)'), the script of L ints xs at the cell b, what the Statement gives of the start (any of its parts by flat_of_before) -/
def lw_At (p : Program) (s : State) (m : MethodId) (meth : Method) (c : Code) (b L : Nat) (xs : Nat → Int32) : Prop :=
  p.tables.exec = Jvm.exec ∧ c.code = code ∧ meth.sig.returnType = ret ∧ c.maxLocals = 4 ∧ s.vm.findClass R_law = some m.cls ∧ (∀ w ∈ lw_tbl, w.before #[Value.ref b] s = true) ∧ va_X b L xs s s.heap ∧ b < s.heap.size ∧ meth.locks = false ∧ (Jvm.Cond.and given_1 narrow_1).before #[Value.ref b] s = true
/-! the claim's start, out of a run of the abstract machine -/
theorem am_arrI {s : State} {args : Array Value} {ty : FieldType} (hnt : (match ty with | .object _ => false | _ => true) = true) (h : (Cond.arrayClass ty).before args s = true) : ∃ cA : ClassId, ArrOfT s cA ty ∧ va_RA s cA ty := by
  obtain ⟨cA, kA, comp, h1, h2, h3⟩ := Cond.arrayClass_spec h
  refine ⟨cA, fun n z => ⟨fun k h => (by cases h), kA, h2, comp, h3⟩, ?_⟩
  cases ty with
  | object C => cases hnt
  | _ => exact h1
theorem am_arrN {s : State} {C : String} (h : va_AO C s) : ∃ cA : ClassId, ArrOfT s cA (.object C) ∧ va_RA s cA (.object C) := by
  obtain ⟨comp, c, k, h1, h2, h3, h4, h5⟩ := Cond.arrayOver_spec h
  exact ⟨c, fun n z => ⟨fun k h => (by cases h), k, h3, comp, h4⟩, k, comp, h3, h4, h1, h5⟩
theorem am_arrA {s : State} {ty : FieldType} (h : va_AOA ty s) : ∃ cA : ClassId, ArrOfT s cA (.array ty) ∧ va_RA s cA (.array ty) := by
  obtain ⟨comp, c, k, h1, h2, h3, h4⟩ := va_AOA.spec h
  cases hk : k.kind with
  | array comp2 t =>
    rw [hk] at h4
    simp only [Bool.and_eq_true, decide_eq_true_eq] at h4
    obtain ⟨h5, h6⟩ := h4
    subst h5
    exact ⟨c, fun n z => ⟨fun k h => (by cases h), k, h3, comp2, hk⟩, h6⟩
  | _ => rw [hk] at h4; cases h4
def am_mem0 : am_M := fun _ _ => 0
theorem am_start {p : Program} {e : Env} {s : State} {m : MethodId} {below : List Frame} {meth : Method} {c : Code} (l : Launch) {b L : Nat} {xs : Nat → Int32} (hL : L ≤ 3072) (C0 : lw_At p s m meth c b L xs) {f n' : Nat} {μ' : am_M} (hex : am_ex f (some ((L : Int), fun j => (xs j.toNat).toInt)) 140 0 (am_entry 140 [(3, 0)]) [] 0 am_mem0 = some (some (0, 1), n', μ')) (hn : n' ≤ 600000) (hs : am_sl n' ≤ 7302250) : W p l e room_1 s m #[Value.ref b] below meth c s.heap [] 0 0 (lw_Z below #[Value.ref b] s) (entryFrame m ([Value.ref b] : List Value).toArray 4) := by
  obtain ⟨hx, hb, hr, hml, hown, hts, hX, hbl, hlocks, hgv⟩ := C0
  have htb : ∀ w ∈ am_tb, w.before #[Value.ref b] s = true := fun w hw => hts w (List.mem_filter.mp hw).1
  have hAO : va_AO RX3 s := va_AO.of (hts _ (List.mem_of_getElem? am_v_arr.2.2.1))
  have hAOA : va_AOA .int s := va_AOA.of (hts _ (List.mem_of_getElem? am_v_arr.2.2.2))
  obtain ⟨d0, a0, r0⟩ := am_arrI (ty := .int) rfl (hts _ (List.mem_of_getElem? am_v_arr.1))
  obtain ⟨d1, a1, r1⟩ := am_arrI (ty := .long) rfl (hts _ (List.mem_of_getElem? am_v_arr.2.1))
  obtain ⟨d2, a2, r2⟩ := am_arrN hAO
  obtain ⟨d3, a3, r3⟩ := am_arrA hAOA
  let dA : Nat → ClassId := fun i => if i = 0 then d0 else if i = 1 then d1 else if i = 2 then d2 else d3
  have hcls : ∀ ci, ∃ (cC : ClassId) (iS : Nat → Nat), ci < 8 → u_Kn s (am_cn ci) (am_T ci) (am_N ci) cC iS := by
    intro ci
    by_cases h8 : ci < 8
    · obtain ⟨-, hins, hin, -⟩ := am_clsv h8
      obtain ⟨cC, iS, h⟩ := u_known htb hin (htb _ hins)
      exact ⟨cC, iS, fun _ => h⟩
    · exact ⟨d0, fun _ => 0, fun h => absurd h h8⟩
  let D : va_G := (fun ci => (hcls ci).choose, fun ci => (hcls ci).choose_spec.choose)
  have hK : va_K D vwCl (am_tys dA) s := by
    refine ⟨fun ci q hq => ?_, fun i q hq => ?_⟩
    · have h8 : ci < 8 := (List.getElem?_eq_some_iff.mp hq).1
      have e := (am_clsv h8).1
      rw [e] at hq
      cases hq
      exact (hcls ci).choose_spec.choose_spec h8
    · match i, hq with
      | 0, hq => cases hq; exact ⟨a0, r0⟩
      | 1, hq => cases hq; exact ⟨a1, r1⟩
      | 2, hq => cases hq; exact ⟨a2, r2⟩
      | 3, hq => cases hq; exact ⟨a3, r3⟩
      | i + 4, hq => simp [am_tys] at hq
  have hXs : am_X s := ⟨hAO, hAOA, fun q hq hne => by
    have h := List.all_eq_true.mp am_v_mls0 q hq
    simp only [Bool.and_eq_true, decide_eq_true_eq] at h
    rw [if_neg hne] at h
    exact va_Nw.of rfl (hts _ (List.mem_of_getElem? h.2))⟩
  have hF : am_F p room_1 s m #[Value.ref b] meth c 140 := ⟨hx, hb, hml, hown, htb, hXs, by show (10 : Nat) ≤ 12; decide, by show (256 : Nat) ≤ 514; decide, fun h => absurd (show (0 : Nat) = 2 from h) (by decide), hlocks, hr, by decide⟩
  have hH : am_H D dA b (fun q : Nat => s.heap.size ≤ q) s (fun i => i) 0 am_mem0 s.heap [] := ⟨hK, fun i q hq => by simp [am_W] at hq, ⟨fun i j p q hq => by simp [am_W] at hq, fun i q hq => by simp [am_W] at hq⟩, va_S.rf, fun i hi => absurd hi (by omega), fun q hq => hq⟩
  have hsc : am_Scr (some ((L : Int), fun j => (xs j.toNat).toInt)) b (fun q : Nat => s.heap.size ≤ q) s := by
    intro ln xs' e
    cases e
    refine ⟨L, rfl, by omega, ?_, hbl, Nat.not_le.mpr hbl, fun j => am_i32_ok 0 _⟩
    have e : (fun j : Nat => Int32.ofInt ((fun j : Int => (xs j.toNat).toInt) (j : Int))) = xs := by
      funext j
      show Int32.ofInt (xs ((j : Int)).toNat).toInt = xs j
      rw [Int32.ofInt_toInt, Int.toNat_natCast]
    rw [e]
    exact hX
  have hLe := am_entry_L (b := b) (ad := fun i => i) (k := 140) (as := [(3, 0)]) (by decide)
  have h9 := am_sound f hex (l := l) (e := e) (below := below) (Q := lw_Z below #[Value.ref b] s) (n0 := 0) hF hH hsc hLe (am_entry_oks (fun v hv => by simp at hv; rw [hv]; trivial)) (fun v hv => by cases hv) (Nat.le_refl 0) (by show n' - 0 ≤ 600000; omega) (by show am_sl n' - am_sl 0 ≤ 7302250; omega) (by
    intro ad' cls' H' locs' pc' ins ha hH' hr' hd hisr
    rcases hisr with ⟨rfl, -⟩ | ⟨rfl, x, hx1, -⟩ | ⟨rfl, x, hx1, -⟩ | ⟨rfl, hx1, -⟩
    · refine va_forget (fun q hq => hH'.2.2.2.1.2.2 q hq) ?_
      refine W.widen (k := 600000) (n := 7302250) (by omega) (by omega) ?_
      exact lw_ret hx hb hr hlocks hd
    · cases hx1
    · cases hx1
    · cases hx1)
  rw [lg_entry_eq]
  exact h9
end
section
/-! THE CALCULUS over the abstract machine: AW: the run from here ends, and its end has Q -/
def AW (sc : am_Sc) (k pc : Nat) (L st : List am_V) (n : Nat) (μ : am_M) (Q : Option am_V → Nat → am_M → Prop) : Prop := ∃ (f : Nat) (r : Option am_V) (n' : Nat) (μ' : am_M), am_ex f sc k pc L st n μ = some (r, n', μ') ∧ Q r n' μ'
/-- a call's contract at its arguments -/
def AC (k : Nat) (as : List am_V) (n : Nat) (μ : am_M) (Q : Option am_V → Nat → am_M → Prop) : Prop := AW none k 0 (am_entry k as) [] n μ Q
/-- what a method is: bytes, class, locals, return type -/
def am_mi (k : Nat) (cc : ByteArray) (o ml : Nat) (rt : Option FieldType) : Prop := am_by k = cc ∧ am_cl k = o ∧ am_ml k = ml ∧ am_rt k = rt
theorem am_ex_more {f : Nat} : ∀ {sc : am_Sc} {k pc : Nat} {L st : List am_V} {n : Nat} {μ : am_M} {q : Option am_V × Nat × am_M}, am_ex f sc k pc L st n μ = some q → am_ex (f + 1) sc k pc L st n μ = some q := by
  induction f with
  | zero => intro sc k pc L st n μ q h; cases h
  | succ f ih =>
    intro sc k pc L st n μ q h
    rw [am_ex] at h
    rw [am_ex]
    cases hs : am_step sc k pc L st n μ with
    | none => rw [hs] at h; cases h
    | some z =>
      rw [hs] at h
      match z, h with
      | .inl (pc', L', st', n', μ'), h =>
        dsimp only at h ⊢
        by_cases hn : n ≤ n'
        · rw [if_pos hn] at h ⊢
          exact ih h
        · rw [if_neg hn] at h; cases h
      | .inr (.inl (k', as, rest)), h =>
        dsimp only at h ⊢
        cases hc : am_ex f none k' 0 (am_entry k' as) [] n μ with
        | none => rw [hc] at h; cases h
        | some y =>
          rw [hc] at h
          rw [ih hc]
          exact ih h
      | .inr (.inr r), h => exact h
theorem am_ex_le {f g : Nat} (hfg : f ≤ g) {sc : am_Sc} {k pc : Nat} {L st : List am_V} {n : Nat} {μ : am_M} {q : Option am_V × Nat × am_M} (h : am_ex f sc k pc L st n μ = some q) : am_ex g sc k pc L st n μ = some q := by
  induction hfg with
  | refl => exact h
  | step _ ih => exact am_ex_more ih
section
variable {sc : am_Sc} {k pc q : Nat} {L L' st : List am_V} {n : Nat} {μ : am_M} {Q : Option am_V → Nat → am_M → Prop} {cc : ByteArray} {o ml : Nat} {rt : Option FieldType}
theorem AW.mono {Q1 : Option am_V → Nat → am_M → Prop} (h : AW sc k pc L st n μ Q1) (hq : ∀ r n' μ', Q1 r n' μ' → Q r n' μ') : AW sc k pc L st n μ Q := by
  obtain ⟨f, r, n', μ', h1, h2⟩ := h
  exact ⟨f, r, n', μ', h1, hq r n' μ' h2⟩
theorem AC.of {as : List am_V} (hL : am_entry k as = L) (h : AW none k 0 L [] n μ Q) : AC k as n μ Q := by
  unfold AC
  rw [hL]
  exact h
theorem aw_stp {ins : Instr} {len : Nat} {st' : List am_V} {n' : Nat} {μ' : am_M} (hm : am_mi k cc o ml rt) (hd : decode cc pc = .ok (ins, len)) (hl : am_len_ok ins len = true) (hdo : am_do sc k pc ins L st n μ = some (.inl (q, L', st', n', μ'))) (hn : n ≤ n') (h : AW sc k q L' st' n' μ' Q) : AW sc k pc L st n μ Q := by
  obtain ⟨f, r, n2, μ2, h1, h2⟩ := h
  refine ⟨f + 1, r, n2, μ2, ?_, h2⟩
  rw [am_ex]
  have hs : am_step sc k pc L st n μ = some (.inl (q, L', st', n', μ')) := by
    unfold am_step
    rw [hm.1, hd]
    dsimp only
    rw [if_pos hl]
    exact hdo
  rw [hs]
  dsimp only
  rw [if_pos hn]
  exact h1
theorem aw_ret {ins : Instr} {len : Nat} {r : Option am_V} (hm : am_mi k cc o ml rt) (hd : decode cc pc = .ok (ins, len)) (hl : am_len_ok ins len = true) (hdo : am_do sc k pc ins L st n μ = some (.inr (.inr r))) (h : Q r n μ) : AW sc k pc L st n μ Q := by
  refine ⟨1, r, n, μ, ?_, h⟩
  rw [am_ex]
  have hs : am_step sc k pc L st n μ = some (.inr (.inr r)) := by
    unfold am_step
    rw [hm.1, hd]
    dsimp only
    rw [if_pos hl]
    exact hdo
  rw [hs]
theorem aw_cal {ins : Instr} {len k' : Nat} {as rest : List am_V} {Q1 : Option am_V → Nat → am_M → Prop} (hm : am_mi k cc o ml rt) (hd : decode cc pc = .ok (ins, len)) (hl : am_len_ok ins len = true) (hdo : am_do sc k pc ins L st n μ = some (.inr (.inl (k', as, rest)))) (hq : pc + 3 = q) (hc : AC k' as n μ Q1) (h : ∀ r n' μ', Q1 r n' μ' → AW sc k q L (r.toList ++ rest) n' μ' Q) : AW sc k pc L st n μ Q := by
  obtain ⟨f1, r1, n1, μ1, h1, h2⟩ := hc
  obtain ⟨f2, r2, n2, μ2, h3, h4⟩ := h r1 n1 μ1 h2
  refine ⟨max f1 f2 + 1, r2, n2, μ2, ?_, h4⟩
  rw [am_ex]
  have hs : am_step sc k pc L st n μ = some (.inr (.inl (k', as, rest))) := by
    unfold am_step
    rw [hm.1, hd]
    dsimp only
    rw [if_pos hl]
    exact hdo
  rw [hs]
  dsimp only
  rw [am_ex_le (Nat.le_max_left f1 f2) h1]
  dsimp only
  rw [hq]
  exact am_ex_le (Nat.le_max_right f1 f2) h3
theorem aw_iconst {i : Int} (hm : am_mi k cc o ml rt) (hd : decode cc pc = .ok (.iconst i, 1)) (hq : pc + 1 = q) (hi : decide (-32768 ≤ i ∧ i ≤ 32767) = true) (h : AW sc k q L ((0, i) :: st) n μ Q) : AW sc k pc L (st) n μ Q := by
  subst hq
  exact aw_stp hm hd rfl (if_pos (of_decide_eq_true hi)) (Nat.le_refl n) h
theorem aw_bipush {i : Int} (hm : am_mi k cc o ml rt) (hd : decode cc pc = .ok (.bipush i, 2)) (hq : pc + 2 = q) (hi : decide (-128 ≤ i ∧ i ≤ 127) = true) (h : AW sc k q L ((0, i) :: st) n μ Q) : AW sc k pc L (st) n μ Q := by
  subst hq
  exact aw_stp hm hd rfl (if_pos (of_decide_eq_true hi)) (Nat.le_refl n) h
theorem aw_sipush {i : Int} (hm : am_mi k cc o ml rt) (hd : decode cc pc = .ok (.sipush i, 3)) (hq : pc + 3 = q) (hi : decide (-32768 ≤ i ∧ i ≤ 32767) = true) (h : AW sc k q L ((0, i) :: st) n μ Q) : AW sc k pc L (st) n μ Q := by
  subst hq
  exact aw_stp hm hd rfl (if_pos (of_decide_eq_true hi)) (Nat.le_refl n) h
theorem aw_lconst {i : Fin 2} {x : Int} (hm : am_mi k cc o ml rt) (hd : decode cc pc = .ok (.lconst i, 1)) (hq : pc + 1 = q) (hx : ((i : Nat) : Int) = x) (h : AW sc k q L ((1, x) :: st) n μ Q) : AW sc k pc L (st) n μ Q := by
  subst hq
  exact aw_stp hm hd rfl (by subst hx; rfl) (Nat.le_refl n) h
theorem aw_ldc {idx w : Nat} {x : Int} (hm : am_mi k cc o ml rt) (hd : decode cc pc = .ok (.ldc idx, 2)) (hq : pc + 2 = q) (ht : am_ldcs.lookup (o, idx) = some (x, w)) (h : AW sc k q L ((0, x) :: st) n μ Q) : AW sc k pc L (st) n μ Q := by
  subst hq
  exact aw_stp hm hd rfl (by show (match am_ldcs.lookup (am_cl k, idx) with | some (x, _) => _ | none => none) = _; rw [hm.2.1, ht]) (Nat.le_refl n) h
theorem aw_ldc2 {idx w : Nat} {x : Int} (hm : am_mi k cc o ml rt) (hd : decode cc pc = .ok (.ldc2_w idx, 3)) (hq : pc + 3 = q) (ht : am_ldc2s.lookup (o, idx) = some (x, w)) (h : AW sc k q L ((1, x) :: st) n μ Q) : AW sc k pc L (st) n μ Q := by
  subst hq
  exact aw_stp hm hd rfl (by show (match am_ldc2s.lookup (am_cl k, idx) with | some (x, _) => _ | none => none) = _; rw [hm.2.1, ht]) (Nat.le_refl n) h
theorem aw_null  (hm : am_mi k cc o ml rt) (hd : decode cc pc = .ok (.aconst_null, 1)) (hq : pc + 1 = q)  (h : AW sc k q L ((2, -1) :: st) n μ Q) : AW sc k pc L (st) n μ Q := by
  subst hq
  exact aw_stp hm hd rfl (rfl) (Nat.le_refl n) h
theorem aw_iload {i : Nat} {x : Int} (hm : am_mi k cc o ml rt) (hd : decode cc pc = .ok (.iload i, 2)) (hq : pc + 2 = q) (hx : L[(i : Nat)]? = some (0, x)) (h : AW sc k q L ((0, x) :: st) n μ Q) : AW sc k pc L (st) n μ Q := by
  subst hq
  exact aw_stp hm hd rfl (by show am_ld 0 _ _ L st n μ = _; unfold am_ld; rw [hx]; rfl) (Nat.le_refl n) h
theorem aw_iload_n {i : Fin 4} {x : Int} (hm : am_mi k cc o ml rt) (hd : decode cc pc = .ok (.iload_n i, 1)) (hq : pc + 1 = q) (hx : L[(i : Nat)]? = some (0, x)) (h : AW sc k q L ((0, x) :: st) n μ Q) : AW sc k pc L (st) n μ Q := by
  subst hq
  exact aw_stp hm hd rfl (by show am_ld 0 _ _ L st n μ = _; unfold am_ld; rw [hx]; rfl) (Nat.le_refl n) h
theorem aw_lload {i : Nat} {x : Int} (hm : am_mi k cc o ml rt) (hd : decode cc pc = .ok (.lload i, 2)) (hq : pc + 2 = q) (hx : L[(i : Nat)]? = some (1, x)) (h : AW sc k q L ((1, x) :: st) n μ Q) : AW sc k pc L (st) n μ Q := by
  subst hq
  exact aw_stp hm hd rfl (by show am_ld 1 _ _ L st n μ = _; unfold am_ld; rw [hx]; rfl) (Nat.le_refl n) h
theorem aw_lload_n {i : Fin 4} {x : Int} (hm : am_mi k cc o ml rt) (hd : decode cc pc = .ok (.lload_n i, 1)) (hq : pc + 1 = q) (hx : L[(i : Nat)]? = some (1, x)) (h : AW sc k q L ((1, x) :: st) n μ Q) : AW sc k pc L (st) n μ Q := by
  subst hq
  exact aw_stp hm hd rfl (by show am_ld 1 _ _ L st n μ = _; unfold am_ld; rw [hx]; rfl) (Nat.le_refl n) h
theorem aw_aload {i : Nat} {x : Int} (hm : am_mi k cc o ml rt) (hd : decode cc pc = .ok (.aload i, 2)) (hq : pc + 2 = q) (hx : L[(i : Nat)]? = some (2, x)) (h : AW sc k q L ((2, x) :: st) n μ Q) : AW sc k pc L (st) n μ Q := by
  subst hq
  exact aw_stp hm hd rfl (by show am_lda _ _ L st n μ = _; unfold am_lda; rw [hx]; rfl) (Nat.le_refl n) h
theorem aw_aload_n {i : Fin 4} {x : Int} (hm : am_mi k cc o ml rt) (hd : decode cc pc = .ok (.aload_n i, 1)) (hq : pc + 1 = q) (hx : L[(i : Nat)]? = some (2, x)) (h : AW sc k q L ((2, x) :: st) n μ Q) : AW sc k pc L (st) n μ Q := by
  subst hq
  exact aw_stp hm hd rfl (by show am_lda _ _ L st n μ = _; unfold am_lda; rw [hx]; rfl) (Nat.le_refl n) h
theorem aw_aload_s {i : Fin 4} {x : Int} (hm : am_mi k cc o ml rt) (hd : decode cc pc = .ok (.aload_n i, 1)) (hq : pc + 1 = q) (hx : L[(i : Nat)]? = some (3, x)) (h : AW sc k q L ((3, x) :: st) n μ Q) : AW sc k pc L (st) n μ Q := by
  subst hq
  exact aw_stp hm hd rfl (by show am_lda _ _ L st n μ = _; unfold am_lda; rw [hx]; rfl) (Nat.le_refl n) h
theorem aw_istore {i : Nat} {x : Int} (hm : am_mi k cc o ml rt) (hd : decode cc pc = .ok (.istore i, 2)) (hq : pc + 2 = q) (hi : (i : Nat) < ml) (hL : am_sto L i (0, x) = L') (h : AW sc k q L' (st) n μ Q) : AW sc k pc L ((0, x) :: st) n μ Q := by
  subst hq
  exact aw_stp hm hd rfl (by show am_st1 k 0 (pc + 2) i L ((0, x) :: st) n μ = _; unfold am_st1; dsimp only; rw [if_pos ⟨rfl, by rw [hm.2.2.1]; exact hi⟩, hL]) (Nat.le_refl n) h
theorem aw_istore_n {i : Fin 4} {x : Int} (hm : am_mi k cc o ml rt) (hd : decode cc pc = .ok (.istore_n i, 1)) (hq : pc + 1 = q) (hi : (i : Nat) < ml) (hL : am_sto L i (0, x) = L') (h : AW sc k q L' (st) n μ Q) : AW sc k pc L ((0, x) :: st) n μ Q := by
  subst hq
  exact aw_stp hm hd rfl (by show am_st1 k 0 (pc + 1) i L ((0, x) :: st) n μ = _; unfold am_st1; dsimp only; rw [if_pos ⟨rfl, by rw [hm.2.2.1]; exact hi⟩, hL]) (Nat.le_refl n) h
theorem aw_astore {i : Nat} {x : Int} (hm : am_mi k cc o ml rt) (hd : decode cc pc = .ok (.astore i, 2)) (hq : pc + 2 = q) (hi : (i : Nat) < ml) (hL : am_sto L i (2, x) = L') (h : AW sc k q L' (st) n μ Q) : AW sc k pc L ((2, x) :: st) n μ Q := by
  subst hq
  exact aw_stp hm hd rfl (by show am_st1 k 2 (pc + 2) i L ((2, x) :: st) n μ = _; unfold am_st1; dsimp only; rw [if_pos ⟨rfl, by rw [hm.2.2.1]; exact hi⟩, hL]) (Nat.le_refl n) h
theorem aw_astore_n {i : Fin 4} {x : Int} (hm : am_mi k cc o ml rt) (hd : decode cc pc = .ok (.astore_n i, 1)) (hq : pc + 1 = q) (hi : (i : Nat) < ml) (hL : am_sto L i (2, x) = L') (h : AW sc k q L' (st) n μ Q) : AW sc k pc L ((2, x) :: st) n μ Q := by
  subst hq
  exact aw_stp hm hd rfl (by show am_st1 k 2 (pc + 1) i L ((2, x) :: st) n μ = _; unfold am_st1; dsimp only; rw [if_pos ⟨rfl, by rw [hm.2.2.1]; exact hi⟩, hL]) (Nat.le_refl n) h
theorem aw_lstore {i : Nat} {x : Int} (hm : am_mi k cc o ml rt) (hd : decode cc pc = .ok (.lstore i, 2)) (hq : pc + 2 = q) (hi : (i : Nat) + 1 < ml) (hL : am_sto2 L i (1, x) = L') (h : AW sc k q L' (st) n μ Q) : AW sc k pc L ((1, x) :: st) n μ Q := by
  subst hq
  exact aw_stp hm hd rfl (by show am_st2 k (pc + 2) i L ((1, x) :: st) n μ = _; unfold am_st2; dsimp only; rw [if_pos ⟨rfl, by rw [hm.2.2.1]; exact hi⟩, hL]) (Nat.le_refl n) h
theorem aw_lstore_n {i : Fin 4} {x : Int} (hm : am_mi k cc o ml rt) (hd : decode cc pc = .ok (.lstore_n i, 1)) (hq : pc + 1 = q) (hi : (i : Nat) + 1 < ml) (hL : am_sto2 L i (1, x) = L') (h : AW sc k q L' (st) n μ Q) : AW sc k pc L ((1, x) :: st) n μ Q := by
  subst hq
  exact aw_stp hm hd rfl (by show am_st2 k (pc + 1) i L ((1, x) :: st) n μ = _; unfold am_st2; dsimp only; rw [if_pos ⟨rfl, by rw [hm.2.2.1]; exact hi⟩, hL]) (Nat.le_refl n) h
theorem aw_iinc {i : Nat} {d x : Int} (hm : am_mi k cc o ml rt) (hd : decode cc pc = .ok (.iinc i d, 3)) (hq : pc + 3 = q) (hx : L[i]? = some (0, x)) (hi : i < ml) (h1 : -2147483648 ≤ x + d) (h2 : x + d < 2147483648) (hL : am_sto L i (0, x + d) = L') (h : AW sc k q L' (st) n μ Q) : AW sc k pc L (st) n μ Q := by
  subst hq
  exact aw_stp hm hd rfl (by show (match L[i]? with | some v => _ | none => none) = _; rw [hx]; dsimp only; rw [if_pos ⟨rfl, by rw [hm.2.2.1]; exact hi⟩, am_w32_id ⟨h1, h2⟩, hL]) (Nat.le_refl n) h
theorem aw_iadd {x y : Int} (hm : am_mi k cc o ml rt) (hd : decode cc pc = .ok (.iadd, 1)) (hq : pc + 1 = q) (h1 : -2147483648 ≤ x + y) (h2 : x + y < 2147483648) (h : AW sc k q L ((0, x + y) :: st) n μ Q) : AW sc k pc L ((0, y) :: (0, x) :: st) n μ Q := by
  subst hq
  exact aw_stp hm hd rfl (by show some (Sum.inl (_, _, (0, am_w32 (x + y)) :: _, _, _)) = _; rw [am_w32_id ⟨h1, h2⟩]) (Nat.le_refl n) h
theorem aw_isub {x y : Int} (hm : am_mi k cc o ml rt) (hd : decode cc pc = .ok (.isub, 1)) (hq : pc + 1 = q) (h1 : -2147483648 ≤ x - y) (h2 : x - y < 2147483648) (h : AW sc k q L ((0, x - y) :: st) n μ Q) : AW sc k pc L ((0, y) :: (0, x) :: st) n μ Q := by
  subst hq
  exact aw_stp hm hd rfl (by show some (Sum.inl (_, _, (0, am_w32 (x - y)) :: _, _, _)) = _; rw [am_w32_id ⟨h1, h2⟩]) (Nat.le_refl n) h
theorem aw_imul {x y : Int} (hm : am_mi k cc o ml rt) (hd : decode cc pc = .ok (.imul, 1)) (hq : pc + 1 = q) (h1 : -2147483648 ≤ x * y) (h2 : x * y < 2147483648) (h : AW sc k q L ((0, x * y) :: st) n μ Q) : AW sc k pc L ((0, y) :: (0, x) :: st) n μ Q := by
  subst hq
  exact aw_stp hm hd rfl (by show some (Sum.inl (_, _, (0, am_w32 (x * y)) :: _, _, _)) = _; rw [am_w32_id ⟨h1, h2⟩]) (Nat.le_refl n) h
theorem aw_ladd {x y : Int} (hm : am_mi k cc o ml rt) (hd : decode cc pc = .ok (.ladd, 1)) (hq : pc + 1 = q) (h1 : -9223372036854775808 ≤ x + y) (h2 : x + y < 9223372036854775808) (h : AW sc k q L ((1, x + y) :: st) n μ Q) : AW sc k pc L ((1, y) :: (1, x) :: st) n μ Q := by
  subst hq
  exact aw_stp hm hd rfl (by show some (Sum.inl (_, _, (1, am_w64 (x + y)) :: _, _, _)) = _; rw [am_w64_id ⟨h1, h2⟩]) (Nat.le_refl n) h
theorem aw_lmul {x y : Int} (hm : am_mi k cc o ml rt) (hd : decode cc pc = .ok (.lmul, 1)) (hq : pc + 1 = q) (h1 : -9223372036854775808 ≤ x * y) (h2 : x * y < 9223372036854775808) (h : AW sc k q L ((1, x * y) :: st) n μ Q) : AW sc k pc L ((1, y) :: (1, x) :: st) n μ Q := by
  subst hq
  exact aw_stp hm hd rfl (by show some (Sum.inl (_, _, (1, am_w64 (x * y)) :: _, _, _)) = _; rw [am_w64_id ⟨h1, h2⟩]) (Nat.le_refl n) h
theorem aw_ineg {x : Int} (hm : am_mi k cc o ml rt) (hd : decode cc pc = .ok (.ineg, 1)) (hq : pc + 1 = q) (h1 : -2147483648 ≤ -x) (h2 : -x < 2147483648) (h : AW sc k q L ((0, -x) :: st) n μ Q) : AW sc k pc L ((0, x) :: st) n μ Q := by
  subst hq
  exact aw_stp hm hd rfl (by show some (Sum.inl (_, _, (0, am_w32 (-x)) :: _, _, _)) = _; rw [am_w32_id ⟨h1, h2⟩]) (Nat.le_refl n) h
theorem aw_iand {x y v : Int} (hm : am_mi k cc o ml rt) (hd : decode cc pc = .ok (.iand, 1)) (hq : pc + 1 = q) (hv : (Int32.ofInt x &&& Int32.ofInt y).toInt = v) (h : AW sc k q L ((0, v) :: st) n μ Q) : AW sc k pc L ((0, y) :: (0, x) :: st) n μ Q := by
  subst hq
  exact aw_stp hm hd rfl (by subst hv; rfl) (Nat.le_refl n) h
theorem aw_ior {x y v : Int} (hm : am_mi k cc o ml rt) (hd : decode cc pc = .ok (.ior, 1)) (hq : pc + 1 = q) (hv : (Int32.ofInt x ||| Int32.ofInt y).toInt = v) (h : AW sc k q L ((0, v) :: st) n μ Q) : AW sc k pc L ((0, y) :: (0, x) :: st) n μ Q := by
  subst hq
  exact aw_stp hm hd rfl (by subst hv; rfl) (Nat.le_refl n) h
theorem aw_ishl {x y v : Int} (hm : am_mi k cc o ml rt) (hd : decode cc pc = .ok (.ishl, 1)) (hq : pc + 1 = q) (hv : (Int32.ofInt x <<< (Int32.ofInt y &&& 31)).toInt = v) (h : AW sc k q L ((0, v) :: st) n μ Q) : AW sc k pc L ((0, y) :: (0, x) :: st) n μ Q := by
  subst hq
  exact aw_stp hm hd rfl (by subst hv; rfl) (Nat.le_refl n) h
theorem aw_ishr {x y v : Int} (hm : am_mi k cc o ml rt) (hd : decode cc pc = .ok (.ishr, 1)) (hq : pc + 1 = q) (hv : (Int32.ofInt x >>> (Int32.ofInt y &&& 31)).toInt = v) (h : AW sc k q L ((0, v) :: st) n μ Q) : AW sc k pc L ((0, y) :: (0, x) :: st) n μ Q := by
  subst hq
  exact aw_stp hm hd rfl (by subst hv; rfl) (Nat.le_refl n) h
theorem aw_lcmp {x y : Int} (hm : am_mi k cc o ml rt) (hd : decode cc pc = .ok (.lcmp, 1)) (hq : pc + 1 = q)  (h : AW sc k q L ((0, am_cmp x y) :: st) n μ Q) : AW sc k pc L ((1, y) :: (1, x) :: st) n μ Q := by
  subst hq
  exact aw_stp hm hd rfl (rfl) (Nat.le_refl n) h
theorem aw_i2l {x : Int} (hm : am_mi k cc o ml rt) (hd : decode cc pc = .ok (.i2l, 1)) (hq : pc + 1 = q)  (h : AW sc k q L ((1, x) :: st) n μ Q) : AW sc k pc L ((0, x) :: st) n μ Q := by
  subst hq
  exact aw_stp hm hd rfl (rfl) (Nat.le_refl n) h
theorem aw_l2i {x : Int} (hm : am_mi k cc o ml rt) (hd : decode cc pc = .ok (.l2i, 1)) (hq : pc + 1 = q) (h1 : -2147483648 ≤ x) (h2 : x < 2147483648) (h : AW sc k q L ((0, x) :: st) n μ Q) : AW sc k pc L ((1, x) :: st) n μ Q := by
  subst hq
  exact aw_stp hm hd rfl (by show some (Sum.inl (_, _, (0, am_w32 x) :: _, _, _)) = _; rw [am_w32_id ⟨h1, h2⟩]) (Nat.le_refl n) h
theorem aw_dup {x : Int} (hm : am_mi k cc o ml rt) (hd : decode cc pc = .ok (.dup, 1)) (hq : pc + 1 = q)  (h : AW sc k q L ((0, x) :: (0, x) :: st) n μ Q) : AW sc k pc L ((0, x) :: st) n μ Q := by
  subst hq
  exact aw_stp hm hd rfl (rfl) (Nat.le_refl n) h
theorem aw_dupr {x : Int} (hm : am_mi k cc o ml rt) (hd : decode cc pc = .ok (.dup, 1)) (hq : pc + 1 = q)  (h : AW sc k q L ((2, x) :: (2, x) :: st) n μ Q) : AW sc k pc L ((2, x) :: st) n μ Q := by
  subst hq
  exact aw_stp hm hd rfl (rfl) (Nat.le_refl n) h
theorem aw_dup_x1 {x y : Int} (hm : am_mi k cc o ml rt) (hd : decode cc pc = .ok (.dup_x1, 1)) (hq : pc + 1 = q)  (h : AW sc k q L ((0, x) :: (2, y) :: (0, x) :: st) n μ Q) : AW sc k pc L ((0, x) :: (2, y) :: st) n μ Q := by
  subst hq
  exact aw_stp hm hd rfl (rfl) (Nat.le_refl n) h
theorem aw_dup2 {x y : Int} (hm : am_mi k cc o ml rt) (hd : decode cc pc = .ok (.dup2, 1)) (hq : pc + 1 = q)  (h : AW sc k q L ((0, x) :: (2, y) :: (0, x) :: (2, y) :: st) n μ Q) : AW sc k pc L ((0, x) :: (2, y) :: st) n μ Q := by
  subst hq
  exact aw_stp hm hd rfl (rfl) (Nat.le_refl n) h
theorem aw_pop {x : Int} (hm : am_mi k cc o ml rt) (hd : decode cc pc = .ok (.pop, 1)) (hq : pc + 1 = q)  (h : AW sc k q L (st) n μ Q) : AW sc k pc L ((0, x) :: st) n μ Q := by
  subst hq
  exact aw_stp hm hd rfl (rfl) (Nat.le_refl n) h
theorem aw_popr {x : Int} (hm : am_mi k cc o ml rt) (hd : decode cc pc = .ok (.pop, 1)) (hq : pc + 1 = q)  (h : AW sc k q L (st) n μ Q) : AW sc k pc L ((2, x) :: st) n μ Q := by
  subst hq
  exact aw_stp hm hd rfl (rfl) (Nat.le_refl n) h
theorem aw_pop2 {x : Int} (hm : am_mi k cc o ml rt) (hd : decode cc pc = .ok (.pop2, 1)) (hq : pc + 1 = q)  (h : AW sc k q L (st) n μ Q) : AW sc k pc L ((1, x) :: st) n μ Q := by
  subst hq
  exact aw_stp hm hd rfl (rfl) (Nat.le_refl n) h
theorem aw_icmp_eq {x y off : Int} {tgt : Nat} (hm : am_mi k cc o ml rt) (hd : decode cc pc = .ok (.if_icmp .eq off, 3)) (hq : pc + 3 = q) (ht : (pc : Int) + off = (tgt : Int)) (kt : x = y → AW sc k tgt L st n μ Q) (kf : ¬ (x = y) → AW sc k q L st n μ Q) : AW sc k pc L ((0, y) :: (0, x) :: st) n μ Q := by
  subst hq
  by_cases hc : x = y
  · refine aw_stp hm hd rfl ?_ (Nat.le_refl n) (kt hc)
    show am_if (am_cc .eq x y = true) pc off L st n μ = _
    unfold am_if
    rw [if_pos (by omega), if_pos (show am_cc .eq x y = true from decide_eq_true hc), show ((pc : Int) + off).toNat = tgt by omega]
  · refine aw_stp hm hd rfl ?_ (Nat.le_refl n) (kf hc)
    show am_if (am_cc .eq x y = true) pc off L st n μ = _
    unfold am_if
    rw [if_pos (by omega), if_neg (show ¬ am_cc .eq x y = true from fun z => hc (of_decide_eq_true z))]
theorem aw_if_eq {x off : Int} {tgt : Nat} (hm : am_mi k cc o ml rt) (hd : decode cc pc = .ok (.ifCond .eq off, 3)) (hq : pc + 3 = q) (ht : (pc : Int) + off = (tgt : Int)) (kt : x = 0 → AW sc k tgt L st n μ Q) (kf : ¬ (x = 0) → AW sc k q L st n μ Q) : AW sc k pc L ((0, x) :: st) n μ Q := by
  subst hq
  by_cases hc : x = 0
  · refine aw_stp hm hd rfl ?_ (Nat.le_refl n) (kt hc)
    show am_if (am_cc .eq x 0 = true) pc off L st n μ = _
    unfold am_if
    rw [if_pos (by omega), if_pos (show am_cc .eq x 0 = true from decide_eq_true hc), show ((pc : Int) + off).toNat = tgt by omega]
  · refine aw_stp hm hd rfl ?_ (Nat.le_refl n) (kf hc)
    show am_if (am_cc .eq x 0 = true) pc off L st n μ = _
    unfold am_if
    rw [if_pos (by omega), if_neg (show ¬ am_cc .eq x 0 = true from fun z => hc (of_decide_eq_true z))]
theorem aw_icmp_ne {x y off : Int} {tgt : Nat} (hm : am_mi k cc o ml rt) (hd : decode cc pc = .ok (.if_icmp .ne off, 3)) (hq : pc + 3 = q) (ht : (pc : Int) + off = (tgt : Int)) (kt : x ≠ y → AW sc k tgt L st n μ Q) (kf : ¬ (x ≠ y) → AW sc k q L st n μ Q) : AW sc k pc L ((0, y) :: (0, x) :: st) n μ Q := by
  subst hq
  by_cases hc : x ≠ y
  · refine aw_stp hm hd rfl ?_ (Nat.le_refl n) (kt hc)
    show am_if (am_cc .ne x y = true) pc off L st n μ = _
    unfold am_if
    rw [if_pos (by omega), if_pos (show am_cc .ne x y = true from decide_eq_true hc), show ((pc : Int) + off).toNat = tgt by omega]
  · refine aw_stp hm hd rfl ?_ (Nat.le_refl n) (kf hc)
    show am_if (am_cc .ne x y = true) pc off L st n μ = _
    unfold am_if
    rw [if_pos (by omega), if_neg (show ¬ am_cc .ne x y = true from fun z => hc (of_decide_eq_true z))]
theorem aw_if_ne {x off : Int} {tgt : Nat} (hm : am_mi k cc o ml rt) (hd : decode cc pc = .ok (.ifCond .ne off, 3)) (hq : pc + 3 = q) (ht : (pc : Int) + off = (tgt : Int)) (kt : x ≠ 0 → AW sc k tgt L st n μ Q) (kf : ¬ (x ≠ 0) → AW sc k q L st n μ Q) : AW sc k pc L ((0, x) :: st) n μ Q := by
  subst hq
  by_cases hc : x ≠ 0
  · refine aw_stp hm hd rfl ?_ (Nat.le_refl n) (kt hc)
    show am_if (am_cc .ne x 0 = true) pc off L st n μ = _
    unfold am_if
    rw [if_pos (by omega), if_pos (show am_cc .ne x 0 = true from decide_eq_true hc), show ((pc : Int) + off).toNat = tgt by omega]
  · refine aw_stp hm hd rfl ?_ (Nat.le_refl n) (kf hc)
    show am_if (am_cc .ne x 0 = true) pc off L st n μ = _
    unfold am_if
    rw [if_pos (by omega), if_neg (show ¬ am_cc .ne x 0 = true from fun z => hc (of_decide_eq_true z))]
theorem aw_icmp_lt {x y off : Int} {tgt : Nat} (hm : am_mi k cc o ml rt) (hd : decode cc pc = .ok (.if_icmp .lt off, 3)) (hq : pc + 3 = q) (ht : (pc : Int) + off = (tgt : Int)) (kt : x < y → AW sc k tgt L st n μ Q) (kf : ¬ (x < y) → AW sc k q L st n μ Q) : AW sc k pc L ((0, y) :: (0, x) :: st) n μ Q := by
  subst hq
  by_cases hc : x < y
  · refine aw_stp hm hd rfl ?_ (Nat.le_refl n) (kt hc)
    show am_if (am_cc .lt x y = true) pc off L st n μ = _
    unfold am_if
    rw [if_pos (by omega), if_pos (show am_cc .lt x y = true from decide_eq_true hc), show ((pc : Int) + off).toNat = tgt by omega]
  · refine aw_stp hm hd rfl ?_ (Nat.le_refl n) (kf hc)
    show am_if (am_cc .lt x y = true) pc off L st n μ = _
    unfold am_if
    rw [if_pos (by omega), if_neg (show ¬ am_cc .lt x y = true from fun z => hc (of_decide_eq_true z))]
theorem aw_if_lt {x off : Int} {tgt : Nat} (hm : am_mi k cc o ml rt) (hd : decode cc pc = .ok (.ifCond .lt off, 3)) (hq : pc + 3 = q) (ht : (pc : Int) + off = (tgt : Int)) (kt : x < 0 → AW sc k tgt L st n μ Q) (kf : ¬ (x < 0) → AW sc k q L st n μ Q) : AW sc k pc L ((0, x) :: st) n μ Q := by
  subst hq
  by_cases hc : x < 0
  · refine aw_stp hm hd rfl ?_ (Nat.le_refl n) (kt hc)
    show am_if (am_cc .lt x 0 = true) pc off L st n μ = _
    unfold am_if
    rw [if_pos (by omega), if_pos (show am_cc .lt x 0 = true from decide_eq_true hc), show ((pc : Int) + off).toNat = tgt by omega]
  · refine aw_stp hm hd rfl ?_ (Nat.le_refl n) (kf hc)
    show am_if (am_cc .lt x 0 = true) pc off L st n μ = _
    unfold am_if
    rw [if_pos (by omega), if_neg (show ¬ am_cc .lt x 0 = true from fun z => hc (of_decide_eq_true z))]
theorem aw_icmp_ge {x y off : Int} {tgt : Nat} (hm : am_mi k cc o ml rt) (hd : decode cc pc = .ok (.if_icmp .ge off, 3)) (hq : pc + 3 = q) (ht : (pc : Int) + off = (tgt : Int)) (kt : y ≤ x → AW sc k tgt L st n μ Q) (kf : ¬ (y ≤ x) → AW sc k q L st n μ Q) : AW sc k pc L ((0, y) :: (0, x) :: st) n μ Q := by
  subst hq
  by_cases hc : y ≤ x
  · refine aw_stp hm hd rfl ?_ (Nat.le_refl n) (kt hc)
    show am_if (am_cc .ge x y = true) pc off L st n μ = _
    unfold am_if
    rw [if_pos (by omega), if_pos (show am_cc .ge x y = true from decide_eq_true hc), show ((pc : Int) + off).toNat = tgt by omega]
  · refine aw_stp hm hd rfl ?_ (Nat.le_refl n) (kf hc)
    show am_if (am_cc .ge x y = true) pc off L st n μ = _
    unfold am_if
    rw [if_pos (by omega), if_neg (show ¬ am_cc .ge x y = true from fun z => hc (of_decide_eq_true z))]
theorem aw_if_ge {x off : Int} {tgt : Nat} (hm : am_mi k cc o ml rt) (hd : decode cc pc = .ok (.ifCond .ge off, 3)) (hq : pc + 3 = q) (ht : (pc : Int) + off = (tgt : Int)) (kt : 0 ≤ x → AW sc k tgt L st n μ Q) (kf : ¬ (0 ≤ x) → AW sc k q L st n μ Q) : AW sc k pc L ((0, x) :: st) n μ Q := by
  subst hq
  by_cases hc : 0 ≤ x
  · refine aw_stp hm hd rfl ?_ (Nat.le_refl n) (kt hc)
    show am_if (am_cc .ge x 0 = true) pc off L st n μ = _
    unfold am_if
    rw [if_pos (by omega), if_pos (show am_cc .ge x 0 = true from decide_eq_true hc), show ((pc : Int) + off).toNat = tgt by omega]
  · refine aw_stp hm hd rfl ?_ (Nat.le_refl n) (kf hc)
    show am_if (am_cc .ge x 0 = true) pc off L st n μ = _
    unfold am_if
    rw [if_pos (by omega), if_neg (show ¬ am_cc .ge x 0 = true from fun z => hc (of_decide_eq_true z))]
theorem aw_icmp_gt {x y off : Int} {tgt : Nat} (hm : am_mi k cc o ml rt) (hd : decode cc pc = .ok (.if_icmp .gt off, 3)) (hq : pc + 3 = q) (ht : (pc : Int) + off = (tgt : Int)) (kt : y < x → AW sc k tgt L st n μ Q) (kf : ¬ (y < x) → AW sc k q L st n μ Q) : AW sc k pc L ((0, y) :: (0, x) :: st) n μ Q := by
  subst hq
  by_cases hc : y < x
  · refine aw_stp hm hd rfl ?_ (Nat.le_refl n) (kt hc)
    show am_if (am_cc .gt x y = true) pc off L st n μ = _
    unfold am_if
    rw [if_pos (by omega), if_pos (show am_cc .gt x y = true from decide_eq_true hc), show ((pc : Int) + off).toNat = tgt by omega]
  · refine aw_stp hm hd rfl ?_ (Nat.le_refl n) (kf hc)
    show am_if (am_cc .gt x y = true) pc off L st n μ = _
    unfold am_if
    rw [if_pos (by omega), if_neg (show ¬ am_cc .gt x y = true from fun z => hc (of_decide_eq_true z))]
theorem aw_if_gt {x off : Int} {tgt : Nat} (hm : am_mi k cc o ml rt) (hd : decode cc pc = .ok (.ifCond .gt off, 3)) (hq : pc + 3 = q) (ht : (pc : Int) + off = (tgt : Int)) (kt : 0 < x → AW sc k tgt L st n μ Q) (kf : ¬ (0 < x) → AW sc k q L st n μ Q) : AW sc k pc L ((0, x) :: st) n μ Q := by
  subst hq
  by_cases hc : 0 < x
  · refine aw_stp hm hd rfl ?_ (Nat.le_refl n) (kt hc)
    show am_if (am_cc .gt x 0 = true) pc off L st n μ = _
    unfold am_if
    rw [if_pos (by omega), if_pos (show am_cc .gt x 0 = true from decide_eq_true hc), show ((pc : Int) + off).toNat = tgt by omega]
  · refine aw_stp hm hd rfl ?_ (Nat.le_refl n) (kf hc)
    show am_if (am_cc .gt x 0 = true) pc off L st n μ = _
    unfold am_if
    rw [if_pos (by omega), if_neg (show ¬ am_cc .gt x 0 = true from fun z => hc (of_decide_eq_true z))]
theorem aw_icmp_le {x y off : Int} {tgt : Nat} (hm : am_mi k cc o ml rt) (hd : decode cc pc = .ok (.if_icmp .le off, 3)) (hq : pc + 3 = q) (ht : (pc : Int) + off = (tgt : Int)) (kt : x ≤ y → AW sc k tgt L st n μ Q) (kf : ¬ (x ≤ y) → AW sc k q L st n μ Q) : AW sc k pc L ((0, y) :: (0, x) :: st) n μ Q := by
  subst hq
  by_cases hc : x ≤ y
  · refine aw_stp hm hd rfl ?_ (Nat.le_refl n) (kt hc)
    show am_if (am_cc .le x y = true) pc off L st n μ = _
    unfold am_if
    rw [if_pos (by omega), if_pos (show am_cc .le x y = true from decide_eq_true hc), show ((pc : Int) + off).toNat = tgt by omega]
  · refine aw_stp hm hd rfl ?_ (Nat.le_refl n) (kf hc)
    show am_if (am_cc .le x y = true) pc off L st n μ = _
    unfold am_if
    rw [if_pos (by omega), if_neg (show ¬ am_cc .le x y = true from fun z => hc (of_decide_eq_true z))]
theorem aw_if_le {x off : Int} {tgt : Nat} (hm : am_mi k cc o ml rt) (hd : decode cc pc = .ok (.ifCond .le off, 3)) (hq : pc + 3 = q) (ht : (pc : Int) + off = (tgt : Int)) (kt : x ≤ 0 → AW sc k tgt L st n μ Q) (kf : ¬ (x ≤ 0) → AW sc k q L st n μ Q) : AW sc k pc L ((0, x) :: st) n μ Q := by
  subst hq
  by_cases hc : x ≤ 0
  · refine aw_stp hm hd rfl ?_ (Nat.le_refl n) (kt hc)
    show am_if (am_cc .le x 0 = true) pc off L st n μ = _
    unfold am_if
    rw [if_pos (by omega), if_pos (show am_cc .le x 0 = true from decide_eq_true hc), show ((pc : Int) + off).toNat = tgt by omega]
  · refine aw_stp hm hd rfl ?_ (Nat.le_refl n) (kf hc)
    show am_if (am_cc .le x 0 = true) pc off L st n μ = _
    unfold am_if
    rw [if_pos (by omega), if_neg (show ¬ am_cc .le x 0 = true from fun z => hc (of_decide_eq_true z))]
theorem aw_ifnull {x off : Int} {tgt : Nat} (hm : am_mi k cc o ml rt) (hd : decode cc pc = .ok (.ifnull off, 3)) (hq : pc + 3 = q) (ht : (pc : Int) + off = (tgt : Int)) (kt : x < 0 → AW sc k tgt L st n μ Q) (kf : ¬ (x < 0) → AW sc k q L st n μ Q) : AW sc k pc L ((2, x) :: st) n μ Q := by
  subst hq
  by_cases hc : x < 0
  · refine aw_stp hm hd rfl ?_ (Nat.le_refl n) (kt hc)
    show am_if (x < 0) pc off L st n μ = _
    unfold am_if
    rw [if_pos (by omega), if_pos hc, show ((pc : Int) + off).toNat = tgt by omega]
  · refine aw_stp hm hd rfl ?_ (Nat.le_refl n) (kf hc)
    show am_if (x < 0) pc off L st n μ = _
    unfold am_if
    rw [if_pos (by omega), if_neg hc]
theorem aw_ifnonnull {x off : Int} {tgt : Nat} (hm : am_mi k cc o ml rt) (hd : decode cc pc = .ok (.ifnonnull off, 3)) (hq : pc + 3 = q) (ht : (pc : Int) + off = (tgt : Int)) (kt : 0 ≤ x → AW sc k tgt L st n μ Q) (kf : ¬ (0 ≤ x) → AW sc k q L st n μ Q) : AW sc k pc L ((2, x) :: st) n μ Q := by
  subst hq
  by_cases hc : 0 ≤ x
  · refine aw_stp hm hd rfl ?_ (Nat.le_refl n) (kt hc)
    show am_if (0 ≤ x) pc off L st n μ = _
    unfold am_if
    rw [if_pos (by omega), if_pos hc, show ((pc : Int) + off).toNat = tgt by omega]
  · refine aw_stp hm hd rfl ?_ (Nat.le_refl n) (kf hc)
    show am_if (0 ≤ x) pc off L st n μ = _
    unfold am_if
    rw [if_pos (by omega), if_neg hc]
theorem aw_goto {off : Int} (hm : am_mi k cc o ml rt) (hd : decode cc pc = .ok (.goto off, 3)) (ht : (pc : Int) + off = (q : Int)) (h : AW sc k q L st n μ Q) : AW sc k pc L st n μ Q := by
  refine aw_stp hm hd rfl ?_ (Nat.le_refl n) h
  show am_go pc off L st n μ = _
  unfold am_go
  rw [if_pos (by omega), show ((pc : Int) + off).toNat = q by omega]
theorem aw_tableOut {x dflt lo hi : Int} {offs : Array Int} {len : Nat} (hm : am_mi k cc o ml rt) (hd : decode cc pc = .ok (.tableswitch dflt lo hi offs, len)) (hx : x < lo ∨ hi < x) (ht : (pc : Int) + dflt = (q : Int)) (h : AW sc k q L st n μ Q) : AW sc k pc L ((0, x) :: st) n μ Q := by
  refine aw_stp hm hd rfl ?_ (Nat.le_refl n) h
  show (if (0 : Nat) = 0 then (if x < lo ∨ hi < x then am_go pc dflt L st n μ else _) else none) = _
  rw [if_pos rfl, if_pos hx]
  unfold am_go
  rw [if_pos (by omega), show ((pc : Int) + dflt).toNat = q by omega]
theorem aw_tableIn {x dflt lo hi off : Int} {offs : Array Int} {len : Nat} (hm : am_mi k cc o ml rt) (hd : decode cc pc = .ok (.tableswitch dflt lo hi offs, len)) (h1 : lo ≤ x) (h2 : x ≤ hi) (ho : offs[(x - lo).toNat]? = some off) (ht : (pc : Int) + off = (q : Int)) (h : AW sc k q L st n μ Q) : AW sc k pc L ((0, x) :: st) n μ Q := by
  refine aw_stp hm hd rfl ?_ (Nat.le_refl n) h
  show (if (0 : Nat) = 0 then (if x < lo ∨ hi < x then am_go pc dflt L st n μ else match offs[(x - lo).toNat]? with | some off => am_go pc off L st n μ | none => none) else none) = _
  rw [if_pos rfl, if_neg (by omega), ho]
  dsimp only
  unfold am_go
  rw [if_pos (by omega), show ((pc : Int) + off).toNat = q by omega]
theorem aw_get {idx w ci j t : Nat} {a v : Int} (hm : am_mi k cc o ml rt) (hd : decode cc pc = .ok (.getfield idx, 3)) (hq : pc + 3 = q) (hf : am_fls.lookup (o, idx) = some ((ci, j), w)) (hk : am_kind a = (0, ci)) (ht : am_ft ci j = t) (hv : μ a (j : Int) = v) (h : AW sc k q L ((t, v) :: st) n μ Q) : AW sc k pc L ((2, a) :: st) n μ Q := by
  subst hq
  refine aw_stp hm hd rfl ?_ (Nat.le_refl n) h
  show (match am_fls.lookup (am_cl k, idx) with | some (q, _) => _ | none => none) = _
  rw [hm.2.1, hf]
  dsimp only
  rw [if_pos ⟨rfl, hk⟩, ht, hv]
theorem aw_put {idx w ci j t : Nat} {a x : Int} (hm : am_mi k cc o ml rt) (hd : decode cc pc = .ok (.putfield idx, 3)) (hq : pc + 3 = q) (hf : am_fls.lookup (o, idx) = some ((ci, j), w)) (hk : am_kind a = (0, ci)) (ht : am_ft ci j = t) (hfin : (am_fs ci j).2 = false ∨ (am_kd k = 2 ∧ o = ci)) (hb : (am_fs ci j).1 ≠ 3 ∨ x = 0 ∨ x = 1) (h : ∀ μ', μ' = am_set μ a (j : Int) x → AW sc k q L st n μ' Q) : AW sc k pc L ((t, x) :: (2, a) :: st) n μ Q := by
  subst hq
  refine aw_stp hm hd rfl ?_ (Nat.le_refl n) (h _ rfl)
  show (match am_fls.lookup (am_cl k, idx) with | some (q, _) => _ | none => none) = _
  rw [hm.2.1, hf]
  dsimp only
  rw [if_pos ⟨rfl, hk, ht.symm, fun z => hfin.elim (fun y => absurd (z.symm.trans y) (by decide)) id, fun z => hb.elim (fun y => absurd z y) id⟩]
theorem aw_iald {a j v : Int} {z : Nat} (hm : am_mi k cc o ml rt) (hd : decode cc pc = .ok (.iaload, 1)) (hq : pc + 1 = q) (hk : am_kind a = (1, z)) (h0 : 0 ≤ j) (h1 : j < (z : Int)) (hv : μ a j = v) (h : AW sc k q L ((0, v) :: st) n μ Q) : AW sc k pc L ((0, j) :: (2, a) :: st) n μ Q := by
  subst hq
  refine aw_stp hm hd rfl ?_ (Nat.le_refl n) h
  show am_ald [1] 0 sc pc L ((0, j) :: (2, a) :: st) n μ = _
  unfold am_ald
  dsimp only
  rw [if_pos ⟨rfl, rfl, by rw [hk]; simp, h0, by rw [hk]; exact h1⟩, hv]
theorem aw_lald {a j v : Int} {z : Nat} (hm : am_mi k cc o ml rt) (hd : decode cc pc = .ok (.laload, 1)) (hq : pc + 1 = q) (hk : am_kind a = (2, z)) (h0 : 0 ≤ j) (h1 : j < (z : Int)) (hv : μ a j = v) (h : AW sc k q L ((1, v) :: st) n μ Q) : AW sc k pc L ((0, j) :: (2, a) :: st) n μ Q := by
  subst hq
  refine aw_stp hm hd rfl ?_ (Nat.le_refl n) h
  show am_ald [2] 1 none pc L ((0, j) :: (2, a) :: st) n μ = _
  unfold am_ald
  dsimp only
  rw [if_pos ⟨rfl, rfl, by rw [hk]; simp, h0, by rw [hk]; exact h1⟩, hv]
theorem aw_aald {a j v : Int} {z : Nat} (hm : am_mi k cc o ml rt) (hd : decode cc pc = .ok (.aaload, 1)) (hq : pc + 1 = q) (hk : am_kind a = (3, z)) (h0 : 0 ≤ j) (h1 : j < (z : Int)) (hv : μ a j = v) (h : AW sc k q L ((2, v) :: st) n μ Q) : AW sc k pc L ((0, j) :: (2, a) :: st) n μ Q := by
  subst hq
  refine aw_stp hm hd rfl ?_ (Nat.le_refl n) h
  show am_ald [3, 4] 2 none pc L ((0, j) :: (2, a) :: st) n μ = _
  unfold am_ald
  dsimp only
  rw [if_pos ⟨rfl, rfl, by rw [hk]; simp, h0, by rw [hk]; exact h1⟩, hv]
theorem aw_ald4 {a j v : Int} {z : Nat} (hm : am_mi k cc o ml rt) (hd : decode cc pc = .ok (.aaload, 1)) (hq : pc + 1 = q) (hk : am_kind a = (4, z)) (h0 : 0 ≤ j) (h1 : j < (z : Int)) (hv : μ a j = v) (h : AW sc k q L ((2, v) :: st) n μ Q) : AW sc k pc L ((0, j) :: (2, a) :: st) n μ Q := by
  subst hq
  refine aw_stp hm hd rfl ?_ (Nat.le_refl n) h
  show am_ald [3, 4] 2 none pc L ((0, j) :: (2, a) :: st) n μ = _
  unfold am_ald
  dsimp only
  rw [if_pos ⟨rfl, rfl, by rw [hk]; simp, h0, by rw [hk]; exact h1⟩, hv]
theorem aw_iast {a j x : Int} {z : Nat} (hm : am_mi k cc o ml rt) (hd : decode cc pc = .ok (.iastore, 1)) (hq : pc + 1 = q) (hk : am_kind a = (1, z))  (h0 : 0 ≤ j) (h1 : j < (z : Int)) (h : ∀ μ', μ' = am_set μ a j x → AW sc k q L st n μ' Q) : AW sc k pc L ((0, x) :: (0, j) :: (2, a) :: st) n μ Q := by
  subst hq
  refine aw_stp hm hd rfl ?_ (Nat.le_refl n) (h _ rfl)
  show am_ast 1 0 pc L ((0, x) :: (0, j) :: (2, a) :: st) n μ = _
  unfold am_ast
  dsimp only
  rw [if_pos ⟨rfl, rfl, rfl, by rw [hk], h0, by rw [hk]; exact h1, fun z => absurd z (by decide)⟩]
theorem aw_last {a j x : Int} {z : Nat} (hm : am_mi k cc o ml rt) (hd : decode cc pc = .ok (.lastore, 1)) (hq : pc + 1 = q) (hk : am_kind a = (2, z))  (h0 : 0 ≤ j) (h1 : j < (z : Int)) (h : ∀ μ', μ' = am_set μ a j x → AW sc k q L st n μ' Q) : AW sc k pc L ((1, x) :: (0, j) :: (2, a) :: st) n μ Q := by
  subst hq
  refine aw_stp hm hd rfl ?_ (Nat.le_refl n) (h _ rfl)
  show am_ast 2 1 pc L ((1, x) :: (0, j) :: (2, a) :: st) n μ = _
  unfold am_ast
  dsimp only
  rw [if_pos ⟨rfl, rfl, rfl, by rw [hk], h0, by rw [hk]; exact h1, fun z => absurd z (by decide)⟩]
theorem aw_aast {a j x : Int} {z : Nat} (hm : am_mi k cc o ml rt) (hd : decode cc pc = .ok (.aastore, 1)) (hq : pc + 1 = q) (hk : am_kind a = (3, z)) (hx : am_kind x = (0, 3)) (h0 : 0 ≤ j) (h1 : j < (z : Int)) (h : ∀ μ', μ' = am_set μ a j x → AW sc k q L st n μ' Q) : AW sc k pc L ((2, x) :: (0, j) :: (2, a) :: st) n μ Q := by
  subst hq
  refine aw_stp hm hd rfl ?_ (Nat.le_refl n) (h _ rfl)
  show am_ast 3 2 pc L ((2, x) :: (0, j) :: (2, a) :: st) n μ = _
  unfold am_ast
  dsimp only
  rw [if_pos ⟨rfl, rfl, rfl, by rw [hk], h0, by rw [hk]; exact h1, fun _ => hx⟩]
theorem aw_alen {a : Int} {kd z : Nat} (hm : am_mi k cc o ml rt) (hd : decode cc pc = .ok (.arraylength, 1)) (hq : pc + 1 = q) (hk : am_kind a = (kd, z)) (hkd : kd ∈ [1, 2, 3, 4]) (h : AW sc k q L ((0, (z : Int)) :: st) n μ Q) : AW sc k pc L ((2, a) :: st) n μ Q := by
  subst hq
  refine aw_stp hm hd rfl ?_ (Nat.le_refl n) h
  show (if (2 : Nat) = 2 ∧ (am_kind a).1 ∈ [1, 2, 3, 4] then some (Sum.inl (pc + 1, L, (0, ((am_kind a).2 : Int)) :: st, n, μ)) else _) = _
  rw [hk, if_pos ⟨rfl, hkd⟩]
theorem aw_sld {a j ln : Int} {xs : Int → Int} (hs : sc = some (ln, xs)) (hm : am_mi k cc o ml rt) (hd : decode cc pc = .ok (.iaload, 1)) (hq : pc + 1 = q) (h0 : 0 ≤ j) (h1 : j < ln) (h : AW sc k q L ((0, xs j) :: st) n μ Q) : AW sc k pc L ((0, j) :: (3, a) :: st) n μ Q := by
  subst hq
  refine aw_stp hm hd rfl ?_ (Nat.le_refl n) h
  show am_ald [1] 0 sc pc L ((0, j) :: (3, a) :: st) n μ = _
  unfold am_ald
  dsimp only
  rw [if_neg (fun z => absurd z.2.1 (by decide)), hs]
  dsimp only
  rw [if_pos ⟨rfl, rfl, rfl, h0, h1⟩]
theorem aw_slen {a ln : Int} {xs : Int → Int} (hs : sc = some (ln, xs)) (hm : am_mi k cc o ml rt) (hd : decode cc pc = .ok (.arraylength, 1)) (hq : pc + 1 = q) (h : AW sc k q L ((0, ln) :: st) n μ Q) : AW sc k pc L ((3, a) :: st) n μ Q := by
  subst hq
  refine aw_stp hm hd rfl ?_ (Nat.le_refl n) h
  subst hs
  simp [am_do]
theorem aw_newi {c : Int} {z : Nat} (hm : am_mi k cc o ml rt) (hd : decode cc pc = .ok (.newarray .int, 2)) (hq : pc + 2 = q) (hk : am_kind (n : Int) = (1, z)) (hz : c = (z : Int)) (h : ∀ μ', μ' = am_new μ n (fun _ => 0) → AW sc k q L ((2, (n : Int)) :: st) (n + 1) μ' Q) : AW sc k pc L ((0, c) :: st) n μ Q := by
  subst hq
  refine aw_stp hm hd rfl ?_ (Nat.le_succ n) (h _ rfl)
  show (if (0 : Nat) = 0 ∧ 0 ≤ c ∧ am_kind n = ((if newarray.typeOf .int = .int then 1 else 2), c.toNat) ∧ (newarray.typeOf .int = .int ∨ newarray.typeOf .int = .long) then some (Sum.inl (pc + 2, L, (2, (n : Int)) :: st, n + 1, am_new μ n (fun _ => 0))) else none) = _
  rw [if_pos ⟨rfl, by omega, by rw [hk, hz]; rfl, Or.inl rfl⟩]
theorem aw_newl {c : Int} {z : Nat} (hm : am_mi k cc o ml rt) (hd : decode cc pc = .ok (.newarray .long, 2)) (hq : pc + 2 = q) (hk : am_kind (n : Int) = (2, z)) (hz : c = (z : Int)) (h : ∀ μ', μ' = am_new μ n (fun _ => 0) → AW sc k q L ((2, (n : Int)) :: st) (n + 1) μ' Q) : AW sc k pc L ((0, c) :: st) n μ Q := by
  subst hq
  refine aw_stp hm hd rfl ?_ (Nat.le_succ n) (h _ rfl)
  show (if (0 : Nat) = 0 ∧ 0 ≤ c ∧ am_kind n = ((if newarray.typeOf .long = .int then 1 else 2), c.toNat) ∧ (newarray.typeOf .long = .int ∨ newarray.typeOf .long = .long) then some (Sum.inl (pc + 2, L, (2, (n : Int)) :: st, n + 1, am_new μ n (fun _ => 0))) else none) = _
  rw [if_pos ⟨rfl, by omega, by rw [hk, hz]; rfl, Or.inr rfl⟩]
theorem aw_newn {idx w : Nat} {c : Int} {z : Nat} (hm : am_mi k cc o ml rt) (hd : decode cc pc = .ok (.anewarray idx, 3)) (hq : pc + 3 = q) (ht : am_nls.lookup (o, idx) = some (100, w)) (hk : am_kind (n : Int) = (3, z)) (hz : c = (z : Int)) (h : ∀ μ', μ' = am_new μ n (fun _ => -1) → AW sc k q L ((2, (n : Int)) :: st) (n + 1) μ' Q) : AW sc k pc L ((0, c) :: st) n μ Q := by
  subst hq
  refine aw_stp hm hd rfl ?_ (Nat.le_succ n) (h _ rfl)
  show (if (0 : Nat) = 0 ∧ 0 ≤ c ∧ am_kind n = (3, c.toNat) ∧ (am_nls.lookup (am_cl k, idx)).map (fun q => q.1) = some 100 then some (Sum.inl (pc + 3, L, (2, (n : Int)) :: st, n + 1, am_new μ n (fun _ => -1))) else none) = _
  rw [if_pos ⟨rfl, by omega, by rw [hk, hz]; rfl, by rw [hm.2.1, ht]; rfl⟩]
theorem aw_mna {idx w : Nat} {c : Int} {z : Nat} (hm : am_mi k cc o ml rt) (hd : decode cc pc = .ok (.multianewarray idx 2, 4)) (hq : pc + 4 = q) (ht : am_nls.lookup (o, idx) = some (101, w)) (hk : am_kind (n : Int) = (4, 2)) (hk1 : am_kind ((n : Int) + 1) = (1, z)) (hk2 : am_kind ((n : Int) + 2) = (1, z)) (hz : c = (z : Int)) (h : ∀ μ', μ' = am_new (am_new (am_new μ n (fun j => if j = 0 then n + 1 else if j = 1 then n + 2 else -1)) (n + 1) (fun _ => 0)) (n + 2) (fun _ => 0) → AW sc k q L ((2, (n : Int)) :: st) (n + 3) μ' Q) : AW sc k pc L ((0, c) :: (0, 2) :: st) n μ Q := by
  subst hq
  refine aw_stp hm hd rfl ?_ (by omega) (h _ rfl)
  show (if (2 : Nat) = 2 ∧ (0 : Nat) = 0 ∧ (0 : Nat) = 0 ∧ (2 : Int) = 2 ∧ 0 ≤ c ∧ am_kind n = (4, 2) ∧ am_kind (n + 1) = (1, c.toNat) ∧ am_kind (n + 2) = (1, c.toNat) ∧ (am_nls.lookup (am_cl k, idx)).map (fun q => q.1) = some 101 then some (Sum.inl (pc + 4, L, (2, (n : Int)) :: st, n + 3, am_new (am_new (am_new μ n (fun j => if j = 0 then n + 1 else if j = 1 then n + 2 else -1)) (n + 1) (fun _ => 0)) (n + 2) (fun _ => 0))) else none) = _
  rw [if_pos ⟨rfl, rfl, rfl, rfl, by omega, hk, by rw [hk1, hz]; rfl, by rw [hk2, hz]; rfl, by rw [hm.2.1, ht]; rfl⟩]
theorem aw_new {idx ci w : Nat} (hm : am_mi k cc o ml rt) (hd : decode cc pc = .ok (.new idx, 3)) (hq : pc + 3 = q) (ht : am_nls.lookup (o, idx) = some (ci, w)) (h8 : ci < 8) (hk : am_kind (n : Int) = (0, ci)) (h : ∀ μ', μ' = am_new μ n (am_zero (0, ci)) → AW sc k q L ((2, (n : Int)) :: st) (n + 1) μ' Q) : AW sc k pc L st n μ Q := by
  subst hq
  refine aw_stp hm hd rfl ?_ (Nat.le_succ n) (h _ rfl)
  show (match am_nls.lookup (am_cl k, idx) with | some (ci, _) => _ | none => none) = _
  rw [hm.2.1, ht]
  dsimp only
  rw [if_pos ⟨hk, h8⟩]
theorem aw_oinit {idx w : Nat} {a : Int} (hm : am_mi k cc o ml rt) (hd : decode cc pc = .ok (.invokespecial idx, 3)) (hq : pc + 3 = q) (ht : am_ois.lookup (o, idx) = some w) (ha : 0 ≤ a) (hc : am_cats st ≤ 8) (hf : 1 ≤ am_fr k) (hl : 20 ≤ am_lo k) (h : AW sc k q L st n μ Q) : AW sc k pc L ((2, a) :: st) n μ Q := by
  subst hq
  refine aw_stp hm hd rfl ?_ (Nat.le_refl n) h
  show (match am_ois.lookup (am_cl k, idx) with | some _ => _ | none => _) = _
  rw [hm.2.1, ht]
  dsimp only
  rw [if_pos ⟨rfl, ha, hc, hf, hl⟩]
theorem aw_m2 {idx w f t : Nat} {g : Int → Int → Int} {x y : Int} (hg : (f = 1 ∧ t = 0 ∧ g = max) ∨ (f = 2 ∧ t = 0 ∧ g = min) ∨ (f = 3 ∧ t = 1 ∧ g = min)) (hm : am_mi k cc o ml rt) (hd : decode cc pc = .ok (.invokestatic idx, 3)) (hq : pc + 3 = q) (ht : am_mts.lookup (o, idx) = some (f, w)) (hc : am_cats st ≤ 8) (hf : 1 ≤ am_fr k) (hl : 23 ≤ am_lo k) (h : AW sc k q L ((t, g x y) :: st) n μ Q) : AW sc k pc L ((t, y) :: (t, x) :: st) n μ Q := by
  subst hq
  refine aw_stp hm hd rfl ?_ (Nat.le_refl n) h
  show (match am_mts.lookup (am_cl k, idx) with | some (f, _) => _ | none => _) = _
  rw [hm.2.1, ht]
  dsimp only
  rw [if_pos ⟨hf, hl⟩]
  rcases hg with ⟨rfl, rfl, rfl⟩ | ⟨rfl, rfl, rfl⟩ | ⟨rfl, rfl, rfl⟩
  · show am_m2 0 max pc L ((0, y) :: (0, x) :: st) n μ = _
    unfold am_m2
    dsimp only
    rw [if_pos ⟨rfl, rfl, hc⟩]
  · show am_m2 0 min pc L ((0, y) :: (0, x) :: st) n μ = _
    unfold am_m2
    dsimp only
    rw [if_pos ⟨rfl, rfl, hc⟩]
  · show am_m2 1 min pc L ((1, y) :: (1, x) :: st) n μ = _
    unfold am_m2
    dsimp only
    rw [if_pos ⟨rfl, rfl, hc⟩]
theorem aw_abs {idx w : Nat} {x v : Int} (hm : am_mi k cc o ml rt) (hd : decode cc pc = .ok (.invokestatic idx, 3)) (hq : pc + 3 = q) (ht : am_mts.lookup (o, idx) = some (0, w)) (hc : am_cats st ≤ 8) (hf : 1 ≤ am_fr k) (hl : 23 ≤ am_lo k) (h1 : -2147483648 < x) (h2 : x < 2147483648) (hv : (if 0 ≤ x then x else -x) = v) (h : AW sc k q L ((0, v) :: st) n μ Q) : AW sc k pc L ((0, x) :: st) n μ Q := by
  subst hq
  refine aw_stp hm hd rfl ?_ (Nat.le_refl n) h
  show (match am_mts.lookup (am_cl k, idx) with | some (f, _) => _ | none => _) = _
  rw [hm.2.1, ht]
  dsimp only
  rw [if_pos ⟨hf, hl⟩]
  show am_mabs pc L ((0, x) :: st) n μ = _
  unfold am_mabs
  dsimp only
  rw [if_pos ⟨rfl, hc⟩]
  have e : am_abs x = v := by
    unfold am_abs
    rw [am_w32_id ⟨by omega, by omega⟩]
    exact hv
  rw [e]
/-- static facts of a call -/
def am_cok (kd k k' na : Nat) : Bool := decide (am_kd k' = kd) && decide (am_fr k' + 1 ≤ am_fr k) && decide (19 + am_ml k' + am_lo k' ≤ am_lo k) && decide (k' < am_lawk) && decide (am_na k' = na)
theorem am_cok_of {kd k k' na : Nat} (h : am_cok kd k k' na = true) : (am_kd k' = kd ∧ am_fr k' + 1 ≤ am_fr k ∧ 19 + am_ml k' + am_lo k' ≤ am_lo k ∧ k' < am_lawk) ∧ am_na k' = na := by
  unfold am_cok at h
  simp only [Bool.and_eq_true, decide_eq_true_eq] at h
  exact ⟨⟨h.1.1.1.1, h.1.1.1.2, h.1.1.2, h.1.2⟩, h.2⟩
theorem am_call_v {kd idx k' w1 w2 na ci : Nat} {a : Int} {as : List am_V} (hkd : kd ≠ 1) (ht : am_mls.lookup (am_cl k, idx) = some (k', w1, w2)) (hs : am_cok kd k k' na = true) (hci : am_cl k' = ci) (hk : am_kind a = (0, ci)) (hlen : as.length = na) (htag : as.all (fun v => decide (v.1 ≤ 2)) = true) (hc : am_cats st ≤ 8) (hml : am_cats ((2, a) :: as.reverse) ≤ am_ml k') : am_call kd k idx L (as ++ (2, a) :: st) = some (.inr (.inl (k', (2, a) :: as.reverse, st))) := by
  obtain ⟨h1, h2⟩ := am_cok_of hs
  unfold am_call
  rw [ht]
  dsimp only
  have e1 : (as ++ (2, a) :: st).take (am_na k') = as := by rw [h2, ← hlen, List.take_left]
  have e2 : (as ++ (2, a) :: st).drop (am_na k') = (2, a) :: st := by rw [h2, ← hlen, List.drop_left]
  rw [if_pos h1, if_neg hkd, e1, e2]
  dsimp only
  rw [if_pos ⟨rfl, by rw [hci]; exact hk, htag, hc, hml⟩]
theorem am_call_s {idx k' w1 w2 na : Nat} {as : List am_V} (ht : am_mls.lookup (am_cl k, idx) = some (k', w1, w2)) (hs : am_cok 1 k k' na = true) (hlen : as.length = na) (htag : as.all (fun v => decide (v.1 ≤ 2)) = true) (hc : am_cats st ≤ 8) (hml : am_cats as.reverse ≤ am_ml k') : am_call 1 k idx L (as ++ st) = some (.inr (.inl (k', as.reverse, st))) := by
  obtain ⟨h1, h2⟩ := am_cok_of hs
  unfold am_call
  rw [ht]
  dsimp only
  have e1 : (as ++ st).take (am_na k') = as := by rw [h2, ← hlen, List.take_left]
  have e2 : (as ++ st).drop (am_na k') = st := by rw [h2, ← hlen, List.drop_left]
  rw [if_pos h1, if_pos rfl, e1, e2, if_pos ⟨by rw [h2, List.length_append]; omega, htag, hc, hml⟩]
theorem aw_v0 {idx k' w1 w2 ci : Nat} {a : Int} {Q1 : Option am_V → Nat → am_M → Prop} (hm : am_mi k cc o ml rt) (hd : decode cc pc = .ok (.invokevirtual idx, 3)) (hq : pc + 3 = q) (ht : am_mls.lookup (o, idx) = some (k', w1, w2)) (hs : am_cok 0 k k' 0 = true) (hci : am_cl k' = ci) (hk : am_kind a = (0, ci)) (htag : ([] : List am_V).all (fun v => decide (v.1 ≤ 2)) = true) (hc : Nat.ble (am_cats st) 8 = true) (hml : Nat.ble (am_cats [(2, a)]) (am_ml k') = true) (hcall : AC k' [(2, a)] n μ Q1) (h : ∀ r n' μ', Q1 r n' μ' → AW sc k q L (r.toList ++ st) n' μ' Q) : AW sc k pc L ((2, a) :: st) n μ Q := by
  refine aw_cal hm hd rfl ?_ hq hcall h
  exact am_call_v (L := L) (as := []) (by decide) (by rw [hm.2.1]; exact ht) hs hci hk rfl htag (Nat.le_of_ble_eq_true hc) (Nat.le_of_ble_eq_true hml)
theorem aw_i0 {idx k' w1 w2 ci : Nat} {a : Int} {Q1 : Option am_V → Nat → am_M → Prop} (hm : am_mi k cc o ml rt) (hd : decode cc pc = .ok (.invokespecial idx, 3)) (hq : pc + 3 = q) (hoi : am_ois.lookup (o, idx) = none) (ht : am_mls.lookup (o, idx) = some (k', w1, w2)) (hs : am_cok 2 k k' 0 = true) (hci : am_cl k' = ci) (hk : am_kind a = (0, ci)) (htag : ([] : List am_V).all (fun v => decide (v.1 ≤ 2)) = true) (hc : Nat.ble (am_cats st) 8 = true) (hml : Nat.ble (am_cats [(2, a)]) (am_ml k') = true) (hcall : AC k' [(2, a)] n μ Q1) (h : ∀ r n' μ', Q1 r n' μ' → AW sc k q L (r.toList ++ st) n' μ' Q) : AW sc k pc L ((2, a) :: st) n μ Q := by
  refine aw_cal hm hd rfl ?_ hq hcall h
  show (match am_ois.lookup (am_cl k, idx) with | some _ => _ | none => am_call 2 k idx L _) = _
  rw [hm.2.1, hoi]
  exact am_call_v (L := L) (as := []) (by decide) (by rw [hm.2.1]; exact ht) hs hci hk rfl htag (Nat.le_of_ble_eq_true hc) (Nat.le_of_ble_eq_true hml)
theorem aw_v1 {idx k' w1 w2 ci : Nat} {a : Int} {v1 : am_V} {Q1 : Option am_V → Nat → am_M → Prop} (hm : am_mi k cc o ml rt) (hd : decode cc pc = .ok (.invokevirtual idx, 3)) (hq : pc + 3 = q) (ht : am_mls.lookup (o, idx) = some (k', w1, w2)) (hs : am_cok 0 k k' 1 = true) (hci : am_cl k' = ci) (hk : am_kind a = (0, ci)) (htag : ([v1] : List am_V).all (fun v => decide (v.1 ≤ 2)) = true) (hc : Nat.ble (am_cats st) 8 = true) (hml : Nat.ble (am_cats [(2, a), v1]) (am_ml k') = true) (hcall : AC k' [(2, a), v1] n μ Q1) (h : ∀ r n' μ', Q1 r n' μ' → AW sc k q L (r.toList ++ st) n' μ' Q) : AW sc k pc L (v1 :: (2, a) :: st) n μ Q := by
  refine aw_cal hm hd rfl ?_ hq hcall h
  exact am_call_v (L := L) (as := [v1]) (by decide) (by rw [hm.2.1]; exact ht) hs hci hk rfl htag (Nat.le_of_ble_eq_true hc) (Nat.le_of_ble_eq_true hml)
theorem aw_i1 {idx k' w1 w2 ci : Nat} {a : Int} {v1 : am_V} {Q1 : Option am_V → Nat → am_M → Prop} (hm : am_mi k cc o ml rt) (hd : decode cc pc = .ok (.invokespecial idx, 3)) (hq : pc + 3 = q) (hoi : am_ois.lookup (o, idx) = none) (ht : am_mls.lookup (o, idx) = some (k', w1, w2)) (hs : am_cok 2 k k' 1 = true) (hci : am_cl k' = ci) (hk : am_kind a = (0, ci)) (htag : ([v1] : List am_V).all (fun v => decide (v.1 ≤ 2)) = true) (hc : Nat.ble (am_cats st) 8 = true) (hml : Nat.ble (am_cats [(2, a), v1]) (am_ml k') = true) (hcall : AC k' [(2, a), v1] n μ Q1) (h : ∀ r n' μ', Q1 r n' μ' → AW sc k q L (r.toList ++ st) n' μ' Q) : AW sc k pc L (v1 :: (2, a) :: st) n μ Q := by
  refine aw_cal hm hd rfl ?_ hq hcall h
  show (match am_ois.lookup (am_cl k, idx) with | some _ => _ | none => am_call 2 k idx L _) = _
  rw [hm.2.1, hoi]
  exact am_call_v (L := L) (as := [v1]) (by decide) (by rw [hm.2.1]; exact ht) hs hci hk rfl htag (Nat.le_of_ble_eq_true hc) (Nat.le_of_ble_eq_true hml)
theorem aw_s1 {idx k' w1 w2 : Nat} {v1 : am_V} {Q1 : Option am_V → Nat → am_M → Prop} (hm : am_mi k cc o ml rt) (hd : decode cc pc = .ok (.invokestatic idx, 3)) (hq : pc + 3 = q) (hoi : am_mts.lookup (o, idx) = none) (ht : am_mls.lookup (o, idx) = some (k', w1, w2)) (hs : am_cok 1 k k' 1 = true) (htag : ([v1] : List am_V).all (fun v => decide (v.1 ≤ 2)) = true) (hc : Nat.ble (am_cats st) 8 = true) (hml : Nat.ble (am_cats [v1]) (am_ml k') = true) (hcall : AC k' [v1] n μ Q1) (h : ∀ r n' μ', Q1 r n' μ' → AW sc k q L (r.toList ++ st) n' μ' Q) : AW sc k pc L (v1 :: st) n μ Q := by
  refine aw_cal hm hd rfl ?_ hq hcall h
  show (match am_mts.lookup (am_cl k, idx) with | some (f, _) => _ | none => am_call 1 k idx L _) = _
  rw [hm.2.1, hoi]
  exact am_call_s (L := L) (as := [v1]) (by rw [hm.2.1]; exact ht) hs rfl htag (Nat.le_of_ble_eq_true hc) (Nat.le_of_ble_eq_true hml)
theorem aw_v2 {idx k' w1 w2 ci : Nat} {a : Int} {v1 v2 : am_V} {Q1 : Option am_V → Nat → am_M → Prop} (hm : am_mi k cc o ml rt) (hd : decode cc pc = .ok (.invokevirtual idx, 3)) (hq : pc + 3 = q) (ht : am_mls.lookup (o, idx) = some (k', w1, w2)) (hs : am_cok 0 k k' 2 = true) (hci : am_cl k' = ci) (hk : am_kind a = (0, ci)) (htag : ([v2, v1] : List am_V).all (fun v => decide (v.1 ≤ 2)) = true) (hc : Nat.ble (am_cats st) 8 = true) (hml : Nat.ble (am_cats [(2, a), v1, v2]) (am_ml k') = true) (hcall : AC k' [(2, a), v1, v2] n μ Q1) (h : ∀ r n' μ', Q1 r n' μ' → AW sc k q L (r.toList ++ st) n' μ' Q) : AW sc k pc L (v2 :: v1 :: (2, a) :: st) n μ Q := by
  refine aw_cal hm hd rfl ?_ hq hcall h
  exact am_call_v (L := L) (as := [v2, v1]) (by decide) (by rw [hm.2.1]; exact ht) hs hci hk rfl htag (Nat.le_of_ble_eq_true hc) (Nat.le_of_ble_eq_true hml)
theorem aw_i2 {idx k' w1 w2 ci : Nat} {a : Int} {v1 v2 : am_V} {Q1 : Option am_V → Nat → am_M → Prop} (hm : am_mi k cc o ml rt) (hd : decode cc pc = .ok (.invokespecial idx, 3)) (hq : pc + 3 = q) (hoi : am_ois.lookup (o, idx) = none) (ht : am_mls.lookup (o, idx) = some (k', w1, w2)) (hs : am_cok 2 k k' 2 = true) (hci : am_cl k' = ci) (hk : am_kind a = (0, ci)) (htag : ([v2, v1] : List am_V).all (fun v => decide (v.1 ≤ 2)) = true) (hc : Nat.ble (am_cats st) 8 = true) (hml : Nat.ble (am_cats [(2, a), v1, v2]) (am_ml k') = true) (hcall : AC k' [(2, a), v1, v2] n μ Q1) (h : ∀ r n' μ', Q1 r n' μ' → AW sc k q L (r.toList ++ st) n' μ' Q) : AW sc k pc L (v2 :: v1 :: (2, a) :: st) n μ Q := by
  refine aw_cal hm hd rfl ?_ hq hcall h
  show (match am_ois.lookup (am_cl k, idx) with | some _ => _ | none => am_call 2 k idx L _) = _
  rw [hm.2.1, hoi]
  exact am_call_v (L := L) (as := [v2, v1]) (by decide) (by rw [hm.2.1]; exact ht) hs hci hk rfl htag (Nat.le_of_ble_eq_true hc) (Nat.le_of_ble_eq_true hml)
theorem aw_s2 {idx k' w1 w2 : Nat} {v1 v2 : am_V} {Q1 : Option am_V → Nat → am_M → Prop} (hm : am_mi k cc o ml rt) (hd : decode cc pc = .ok (.invokestatic idx, 3)) (hq : pc + 3 = q) (hoi : am_mts.lookup (o, idx) = none) (ht : am_mls.lookup (o, idx) = some (k', w1, w2)) (hs : am_cok 1 k k' 2 = true) (htag : ([v2, v1] : List am_V).all (fun v => decide (v.1 ≤ 2)) = true) (hc : Nat.ble (am_cats st) 8 = true) (hml : Nat.ble (am_cats [v1, v2]) (am_ml k') = true) (hcall : AC k' [v1, v2] n μ Q1) (h : ∀ r n' μ', Q1 r n' μ' → AW sc k q L (r.toList ++ st) n' μ' Q) : AW sc k pc L (v2 :: v1 :: st) n μ Q := by
  refine aw_cal hm hd rfl ?_ hq hcall h
  show (match am_mts.lookup (am_cl k, idx) with | some (f, _) => _ | none => am_call 1 k idx L _) = _
  rw [hm.2.1, hoi]
  exact am_call_s (L := L) (as := [v2, v1]) (by rw [hm.2.1]; exact ht) hs rfl htag (Nat.le_of_ble_eq_true hc) (Nat.le_of_ble_eq_true hml)
theorem aw_v3 {idx k' w1 w2 ci : Nat} {a : Int} {v1 v2 v3 : am_V} {Q1 : Option am_V → Nat → am_M → Prop} (hm : am_mi k cc o ml rt) (hd : decode cc pc = .ok (.invokevirtual idx, 3)) (hq : pc + 3 = q) (ht : am_mls.lookup (o, idx) = some (k', w1, w2)) (hs : am_cok 0 k k' 3 = true) (hci : am_cl k' = ci) (hk : am_kind a = (0, ci)) (htag : ([v3, v2, v1] : List am_V).all (fun v => decide (v.1 ≤ 2)) = true) (hc : Nat.ble (am_cats st) 8 = true) (hml : Nat.ble (am_cats [(2, a), v1, v2, v3]) (am_ml k') = true) (hcall : AC k' [(2, a), v1, v2, v3] n μ Q1) (h : ∀ r n' μ', Q1 r n' μ' → AW sc k q L (r.toList ++ st) n' μ' Q) : AW sc k pc L (v3 :: v2 :: v1 :: (2, a) :: st) n μ Q := by
  refine aw_cal hm hd rfl ?_ hq hcall h
  exact am_call_v (L := L) (as := [v3, v2, v1]) (by decide) (by rw [hm.2.1]; exact ht) hs hci hk rfl htag (Nat.le_of_ble_eq_true hc) (Nat.le_of_ble_eq_true hml)
theorem aw_i3 {idx k' w1 w2 ci : Nat} {a : Int} {v1 v2 v3 : am_V} {Q1 : Option am_V → Nat → am_M → Prop} (hm : am_mi k cc o ml rt) (hd : decode cc pc = .ok (.invokespecial idx, 3)) (hq : pc + 3 = q) (hoi : am_ois.lookup (o, idx) = none) (ht : am_mls.lookup (o, idx) = some (k', w1, w2)) (hs : am_cok 2 k k' 3 = true) (hci : am_cl k' = ci) (hk : am_kind a = (0, ci)) (htag : ([v3, v2, v1] : List am_V).all (fun v => decide (v.1 ≤ 2)) = true) (hc : Nat.ble (am_cats st) 8 = true) (hml : Nat.ble (am_cats [(2, a), v1, v2, v3]) (am_ml k') = true) (hcall : AC k' [(2, a), v1, v2, v3] n μ Q1) (h : ∀ r n' μ', Q1 r n' μ' → AW sc k q L (r.toList ++ st) n' μ' Q) : AW sc k pc L (v3 :: v2 :: v1 :: (2, a) :: st) n μ Q := by
  refine aw_cal hm hd rfl ?_ hq hcall h
  show (match am_ois.lookup (am_cl k, idx) with | some _ => _ | none => am_call 2 k idx L _) = _
  rw [hm.2.1, hoi]
  exact am_call_v (L := L) (as := [v3, v2, v1]) (by decide) (by rw [hm.2.1]; exact ht) hs hci hk rfl htag (Nat.le_of_ble_eq_true hc) (Nat.le_of_ble_eq_true hml)
theorem aw_s3 {idx k' w1 w2 : Nat} {v1 v2 v3 : am_V} {Q1 : Option am_V → Nat → am_M → Prop} (hm : am_mi k cc o ml rt) (hd : decode cc pc = .ok (.invokestatic idx, 3)) (hq : pc + 3 = q) (hoi : am_mts.lookup (o, idx) = none) (ht : am_mls.lookup (o, idx) = some (k', w1, w2)) (hs : am_cok 1 k k' 3 = true) (htag : ([v3, v2, v1] : List am_V).all (fun v => decide (v.1 ≤ 2)) = true) (hc : Nat.ble (am_cats st) 8 = true) (hml : Nat.ble (am_cats [v1, v2, v3]) (am_ml k') = true) (hcall : AC k' [v1, v2, v3] n μ Q1) (h : ∀ r n' μ', Q1 r n' μ' → AW sc k q L (r.toList ++ st) n' μ' Q) : AW sc k pc L (v3 :: v2 :: v1 :: st) n μ Q := by
  refine aw_cal hm hd rfl ?_ hq hcall h
  show (match am_mts.lookup (am_cl k, idx) with | some (f, _) => _ | none => am_call 1 k idx L _) = _
  rw [hm.2.1, hoi]
  exact am_call_s (L := L) (as := [v3, v2, v1]) (by rw [hm.2.1]; exact ht) hs rfl htag (Nat.le_of_ble_eq_true hc) (Nat.le_of_ble_eq_true hml)
theorem aw_v4 {idx k' w1 w2 ci : Nat} {a : Int} {v1 v2 v3 v4 : am_V} {Q1 : Option am_V → Nat → am_M → Prop} (hm : am_mi k cc o ml rt) (hd : decode cc pc = .ok (.invokevirtual idx, 3)) (hq : pc + 3 = q) (ht : am_mls.lookup (o, idx) = some (k', w1, w2)) (hs : am_cok 0 k k' 4 = true) (hci : am_cl k' = ci) (hk : am_kind a = (0, ci)) (htag : ([v4, v3, v2, v1] : List am_V).all (fun v => decide (v.1 ≤ 2)) = true) (hc : Nat.ble (am_cats st) 8 = true) (hml : Nat.ble (am_cats [(2, a), v1, v2, v3, v4]) (am_ml k') = true) (hcall : AC k' [(2, a), v1, v2, v3, v4] n μ Q1) (h : ∀ r n' μ', Q1 r n' μ' → AW sc k q L (r.toList ++ st) n' μ' Q) : AW sc k pc L (v4 :: v3 :: v2 :: v1 :: (2, a) :: st) n μ Q := by
  refine aw_cal hm hd rfl ?_ hq hcall h
  exact am_call_v (L := L) (as := [v4, v3, v2, v1]) (by decide) (by rw [hm.2.1]; exact ht) hs hci hk rfl htag (Nat.le_of_ble_eq_true hc) (Nat.le_of_ble_eq_true hml)
theorem aw_i4 {idx k' w1 w2 ci : Nat} {a : Int} {v1 v2 v3 v4 : am_V} {Q1 : Option am_V → Nat → am_M → Prop} (hm : am_mi k cc o ml rt) (hd : decode cc pc = .ok (.invokespecial idx, 3)) (hq : pc + 3 = q) (hoi : am_ois.lookup (o, idx) = none) (ht : am_mls.lookup (o, idx) = some (k', w1, w2)) (hs : am_cok 2 k k' 4 = true) (hci : am_cl k' = ci) (hk : am_kind a = (0, ci)) (htag : ([v4, v3, v2, v1] : List am_V).all (fun v => decide (v.1 ≤ 2)) = true) (hc : Nat.ble (am_cats st) 8 = true) (hml : Nat.ble (am_cats [(2, a), v1, v2, v3, v4]) (am_ml k') = true) (hcall : AC k' [(2, a), v1, v2, v3, v4] n μ Q1) (h : ∀ r n' μ', Q1 r n' μ' → AW sc k q L (r.toList ++ st) n' μ' Q) : AW sc k pc L (v4 :: v3 :: v2 :: v1 :: (2, a) :: st) n μ Q := by
  refine aw_cal hm hd rfl ?_ hq hcall h
  show (match am_ois.lookup (am_cl k, idx) with | some _ => _ | none => am_call 2 k idx L _) = _
  rw [hm.2.1, hoi]
  exact am_call_v (L := L) (as := [v4, v3, v2, v1]) (by decide) (by rw [hm.2.1]; exact ht) hs hci hk rfl htag (Nat.le_of_ble_eq_true hc) (Nat.le_of_ble_eq_true hml)
theorem aw_s4 {idx k' w1 w2 : Nat} {v1 v2 v3 v4 : am_V} {Q1 : Option am_V → Nat → am_M → Prop} (hm : am_mi k cc o ml rt) (hd : decode cc pc = .ok (.invokestatic idx, 3)) (hq : pc + 3 = q) (hoi : am_mts.lookup (o, idx) = none) (ht : am_mls.lookup (o, idx) = some (k', w1, w2)) (hs : am_cok 1 k k' 4 = true) (htag : ([v4, v3, v2, v1] : List am_V).all (fun v => decide (v.1 ≤ 2)) = true) (hc : Nat.ble (am_cats st) 8 = true) (hml : Nat.ble (am_cats [v1, v2, v3, v4]) (am_ml k') = true) (hcall : AC k' [v1, v2, v3, v4] n μ Q1) (h : ∀ r n' μ', Q1 r n' μ' → AW sc k q L (r.toList ++ st) n' μ' Q) : AW sc k pc L (v4 :: v3 :: v2 :: v1 :: st) n μ Q := by
  refine aw_cal hm hd rfl ?_ hq hcall h
  show (match am_mts.lookup (am_cl k, idx) with | some (f, _) => _ | none => am_call 1 k idx L _) = _
  rw [hm.2.1, hoi]
  exact am_call_s (L := L) (as := [v4, v3, v2, v1]) (by rw [hm.2.1]; exact ht) hs rfl htag (Nat.le_of_ble_eq_true hc) (Nat.le_of_ble_eq_true hml)
theorem aw_v5 {idx k' w1 w2 ci : Nat} {a : Int} {v1 v2 v3 v4 v5 : am_V} {Q1 : Option am_V → Nat → am_M → Prop} (hm : am_mi k cc o ml rt) (hd : decode cc pc = .ok (.invokevirtual idx, 3)) (hq : pc + 3 = q) (ht : am_mls.lookup (o, idx) = some (k', w1, w2)) (hs : am_cok 0 k k' 5 = true) (hci : am_cl k' = ci) (hk : am_kind a = (0, ci)) (htag : ([v5, v4, v3, v2, v1] : List am_V).all (fun v => decide (v.1 ≤ 2)) = true) (hc : Nat.ble (am_cats st) 8 = true) (hml : Nat.ble (am_cats [(2, a), v1, v2, v3, v4, v5]) (am_ml k') = true) (hcall : AC k' [(2, a), v1, v2, v3, v4, v5] n μ Q1) (h : ∀ r n' μ', Q1 r n' μ' → AW sc k q L (r.toList ++ st) n' μ' Q) : AW sc k pc L (v5 :: v4 :: v3 :: v2 :: v1 :: (2, a) :: st) n μ Q := by
  refine aw_cal hm hd rfl ?_ hq hcall h
  exact am_call_v (L := L) (as := [v5, v4, v3, v2, v1]) (by decide) (by rw [hm.2.1]; exact ht) hs hci hk rfl htag (Nat.le_of_ble_eq_true hc) (Nat.le_of_ble_eq_true hml)
theorem aw_i5 {idx k' w1 w2 ci : Nat} {a : Int} {v1 v2 v3 v4 v5 : am_V} {Q1 : Option am_V → Nat → am_M → Prop} (hm : am_mi k cc o ml rt) (hd : decode cc pc = .ok (.invokespecial idx, 3)) (hq : pc + 3 = q) (hoi : am_ois.lookup (o, idx) = none) (ht : am_mls.lookup (o, idx) = some (k', w1, w2)) (hs : am_cok 2 k k' 5 = true) (hci : am_cl k' = ci) (hk : am_kind a = (0, ci)) (htag : ([v5, v4, v3, v2, v1] : List am_V).all (fun v => decide (v.1 ≤ 2)) = true) (hc : Nat.ble (am_cats st) 8 = true) (hml : Nat.ble (am_cats [(2, a), v1, v2, v3, v4, v5]) (am_ml k') = true) (hcall : AC k' [(2, a), v1, v2, v3, v4, v5] n μ Q1) (h : ∀ r n' μ', Q1 r n' μ' → AW sc k q L (r.toList ++ st) n' μ' Q) : AW sc k pc L (v5 :: v4 :: v3 :: v2 :: v1 :: (2, a) :: st) n μ Q := by
  refine aw_cal hm hd rfl ?_ hq hcall h
  show (match am_ois.lookup (am_cl k, idx) with | some _ => _ | none => am_call 2 k idx L _) = _
  rw [hm.2.1, hoi]
  exact am_call_v (L := L) (as := [v5, v4, v3, v2, v1]) (by decide) (by rw [hm.2.1]; exact ht) hs hci hk rfl htag (Nat.le_of_ble_eq_true hc) (Nat.le_of_ble_eq_true hml)
theorem aw_s5 {idx k' w1 w2 : Nat} {v1 v2 v3 v4 v5 : am_V} {Q1 : Option am_V → Nat → am_M → Prop} (hm : am_mi k cc o ml rt) (hd : decode cc pc = .ok (.invokestatic idx, 3)) (hq : pc + 3 = q) (hoi : am_mts.lookup (o, idx) = none) (ht : am_mls.lookup (o, idx) = some (k', w1, w2)) (hs : am_cok 1 k k' 5 = true) (htag : ([v5, v4, v3, v2, v1] : List am_V).all (fun v => decide (v.1 ≤ 2)) = true) (hc : Nat.ble (am_cats st) 8 = true) (hml : Nat.ble (am_cats [v1, v2, v3, v4, v5]) (am_ml k') = true) (hcall : AC k' [v1, v2, v3, v4, v5] n μ Q1) (h : ∀ r n' μ', Q1 r n' μ' → AW sc k q L (r.toList ++ st) n' μ' Q) : AW sc k pc L (v5 :: v4 :: v3 :: v2 :: v1 :: st) n μ Q := by
  refine aw_cal hm hd rfl ?_ hq hcall h
  show (match am_mts.lookup (am_cl k, idx) with | some (f, _) => _ | none => am_call 1 k idx L _) = _
  rw [hm.2.1, hoi]
  exact am_call_s (L := L) (as := [v5, v4, v3, v2, v1]) (by rw [hm.2.1]; exact ht) hs rfl htag (Nat.le_of_ble_eq_true hc) (Nat.le_of_ble_eq_true hml)
theorem aw_iret {x : Int} (hm : am_mi k cc o ml (some .int)) (hd : decode cc pc = .ok (.ireturn, 1)) (h : Q (some (0, x)) n μ) : AW sc k pc L [(0, x)] n μ Q := by
  refine aw_ret hm hd rfl ?_ h
  show (if (0 : Nat) = 0 ∧ (am_rt k = some .int ∨ am_rt k = some .boolean ∧ (x = 0 ∨ x = 1)) then some (Sum.inr (Sum.inr (some (0, x)))) else none) = _
  rw [if_pos ⟨rfl, Or.inl hm.2.2.2⟩]
theorem aw_zret {x : Int} (hm : am_mi k cc o ml (some .boolean)) (hd : decode cc pc = .ok (.ireturn, 1)) (hx : x = 0 ∨ x = 1) (h : Q (some (0, x)) n μ) : AW sc k pc L [(0, x)] n μ Q := by
  refine aw_ret hm hd rfl ?_ h
  show (if (0 : Nat) = 0 ∧ (am_rt k = some .int ∨ am_rt k = some .boolean ∧ (x = 0 ∨ x = 1)) then some (Sum.inr (Sum.inr (some (0, x)))) else none) = _
  rw [if_pos ⟨rfl, Or.inr ⟨hm.2.2.2, hx⟩⟩]
theorem aw_lret {x : Int} (hm : am_mi k cc o ml (some .long)) (hd : decode cc pc = .ok (.lreturn, 1)) (h : Q (some (1, x)) n μ) : AW sc k pc L [(1, x)] n μ Q := by
  refine aw_ret hm hd rfl ?_ h
  show (if (1 : Nat) = 1 ∧ am_rt k = some .long then some (Sum.inr (Sum.inr (some (1, x)))) else none) = _
  rw [if_pos ⟨rfl, hm.2.2.2⟩]
theorem aw_aret {x : Int} (hm : am_mi k cc o ml (some (.object RX3))) (hd : decode cc pc = .ok (.areturn, 1)) (h : Q (some (2, x)) n μ) : AW sc k pc L [(2, x)] n μ Q := by
  refine aw_ret hm hd rfl ?_ h
  show (if (2 : Nat) = 2 ∧ am_rt k = some (.object RX3) then some (Sum.inr (Sum.inr (some (2, x)))) else none) = _
  rw [if_pos ⟨rfl, hm.2.2.2⟩]
theorem aw_vret (hm : am_mi k cc o ml none) (hd : decode cc pc = .ok (.return_, 1)) (h : Q none n μ) : AW sc k pc L [] n μ Q := by
  refine aw_ret hm hd rfl ?_ h
  show (if am_rt k = none then some (Sum.inr (Sum.inr none)) else none) = _
  rw [if_pos hm.2.2.2]
end
end

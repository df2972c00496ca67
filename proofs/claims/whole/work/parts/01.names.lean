/-- a private method of a class that the tables say can be made, by its rows of tables_1 -/
def lw_okq (q : MethodName × Nat) : Prop := (q.1.cls ≠ "java/lang/invoke/MethodHandle" ∧ q.1.cls ≠ "java/lang/invoke/VarHandle") ∧ Cond.instantiable q.1.cls q.2 ∈ tables_1 ∧ Cond.privateMethod q.1 ∈ tables_1 ∧ Cond.instanceMethod q.1 ∈ tables_1
theorem lw_p0 : lw_okq (⟨"ControlRegister", "sell", "(IIIIII)I"⟩, 13) := ⟨⟨by decide +kernel, by decide +kernel⟩, List.mem_of_getElem? (i := 13) (by decide +kernel), List.mem_of_getElem? (i := 225) (by decide +kernel), List.mem_of_getElem? (i := 226) (by decide +kernel)⟩
theorem lw_p1 : lw_okq (⟨"ControlRegister", "enter", "(IIIIII)I"⟩, 13) := ⟨⟨by decide +kernel, by decide +kernel⟩, List.mem_of_getElem? (i := 13) (by decide +kernel), List.mem_of_getElem? (i := 241) (by decide +kernel), List.mem_of_getElem? (i := 242) (by decide +kernel)⟩
theorem lw_p2 : lw_okq (⟨"ControlRegister$Book", "arrange", "()V"⟩, 12) := ⟨⟨by decide +kernel, by decide +kernel⟩, List.mem_of_getElem? (i := 21) (by decide +kernel), List.mem_of_getElem? (i := 249) (by decide +kernel), List.mem_of_getElem? (i := 250) (by decide +kernel)⟩
theorem lw_p3 : lw_okq (⟨"ControlRegister", "isSoundWithout", "(I)Z"⟩, 13) := ⟨⟨by decide +kernel, by decide +kernel⟩, List.mem_of_getElem? (i := 13) (by decide +kernel), List.mem_of_getElem? (i := 253) (by decide +kernel), List.mem_of_getElem? (i := 254) (by decide +kernel)⟩
theorem lw_p4 : lw_okq (⟨"ControlRegister$Book", "closeGap", "([II)V"⟩, 12) := ⟨⟨by decide +kernel, by decide +kernel⟩, List.mem_of_getElem? (i := 21) (by decide +kernel), List.mem_of_getElem? (i := 272) (by decide +kernel), List.mem_of_getElem? (i := 273) (by decide +kernel)⟩
theorem lw_p5 : lw_okq (⟨"ControlRegister", "allIsChanged", "()V"⟩, 13) := ⟨⟨by decide +kernel, by decide +kernel⟩, List.mem_of_getElem? (i := 13) (by decide +kernel), List.mem_of_getElem? (i := 279) (by decide +kernel), List.mem_of_getElem? (i := 280) (by decide +kernel)⟩
theorem lw_p6 : lw_okq (⟨"ControlRegister", "isDeal", "(I)Z"⟩, 13) := ⟨⟨by decide +kernel, by decide +kernel⟩, List.mem_of_getElem? (i := 13) (by decide +kernel), List.mem_of_getElem? (i := 301) (by decide +kernel), List.mem_of_getElem? (i := 302) (by decide +kernel)⟩
theorem lw_p7 : lw_okq (⟨"ControlRegister", "bringUpToDate", "()V"⟩, 13) := ⟨⟨by decide +kernel, by decide +kernel⟩, List.mem_of_getElem? (i := 13) (by decide +kernel), List.mem_of_getElem? (i := 328) (by decide +kernel), List.mem_of_getElem? (i := 329) (by decide +kernel)⟩
theorem lw_p8 : lw_okq (⟨"ControlRegister$Control", "newFirms", "(ILControlRegister$Holdings;LControlRegister$Book;)I"⟩, 3) := ⟨⟨by decide +kernel, by decide +kernel⟩, List.mem_of_getElem? (i := 110) (by decide +kernel), List.mem_of_getElem? (i := 345) (by decide +kernel), List.mem_of_getElem? (i := 346) (by decide +kernel)⟩
theorem lw_p9 : lw_okq (⟨"ControlRegister$Holdings", "isMatched", "(III)Z"⟩, 3) := ⟨⟨by decide +kernel, by decide +kernel⟩, List.mem_of_getElem? (i := 87) (by decide +kernel), List.mem_of_getElem? (i := 363) (by decide +kernel), List.mem_of_getElem? (i := 364) (by decide +kernel)⟩
theorem lw_p10 : lw_okq (⟨"ControlRegister$Stakes", "writeRow", "(LControlRegister$Holdings;I)V"⟩, 2) := ⟨⟨by decide +kernel, by decide +kernel⟩, List.mem_of_getElem? (i := 130) (by decide +kernel), List.mem_of_getElem? (i := 381) (by decide +kernel), List.mem_of_getElem? (i := 382) (by decide +kernel)⟩
theorem lw_p11 : lw_okq (⟨"ControlRegister$Stakes", "solve", "()V"⟩, 2) := ⟨⟨by decide +kernel, by decide +kernel⟩, List.mem_of_getElem? (i := 130) (by decide +kernel), List.mem_of_getElem? (i := 387) (by decide +kernel), List.mem_of_getElem? (i := 388) (by decide +kernel)⟩
theorem lw_p12 : lw_okq (⟨"ControlRegister$Stakes", "eliminate", "(IIJ)V"⟩, 2) := ⟨⟨by decide +kernel, by decide +kernel⟩, List.mem_of_getElem? (i := 130) (by decide +kernel), List.mem_of_getElem? (i := 391) (by decide +kernel), List.mem_of_getElem? (i := 392) (by decide +kernel)⟩
theorem lw_p13 : lw_okq (⟨"ControlRegister", "wayOfControl", "(II)I"⟩, 13) := ⟨⟨by decide +kernel, by decide +kernel⟩, List.mem_of_getElem? (i := 13) (by decide +kernel), List.mem_of_getElem? (i := 413) (by decide +kernel), List.mem_of_getElem? (i := 414) (by decide +kernel)⟩
theorem lw_p14 : lw_okq (⟨"ControlRegister", "finalBlock", "(II)I"⟩, 13) := ⟨⟨by decide +kernel, by decide +kernel⟩, List.mem_of_getElem? (i := 13) (by decide +kernel), List.mem_of_getElem? (i := 417) (by decide +kernel), List.mem_of_getElem? (i := 418) (by decide +kernel)⟩
theorem lw_p15 : lw_okq (⟨"ControlRegister$Control", "firmsBefore", "(II)I"⟩, 3) := ⟨⟨by decide +kernel, by decide +kernel⟩, List.mem_of_getElem? (i := 110) (by decide +kernel), List.mem_of_getElem? (i := 427) (by decide +kernel), List.mem_of_getElem? (i := 428) (by decide +kernel)⟩
def lw_privs_1 : List (MethodName × Nat) := [(⟨"ControlRegister", "sell", "(IIIIII)I"⟩, 13), (⟨"ControlRegister", "enter", "(IIIIII)I"⟩, 13), (⟨"ControlRegister$Book", "arrange", "()V"⟩, 12), (⟨"ControlRegister", "isSoundWithout", "(I)Z"⟩, 13), (⟨"ControlRegister$Book", "closeGap", "([II)V"⟩, 12), (⟨"ControlRegister", "allIsChanged", "()V"⟩, 13), (⟨"ControlRegister", "isDeal", "(I)Z"⟩, 13), (⟨"ControlRegister", "bringUpToDate", "()V"⟩, 13), (⟨"ControlRegister$Control", "newFirms", "(ILControlRegister$Holdings;LControlRegister$Book;)I"⟩, 3), (⟨"ControlRegister$Holdings", "isMatched", "(III)Z"⟩, 3), (⟨"ControlRegister$Stakes", "writeRow", "(LControlRegister$Holdings;I)V"⟩, 2), (⟨"ControlRegister$Stakes", "solve", "()V"⟩, 2), (⟨"ControlRegister$Stakes", "eliminate", "(IIJ)V"⟩, 2), (⟨"ControlRegister", "wayOfControl", "(II)I"⟩, 13), (⟨"ControlRegister", "finalBlock", "(II)I"⟩, 13), (⟨"ControlRegister$Control", "firmsBefore", "(II)I"⟩, 3)]
theorem lw_r1 : ∀ q ∈ lw_privs_1, lw_okq q := List.forall_mem_cons.mpr ⟨lw_p0, List.forall_mem_cons.mpr ⟨lw_p1, List.forall_mem_cons.mpr ⟨lw_p2, List.forall_mem_cons.mpr ⟨lw_p3, List.forall_mem_cons.mpr ⟨lw_p4, List.forall_mem_cons.mpr ⟨lw_p5, List.forall_mem_cons.mpr ⟨lw_p6, List.forall_mem_cons.mpr ⟨lw_p7, List.forall_mem_cons.mpr ⟨lw_p8, List.forall_mem_cons.mpr ⟨lw_p9, List.forall_mem_cons.mpr ⟨lw_p10, List.forall_mem_cons.mpr ⟨lw_p11, List.forall_mem_cons.mpr ⟨lw_p12, List.forall_mem_cons.mpr ⟨lw_p13, List.forall_mem_cons.mpr ⟨lw_p14, List.forall_mem_cons.mpr ⟨lw_p15, fun _ h => absurd h List.not_mem_nil⟩⟩⟩⟩⟩⟩⟩⟩⟩⟩⟩⟩⟩⟩⟩⟩
theorem lw_p16 : lw_okq (⟨"ControlRegister", "trace", "()V"⟩, 13) := ⟨⟨by decide +kernel, by decide +kernel⟩, List.mem_of_getElem? (i := 13) (by decide +kernel), List.mem_of_getElem? (i := 454) (by decide +kernel), List.mem_of_getElem? (i := 455) (by decide +kernel)⟩
theorem lw_p17 : lw_okq (⟨"ControlRegister$Timeline", "listEvents", "()V"⟩, 5) := ⟨⟨by decide +kernel, by decide +kernel⟩, List.mem_of_getElem? (i := 157) (by decide +kernel), List.mem_of_getElem? (i := 469) (by decide +kernel), List.mem_of_getElem? (i := 470) (by decide +kernel)⟩
theorem lw_p18 : lw_okq (⟨"ControlRegister$Timeline", "listEvent", "(III)V"⟩, 5) := ⟨⟨by decide +kernel, by decide +kernel⟩, List.mem_of_getElem? (i := 157) (by decide +kernel), List.mem_of_getElem? (i := 473) (by decide +kernel), List.mem_of_getElem? (i := 474) (by decide +kernel)⟩
theorem lw_p19 : lw_okq (⟨"ControlRegister$Timeline", "isControlled", "(III)Z"⟩, 5) := ⟨⟨by decide +kernel, by decide +kernel⟩, List.mem_of_getElem? (i := 157) (by decide +kernel), List.mem_of_getElem? (i := 477) (by decide +kernel), List.mem_of_getElem? (i := 478) (by decide +kernel)⟩
theorem lw_p20 : lw_okq (⟨"ControlRegister$Timeline", "lastBy", "(I)I"⟩, 5) := ⟨⟨by decide +kernel, by decide +kernel⟩, List.mem_of_getElem? (i := 157) (by decide +kernel), List.mem_of_getElem? (i := 487) (by decide +kernel), List.mem_of_getElem? (i := 488) (by decide +kernel)⟩
theorem lw_p21 : lw_okq (⟨"ControlRegister", "fewestToSell", "(II)I"⟩, 13) := ⟨⟨by decide +kernel, by decide +kernel⟩, List.mem_of_getElem? (i := 13) (by decide +kernel), List.mem_of_getElem? (i := 495) (by decide +kernel), List.mem_of_getElem? (i := 496) (by decide +kernel)⟩
theorem lw_p22 : lw_okq (⟨"ControlRegister", "wouldControl", "(II)Z"⟩, 13) := ⟨⟨by decide +kernel, by decide +kernel⟩, List.mem_of_getElem? (i := 13) (by decide +kernel), List.mem_of_getElem? (i := 504) (by decide +kernel), List.mem_of_getElem? (i := 505) (by decide +kernel)⟩
theorem lw_p23 : lw_okq (⟨"ControlRegister", "fewestToBuy", "(II)I"⟩, 13) := ⟨⟨by decide +kernel, by decide +kernel⟩, List.mem_of_getElem? (i := 13) (by decide +kernel), List.mem_of_getElem? (i := 510) (by decide +kernel), List.mem_of_getElem? (i := 511) (by decide +kernel)⟩
theorem lw_p24 : lw_okq (⟨"ControlRegister", "imageAt", "(I)LControlRegister$Book;"⟩, 13) := ⟨⟨by decide +kernel, by decide +kernel⟩, List.mem_of_getElem? (i := 13) (by decide +kernel), List.mem_of_getElem? (i := 584) (by decide +kernel), List.mem_of_getElem? (i := 585) (by decide +kernel)⟩
theorem lw_p25 : lw_okq (⟨"ControlRegisterModel", "sell", "(IIIIII)I"⟩, 25) := ⟨⟨by decide +kernel, by decide +kernel⟩, List.mem_of_getElem? (i := 612) (by decide +kernel), List.mem_of_getElem? (i := 699) (by decide +kernel), List.mem_of_getElem? (i := 700) (by decide +kernel)⟩
theorem lw_p26 : lw_okq (⟨"ControlRegisterModel", "put", "(IIIIIII)V"⟩, 25) := ⟨⟨by decide +kernel, by decide +kernel⟩, List.mem_of_getElem? (i := 612) (by decide +kernel), List.mem_of_getElem? (i := 709) (by decide +kernel), List.mem_of_getElem? (i := 710) (by decide +kernel)⟩
theorem lw_p27 : lw_okq (⟨"ControlRegisterModel", "add", "()I"⟩, 25) := ⟨⟨by decide +kernel, by decide +kernel⟩, List.mem_of_getElem? (i := 612) (by decide +kernel), List.mem_of_getElem? (i := 713) (by decide +kernel), List.mem_of_getElem? (i := 714) (by decide +kernel)⟩
theorem lw_p28 : lw_okq (⟨"ControlRegisterModel", "lay", "(II)Z"⟩, 25) := ⟨⟨by decide +kernel, by decide +kernel⟩, List.mem_of_getElem? (i := 612) (by decide +kernel), List.mem_of_getElem? (i := 717) (by decide +kernel), List.mem_of_getElem? (i := 718) (by decide +kernel)⟩
theorem lw_p29 : lw_okq (⟨"ControlRegisterModel", "begin", "()V"⟩, 25) := ⟨⟨by decide +kernel, by decide +kernel⟩, List.mem_of_getElem? (i := 612) (by decide +kernel), List.mem_of_getElem? (i := 721) (by decide +kernel), List.mem_of_getElem? (i := 722) (by decide +kernel)⟩
theorem lw_p30 : lw_okq (⟨"ControlRegisterModel", "placeOf", "(I)I"⟩, 25) := ⟨⟨by decide +kernel, by decide +kernel⟩, List.mem_of_getElem? (i := 612) (by decide +kernel), List.mem_of_getElem? (i := 725) (by decide +kernel), List.mem_of_getElem? (i := 726) (by decide +kernel)⟩
theorem lw_p31 : lw_okq (⟨"ControlRegisterModel", "does", "(I)Z"⟩, 25) := ⟨⟨by decide +kernel, by decide +kernel⟩, List.mem_of_getElem? (i := 612) (by decide +kernel), List.mem_of_getElem? (i := 729) (by decide +kernel), List.mem_of_getElem? (i := 730) (by decide +kernel)⟩
def lw_privs_2 : List (MethodName × Nat) := [(⟨"ControlRegister", "trace", "()V"⟩, 13), (⟨"ControlRegister$Timeline", "listEvents", "()V"⟩, 5), (⟨"ControlRegister$Timeline", "listEvent", "(III)V"⟩, 5), (⟨"ControlRegister$Timeline", "isControlled", "(III)Z"⟩, 5), (⟨"ControlRegister$Timeline", "lastBy", "(I)I"⟩, 5), (⟨"ControlRegister", "fewestToSell", "(II)I"⟩, 13), (⟨"ControlRegister", "wouldControl", "(II)Z"⟩, 13), (⟨"ControlRegister", "fewestToBuy", "(II)I"⟩, 13), (⟨"ControlRegister", "imageAt", "(I)LControlRegister$Book;"⟩, 13), (⟨"ControlRegisterModel", "sell", "(IIIIII)I"⟩, 25), (⟨"ControlRegisterModel", "put", "(IIIIIII)V"⟩, 25), (⟨"ControlRegisterModel", "add", "()I"⟩, 25), (⟨"ControlRegisterModel", "lay", "(II)Z"⟩, 25), (⟨"ControlRegisterModel", "begin", "()V"⟩, 25), (⟨"ControlRegisterModel", "placeOf", "(I)I"⟩, 25), (⟨"ControlRegisterModel", "does", "(I)Z"⟩, 25)]
theorem lw_r2 : ∀ q ∈ lw_privs_2, lw_okq q := List.forall_mem_cons.mpr ⟨lw_p16, List.forall_mem_cons.mpr ⟨lw_p17, List.forall_mem_cons.mpr ⟨lw_p18, List.forall_mem_cons.mpr ⟨lw_p19, List.forall_mem_cons.mpr ⟨lw_p20, List.forall_mem_cons.mpr ⟨lw_p21, List.forall_mem_cons.mpr ⟨lw_p22, List.forall_mem_cons.mpr ⟨lw_p23, List.forall_mem_cons.mpr ⟨lw_p24, List.forall_mem_cons.mpr ⟨lw_p25, List.forall_mem_cons.mpr ⟨lw_p26, List.forall_mem_cons.mpr ⟨lw_p27, List.forall_mem_cons.mpr ⟨lw_p28, List.forall_mem_cons.mpr ⟨lw_p29, List.forall_mem_cons.mpr ⟨lw_p30, List.forall_mem_cons.mpr ⟨lw_p31, fun _ h => absurd h List.not_mem_nil⟩⟩⟩⟩⟩⟩⟩⟩⟩⟩⟩⟩⟩⟩⟩⟩
theorem lw_p32 : lw_okq (⟨"ControlRegisterModel", "isDeal", "(I)Z"⟩, 25) := ⟨⟨by decide +kernel, by decide +kernel⟩, List.mem_of_getElem? (i := 612) (by decide +kernel), List.mem_of_getElem? (i := 751) (by decide +kernel), List.mem_of_getElem? (i := 752) (by decide +kernel)⟩
theorem lw_p33 : lw_okq (⟨"ControlRegisterModel", "control", "(I)I"⟩, 25) := ⟨⟨by decide +kernel, by decide +kernel⟩, List.mem_of_getElem? (i := 612) (by decide +kernel), List.mem_of_getElem? (i := 775) (by decide +kernel), List.mem_of_getElem? (i := 776) (by decide +kernel)⟩
theorem lw_p34 : lw_okq (⟨"ControlRegisterModel", "falls", "(III)Z"⟩, 25) := ⟨⟨by decide +kernel, by decide +kernel⟩, List.mem_of_getElem? (i := 612) (by decide +kernel), List.mem_of_getElem? (i := 782) (by decide +kernel), List.mem_of_getElem? (i := 783) (by decide +kernel)⟩
theorem lw_p35 : lw_okq (⟨"ControlRegisterModel", "block", "(III)I"⟩, 25) := ⟨⟨by decide +kernel, by decide +kernel⟩, List.mem_of_getElem? (i := 612) (by decide +kernel), List.mem_of_getElem? (i := 786) (by decide +kernel), List.mem_of_getElem? (i := 787) (by decide +kernel)⟩
theorem lw_p36 : lw_okq (⟨"ControlRegisterModel", "witness", "(II)I"⟩, 25) := ⟨⟨by decide +kernel, by decide +kernel⟩, List.mem_of_getElem? (i := 612) (by decide +kernel), List.mem_of_getElem? (i := 800) (by decide +kernel), List.mem_of_getElem? (i := 801) (by decide +kernel)⟩
theorem lw_p37 : lw_okq (⟨"ControlRegisterModel", "chain", "(II)I"⟩, 25) := ⟨⟨by decide +kernel, by decide +kernel⟩, List.mem_of_getElem? (i := 612) (by decide +kernel), List.mem_of_getElem? (i := 807) (by decide +kernel), List.mem_of_getElem? (i := 808) (by decide +kernel)⟩
theorem lw_p38 : lw_okq (⟨"ControlRegisterModel", "dayBehind", "(I)I"⟩, 25) := ⟨⟨by decide +kernel, by decide +kernel⟩, List.mem_of_getElem? (i := 612) (by decide +kernel), List.mem_of_getElem? (i := 819) (by decide +kernel), List.mem_of_getElem? (i := 820) (by decide +kernel)⟩
theorem lw_p39 : lw_okq (⟨"ControlRegisterModel", "events", "(I)I"⟩, 25) := ⟨⟨by decide +kernel, by decide +kernel⟩, List.mem_of_getElem? (i := 612) (by decide +kernel), List.mem_of_getElem? (i := 831) (by decide +kernel), List.mem_of_getElem? (i := 832) (by decide +kernel)⟩
theorem lw_p40 : lw_okq (⟨"ControlRegisterModel", "upper", "(II)J"⟩, 25) := ⟨⟨by decide +kernel, by decide +kernel⟩, List.mem_of_getElem? (i := 612) (by decide +kernel), List.mem_of_getElem? (i := 841) (by decide +kernel), List.mem_of_getElem? (i := 842) (by decide +kernel)⟩
theorem lw_p41 : lw_okq (⟨"ControlRegisterModel", "layRows", "()V"⟩, 25) := ⟨⟨by decide +kernel, by decide +kernel⟩, List.mem_of_getElem? (i := 612) (by decide +kernel), List.mem_of_getElem? (i := 845) (by decide +kernel), List.mem_of_getElem? (i := 846) (by decide +kernel)⟩
theorem lw_p42 : lw_okq (⟨"ControlRegisterModel", "locked", "()I"⟩, 25) := ⟨⟨by decide +kernel, by decide +kernel⟩, List.mem_of_getElem? (i := 612) (by decide +kernel), List.mem_of_getElem? (i := 849) (by decide +kernel), List.mem_of_getElem? (i := 850) (by decide +kernel)⟩
theorem lw_p43 : lw_okq (⟨"ControlRegisterModel", "determinant", "()J"⟩, 25) := ⟨⟨by decide +kernel, by decide +kernel⟩, List.mem_of_getElem? (i := 612) (by decide +kernel), List.mem_of_getElem? (i := 854) (by decide +kernel), List.mem_of_getElem? (i := 855) (by decide +kernel)⟩
theorem lw_p44 : lw_okq (⟨"ControlRegisterModel", "lower", "()J"⟩, 25) := ⟨⟨by decide +kernel, by decide +kernel⟩, List.mem_of_getElem? (i := 612) (by decide +kernel), List.mem_of_getElem? (i := 861) (by decide +kernel), List.mem_of_getElem? (i := 862) (by decide +kernel)⟩
theorem lw_p45 : lw_okq (⟨"ControlRegisterModel", "layUppers", "(I)V"⟩, 25) := ⟨⟨by decide +kernel, by decide +kernel⟩, List.mem_of_getElem? (i := 612) (by decide +kernel), List.mem_of_getElem? (i := 876) (by decide +kernel), List.mem_of_getElem? (i := 877) (by decide +kernel)⟩
theorem lw_p46 : lw_okq (⟨"ControlRegisterModel", "done", "()I"⟩, 25) := ⟨⟨by decide +kernel, by decide +kernel⟩, List.mem_of_getElem? (i := 612) (by decide +kernel), List.mem_of_getElem? (i := 900) (by decide +kernel), List.mem_of_getElem? (i := 901) (by decide +kernel)⟩
theorem lw_p47 : lw_okq (⟨"ControlRegisterModel", "mostRounds", "()I"⟩, 25) := ⟨⟨by decide +kernel, by decide +kernel⟩, List.mem_of_getElem? (i := 612) (by decide +kernel), List.mem_of_getElem? (i := 904) (by decide +kernel), List.mem_of_getElem? (i := 905) (by decide +kernel)⟩
def lw_privs_3 : List (MethodName × Nat) := [(⟨"ControlRegisterModel", "isDeal", "(I)Z"⟩, 25), (⟨"ControlRegisterModel", "control", "(I)I"⟩, 25), (⟨"ControlRegisterModel", "falls", "(III)Z"⟩, 25), (⟨"ControlRegisterModel", "block", "(III)I"⟩, 25), (⟨"ControlRegisterModel", "witness", "(II)I"⟩, 25), (⟨"ControlRegisterModel", "chain", "(II)I"⟩, 25), (⟨"ControlRegisterModel", "dayBehind", "(I)I"⟩, 25), (⟨"ControlRegisterModel", "events", "(I)I"⟩, 25), (⟨"ControlRegisterModel", "upper", "(II)J"⟩, 25), (⟨"ControlRegisterModel", "layRows", "()V"⟩, 25), (⟨"ControlRegisterModel", "locked", "()I"⟩, 25), (⟨"ControlRegisterModel", "determinant", "()J"⟩, 25), (⟨"ControlRegisterModel", "lower", "()J"⟩, 25), (⟨"ControlRegisterModel", "layUppers", "(I)V"⟩, 25), (⟨"ControlRegisterModel", "done", "()I"⟩, 25), (⟨"ControlRegisterModel", "mostRounds", "()I"⟩, 25)]
theorem lw_r3 : ∀ q ∈ lw_privs_3, lw_okq q := List.forall_mem_cons.mpr ⟨lw_p32, List.forall_mem_cons.mpr ⟨lw_p33, List.forall_mem_cons.mpr ⟨lw_p34, List.forall_mem_cons.mpr ⟨lw_p35, List.forall_mem_cons.mpr ⟨lw_p36, List.forall_mem_cons.mpr ⟨lw_p37, List.forall_mem_cons.mpr ⟨lw_p38, List.forall_mem_cons.mpr ⟨lw_p39, List.forall_mem_cons.mpr ⟨lw_p40, List.forall_mem_cons.mpr ⟨lw_p41, List.forall_mem_cons.mpr ⟨lw_p42, List.forall_mem_cons.mpr ⟨lw_p43, List.forall_mem_cons.mpr ⟨lw_p44, List.forall_mem_cons.mpr ⟨lw_p45, List.forall_mem_cons.mpr ⟨lw_p46, List.forall_mem_cons.mpr ⟨lw_p47, fun _ h => absurd h List.not_mem_nil⟩⟩⟩⟩⟩⟩⟩⟩⟩⟩⟩⟩⟩⟩⟩⟩
theorem lw_p48 : lw_okq (⟨"ControlRegisterModel", "unlikeDay", "(I)I"⟩, 25) := ⟨⟨by decide +kernel, by decide +kernel⟩, List.mem_of_getElem? (i := 612) (by decide +kernel), List.mem_of_getElem? (i := 908) (by decide +kernel), List.mem_of_getElem? (i := 909) (by decide +kernel)⟩
def lw_privs_4 : List (MethodName × Nat) := [(⟨"ControlRegisterModel", "unlikeDay", "(I)I"⟩, 25)]
theorem lw_r4 : ∀ q ∈ lw_privs_4, lw_okq q := List.forall_mem_cons.mpr ⟨lw_p48, fun _ h => absurd h List.not_mem_nil⟩
def lw_privs : List (MethodName × Nat) := lw_privs_1 ++ (lw_privs_2 ++ (lw_privs_3 ++ (lw_privs_4)))
def lw_tbl : List Cond := k2_sels lw_privs ++ tables_1
theorem lw_privs_ok : ∀ q ∈ lw_privs, lw_okq q := by
  show ∀ q ∈ lw_privs_1 ++ (lw_privs_2 ++ (lw_privs_3 ++ (lw_privs_4))), lw_okq q
  exact List.forall_mem_append.mpr ⟨lw_r1, List.forall_mem_append.mpr ⟨lw_r2, List.forall_mem_append.mpr ⟨lw_r3, lw_r4⟩⟩⟩
/-! ===== BEGIN words of one list among another's, by their places ===== -/
theorem goodIn_r {big : List Cond} (ws : List Cond) (ps : List Nat) (hp : ws = ps.filterMap (fun i => big[i]?)) (h : ws.all goodWord = true) : GoodIn big ws := by
  intro w hw
  have h1 := List.all_eq_true.mp h w hw
  rw [hp] at hw
  obtain ⟨i, -, hi⟩ := List.mem_filterMap.mp hw
  have hm : w ∈ big := by first | exact List.mem_of_getElem? hi | exact List.getElem?_mem hi
  exact ⟨hm, good_of_word h1⟩
theorem goodIn_app {big a b : List Cond} (ha : GoodIn big a) (hb : GoodIn big b) : GoodIn big (a ++ b) := fun w h => (List.mem_append.mp h).elim (ha w) (hb w)
theorem goodIn_ca {big a b : List Cond} {c : Cond} (ha : GoodIn big (c :: a)) (hb : GoodIn big b) : GoodIn big (c :: (a ++ b)) := fun w h => (List.mem_cons.mp h).elim (fun e => ha w (List.mem_cons.mpr (Or.inl e))) (fun h => (List.mem_append.mp h).elim (fun h => ha w (List.mem_cons.mpr (Or.inr h))) (hb w))
theorem goodIn_sub {big ws : List Cond} (hm : ∀ w ∈ ws, w ∈ big) (h : ws.all goodWord = true) : GoodIn big ws := fun w hw => ⟨hm w hw, good_of_word (List.all_eq_true.mp h w hw)⟩
/-! ===== END ===== -/
def RX0 : String := "ControlRegister$Book"
def TX0 : u_T := fun k => match k with
  | 0 => ("ControlRegister$Book", "day", "[I", true)
  | 1 => ("ControlRegister$Book", "kind", "[I", true)
  | 2 => ("ControlRegister$Book", "firm", "[I", true)
  | 3 => ("ControlRegister$Book", "from", "[I", true)
  | 4 => ("ControlRegister$Book", "to", "[I", true)
  | 5 => ("ControlRegister$Book", "amount", "[I", true)
  | 6 => ("ControlRegister$Book", "order", "[I", true)
  | 7 => ("ControlRegister$Book", "size", "I", false)
  | 8 => ("ControlRegister$Book", "looked", "I", false)
  | 9 => ("ControlRegister$Book", "half", "I", false)
  | 10 => ("ControlRegister$Book", "deemed", "I", false)
  | _ => ("ControlRegister$Book", "owning", "I", false)
def tyX0 : Nat → FieldType := fun k => match k with
  | 0 => .array .int
  | 1 => .array .int
  | 2 => .array .int
  | 3 => .array .int
  | 4 => .array .int
  | 5 => .array .int
  | 6 => .array .int
  | 7 => .int
  | 8 => .int
  | 9 => .int
  | 10 => .int
  | _ => .int
abbrev wsX00 : List Cond := u_ws RX0 TX0 12
theorem nmX0 : ∀ a, a < 12 → ∀ b, b < 12 → a ≠ b → (TX0 a).2.1 ≠ (TX0 b).2.1 := by decide +kernel
theorem tyX0_ok : ∀ k, k < 12 → parseFieldDescriptor (TX0 k).2.2.1 = some (tyX0 k) := by decide +kernel
abbrev cX0_init : ByteArray := prog_2_method_1_code
def yX0_init : MethodName := ⟨RX0, "<init>", "()V"⟩
abbrev cX0_append : ByteArray := prog_2_method_2_code
def yX0_append : MethodName := ⟨RX0, "append", "(IIIIII)V"⟩
abbrev cX0_strike : ByteArray := prog_2_method_3_code
def yX0_strike : MethodName := ⟨RX0, "strike", "(I)V"⟩
abbrev cX0_closeGap : ByteArray := prog_2_method_4_code
def yX0_closeGap : MethodName := ⟨RX0, "closeGap", "([II)V"⟩
abbrev cX0_arrange : ByteArray := prog_2_method_5_code
def yX0_arrange : MethodName := ⟨RX0, "arrange", "()V"⟩
abbrev cX0_copyFrom : ByteArray := prog_2_method_6_code
def yX0_copyFrom : MethodName := ⟨RX0, "copyFrom", "(LControlRegister$Book;)V"⟩
abbrev cX0_placeOf : ByteArray := prog_2_method_7_code
def yX0_placeOf : MethodName := ⟨RX0, "placeOf", "(I)I"⟩
abbrev cX0_doneBy : ByteArray := prog_2_method_8_code
def yX0_doneBy : MethodName := ⟨RX0, "doneBy", "(I)I"⟩
abbrev cX0_isLastOfItsDay : ByteArray := prog_2_method_9_code
def yX0_isLastOfItsDay : MethodName := ⟨RX0, "isLastOfItsDay", "(I)Z"⟩
abbrev cX0_unlikeDay : ByteArray := prog_2_method_10_code
def yX0_unlikeDay : MethodName := ⟨RX0, "unlikeDay", "(I)I"⟩
def RX1 : String := "ControlRegister$Control"
def TX1 : u_T := fun k => match k with
  | 0 => ("ControlRegister$Control", "firmsOf", "[I", true)
  | 1 => ("ControlRegister$Control", "roundOf", "[[I", true)
  | _ => ("ControlRegister$Control", "rounds", "[I", true)
def tyX1 : Nat → FieldType := fun k => match k with
  | 0 => .array .int
  | 1 => .array (.array .int)
  | _ => .array .int
abbrev wsX10 : List Cond := u_ws RX1 TX1 3
theorem nmX1 : ∀ a, a < 3 → ∀ b, b < 3 → a ≠ b → (TX1 a).2.1 ≠ (TX1 b).2.1 := by decide +kernel
theorem tyX1_ok : ∀ k, k < 3 → parseFieldDescriptor (TX1 k).2.2.1 = some (tyX1 k) := by decide +kernel
abbrev cX1_init : ByteArray := prog_3_method_1_code
def yX1_init : MethodName := ⟨RX1, "<init>", "()V"⟩
abbrev cX1_workOutAll : ByteArray := prog_3_method_2_code
def yX1_workOutAll : MethodName := ⟨RX1, "workOutAll", "(LControlRegister$Holdings;LControlRegister$Book;)V"⟩
abbrev cX1_workOut : ByteArray := prog_3_method_3_code
def yX1_workOut : MethodName := ⟨RX1, "workOut", "(ILControlRegister$Holdings;LControlRegister$Book;)V"⟩
abbrev cX1_newFirms : ByteArray := prog_3_method_4_code
def yX1_newFirms : MethodName := ⟨RX1, "newFirms", "(ILControlRegister$Holdings;LControlRegister$Book;)I"⟩
abbrev cX1_witnessOf : ByteArray := prog_3_method_5_code
def yX1_witnessOf : MethodName := ⟨RX1, "witnessOf", "(IILControlRegister$Holdings;LControlRegister$Book;)I"⟩
abbrev cX1_firmsBefore : ByteArray := prog_3_method_6_code
def yX1_firmsBefore : MethodName := ⟨RX1, "firmsBefore", "(II)I"⟩
abbrev cX1_chainOf : ByteArray := prog_3_method_7_code
def yX1_chainOf : MethodName := ⟨RX1, "chainOf", "(IILControlRegister$Holdings;LControlRegister$Book;)I"⟩
abbrev cX1_thoseOver : ByteArray := prog_3_method_8_code
def yX1_thoseOver : MethodName := ⟨RX1, "thoseOver", "(III)I"⟩
abbrev cX1_mostRounds : ByteArray := prog_3_method_9_code
def yX1_mostRounds : MethodName := ⟨RX1, "mostRounds", "()I"⟩
def RX2 : String := "ControlRegister$Holdings"
def TX2 : u_T := fun k => match k with
  | 0 => ("ControlRegister$Holdings", "shares", "[[I", true)
  | 1 => ("ControlRegister$Holdings", "votes", "[[I", true)
  | _ => ("ControlRegister$Holdings", "vetoes", "[I", true)
def tyX2 : Nat → FieldType := fun k => match k with
  | 0 => .array (.array .int)
  | 1 => .array (.array .int)
  | _ => .array .int
abbrev wsX20 : List Cond := u_ws RX2 TX2 3
theorem nmX2 : ∀ a, a < 3 → ∀ b, b < 3 → a ≠ b → (TX2 a).2.1 ≠ (TX2 b).2.1 := by decide +kernel
theorem tyX2_ok : ∀ k, k < 3 → parseFieldDescriptor (TX2 k).2.2.1 = some (tyX2 k) := by decide +kernel
abbrev cX2_init : ByteArray := prog_4_method_1_code
def yX2_init : MethodName := ⟨RX2, "<init>", "()V"⟩
abbrev cX2_beginAgain : ByteArray := prog_4_method_2_code
def yX2_beginAgain : MethodName := ⟨RX2, "beginAgain", "()V"⟩
abbrev cX2_copyFrom : ByteArray := prog_4_method_3_code
def yX2_copyFrom : MethodName := ⟨RX2, "copyFrom", "(LControlRegister$Holdings;)V"⟩
abbrev cX2_carryOut : ByteArray := prog_4_method_4_code
def yX2_carryOut : MethodName := ⟨RX2, "carryOut", "(LControlRegister$Book;I)Z"⟩
abbrev cX2_move : ByteArray := prog_4_method_5_code
def yX2_move : MethodName := ⟨RX2, "move", "([IIII)Z"⟩
abbrev cX2_allies : ByteArray := prog_4_method_6_code
def yX2_allies : MethodName := ⟨RX2, "allies", "(II)I"⟩
abbrev cX2_block : ByteArray := prog_4_method_7_code
def yX2_block : MethodName := ⟨RX2, "block", "(II)I"⟩
abbrev cX2_isMatched : ByteArray := prog_4_method_8_code
def yX2_isMatched : MethodName := ⟨RX2, "isMatched", "(III)Z"⟩
abbrev cX2_falls : ByteArray := prog_4_method_9_code
def yX2_falls : MethodName := ⟨RX2, "falls", "(IIILControlRegister$Book;)Z"⟩
abbrev cX2_sharesHeldBy : ByteArray := prog_4_method_10_code
def yX2_sharesHeldBy : MethodName := ⟨RX2, "sharesHeldBy", "(II)I"⟩
def RX3 : String := "ControlRegister$Reach"
def TX3 : u_T := fun k => match k with
  | _ => ("ControlRegister$Reach", "reached", "[I", true)
def tyX3 : Nat → FieldType := fun k => match k with
  | _ => .array .int
abbrev wsX30 : List Cond := u_ws RX3 TX3 1
theorem nmX3 : ∀ a, a < 1 → ∀ b, b < 1 → a ≠ b → (TX3 a).2.1 ≠ (TX3 b).2.1 := by decide +kernel
theorem tyX3_ok : ∀ k, k < 1 → parseFieldDescriptor (TX3 k).2.2.1 = some (tyX3 k) := by decide +kernel
abbrev cX3_init : ByteArray := prog_5_method_1_code
def yX3_init : MethodName := ⟨RX3, "<init>", "()V"⟩
abbrev cX3_workOut : ByteArray := prog_5_method_2_code
def yX3_workOut : MethodName := ⟨RX3, "workOut", "(LControlRegister$Holdings;)V"⟩
abbrev cX3_firmsWithShareOf : ByteArray := prog_5_method_3_code
def yX3_firmsWithShareOf : MethodName := ⟨RX3, "firmsWithShareOf", "(LControlRegister$Holdings;I)I"⟩
abbrev cX3_circleOf : ByteArray := prog_5_method_4_code
def yX3_circleOf : MethodName := ⟨RX3, "circleOf", "(I)I"⟩
def RX4 : String := "ControlRegister$Stakes"
def TX4 : u_T := fun k => match k with
  | 0 => ("ControlRegister$Stakes", "locked", "I", false)
  | _ => ("ControlRegister$Stakes", "rows", "[[J", true)
def tyX4 : Nat → FieldType := fun k => match k with
  | 0 => .int
  | _ => .array (.array .long)
abbrev wsX40 : List Cond := u_ws RX4 TX4 2
theorem nmX4 : ∀ a, a < 2 → ∀ b, b < 2 → a ≠ b → (TX4 a).2.1 ≠ (TX4 b).2.1 := by decide +kernel
theorem tyX4_ok : ∀ k, k < 2 → parseFieldDescriptor (TX4 k).2.2.1 = some (tyX4 k) := by decide +kernel
abbrev cX4_init : ByteArray := prog_6_method_1_code
def yX4_init : MethodName := ⟨RX4, "<init>", "()V"⟩
abbrev cX4_workOut : ByteArray := prog_6_method_2_code
def yX4_workOut : MethodName := ⟨RX4, "workOut", "(LControlRegister$Holdings;)V"⟩
abbrev cX4_lockedFirms : ByteArray := prog_6_method_3_code
def yX4_lockedFirms : MethodName := ⟨RX4, "lockedFirms", "(LControlRegister$Holdings;)I"⟩
abbrev cX4_writeRow : ByteArray := prog_6_method_4_code
def yX4_writeRow : MethodName := ⟨RX4, "writeRow", "(LControlRegister$Holdings;I)V"⟩
abbrev cX4_solve : ByteArray := prog_6_method_5_code
def yX4_solve : MethodName := ⟨RX4, "solve", "()V"⟩
abbrev cX4_eliminate : ByteArray := prog_6_method_6_code
def yX4_eliminate : MethodName := ⟨RX4, "eliminate", "(IIJ)V"⟩
abbrev cX4_upper : ByteArray := prog_6_method_7_code
def yX4_upper : MethodName := ⟨RX4, "upper", "(II)J"⟩
abbrev cX4_lower : ByteArray := prog_6_method_8_code
def yX4_lower : MethodName := ⟨RX4, "lower", "(I)J"⟩
abbrev cX4_upperOfNobody : ByteArray := prog_6_method_9_code
def yX4_upperOfNobody : MethodName := ⟨RX4, "upperOfNobody", "(I)J"⟩
abbrev cX4_rankOf : ByteArray := prog_6_method_10_code
def yX4_rankOf : MethodName := ⟨RX4, "rankOf", "(II)I"⟩
abbrev cX4_personsAbove : ByteArray := prog_6_method_11_code
def yX4_personsAbove : MethodName := ⟨RX4, "personsAbove", "(II)I"⟩
def RX5 : String := "ControlRegister$Timeline"
def TX5 : u_T := fun k => match k with
  | 0 => ("ControlRegister$Timeline", "days", "[I", true)
  | 1 => ("ControlRegister$Timeline", "firmsOf", "[[I", true)
  | 2 => ("ControlRegister$Timeline", "size", "I", false)
  | 3 => ("ControlRegister$Timeline", "events", "[I", true)
  | _ => ("ControlRegister$Timeline", "eventCount", "I", false)
def tyX5 : Nat → FieldType := fun k => match k with
  | 0 => .array .int
  | 1 => .array (.array .int)
  | 2 => .int
  | 3 => .array .int
  | _ => .int
abbrev wsX50 : List Cond := u_ws RX5 TX5 5
theorem nmX5 : ∀ a, a < 5 → ∀ b, b < 5 → a ≠ b → (TX5 a).2.1 ≠ (TX5 b).2.1 := by decide +kernel
theorem tyX5_ok : ∀ k, k < 5 → parseFieldDescriptor (TX5 k).2.2.1 = some (tyX5 k) := by decide +kernel
abbrev cX5_init : ByteArray := prog_7_method_1_code
def yX5_init : MethodName := ⟨RX5, "<init>", "()V"⟩
abbrev cX5_workOut : ByteArray := prog_7_method_2_code
def yX5_workOut : MethodName := ⟨RX5, "workOut", "(LControlRegister$Book;LControlRegister$Holdings;LControlRegister$Control;)V"⟩
abbrev cX5_listEvents : ByteArray := prog_7_method_3_code
def yX5_listEvents : MethodName := ⟨RX5, "listEvents", "()V"⟩
abbrev cX5_listEvent : ByteArray := prog_7_method_4_code
def yX5_listEvent : MethodName := ⟨RX5, "listEvent", "(III)V"⟩
abbrev cX5_isControlled : ByteArray := prog_7_method_5_code
def yX5_isControlled : MethodName := ⟨RX5, "isControlled", "(III)Z"⟩
abbrev cX5_ofEvent : ByteArray := prog_7_method_6_code
def yX5_ofEvent : MethodName := ⟨RX5, "ofEvent", "(II)I"⟩
abbrev cX5_firstDay : ByteArray := prog_7_method_7_code
def yX5_firstDay : MethodName := ⟨RX5, "firstDay", "(IIIZ)I"⟩
abbrev cX5_lastBy : ByteArray := prog_7_method_8_code
def yX5_lastBy : MethodName := ⟨RX5, "lastBy", "(I)I"⟩
def RX6 : String := "ControlRegister"
def TX6 : u_T := fun k => match k with
  | 0 => ("ControlRegister", "book", "LControlRegister$Book;", true)
  | 1 => ("ControlRegister", "firstImage", "LControlRegister$Book;", true)
  | 2 => ("ControlRegister", "secondImage", "LControlRegister$Book;", true)
  | 3 => ("ControlRegister", "imagesKept", "I", false)
  | 4 => ("ControlRegister", "now", "LControlRegister$Holdings;", true)
  | 5 => ("ControlRegister", "control", "LControlRegister$Control;", true)
  | 6 => ("ControlRegister", "stakes", "LControlRegister$Stakes;", true)
  | 7 => ("ControlRegister", "reach", "LControlRegister$Reach;", true)
  | 8 => ("ControlRegister", "upToDate", "Z", false)
  | 9 => ("ControlRegister", "timeline", "LControlRegister$Timeline;", true)
  | 10 => ("ControlRegister", "traced", "Z", false)
  | 11 => ("ControlRegister", "trial", "LControlRegister$Holdings;", true)
  | _ => ("ControlRegister", "trialControl", "LControlRegister$Control;", true)
def tyX6 : Nat → FieldType := fun k => match k with
  | 0 => .object "ControlRegister$Book"
  | 1 => .object "ControlRegister$Book"
  | 2 => .object "ControlRegister$Book"
  | 3 => .int
  | 4 => .object "ControlRegister$Holdings"
  | 5 => .object "ControlRegister$Control"
  | 6 => .object "ControlRegister$Stakes"
  | 7 => .object "ControlRegister$Reach"
  | 8 => .boolean
  | 9 => .object "ControlRegister$Timeline"
  | 10 => .boolean
  | 11 => .object "ControlRegister$Holdings"
  | _ => .object "ControlRegister$Control"
abbrev wsX60 : List Cond := u_ws RX6 TX6 13
theorem nmX6 : ∀ a, a < 13 → ∀ b, b < 13 → a ≠ b → (TX6 a).2.1 ≠ (TX6 b).2.1 := by decide +kernel
theorem tyX6_ok : ∀ k, k < 13 → parseFieldDescriptor (TX6 k).2.2.1 = some (tyX6 k) := by decide +kernel
abbrev cX6_init : ByteArray := prog_1_method_1_code
def yX6_init : MethodName := ⟨RX6, "<init>", "()V"⟩
abbrev cX6_sellShares : ByteArray := prog_1_method_2_code
def yX6_sellShares : MethodName := ⟨RX6, "sellShares", "(IIIII)I"⟩
abbrev cX6_sellVotes : ByteArray := prog_1_method_3_code
def yX6_sellVotes : MethodName := ⟨RX6, "sellVotes", "(IIIII)I"⟩
abbrev cX6_veto : ByteArray := prog_1_method_4_code
def yX6_veto : MethodName := ⟨RX6, "veto", "(IIII)I"⟩
abbrev cX6_cancel : ByteArray := prog_1_method_5_code
def yX6_cancel : MethodName := ⟨RX6, "cancel", "(I)I"⟩
abbrev cX6_told : ByteArray := prog_1_method_6_code
def yX6_told : MethodName := ⟨RX6, "told", "(II)I"⟩
abbrev cX6_look : ByteArray := prog_1_method_7_code
def yX6_look : MethodName := ⟨RX6, "look", "(I)I"⟩
abbrev cX6_rule : ByteArray := prog_1_method_8_code
def yX6_rule : MethodName := ⟨RX6, "rule", "(II)I"⟩
abbrev cX6_holds : ByteArray := prog_1_method_9_code
def yX6_holds : MethodName := ⟨RX6, "holds", "(III)I"⟩
abbrev cX6_controls : ByteArray := prog_1_method_10_code
def yX6_controls : MethodName := ⟨RX6, "controls", "(I)I"⟩
abbrev cX6_how : ByteArray := prog_1_method_11_code
def yX6_how : MethodName := ⟨RX6, "how", "(III)I"⟩
abbrev cX6_above : ByteArray := prog_1_method_12_code
def yX6_above : MethodName := ⟨RX6, "above", "(II)I"⟩
abbrev cX6_when : ByteArray := prog_1_method_13_code
def yX6_when : MethodName := ⟨RX6, "when", "(III)I"⟩
abbrev cX6_fewest : ByteArray := prog_1_method_14_code
def yX6_fewest : MethodName := ⟨RX6, "fewest", "(III)I"⟩
abbrev cX6_event : ByteArray := prog_1_method_15_code
def yX6_event : MethodName := ⟨RX6, "event", "(II)I"⟩
abbrev cX6_stake : ByteArray := prog_1_method_16_code
def yX6_stake : MethodName := ⟨RX6, "stake", "(III)J"⟩
abbrev cX6_nobody : ByteArray := prog_1_method_17_code
def yX6_nobody : MethodName := ⟨RX6, "nobody", "(II)J"⟩
abbrev cX6_ranked : ByteArray := prog_1_method_18_code
def yX6_ranked : MethodName := ⟨RX6, "ranked", "(II)I"⟩
abbrev cX6_owners : ByteArray := prog_1_method_19_code
def yX6_owners : MethodName := ⟨RX6, "owners", "(I)I"⟩
abbrev cX6_circle : ByteArray := prog_1_method_20_code
def yX6_circle : MethodName := ⟨RX6, "circle", "(I)I"⟩
abbrev cX6_image : ByteArray := prog_1_method_21_code
def yX6_image : MethodName := ⟨RX6, "image", "(I)I"⟩
abbrev cX6_restore : ByteArray := prog_1_method_22_code
def yX6_restore : MethodName := ⟨RX6, "restore", "(I)I"⟩
abbrev cX6_count : ByteArray := prog_1_method_23_code
def yX6_count : MethodName := ⟨RX6, "count", "(I)I"⟩
abbrev cX6_isHolder : ByteArray := prog_1_method_24_code
def yX6_isHolder : MethodName := ⟨RX6, "isHolder", "(I)Z"⟩
abbrev cX6_isPerson : ByteArray := prog_1_method_25_code
def yX6_isPerson : MethodName := ⟨RX6, "isPerson", "(I)Z"⟩
abbrev cX6_isController : ByteArray := prog_1_method_26_code
def yX6_isController : MethodName := ⟨RX6, "isController", "(I)Z"⟩
abbrev cX6_isFirm : ByteArray := prog_1_method_27_code
def yX6_isFirm : MethodName := ⟨RX6, "isFirm", "(I)Z"⟩
abbrev cX6_isDay : ByteArray := prog_1_method_28_code
def yX6_isDay : MethodName := ⟨RX6, "isDay", "(I)Z"⟩
abbrev cX6_isYesOrNo : ByteArray := prog_1_method_29_code
def yX6_isYesOrNo : MethodName := ⟨RX6, "isYesOrNo", "(I)Z"⟩
abbrev cX6_isDeal : ByteArray := prog_1_method_30_code
def yX6_isDeal : MethodName := ⟨RX6, "isDeal", "(I)Z"⟩
abbrev cX6_holderOf : ByteArray := prog_1_method_31_code
def yX6_holderOf : MethodName := ⟨RX6, "holderOf", "(I)I"⟩
abbrev cX6_has : ByteArray := prog_1_method_32_code
def yX6_has : MethodName := ⟨RX6, "has", "(II)Z"⟩
abbrev cX6_asNumber : ByteArray := prog_1_method_33_code
def yX6_asNumber : MethodName := ⟨RX6, "asNumber", "(Z)I"⟩
abbrev cX6_imageAt : ByteArray := prog_1_method_34_code
def yX6_imageAt : MethodName := ⟨RX6, "imageAt", "(I)LControlRegister$Book;"⟩
abbrev cX6_sell : ByteArray := prog_1_method_35_code
def yX6_sell : MethodName := ⟨RX6, "sell", "(IIIIII)I"⟩
abbrev cX6_enter : ByteArray := prog_1_method_36_code
def yX6_enter : MethodName := ⟨RX6, "enter", "(IIIIII)I"⟩
abbrev cX6_isSoundWithout : ByteArray := prog_1_method_37_code
def yX6_isSoundWithout : MethodName := ⟨RX6, "isSoundWithout", "(I)Z"⟩
abbrev cX6_allIsChanged : ByteArray := prog_1_method_38_code
def yX6_allIsChanged : MethodName := ⟨RX6, "allIsChanged", "()V"⟩
abbrev cX6_bringUpToDate : ByteArray := prog_1_method_39_code
def yX6_bringUpToDate : MethodName := ⟨RX6, "bringUpToDate", "()V"⟩
abbrev cX6_trace : ByteArray := prog_1_method_40_code
def yX6_trace : MethodName := ⟨RX6, "trace", "()V"⟩
abbrev cX6_finalBlock : ByteArray := prog_1_method_41_code
def yX6_finalBlock : MethodName := ⟨RX6, "finalBlock", "(II)I"⟩
abbrev cX6_wayOfControl : ByteArray := prog_1_method_42_code
def yX6_wayOfControl : MethodName := ⟨RX6, "wayOfControl", "(II)I"⟩
abbrev cX6_fewestToSell : ByteArray := prog_1_method_43_code
def yX6_fewestToSell : MethodName := ⟨RX6, "fewestToSell", "(II)I"⟩
abbrev cX6_fewestToBuy : ByteArray := prog_1_method_44_code
def yX6_fewestToBuy : MethodName := ⟨RX6, "fewestToBuy", "(II)I"⟩
abbrev cX6_wouldControl : ByteArray := prog_1_method_45_code
def yX6_wouldControl : MethodName := ⟨RX6, "wouldControl", "(II)Z"⟩
abbrev cX6_inLowestTerms : ByteArray := prog_1_method_46_code
def yX6_inLowestTerms : MethodName := ⟨RX6, "inLowestTerms", "(JJI)J"⟩
abbrev cX6_commonDivisor : ByteArray := prog_1_method_47_code
def yX6_commonDivisor : MethodName := ⟨RX6, "commonDivisor", "(JJ)J"⟩
def RX7 : String := "ControlRegisterModel"
def TX7 : u_T := fun k => match k with
  | 0 => ("ControlRegisterModel", "day", "[I", true)
  | 1 => ("ControlRegisterModel", "firm", "[I", true)
  | 2 => ("ControlRegisterModel", "kind", "[I", true)
  | 3 => ("ControlRegisterModel", "from", "[I", true)
  | 4 => ("ControlRegisterModel", "to", "[I", true)
  | 5 => ("ControlRegisterModel", "size", "[I", true)
  | 6 => ("ControlRegisterModel", "deals", "I", false)
  | 7 => ("ControlRegisterModel", "now", "I", false)
  | 8 => ("ControlRegisterModel", "rules", "[I", true)
  | 9 => ("ControlRegisterModel", "order", "[I", true)
  | 10 => ("ControlRegisterModel", "shares", "[I", true)
  | 11 => ("ControlRegisterModel", "votes", "[I", true)
  | 12 => ("ControlRegisterModel", "veto", "[Z", true)
  | 13 => ("ControlRegisterModel", "round", "[I", true)
  | 14 => ("ControlRegisterModel", "rounds", "I", false)
  | 15 => ("ControlRegisterModel", "before", "[I", true)
  | 16 => ("ControlRegisterModel", "eventDay", "I", false)
  | 17 => ("ControlRegisterModel", "eventHolder", "I", false)
  | 18 => ("ControlRegisterModel", "eventFirm", "I", false)
  | 19 => ("ControlRegisterModel", "eventIs", "I", false)
  | 20 => ("ControlRegisterModel", "rows", "[J", true)
  | 21 => ("ControlRegisterModel", "uppers", "[J", true)
  | 22 => ("ControlRegisterModel", "reach", "[I", true)
  | 23 => ("ControlRegisterModel", "image", "[I", true)
  | _ => ("ControlRegisterModel", "isKept", "[Z", true)
def tyX7 : Nat → FieldType := fun k => match k with
  | 0 => .array .int
  | 1 => .array .int
  | 2 => .array .int
  | 3 => .array .int
  | 4 => .array .int
  | 5 => .array .int
  | 6 => .int
  | 7 => .int
  | 8 => .array .int
  | 9 => .array .int
  | 10 => .array .int
  | 11 => .array .int
  | 12 => .array .boolean
  | 13 => .array .int
  | 14 => .int
  | 15 => .array .int
  | 16 => .int
  | 17 => .int
  | 18 => .int
  | 19 => .int
  | 20 => .array .long
  | 21 => .array .long
  | 22 => .array .int
  | 23 => .array .int
  | _ => .array .boolean
abbrev wsX70 : List Cond := u_ws RX7 TX7 25
theorem nmX7 : ∀ a, a < 25 → ∀ b, b < 25 → a ≠ b → (TX7 a).2.1 ≠ (TX7 b).2.1 := by decide +kernel
theorem tyX7_ok : ∀ k, k < 25 → parseFieldDescriptor (TX7 k).2.2.1 = some (tyX7 k) := by decide +kernel
abbrev cX7_init : ByteArray := prog_9_method_1_code
def yX7_init : MethodName := ⟨RX7, "<init>", "()V"⟩
abbrev cX7_in : ByteArray := prog_9_method_2_code
def yX7_in : MethodName := ⟨RX7, "in", "(III)Z"⟩
abbrev cX7_isFirm : ByteArray := prog_9_method_3_code
def yX7_isFirm : MethodName := ⟨RX7, "isFirm", "(I)Z"⟩
abbrev cX7_isOne : ByteArray := prog_9_method_4_code
def yX7_isOne : MethodName := ⟨RX7, "isOne", "(I)Z"⟩
abbrev cX7_placeOf : ByteArray := prog_9_method_5_code
def yX7_placeOf : MethodName := ⟨RX7, "placeOf", "(I)I"⟩
abbrev cX7_at : ByteArray := prog_9_method_6_code
def yX7_at : MethodName := ⟨RX7, "at", "(II)I"⟩
abbrev cX7_begin : ByteArray := prog_9_method_7_code
def yX7_begin : MethodName := ⟨RX7, "begin", "()V"⟩
abbrev cX7_does : ByteArray := prog_9_method_8_code
def yX7_does : MethodName := ⟨RX7, "does", "(I)Z"⟩
abbrev cX7_lay : ByteArray := prog_9_method_9_code
def yX7_lay : MethodName := ⟨RX7, "lay", "(II)Z"⟩
abbrev cX7_put : ByteArray := prog_9_method_10_code
def yX7_put : MethodName := ⟨RX7, "put", "(IIIIIII)V"⟩
abbrev cX7_add : ByteArray := prog_9_method_11_code
def yX7_add : MethodName := ⟨RX7, "add", "()I"⟩
abbrev cX7_sell : ByteArray := prog_9_method_12_code
def yX7_sell : MethodName := ⟨RX7, "sell", "(IIIIII)I"⟩
abbrev cX7_sellShares : ByteArray := prog_9_method_13_code
def yX7_sellShares : MethodName := ⟨RX7, "sellShares", "(IIIII)I"⟩
abbrev cX7_sellVotes : ByteArray := prog_9_method_14_code
def yX7_sellVotes : MethodName := ⟨RX7, "sellVotes", "(IIIII)I"⟩
abbrev cX7_veto : ByteArray := prog_9_method_15_code
def yX7_veto : MethodName := ⟨RX7, "veto", "(IIII)I"⟩
abbrev cX7_isDeal : ByteArray := prog_9_method_16_code
def yX7_isDeal : MethodName := ⟨RX7, "isDeal", "(I)Z"⟩
abbrev cX7_cancel : ByteArray := prog_9_method_17_code
def yX7_cancel : MethodName := ⟨RX7, "cancel", "(I)I"⟩
abbrev cX7_told : ByteArray := prog_9_method_18_code
def yX7_told : MethodName := ⟨RX7, "told", "(II)I"⟩
abbrev cX7_look : ByteArray := prog_9_method_19_code
def yX7_look : MethodName := ⟨RX7, "look", "(I)I"⟩
abbrev cX7_rule : ByteArray := prog_9_method_20_code
def yX7_rule : MethodName := ⟨RX7, "rule", "(II)I"⟩
abbrev cX7_holds : ByteArray := prog_9_method_21_code
def yX7_holds : MethodName := ⟨RX7, "holds", "(III)I"⟩
abbrev cX7_has : ByteArray := prog_9_method_22_code
def yX7_has : MethodName := ⟨RX7, "has", "(II)Z"⟩
abbrev cX7_isWith : ByteArray := prog_9_method_23_code
def yX7_isWith : MethodName := ⟨RX7, "isWith", "(III)Z"⟩
abbrev cX7_block : ByteArray := prog_9_method_24_code
def yX7_block : MethodName := ⟨RX7, "block", "(III)I"⟩
abbrev cX7_falls : ByteArray := prog_9_method_25_code
def yX7_falls : MethodName := ⟨RX7, "falls", "(III)Z"⟩
abbrev cX7_control : ByteArray := prog_9_method_26_code
def yX7_control : MethodName := ⟨RX7, "control", "(I)I"⟩
abbrev cX7_controls : ByteArray := prog_9_method_27_code
def yX7_controls : MethodName := ⟨RX7, "controls", "(I)I"⟩
abbrev cX7_many : ByteArray := prog_9_method_28_code
def yX7_many : MethodName := ⟨RX7, "many", "(I)I"⟩
abbrev cX7_witness : ByteArray := prog_9_method_29_code
def yX7_witness : MethodName := ⟨RX7, "witness", "(II)I"⟩
abbrev cX7_chain : ByteArray := prog_9_method_30_code
def yX7_chain : MethodName := ⟨RX7, "chain", "(II)I"⟩
abbrev cX7_areKnown : ByteArray := prog_9_method_31_code
def yX7_areKnown : MethodName := ⟨RX7, "areKnown", "(II)Z"⟩
abbrev cX7_how : ByteArray := prog_9_method_32_code
def yX7_how : MethodName := ⟨RX7, "how", "(III)I"⟩
abbrev cX7_above : ByteArray := prog_9_method_33_code
def yX7_above : MethodName := ⟨RX7, "above", "(II)I"⟩
abbrev cX7_dayBehind : ByteArray := prog_9_method_34_code
def yX7_dayBehind : MethodName := ⟨RX7, "dayBehind", "(I)I"⟩
abbrev cX7_when : ByteArray := prog_9_method_35_code
def yX7_when : MethodName := ⟨RX7, "when", "(III)I"⟩
abbrev cX7_fewest : ByteArray := prog_9_method_36_code
def yX7_fewest : MethodName := ⟨RX7, "fewest", "(III)I"⟩
abbrev cX7_events : ByteArray := prog_9_method_37_code
def yX7_events : MethodName := ⟨RX7, "events", "(I)I"⟩
abbrev cX7_event : ByteArray := prog_9_method_38_code
def yX7_event : MethodName := ⟨RX7, "event", "(II)I"⟩
abbrev cX7_locked : ByteArray := prog_9_method_39_code
def yX7_locked : MethodName := ⟨RX7, "locked", "()I"⟩
abbrev cX7_over : ByteArray := prog_9_method_40_code
def yX7_over : MethodName := ⟨RX7, "over", "(II)I"⟩
abbrev cX7_determinant : ByteArray := prog_9_method_41_code
def yX7_determinant : MethodName := ⟨RX7, "determinant", "()J"⟩
abbrev cX7_layRows : ByteArray := prog_9_method_42_code
def yX7_layRows : MethodName := ⟨RX7, "layRows", "()V"⟩
abbrev cX7_lower : ByteArray := prog_9_method_43_code
def yX7_lower : MethodName := ⟨RX7, "lower", "()J"⟩
abbrev cX7_upper : ByteArray := prog_9_method_44_code
def yX7_upper : MethodName := ⟨RX7, "upper", "(II)J"⟩
abbrev cX7_part : ByteArray := prog_9_method_45_code
def yX7_part : MethodName := ⟨RX7, "part", "(JJI)J"⟩
abbrev cX7_stake : ByteArray := prog_9_method_46_code
def yX7_stake : MethodName := ⟨RX7, "stake", "(III)J"⟩
abbrev cX7_nobody : ByteArray := prog_9_method_47_code
def yX7_nobody : MethodName := ⟨RX7, "nobody", "(II)J"⟩
abbrev cX7_layUppers : ByteArray := prog_9_method_48_code
def yX7_layUppers : MethodName := ⟨RX7, "layUppers", "(I)V"⟩
abbrev cX7_ranked : ByteArray := prog_9_method_49_code
def yX7_ranked : MethodName := ⟨RX7, "ranked", "(II)I"⟩
abbrev cX7_owners : ByteArray := prog_9_method_50_code
def yX7_owners : MethodName := ⟨RX7, "owners", "(I)I"⟩
abbrev cX7_circle : ByteArray := prog_9_method_51_code
def yX7_circle : MethodName := ⟨RX7, "circle", "(I)I"⟩
abbrev cX7_image : ByteArray := prog_9_method_52_code
def yX7_image : MethodName := ⟨RX7, "image", "(I)I"⟩
abbrev cX7_restore : ByteArray := prog_9_method_53_code
def yX7_restore : MethodName := ⟨RX7, "restore", "(I)I"⟩
abbrev cX7_unlikeDay : ByteArray := prog_9_method_54_code
def yX7_unlikeDay : MethodName := ⟨RX7, "unlikeDay", "(I)I"⟩
abbrev cX7_done : ByteArray := prog_9_method_55_code
def yX7_done : MethodName := ⟨RX7, "done", "()I"⟩
abbrev cX7_mostRounds : ByteArray := prog_9_method_56_code
def yX7_mostRounds : MethodName := ⟨RX7, "mostRounds", "()I"⟩
abbrev cX7_count : ByteArray := prog_9_method_57_code
def yX7_count : MethodName := ⟨RX7, "count", "(I)I"⟩
def RJ6 : String := "java/lang/Integer"
def TJ6 : u_T := fun k => match k with
  | _ => ("", "", "", false)
def tyJ6 : Nat → FieldType := fun k => match k with
  | _ => .int
abbrev wsJ60 : List Cond := u_ws RJ6 TJ6 0
theorem nmJ6 : ∀ a, a < 0 → ∀ b, b < 0 → a ≠ b → (TJ6 a).2.1 ≠ (TJ6 b).2.1 := by decide +kernel
theorem tyJ6_ok : ∀ k, k < 0 → parseFieldDescriptor (TJ6 k).2.2.1 = some (tyJ6 k) := by decide +kernel
abbrev cJ6_bitCount_0f7a4 : ByteArray := prog_10_method_49_code
def yJ6_bitCount_0f7a4 : MethodName := ⟨RJ6, "bitCount", "(I)I"⟩
def RJ9 : String := "java/lang/Math"
def TJ9 : u_T := fun k => match k with
  | _ => ("", "", "", false)
def tyJ9 : Nat → FieldType := fun k => match k with
  | _ => .int
abbrev wsJ90 : List Cond := u_ws RJ9 TJ9 0
theorem nmJ9 : ∀ a, a < 0 → ∀ b, b < 0 → a ≠ b → (TJ9 a).2.1 ≠ (TJ9 b).2.1 := by decide +kernel
theorem tyJ9_ok : ∀ k, k < 0 → parseFieldDescriptor (TJ9 k).2.2.1 = some (tyJ9 k) := by decide +kernel
abbrev cJ9_max_7cf53 : ByteArray := prog_11_method_65_code
def yJ9_max_7cf53 : MethodName := ⟨RJ9, "max", "(II)I"⟩
def RJ10 : String := "java/lang/System"
def TJ10 : u_T := fun k => match k with
  | _ => ("", "", "", false)
def tyJ10 : Nat → FieldType := fun k => match k with
  | _ => .int
abbrev wsJ100 : List Cond := u_ws RJ10 TJ10 0
theorem nmJ10 : ∀ a, a < 0 → ∀ b, b < 0 → a ≠ b → (TJ10 a).2.1 ≠ (TJ10 b).2.1 := by decide +kernel
theorem tyJ10_ok : ∀ k, k < 0 → parseFieldDescriptor (TJ10 k).2.2.1 = some (tyJ10 k) := by decide +kernel
def RL : String := "ControlRegisterLaw"
abbrev cL_law : ByteArray := code
def yL_law : MethodName := ⟨RL, "law", "([I)Z"⟩
abbrev vwCl : List vw_C := [(RX0, TX0, 12), (RX1, TX1, 3), (RX2, TX2, 3), (RX3, TX3, 1), (RX4, TX4, 2), (RX5, TX5, 5), (RX6, TX6, 13), (RX7, TX7, 25)]

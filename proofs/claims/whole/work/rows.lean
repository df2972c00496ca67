section
/-- a private method of a class that the tables say can be made, by its rows of tables_1 -/
def lw_okq (q : MethodName × Nat) : Prop := (q.1.cls ≠ "java/lang/invoke/MethodHandle" ∧ q.1.cls ≠ "java/lang/invoke/VarHandle") ∧ Cond.instantiable q.1.cls q.2 ∈ tables_1 ∧ Cond.privateMethod q.1 ∈ tables_1 ∧ Cond.instanceMethod q.1 ∈ tables_1
theorem lw_p0 : lw_okq (⟨"ControlRegister", "sell", "(IIIIII)I"⟩, 13) := ⟨⟨by decide +kernel, by decide +kernel⟩, List.mem_of_getElem? (i := 13) (by decide +kernel), List.mem_of_getElem? (i := 225) (by decide +kernel), List.mem_of_getElem? (i := 226) (by decide +kernel)⟩
theorem lw_p1 : lw_okq (⟨"ControlRegister", "enter", "(IIIIII)I"⟩, 13) := ⟨⟨by decide +kernel, by decide +kernel⟩, List.mem_of_getElem? (i := 13) (by decide +kernel), List.mem_of_getElem? (i := 241) (by decide +kernel), List.mem_of_getElem? (i := 242) (by decide +kernel)⟩
theorem lw_p2 : lw_okq (⟨"ControlRegister$Book", "arrange", "()V"⟩, 12) := ⟨⟨by decide +kernel, by decide +kernel⟩, List.mem_of_getElem? (i := 21) (by decide +kernel), List.mem_of_getElem? (i := 249) (by decide +kernel), List.mem_of_getElem? (i := 250) (by decide +kernel)⟩
theorem lw_p3 : lw_okq (⟨"ControlRegister", "isSoundWithout", "(I)Z"⟩, 13) := ⟨⟨by decide +kernel, by decide +kernel⟩, List.mem_of_getElem? (i := 13) (by decide +kernel), List.mem_of_getElem? (i := 253) (by decide +kernel), List.mem_of_getElem? (i := 254) (by decide +kernel)⟩
theorem lw_p4 : lw_okq (⟨"ControlRegister$Book", "closeGap", "([II)V"⟩, 12) := ⟨⟨by decide +kernel, by decide +kernel⟩, List.mem_of_getElem? (i := 21) (by decide +kernel), List.mem_of_getElem? (i := 272) (by decide +kernel), List.mem_of_getElem? (i := 273) (by decide +kernel)⟩
theorem lw_p5 : lw_okq (⟨"ControlRegister", "allIsChanged", "()V"⟩, 13) := ⟨⟨by decide +kernel, by decide +kernel⟩, List.mem_of_getElem? (i := 13) (by decide +kernel), List.mem_of_getElem? (i := 279) (by decide +kernel), List.mem_of_getElem? (i := 280) (by decide +kernel)⟩
theorem lw_p6 : lw_okq (⟨"ControlRegister", "isDeal", "(I)Z"⟩, 13) := ⟨⟨by decide +kernel, by decide +kernel⟩, List.mem_of_getElem? (i := 13) (by decide +kernel), List.mem_of_getElem? (i := 301) (by decide +kernel), List.mem_of_getElem? (i := 302) (by decide +kernel)⟩
theorem lw_p7 : lw_okq (⟨"ControlRegister", "bringUpToDate", "()V"⟩, 13) := ⟨⟨by decide +kernel, by decide +kernel⟩, List.mem_of_getElem? (i := 13) (by decide +kernel), List.mem_of_getElem? (i := 328) (by decide +kernel), List.mem_of_getElem? (i := 329) (by decide +kernel)⟩
theorem lw_p8 : lw_okq (⟨"ControlRegister$Control", "newFirms", "(ILControlRegister$Holdings;LControlRegister$Book;)I"⟩, 3) := ⟨⟨by decide +kernel, by decide +kernel⟩, List.mem_of_getElem? (i := 110) (by decide +kernel), List.mem_of_getElem? (i := 345) (by decide +kernel), List.mem_of_getElem? (i := 346) (by decide +kernel)⟩
theorem lw_p9 : lw_okq (⟨"ControlRegister$Holdings", "isMatched", "(III)Z"⟩, 3) := ⟨⟨by decide +kernel, by decide +kernel⟩, List.mem_of_getElem? (i := 87) (by decide +kernel), List.mem_of_getElem? (i := 363) (by decide +kernel), List.mem_of_getElem? (i := 364) (by decide +kernel)⟩
theorem lw_p10 : lw_okq (⟨"ControlRegister$Stakes", "writeRow", "(LControlRegister$Holdings;I)V"⟩, 2) := ⟨⟨by decide +kernel, by decide +kernel⟩, List.mem_of_getElem? (i := 130) (by decide +kernel), List.mem_of_getElem? (i := 381) (by decide +kernel), List.mem_of_getElem? (i := 382) (by decide +kernel)⟩
theorem lw_p11 : lw_okq (⟨"ControlRegister$Stakes", "solve", "()V"⟩, 2) := ⟨⟨by decide +kernel, by decide +kernel⟩, List.mem_of_getElem? (i := 130) (by decide +kernel), List.mem_of_getElem? (i := 387) (by decide +kernel), List.mem_of_getElem? (i := 388) (by decide +kernel)⟩
theorem lw_p12 : lw_okq (⟨"ControlRegister$Stakes", "eliminate", "(IIJ)V"⟩, 2) := ⟨⟨by decide +kernel, by decide +kernel⟩, List.mem_of_getElem? (i := 130) (by decide +kernel), List.mem_of_getElem? (i := 391) (by decide +kernel), List.mem_of_getElem? (i := 392) (by decide +kernel)⟩
theorem lw_p13 : lw_okq (⟨"ControlRegister", "wayOfControl", "(II)I"⟩, 13) := ⟨⟨by decide +kernel, by decide +kernel⟩, List.mem_of_getElem? (i := 13) (by decide +kernel), List.mem_of_getElem? (i := 413) (by decide +kernel), List.mem_of_getElem? (i := 414) (by decide +kernel)⟩
theorem lw_p14 : lw_okq (⟨"ControlRegister", "finalBlock", "(II)I"⟩, 13) := ⟨⟨by decide +kernel, by decide +kernel⟩, List.mem_of_getElem? (i := 13) (by decide +kernel), List.mem_of_getElem? (i := 417) (by decide +kernel), List.mem_of_getElem? (i := 418) (by decide +kernel)⟩
theorem lw_p15 : lw_okq (⟨"ControlRegister$Control", "firmsBefore", "(II)I"⟩, 3) := ⟨⟨by decide +kernel, by decide +kernel⟩, List.mem_of_getElem? (i := 110) (by decide +kernel), List.mem_of_getElem? (i := 427) (by decide +kernel), List.mem_of_getElem? (i := 428) (by decide +kernel)⟩
def lw_privs_1 : List (MethodName × Nat) := [(⟨"ControlRegister", "sell", "(IIIIII)I"⟩, 13), (⟨"ControlRegister", "enter", "(IIIIII)I"⟩, 13), (⟨"ControlRegister$Book", "arrange", "()V"⟩, 12), (⟨"ControlRegister", "isSoundWithout", "(I)Z"⟩, 13), (⟨"ControlRegister$Book", "closeGap", "([II)V"⟩, 12), (⟨"ControlRegister", "allIsChanged", "()V"⟩, 13), (⟨"ControlRegister", "isDeal", "(I)Z"⟩, 13), (⟨"ControlRegister", "bringUpToDate", "()V"⟩, 13), (⟨"ControlRegister$Control", "newFirms", "(ILControlRegister$Holdings;LControlRegister$Book;)I"⟩, 3), (⟨"ControlRegister$Holdings", "isMatched", "(III)Z"⟩, 3), (⟨"ControlRegister$Stakes", "writeRow", "(LControlRegister$Holdings;I)V"⟩, 2), (⟨"ControlRegister$Stakes", "solve", "()V"⟩, 2), (⟨"ControlRegister$Stakes", "eliminate", "(IIJ)V"⟩, 2), (⟨"ControlRegister", "wayOfControl", "(II)I"⟩, 13), (⟨"ControlRegister", "finalBlock", "(II)I"⟩, 13), (⟨"ControlRegister$Control", "firmsBefore", "(II)I"⟩, 3)]
theorem lw_r1 : ∀ q ∈ lw_privs_1, lw_okq q := List.forall_mem_cons.mpr ⟨lw_p0, List.forall_mem_cons.mpr ⟨lw_p1, List.forall_mem_cons.mpr ⟨lw_p2, List.forall_mem_cons.mpr ⟨lw_p3, List.forall_mem_cons.mpr ⟨lw_p4, List.forall_mem_cons.mpr ⟨lw_p5, List.forall_mem_cons.mpr ⟨lw_p6, List.forall_mem_cons.mpr ⟨lw_p7, List.forall_mem_cons.mpr ⟨lw_p8, List.forall_mem_cons.mpr ⟨lw_p9, List.forall_mem_cons.mpr ⟨lw_p10, List.forall_mem_cons.mpr ⟨lw_p11, List.forall_mem_cons.mpr ⟨lw_p12, List.forall_mem_cons.mpr ⟨lw_p13, List.forall_mem_cons.mpr ⟨lw_p14, List.forall_mem_cons.mpr ⟨lw_p15, fun _ h => absurd h List.not_mem_nil⟩⟩⟩⟩⟩⟩⟩⟩⟩⟩⟩⟩⟩⟩⟩⟩
theorem lw_p16 : lw_okq (⟨"ControlRegister", "trace", "()V"⟩, 13) := ⟨⟨by decide +kernel, by decide +kernel⟩, List.mem_of_getElem? (i := 13) (by decide +kernel), List.mem_of_getElem? (i := 454) (by decide +kernel), List.mem_of_getElem? (i := 455) (by decide +kernel)⟩
theorem lw_p17 : lw_okq (⟨"ControlRegister$Timeline", "listEvents", "()V"⟩, 5) := ⟨⟨by decide +kernel, by decide +kernel⟩, List.mem_of_getElem? (i := 157) (by decide +kernel), List.mem_of_getElem? (i := 469) (by decide +kernel), List.mem_of_getElem? (i := 470) (by decide +kernel)⟩
theorem lw_p18 : lw_okq (⟨"ControlRegister$Timeline", "listEvent", "(III)V"⟩, 5) := ⟨⟨by decide +kernel, by decide +kernel⟩, List.mem_of_getElem? (i := 157) (by decide +kernel), List.mem_of_getElem? (i := 473) (by decide +kernel), List.mem_of_getElem? (i := 474) (by decide +kernel)⟩
theorem lw_p19 : lw_okq (⟨"ControlRegister$Timeline", "isControlled", "(III)Z"⟩, 5) := ⟨⟨by decide +kernel, by decide +kernel⟩, List.mem_of_getElem? (i := 157) (by decide +kernel), List.mem_of_getElem? (i := 477) (by decide +kernel), List.mem_of_getElem? (i := 478) (by decide +kernel)⟩
theorem lw_p20 : lw_okq (⟨"ControlRegister$Timeline", "lastBy", "(I)I"⟩, 5) := ⟨⟨by decide +kernel, by decide +kernel⟩, List.mem_of_getElem? (i := 157) (by decide +kernel), List.mem_of_getElem? (i := 487) (by decide +kernel), List.mem_of_getElem? (i := 488) (by decide +kernel)⟩
theorem lw_p21 : lw_okq (⟨"ControlRegister", "fewestToSell", "(II)I"⟩, 13) := ⟨⟨by decide +kernel, by decide +kernel⟩, List.mem_of_getElem? (i := 13) (by decide +kernel), List.mem_of_getElem? (i := 495) (by decide +kernel), List.mem_of_getElem? (i := 496) (by decide +kernel)⟩
theorem lw_p22 : lw_okq (⟨"ControlRegister", "wouldControl", "(II)Z"⟩, 13) := ⟨⟨by decide +kernel, by decide +kernel⟩, List.mem_of_getElem? (i := 13) (by decide +kernel), List.mem_of_getElem? (i := 504) (by decide +kernel), List.mem_of_getElem? (i := 505) (by decide +kernel)⟩
theorem lw_p23 : lw_okq (⟨"ControlRegister", "fewestToBuy", "(II)I"⟩, 13) := ⟨⟨by decide +kernel, by decide +kernel⟩, List.mem_of_getElem? (i := 13) (by decide +kernel), List.mem_of_getElem? (i := 510) (by decide +kernel), List.mem_of_getElem? (i := 511) (by decide +kernel)⟩
theorem lw_p24 : lw_okq (⟨"ControlRegister", "imageAt", "(I)LControlRegister$Book;"⟩, 13) := ⟨⟨by decide +kernel, by decide +kernel⟩, List.mem_of_getElem? (i := 13) (by decide +kernel), List.mem_of_getElem? (i := 584) (by decide +kernel), List.mem_of_getElem? (i := 585) (by decide +kernel)⟩
theorem lw_p25 : lw_okq (⟨"ControlRegisterModel", "sell", "(IIIIII)I"⟩, 25) := ⟨⟨by decide +kernel, by decide +kernel⟩, List.mem_of_getElem? (i := 612) (by decide +kernel), List.mem_of_getElem? (i := 699) (by decide +kernel), List.mem_of_getElem? (i := 700) (by decide +kernel)⟩
theorem lw_p26 : lw_okq (⟨"ControlRegisterModel", "put", "(IIIIIII)V"⟩, 25) := ⟨⟨by decide +kernel, by decide +kernel⟩, List.mem_of_getElem? (i := 612) (by decide +kernel), List.mem_of_getElem? (i := 709) (by decide +kernel), List.mem_of_getElem? (i := 710) (by decide +kernel)⟩
theorem lw_p27 : lw_okq (⟨"ControlRegisterModel", "add", "()I"⟩, 25) := ⟨⟨by decide +kernel, by decide +kernel⟩, List.mem_of_getElem? (i := 612) (by decide +kernel), List.mem_of_getElem? (i := 713) (by decide +kernel), List.mem_of_getElem? (i := 714) (by decide +kernel)⟩
theorem lw_p28 : lw_okq (⟨"ControlRegisterModel", "lay", "(II)Z"⟩, 25) := ⟨⟨by decide +kernel, by decide +kernel⟩, List.mem_of_getElem? (i := 612) (by decide +kernel), List.mem_of_getElem? (i := 717) (by decide +kernel), List.mem_of_getElem? (i := 718) (by decide +kernel)⟩
theorem lw_p29 : lw_okq (⟨"ControlRegisterModel", "begin", "()V"⟩, 25) := ⟨⟨by decide +kernel, by decide +kernel⟩, List.mem_of_getElem? (i := 612) (by decide +kernel), List.mem_of_getElem? (i := 721) (by decide +kernel), List.mem_of_getElem? (i := 722) (by decide +kernel)⟩
theorem lw_p30 : lw_okq (⟨"ControlRegisterModel", "placeOf", "(I)I"⟩, 25) := ⟨⟨by decide +kernel, by decide +kernel⟩, List.mem_of_getElem? (i := 612) (by decide +kernel), List.mem_of_getElem? (i := 725) (by decide +kernel), List.mem_of_getElem? (i := 726) (by decide +kernel)⟩
theorem lw_p31 : lw_okq (⟨"ControlRegisterModel", "does", "(I)Z"⟩, 25) := ⟨⟨by decide +kernel, by decide +kernel⟩, List.mem_of_getElem? (i := 612) (by decide +kernel), List.mem_of_getElem? (i := 729) (by decide +kernel), List.mem_of_getElem? (i := 730) (by decide +kernel)⟩
def lw_privs_2 : List (MethodName × Nat) := [(⟨"ControlRegister", "trace", "()V"⟩, 13), (⟨"ControlRegister$Timeline", "listEvents", "()V"⟩, 5), (⟨"ControlRegister$Timeline", "listEvent", "(III)V"⟩, 5), (⟨"ControlRegister$Timeline", "isControlled", "(III)Z"⟩, 5), (⟨"ControlRegister$Timeline", "lastBy", "(I)I"⟩, 5), (⟨"ControlRegister", "fewestToSell", "(II)I"⟩, 13), (⟨"ControlRegister", "wouldControl", "(II)Z"⟩, 13), (⟨"ControlRegister", "fewestToBuy", "(II)I"⟩, 13), (⟨"ControlRegister", "imageAt", "(I)LControlRegister$Book;"⟩, 13), (⟨"ControlRegisterModel", "sell", "(IIIIII)I"⟩, 25), (⟨"ControlRegisterModel", "put", "(IIIIIII)V"⟩, 25), (⟨"ControlRegisterModel", "add", "()I"⟩, 25), (⟨"ControlRegisterModel", "lay", "(II)Z"⟩, 25), (⟨"ControlRegisterModel", "begin", "()V"⟩, 25), (⟨"ControlRegisterModel", "placeOf", "(I)I"⟩, 25), (⟨"ControlRegisterModel", "does", "(I)Z"⟩, 25)]
theorem lw_r2 : ∀ q ∈ lw_privs_2, lw_okq q := List.forall_mem_cons.mpr ⟨lw_p16, List.forall_mem_cons.mpr ⟨lw_p17, List.forall_mem_cons.mpr ⟨lw_p18, List.forall_mem_cons.mpr ⟨lw_p19, List.forall_mem_cons.mpr ⟨lw_p20, List.forall_mem_cons.mpr ⟨lw_p21, List.forall_mem_cons.mpr ⟨lw_p22, List.forall_mem_cons.mpr ⟨lw_p23, List.forall_mem_cons.mpr ⟨lw_p24, List.forall_mem_cons.mpr ⟨lw_p25, List.forall_mem_cons.mpr ⟨lw_p26, List.forall_mem_cons.mpr ⟨lw_p27, List.forall_mem_cons.mpr ⟨lw_p28, List.forall_mem_cons.mpr ⟨lw_p29, List.forall_mem_cons.mpr ⟨lw_p30, List.forall_mem_cons.mpr ⟨lw_p31, fun _ h => absurd h List.not_mem_nil⟩⟩⟩⟩⟩⟩⟩⟩⟩⟩⟩⟩⟩⟩⟩⟩
theorem lw_p32 : lw_okq (⟨"ControlRegisterModel", "isDeal", "(I)Z"⟩, 25) := ⟨⟨by decide +kernel, by decide +kernel⟩, List.mem_of_getElem? (i := 612) (by decide +kernel), List.mem_of_getElem? (i := 751) (by decide +kernel), List.mem_of_getElem? (i := 752) (by decide +kernel)⟩
theorem lw_p33 : lw_okq (⟨"ControlRegisterModel", "control", "(I)I"⟩, 25) := ⟨⟨by decide +kernel, by decide +kernel⟩, List.mem_of_getElem? (i := 612) (by decide +kernel), List.mem_of_getElem? (i := 775) (by decide +kernel), List.mem_of_getElem? (i := 776) (by decide +kernel)⟩
theorem lw_p34 : lw_okq (⟨"ControlRegisterModel", "falls", "(III)Z"⟩, 25) := ⟨⟨by decide +kernel, by decide +kernel⟩, List.mem_of_getElem? (i := 612) (by decide +kernel), List.mem_of_getElem? (i := 782) (by decide +kernel), List.mem_of_getElem? (i := 783) (by decide +kernel)⟩
theorem lw_p35 : lw_okq (⟨"ControlRegisterModel", "block", "(III)I"⟩, 25) := ⟨⟨by decide +kernel, by decide +kernel⟩, List.mem_of_getElem? (i := 612) (by decide +kernel), List.mem_of_getElem? (i := 786) (by decide +kernel), List.mem_of_getElem? (i := 787) (by decide +kernel)⟩
theorem lw_p36 : lw_okq (⟨"ControlRegisterModel", "witness", "(II)I"⟩, 25) := ⟨⟨by decide +kernel, by decide +kernel⟩, List.mem_of_getElem? (i := 612) (by decide +kernel), List.mem_of_getElem? (i := 800) (by decide +kernel), List.mem_of_getElem? (i := 801) (by decide +kernel)⟩
theorem lw_p37 : lw_okq (⟨"ControlRegisterModel", "chain", "(II)I"⟩, 25) := ⟨⟨by decide +kernel, by decide +kernel⟩, List.mem_of_getElem? (i := 612) (by decide +kernel), List.mem_of_getElem? (i := 807) (by decide +kernel), List.mem_of_getElem? (i := 808) (by decide +kernel)⟩
theorem lw_p38 : lw_okq (⟨"ControlRegisterModel", "dayBehind", "(I)I"⟩, 25) := ⟨⟨by decide +kernel, by decide +kernel⟩, List.mem_of_getElem? (i := 612) (by decide +kernel), List.mem_of_getElem? (i := 819) (by decide +kernel), List.mem_of_getElem? (i := 820) (by decide +kernel)⟩
theorem lw_p39 : lw_okq (⟨"ControlRegisterModel", "events", "(I)I"⟩, 25) := ⟨⟨by decide +kernel, by decide +kernel⟩, List.mem_of_getElem? (i := 612) (by decide +kernel), List.mem_of_getElem? (i := 831) (by decide +kernel), List.mem_of_getElem? (i := 832) (by decide +kernel)⟩
theorem lw_p40 : lw_okq (⟨"ControlRegisterModel", "upper", "(II)J"⟩, 25) := ⟨⟨by decide +kernel, by decide +kernel⟩, List.mem_of_getElem? (i := 612) (by decide +kernel), List.mem_of_getElem? (i := 841) (by decide +kernel), List.mem_of_getElem? (i := 842) (by decide +kernel)⟩
theorem lw_p41 : lw_okq (⟨"ControlRegisterModel", "layRows", "()V"⟩, 25) := ⟨⟨by decide +kernel, by decide +kernel⟩, List.mem_of_getElem? (i := 612) (by decide +kernel), List.mem_of_getElem? (i := 845) (by decide +kernel), List.mem_of_getElem? (i := 846) (by decide +kernel)⟩
theorem lw_p42 : lw_okq (⟨"ControlRegisterModel", "locked", "()I"⟩, 25) := ⟨⟨by decide +kernel, by decide +kernel⟩, List.mem_of_getElem? (i := 612) (by decide +kernel), List.mem_of_getElem? (i := 849) (by decide +kernel), List.mem_of_getElem? (i := 850) (by decide +kernel)⟩
theorem lw_p43 : lw_okq (⟨"ControlRegisterModel", "determinant", "()J"⟩, 25) := ⟨⟨by decide +kernel, by decide +kernel⟩, List.mem_of_getElem? (i := 612) (by decide +kernel), List.mem_of_getElem? (i := 854) (by decide +kernel), List.mem_of_getElem? (i := 855) (by decide +kernel)⟩
theorem lw_p44 : lw_okq (⟨"ControlRegisterModel", "lower", "()J"⟩, 25) := ⟨⟨by decide +kernel, by decide +kernel⟩, List.mem_of_getElem? (i := 612) (by decide +kernel), List.mem_of_getElem? (i := 861) (by decide +kernel), List.mem_of_getElem? (i := 862) (by decide +kernel)⟩
theorem lw_p45 : lw_okq (⟨"ControlRegisterModel", "layUppers", "(I)V"⟩, 25) := ⟨⟨by decide +kernel, by decide +kernel⟩, List.mem_of_getElem? (i := 612) (by decide +kernel), List.mem_of_getElem? (i := 876) (by decide +kernel), List.mem_of_getElem? (i := 877) (by decide +kernel)⟩
theorem lw_p46 : lw_okq (⟨"ControlRegisterModel", "done", "()I"⟩, 25) := ⟨⟨by decide +kernel, by decide +kernel⟩, List.mem_of_getElem? (i := 612) (by decide +kernel), List.mem_of_getElem? (i := 900) (by decide +kernel), List.mem_of_getElem? (i := 901) (by decide +kernel)⟩
theorem lw_p47 : lw_okq (⟨"ControlRegisterModel", "mostRounds", "()I"⟩, 25) := ⟨⟨by decide +kernel, by decide +kernel⟩, List.mem_of_getElem? (i := 612) (by decide +kernel), List.mem_of_getElem? (i := 904) (by decide +kernel), List.mem_of_getElem? (i := 905) (by decide +kernel)⟩
def lw_privs_3 : List (MethodName × Nat) := [(⟨"ControlRegisterModel", "isDeal", "(I)Z"⟩, 25), (⟨"ControlRegisterModel", "control", "(I)I"⟩, 25), (⟨"ControlRegisterModel", "falls", "(III)Z"⟩, 25), (⟨"ControlRegisterModel", "block", "(III)I"⟩, 25), (⟨"ControlRegisterModel", "witness", "(II)I"⟩, 25), (⟨"ControlRegisterModel", "chain", "(II)I"⟩, 25), (⟨"ControlRegisterModel", "dayBehind", "(I)I"⟩, 25), (⟨"ControlRegisterModel", "events", "(I)I"⟩, 25), (⟨"ControlRegisterModel", "upper", "(II)J"⟩, 25), (⟨"ControlRegisterModel", "layRows", "()V"⟩, 25), (⟨"ControlRegisterModel", "locked", "()I"⟩, 25), (⟨"ControlRegisterModel", "determinant", "()J"⟩, 25), (⟨"ControlRegisterModel", "lower", "()J"⟩, 25), (⟨"ControlRegisterModel", "layUppers", "(I)V"⟩, 25), (⟨"ControlRegisterModel", "done", "()I"⟩, 25), (⟨"ControlRegisterModel", "mostRounds", "()I"⟩, 25)]
theorem lw_r3 : ∀ q ∈ lw_privs_3, lw_okq q := List.forall_mem_cons.mpr ⟨lw_p32, List.forall_mem_cons.mpr ⟨lw_p33, List.forall_mem_cons.mpr ⟨lw_p34, List.forall_mem_cons.mpr ⟨lw_p35, List.forall_mem_cons.mpr ⟨lw_p36, List.forall_mem_cons.mpr ⟨lw_p37, List.forall_mem_cons.mpr ⟨lw_p38, List.forall_mem_cons.mpr ⟨lw_p39, List.forall_mem_cons.mpr ⟨lw_p40, List.forall_mem_cons.mpr ⟨lw_p41, List.forall_mem_cons.mpr ⟨lw_p42, List.forall_mem_cons.mpr ⟨lw_p43, List.forall_mem_cons.mpr ⟨lw_p44, List.forall_mem_cons.mpr ⟨lw_p45, List.forall_mem_cons.mpr ⟨lw_p46, List.forall_mem_cons.mpr ⟨lw_p47, fun _ h => absurd h List.not_mem_nil⟩⟩⟩⟩⟩⟩⟩⟩⟩⟩⟩⟩⟩⟩⟩⟩
theorem lw_p48 : lw_okq (⟨"ControlRegisterModel", "unlikeDay", "(I)I"⟩, 25) := ⟨⟨by decide +kernel, by decide +kernel⟩, List.mem_of_getElem? (i := 612) (by decide +kernel), List.mem_of_getElem? (i := 908) (by decide +kernel), List.mem_of_getElem? (i := 909) (by decide +kernel)⟩
def lw_privs_4 : List (MethodName × Nat) := [(⟨"ControlRegisterModel", "unlikeDay", "(I)I"⟩, 25)]
theorem lw_r4 : ∀ q ∈ lw_privs_4, lw_okq q := List.forall_mem_cons.mpr ⟨lw_p48, fun _ h => absurd h List.not_mem_nil⟩
def lw_privs : List (MethodName × Nat) := lw_privs_1 ++ (lw_privs_2 ++ (lw_privs_3 ++ (lw_privs_4)))
def lw_tbl : List Cond := k2_sels lw_privs ++ tables_1
theorem lw_privs_ok : ∀ q ∈ lw_privs, lw_okq q := by
  show ∀ q ∈ lw_privs_1 ++ (lw_privs_2 ++ (lw_privs_3 ++ (lw_privs_4))), lw_okq q
  exact List.forall_mem_append.mpr ⟨lw_r1, List.forall_mem_append.mpr ⟨lw_r2, List.forall_mem_append.mpr ⟨lw_r3, lw_r4⟩⟩⟩
/-! ===== BEGIN words of one list among another's, by their places ===== -/
theorem goodIn_r {big : List Cond} (ws : List Cond) (ps : List Nat) (hp : ws = ps.filterMap (fun i => big[i]?)) (h : ws.all goodWord = true) : GoodIn big ws := by
  intro w hw
  have h1 := List.all_eq_true.mp h w hw
  rw [hp] at hw
  obtain ⟨i, -, hi⟩ := List.mem_filterMap.mp hw
  have hm : w ∈ big := by first | exact List.mem_of_getElem? hi | exact List.getElem?_mem hi
  exact ⟨hm, good_of_word h1⟩
theorem goodIn_app {big a b : List Cond} (ha : GoodIn big a) (hb : GoodIn big b) : GoodIn big (a ++ b) := fun w h => (List.mem_append.mp h).elim (ha w) (hb w)
theorem goodIn_ca {big a b : List Cond} {c : Cond} (ha : GoodIn big (c :: a)) (hb : GoodIn big b) : GoodIn big (c :: (a ++ b)) := fun w h => (List.mem_cons.mp h).elim (fun e => ha w (List.mem_cons.mpr (Or.inl e))) (fun h => (List.mem_append.mp h).elim (fun h => ha w (List.mem_cons.mpr (Or.inr h))) (hb w))
theorem goodIn_sub {big ws : List Cond} (hm : ∀ w ∈ ws, w ∈ big) (h : ws.all goodWord = true) : GoodIn big ws := fun w hw => ⟨hm w hw, good_of_word (List.all_eq_true.mp h w hw)⟩
/-! ===== END ===== -/
def RX0 : String := "ControlRegister$Book"
def TX0 : u_T := fun k => match k with
  | 0 => ("ControlRegister$Book", "day", "[I", true)
  | 1 => ("ControlRegister$Book", "kind", "[I", true)
  | 2 => ("ControlRegister$Book", "firm", "[I", true)
  | 3 => ("ControlRegister$Book", "from", "[I", true)
  | 4 => ("ControlRegister$Book", "to", "[I", true)
  | 5 => ("ControlRegister$Book", "amount", "[I", true)
  | 6 => ("ControlRegister$Book", "order", "[I", true)
  | 7 => ("ControlRegister$Book", "size", "I", false)
  | 8 => ("ControlRegister$Book", "looked", "I", false)
  | 9 => ("ControlRegister$Book", "half", "I", false)
  | 10 => ("ControlRegister$Book", "deemed", "I", false)
  | _ => ("ControlRegister$Book", "owning", "I", false)
def tyX0 : Nat → FieldType := fun k => match k with
  | 0 => .array .int
  | 1 => .array .int
  | 2 => .array .int
  | 3 => .array .int
  | 4 => .array .int
  | 5 => .array .int
  | 6 => .array .int
  | 7 => .int
  | 8 => .int
  | 9 => .int
  | 10 => .int
  | _ => .int
abbrev wsX00 : List Cond := u_ws RX0 TX0 12
theorem nmX0 : ∀ a, a < 12 → ∀ b, b < 12 → a ≠ b → (TX0 a).2.1 ≠ (TX0 b).2.1 := by decide +kernel
theorem tyX0_ok : ∀ k, k < 12 → parseFieldDescriptor (TX0 k).2.2.1 = some (tyX0 k) := by decide +kernel
abbrev cX0_init : ByteArray := prog_2_method_1_code
def yX0_init : MethodName := ⟨RX0, "<init>", "()V"⟩
abbrev cX0_append : ByteArray := prog_2_method_2_code
def yX0_append : MethodName := ⟨RX0, "append", "(IIIIII)V"⟩
abbrev cX0_strike : ByteArray := prog_2_method_3_code
def yX0_strike : MethodName := ⟨RX0, "strike", "(I)V"⟩
abbrev cX0_closeGap : ByteArray := prog_2_method_4_code
def yX0_closeGap : MethodName := ⟨RX0, "closeGap", "([II)V"⟩
abbrev cX0_arrange : ByteArray := prog_2_method_5_code
def yX0_arrange : MethodName := ⟨RX0, "arrange", "()V"⟩
abbrev cX0_copyFrom : ByteArray := prog_2_method_6_code
def yX0_copyFrom : MethodName := ⟨RX0, "copyFrom", "(LControlRegister$Book;)V"⟩
abbrev cX0_placeOf : ByteArray := prog_2_method_7_code
def yX0_placeOf : MethodName := ⟨RX0, "placeOf", "(I)I"⟩
abbrev cX0_doneBy : ByteArray := prog_2_method_8_code
def yX0_doneBy : MethodName := ⟨RX0, "doneBy", "(I)I"⟩
abbrev cX0_isLastOfItsDay : ByteArray := prog_2_method_9_code
def yX0_isLastOfItsDay : MethodName := ⟨RX0, "isLastOfItsDay", "(I)Z"⟩
abbrev cX0_unlikeDay : ByteArray := prog_2_method_10_code
def yX0_unlikeDay : MethodName := ⟨RX0, "unlikeDay", "(I)I"⟩
def RX1 : String := "ControlRegister$Control"
def TX1 : u_T := fun k => match k with
  | 0 => ("ControlRegister$Control", "firmsOf", "[I", true)
  | 1 => ("ControlRegister$Control", "roundOf", "[[I", true)
  | _ => ("ControlRegister$Control", "rounds", "[I", true)
def tyX1 : Nat → FieldType := fun k => match k with
  | 0 => .array .int
  | 1 => .array (.array .int)
  | _ => .array .int
abbrev wsX10 : List Cond := u_ws RX1 TX1 3
theorem nmX1 : ∀ a, a < 3 → ∀ b, b < 3 → a ≠ b → (TX1 a).2.1 ≠ (TX1 b).2.1 := by decide +kernel
theorem tyX1_ok : ∀ k, k < 3 → parseFieldDescriptor (TX1 k).2.2.1 = some (tyX1 k) := by decide +kernel
abbrev cX1_init : ByteArray := prog_3_method_1_code
def yX1_init : MethodName := ⟨RX1, "<init>", "()V"⟩
abbrev cX1_workOutAll : ByteArray := prog_3_method_2_code
def yX1_workOutAll : MethodName := ⟨RX1, "workOutAll", "(LControlRegister$Holdings;LControlRegister$Book;)V"⟩
abbrev cX1_workOut : ByteArray := prog_3_method_3_code
def yX1_workOut : MethodName := ⟨RX1, "workOut", "(ILControlRegister$Holdings;LControlRegister$Book;)V"⟩
abbrev cX1_newFirms : ByteArray := prog_3_method_4_code
def yX1_newFirms : MethodName := ⟨RX1, "newFirms", "(ILControlRegister$Holdings;LControlRegister$Book;)I"⟩
abbrev cX1_witnessOf : ByteArray := prog_3_method_5_code
def yX1_witnessOf : MethodName := ⟨RX1, "witnessOf", "(IILControlRegister$Holdings;LControlRegister$Book;)I"⟩
abbrev cX1_firmsBefore : ByteArray := prog_3_method_6_code
def yX1_firmsBefore : MethodName := ⟨RX1, "firmsBefore", "(II)I"⟩
abbrev cX1_chainOf : ByteArray := prog_3_method_7_code
def yX1_chainOf : MethodName := ⟨RX1, "chainOf", "(IILControlRegister$Holdings;LControlRegister$Book;)I"⟩
abbrev cX1_thoseOver : ByteArray := prog_3_method_8_code
def yX1_thoseOver : MethodName := ⟨RX1, "thoseOver", "(III)I"⟩
abbrev cX1_mostRounds : ByteArray := prog_3_method_9_code
def yX1_mostRounds : MethodName := ⟨RX1, "mostRounds", "()I"⟩
def RX2 : String := "ControlRegister$Holdings"
def TX2 : u_T := fun k => match k with
  | 0 => ("ControlRegister$Holdings", "shares", "[[I", true)
  | 1 => ("ControlRegister$Holdings", "votes", "[[I", true)
  | _ => ("ControlRegister$Holdings", "vetoes", "[I", true)
def tyX2 : Nat → FieldType := fun k => match k with
  | 0 => .array (.array .int)
  | 1 => .array (.array .int)
  | _ => .array .int
abbrev wsX20 : List Cond := u_ws RX2 TX2 3
theorem nmX2 : ∀ a, a < 3 → ∀ b, b < 3 → a ≠ b → (TX2 a).2.1 ≠ (TX2 b).2.1 := by decide +kernel
theorem tyX2_ok : ∀ k, k < 3 → parseFieldDescriptor (TX2 k).2.2.1 = some (tyX2 k) := by decide +kernel
abbrev cX2_init : ByteArray := prog_4_method_1_code
def yX2_init : MethodName := ⟨RX2, "<init>", "()V"⟩
abbrev cX2_beginAgain : ByteArray := prog_4_method_2_code
def yX2_beginAgain : MethodName := ⟨RX2, "beginAgain", "()V"⟩
abbrev cX2_copyFrom : ByteArray := prog_4_method_3_code
def yX2_copyFrom : MethodName := ⟨RX2, "copyFrom", "(LControlRegister$Holdings;)V"⟩
abbrev cX2_carryOut : ByteArray := prog_4_method_4_code
def yX2_carryOut : MethodName := ⟨RX2, "carryOut", "(LControlRegister$Book;I)Z"⟩
abbrev cX2_move : ByteArray := prog_4_method_5_code
def yX2_move : MethodName := ⟨RX2, "move", "([IIII)Z"⟩
abbrev cX2_allies : ByteArray := prog_4_method_6_code
def yX2_allies : MethodName := ⟨RX2, "allies", "(II)I"⟩
abbrev cX2_block : ByteArray := prog_4_method_7_code
def yX2_block : MethodName := ⟨RX2, "block", "(II)I"⟩
abbrev cX2_isMatched : ByteArray := prog_4_method_8_code
def yX2_isMatched : MethodName := ⟨RX2, "isMatched", "(III)Z"⟩
abbrev cX2_falls : ByteArray := prog_4_method_9_code
def yX2_falls : MethodName := ⟨RX2, "falls", "(IIILControlRegister$Book;)Z"⟩
abbrev cX2_sharesHeldBy : ByteArray := prog_4_method_10_code
def yX2_sharesHeldBy : MethodName := ⟨RX2, "sharesHeldBy", "(II)I"⟩
def RX3 : String := "ControlRegister$Reach"
def TX3 : u_T := fun k => match k with
  | _ => ("ControlRegister$Reach", "reached", "[I", true)
def tyX3 : Nat → FieldType := fun k => match k with
  | _ => .array .int
abbrev wsX30 : List Cond := u_ws RX3 TX3 1
theorem nmX3 : ∀ a, a < 1 → ∀ b, b < 1 → a ≠ b → (TX3 a).2.1 ≠ (TX3 b).2.1 := by decide +kernel
theorem tyX3_ok : ∀ k, k < 1 → parseFieldDescriptor (TX3 k).2.2.1 = some (tyX3 k) := by decide +kernel
abbrev cX3_init : ByteArray := prog_5_method_1_code
def yX3_init : MethodName := ⟨RX3, "<init>", "()V"⟩
abbrev cX3_workOut : ByteArray := prog_5_method_2_code
def yX3_workOut : MethodName := ⟨RX3, "workOut", "(LControlRegister$Holdings;)V"⟩
abbrev cX3_firmsWithShareOf : ByteArray := prog_5_method_3_code
def yX3_firmsWithShareOf : MethodName := ⟨RX3, "firmsWithShareOf", "(LControlRegister$Holdings;I)I"⟩
abbrev cX3_circleOf : ByteArray := prog_5_method_4_code
def yX3_circleOf : MethodName := ⟨RX3, "circleOf", "(I)I"⟩
def RX4 : String := "ControlRegister$Stakes"
def TX4 : u_T := fun k => match k with
  | 0 => ("ControlRegister$Stakes", "locked", "I", false)
  | _ => ("ControlRegister$Stakes", "rows", "[[J", true)
def tyX4 : Nat → FieldType := fun k => match k with
  | 0 => .int
  | _ => .array (.array .long)
abbrev wsX40 : List Cond := u_ws RX4 TX4 2
theorem nmX4 : ∀ a, a < 2 → ∀ b, b < 2 → a ≠ b → (TX4 a).2.1 ≠ (TX4 b).2.1 := by decide +kernel
theorem tyX4_ok : ∀ k, k < 2 → parseFieldDescriptor (TX4 k).2.2.1 = some (tyX4 k) := by decide +kernel
abbrev cX4_init : ByteArray := prog_6_method_1_code
def yX4_init : MethodName := ⟨RX4, "<init>", "()V"⟩
abbrev cX4_workOut : ByteArray := prog_6_method_2_code
def yX4_workOut : MethodName := ⟨RX4, "workOut", "(LControlRegister$Holdings;)V"⟩
abbrev cX4_lockedFirms : ByteArray := prog_6_method_3_code
def yX4_lockedFirms : MethodName := ⟨RX4, "lockedFirms", "(LControlRegister$Holdings;)I"⟩
abbrev cX4_writeRow : ByteArray := prog_6_method_4_code
def yX4_writeRow : MethodName := ⟨RX4, "writeRow", "(LControlRegister$Holdings;I)V"⟩
abbrev cX4_solve : ByteArray := prog_6_method_5_code
def yX4_solve : MethodName := ⟨RX4, "solve", "()V"⟩
abbrev cX4_eliminate : ByteArray := prog_6_method_6_code
def yX4_eliminate : MethodName := ⟨RX4, "eliminate", "(IIJ)V"⟩
abbrev cX4_upper : ByteArray := prog_6_method_7_code
def yX4_upper : MethodName := ⟨RX4, "upper", "(II)J"⟩
abbrev cX4_lower : ByteArray := prog_6_method_8_code
def yX4_lower : MethodName := ⟨RX4, "lower", "(I)J"⟩
abbrev cX4_upperOfNobody : ByteArray := prog_6_method_9_code
def yX4_upperOfNobody : MethodName := ⟨RX4, "upperOfNobody", "(I)J"⟩
abbrev cX4_rankOf : ByteArray := prog_6_method_10_code
def yX4_rankOf : MethodName := ⟨RX4, "rankOf", "(II)I"⟩
abbrev cX4_personsAbove : ByteArray := prog_6_method_11_code
def yX4_personsAbove : MethodName := ⟨RX4, "personsAbove", "(II)I"⟩
def RX5 : String := "ControlRegister$Timeline"
def TX5 : u_T := fun k => match k with
  | 0 => ("ControlRegister$Timeline", "days", "[I", true)
  | 1 => ("ControlRegister$Timeline", "firmsOf", "[[I", true)
  | 2 => ("ControlRegister$Timeline", "size", "I", false)
  | 3 => ("ControlRegister$Timeline", "events", "[I", true)
  | _ => ("ControlRegister$Timeline", "eventCount", "I", false)
def tyX5 : Nat → FieldType := fun k => match k with
  | 0 => .array .int
  | 1 => .array (.array .int)
  | 2 => .int
  | 3 => .array .int
  | _ => .int
abbrev wsX50 : List Cond := u_ws RX5 TX5 5
theorem nmX5 : ∀ a, a < 5 → ∀ b, b < 5 → a ≠ b → (TX5 a).2.1 ≠ (TX5 b).2.1 := by decide +kernel
theorem tyX5_ok : ∀ k, k < 5 → parseFieldDescriptor (TX5 k).2.2.1 = some (tyX5 k) := by decide +kernel
abbrev cX5_init : ByteArray := prog_7_method_1_code
def yX5_init : MethodName := ⟨RX5, "<init>", "()V"⟩
abbrev cX5_workOut : ByteArray := prog_7_method_2_code
def yX5_workOut : MethodName := ⟨RX5, "workOut", "(LControlRegister$Book;LControlRegister$Holdings;LControlRegister$Control;)V"⟩
abbrev cX5_listEvents : ByteArray := prog_7_method_3_code
def yX5_listEvents : MethodName := ⟨RX5, "listEvents", "()V"⟩
abbrev cX5_listEvent : ByteArray := prog_7_method_4_code
def yX5_listEvent : MethodName := ⟨RX5, "listEvent", "(III)V"⟩
abbrev cX5_isControlled : ByteArray := prog_7_method_5_code
def yX5_isControlled : MethodName := ⟨RX5, "isControlled", "(III)Z"⟩
abbrev cX5_ofEvent : ByteArray := prog_7_method_6_code
def yX5_ofEvent : MethodName := ⟨RX5, "ofEvent", "(II)I"⟩
abbrev cX5_firstDay : ByteArray := prog_7_method_7_code
def yX5_firstDay : MethodName := ⟨RX5, "firstDay", "(IIIZ)I"⟩
abbrev cX5_lastBy : ByteArray := prog_7_method_8_code
def yX5_lastBy : MethodName := ⟨RX5, "lastBy", "(I)I"⟩
def RX6 : String := "ControlRegister"
def TX6 : u_T := fun k => match k with
  | 0 => ("ControlRegister", "book", "LControlRegister$Book;", true)
  | 1 => ("ControlRegister", "firstImage", "LControlRegister$Book;", true)
  | 2 => ("ControlRegister", "secondImage", "LControlRegister$Book;", true)
  | 3 => ("ControlRegister", "imagesKept", "I", false)
  | 4 => ("ControlRegister", "now", "LControlRegister$Holdings;", true)
  | 5 => ("ControlRegister", "control", "LControlRegister$Control;", true)
  | 6 => ("ControlRegister", "stakes", "LControlRegister$Stakes;", true)
  | 7 => ("ControlRegister", "reach", "LControlRegister$Reach;", true)
  | 8 => ("ControlRegister", "upToDate", "Z", false)
  | 9 => ("ControlRegister", "timeline", "LControlRegister$Timeline;", true)
  | 10 => ("ControlRegister", "traced", "Z", false)
  | 11 => ("ControlRegister", "trial", "LControlRegister$Holdings;", true)
  | _ => ("ControlRegister", "trialControl", "LControlRegister$Control;", true)
def tyX6 : Nat → FieldType := fun k => match k with
  | 0 => .object "ControlRegister$Book"
  | 1 => .object "ControlRegister$Book"
  | 2 => .object "ControlRegister$Book"
  | 3 => .int
  | 4 => .object "ControlRegister$Holdings"
  | 5 => .object "ControlRegister$Control"
  | 6 => .object "ControlRegister$Stakes"
  | 7 => .object "ControlRegister$Reach"
  | 8 => .boolean
  | 9 => .object "ControlRegister$Timeline"
  | 10 => .boolean
  | 11 => .object "ControlRegister$Holdings"
  | _ => .object "ControlRegister$Control"
abbrev wsX60 : List Cond := u_ws RX6 TX6 13
theorem nmX6 : ∀ a, a < 13 → ∀ b, b < 13 → a ≠ b → (TX6 a).2.1 ≠ (TX6 b).2.1 := by decide +kernel
theorem tyX6_ok : ∀ k, k < 13 → parseFieldDescriptor (TX6 k).2.2.1 = some (tyX6 k) := by decide +kernel
abbrev cX6_init : ByteArray := prog_1_method_1_code
def yX6_init : MethodName := ⟨RX6, "<init>", "()V"⟩
abbrev cX6_sellShares : ByteArray := prog_1_method_2_code
def yX6_sellShares : MethodName := ⟨RX6, "sellShares", "(IIIII)I"⟩
abbrev cX6_sellVotes : ByteArray := prog_1_method_3_code
def yX6_sellVotes : MethodName := ⟨RX6, "sellVotes", "(IIIII)I"⟩
abbrev cX6_veto : ByteArray := prog_1_method_4_code
def yX6_veto : MethodName := ⟨RX6, "veto", "(IIII)I"⟩
abbrev cX6_cancel : ByteArray := prog_1_method_5_code
def yX6_cancel : MethodName := ⟨RX6, "cancel", "(I)I"⟩
abbrev cX6_told : ByteArray := prog_1_method_6_code
def yX6_told : MethodName := ⟨RX6, "told", "(II)I"⟩
abbrev cX6_look : ByteArray := prog_1_method_7_code
def yX6_look : MethodName := ⟨RX6, "look", "(I)I"⟩
abbrev cX6_rule : ByteArray := prog_1_method_8_code
def yX6_rule : MethodName := ⟨RX6, "rule", "(II)I"⟩
abbrev cX6_holds : ByteArray := prog_1_method_9_code
def yX6_holds : MethodName := ⟨RX6, "holds", "(III)I"⟩
abbrev cX6_controls : ByteArray := prog_1_method_10_code
def yX6_controls : MethodName := ⟨RX6, "controls", "(I)I"⟩
abbrev cX6_how : ByteArray := prog_1_method_11_code
def yX6_how : MethodName := ⟨RX6, "how", "(III)I"⟩
abbrev cX6_above : ByteArray := prog_1_method_12_code
def yX6_above : MethodName := ⟨RX6, "above", "(II)I"⟩
abbrev cX6_when : ByteArray := prog_1_method_13_code
def yX6_when : MethodName := ⟨RX6, "when", "(III)I"⟩
abbrev cX6_fewest : ByteArray := prog_1_method_14_code
def yX6_fewest : MethodName := ⟨RX6, "fewest", "(III)I"⟩
abbrev cX6_event : ByteArray := prog_1_method_15_code
def yX6_event : MethodName := ⟨RX6, "event", "(II)I"⟩
abbrev cX6_stake : ByteArray := prog_1_method_16_code
def yX6_stake : MethodName := ⟨RX6, "stake", "(III)J"⟩
abbrev cX6_nobody : ByteArray := prog_1_method_17_code
def yX6_nobody : MethodName := ⟨RX6, "nobody", "(II)J"⟩
abbrev cX6_ranked : ByteArray := prog_1_method_18_code
def yX6_ranked : MethodName := ⟨RX6, "ranked", "(II)I"⟩
abbrev cX6_owners : ByteArray := prog_1_method_19_code
def yX6_owners : MethodName := ⟨RX6, "owners", "(I)I"⟩
abbrev cX6_circle : ByteArray := prog_1_method_20_code
def yX6_circle : MethodName := ⟨RX6, "circle", "(I)I"⟩
abbrev cX6_image : ByteArray := prog_1_method_21_code
def yX6_image : MethodName := ⟨RX6, "image", "(I)I"⟩
abbrev cX6_restore : ByteArray := prog_1_method_22_code
def yX6_restore : MethodName := ⟨RX6, "restore", "(I)I"⟩
abbrev cX6_count : ByteArray := prog_1_method_23_code
def yX6_count : MethodName := ⟨RX6, "count", "(I)I"⟩
abbrev cX6_isHolder : ByteArray := prog_1_method_24_code
def yX6_isHolder : MethodName := ⟨RX6, "isHolder", "(I)Z"⟩
abbrev cX6_isPerson : ByteArray := prog_1_method_25_code
def yX6_isPerson : MethodName := ⟨RX6, "isPerson", "(I)Z"⟩
abbrev cX6_isController : ByteArray := prog_1_method_26_code
def yX6_isController : MethodName := ⟨RX6, "isController", "(I)Z"⟩
abbrev cX6_isFirm : ByteArray := prog_1_method_27_code
def yX6_isFirm : MethodName := ⟨RX6, "isFirm", "(I)Z"⟩
abbrev cX6_isDay : ByteArray := prog_1_method_28_code
def yX6_isDay : MethodName := ⟨RX6, "isDay", "(I)Z"⟩
abbrev cX6_isYesOrNo : ByteArray := prog_1_method_29_code
def yX6_isYesOrNo : MethodName := ⟨RX6, "isYesOrNo", "(I)Z"⟩
abbrev cX6_isDeal : ByteArray := prog_1_method_30_code
def yX6_isDeal : MethodName := ⟨RX6, "isDeal", "(I)Z"⟩
abbrev cX6_holderOf : ByteArray := prog_1_method_31_code
def yX6_holderOf : MethodName := ⟨RX6, "holderOf", "(I)I"⟩
abbrev cX6_has : ByteArray := prog_1_method_32_code
def yX6_has : MethodName := ⟨RX6, "has", "(II)Z"⟩
abbrev cX6_asNumber : ByteArray := prog_1_method_33_code
def yX6_asNumber : MethodName := ⟨RX6, "asNumber", "(Z)I"⟩
abbrev cX6_imageAt : ByteArray := prog_1_method_34_code
def yX6_imageAt : MethodName := ⟨RX6, "imageAt", "(I)LControlRegister$Book;"⟩
abbrev cX6_sell : ByteArray := prog_1_method_35_code
def yX6_sell : MethodName := ⟨RX6, "sell", "(IIIIII)I"⟩
abbrev cX6_enter : ByteArray := prog_1_method_36_code
def yX6_enter : MethodName := ⟨RX6, "enter", "(IIIIII)I"⟩
abbrev cX6_isSoundWithout : ByteArray := prog_1_method_37_code
def yX6_isSoundWithout : MethodName := ⟨RX6, "isSoundWithout", "(I)Z"⟩
abbrev cX6_allIsChanged : ByteArray := prog_1_method_38_code
def yX6_allIsChanged : MethodName := ⟨RX6, "allIsChanged", "()V"⟩
abbrev cX6_bringUpToDate : ByteArray := prog_1_method_39_code
def yX6_bringUpToDate : MethodName := ⟨RX6, "bringUpToDate", "()V"⟩
abbrev cX6_trace : ByteArray := prog_1_method_40_code
def yX6_trace : MethodName := ⟨RX6, "trace", "()V"⟩
abbrev cX6_finalBlock : ByteArray := prog_1_method_41_code
def yX6_finalBlock : MethodName := ⟨RX6, "finalBlock", "(II)I"⟩
abbrev cX6_wayOfControl : ByteArray := prog_1_method_42_code
def yX6_wayOfControl : MethodName := ⟨RX6, "wayOfControl", "(II)I"⟩
abbrev cX6_fewestToSell : ByteArray := prog_1_method_43_code
def yX6_fewestToSell : MethodName := ⟨RX6, "fewestToSell", "(II)I"⟩
abbrev cX6_fewestToBuy : ByteArray := prog_1_method_44_code
def yX6_fewestToBuy : MethodName := ⟨RX6, "fewestToBuy", "(II)I"⟩
abbrev cX6_wouldControl : ByteArray := prog_1_method_45_code
def yX6_wouldControl : MethodName := ⟨RX6, "wouldControl", "(II)Z"⟩
abbrev cX6_inLowestTerms : ByteArray := prog_1_method_46_code
def yX6_inLowestTerms : MethodName := ⟨RX6, "inLowestTerms", "(JJI)J"⟩
abbrev cX6_commonDivisor : ByteArray := prog_1_method_47_code
def yX6_commonDivisor : MethodName := ⟨RX6, "commonDivisor", "(JJ)J"⟩
def RX7 : String := "ControlRegisterModel"
def TX7 : u_T := fun k => match k with
  | 0 => ("ControlRegisterModel", "day", "[I", true)
  | 1 => ("ControlRegisterModel", "firm", "[I", true)
  | 2 => ("ControlRegisterModel", "kind", "[I", true)
  | 3 => ("ControlRegisterModel", "from", "[I", true)
  | 4 => ("ControlRegisterModel", "to", "[I", true)
  | 5 => ("ControlRegisterModel", "size", "[I", true)
  | 6 => ("ControlRegisterModel", "deals", "I", false)
  | 7 => ("ControlRegisterModel", "now", "I", false)
  | 8 => ("ControlRegisterModel", "rules", "[I", true)
  | 9 => ("ControlRegisterModel", "order", "[I", true)
  | 10 => ("ControlRegisterModel", "shares", "[I", true)
  | 11 => ("ControlRegisterModel", "votes", "[I", true)
  | 12 => ("ControlRegisterModel", "veto", "[Z", true)
  | 13 => ("ControlRegisterModel", "round", "[I", true)
  | 14 => ("ControlRegisterModel", "rounds", "I", false)
  | 15 => ("ControlRegisterModel", "before", "[I", true)
  | 16 => ("ControlRegisterModel", "eventDay", "I", false)
  | 17 => ("ControlRegisterModel", "eventHolder", "I", false)
  | 18 => ("ControlRegisterModel", "eventFirm", "I", false)
  | 19 => ("ControlRegisterModel", "eventIs", "I", false)
  | 20 => ("ControlRegisterModel", "rows", "[J", true)
  | 21 => ("ControlRegisterModel", "uppers", "[J", true)
  | 22 => ("ControlRegisterModel", "reach", "[I", true)
  | 23 => ("ControlRegisterModel", "image", "[I", true)
  | _ => ("ControlRegisterModel", "isKept", "[Z", true)
def tyX7 : Nat → FieldType := fun k => match k with
  | 0 => .array .int
  | 1 => .array .int
  | 2 => .array .int
  | 3 => .array .int
  | 4 => .array .int
  | 5 => .array .int
  | 6 => .int
  | 7 => .int
  | 8 => .array .int
  | 9 => .array .int
  | 10 => .array .int
  | 11 => .array .int
  | 12 => .array .boolean
  | 13 => .array .int
  | 14 => .int
  | 15 => .array .int
  | 16 => .int
  | 17 => .int
  | 18 => .int
  | 19 => .int
  | 20 => .array .long
  | 21 => .array .long
  | 22 => .array .int
  | 23 => .array .int
  | _ => .array .boolean
abbrev wsX70 : List Cond := u_ws RX7 TX7 25
theorem nmX7 : ∀ a, a < 25 → ∀ b, b < 25 → a ≠ b → (TX7 a).2.1 ≠ (TX7 b).2.1 := by decide +kernel
theorem tyX7_ok : ∀ k, k < 25 → parseFieldDescriptor (TX7 k).2.2.1 = some (tyX7 k) := by decide +kernel
abbrev cX7_init : ByteArray := prog_9_method_1_code
def yX7_init : MethodName := ⟨RX7, "<init>", "()V"⟩
abbrev cX7_in : ByteArray := prog_9_method_2_code
def yX7_in : MethodName := ⟨RX7, "in", "(III)Z"⟩
abbrev cX7_isFirm : ByteArray := prog_9_method_3_code
def yX7_isFirm : MethodName := ⟨RX7, "isFirm", "(I)Z"⟩
abbrev cX7_isOne : ByteArray := prog_9_method_4_code
def yX7_isOne : MethodName := ⟨RX7, "isOne", "(I)Z"⟩
abbrev cX7_placeOf : ByteArray := prog_9_method_5_code
def yX7_placeOf : MethodName := ⟨RX7, "placeOf", "(I)I"⟩
abbrev cX7_at : ByteArray := prog_9_method_6_code
def yX7_at : MethodName := ⟨RX7, "at", "(II)I"⟩
abbrev cX7_begin : ByteArray := prog_9_method_7_code
def yX7_begin : MethodName := ⟨RX7, "begin", "()V"⟩
abbrev cX7_does : ByteArray := prog_9_method_8_code
def yX7_does : MethodName := ⟨RX7, "does", "(I)Z"⟩
abbrev cX7_lay : ByteArray := prog_9_method_9_code
def yX7_lay : MethodName := ⟨RX7, "lay", "(II)Z"⟩
abbrev cX7_put : ByteArray := prog_9_method_10_code
def yX7_put : MethodName := ⟨RX7, "put", "(IIIIIII)V"⟩
abbrev cX7_add : ByteArray := prog_9_method_11_code
def yX7_add : MethodName := ⟨RX7, "add", "()I"⟩
abbrev cX7_sell : ByteArray := prog_9_method_12_code
def yX7_sell : MethodName := ⟨RX7, "sell", "(IIIIII)I"⟩
abbrev cX7_sellShares : ByteArray := prog_9_method_13_code
def yX7_sellShares : MethodName := ⟨RX7, "sellShares", "(IIIII)I"⟩
abbrev cX7_sellVotes : ByteArray := prog_9_method_14_code
def yX7_sellVotes : MethodName := ⟨RX7, "sellVotes", "(IIIII)I"⟩
abbrev cX7_veto : ByteArray := prog_9_method_15_code
def yX7_veto : MethodName := ⟨RX7, "veto", "(IIII)I"⟩
abbrev cX7_isDeal : ByteArray := prog_9_method_16_code
def yX7_isDeal : MethodName := ⟨RX7, "isDeal", "(I)Z"⟩
abbrev cX7_cancel : ByteArray := prog_9_method_17_code
def yX7_cancel : MethodName := ⟨RX7, "cancel", "(I)I"⟩
abbrev cX7_told : ByteArray := prog_9_method_18_code
def yX7_told : MethodName := ⟨RX7, "told", "(II)I"⟩
abbrev cX7_look : ByteArray := prog_9_method_19_code
def yX7_look : MethodName := ⟨RX7, "look", "(I)I"⟩
abbrev cX7_rule : ByteArray := prog_9_method_20_code
def yX7_rule : MethodName := ⟨RX7, "rule", "(II)I"⟩
abbrev cX7_holds : ByteArray := prog_9_method_21_code
def yX7_holds : MethodName := ⟨RX7, "holds", "(III)I"⟩
abbrev cX7_has : ByteArray := prog_9_method_22_code
def yX7_has : MethodName := ⟨RX7, "has", "(II)Z"⟩
abbrev cX7_isWith : ByteArray := prog_9_method_23_code
def yX7_isWith : MethodName := ⟨RX7, "isWith", "(III)Z"⟩
abbrev cX7_block : ByteArray := prog_9_method_24_code
def yX7_block : MethodName := ⟨RX7, "block", "(III)I"⟩
abbrev cX7_falls : ByteArray := prog_9_method_25_code
def yX7_falls : MethodName := ⟨RX7, "falls", "(III)Z"⟩
abbrev cX7_control : ByteArray := prog_9_method_26_code
def yX7_control : MethodName := ⟨RX7, "control", "(I)I"⟩
abbrev cX7_controls : ByteArray := prog_9_method_27_code
def yX7_controls : MethodName := ⟨RX7, "controls", "(I)I"⟩
abbrev cX7_many : ByteArray := prog_9_method_28_code
def yX7_many : MethodName := ⟨RX7, "many", "(I)I"⟩
abbrev cX7_witness : ByteArray := prog_9_method_29_code
def yX7_witness : MethodName := ⟨RX7, "witness", "(II)I"⟩
abbrev cX7_chain : ByteArray := prog_9_method_30_code
def yX7_chain : MethodName := ⟨RX7, "chain", "(II)I"⟩
abbrev cX7_areKnown : ByteArray := prog_9_method_31_code
def yX7_areKnown : MethodName := ⟨RX7, "areKnown", "(II)Z"⟩
abbrev cX7_how : ByteArray := prog_9_method_32_code
def yX7_how : MethodName := ⟨RX7, "how", "(III)I"⟩
abbrev cX7_above : ByteArray := prog_9_method_33_code
def yX7_above : MethodName := ⟨RX7, "above", "(II)I"⟩
abbrev cX7_dayBehind : ByteArray := prog_9_method_34_code
def yX7_dayBehind : MethodName := ⟨RX7, "dayBehind", "(I)I"⟩
abbrev cX7_when : ByteArray := prog_9_method_35_code
def yX7_when : MethodName := ⟨RX7, "when", "(III)I"⟩
abbrev cX7_fewest : ByteArray := prog_9_method_36_code
def yX7_fewest : MethodName := ⟨RX7, "fewest", "(III)I"⟩
abbrev cX7_events : ByteArray := prog_9_method_37_code
def yX7_events : MethodName := ⟨RX7, "events", "(I)I"⟩
abbrev cX7_event : ByteArray := prog_9_method_38_code
def yX7_event : MethodName := ⟨RX7, "event", "(II)I"⟩
abbrev cX7_locked : ByteArray := prog_9_method_39_code
def yX7_locked : MethodName := ⟨RX7, "locked", "()I"⟩
abbrev cX7_over : ByteArray := prog_9_method_40_code
def yX7_over : MethodName := ⟨RX7, "over", "(II)I"⟩
abbrev cX7_determinant : ByteArray := prog_9_method_41_code
def yX7_determinant : MethodName := ⟨RX7, "determinant", "()J"⟩
abbrev cX7_layRows : ByteArray := prog_9_method_42_code
def yX7_layRows : MethodName := ⟨RX7, "layRows", "()V"⟩
abbrev cX7_lower : ByteArray := prog_9_method_43_code
def yX7_lower : MethodName := ⟨RX7, "lower", "()J"⟩
abbrev cX7_upper : ByteArray := prog_9_method_44_code
def yX7_upper : MethodName := ⟨RX7, "upper", "(II)J"⟩
abbrev cX7_part : ByteArray := prog_9_method_45_code
def yX7_part : MethodName := ⟨RX7, "part", "(JJI)J"⟩
abbrev cX7_stake : ByteArray := prog_9_method_46_code
def yX7_stake : MethodName := ⟨RX7, "stake", "(III)J"⟩
abbrev cX7_nobody : ByteArray := prog_9_method_47_code
def yX7_nobody : MethodName := ⟨RX7, "nobody", "(II)J"⟩
abbrev cX7_layUppers : ByteArray := prog_9_method_48_code
def yX7_layUppers : MethodName := ⟨RX7, "layUppers", "(I)V"⟩
abbrev cX7_ranked : ByteArray := prog_9_method_49_code
def yX7_ranked : MethodName := ⟨RX7, "ranked", "(II)I"⟩
abbrev cX7_owners : ByteArray := prog_9_method_50_code
def yX7_owners : MethodName := ⟨RX7, "owners", "(I)I"⟩
abbrev cX7_circle : ByteArray := prog_9_method_51_code
def yX7_circle : MethodName := ⟨RX7, "circle", "(I)I"⟩
abbrev cX7_image : ByteArray := prog_9_method_52_code
def yX7_image : MethodName := ⟨RX7, "image", "(I)I"⟩
abbrev cX7_restore : ByteArray := prog_9_method_53_code
def yX7_restore : MethodName := ⟨RX7, "restore", "(I)I"⟩
abbrev cX7_unlikeDay : ByteArray := prog_9_method_54_code
def yX7_unlikeDay : MethodName := ⟨RX7, "unlikeDay", "(I)I"⟩
abbrev cX7_done : ByteArray := prog_9_method_55_code
def yX7_done : MethodName := ⟨RX7, "done", "()I"⟩
abbrev cX7_mostRounds : ByteArray := prog_9_method_56_code
def yX7_mostRounds : MethodName := ⟨RX7, "mostRounds", "()I"⟩
abbrev cX7_count : ByteArray := prog_9_method_57_code
def yX7_count : MethodName := ⟨RX7, "count", "(I)I"⟩
def RJ6 : String := "java/lang/Integer"
def TJ6 : u_T := fun k => match k with
  | _ => ("", "", "", false)
def tyJ6 : Nat → FieldType := fun k => match k with
  | _ => .int
abbrev wsJ60 : List Cond := u_ws RJ6 TJ6 0
theorem nmJ6 : ∀ a, a < 0 → ∀ b, b < 0 → a ≠ b → (TJ6 a).2.1 ≠ (TJ6 b).2.1 := by decide +kernel
theorem tyJ6_ok : ∀ k, k < 0 → parseFieldDescriptor (TJ6 k).2.2.1 = some (tyJ6 k) := by decide +kernel
abbrev cJ6_bitCount_0f7a4 : ByteArray := prog_10_method_49_code
def yJ6_bitCount_0f7a4 : MethodName := ⟨RJ6, "bitCount", "(I)I"⟩
def RJ9 : String := "java/lang/Math"
def TJ9 : u_T := fun k => match k with
  | _ => ("", "", "", false)
def tyJ9 : Nat → FieldType := fun k => match k with
  | _ => .int
abbrev wsJ90 : List Cond := u_ws RJ9 TJ9 0
theorem nmJ9 : ∀ a, a < 0 → ∀ b, b < 0 → a ≠ b → (TJ9 a).2.1 ≠ (TJ9 b).2.1 := by decide +kernel
theorem tyJ9_ok : ∀ k, k < 0 → parseFieldDescriptor (TJ9 k).2.2.1 = some (tyJ9 k) := by decide +kernel
abbrev cJ9_max_7cf53 : ByteArray := prog_11_method_65_code
def yJ9_max_7cf53 : MethodName := ⟨RJ9, "max", "(II)I"⟩
def RJ10 : String := "java/lang/System"
def TJ10 : u_T := fun k => match k with
  | _ => ("", "", "", false)
def tyJ10 : Nat → FieldType := fun k => match k with
  | _ => .int
abbrev wsJ100 : List Cond := u_ws RJ10 TJ10 0
theorem nmJ10 : ∀ a, a < 0 → ∀ b, b < 0 → a ≠ b → (TJ10 a).2.1 ≠ (TJ10 b).2.1 := by decide +kernel
theorem tyJ10_ok : ∀ k, k < 0 → parseFieldDescriptor (TJ10 k).2.2.1 = some (tyJ10 k) := by decide +kernel
def RL : String := "ControlRegisterLaw"
abbrev cL_law : ByteArray := code
def yL_law : MethodName := ⟨RL, "law", "([I)Z"⟩
abbrev vwCl : List vw_C := [(RX0, TX0, 12), (RX1, TX1, 3), (RX2, TX2, 3), (RX3, TX3, 1), (RX4, TX4, 2), (RX5, TX5, 5), (RX6, TX6, 13), (RX7, TX7, 25)]
end
section
theorem dX0_init_0 : decode cX0_init 0 = .ok (.aload_n 0, 1) := by decide +kernel
theorem dX0_init_1 : decode cX0_init 1 = .ok (.invokespecial 3, 3) := by decide +kernel
theorem dX0_init_4 : decode cX0_init 4 = .ok (.aload_n 0, 1) := by decide +kernel
theorem dX0_init_5 : decode cX0_init 5 = .ok (.bipush 41, 2) := by decide +kernel
theorem dX0_init_7 : decode cX0_init 7 = .ok (.newarray .int, 2) := by decide +kernel
theorem dX0_init_9 : decode cX0_init 9 = .ok (.putfield 11, 3) := by decide +kernel
theorem dX0_init_12 : decode cX0_init 12 = .ok (.aload_n 0, 1) := by decide +kernel
theorem dX0_init_13 : decode cX0_init 13 = .ok (.bipush 41, 2) := by decide +kernel
theorem dX0_init_15 : decode cX0_init 15 = .ok (.newarray .int, 2) := by decide +kernel
theorem dX0_init_17 : decode cX0_init 17 = .ok (.putfield 15, 3) := by decide +kernel
theorem dX0_init_20 : decode cX0_init 20 = .ok (.aload_n 0, 1) := by decide +kernel
theorem dX0_init_21 : decode cX0_init 21 = .ok (.bipush 41, 2) := by decide +kernel
theorem dX0_init_23 : decode cX0_init 23 = .ok (.newarray .int, 2) := by decide +kernel
theorem dX0_init_25 : decode cX0_init 25 = .ok (.putfield 18, 3) := by decide +kernel
theorem dX0_init_28 : decode cX0_init 28 = .ok (.aload_n 0, 1) := by decide +kernel
theorem dX0_init_29 : decode cX0_init 29 = .ok (.bipush 41, 2) := by decide +kernel
theorem dX0_init_31 : decode cX0_init 31 = .ok (.newarray .int, 2) := by decide +kernel
theorem dX0_init_33 : decode cX0_init 33 = .ok (.putfield 21, 3) := by decide +kernel
theorem dX0_init_36 : decode cX0_init 36 = .ok (.aload_n 0, 1) := by decide +kernel
theorem dX0_init_37 : decode cX0_init 37 = .ok (.bipush 41, 2) := by decide +kernel
theorem dX0_init_39 : decode cX0_init 39 = .ok (.newarray .int, 2) := by decide +kernel
theorem dX0_init_41 : decode cX0_init 41 = .ok (.putfield 24, 3) := by decide +kernel
theorem dX0_init_44 : decode cX0_init 44 = .ok (.aload_n 0, 1) := by decide +kernel
theorem dX0_init_45 : decode cX0_init 45 = .ok (.bipush 41, 2) := by decide +kernel
theorem dX0_init_47 : decode cX0_init 47 = .ok (.newarray .int, 2) := by decide +kernel
theorem dX0_init_49 : decode cX0_init 49 = .ok (.putfield 27, 3) := by decide +kernel
theorem dX0_init_52 : decode cX0_init 52 = .ok (.aload_n 0, 1) := by decide +kernel
theorem dX0_init_53 : decode cX0_init 53 = .ok (.bipush 41, 2) := by decide +kernel
theorem dX0_init_55 : decode cX0_init 55 = .ok (.newarray .int, 2) := by decide +kernel
theorem dX0_init_57 : decode cX0_init 57 = .ok (.putfield 30, 3) := by decide +kernel
theorem dX0_init_60 : decode cX0_init 60 = .ok (.aload_n 0, 1) := by decide +kernel
theorem dX0_init_61 : decode cX0_init 61 = .ok (.bipush 50, 2) := by decide +kernel
theorem dX0_init_63 : decode cX0_init 63 = .ok (.putfield 33, 3) := by decide +kernel
theorem dX0_init_66 : decode cX0_init 66 = .ok (.aload_n 0, 1) := by decide +kernel
theorem dX0_init_67 : decode cX0_init 67 = .ok (.bipush 30, 2) := by decide +kernel
theorem dX0_init_69 : decode cX0_init 69 = .ok (.putfield 37, 3) := by decide +kernel
theorem dX0_init_72 : decode cX0_init 72 = .ok (.aload_n 0, 1) := by decide +kernel
theorem dX0_init_73 : decode cX0_init 73 = .ok (.bipush 25, 2) := by decide +kernel
theorem dX0_init_75 : decode cX0_init 75 = .ok (.putfield 40, 3) := by decide +kernel
theorem dX0_init_78 : decode cX0_init 78 = .ok (.return_, 1) := by decide +kernel
theorem dX0_append_0 : decode cX0_append 0 = .ok (.aload_n 0, 1) := by decide +kernel
theorem dX0_append_1 : decode cX0_append 1 = .ok (.getfield 43, 3) := by decide +kernel
theorem dX0_append_4 : decode cX0_append 4 = .ok (.bipush 41, 2) := by decide +kernel
theorem dX0_append_6 : decode cX0_append 6 = .ok (.if_icmp .lt 4, 3) := by decide +kernel
theorem dX0_append_9 : decode cX0_append 9 = .ok (.return_, 1) := by decide +kernel
theorem dX0_append_10 : decode cX0_append 10 = .ok (.aload_n 0, 1) := by decide +kernel
theorem dX0_append_11 : decode cX0_append 11 = .ok (.getfield 11, 3) := by decide +kernel
theorem dX0_append_14 : decode cX0_append 14 = .ok (.aload_n 0, 1) := by decide +kernel
theorem dX0_append_15 : decode cX0_append 15 = .ok (.getfield 43, 3) := by decide +kernel
theorem dX0_append_18 : decode cX0_append 18 = .ok (.iload_n 1, 1) := by decide +kernel
theorem dX0_append_19 : decode cX0_append 19 = .ok (.iastore, 1) := by decide +kernel
theorem dX0_append_20 : decode cX0_append 20 = .ok (.aload_n 0, 1) := by decide +kernel
theorem dX0_append_21 : decode cX0_append 21 = .ok (.getfield 15, 3) := by decide +kernel
theorem dX0_append_24 : decode cX0_append 24 = .ok (.aload_n 0, 1) := by decide +kernel
theorem dX0_append_25 : decode cX0_append 25 = .ok (.getfield 43, 3) := by decide +kernel
theorem dX0_append_28 : decode cX0_append 28 = .ok (.iload_n 2, 1) := by decide +kernel
theorem dX0_append_29 : decode cX0_append 29 = .ok (.iastore, 1) := by decide +kernel
theorem dX0_append_30 : decode cX0_append 30 = .ok (.aload_n 0, 1) := by decide +kernel
theorem dX0_append_31 : decode cX0_append 31 = .ok (.getfield 18, 3) := by decide +kernel
theorem dX0_append_34 : decode cX0_append 34 = .ok (.aload_n 0, 1) := by decide +kernel
theorem dX0_append_35 : decode cX0_append 35 = .ok (.getfield 43, 3) := by decide +kernel
theorem dX0_append_38 : decode cX0_append 38 = .ok (.iload_n 3, 1) := by decide +kernel
theorem dX0_append_39 : decode cX0_append 39 = .ok (.iastore, 1) := by decide +kernel
theorem dX0_append_40 : decode cX0_append 40 = .ok (.aload_n 0, 1) := by decide +kernel
theorem dX0_append_41 : decode cX0_append 41 = .ok (.getfield 21, 3) := by decide +kernel
theorem dX0_append_44 : decode cX0_append 44 = .ok (.aload_n 0, 1) := by decide +kernel
theorem dX0_append_45 : decode cX0_append 45 = .ok (.getfield 43, 3) := by decide +kernel
theorem dX0_append_48 : decode cX0_append 48 = .ok (.iload 4, 2) := by decide +kernel
theorem dX0_append_50 : decode cX0_append 50 = .ok (.iastore, 1) := by decide +kernel
theorem dX0_append_51 : decode cX0_append 51 = .ok (.aload_n 0, 1) := by decide +kernel
theorem dX0_append_52 : decode cX0_append 52 = .ok (.getfield 24, 3) := by decide +kernel
theorem dX0_append_55 : decode cX0_append 55 = .ok (.aload_n 0, 1) := by decide +kernel
theorem dX0_append_56 : decode cX0_append 56 = .ok (.getfield 43, 3) := by decide +kernel
theorem dX0_append_59 : decode cX0_append 59 = .ok (.iload 5, 2) := by decide +kernel
theorem dX0_append_61 : decode cX0_append 61 = .ok (.iastore, 1) := by decide +kernel
theorem dX0_append_62 : decode cX0_append 62 = .ok (.aload_n 0, 1) := by decide +kernel
theorem dX0_append_63 : decode cX0_append 63 = .ok (.getfield 27, 3) := by decide +kernel
theorem dX0_append_66 : decode cX0_append 66 = .ok (.aload_n 0, 1) := by decide +kernel
theorem dX0_append_67 : decode cX0_append 67 = .ok (.getfield 43, 3) := by decide +kernel
theorem dX0_append_70 : decode cX0_append 70 = .ok (.iload 6, 2) := by decide +kernel
theorem dX0_append_72 : decode cX0_append 72 = .ok (.iastore, 1) := by decide +kernel
theorem dX0_append_73 : decode cX0_append 73 = .ok (.aload_n 0, 1) := by decide +kernel
theorem dX0_append_74 : decode cX0_append 74 = .ok (.dup, 1) := by decide +kernel
theorem dX0_append_75 : decode cX0_append 75 = .ok (.getfield 43, 3) := by decide +kernel
theorem dX0_append_78 : decode cX0_append 78 = .ok (.iconst 1, 1) := by decide +kernel
theorem dX0_append_79 : decode cX0_append 79 = .ok (.iadd, 1) := by decide +kernel
theorem dX0_append_80 : decode cX0_append 80 = .ok (.putfield 43, 3) := by decide +kernel
theorem dX0_append_83 : decode cX0_append 83 = .ok (.aload_n 0, 1) := by decide +kernel
theorem dX0_append_84 : decode cX0_append 84 = .ok (.invokevirtual 46, 3) := by decide +kernel
theorem dX0_append_87 : decode cX0_append 87 = .ok (.return_, 1) := by decide +kernel
theorem dX0_strike_0 : decode cX0_strike 0 = .ok (.iload_n 1, 1) := by decide +kernel
theorem dX0_strike_1 : decode cX0_strike 1 = .ok (.ifCond .lt 11, 3) := by decide +kernel
theorem dX0_strike_4 : decode cX0_strike 4 = .ok (.iload_n 1, 1) := by decide +kernel
theorem dX0_strike_5 : decode cX0_strike 5 = .ok (.aload_n 0, 1) := by decide +kernel
theorem dX0_strike_6 : decode cX0_strike 6 = .ok (.getfield 43, 3) := by decide +kernel
theorem dX0_strike_9 : decode cX0_strike 9 = .ok (.if_icmp .lt 4, 3) := by decide +kernel
theorem dX0_strike_12 : decode cX0_strike 12 = .ok (.return_, 1) := by decide +kernel
theorem dX0_strike_13 : decode cX0_strike 13 = .ok (.aload_n 0, 1) := by decide +kernel
theorem dX0_strike_14 : decode cX0_strike 14 = .ok (.aload_n 0, 1) := by decide +kernel
theorem dX0_strike_15 : decode cX0_strike 15 = .ok (.getfield 11, 3) := by decide +kernel
theorem dX0_strike_18 : decode cX0_strike 18 = .ok (.iload_n 1, 1) := by decide +kernel
theorem dX0_strike_19 : decode cX0_strike 19 = .ok (.invokevirtual 49, 3) := by decide +kernel
theorem dX0_strike_22 : decode cX0_strike 22 = .ok (.aload_n 0, 1) := by decide +kernel
theorem dX0_strike_23 : decode cX0_strike 23 = .ok (.aload_n 0, 1) := by decide +kernel
theorem dX0_strike_24 : decode cX0_strike 24 = .ok (.getfield 15, 3) := by decide +kernel
theorem dX0_strike_27 : decode cX0_strike 27 = .ok (.iload_n 1, 1) := by decide +kernel
theorem dX0_strike_28 : decode cX0_strike 28 = .ok (.invokevirtual 49, 3) := by decide +kernel
theorem dX0_strike_31 : decode cX0_strike 31 = .ok (.aload_n 0, 1) := by decide +kernel
theorem dX0_strike_32 : decode cX0_strike 32 = .ok (.aload_n 0, 1) := by decide +kernel
theorem dX0_strike_33 : decode cX0_strike 33 = .ok (.getfield 18, 3) := by decide +kernel
theorem dX0_strike_36 : decode cX0_strike 36 = .ok (.iload_n 1, 1) := by decide +kernel
theorem dX0_strike_37 : decode cX0_strike 37 = .ok (.invokevirtual 49, 3) := by decide +kernel
theorem dX0_strike_40 : decode cX0_strike 40 = .ok (.aload_n 0, 1) := by decide +kernel
theorem dX0_strike_41 : decode cX0_strike 41 = .ok (.aload_n 0, 1) := by decide +kernel
theorem dX0_strike_42 : decode cX0_strike 42 = .ok (.getfield 21, 3) := by decide +kernel
theorem dX0_strike_45 : decode cX0_strike 45 = .ok (.iload_n 1, 1) := by decide +kernel
theorem dX0_strike_46 : decode cX0_strike 46 = .ok (.invokevirtual 49, 3) := by decide +kernel
theorem dX0_strike_49 : decode cX0_strike 49 = .ok (.aload_n 0, 1) := by decide +kernel
theorem dX0_strike_50 : decode cX0_strike 50 = .ok (.aload_n 0, 1) := by decide +kernel
theorem dX0_strike_51 : decode cX0_strike 51 = .ok (.getfield 24, 3) := by decide +kernel
theorem dX0_strike_54 : decode cX0_strike 54 = .ok (.iload_n 1, 1) := by decide +kernel
theorem dX0_strike_55 : decode cX0_strike 55 = .ok (.invokevirtual 49, 3) := by decide +kernel
theorem dX0_strike_58 : decode cX0_strike 58 = .ok (.aload_n 0, 1) := by decide +kernel
theorem dX0_strike_59 : decode cX0_strike 59 = .ok (.aload_n 0, 1) := by decide +kernel
theorem dX0_strike_60 : decode cX0_strike 60 = .ok (.getfield 27, 3) := by decide +kernel
theorem dX0_strike_63 : decode cX0_strike 63 = .ok (.iload_n 1, 1) := by decide +kernel
theorem dX0_strike_64 : decode cX0_strike 64 = .ok (.invokevirtual 49, 3) := by decide +kernel
theorem dX0_strike_67 : decode cX0_strike 67 = .ok (.aload_n 0, 1) := by decide +kernel
theorem dX0_strike_68 : decode cX0_strike 68 = .ok (.dup, 1) := by decide +kernel
theorem dX0_strike_69 : decode cX0_strike 69 = .ok (.getfield 43, 3) := by decide +kernel
theorem dX0_strike_72 : decode cX0_strike 72 = .ok (.iconst 1, 1) := by decide +kernel
theorem dX0_strike_73 : decode cX0_strike 73 = .ok (.isub, 1) := by decide +kernel
theorem dX0_strike_74 : decode cX0_strike 74 = .ok (.putfield 43, 3) := by decide +kernel
theorem dX0_strike_77 : decode cX0_strike 77 = .ok (.aload_n 0, 1) := by decide +kernel
theorem dX0_strike_78 : decode cX0_strike 78 = .ok (.invokevirtual 46, 3) := by decide +kernel
theorem dX0_strike_81 : decode cX0_strike 81 = .ok (.return_, 1) := by decide +kernel
theorem dX0_closeGap_0 : decode cX0_closeGap 0 = .ok (.aload_n 1, 1) := by decide +kernel
theorem dX0_closeGap_1 : decode cX0_closeGap 1 = .ok (.iload_n 2, 1) := by decide +kernel
theorem dX0_closeGap_2 : decode cX0_closeGap 2 = .ok (.iconst 1, 1) := by decide +kernel
theorem dX0_closeGap_3 : decode cX0_closeGap 3 = .ok (.iadd, 1) := by decide +kernel
theorem dX0_closeGap_4 : decode cX0_closeGap 4 = .ok (.aload_n 1, 1) := by decide +kernel
theorem dX0_closeGap_5 : decode cX0_closeGap 5 = .ok (.iload_n 2, 1) := by decide +kernel
theorem dX0_closeGap_6 : decode cX0_closeGap 6 = .ok (.aload_n 0, 1) := by decide +kernel
theorem dX0_closeGap_7 : decode cX0_closeGap 7 = .ok (.getfield 43, 3) := by decide +kernel
theorem dX0_closeGap_10 : decode cX0_closeGap 10 = .ok (.iload_n 2, 1) := by decide +kernel
theorem dX0_closeGap_11 : decode cX0_closeGap 11 = .ok (.isub, 1) := by decide +kernel
theorem dX0_closeGap_12 : decode cX0_closeGap 12 = .ok (.iconst 1, 1) := by decide +kernel
theorem dX0_closeGap_13 : decode cX0_closeGap 13 = .ok (.isub, 1) := by decide +kernel
theorem dX0_closeGap_14 : decode cX0_closeGap 14 = .ok (.invokestatic 53, 3) := by decide +kernel
theorem dX0_closeGap_17 : decode cX0_closeGap 17 = .ok (.return_, 1) := by decide +kernel
theorem dX0_arrange_0 : decode cX0_arrange 0 = .ok (.iconst 0, 1) := by decide +kernel
theorem dX0_arrange_1 : decode cX0_arrange 1 = .ok (.istore_n 1, 1) := by decide +kernel
theorem dX0_arrange_2 : decode cX0_arrange 2 = .ok (.iload_n 1, 1) := by decide +kernel
theorem dX0_arrange_3 : decode cX0_arrange 3 = .ok (.aload_n 0, 1) := by decide +kernel
theorem dX0_arrange_4 : decode cX0_arrange 4 = .ok (.getfield 43, 3) := by decide +kernel
theorem dX0_arrange_7 : decode cX0_arrange 7 = .ok (.if_icmp .ge 64, 3) := by decide +kernel
theorem dX0_arrange_10 : decode cX0_arrange 10 = .ok (.iload_n 1, 1) := by decide +kernel
theorem dX0_arrange_11 : decode cX0_arrange 11 = .ok (.istore_n 2, 1) := by decide +kernel
theorem dX0_arrange_12 : decode cX0_arrange 12 = .ok (.iload_n 2, 1) := by decide +kernel
theorem dX0_arrange_13 : decode cX0_arrange 13 = .ok (.ifCond .le 45, 3) := by decide +kernel
theorem dX0_arrange_16 : decode cX0_arrange 16 = .ok (.aload_n 0, 1) := by decide +kernel
theorem dX0_arrange_17 : decode cX0_arrange 17 = .ok (.getfield 11, 3) := by decide +kernel
theorem dX0_arrange_20 : decode cX0_arrange 20 = .ok (.aload_n 0, 1) := by decide +kernel
theorem dX0_arrange_21 : decode cX0_arrange 21 = .ok (.getfield 30, 3) := by decide +kernel
theorem dX0_arrange_24 : decode cX0_arrange 24 = .ok (.iload_n 2, 1) := by decide +kernel
theorem dX0_arrange_25 : decode cX0_arrange 25 = .ok (.iconst 1, 1) := by decide +kernel
theorem dX0_arrange_26 : decode cX0_arrange 26 = .ok (.isub, 1) := by decide +kernel
theorem dX0_arrange_27 : decode cX0_arrange 27 = .ok (.iaload, 1) := by decide +kernel
theorem dX0_arrange_28 : decode cX0_arrange 28 = .ok (.iaload, 1) := by decide +kernel
theorem dX0_arrange_29 : decode cX0_arrange 29 = .ok (.aload_n 0, 1) := by decide +kernel
theorem dX0_arrange_30 : decode cX0_arrange 30 = .ok (.getfield 11, 3) := by decide +kernel
theorem dX0_arrange_33 : decode cX0_arrange 33 = .ok (.iload_n 1, 1) := by decide +kernel
theorem dX0_arrange_34 : decode cX0_arrange 34 = .ok (.iaload, 1) := by decide +kernel
theorem dX0_arrange_35 : decode cX0_arrange 35 = .ok (.if_icmp .le 23, 3) := by decide +kernel
theorem dX0_arrange_38 : decode cX0_arrange 38 = .ok (.aload_n 0, 1) := by decide +kernel
theorem dX0_arrange_39 : decode cX0_arrange 39 = .ok (.getfield 30, 3) := by decide +kernel
theorem dX0_arrange_42 : decode cX0_arrange 42 = .ok (.iload_n 2, 1) := by decide +kernel
theorem dX0_arrange_43 : decode cX0_arrange 43 = .ok (.aload_n 0, 1) := by decide +kernel
theorem dX0_arrange_44 : decode cX0_arrange 44 = .ok (.getfield 30, 3) := by decide +kernel
theorem dX0_arrange_47 : decode cX0_arrange 47 = .ok (.iload_n 2, 1) := by decide +kernel
theorem dX0_arrange_48 : decode cX0_arrange 48 = .ok (.iconst 1, 1) := by decide +kernel
theorem dX0_arrange_49 : decode cX0_arrange 49 = .ok (.isub, 1) := by decide +kernel
theorem dX0_arrange_50 : decode cX0_arrange 50 = .ok (.iaload, 1) := by decide +kernel
theorem dX0_arrange_51 : decode cX0_arrange 51 = .ok (.iastore, 1) := by decide +kernel
theorem dX0_arrange_52 : decode cX0_arrange 52 = .ok (.iinc 2 (-1), 3) := by decide +kernel
theorem dX0_arrange_55 : decode cX0_arrange 55 = .ok (.goto (-43), 3) := by decide +kernel
theorem dX0_arrange_58 : decode cX0_arrange 58 = .ok (.aload_n 0, 1) := by decide +kernel
theorem dX0_arrange_59 : decode cX0_arrange 59 = .ok (.getfield 30, 3) := by decide +kernel
theorem dX0_arrange_62 : decode cX0_arrange 62 = .ok (.iload_n 2, 1) := by decide +kernel
theorem dX0_arrange_63 : decode cX0_arrange 63 = .ok (.iload_n 1, 1) := by decide +kernel
theorem dX0_arrange_64 : decode cX0_arrange 64 = .ok (.iastore, 1) := by decide +kernel
theorem dX0_arrange_65 : decode cX0_arrange 65 = .ok (.iinc 1 1, 3) := by decide +kernel
theorem dX0_arrange_68 : decode cX0_arrange 68 = .ok (.goto (-66), 3) := by decide +kernel
theorem dX0_arrange_71 : decode cX0_arrange 71 = .ok (.return_, 1) := by decide +kernel
theorem dX0_copyFrom_0 : decode cX0_copyFrom 0 = .ok (.aload_n 1, 1) := by decide +kernel
theorem dX0_copyFrom_1 : decode cX0_copyFrom 1 = .ok (.getfield 11, 3) := by decide +kernel
theorem dX0_copyFrom_4 : decode cX0_copyFrom 4 = .ok (.iconst 0, 1) := by decide +kernel
theorem dX0_copyFrom_5 : decode cX0_copyFrom 5 = .ok (.aload_n 0, 1) := by decide +kernel
theorem dX0_copyFrom_6 : decode cX0_copyFrom 6 = .ok (.getfield 11, 3) := by decide +kernel
theorem dX0_copyFrom_9 : decode cX0_copyFrom 9 = .ok (.iconst 0, 1) := by decide +kernel
theorem dX0_copyFrom_10 : decode cX0_copyFrom 10 = .ok (.bipush 41, 2) := by decide +kernel
theorem dX0_copyFrom_12 : decode cX0_copyFrom 12 = .ok (.invokestatic 53, 3) := by decide +kernel
theorem dX0_copyFrom_15 : decode cX0_copyFrom 15 = .ok (.aload_n 1, 1) := by decide +kernel
theorem dX0_copyFrom_16 : decode cX0_copyFrom 16 = .ok (.getfield 15, 3) := by decide +kernel
theorem dX0_copyFrom_19 : decode cX0_copyFrom 19 = .ok (.iconst 0, 1) := by decide +kernel
theorem dX0_copyFrom_20 : decode cX0_copyFrom 20 = .ok (.aload_n 0, 1) := by decide +kernel
theorem dX0_copyFrom_21 : decode cX0_copyFrom 21 = .ok (.getfield 15, 3) := by decide +kernel
theorem dX0_copyFrom_24 : decode cX0_copyFrom 24 = .ok (.iconst 0, 1) := by decide +kernel
theorem dX0_copyFrom_25 : decode cX0_copyFrom 25 = .ok (.bipush 41, 2) := by decide +kernel
theorem dX0_copyFrom_27 : decode cX0_copyFrom 27 = .ok (.invokestatic 53, 3) := by decide +kernel
theorem dX0_copyFrom_30 : decode cX0_copyFrom 30 = .ok (.aload_n 1, 1) := by decide +kernel
theorem dX0_copyFrom_31 : decode cX0_copyFrom 31 = .ok (.getfield 18, 3) := by decide +kernel
theorem dX0_copyFrom_34 : decode cX0_copyFrom 34 = .ok (.iconst 0, 1) := by decide +kernel
theorem dX0_copyFrom_35 : decode cX0_copyFrom 35 = .ok (.aload_n 0, 1) := by decide +kernel
theorem dX0_copyFrom_36 : decode cX0_copyFrom 36 = .ok (.getfield 18, 3) := by decide +kernel
theorem dX0_copyFrom_39 : decode cX0_copyFrom 39 = .ok (.iconst 0, 1) := by decide +kernel
theorem dX0_copyFrom_40 : decode cX0_copyFrom 40 = .ok (.bipush 41, 2) := by decide +kernel
theorem dX0_copyFrom_42 : decode cX0_copyFrom 42 = .ok (.invokestatic 53, 3) := by decide +kernel
theorem dX0_copyFrom_45 : decode cX0_copyFrom 45 = .ok (.aload_n 1, 1) := by decide +kernel
theorem dX0_copyFrom_46 : decode cX0_copyFrom 46 = .ok (.getfield 21, 3) := by decide +kernel
theorem dX0_copyFrom_49 : decode cX0_copyFrom 49 = .ok (.iconst 0, 1) := by decide +kernel
theorem dX0_copyFrom_50 : decode cX0_copyFrom 50 = .ok (.aload_n 0, 1) := by decide +kernel
theorem dX0_copyFrom_51 : decode cX0_copyFrom 51 = .ok (.getfield 21, 3) := by decide +kernel
theorem dX0_copyFrom_54 : decode cX0_copyFrom 54 = .ok (.iconst 0, 1) := by decide +kernel
theorem dX0_copyFrom_55 : decode cX0_copyFrom 55 = .ok (.bipush 41, 2) := by decide +kernel
theorem dX0_copyFrom_57 : decode cX0_copyFrom 57 = .ok (.invokestatic 53, 3) := by decide +kernel
theorem dX0_copyFrom_60 : decode cX0_copyFrom 60 = .ok (.aload_n 1, 1) := by decide +kernel
theorem dX0_copyFrom_61 : decode cX0_copyFrom 61 = .ok (.getfield 24, 3) := by decide +kernel
theorem dX0_copyFrom_64 : decode cX0_copyFrom 64 = .ok (.iconst 0, 1) := by decide +kernel
theorem dX0_copyFrom_65 : decode cX0_copyFrom 65 = .ok (.aload_n 0, 1) := by decide +kernel
theorem dX0_copyFrom_66 : decode cX0_copyFrom 66 = .ok (.getfield 24, 3) := by decide +kernel
theorem dX0_copyFrom_69 : decode cX0_copyFrom 69 = .ok (.iconst 0, 1) := by decide +kernel
theorem dX0_copyFrom_70 : decode cX0_copyFrom 70 = .ok (.bipush 41, 2) := by decide +kernel
theorem dX0_copyFrom_72 : decode cX0_copyFrom 72 = .ok (.invokestatic 53, 3) := by decide +kernel
theorem dX0_copyFrom_75 : decode cX0_copyFrom 75 = .ok (.aload_n 1, 1) := by decide +kernel
theorem dX0_copyFrom_76 : decode cX0_copyFrom 76 = .ok (.getfield 27, 3) := by decide +kernel
theorem dX0_copyFrom_79 : decode cX0_copyFrom 79 = .ok (.iconst 0, 1) := by decide +kernel
theorem dX0_copyFrom_80 : decode cX0_copyFrom 80 = .ok (.aload_n 0, 1) := by decide +kernel
theorem dX0_copyFrom_81 : decode cX0_copyFrom 81 = .ok (.getfield 27, 3) := by decide +kernel
theorem dX0_copyFrom_84 : decode cX0_copyFrom 84 = .ok (.iconst 0, 1) := by decide +kernel
theorem dX0_copyFrom_85 : decode cX0_copyFrom 85 = .ok (.bipush 41, 2) := by decide +kernel
theorem dX0_copyFrom_87 : decode cX0_copyFrom 87 = .ok (.invokestatic 53, 3) := by decide +kernel
theorem dX0_copyFrom_90 : decode cX0_copyFrom 90 = .ok (.aload_n 1, 1) := by decide +kernel
theorem dX0_copyFrom_91 : decode cX0_copyFrom 91 = .ok (.getfield 30, 3) := by decide +kernel
theorem dX0_copyFrom_94 : decode cX0_copyFrom 94 = .ok (.iconst 0, 1) := by decide +kernel
theorem dX0_copyFrom_95 : decode cX0_copyFrom 95 = .ok (.aload_n 0, 1) := by decide +kernel
theorem dX0_copyFrom_96 : decode cX0_copyFrom 96 = .ok (.getfield 30, 3) := by decide +kernel
theorem dX0_copyFrom_99 : decode cX0_copyFrom 99 = .ok (.iconst 0, 1) := by decide +kernel
theorem dX0_copyFrom_100 : decode cX0_copyFrom 100 = .ok (.bipush 41, 2) := by decide +kernel
theorem dX0_copyFrom_102 : decode cX0_copyFrom 102 = .ok (.invokestatic 53, 3) := by decide +kernel
theorem dX0_copyFrom_105 : decode cX0_copyFrom 105 = .ok (.aload_n 0, 1) := by decide +kernel
theorem dX0_copyFrom_106 : decode cX0_copyFrom 106 = .ok (.aload_n 1, 1) := by decide +kernel
theorem dX0_copyFrom_107 : decode cX0_copyFrom 107 = .ok (.getfield 43, 3) := by decide +kernel
theorem dX0_copyFrom_110 : decode cX0_copyFrom 110 = .ok (.putfield 43, 3) := by decide +kernel
theorem dX0_copyFrom_113 : decode cX0_copyFrom 113 = .ok (.aload_n 0, 1) := by decide +kernel
theorem dX0_copyFrom_114 : decode cX0_copyFrom 114 = .ok (.aload_n 1, 1) := by decide +kernel
theorem dX0_copyFrom_115 : decode cX0_copyFrom 115 = .ok (.getfield 59, 3) := by decide +kernel
theorem dX0_copyFrom_118 : decode cX0_copyFrom 118 = .ok (.putfield 59, 3) := by decide +kernel
theorem dX0_copyFrom_121 : decode cX0_copyFrom 121 = .ok (.aload_n 0, 1) := by decide +kernel
theorem dX0_copyFrom_122 : decode cX0_copyFrom 122 = .ok (.aload_n 1, 1) := by decide +kernel
theorem dX0_copyFrom_123 : decode cX0_copyFrom 123 = .ok (.getfield 33, 3) := by decide +kernel
theorem dX0_copyFrom_126 : decode cX0_copyFrom 126 = .ok (.putfield 33, 3) := by decide +kernel
theorem dX0_copyFrom_129 : decode cX0_copyFrom 129 = .ok (.aload_n 0, 1) := by decide +kernel
theorem dX0_copyFrom_130 : decode cX0_copyFrom 130 = .ok (.aload_n 1, 1) := by decide +kernel
theorem dX0_copyFrom_131 : decode cX0_copyFrom 131 = .ok (.getfield 37, 3) := by decide +kernel
theorem dX0_copyFrom_134 : decode cX0_copyFrom 134 = .ok (.putfield 37, 3) := by decide +kernel
theorem dX0_copyFrom_137 : decode cX0_copyFrom 137 = .ok (.aload_n 0, 1) := by decide +kernel
theorem dX0_copyFrom_138 : decode cX0_copyFrom 138 = .ok (.aload_n 1, 1) := by decide +kernel
theorem dX0_copyFrom_139 : decode cX0_copyFrom 139 = .ok (.getfield 40, 3) := by decide +kernel
theorem dX0_copyFrom_142 : decode cX0_copyFrom 142 = .ok (.putfield 40, 3) := by decide +kernel
theorem dX0_copyFrom_145 : decode cX0_copyFrom 145 = .ok (.return_, 1) := by decide +kernel
theorem dX0_placeOf_0 : decode cX0_placeOf 0 = .ok (.iconst 0, 1) := by decide +kernel
theorem dX0_placeOf_1 : decode cX0_placeOf 1 = .ok (.istore_n 2, 1) := by decide +kernel
theorem dX0_placeOf_2 : decode cX0_placeOf 2 = .ok (.iload_n 2, 1) := by decide +kernel
theorem dX0_placeOf_3 : decode cX0_placeOf 3 = .ok (.aload_n 0, 1) := by decide +kernel
theorem dX0_placeOf_4 : decode cX0_placeOf 4 = .ok (.getfield 43, 3) := by decide +kernel
theorem dX0_placeOf_7 : decode cX0_placeOf 7 = .ok (.if_icmp .ge 21, 3) := by decide +kernel
theorem dX0_placeOf_10 : decode cX0_placeOf 10 = .ok (.aload_n 0, 1) := by decide +kernel
theorem dX0_placeOf_11 : decode cX0_placeOf 11 = .ok (.getfield 30, 3) := by decide +kernel
theorem dX0_placeOf_14 : decode cX0_placeOf 14 = .ok (.iload_n 2, 1) := by decide +kernel
theorem dX0_placeOf_15 : decode cX0_placeOf 15 = .ok (.iaload, 1) := by decide +kernel
theorem dX0_placeOf_16 : decode cX0_placeOf 16 = .ok (.iload_n 1, 1) := by decide +kernel
theorem dX0_placeOf_17 : decode cX0_placeOf 17 = .ok (.if_icmp .ne 5, 3) := by decide +kernel
theorem dX0_placeOf_20 : decode cX0_placeOf 20 = .ok (.iload_n 2, 1) := by decide +kernel
theorem dX0_placeOf_21 : decode cX0_placeOf 21 = .ok (.ireturn, 1) := by decide +kernel
theorem dX0_placeOf_22 : decode cX0_placeOf 22 = .ok (.iinc 2 1, 3) := by decide +kernel
theorem dX0_placeOf_25 : decode cX0_placeOf 25 = .ok (.goto (-23), 3) := by decide +kernel
theorem dX0_placeOf_28 : decode cX0_placeOf 28 = .ok (.bipush (-6), 2) := by decide +kernel
theorem dX0_placeOf_30 : decode cX0_placeOf 30 = .ok (.ireturn, 1) := by decide +kernel
theorem dX0_doneBy_0 : decode cX0_doneBy 0 = .ok (.iconst 0, 1) := by decide +kernel
theorem dX0_doneBy_1 : decode cX0_doneBy 1 = .ok (.istore_n 2, 1) := by decide +kernel
theorem dX0_doneBy_2 : decode cX0_doneBy 2 = .ok (.iconst 0, 1) := by decide +kernel
theorem dX0_doneBy_3 : decode cX0_doneBy 3 = .ok (.istore_n 3, 1) := by decide +kernel
theorem dX0_doneBy_4 : decode cX0_doneBy 4 = .ok (.iload_n 3, 1) := by decide +kernel
theorem dX0_doneBy_5 : decode cX0_doneBy 5 = .ok (.aload_n 0, 1) := by decide +kernel
theorem dX0_doneBy_6 : decode cX0_doneBy 6 = .ok (.getfield 43, 3) := by decide +kernel
theorem dX0_doneBy_9 : decode cX0_doneBy 9 = .ok (.if_icmp .ge 30, 3) := by decide +kernel
theorem dX0_doneBy_12 : decode cX0_doneBy 12 = .ok (.iload_n 2, 1) := by decide +kernel
theorem dX0_doneBy_13 : decode cX0_doneBy 13 = .ok (.aload_n 0, 1) := by decide +kernel
theorem dX0_doneBy_14 : decode cX0_doneBy 14 = .ok (.getfield 11, 3) := by decide +kernel
theorem dX0_doneBy_17 : decode cX0_doneBy 17 = .ok (.iload_n 3, 1) := by decide +kernel
theorem dX0_doneBy_18 : decode cX0_doneBy 18 = .ok (.iaload, 1) := by decide +kernel
theorem dX0_doneBy_19 : decode cX0_doneBy 19 = .ok (.iload_n 1, 1) := by decide +kernel
theorem dX0_doneBy_20 : decode cX0_doneBy 20 = .ok (.if_icmp .gt 7, 3) := by decide +kernel
theorem dX0_doneBy_23 : decode cX0_doneBy 23 = .ok (.iconst 1, 1) := by decide +kernel
theorem dX0_doneBy_24 : decode cX0_doneBy 24 = .ok (.goto 4, 3) := by decide +kernel
theorem dX0_doneBy_27 : decode cX0_doneBy 27 = .ok (.iconst 0, 1) := by decide +kernel
theorem dX0_doneBy_28 : decode cX0_doneBy 28 = .ok (.invokestatic 62, 3) := by decide +kernel
theorem dX0_doneBy_31 : decode cX0_doneBy 31 = .ok (.iadd, 1) := by decide +kernel
theorem dX0_doneBy_32 : decode cX0_doneBy 32 = .ok (.istore_n 2, 1) := by decide +kernel
theorem dX0_doneBy_33 : decode cX0_doneBy 33 = .ok (.iinc 3 1, 3) := by decide +kernel
theorem dX0_doneBy_36 : decode cX0_doneBy 36 = .ok (.goto (-32), 3) := by decide +kernel
theorem dX0_doneBy_39 : decode cX0_doneBy 39 = .ok (.iload_n 2, 1) := by decide +kernel
theorem dX0_doneBy_40 : decode cX0_doneBy 40 = .ok (.ireturn, 1) := by decide +kernel
theorem dX0_isLastOfItsDay_0 : decode cX0_isLastOfItsDay 0 = .ok (.iload_n 1, 1) := by decide +kernel
theorem dX0_isLastOfItsDay_1 : decode cX0_isLastOfItsDay 1 = .ok (.iconst 1, 1) := by decide +kernel
theorem dX0_isLastOfItsDay_2 : decode cX0_isLastOfItsDay 2 = .ok (.iadd, 1) := by decide +kernel
theorem dX0_isLastOfItsDay_3 : decode cX0_isLastOfItsDay 3 = .ok (.aload_n 0, 1) := by decide +kernel
theorem dX0_isLastOfItsDay_4 : decode cX0_isLastOfItsDay 4 = .ok (.getfield 43, 3) := by decide +kernel
theorem dX0_isLastOfItsDay_7 : decode cX0_isLastOfItsDay 7 = .ok (.if_icmp .ge 30, 3) := by decide +kernel
theorem dX0_isLastOfItsDay_10 : decode cX0_isLastOfItsDay 10 = .ok (.aload_n 0, 1) := by decide +kernel
theorem dX0_isLastOfItsDay_11 : decode cX0_isLastOfItsDay 11 = .ok (.getfield 11, 3) := by decide +kernel
theorem dX0_isLastOfItsDay_14 : decode cX0_isLastOfItsDay 14 = .ok (.aload_n 0, 1) := by decide +kernel
theorem dX0_isLastOfItsDay_15 : decode cX0_isLastOfItsDay 15 = .ok (.getfield 30, 3) := by decide +kernel
theorem dX0_isLastOfItsDay_18 : decode cX0_isLastOfItsDay 18 = .ok (.iload_n 1, 1) := by decide +kernel
theorem dX0_isLastOfItsDay_19 : decode cX0_isLastOfItsDay 19 = .ok (.iconst 1, 1) := by decide +kernel
theorem dX0_isLastOfItsDay_20 : decode cX0_isLastOfItsDay 20 = .ok (.iadd, 1) := by decide +kernel
theorem dX0_isLastOfItsDay_21 : decode cX0_isLastOfItsDay 21 = .ok (.iaload, 1) := by decide +kernel
theorem dX0_isLastOfItsDay_22 : decode cX0_isLastOfItsDay 22 = .ok (.iaload, 1) := by decide +kernel
theorem dX0_isLastOfItsDay_23 : decode cX0_isLastOfItsDay 23 = .ok (.aload_n 0, 1) := by decide +kernel
theorem dX0_isLastOfItsDay_24 : decode cX0_isLastOfItsDay 24 = .ok (.getfield 11, 3) := by decide +kernel
theorem dX0_isLastOfItsDay_27 : decode cX0_isLastOfItsDay 27 = .ok (.aload_n 0, 1) := by decide +kernel
theorem dX0_isLastOfItsDay_28 : decode cX0_isLastOfItsDay 28 = .ok (.getfield 30, 3) := by decide +kernel
theorem dX0_isLastOfItsDay_31 : decode cX0_isLastOfItsDay 31 = .ok (.iload_n 1, 1) := by decide +kernel
theorem dX0_isLastOfItsDay_32 : decode cX0_isLastOfItsDay 32 = .ok (.iaload, 1) := by decide +kernel
theorem dX0_isLastOfItsDay_33 : decode cX0_isLastOfItsDay 33 = .ok (.iaload, 1) := by decide +kernel
theorem dX0_isLastOfItsDay_34 : decode cX0_isLastOfItsDay 34 = .ok (.if_icmp .eq 7, 3) := by decide +kernel
theorem dX0_isLastOfItsDay_37 : decode cX0_isLastOfItsDay 37 = .ok (.iconst 1, 1) := by decide +kernel
theorem dX0_isLastOfItsDay_38 : decode cX0_isLastOfItsDay 38 = .ok (.goto 4, 3) := by decide +kernel
theorem dX0_isLastOfItsDay_41 : decode cX0_isLastOfItsDay 41 = .ok (.iconst 0, 1) := by decide +kernel
theorem dX0_isLastOfItsDay_42 : decode cX0_isLastOfItsDay 42 = .ok (.ireturn, 1) := by decide +kernel
theorem dX0_unlikeDay_0 : decode cX0_unlikeDay 0 = .ok (.iconst 0, 1) := by decide +kernel
theorem dX0_unlikeDay_1 : decode cX0_unlikeDay 1 = .ok (.istore_n 2, 1) := by decide +kernel
theorem dX0_unlikeDay_2 : decode cX0_unlikeDay 2 = .ok (.iconst 0, 1) := by decide +kernel
theorem dX0_unlikeDay_3 : decode cX0_unlikeDay 3 = .ok (.istore_n 3, 1) := by decide +kernel
theorem dX0_unlikeDay_4 : decode cX0_unlikeDay 4 = .ok (.iload_n 3, 1) := by decide +kernel
theorem dX0_unlikeDay_5 : decode cX0_unlikeDay 5 = .ok (.aload_n 0, 1) := by decide +kernel
theorem dX0_unlikeDay_6 : decode cX0_unlikeDay 6 = .ok (.getfield 43, 3) := by decide +kernel
theorem dX0_unlikeDay_9 : decode cX0_unlikeDay 9 = .ok (.if_icmp .ge 37, 3) := by decide +kernel
theorem dX0_unlikeDay_12 : decode cX0_unlikeDay 12 = .ok (.aload_n 0, 1) := by decide +kernel
theorem dX0_unlikeDay_13 : decode cX0_unlikeDay 13 = .ok (.iload_n 3, 1) := by decide +kernel
theorem dX0_unlikeDay_14 : decode cX0_unlikeDay 14 = .ok (.invokevirtual 66, 3) := by decide +kernel
theorem dX0_unlikeDay_17 : decode cX0_unlikeDay 17 = .ok (.ifCond .eq 23, 3) := by decide +kernel
theorem dX0_unlikeDay_20 : decode cX0_unlikeDay 20 = .ok (.iload_n 2, 1) := by decide +kernel
theorem dX0_unlikeDay_21 : decode cX0_unlikeDay 21 = .ok (.iload_n 1, 1) := by decide +kernel
theorem dX0_unlikeDay_22 : decode cX0_unlikeDay 22 = .ok (.if_icmp .ne 15, 3) := by decide +kernel
theorem dX0_unlikeDay_25 : decode cX0_unlikeDay 25 = .ok (.aload_n 0, 1) := by decide +kernel
theorem dX0_unlikeDay_26 : decode cX0_unlikeDay 26 = .ok (.getfield 11, 3) := by decide +kernel
theorem dX0_unlikeDay_29 : decode cX0_unlikeDay 29 = .ok (.aload_n 0, 1) := by decide +kernel
theorem dX0_unlikeDay_30 : decode cX0_unlikeDay 30 = .ok (.getfield 30, 3) := by decide +kernel
theorem dX0_unlikeDay_33 : decode cX0_unlikeDay 33 = .ok (.iload_n 3, 1) := by decide +kernel
theorem dX0_unlikeDay_34 : decode cX0_unlikeDay 34 = .ok (.iaload, 1) := by decide +kernel
theorem dX0_unlikeDay_35 : decode cX0_unlikeDay 35 = .ok (.iaload, 1) := by decide +kernel
theorem dX0_unlikeDay_36 : decode cX0_unlikeDay 36 = .ok (.ireturn, 1) := by decide +kernel
theorem dX0_unlikeDay_37 : decode cX0_unlikeDay 37 = .ok (.iinc 2 1, 3) := by decide +kernel
theorem dX0_unlikeDay_40 : decode cX0_unlikeDay 40 = .ok (.iinc 3 1, 3) := by decide +kernel
theorem dX0_unlikeDay_43 : decode cX0_unlikeDay 43 = .ok (.goto (-39), 3) := by decide +kernel
theorem dX0_unlikeDay_46 : decode cX0_unlikeDay 46 = .ok (.bipush (-6), 2) := by decide +kernel
theorem dX0_unlikeDay_48 : decode cX0_unlikeDay 48 = .ok (.ireturn, 1) := by decide +kernel
theorem dX1_init_0 : decode cX1_init 0 = .ok (.aload_n 0, 1) := by decide +kernel
theorem dX1_init_1 : decode cX1_init 1 = .ok (.invokespecial 3, 3) := by decide +kernel
theorem dX1_init_4 : decode cX1_init 4 = .ok (.aload_n 0, 1) := by decide +kernel
theorem dX1_init_5 : decode cX1_init 5 = .ok (.bipush 9, 2) := by decide +kernel
theorem dX1_init_7 : decode cX1_init 7 = .ok (.newarray .int, 2) := by decide +kernel
theorem dX1_init_9 : decode cX1_init 9 = .ok (.putfield 9, 3) := by decide +kernel
theorem dX1_init_12 : decode cX1_init 12 = .ok (.aload_n 0, 1) := by decide +kernel
theorem dX1_init_13 : decode cX1_init 13 = .ok (.bipush 9, 2) := by decide +kernel
theorem dX1_init_15 : decode cX1_init 15 = .ok (.iconst 5, 1) := by decide +kernel
theorem dX1_init_16 : decode cX1_init 16 = .ok (.multianewarray 15 2, 4) := by decide +kernel
theorem dX1_init_20 : decode cX1_init 20 = .ok (.putfield 17, 3) := by decide +kernel
theorem dX1_init_23 : decode cX1_init 23 = .ok (.aload_n 0, 1) := by decide +kernel
theorem dX1_init_24 : decode cX1_init 24 = .ok (.bipush 9, 2) := by decide +kernel
theorem dX1_init_26 : decode cX1_init 26 = .ok (.newarray .int, 2) := by decide +kernel
theorem dX1_init_28 : decode cX1_init 28 = .ok (.putfield 20, 3) := by decide +kernel
theorem dX1_init_31 : decode cX1_init 31 = .ok (.return_, 1) := by decide +kernel
theorem dX1_workOutAll_0 : decode cX1_workOutAll 0 = .ok (.iconst 0, 1) := by decide +kernel
theorem dX1_workOutAll_1 : decode cX1_workOutAll 1 = .ok (.istore_n 3, 1) := by decide +kernel
theorem dX1_workOutAll_2 : decode cX1_workOutAll 2 = .ok (.iload_n 3, 1) := by decide +kernel
theorem dX1_workOutAll_3 : decode cX1_workOutAll 3 = .ok (.bipush 9, 2) := by decide +kernel
theorem dX1_workOutAll_5 : decode cX1_workOutAll 5 = .ok (.if_icmp .ge 16, 3) := by decide +kernel
theorem dX1_workOutAll_8 : decode cX1_workOutAll 8 = .ok (.aload_n 0, 1) := by decide +kernel
theorem dX1_workOutAll_9 : decode cX1_workOutAll 9 = .ok (.iload_n 3, 1) := by decide +kernel
theorem dX1_workOutAll_10 : decode cX1_workOutAll 10 = .ok (.aload_n 1, 1) := by decide +kernel
theorem dX1_workOutAll_11 : decode cX1_workOutAll 11 = .ok (.aload_n 2, 1) := by decide +kernel
theorem dX1_workOutAll_12 : decode cX1_workOutAll 12 = .ok (.invokevirtual 23, 3) := by decide +kernel
theorem dX1_workOutAll_15 : decode cX1_workOutAll 15 = .ok (.iinc 3 1, 3) := by decide +kernel
theorem dX1_workOutAll_18 : decode cX1_workOutAll 18 = .ok (.goto (-16), 3) := by decide +kernel
theorem dX1_workOutAll_21 : decode cX1_workOutAll 21 = .ok (.return_, 1) := by decide +kernel
theorem dX1_workOut_0 : decode cX1_workOut 0 = .ok (.aload_n 0, 1) := by decide +kernel
theorem dX1_workOut_1 : decode cX1_workOut 1 = .ok (.getfield 9, 3) := by decide +kernel
theorem dX1_workOut_4 : decode cX1_workOut 4 = .ok (.iload_n 1, 1) := by decide +kernel
theorem dX1_workOut_5 : decode cX1_workOut 5 = .ok (.iconst 0, 1) := by decide +kernel
theorem dX1_workOut_6 : decode cX1_workOut 6 = .ok (.iastore, 1) := by decide +kernel
theorem dX1_workOut_7 : decode cX1_workOut 7 = .ok (.aload_n 0, 1) := by decide +kernel
theorem dX1_workOut_8 : decode cX1_workOut 8 = .ok (.getfield 20, 3) := by decide +kernel
theorem dX1_workOut_11 : decode cX1_workOut 11 = .ok (.iload_n 1, 1) := by decide +kernel
theorem dX1_workOut_12 : decode cX1_workOut 12 = .ok (.iconst 0, 1) := by decide +kernel
theorem dX1_workOut_13 : decode cX1_workOut 13 = .ok (.iastore, 1) := by decide +kernel
theorem dX1_workOut_14 : decode cX1_workOut 14 = .ok (.iconst 0, 1) := by decide +kernel
theorem dX1_workOut_15 : decode cX1_workOut 15 = .ok (.istore 4, 2) := by decide +kernel
theorem dX1_workOut_17 : decode cX1_workOut 17 = .ok (.iload 4, 2) := by decide +kernel
theorem dX1_workOut_19 : decode cX1_workOut 19 = .ok (.iconst 5, 1) := by decide +kernel
theorem dX1_workOut_20 : decode cX1_workOut 20 = .ok (.if_icmp .ge 20, 3) := by decide +kernel
theorem dX1_workOut_23 : decode cX1_workOut 23 = .ok (.aload_n 0, 1) := by decide +kernel
theorem dX1_workOut_24 : decode cX1_workOut 24 = .ok (.getfield 17, 3) := by decide +kernel
theorem dX1_workOut_27 : decode cX1_workOut 27 = .ok (.iload_n 1, 1) := by decide +kernel
theorem dX1_workOut_28 : decode cX1_workOut 28 = .ok (.aaload, 1) := by decide +kernel
theorem dX1_workOut_29 : decode cX1_workOut 29 = .ok (.iload 4, 2) := by decide +kernel
theorem dX1_workOut_31 : decode cX1_workOut 31 = .ok (.bipush (-6), 2) := by decide +kernel
theorem dX1_workOut_33 : decode cX1_workOut 33 = .ok (.iastore, 1) := by decide +kernel
theorem dX1_workOut_34 : decode cX1_workOut 34 = .ok (.iinc 4 1, 3) := by decide +kernel
theorem dX1_workOut_37 : decode cX1_workOut 37 = .ok (.goto (-20), 3) := by decide +kernel
theorem dX1_workOut_40 : decode cX1_workOut 40 = .ok (.iconst 1, 1) := by decide +kernel
theorem dX1_workOut_41 : decode cX1_workOut 41 = .ok (.istore 4, 2) := by decide +kernel
theorem dX1_workOut_43 : decode cX1_workOut 43 = .ok (.iload 4, 2) := by decide +kernel
theorem dX1_workOut_45 : decode cX1_workOut 45 = .ok (.iconst 5, 1) := by decide +kernel
theorem dX1_workOut_46 : decode cX1_workOut 46 = .ok (.if_icmp .gt 79, 3) := by decide +kernel
theorem dX1_workOut_49 : decode cX1_workOut 49 = .ok (.aload_n 0, 1) := by decide +kernel
theorem dX1_workOut_50 : decode cX1_workOut 50 = .ok (.iload_n 1, 1) := by decide +kernel
theorem dX1_workOut_51 : decode cX1_workOut 51 = .ok (.aload_n 2, 1) := by decide +kernel
theorem dX1_workOut_52 : decode cX1_workOut 52 = .ok (.aload_n 3, 1) := by decide +kernel
theorem dX1_workOut_53 : decode cX1_workOut 53 = .ok (.invokevirtual 27, 3) := by decide +kernel
theorem dX1_workOut_56 : decode cX1_workOut 56 = .ok (.istore 5, 2) := by decide +kernel
theorem dX1_workOut_58 : decode cX1_workOut 58 = .ok (.iload 5, 2) := by decide +kernel
theorem dX1_workOut_60 : decode cX1_workOut 60 = .ok (.ifCond .ne 4, 3) := by decide +kernel
theorem dX1_workOut_63 : decode cX1_workOut 63 = .ok (.return_, 1) := by decide +kernel
theorem dX1_workOut_64 : decode cX1_workOut 64 = .ok (.aload_n 0, 1) := by decide +kernel
theorem dX1_workOut_65 : decode cX1_workOut 65 = .ok (.getfield 9, 3) := by decide +kernel
theorem dX1_workOut_68 : decode cX1_workOut 68 = .ok (.iload_n 1, 1) := by decide +kernel
theorem dX1_workOut_69 : decode cX1_workOut 69 = .ok (.dup2, 1) := by decide +kernel
theorem dX1_workOut_70 : decode cX1_workOut 70 = .ok (.iaload, 1) := by decide +kernel
theorem dX1_workOut_71 : decode cX1_workOut 71 = .ok (.iload 5, 2) := by decide +kernel
theorem dX1_workOut_73 : decode cX1_workOut 73 = .ok (.ior, 1) := by decide +kernel
theorem dX1_workOut_74 : decode cX1_workOut 74 = .ok (.iastore, 1) := by decide +kernel
theorem dX1_workOut_75 : decode cX1_workOut 75 = .ok (.aload_n 0, 1) := by decide +kernel
theorem dX1_workOut_76 : decode cX1_workOut 76 = .ok (.getfield 20, 3) := by decide +kernel
theorem dX1_workOut_79 : decode cX1_workOut 79 = .ok (.iload_n 1, 1) := by decide +kernel
theorem dX1_workOut_80 : decode cX1_workOut 80 = .ok (.iload 4, 2) := by decide +kernel
theorem dX1_workOut_82 : decode cX1_workOut 82 = .ok (.iastore, 1) := by decide +kernel
theorem dX1_workOut_83 : decode cX1_workOut 83 = .ok (.iconst 0, 1) := by decide +kernel
theorem dX1_workOut_84 : decode cX1_workOut 84 = .ok (.istore 6, 2) := by decide +kernel
theorem dX1_workOut_86 : decode cX1_workOut 86 = .ok (.iload 6, 2) := by decide +kernel
theorem dX1_workOut_88 : decode cX1_workOut 88 = .ok (.iconst 5, 1) := by decide +kernel
theorem dX1_workOut_89 : decode cX1_workOut 89 = .ok (.if_icmp .ge 30, 3) := by decide +kernel
theorem dX1_workOut_92 : decode cX1_workOut 92 = .ok (.iload 5, 2) := by decide +kernel
theorem dX1_workOut_94 : decode cX1_workOut 94 = .ok (.iload 6, 2) := by decide +kernel
theorem dX1_workOut_96 : decode cX1_workOut 96 = .ok (.invokestatic 31, 3) := by decide +kernel
theorem dX1_workOut_99 : decode cX1_workOut 99 = .ok (.ifCond .eq 14, 3) := by decide +kernel
theorem dX1_workOut_102 : decode cX1_workOut 102 = .ok (.aload_n 0, 1) := by decide +kernel
theorem dX1_workOut_103 : decode cX1_workOut 103 = .ok (.getfield 17, 3) := by decide +kernel
theorem dX1_workOut_106 : decode cX1_workOut 106 = .ok (.iload_n 1, 1) := by decide +kernel
theorem dX1_workOut_107 : decode cX1_workOut 107 = .ok (.aaload, 1) := by decide +kernel
theorem dX1_workOut_108 : decode cX1_workOut 108 = .ok (.iload 6, 2) := by decide +kernel
theorem dX1_workOut_110 : decode cX1_workOut 110 = .ok (.iload 4, 2) := by decide +kernel
theorem dX1_workOut_112 : decode cX1_workOut 112 = .ok (.iastore, 1) := by decide +kernel
theorem dX1_workOut_113 : decode cX1_workOut 113 = .ok (.iinc 6 1, 3) := by decide +kernel
theorem dX1_workOut_116 : decode cX1_workOut 116 = .ok (.goto (-30), 3) := by decide +kernel
theorem dX1_workOut_119 : decode cX1_workOut 119 = .ok (.iinc 4 1, 3) := by decide +kernel
theorem dX1_workOut_122 : decode cX1_workOut 122 = .ok (.goto (-79), 3) := by decide +kernel
theorem dX1_workOut_125 : decode cX1_workOut 125 = .ok (.return_, 1) := by decide +kernel
theorem dX1_newFirms_0 : decode cX1_newFirms 0 = .ok (.iconst 0, 1) := by decide +kernel
theorem dX1_newFirms_1 : decode cX1_newFirms 1 = .ok (.istore 4, 2) := by decide +kernel
theorem dX1_newFirms_3 : decode cX1_newFirms 3 = .ok (.iconst 0, 1) := by decide +kernel
theorem dX1_newFirms_4 : decode cX1_newFirms 4 = .ok (.istore 5, 2) := by decide +kernel
theorem dX1_newFirms_6 : decode cX1_newFirms 6 = .ok (.iload 5, 2) := by decide +kernel
theorem dX1_newFirms_8 : decode cX1_newFirms 8 = .ok (.iconst 5, 1) := by decide +kernel
theorem dX1_newFirms_9 : decode cX1_newFirms 9 = .ok (.if_icmp .ge 49, 3) := by decide +kernel
theorem dX1_newFirms_12 : decode cX1_newFirms 12 = .ok (.aload_n 0, 1) := by decide +kernel
theorem dX1_newFirms_13 : decode cX1_newFirms 13 = .ok (.getfield 9, 3) := by decide +kernel
theorem dX1_newFirms_16 : decode cX1_newFirms 16 = .ok (.iload_n 1, 1) := by decide +kernel
theorem dX1_newFirms_17 : decode cX1_newFirms 17 = .ok (.iaload, 1) := by decide +kernel
theorem dX1_newFirms_18 : decode cX1_newFirms 18 = .ok (.iload 5, 2) := by decide +kernel
theorem dX1_newFirms_20 : decode cX1_newFirms 20 = .ok (.invokestatic 31, 3) := by decide +kernel
theorem dX1_newFirms_23 : decode cX1_newFirms 23 = .ok (.ifCond .ne 29, 3) := by decide +kernel
theorem dX1_newFirms_26 : decode cX1_newFirms 26 = .ok (.aload_n 2, 1) := by decide +kernel
theorem dX1_newFirms_27 : decode cX1_newFirms 27 = .ok (.iload 5, 2) := by decide +kernel
theorem dX1_newFirms_29 : decode cX1_newFirms 29 = .ok (.iload_n 1, 1) := by decide +kernel
theorem dX1_newFirms_30 : decode cX1_newFirms 30 = .ok (.aload_n 0, 1) := by decide +kernel
theorem dX1_newFirms_31 : decode cX1_newFirms 31 = .ok (.getfield 9, 3) := by decide +kernel
theorem dX1_newFirms_34 : decode cX1_newFirms 34 = .ok (.iload_n 1, 1) := by decide +kernel
theorem dX1_newFirms_35 : decode cX1_newFirms 35 = .ok (.iaload, 1) := by decide +kernel
theorem dX1_newFirms_36 : decode cX1_newFirms 36 = .ok (.aload_n 3, 1) := by decide +kernel
theorem dX1_newFirms_37 : decode cX1_newFirms 37 = .ok (.invokevirtual 35, 3) := by decide +kernel
theorem dX1_newFirms_40 : decode cX1_newFirms 40 = .ok (.ifCond .eq 12, 3) := by decide +kernel
theorem dX1_newFirms_43 : decode cX1_newFirms 43 = .ok (.iload 4, 2) := by decide +kernel
theorem dX1_newFirms_45 : decode cX1_newFirms 45 = .ok (.iconst 1, 1) := by decide +kernel
theorem dX1_newFirms_46 : decode cX1_newFirms 46 = .ok (.iload 5, 2) := by decide +kernel
theorem dX1_newFirms_48 : decode cX1_newFirms 48 = .ok (.ishl, 1) := by decide +kernel
theorem dX1_newFirms_49 : decode cX1_newFirms 49 = .ok (.ior, 1) := by decide +kernel
theorem dX1_newFirms_50 : decode cX1_newFirms 50 = .ok (.istore 4, 2) := by decide +kernel
theorem dX1_newFirms_52 : decode cX1_newFirms 52 = .ok (.iinc 5 1, 3) := by decide +kernel
theorem dX1_newFirms_55 : decode cX1_newFirms 55 = .ok (.goto (-49), 3) := by decide +kernel
theorem dX1_newFirms_58 : decode cX1_newFirms 58 = .ok (.iload 4, 2) := by decide +kernel
theorem dX1_newFirms_60 : decode cX1_newFirms 60 = .ok (.ireturn, 1) := by decide +kernel
theorem dX1_witnessOf_0 : decode cX1_witnessOf 0 = .ok (.aload_n 0, 1) := by decide +kernel
theorem dX1_witnessOf_1 : decode cX1_witnessOf 1 = .ok (.getfield 9, 3) := by decide +kernel
theorem dX1_witnessOf_4 : decode cX1_witnessOf 4 = .ok (.iload_n 1, 1) := by decide +kernel
theorem dX1_witnessOf_5 : decode cX1_witnessOf 5 = .ok (.iaload, 1) := by decide +kernel
theorem dX1_witnessOf_6 : decode cX1_witnessOf 6 = .ok (.iload_n 2, 1) := by decide +kernel
theorem dX1_witnessOf_7 : decode cX1_witnessOf 7 = .ok (.invokestatic 31, 3) := by decide +kernel
theorem dX1_witnessOf_10 : decode cX1_witnessOf 10 = .ok (.ifCond .ne 6, 3) := by decide +kernel
theorem dX1_witnessOf_13 : decode cX1_witnessOf 13 = .ok (.bipush (-6), 2) := by decide +kernel
theorem dX1_witnessOf_15 : decode cX1_witnessOf 15 = .ok (.ireturn, 1) := by decide +kernel
theorem dX1_witnessOf_16 : decode cX1_witnessOf 16 = .ok (.aload_n 0, 1) := by decide +kernel
theorem dX1_witnessOf_17 : decode cX1_witnessOf 17 = .ok (.iload_n 1, 1) := by decide +kernel
theorem dX1_witnessOf_18 : decode cX1_witnessOf 18 = .ok (.aload_n 0, 1) := by decide +kernel
theorem dX1_witnessOf_19 : decode cX1_witnessOf 19 = .ok (.getfield 17, 3) := by decide +kernel
theorem dX1_witnessOf_22 : decode cX1_witnessOf 22 = .ok (.iload_n 1, 1) := by decide +kernel
theorem dX1_witnessOf_23 : decode cX1_witnessOf 23 = .ok (.aaload, 1) := by decide +kernel
theorem dX1_witnessOf_24 : decode cX1_witnessOf 24 = .ok (.iload_n 2, 1) := by decide +kernel
theorem dX1_witnessOf_25 : decode cX1_witnessOf 25 = .ok (.iaload, 1) := by decide +kernel
theorem dX1_witnessOf_26 : decode cX1_witnessOf 26 = .ok (.invokevirtual 41, 3) := by decide +kernel
theorem dX1_witnessOf_29 : decode cX1_witnessOf 29 = .ok (.istore 5, 2) := by decide +kernel
theorem dX1_witnessOf_31 : decode cX1_witnessOf 31 = .ok (.iload 5, 2) := by decide +kernel
theorem dX1_witnessOf_33 : decode cX1_witnessOf 33 = .ok (.istore 6, 2) := by decide +kernel
theorem dX1_witnessOf_35 : decode cX1_witnessOf 35 = .ok (.iconst 0, 1) := by decide +kernel
theorem dX1_witnessOf_36 : decode cX1_witnessOf 36 = .ok (.istore 7, 2) := by decide +kernel
theorem dX1_witnessOf_38 : decode cX1_witnessOf 38 = .ok (.iload 7, 2) := by decide +kernel
theorem dX1_witnessOf_40 : decode cX1_witnessOf 40 = .ok (.iload 5, 2) := by decide +kernel
theorem dX1_witnessOf_42 : decode cX1_witnessOf 42 = .ok (.if_icmp .ge 61, 3) := by decide +kernel
theorem dX1_witnessOf_45 : decode cX1_witnessOf 45 = .ok (.iload 7, 2) := by decide +kernel
theorem dX1_witnessOf_47 : decode cX1_witnessOf 47 = .ok (.iload 5, 2) := by decide +kernel
theorem dX1_witnessOf_49 : decode cX1_witnessOf 49 = .ok (.iconst (-1), 1) := by decide +kernel
theorem dX1_witnessOf_50 : decode cX1_witnessOf 50 = .ok (.ixor, 1) := by decide +kernel
theorem dX1_witnessOf_51 : decode cX1_witnessOf 51 = .ok (.iand, 1) := by decide +kernel
theorem dX1_witnessOf_52 : decode cX1_witnessOf 52 = .ok (.ifCond .ne 20, 3) := by decide +kernel
theorem dX1_witnessOf_55 : decode cX1_witnessOf 55 = .ok (.iload 7, 2) := by decide +kernel
theorem dX1_witnessOf_57 : decode cX1_witnessOf 57 = .ok (.invokestatic 45, 3) := by decide +kernel
theorem dX1_witnessOf_60 : decode cX1_witnessOf 60 = .ok (.iload 6, 2) := by decide +kernel
theorem dX1_witnessOf_62 : decode cX1_witnessOf 62 = .ok (.invokestatic 45, 3) := by decide +kernel
theorem dX1_witnessOf_65 : decode cX1_witnessOf 65 = .ok (.if_icmp .ge 7, 3) := by decide +kernel
theorem dX1_witnessOf_68 : decode cX1_witnessOf 68 = .ok (.iconst 1, 1) := by decide +kernel
theorem dX1_witnessOf_69 : decode cX1_witnessOf 69 = .ok (.goto 4, 3) := by decide +kernel
theorem dX1_witnessOf_72 : decode cX1_witnessOf 72 = .ok (.iconst 0, 1) := by decide +kernel
theorem dX1_witnessOf_73 : decode cX1_witnessOf 73 = .ok (.istore 8, 2) := by decide +kernel
theorem dX1_witnessOf_75 : decode cX1_witnessOf 75 = .ok (.iload 8, 2) := by decide +kernel
theorem dX1_witnessOf_77 : decode cX1_witnessOf 77 = .ok (.ifCond .eq 20, 3) := by decide +kernel
theorem dX1_witnessOf_80 : decode cX1_witnessOf 80 = .ok (.aload_n 3, 1) := by decide +kernel
theorem dX1_witnessOf_81 : decode cX1_witnessOf 81 = .ok (.iload_n 2, 1) := by decide +kernel
theorem dX1_witnessOf_82 : decode cX1_witnessOf 82 = .ok (.iload_n 1, 1) := by decide +kernel
theorem dX1_witnessOf_83 : decode cX1_witnessOf 83 = .ok (.iload 7, 2) := by decide +kernel
theorem dX1_witnessOf_85 : decode cX1_witnessOf 85 = .ok (.aload 4, 2) := by decide +kernel
theorem dX1_witnessOf_87 : decode cX1_witnessOf 87 = .ok (.invokevirtual 35, 3) := by decide +kernel
theorem dX1_witnessOf_90 : decode cX1_witnessOf 90 = .ok (.ifCond .eq 7, 3) := by decide +kernel
theorem dX1_witnessOf_93 : decode cX1_witnessOf 93 = .ok (.iload 7, 2) := by decide +kernel
theorem dX1_witnessOf_95 : decode cX1_witnessOf 95 = .ok (.istore 6, 2) := by decide +kernel
theorem dX1_witnessOf_97 : decode cX1_witnessOf 97 = .ok (.iinc 7 1, 3) := by decide +kernel
theorem dX1_witnessOf_100 : decode cX1_witnessOf 100 = .ok (.goto (-62), 3) := by decide +kernel
theorem dX1_witnessOf_103 : decode cX1_witnessOf 103 = .ok (.iload 6, 2) := by decide +kernel
theorem dX1_witnessOf_105 : decode cX1_witnessOf 105 = .ok (.ireturn, 1) := by decide +kernel
theorem dX1_firmsBefore_0 : decode cX1_firmsBefore 0 = .ok (.iconst 0, 1) := by decide +kernel
theorem dX1_firmsBefore_1 : decode cX1_firmsBefore 1 = .ok (.istore_n 3, 1) := by decide +kernel
theorem dX1_firmsBefore_2 : decode cX1_firmsBefore 2 = .ok (.iconst 0, 1) := by decide +kernel
theorem dX1_firmsBefore_3 : decode cX1_firmsBefore 3 = .ok (.istore 4, 2) := by decide +kernel
theorem dX1_firmsBefore_5 : decode cX1_firmsBefore 5 = .ok (.iload 4, 2) := by decide +kernel
theorem dX1_firmsBefore_7 : decode cX1_firmsBefore 7 = .ok (.iconst 5, 1) := by decide +kernel
theorem dX1_firmsBefore_8 : decode cX1_firmsBefore 8 = .ok (.if_icmp .ge 43, 3) := by decide +kernel
theorem dX1_firmsBefore_11 : decode cX1_firmsBefore 11 = .ok (.aload_n 0, 1) := by decide +kernel
theorem dX1_firmsBefore_12 : decode cX1_firmsBefore 12 = .ok (.getfield 9, 3) := by decide +kernel
theorem dX1_firmsBefore_15 : decode cX1_firmsBefore 15 = .ok (.iload_n 1, 1) := by decide +kernel
theorem dX1_firmsBefore_16 : decode cX1_firmsBefore 16 = .ok (.iaload, 1) := by decide +kernel
theorem dX1_firmsBefore_17 : decode cX1_firmsBefore 17 = .ok (.iload 4, 2) := by decide +kernel
theorem dX1_firmsBefore_19 : decode cX1_firmsBefore 19 = .ok (.invokestatic 31, 3) := by decide +kernel
theorem dX1_firmsBefore_22 : decode cX1_firmsBefore 22 = .ok (.ifCond .eq 23, 3) := by decide +kernel
theorem dX1_firmsBefore_25 : decode cX1_firmsBefore 25 = .ok (.aload_n 0, 1) := by decide +kernel
theorem dX1_firmsBefore_26 : decode cX1_firmsBefore 26 = .ok (.getfield 17, 3) := by decide +kernel
theorem dX1_firmsBefore_29 : decode cX1_firmsBefore 29 = .ok (.iload_n 1, 1) := by decide +kernel
theorem dX1_firmsBefore_30 : decode cX1_firmsBefore 30 = .ok (.aaload, 1) := by decide +kernel
theorem dX1_firmsBefore_31 : decode cX1_firmsBefore 31 = .ok (.iload 4, 2) := by decide +kernel
theorem dX1_firmsBefore_33 : decode cX1_firmsBefore 33 = .ok (.iaload, 1) := by decide +kernel
theorem dX1_firmsBefore_34 : decode cX1_firmsBefore 34 = .ok (.iload_n 2, 1) := by decide +kernel
theorem dX1_firmsBefore_35 : decode cX1_firmsBefore 35 = .ok (.if_icmp .ge 10, 3) := by decide +kernel
theorem dX1_firmsBefore_38 : decode cX1_firmsBefore 38 = .ok (.iload_n 3, 1) := by decide +kernel
theorem dX1_firmsBefore_39 : decode cX1_firmsBefore 39 = .ok (.iconst 1, 1) := by decide +kernel
theorem dX1_firmsBefore_40 : decode cX1_firmsBefore 40 = .ok (.iload 4, 2) := by decide +kernel
theorem dX1_firmsBefore_42 : decode cX1_firmsBefore 42 = .ok (.ishl, 1) := by decide +kernel
theorem dX1_firmsBefore_43 : decode cX1_firmsBefore 43 = .ok (.ior, 1) := by decide +kernel
theorem dX1_firmsBefore_44 : decode cX1_firmsBefore 44 = .ok (.istore_n 3, 1) := by decide +kernel
theorem dX1_firmsBefore_45 : decode cX1_firmsBefore 45 = .ok (.iinc 4 1, 3) := by decide +kernel
theorem dX1_firmsBefore_48 : decode cX1_firmsBefore 48 = .ok (.goto (-43), 3) := by decide +kernel
theorem dX1_firmsBefore_51 : decode cX1_firmsBefore 51 = .ok (.iload_n 3, 1) := by decide +kernel
theorem dX1_firmsBefore_52 : decode cX1_firmsBefore 52 = .ok (.ireturn, 1) := by decide +kernel
theorem dX1_chainOf_0 : decode cX1_chainOf 0 = .ok (.aload_n 0, 1) := by decide +kernel
theorem dX1_chainOf_1 : decode cX1_chainOf 1 = .ok (.iload_n 1, 1) := by decide +kernel
theorem dX1_chainOf_2 : decode cX1_chainOf 2 = .ok (.iload_n 2, 1) := by decide +kernel
theorem dX1_chainOf_3 : decode cX1_chainOf 3 = .ok (.aload_n 3, 1) := by decide +kernel
theorem dX1_chainOf_4 : decode cX1_chainOf 4 = .ok (.aload 4, 2) := by decide +kernel
theorem dX1_chainOf_6 : decode cX1_chainOf 6 = .ok (.invokevirtual 51, 3) := by decide +kernel
theorem dX1_chainOf_9 : decode cX1_chainOf 9 = .ok (.istore 5, 2) := by decide +kernel
theorem dX1_chainOf_11 : decode cX1_chainOf 11 = .ok (.aload_n 0, 1) := by decide +kernel
theorem dX1_chainOf_12 : decode cX1_chainOf 12 = .ok (.getfield 17, 3) := by decide +kernel
theorem dX1_chainOf_15 : decode cX1_chainOf 15 = .ok (.iload_n 1, 1) := by decide +kernel
theorem dX1_chainOf_16 : decode cX1_chainOf 16 = .ok (.aaload, 1) := by decide +kernel
theorem dX1_chainOf_17 : decode cX1_chainOf 17 = .ok (.iload_n 2, 1) := by decide +kernel
theorem dX1_chainOf_18 : decode cX1_chainOf 18 = .ok (.iaload, 1) := by decide +kernel
theorem dX1_chainOf_19 : decode cX1_chainOf 19 = .ok (.iconst 1, 1) := by decide +kernel
theorem dX1_chainOf_20 : decode cX1_chainOf 20 = .ok (.isub, 1) := by decide +kernel
theorem dX1_chainOf_21 : decode cX1_chainOf 21 = .ok (.istore 6, 2) := by decide +kernel
theorem dX1_chainOf_23 : decode cX1_chainOf 23 = .ok (.iload 6, 2) := by decide +kernel
theorem dX1_chainOf_25 : decode cX1_chainOf 25 = .ok (.ifCond .le 63, 3) := by decide +kernel
theorem dX1_chainOf_28 : decode cX1_chainOf 28 = .ok (.iconst 0, 1) := by decide +kernel
theorem dX1_chainOf_29 : decode cX1_chainOf 29 = .ok (.istore 7, 2) := by decide +kernel
theorem dX1_chainOf_31 : decode cX1_chainOf 31 = .ok (.iload 7, 2) := by decide +kernel
theorem dX1_chainOf_33 : decode cX1_chainOf 33 = .ok (.iconst 5, 1) := by decide +kernel
theorem dX1_chainOf_34 : decode cX1_chainOf 34 = .ok (.if_icmp .ge 48, 3) := by decide +kernel
theorem dX1_chainOf_37 : decode cX1_chainOf 37 = .ok (.iload 5, 2) := by decide +kernel
theorem dX1_chainOf_39 : decode cX1_chainOf 39 = .ok (.iload 7, 2) := by decide +kernel
theorem dX1_chainOf_41 : decode cX1_chainOf 41 = .ok (.invokestatic 31, 3) := by decide +kernel
theorem dX1_chainOf_44 : decode cX1_chainOf 44 = .ok (.ifCond .eq 32, 3) := by decide +kernel
theorem dX1_chainOf_47 : decode cX1_chainOf 47 = .ok (.aload_n 0, 1) := by decide +kernel
theorem dX1_chainOf_48 : decode cX1_chainOf 48 = .ok (.getfield 17, 3) := by decide +kernel
theorem dX1_chainOf_51 : decode cX1_chainOf 51 = .ok (.iload_n 1, 1) := by decide +kernel
theorem dX1_chainOf_52 : decode cX1_chainOf 52 = .ok (.aaload, 1) := by decide +kernel
theorem dX1_chainOf_53 : decode cX1_chainOf 53 = .ok (.iload 7, 2) := by decide +kernel
theorem dX1_chainOf_55 : decode cX1_chainOf 55 = .ok (.iaload, 1) := by decide +kernel
theorem dX1_chainOf_56 : decode cX1_chainOf 56 = .ok (.iload 6, 2) := by decide +kernel
theorem dX1_chainOf_58 : decode cX1_chainOf 58 = .ok (.if_icmp .ne 18, 3) := by decide +kernel
theorem dX1_chainOf_61 : decode cX1_chainOf 61 = .ok (.iload 5, 2) := by decide +kernel
theorem dX1_chainOf_63 : decode cX1_chainOf 63 = .ok (.aload_n 0, 1) := by decide +kernel
theorem dX1_chainOf_64 : decode cX1_chainOf 64 = .ok (.iload_n 1, 1) := by decide +kernel
theorem dX1_chainOf_65 : decode cX1_chainOf 65 = .ok (.iload 7, 2) := by decide +kernel
theorem dX1_chainOf_67 : decode cX1_chainOf 67 = .ok (.aload_n 3, 1) := by decide +kernel
theorem dX1_chainOf_68 : decode cX1_chainOf 68 = .ok (.aload 4, 2) := by decide +kernel
theorem dX1_chainOf_70 : decode cX1_chainOf 70 = .ok (.invokevirtual 51, 3) := by decide +kernel
theorem dX1_chainOf_73 : decode cX1_chainOf 73 = .ok (.ior, 1) := by decide +kernel
theorem dX1_chainOf_74 : decode cX1_chainOf 74 = .ok (.istore 5, 2) := by decide +kernel
theorem dX1_chainOf_76 : decode cX1_chainOf 76 = .ok (.iinc 7 1, 3) := by decide +kernel
theorem dX1_chainOf_79 : decode cX1_chainOf 79 = .ok (.goto (-48), 3) := by decide +kernel
theorem dX1_chainOf_82 : decode cX1_chainOf 82 = .ok (.iinc 6 (-1), 3) := by decide +kernel
theorem dX1_chainOf_85 : decode cX1_chainOf 85 = .ok (.goto (-62), 3) := by decide +kernel
theorem dX1_chainOf_88 : decode cX1_chainOf 88 = .ok (.iload 5, 2) := by decide +kernel
theorem dX1_chainOf_90 : decode cX1_chainOf 90 = .ok (.ireturn, 1) := by decide +kernel
theorem dX1_thoseOver_0 : decode cX1_thoseOver 0 = .ok (.iconst 0, 1) := by decide +kernel
theorem dX1_thoseOver_1 : decode cX1_thoseOver 1 = .ok (.istore 4, 2) := by decide +kernel
theorem dX1_thoseOver_3 : decode cX1_thoseOver 3 = .ok (.iconst 0, 1) := by decide +kernel
theorem dX1_thoseOver_4 : decode cX1_thoseOver 4 = .ok (.istore 5, 2) := by decide +kernel
theorem dX1_thoseOver_6 : decode cX1_thoseOver 6 = .ok (.iload 5, 2) := by decide +kernel
theorem dX1_thoseOver_8 : decode cX1_thoseOver 8 = .ok (.iload_n 3, 1) := by decide +kernel
theorem dX1_thoseOver_9 : decode cX1_thoseOver 9 = .ok (.if_icmp .ge 34, 3) := by decide +kernel
theorem dX1_thoseOver_12 : decode cX1_thoseOver 12 = .ok (.aload_n 0, 1) := by decide +kernel
theorem dX1_thoseOver_13 : decode cX1_thoseOver 13 = .ok (.getfield 9, 3) := by decide +kernel
theorem dX1_thoseOver_16 : decode cX1_thoseOver 16 = .ok (.iload_n 2, 1) := by decide +kernel
theorem dX1_thoseOver_17 : decode cX1_thoseOver 17 = .ok (.iload 5, 2) := by decide +kernel
theorem dX1_thoseOver_19 : decode cX1_thoseOver 19 = .ok (.iadd, 1) := by decide +kernel
theorem dX1_thoseOver_20 : decode cX1_thoseOver 20 = .ok (.iaload, 1) := by decide +kernel
theorem dX1_thoseOver_21 : decode cX1_thoseOver 21 = .ok (.iload_n 1, 1) := by decide +kernel
theorem dX1_thoseOver_22 : decode cX1_thoseOver 22 = .ok (.invokestatic 31, 3) := by decide +kernel
theorem dX1_thoseOver_25 : decode cX1_thoseOver 25 = .ok (.ifCond .eq 12, 3) := by decide +kernel
theorem dX1_thoseOver_28 : decode cX1_thoseOver 28 = .ok (.iload 4, 2) := by decide +kernel
theorem dX1_thoseOver_30 : decode cX1_thoseOver 30 = .ok (.iconst 1, 1) := by decide +kernel
theorem dX1_thoseOver_31 : decode cX1_thoseOver 31 = .ok (.iload 5, 2) := by decide +kernel
theorem dX1_thoseOver_33 : decode cX1_thoseOver 33 = .ok (.ishl, 1) := by decide +kernel
theorem dX1_thoseOver_34 : decode cX1_thoseOver 34 = .ok (.ior, 1) := by decide +kernel
theorem dX1_thoseOver_35 : decode cX1_thoseOver 35 = .ok (.istore 4, 2) := by decide +kernel
theorem dX1_thoseOver_37 : decode cX1_thoseOver 37 = .ok (.iinc 5 1, 3) := by decide +kernel
theorem dX1_thoseOver_40 : decode cX1_thoseOver 40 = .ok (.goto (-34), 3) := by decide +kernel
theorem dX1_thoseOver_43 : decode cX1_thoseOver 43 = .ok (.iload 4, 2) := by decide +kernel
theorem dX1_thoseOver_45 : decode cX1_thoseOver 45 = .ok (.ireturn, 1) := by decide +kernel
theorem dX1_mostRounds_0 : decode cX1_mostRounds 0 = .ok (.iconst 0, 1) := by decide +kernel
theorem dX1_mostRounds_1 : decode cX1_mostRounds 1 = .ok (.istore_n 1, 1) := by decide +kernel
theorem dX1_mostRounds_2 : decode cX1_mostRounds 2 = .ok (.iconst 0, 1) := by decide +kernel
theorem dX1_mostRounds_3 : decode cX1_mostRounds 3 = .ok (.istore_n 2, 1) := by decide +kernel
theorem dX1_mostRounds_4 : decode cX1_mostRounds 4 = .ok (.iload_n 2, 1) := by decide +kernel
theorem dX1_mostRounds_5 : decode cX1_mostRounds 5 = .ok (.bipush 9, 2) := by decide +kernel
theorem dX1_mostRounds_7 : decode cX1_mostRounds 7 = .ok (.if_icmp .ge 20, 3) := by decide +kernel
theorem dX1_mostRounds_10 : decode cX1_mostRounds 10 = .ok (.iload_n 1, 1) := by decide +kernel
theorem dX1_mostRounds_11 : decode cX1_mostRounds 11 = .ok (.aload_n 0, 1) := by decide +kernel
theorem dX1_mostRounds_12 : decode cX1_mostRounds 12 = .ok (.getfield 20, 3) := by decide +kernel
theorem dX1_mostRounds_15 : decode cX1_mostRounds 15 = .ok (.iload_n 2, 1) := by decide +kernel
theorem dX1_mostRounds_16 : decode cX1_mostRounds 16 = .ok (.iaload, 1) := by decide +kernel
theorem dX1_mostRounds_17 : decode cX1_mostRounds 17 = .ok (.invokestatic 55, 3) := by decide +kernel
theorem dX1_mostRounds_20 : decode cX1_mostRounds 20 = .ok (.istore_n 1, 1) := by decide +kernel
theorem dX1_mostRounds_21 : decode cX1_mostRounds 21 = .ok (.iinc 2 1, 3) := by decide +kernel
theorem dX1_mostRounds_24 : decode cX1_mostRounds 24 = .ok (.goto (-20), 3) := by decide +kernel
theorem dX1_mostRounds_27 : decode cX1_mostRounds 27 = .ok (.iload_n 1, 1) := by decide +kernel
theorem dX1_mostRounds_28 : decode cX1_mostRounds 28 = .ok (.ireturn, 1) := by decide +kernel
theorem dX2_init_0 : decode cX2_init 0 = .ok (.aload_n 0, 1) := by decide +kernel
theorem dX2_init_1 : decode cX2_init 1 = .ok (.invokespecial 3, 3) := by decide +kernel
theorem dX2_init_4 : decode cX2_init 4 = .ok (.aload_n 0, 1) := by decide +kernel
theorem dX2_init_5 : decode cX2_init 5 = .ok (.iconst 5, 1) := by decide +kernel
theorem dX2_init_6 : decode cX2_init 6 = .ok (.bipush 10, 2) := by decide +kernel
theorem dX2_init_8 : decode cX2_init 8 = .ok (.multianewarray 9 2, 4) := by decide +kernel
theorem dX2_init_12 : decode cX2_init 12 = .ok (.putfield 11, 3) := by decide +kernel
theorem dX2_init_15 : decode cX2_init 15 = .ok (.aload_n 0, 1) := by decide +kernel
theorem dX2_init_16 : decode cX2_init 16 = .ok (.iconst 5, 1) := by decide +kernel
theorem dX2_init_17 : decode cX2_init 17 = .ok (.bipush 10, 2) := by decide +kernel
theorem dX2_init_19 : decode cX2_init 19 = .ok (.multianewarray 9 2, 4) := by decide +kernel
theorem dX2_init_23 : decode cX2_init 23 = .ok (.putfield 16, 3) := by decide +kernel
theorem dX2_init_26 : decode cX2_init 26 = .ok (.aload_n 0, 1) := by decide +kernel
theorem dX2_init_27 : decode cX2_init 27 = .ok (.iconst 5, 1) := by decide +kernel
theorem dX2_init_28 : decode cX2_init 28 = .ok (.newarray .int, 2) := by decide +kernel
theorem dX2_init_30 : decode cX2_init 30 = .ok (.putfield 19, 3) := by decide +kernel
theorem dX2_init_33 : decode cX2_init 33 = .ok (.return_, 1) := by decide +kernel
theorem dX2_beginAgain_0 : decode cX2_beginAgain 0 = .ok (.iconst 0, 1) := by decide +kernel
theorem dX2_beginAgain_1 : decode cX2_beginAgain 1 = .ok (.istore_n 1, 1) := by decide +kernel
theorem dX2_beginAgain_2 : decode cX2_beginAgain 2 = .ok (.iload_n 1, 1) := by decide +kernel
theorem dX2_beginAgain_3 : decode cX2_beginAgain 3 = .ok (.iconst 5, 1) := by decide +kernel
theorem dX2_beginAgain_4 : decode cX2_beginAgain 4 = .ok (.if_icmp .ge 61, 3) := by decide +kernel
theorem dX2_beginAgain_7 : decode cX2_beginAgain 7 = .ok (.iconst 0, 1) := by decide +kernel
theorem dX2_beginAgain_8 : decode cX2_beginAgain 8 = .ok (.istore_n 2, 1) := by decide +kernel
theorem dX2_beginAgain_9 : decode cX2_beginAgain 9 = .ok (.iload_n 2, 1) := by decide +kernel
theorem dX2_beginAgain_10 : decode cX2_beginAgain 10 = .ok (.bipush 10, 2) := by decide +kernel
theorem dX2_beginAgain_12 : decode cX2_beginAgain 12 = .ok (.if_icmp .ge 40, 3) := by decide +kernel
theorem dX2_beginAgain_15 : decode cX2_beginAgain 15 = .ok (.iload_n 2, 1) := by decide +kernel
theorem dX2_beginAgain_16 : decode cX2_beginAgain 16 = .ok (.bipush 9, 2) := by decide +kernel
theorem dX2_beginAgain_18 : decode cX2_beginAgain 18 = .ok (.if_icmp .ne 8, 3) := by decide +kernel
theorem dX2_beginAgain_21 : decode cX2_beginAgain 21 = .ok (.bipush 100, 2) := by decide +kernel
theorem dX2_beginAgain_23 : decode cX2_beginAgain 23 = .ok (.goto 4, 3) := by decide +kernel
theorem dX2_beginAgain_26 : decode cX2_beginAgain 26 = .ok (.iconst 0, 1) := by decide +kernel
theorem dX2_beginAgain_27 : decode cX2_beginAgain 27 = .ok (.istore_n 3, 1) := by decide +kernel
theorem dX2_beginAgain_28 : decode cX2_beginAgain 28 = .ok (.aload_n 0, 1) := by decide +kernel
theorem dX2_beginAgain_29 : decode cX2_beginAgain 29 = .ok (.getfield 11, 3) := by decide +kernel
theorem dX2_beginAgain_32 : decode cX2_beginAgain 32 = .ok (.iload_n 1, 1) := by decide +kernel
theorem dX2_beginAgain_33 : decode cX2_beginAgain 33 = .ok (.aaload, 1) := by decide +kernel
theorem dX2_beginAgain_34 : decode cX2_beginAgain 34 = .ok (.iload_n 2, 1) := by decide +kernel
theorem dX2_beginAgain_35 : decode cX2_beginAgain 35 = .ok (.iload_n 3, 1) := by decide +kernel
theorem dX2_beginAgain_36 : decode cX2_beginAgain 36 = .ok (.iastore, 1) := by decide +kernel
theorem dX2_beginAgain_37 : decode cX2_beginAgain 37 = .ok (.aload_n 0, 1) := by decide +kernel
theorem dX2_beginAgain_38 : decode cX2_beginAgain 38 = .ok (.getfield 16, 3) := by decide +kernel
theorem dX2_beginAgain_41 : decode cX2_beginAgain 41 = .ok (.iload_n 1, 1) := by decide +kernel
theorem dX2_beginAgain_42 : decode cX2_beginAgain 42 = .ok (.aaload, 1) := by decide +kernel
theorem dX2_beginAgain_43 : decode cX2_beginAgain 43 = .ok (.iload_n 2, 1) := by decide +kernel
theorem dX2_beginAgain_44 : decode cX2_beginAgain 44 = .ok (.iload_n 3, 1) := by decide +kernel
theorem dX2_beginAgain_45 : decode cX2_beginAgain 45 = .ok (.iastore, 1) := by decide +kernel
theorem dX2_beginAgain_46 : decode cX2_beginAgain 46 = .ok (.iinc 2 1, 3) := by decide +kernel
theorem dX2_beginAgain_49 : decode cX2_beginAgain 49 = .ok (.goto (-40), 3) := by decide +kernel
theorem dX2_beginAgain_52 : decode cX2_beginAgain 52 = .ok (.aload_n 0, 1) := by decide +kernel
theorem dX2_beginAgain_53 : decode cX2_beginAgain 53 = .ok (.getfield 19, 3) := by decide +kernel
theorem dX2_beginAgain_56 : decode cX2_beginAgain 56 = .ok (.iload_n 1, 1) := by decide +kernel
theorem dX2_beginAgain_57 : decode cX2_beginAgain 57 = .ok (.iconst 0, 1) := by decide +kernel
theorem dX2_beginAgain_58 : decode cX2_beginAgain 58 = .ok (.iastore, 1) := by decide +kernel
theorem dX2_beginAgain_59 : decode cX2_beginAgain 59 = .ok (.iinc 1 1, 3) := by decide +kernel
theorem dX2_beginAgain_62 : decode cX2_beginAgain 62 = .ok (.goto (-60), 3) := by decide +kernel
theorem dX2_beginAgain_65 : decode cX2_beginAgain 65 = .ok (.return_, 1) := by decide +kernel
theorem dX2_copyFrom_0 : decode cX2_copyFrom 0 = .ok (.iconst 0, 1) := by decide +kernel
theorem dX2_copyFrom_1 : decode cX2_copyFrom 1 = .ok (.istore_n 2, 1) := by decide +kernel
theorem dX2_copyFrom_2 : decode cX2_copyFrom 2 = .ok (.iload_n 2, 1) := by decide +kernel
theorem dX2_copyFrom_3 : decode cX2_copyFrom 3 = .ok (.iconst 5, 1) := by decide +kernel
theorem dX2_copyFrom_4 : decode cX2_copyFrom 4 = .ok (.if_icmp .ge 59, 3) := by decide +kernel
theorem dX2_copyFrom_7 : decode cX2_copyFrom 7 = .ok (.aload_n 1, 1) := by decide +kernel
theorem dX2_copyFrom_8 : decode cX2_copyFrom 8 = .ok (.getfield 11, 3) := by decide +kernel
theorem dX2_copyFrom_11 : decode cX2_copyFrom 11 = .ok (.iload_n 2, 1) := by decide +kernel
theorem dX2_copyFrom_12 : decode cX2_copyFrom 12 = .ok (.aaload, 1) := by decide +kernel
theorem dX2_copyFrom_13 : decode cX2_copyFrom 13 = .ok (.iconst 0, 1) := by decide +kernel
theorem dX2_copyFrom_14 : decode cX2_copyFrom 14 = .ok (.aload_n 0, 1) := by decide +kernel
theorem dX2_copyFrom_15 : decode cX2_copyFrom 15 = .ok (.getfield 11, 3) := by decide +kernel
theorem dX2_copyFrom_18 : decode cX2_copyFrom 18 = .ok (.iload_n 2, 1) := by decide +kernel
theorem dX2_copyFrom_19 : decode cX2_copyFrom 19 = .ok (.aaload, 1) := by decide +kernel
theorem dX2_copyFrom_20 : decode cX2_copyFrom 20 = .ok (.iconst 0, 1) := by decide +kernel
theorem dX2_copyFrom_21 : decode cX2_copyFrom 21 = .ok (.bipush 10, 2) := by decide +kernel
theorem dX2_copyFrom_23 : decode cX2_copyFrom 23 = .ok (.invokestatic 23, 3) := by decide +kernel
theorem dX2_copyFrom_26 : decode cX2_copyFrom 26 = .ok (.aload_n 1, 1) := by decide +kernel
theorem dX2_copyFrom_27 : decode cX2_copyFrom 27 = .ok (.getfield 16, 3) := by decide +kernel
theorem dX2_copyFrom_30 : decode cX2_copyFrom 30 = .ok (.iload_n 2, 1) := by decide +kernel
theorem dX2_copyFrom_31 : decode cX2_copyFrom 31 = .ok (.aaload, 1) := by decide +kernel
theorem dX2_copyFrom_32 : decode cX2_copyFrom 32 = .ok (.iconst 0, 1) := by decide +kernel
theorem dX2_copyFrom_33 : decode cX2_copyFrom 33 = .ok (.aload_n 0, 1) := by decide +kernel
theorem dX2_copyFrom_34 : decode cX2_copyFrom 34 = .ok (.getfield 16, 3) := by decide +kernel
theorem dX2_copyFrom_37 : decode cX2_copyFrom 37 = .ok (.iload_n 2, 1) := by decide +kernel
theorem dX2_copyFrom_38 : decode cX2_copyFrom 38 = .ok (.aaload, 1) := by decide +kernel
theorem dX2_copyFrom_39 : decode cX2_copyFrom 39 = .ok (.iconst 0, 1) := by decide +kernel
theorem dX2_copyFrom_40 : decode cX2_copyFrom 40 = .ok (.bipush 10, 2) := by decide +kernel
theorem dX2_copyFrom_42 : decode cX2_copyFrom 42 = .ok (.invokestatic 23, 3) := by decide +kernel
theorem dX2_copyFrom_45 : decode cX2_copyFrom 45 = .ok (.aload_n 0, 1) := by decide +kernel
theorem dX2_copyFrom_46 : decode cX2_copyFrom 46 = .ok (.getfield 19, 3) := by decide +kernel
theorem dX2_copyFrom_49 : decode cX2_copyFrom 49 = .ok (.iload_n 2, 1) := by decide +kernel
theorem dX2_copyFrom_50 : decode cX2_copyFrom 50 = .ok (.aload_n 1, 1) := by decide +kernel
theorem dX2_copyFrom_51 : decode cX2_copyFrom 51 = .ok (.getfield 19, 3) := by decide +kernel
theorem dX2_copyFrom_54 : decode cX2_copyFrom 54 = .ok (.iload_n 2, 1) := by decide +kernel
theorem dX2_copyFrom_55 : decode cX2_copyFrom 55 = .ok (.iaload, 1) := by decide +kernel
theorem dX2_copyFrom_56 : decode cX2_copyFrom 56 = .ok (.iastore, 1) := by decide +kernel
theorem dX2_copyFrom_57 : decode cX2_copyFrom 57 = .ok (.iinc 2 1, 3) := by decide +kernel
theorem dX2_copyFrom_60 : decode cX2_copyFrom 60 = .ok (.goto (-58), 3) := by decide +kernel
theorem dX2_copyFrom_63 : decode cX2_copyFrom 63 = .ok (.return_, 1) := by decide +kernel
theorem dX2_carryOut_0 : decode cX2_carryOut 0 = .ok (.aload_n 1, 1) := by decide +kernel
theorem dX2_carryOut_1 : decode cX2_carryOut 1 = .ok (.getfield 29, 3) := by decide +kernel
theorem dX2_carryOut_4 : decode cX2_carryOut 4 = .ok (.iload_n 2, 1) := by decide +kernel
theorem dX2_carryOut_5 : decode cX2_carryOut 5 = .ok (.iaload, 1) := by decide +kernel
theorem dX2_carryOut_6 : decode cX2_carryOut 6 = .ok (.istore_n 3, 1) := by decide +kernel
theorem dX2_carryOut_7 : decode cX2_carryOut 7 = .ok (.aload_n 1, 1) := by decide +kernel
theorem dX2_carryOut_8 : decode cX2_carryOut 8 = .ok (.getfield 34, 3) := by decide +kernel
theorem dX2_carryOut_11 : decode cX2_carryOut 11 = .ok (.iload_n 2, 1) := by decide +kernel
theorem dX2_carryOut_12 : decode cX2_carryOut 12 = .ok (.iaload, 1) := by decide +kernel
theorem dX2_carryOut_13 : decode cX2_carryOut 13 = .ok (.istore 4, 2) := by decide +kernel
theorem dX2_carryOut_15 : decode cX2_carryOut 15 = .ok (.aload_n 1, 1) := by decide +kernel
theorem dX2_carryOut_16 : decode cX2_carryOut 16 = .ok (.getfield 37, 3) := by decide +kernel
theorem dX2_carryOut_19 : decode cX2_carryOut 19 = .ok (.iload_n 2, 1) := by decide +kernel
theorem dX2_carryOut_20 : decode cX2_carryOut 20 = .ok (.iaload, 1) := by decide +kernel
theorem dX2_carryOut_21 : decode cX2_carryOut 21 = .ok (.tableswitch 90 0 2 #[27, 51, 75], 27) := by decide +kernel
theorem dX2_carryOut_48 : decode cX2_carryOut 48 = .ok (.aload_n 0, 1) := by decide +kernel
theorem dX2_carryOut_49 : decode cX2_carryOut 49 = .ok (.getfield 11, 3) := by decide +kernel
theorem dX2_carryOut_52 : decode cX2_carryOut 52 = .ok (.iload_n 3, 1) := by decide +kernel
theorem dX2_carryOut_53 : decode cX2_carryOut 53 = .ok (.aaload, 1) := by decide +kernel
theorem dX2_carryOut_54 : decode cX2_carryOut 54 = .ok (.aload_n 1, 1) := by decide +kernel
theorem dX2_carryOut_55 : decode cX2_carryOut 55 = .ok (.getfield 40, 3) := by decide +kernel
theorem dX2_carryOut_58 : decode cX2_carryOut 58 = .ok (.iload_n 2, 1) := by decide +kernel
theorem dX2_carryOut_59 : decode cX2_carryOut 59 = .ok (.iaload, 1) := by decide +kernel
theorem dX2_carryOut_60 : decode cX2_carryOut 60 = .ok (.iload 4, 2) := by decide +kernel
theorem dX2_carryOut_62 : decode cX2_carryOut 62 = .ok (.aload_n 1, 1) := by decide +kernel
theorem dX2_carryOut_63 : decode cX2_carryOut 63 = .ok (.getfield 43, 3) := by decide +kernel
theorem dX2_carryOut_66 : decode cX2_carryOut 66 = .ok (.iload_n 2, 1) := by decide +kernel
theorem dX2_carryOut_67 : decode cX2_carryOut 67 = .ok (.iaload, 1) := by decide +kernel
theorem dX2_carryOut_68 : decode cX2_carryOut 68 = .ok (.invokestatic 46, 3) := by decide +kernel
theorem dX2_carryOut_71 : decode cX2_carryOut 71 = .ok (.ireturn, 1) := by decide +kernel
theorem dX2_carryOut_72 : decode cX2_carryOut 72 = .ok (.aload_n 0, 1) := by decide +kernel
theorem dX2_carryOut_73 : decode cX2_carryOut 73 = .ok (.getfield 16, 3) := by decide +kernel
theorem dX2_carryOut_76 : decode cX2_carryOut 76 = .ok (.iload_n 3, 1) := by decide +kernel
theorem dX2_carryOut_77 : decode cX2_carryOut 77 = .ok (.aaload, 1) := by decide +kernel
theorem dX2_carryOut_78 : decode cX2_carryOut 78 = .ok (.aload_n 1, 1) := by decide +kernel
theorem dX2_carryOut_79 : decode cX2_carryOut 79 = .ok (.getfield 40, 3) := by decide +kernel
theorem dX2_carryOut_82 : decode cX2_carryOut 82 = .ok (.iload_n 2, 1) := by decide +kernel
theorem dX2_carryOut_83 : decode cX2_carryOut 83 = .ok (.iaload, 1) := by decide +kernel
theorem dX2_carryOut_84 : decode cX2_carryOut 84 = .ok (.iload 4, 2) := by decide +kernel
theorem dX2_carryOut_86 : decode cX2_carryOut 86 = .ok (.aload_n 1, 1) := by decide +kernel
theorem dX2_carryOut_87 : decode cX2_carryOut 87 = .ok (.getfield 43, 3) := by decide +kernel
theorem dX2_carryOut_90 : decode cX2_carryOut 90 = .ok (.iload_n 2, 1) := by decide +kernel
theorem dX2_carryOut_91 : decode cX2_carryOut 91 = .ok (.iaload, 1) := by decide +kernel
theorem dX2_carryOut_92 : decode cX2_carryOut 92 = .ok (.invokestatic 46, 3) := by decide +kernel
theorem dX2_carryOut_95 : decode cX2_carryOut 95 = .ok (.ireturn, 1) := by decide +kernel
theorem dX2_carryOut_96 : decode cX2_carryOut 96 = .ok (.aload_n 0, 1) := by decide +kernel
theorem dX2_carryOut_97 : decode cX2_carryOut 97 = .ok (.getfield 19, 3) := by decide +kernel
theorem dX2_carryOut_100 : decode cX2_carryOut 100 = .ok (.iload_n 3, 1) := by decide +kernel
theorem dX2_carryOut_101 : decode cX2_carryOut 101 = .ok (.dup2, 1) := by decide +kernel
theorem dX2_carryOut_102 : decode cX2_carryOut 102 = .ok (.iaload, 1) := by decide +kernel
theorem dX2_carryOut_103 : decode cX2_carryOut 103 = .ok (.iconst 1, 1) := by decide +kernel
theorem dX2_carryOut_104 : decode cX2_carryOut 104 = .ok (.iload 4, 2) := by decide +kernel
theorem dX2_carryOut_106 : decode cX2_carryOut 106 = .ok (.ishl, 1) := by decide +kernel
theorem dX2_carryOut_107 : decode cX2_carryOut 107 = .ok (.ior, 1) := by decide +kernel
theorem dX2_carryOut_108 : decode cX2_carryOut 108 = .ok (.iastore, 1) := by decide +kernel
theorem dX2_carryOut_109 : decode cX2_carryOut 109 = .ok (.iconst 1, 1) := by decide +kernel
theorem dX2_carryOut_110 : decode cX2_carryOut 110 = .ok (.ireturn, 1) := by decide +kernel
theorem dX2_carryOut_111 : decode cX2_carryOut 111 = .ok (.aload_n 0, 1) := by decide +kernel
theorem dX2_carryOut_112 : decode cX2_carryOut 112 = .ok (.getfield 19, 3) := by decide +kernel
theorem dX2_carryOut_115 : decode cX2_carryOut 115 = .ok (.iload_n 3, 1) := by decide +kernel
theorem dX2_carryOut_116 : decode cX2_carryOut 116 = .ok (.dup2, 1) := by decide +kernel
theorem dX2_carryOut_117 : decode cX2_carryOut 117 = .ok (.iaload, 1) := by decide +kernel
theorem dX2_carryOut_118 : decode cX2_carryOut 118 = .ok (.iconst 1, 1) := by decide +kernel
theorem dX2_carryOut_119 : decode cX2_carryOut 119 = .ok (.iload 4, 2) := by decide +kernel
theorem dX2_carryOut_121 : decode cX2_carryOut 121 = .ok (.ishl, 1) := by decide +kernel
theorem dX2_carryOut_122 : decode cX2_carryOut 122 = .ok (.iconst (-1), 1) := by decide +kernel
theorem dX2_carryOut_123 : decode cX2_carryOut 123 = .ok (.ixor, 1) := by decide +kernel
theorem dX2_carryOut_124 : decode cX2_carryOut 124 = .ok (.iand, 1) := by decide +kernel
theorem dX2_carryOut_125 : decode cX2_carryOut 125 = .ok (.iastore, 1) := by decide +kernel
theorem dX2_carryOut_126 : decode cX2_carryOut 126 = .ok (.iconst 1, 1) := by decide +kernel
theorem dX2_carryOut_127 : decode cX2_carryOut 127 = .ok (.ireturn, 1) := by decide +kernel
theorem dX2_move_0 : decode cX2_move 0 = .ok (.aload_n 0, 1) := by decide +kernel
theorem dX2_move_1 : decode cX2_move 1 = .ok (.iload_n 1, 1) := by decide +kernel
theorem dX2_move_2 : decode cX2_move 2 = .ok (.iaload, 1) := by decide +kernel
theorem dX2_move_3 : decode cX2_move 3 = .ok (.iload_n 3, 1) := by decide +kernel
theorem dX2_move_4 : decode cX2_move 4 = .ok (.if_icmp .ge 5, 3) := by decide +kernel
theorem dX2_move_7 : decode cX2_move 7 = .ok (.iconst 0, 1) := by decide +kernel
theorem dX2_move_8 : decode cX2_move 8 = .ok (.ireturn, 1) := by decide +kernel
theorem dX2_move_9 : decode cX2_move 9 = .ok (.aload_n 0, 1) := by decide +kernel
theorem dX2_move_10 : decode cX2_move 10 = .ok (.iload_n 1, 1) := by decide +kernel
theorem dX2_move_11 : decode cX2_move 11 = .ok (.dup2, 1) := by decide +kernel
theorem dX2_move_12 : decode cX2_move 12 = .ok (.iaload, 1) := by decide +kernel
theorem dX2_move_13 : decode cX2_move 13 = .ok (.iload_n 3, 1) := by decide +kernel
theorem dX2_move_14 : decode cX2_move 14 = .ok (.isub, 1) := by decide +kernel
theorem dX2_move_15 : decode cX2_move 15 = .ok (.iastore, 1) := by decide +kernel
theorem dX2_move_16 : decode cX2_move 16 = .ok (.aload_n 0, 1) := by decide +kernel
theorem dX2_move_17 : decode cX2_move 17 = .ok (.iload_n 2, 1) := by decide +kernel
theorem dX2_move_18 : decode cX2_move 18 = .ok (.dup2, 1) := by decide +kernel
theorem dX2_move_19 : decode cX2_move 19 = .ok (.iaload, 1) := by decide +kernel
theorem dX2_move_20 : decode cX2_move 20 = .ok (.iload_n 3, 1) := by decide +kernel
theorem dX2_move_21 : decode cX2_move 21 = .ok (.iadd, 1) := by decide +kernel
theorem dX2_move_22 : decode cX2_move 22 = .ok (.iastore, 1) := by decide +kernel
theorem dX2_move_23 : decode cX2_move 23 = .ok (.iconst 1, 1) := by decide +kernel
theorem dX2_move_24 : decode cX2_move 24 = .ok (.ireturn, 1) := by decide +kernel
theorem dX2_allies_0 : decode cX2_allies 0 = .ok (.iconst 1, 1) := by decide +kernel
theorem dX2_allies_1 : decode cX2_allies 1 = .ok (.iload_n 0, 1) := by decide +kernel
theorem dX2_allies_2 : decode cX2_allies 2 = .ok (.ishl, 1) := by decide +kernel
theorem dX2_allies_3 : decode cX2_allies 3 = .ok (.iload_n 1, 1) := by decide +kernel
theorem dX2_allies_4 : decode cX2_allies 4 = .ok (.iconst 4, 1) := by decide +kernel
theorem dX2_allies_5 : decode cX2_allies 5 = .ok (.ishl, 1) := by decide +kernel
theorem dX2_allies_6 : decode cX2_allies 6 = .ok (.ior, 1) := by decide +kernel
theorem dX2_allies_7 : decode cX2_allies 7 = .ok (.ireturn, 1) := by decide +kernel
theorem dX2_block_0 : decode cX2_block 0 = .ok (.iconst 0, 1) := by decide +kernel
theorem dX2_block_1 : decode cX2_block 1 = .ok (.istore_n 3, 1) := by decide +kernel
theorem dX2_block_2 : decode cX2_block 2 = .ok (.iconst 0, 1) := by decide +kernel
theorem dX2_block_3 : decode cX2_block 3 = .ok (.istore 4, 2) := by decide +kernel
theorem dX2_block_5 : decode cX2_block 5 = .ok (.iload 4, 2) := by decide +kernel
theorem dX2_block_7 : decode cX2_block 7 = .ok (.bipush 9, 2) := by decide +kernel
theorem dX2_block_9 : decode cX2_block 9 = .ok (.if_icmp .ge 30, 3) := by decide +kernel
theorem dX2_block_12 : decode cX2_block 12 = .ok (.iload_n 2, 1) := by decide +kernel
theorem dX2_block_13 : decode cX2_block 13 = .ok (.iconst 1, 1) := by decide +kernel
theorem dX2_block_14 : decode cX2_block 14 = .ok (.iload 4, 2) := by decide +kernel
theorem dX2_block_16 : decode cX2_block 16 = .ok (.ishl, 1) := by decide +kernel
theorem dX2_block_17 : decode cX2_block 17 = .ok (.iand, 1) := by decide +kernel
theorem dX2_block_18 : decode cX2_block 18 = .ok (.ifCond .eq 15, 3) := by decide +kernel
theorem dX2_block_21 : decode cX2_block 21 = .ok (.iload_n 3, 1) := by decide +kernel
theorem dX2_block_22 : decode cX2_block 22 = .ok (.aload_n 0, 1) := by decide +kernel
theorem dX2_block_23 : decode cX2_block 23 = .ok (.getfield 16, 3) := by decide +kernel
theorem dX2_block_26 : decode cX2_block 26 = .ok (.iload_n 1, 1) := by decide +kernel
theorem dX2_block_27 : decode cX2_block 27 = .ok (.aaload, 1) := by decide +kernel
theorem dX2_block_28 : decode cX2_block 28 = .ok (.iload 4, 2) := by decide +kernel
theorem dX2_block_30 : decode cX2_block 30 = .ok (.iaload, 1) := by decide +kernel
theorem dX2_block_31 : decode cX2_block 31 = .ok (.iadd, 1) := by decide +kernel
theorem dX2_block_32 : decode cX2_block 32 = .ok (.istore_n 3, 1) := by decide +kernel
theorem dX2_block_33 : decode cX2_block 33 = .ok (.iinc 4 1, 3) := by decide +kernel
theorem dX2_block_36 : decode cX2_block 36 = .ok (.goto (-31), 3) := by decide +kernel
theorem dX2_block_39 : decode cX2_block 39 = .ok (.iload_n 3, 1) := by decide +kernel
theorem dX2_block_40 : decode cX2_block 40 = .ok (.ireturn, 1) := by decide +kernel
theorem dX2_isMatched_0 : decode cX2_isMatched 0 = .ok (.iconst 0, 1) := by decide +kernel
theorem dX2_isMatched_1 : decode cX2_isMatched 1 = .ok (.istore 4, 2) := by decide +kernel
theorem dX2_isMatched_3 : decode cX2_isMatched 3 = .ok (.iload 4, 2) := by decide +kernel
theorem dX2_isMatched_5 : decode cX2_isMatched 5 = .ok (.bipush 9, 2) := by decide +kernel
theorem dX2_isMatched_7 : decode cX2_isMatched 7 = .ok (.if_icmp .ge 33, 3) := by decide +kernel
theorem dX2_isMatched_10 : decode cX2_isMatched 10 = .ok (.iload_n 2, 1) := by decide +kernel
theorem dX2_isMatched_11 : decode cX2_isMatched 11 = .ok (.iconst 1, 1) := by decide +kernel
theorem dX2_isMatched_12 : decode cX2_isMatched 12 = .ok (.iload 4, 2) := by decide +kernel
theorem dX2_isMatched_14 : decode cX2_isMatched 14 = .ok (.ishl, 1) := by decide +kernel
theorem dX2_isMatched_15 : decode cX2_isMatched 15 = .ok (.iand, 1) := by decide +kernel
theorem dX2_isMatched_16 : decode cX2_isMatched 16 = .ok (.ifCond .ne 18, 3) := by decide +kernel
theorem dX2_isMatched_19 : decode cX2_isMatched 19 = .ok (.aload_n 0, 1) := by decide +kernel
theorem dX2_isMatched_20 : decode cX2_isMatched 20 = .ok (.getfield 16, 3) := by decide +kernel
theorem dX2_isMatched_23 : decode cX2_isMatched 23 = .ok (.iload_n 1, 1) := by decide +kernel
theorem dX2_isMatched_24 : decode cX2_isMatched 24 = .ok (.aaload, 1) := by decide +kernel
theorem dX2_isMatched_25 : decode cX2_isMatched 25 = .ok (.iload 4, 2) := by decide +kernel
theorem dX2_isMatched_27 : decode cX2_isMatched 27 = .ok (.iaload, 1) := by decide +kernel
theorem dX2_isMatched_28 : decode cX2_isMatched 28 = .ok (.iload_n 3, 1) := by decide +kernel
theorem dX2_isMatched_29 : decode cX2_isMatched 29 = .ok (.if_icmp .lt 5, 3) := by decide +kernel
theorem dX2_isMatched_32 : decode cX2_isMatched 32 = .ok (.iconst 1, 1) := by decide +kernel
theorem dX2_isMatched_33 : decode cX2_isMatched 33 = .ok (.ireturn, 1) := by decide +kernel
theorem dX2_isMatched_34 : decode cX2_isMatched 34 = .ok (.iinc 4 1, 3) := by decide +kernel
theorem dX2_isMatched_37 : decode cX2_isMatched 37 = .ok (.goto (-34), 3) := by decide +kernel
theorem dX2_isMatched_40 : decode cX2_isMatched 40 = .ok (.iconst 0, 1) := by decide +kernel
theorem dX2_isMatched_41 : decode cX2_isMatched 41 = .ok (.ireturn, 1) := by decide +kernel
theorem dX2_falls_0 : decode cX2_falls 0 = .ok (.iload_n 2, 1) := by decide +kernel
theorem dX2_falls_1 : decode cX2_falls 1 = .ok (.iload_n 3, 1) := by decide +kernel
theorem dX2_falls_2 : decode cX2_falls 2 = .ok (.invokestatic 50, 3) := by decide +kernel
theorem dX2_falls_5 : decode cX2_falls 5 = .ok (.istore 5, 2) := by decide +kernel
theorem dX2_falls_7 : decode cX2_falls 7 = .ok (.aload_n 0, 1) := by decide +kernel
theorem dX2_falls_8 : decode cX2_falls 8 = .ok (.getfield 19, 3) := by decide +kernel
theorem dX2_falls_11 : decode cX2_falls 11 = .ok (.iload_n 1, 1) := by decide +kernel
theorem dX2_falls_12 : decode cX2_falls 12 = .ok (.iaload, 1) := by decide +kernel
theorem dX2_falls_13 : decode cX2_falls 13 = .ok (.iload 5, 2) := by decide +kernel
theorem dX2_falls_15 : decode cX2_falls 15 = .ok (.iconst (-1), 1) := by decide +kernel
theorem dX2_falls_16 : decode cX2_falls 16 = .ok (.ixor, 1) := by decide +kernel
theorem dX2_falls_17 : decode cX2_falls 17 = .ok (.iand, 1) := by decide +kernel
theorem dX2_falls_18 : decode cX2_falls 18 = .ok (.ifCond .eq 5, 3) := by decide +kernel
theorem dX2_falls_21 : decode cX2_falls 21 = .ok (.iconst 0, 1) := by decide +kernel
theorem dX2_falls_22 : decode cX2_falls 22 = .ok (.ireturn, 1) := by decide +kernel
theorem dX2_falls_23 : decode cX2_falls 23 = .ok (.aload_n 0, 1) := by decide +kernel
theorem dX2_falls_24 : decode cX2_falls 24 = .ok (.iload_n 1, 1) := by decide +kernel
theorem dX2_falls_25 : decode cX2_falls 25 = .ok (.iload 5, 2) := by decide +kernel
theorem dX2_falls_27 : decode cX2_falls 27 = .ok (.invokevirtual 54, 3) := by decide +kernel
theorem dX2_falls_30 : decode cX2_falls 30 = .ok (.istore 6, 2) := by decide +kernel
theorem dX2_falls_32 : decode cX2_falls 32 = .ok (.iload 6, 2) := by decide +kernel
theorem dX2_falls_34 : decode cX2_falls 34 = .ok (.aload 4, 2) := by decide +kernel
theorem dX2_falls_36 : decode cX2_falls 36 = .ok (.getfield 57, 3) := by decide +kernel
theorem dX2_falls_39 : decode cX2_falls 39 = .ok (.if_icmp .le 5, 3) := by decide +kernel
theorem dX2_falls_42 : decode cX2_falls 42 = .ok (.iconst 1, 1) := by decide +kernel
theorem dX2_falls_43 : decode cX2_falls 43 = .ok (.ireturn, 1) := by decide +kernel
theorem dX2_falls_44 : decode cX2_falls 44 = .ok (.iload 6, 2) := by decide +kernel
theorem dX2_falls_46 : decode cX2_falls 46 = .ok (.aload 4, 2) := by decide +kernel
theorem dX2_falls_48 : decode cX2_falls 48 = .ok (.getfield 61, 3) := by decide +kernel
theorem dX2_falls_51 : decode cX2_falls 51 = .ok (.if_icmp .lt 19, 3) := by decide +kernel
theorem dX2_falls_54 : decode cX2_falls 54 = .ok (.aload_n 0, 1) := by decide +kernel
theorem dX2_falls_55 : decode cX2_falls 55 = .ok (.iload_n 1, 1) := by decide +kernel
theorem dX2_falls_56 : decode cX2_falls 56 = .ok (.iload 5, 2) := by decide +kernel
theorem dX2_falls_58 : decode cX2_falls 58 = .ok (.iload 6, 2) := by decide +kernel
theorem dX2_falls_60 : decode cX2_falls 60 = .ok (.invokevirtual 64, 3) := by decide +kernel
theorem dX2_falls_63 : decode cX2_falls 63 = .ok (.ifCond .ne 7, 3) := by decide +kernel
theorem dX2_falls_66 : decode cX2_falls 66 = .ok (.iconst 1, 1) := by decide +kernel
theorem dX2_falls_67 : decode cX2_falls 67 = .ok (.goto 4, 3) := by decide +kernel
theorem dX2_falls_70 : decode cX2_falls 70 = .ok (.iconst 0, 1) := by decide +kernel
theorem dX2_falls_71 : decode cX2_falls 71 = .ok (.ireturn, 1) := by decide +kernel
theorem dX2_sharesHeldBy_0 : decode cX2_sharesHeldBy 0 = .ok (.iconst 0, 1) := by decide +kernel
theorem dX2_sharesHeldBy_1 : decode cX2_sharesHeldBy 1 = .ok (.istore_n 3, 1) := by decide +kernel
theorem dX2_sharesHeldBy_2 : decode cX2_sharesHeldBy 2 = .ok (.iconst 0, 1) := by decide +kernel
theorem dX2_sharesHeldBy_3 : decode cX2_sharesHeldBy 3 = .ok (.istore 4, 2) := by decide +kernel
theorem dX2_sharesHeldBy_5 : decode cX2_sharesHeldBy 5 = .ok (.iload 4, 2) := by decide +kernel
theorem dX2_sharesHeldBy_7 : decode cX2_sharesHeldBy 7 = .ok (.iconst 5, 1) := by decide +kernel
theorem dX2_sharesHeldBy_8 : decode cX2_sharesHeldBy 8 = .ok (.if_icmp .ge 33, 3) := by decide +kernel
theorem dX2_sharesHeldBy_11 : decode cX2_sharesHeldBy 11 = .ok (.iload_n 2, 1) := by decide +kernel
theorem dX2_sharesHeldBy_12 : decode cX2_sharesHeldBy 12 = .ok (.iload 4, 2) := by decide +kernel
theorem dX2_sharesHeldBy_14 : decode cX2_sharesHeldBy 14 = .ok (.invokestatic 68, 3) := by decide +kernel
theorem dX2_sharesHeldBy_17 : decode cX2_sharesHeldBy 17 = .ok (.ifCond .eq 18, 3) := by decide +kernel
theorem dX2_sharesHeldBy_20 : decode cX2_sharesHeldBy 20 = .ok (.iload_n 3, 1) := by decide +kernel
theorem dX2_sharesHeldBy_21 : decode cX2_sharesHeldBy 21 = .ok (.aload_n 0, 1) := by decide +kernel
theorem dX2_sharesHeldBy_22 : decode cX2_sharesHeldBy 22 = .ok (.getfield 11, 3) := by decide +kernel
theorem dX2_sharesHeldBy_25 : decode cX2_sharesHeldBy 25 = .ok (.iload_n 1, 1) := by decide +kernel
theorem dX2_sharesHeldBy_26 : decode cX2_sharesHeldBy 26 = .ok (.aaload, 1) := by decide +kernel
theorem dX2_sharesHeldBy_27 : decode cX2_sharesHeldBy 27 = .ok (.iload 4, 2) := by decide +kernel
theorem dX2_sharesHeldBy_29 : decode cX2_sharesHeldBy 29 = .ok (.invokestatic 72, 3) := by decide +kernel
theorem dX2_sharesHeldBy_32 : decode cX2_sharesHeldBy 32 = .ok (.iaload, 1) := by decide +kernel
theorem dX2_sharesHeldBy_33 : decode cX2_sharesHeldBy 33 = .ok (.iadd, 1) := by decide +kernel
theorem dX2_sharesHeldBy_34 : decode cX2_sharesHeldBy 34 = .ok (.istore_n 3, 1) := by decide +kernel
theorem dX2_sharesHeldBy_35 : decode cX2_sharesHeldBy 35 = .ok (.iinc 4 1, 3) := by decide +kernel
theorem dX2_sharesHeldBy_38 : decode cX2_sharesHeldBy 38 = .ok (.goto (-33), 3) := by decide +kernel
theorem dX2_sharesHeldBy_41 : decode cX2_sharesHeldBy 41 = .ok (.iload_n 3, 1) := by decide +kernel
theorem dX2_sharesHeldBy_42 : decode cX2_sharesHeldBy 42 = .ok (.ireturn, 1) := by decide +kernel
theorem dX3_init_0 : decode cX3_init 0 = .ok (.aload_n 0, 1) := by decide +kernel
theorem dX3_init_1 : decode cX3_init 1 = .ok (.invokespecial 3, 3) := by decide +kernel
theorem dX3_init_4 : decode cX3_init 4 = .ok (.aload_n 0, 1) := by decide +kernel
theorem dX3_init_5 : decode cX3_init 5 = .ok (.iconst 5, 1) := by decide +kernel
theorem dX3_init_6 : decode cX3_init 6 = .ok (.newarray .int, 2) := by decide +kernel
theorem dX3_init_8 : decode cX3_init 8 = .ok (.putfield 9, 3) := by decide +kernel
theorem dX3_init_11 : decode cX3_init 11 = .ok (.return_, 1) := by decide +kernel
theorem dX3_workOut_0 : decode cX3_workOut 0 = .ok (.iconst 0, 1) := by decide +kernel
theorem dX3_workOut_1 : decode cX3_workOut 1 = .ok (.istore_n 2, 1) := by decide +kernel
theorem dX3_workOut_2 : decode cX3_workOut 2 = .ok (.iload_n 2, 1) := by decide +kernel
theorem dX3_workOut_3 : decode cX3_workOut 3 = .ok (.iconst 5, 1) := by decide +kernel
theorem dX3_workOut_4 : decode cX3_workOut 4 = .ok (.if_icmp .ge 20, 3) := by decide +kernel
theorem dX3_workOut_7 : decode cX3_workOut 7 = .ok (.aload_n 0, 1) := by decide +kernel
theorem dX3_workOut_8 : decode cX3_workOut 8 = .ok (.getfield 9, 3) := by decide +kernel
theorem dX3_workOut_11 : decode cX3_workOut 11 = .ok (.iload_n 2, 1) := by decide +kernel
theorem dX3_workOut_12 : decode cX3_workOut 12 = .ok (.aload_n 1, 1) := by decide +kernel
theorem dX3_workOut_13 : decode cX3_workOut 13 = .ok (.iload_n 2, 1) := by decide +kernel
theorem dX3_workOut_14 : decode cX3_workOut 14 = .ok (.invokestatic 15, 3) := by decide +kernel
theorem dX3_workOut_17 : decode cX3_workOut 17 = .ok (.iastore, 1) := by decide +kernel
theorem dX3_workOut_18 : decode cX3_workOut 18 = .ok (.iinc 2 1, 3) := by decide +kernel
theorem dX3_workOut_21 : decode cX3_workOut 21 = .ok (.goto (-19), 3) := by decide +kernel
theorem dX3_workOut_24 : decode cX3_workOut 24 = .ok (.iconst 0, 1) := by decide +kernel
theorem dX3_workOut_25 : decode cX3_workOut 25 = .ok (.istore_n 2, 1) := by decide +kernel
theorem dX3_workOut_26 : decode cX3_workOut 26 = .ok (.iload_n 2, 1) := by decide +kernel
theorem dX3_workOut_27 : decode cX3_workOut 27 = .ok (.iconst 5, 1) := by decide +kernel
theorem dX3_workOut_28 : decode cX3_workOut 28 = .ok (.if_icmp .ge 50, 3) := by decide +kernel
theorem dX3_workOut_31 : decode cX3_workOut 31 = .ok (.iconst 0, 1) := by decide +kernel
theorem dX3_workOut_32 : decode cX3_workOut 32 = .ok (.istore_n 3, 1) := by decide +kernel
theorem dX3_workOut_33 : decode cX3_workOut 33 = .ok (.iload_n 3, 1) := by decide +kernel
theorem dX3_workOut_34 : decode cX3_workOut 34 = .ok (.iconst 5, 1) := by decide +kernel
theorem dX3_workOut_35 : decode cX3_workOut 35 = .ok (.if_icmp .ge 37, 3) := by decide +kernel
theorem dX3_workOut_38 : decode cX3_workOut 38 = .ok (.aload_n 0, 1) := by decide +kernel
theorem dX3_workOut_39 : decode cX3_workOut 39 = .ok (.getfield 9, 3) := by decide +kernel
theorem dX3_workOut_42 : decode cX3_workOut 42 = .ok (.iload_n 3, 1) := by decide +kernel
theorem dX3_workOut_43 : decode cX3_workOut 43 = .ok (.iaload, 1) := by decide +kernel
theorem dX3_workOut_44 : decode cX3_workOut 44 = .ok (.iload_n 2, 1) := by decide +kernel
theorem dX3_workOut_45 : decode cX3_workOut 45 = .ok (.invokestatic 19, 3) := by decide +kernel
theorem dX3_workOut_48 : decode cX3_workOut 48 = .ok (.ifCond .eq 18, 3) := by decide +kernel
theorem dX3_workOut_51 : decode cX3_workOut 51 = .ok (.aload_n 0, 1) := by decide +kernel
theorem dX3_workOut_52 : decode cX3_workOut 52 = .ok (.getfield 9, 3) := by decide +kernel
theorem dX3_workOut_55 : decode cX3_workOut 55 = .ok (.iload_n 3, 1) := by decide +kernel
theorem dX3_workOut_56 : decode cX3_workOut 56 = .ok (.dup2, 1) := by decide +kernel
theorem dX3_workOut_57 : decode cX3_workOut 57 = .ok (.iaload, 1) := by decide +kernel
theorem dX3_workOut_58 : decode cX3_workOut 58 = .ok (.aload_n 0, 1) := by decide +kernel
theorem dX3_workOut_59 : decode cX3_workOut 59 = .ok (.getfield 9, 3) := by decide +kernel
theorem dX3_workOut_62 : decode cX3_workOut 62 = .ok (.iload_n 2, 1) := by decide +kernel
theorem dX3_workOut_63 : decode cX3_workOut 63 = .ok (.iaload, 1) := by decide +kernel
theorem dX3_workOut_64 : decode cX3_workOut 64 = .ok (.ior, 1) := by decide +kernel
theorem dX3_workOut_65 : decode cX3_workOut 65 = .ok (.iastore, 1) := by decide +kernel
theorem dX3_workOut_66 : decode cX3_workOut 66 = .ok (.iinc 3 1, 3) := by decide +kernel
theorem dX3_workOut_69 : decode cX3_workOut 69 = .ok (.goto (-36), 3) := by decide +kernel
theorem dX3_workOut_72 : decode cX3_workOut 72 = .ok (.iinc 2 1, 3) := by decide +kernel
theorem dX3_workOut_75 : decode cX3_workOut 75 = .ok (.goto (-49), 3) := by decide +kernel
theorem dX3_workOut_78 : decode cX3_workOut 78 = .ok (.return_, 1) := by decide +kernel
theorem dX3_firmsWithShareOf_0 : decode cX3_firmsWithShareOf 0 = .ok (.iconst 0, 1) := by decide +kernel
theorem dX3_firmsWithShareOf_1 : decode cX3_firmsWithShareOf 1 = .ok (.istore_n 2, 1) := by decide +kernel
theorem dX3_firmsWithShareOf_2 : decode cX3_firmsWithShareOf 2 = .ok (.iconst 0, 1) := by decide +kernel
theorem dX3_firmsWithShareOf_3 : decode cX3_firmsWithShareOf 3 = .ok (.istore_n 3, 1) := by decide +kernel
theorem dX3_firmsWithShareOf_4 : decode cX3_firmsWithShareOf 4 = .ok (.iload_n 3, 1) := by decide +kernel
theorem dX3_firmsWithShareOf_5 : decode cX3_firmsWithShareOf 5 = .ok (.iconst 5, 1) := by decide +kernel
theorem dX3_firmsWithShareOf_6 : decode cX3_firmsWithShareOf 6 = .ok (.if_icmp .ge 29, 3) := by decide +kernel
theorem dX3_firmsWithShareOf_9 : decode cX3_firmsWithShareOf 9 = .ok (.aload_n 0, 1) := by decide +kernel
theorem dX3_firmsWithShareOf_10 : decode cX3_firmsWithShareOf 10 = .ok (.getfield 23, 3) := by decide +kernel
theorem dX3_firmsWithShareOf_13 : decode cX3_firmsWithShareOf 13 = .ok (.iload_n 3, 1) := by decide +kernel
theorem dX3_firmsWithShareOf_14 : decode cX3_firmsWithShareOf 14 = .ok (.aaload, 1) := by decide +kernel
theorem dX3_firmsWithShareOf_15 : decode cX3_firmsWithShareOf 15 = .ok (.iload_n 1, 1) := by decide +kernel
theorem dX3_firmsWithShareOf_16 : decode cX3_firmsWithShareOf 16 = .ok (.invokestatic 29, 3) := by decide +kernel
theorem dX3_firmsWithShareOf_19 : decode cX3_firmsWithShareOf 19 = .ok (.iaload, 1) := by decide +kernel
theorem dX3_firmsWithShareOf_20 : decode cX3_firmsWithShareOf 20 = .ok (.ifCond .le 9, 3) := by decide +kernel
theorem dX3_firmsWithShareOf_23 : decode cX3_firmsWithShareOf 23 = .ok (.iload_n 2, 1) := by decide +kernel
theorem dX3_firmsWithShareOf_24 : decode cX3_firmsWithShareOf 24 = .ok (.iconst 1, 1) := by decide +kernel
theorem dX3_firmsWithShareOf_25 : decode cX3_firmsWithShareOf 25 = .ok (.iload_n 3, 1) := by decide +kernel
theorem dX3_firmsWithShareOf_26 : decode cX3_firmsWithShareOf 26 = .ok (.ishl, 1) := by decide +kernel
theorem dX3_firmsWithShareOf_27 : decode cX3_firmsWithShareOf 27 = .ok (.ior, 1) := by decide +kernel
theorem dX3_firmsWithShareOf_28 : decode cX3_firmsWithShareOf 28 = .ok (.istore_n 2, 1) := by decide +kernel
theorem dX3_firmsWithShareOf_29 : decode cX3_firmsWithShareOf 29 = .ok (.iinc 3 1, 3) := by decide +kernel
theorem dX3_firmsWithShareOf_32 : decode cX3_firmsWithShareOf 32 = .ok (.goto (-28), 3) := by decide +kernel
theorem dX3_firmsWithShareOf_35 : decode cX3_firmsWithShareOf 35 = .ok (.iload_n 2, 1) := by decide +kernel
theorem dX3_firmsWithShareOf_36 : decode cX3_firmsWithShareOf 36 = .ok (.ireturn, 1) := by decide +kernel
theorem dX3_circleOf_0 : decode cX3_circleOf 0 = .ok (.iconst 0, 1) := by decide +kernel
theorem dX3_circleOf_1 : decode cX3_circleOf 1 = .ok (.istore_n 2, 1) := by decide +kernel
theorem dX3_circleOf_2 : decode cX3_circleOf 2 = .ok (.iconst 0, 1) := by decide +kernel
theorem dX3_circleOf_3 : decode cX3_circleOf 3 = .ok (.istore_n 3, 1) := by decide +kernel
theorem dX3_circleOf_4 : decode cX3_circleOf 4 = .ok (.iload_n 3, 1) := by decide +kernel
theorem dX3_circleOf_5 : decode cX3_circleOf 5 = .ok (.iconst 5, 1) := by decide +kernel
theorem dX3_circleOf_6 : decode cX3_circleOf 6 = .ok (.if_icmp .ge 41, 3) := by decide +kernel
theorem dX3_circleOf_9 : decode cX3_circleOf 9 = .ok (.aload_n 0, 1) := by decide +kernel
theorem dX3_circleOf_10 : decode cX3_circleOf 10 = .ok (.getfield 9, 3) := by decide +kernel
theorem dX3_circleOf_13 : decode cX3_circleOf 13 = .ok (.iload_n 1, 1) := by decide +kernel
theorem dX3_circleOf_14 : decode cX3_circleOf 14 = .ok (.iaload, 1) := by decide +kernel
theorem dX3_circleOf_15 : decode cX3_circleOf 15 = .ok (.iload_n 3, 1) := by decide +kernel
theorem dX3_circleOf_16 : decode cX3_circleOf 16 = .ok (.invokestatic 19, 3) := by decide +kernel
theorem dX3_circleOf_19 : decode cX3_circleOf 19 = .ok (.ifCond .eq 22, 3) := by decide +kernel
theorem dX3_circleOf_22 : decode cX3_circleOf 22 = .ok (.aload_n 0, 1) := by decide +kernel
theorem dX3_circleOf_23 : decode cX3_circleOf 23 = .ok (.getfield 9, 3) := by decide +kernel
theorem dX3_circleOf_26 : decode cX3_circleOf 26 = .ok (.iload_n 3, 1) := by decide +kernel
theorem dX3_circleOf_27 : decode cX3_circleOf 27 = .ok (.iaload, 1) := by decide +kernel
theorem dX3_circleOf_28 : decode cX3_circleOf 28 = .ok (.iload_n 1, 1) := by decide +kernel
theorem dX3_circleOf_29 : decode cX3_circleOf 29 = .ok (.invokestatic 19, 3) := by decide +kernel
theorem dX3_circleOf_32 : decode cX3_circleOf 32 = .ok (.ifCond .eq 9, 3) := by decide +kernel
theorem dX3_circleOf_35 : decode cX3_circleOf 35 = .ok (.iload_n 2, 1) := by decide +kernel
theorem dX3_circleOf_36 : decode cX3_circleOf 36 = .ok (.iconst 1, 1) := by decide +kernel
theorem dX3_circleOf_37 : decode cX3_circleOf 37 = .ok (.iload_n 3, 1) := by decide +kernel
theorem dX3_circleOf_38 : decode cX3_circleOf 38 = .ok (.ishl, 1) := by decide +kernel
theorem dX3_circleOf_39 : decode cX3_circleOf 39 = .ok (.ior, 1) := by decide +kernel
theorem dX3_circleOf_40 : decode cX3_circleOf 40 = .ok (.istore_n 2, 1) := by decide +kernel
theorem dX3_circleOf_41 : decode cX3_circleOf 41 = .ok (.iinc 3 1, 3) := by decide +kernel
theorem dX3_circleOf_44 : decode cX3_circleOf 44 = .ok (.goto (-40), 3) := by decide +kernel
theorem dX3_circleOf_47 : decode cX3_circleOf 47 = .ok (.iload_n 2, 1) := by decide +kernel
theorem dX3_circleOf_48 : decode cX3_circleOf 48 = .ok (.ireturn, 1) := by decide +kernel
end
section
theorem dX4_init_0 : decode cX4_init 0 = .ok (.aload_n 0, 1) := by decide +kernel
theorem dX4_init_1 : decode cX4_init 1 = .ok (.invokespecial 3, 3) := by decide +kernel
theorem dX4_init_4 : decode cX4_init 4 = .ok (.aload_n 0, 1) := by decide +kernel
theorem dX4_init_5 : decode cX4_init 5 = .ok (.iconst 5, 1) := by decide +kernel
theorem dX4_init_6 : decode cX4_init 6 = .ok (.bipush 10, 2) := by decide +kernel
theorem dX4_init_8 : decode cX4_init 8 = .ok (.multianewarray 11 2, 4) := by decide +kernel
theorem dX4_init_12 : decode cX4_init 12 = .ok (.putfield 13, 3) := by decide +kernel
theorem dX4_init_15 : decode cX4_init 15 = .ok (.return_, 1) := by decide +kernel
theorem dX4_workOut_0 : decode cX4_workOut 0 = .ok (.aload_n 0, 1) := by decide +kernel
theorem dX4_workOut_1 : decode cX4_workOut 1 = .ok (.aload_n 1, 1) := by decide +kernel
theorem dX4_workOut_2 : decode cX4_workOut 2 = .ok (.invokestatic 16, 3) := by decide +kernel
theorem dX4_workOut_5 : decode cX4_workOut 5 = .ok (.putfield 20, 3) := by decide +kernel
theorem dX4_workOut_8 : decode cX4_workOut 8 = .ok (.iconst 0, 1) := by decide +kernel
theorem dX4_workOut_9 : decode cX4_workOut 9 = .ok (.istore_n 2, 1) := by decide +kernel
theorem dX4_workOut_10 : decode cX4_workOut 10 = .ok (.iload_n 2, 1) := by decide +kernel
theorem dX4_workOut_11 : decode cX4_workOut 11 = .ok (.iconst 5, 1) := by decide +kernel
theorem dX4_workOut_12 : decode cX4_workOut 12 = .ok (.if_icmp .ge 15, 3) := by decide +kernel
theorem dX4_workOut_15 : decode cX4_workOut 15 = .ok (.aload_n 0, 1) := by decide +kernel
theorem dX4_workOut_16 : decode cX4_workOut 16 = .ok (.aload_n 1, 1) := by decide +kernel
theorem dX4_workOut_17 : decode cX4_workOut 17 = .ok (.iload_n 2, 1) := by decide +kernel
theorem dX4_workOut_18 : decode cX4_workOut 18 = .ok (.invokevirtual 24, 3) := by decide +kernel
theorem dX4_workOut_21 : decode cX4_workOut 21 = .ok (.iinc 2 1, 3) := by decide +kernel
theorem dX4_workOut_24 : decode cX4_workOut 24 = .ok (.goto (-14), 3) := by decide +kernel
theorem dX4_workOut_27 : decode cX4_workOut 27 = .ok (.aload_n 0, 1) := by decide +kernel
theorem dX4_workOut_28 : decode cX4_workOut 28 = .ok (.invokevirtual 28, 3) := by decide +kernel
theorem dX4_workOut_31 : decode cX4_workOut 31 = .ok (.return_, 1) := by decide +kernel
theorem dX4_lockedFirms_0 : decode cX4_lockedFirms 0 = .ok (.bipush 31, 2) := by decide +kernel
theorem dX4_lockedFirms_2 : decode cX4_lockedFirms 2 = .ok (.istore_n 1, 1) := by decide +kernel
theorem dX4_lockedFirms_3 : decode cX4_lockedFirms 3 = .ok (.iconst 0, 1) := by decide +kernel
theorem dX4_lockedFirms_4 : decode cX4_lockedFirms 4 = .ok (.istore_n 2, 1) := by decide +kernel
theorem dX4_lockedFirms_5 : decode cX4_lockedFirms 5 = .ok (.iload_n 2, 1) := by decide +kernel
theorem dX4_lockedFirms_6 : decode cX4_lockedFirms 6 = .ok (.iconst 5, 1) := by decide +kernel
theorem dX4_lockedFirms_7 : decode cX4_lockedFirms 7 = .ok (.if_icmp .ge 49, 3) := by decide +kernel
theorem dX4_lockedFirms_10 : decode cX4_lockedFirms 10 = .ok (.iconst 0, 1) := by decide +kernel
theorem dX4_lockedFirms_11 : decode cX4_lockedFirms 11 = .ok (.istore_n 3, 1) := by decide +kernel
theorem dX4_lockedFirms_12 : decode cX4_lockedFirms 12 = .ok (.iload_n 3, 1) := by decide +kernel
theorem dX4_lockedFirms_13 : decode cX4_lockedFirms 13 = .ok (.iconst 5, 1) := by decide +kernel
theorem dX4_lockedFirms_14 : decode cX4_lockedFirms 14 = .ok (.if_icmp .ge 36, 3) := by decide +kernel
theorem dX4_lockedFirms_17 : decode cX4_lockedFirms 17 = .ok (.iload_n 1, 1) := by decide +kernel
theorem dX4_lockedFirms_18 : decode cX4_lockedFirms 18 = .ok (.iload_n 3, 1) := by decide +kernel
theorem dX4_lockedFirms_19 : decode cX4_lockedFirms 19 = .ok (.invokestatic 31, 3) := by decide +kernel
theorem dX4_lockedFirms_22 : decode cX4_lockedFirms 22 = .ok (.ifCond .eq 22, 3) := by decide +kernel
theorem dX4_lockedFirms_25 : decode cX4_lockedFirms 25 = .ok (.aload_n 0, 1) := by decide +kernel
theorem dX4_lockedFirms_26 : decode cX4_lockedFirms 26 = .ok (.iload_n 3, 1) := by decide +kernel
theorem dX4_lockedFirms_27 : decode cX4_lockedFirms 27 = .ok (.iload_n 1, 1) := by decide +kernel
theorem dX4_lockedFirms_28 : decode cX4_lockedFirms 28 = .ok (.invokevirtual 35, 3) := by decide +kernel
theorem dX4_lockedFirms_31 : decode cX4_lockedFirms 31 = .ok (.bipush 100, 2) := by decide +kernel
theorem dX4_lockedFirms_33 : decode cX4_lockedFirms 33 = .ok (.if_icmp .ge 11, 3) := by decide +kernel
theorem dX4_lockedFirms_36 : decode cX4_lockedFirms 36 = .ok (.iload_n 1, 1) := by decide +kernel
theorem dX4_lockedFirms_37 : decode cX4_lockedFirms 37 = .ok (.iconst 1, 1) := by decide +kernel
theorem dX4_lockedFirms_38 : decode cX4_lockedFirms 38 = .ok (.iload_n 3, 1) := by decide +kernel
theorem dX4_lockedFirms_39 : decode cX4_lockedFirms 39 = .ok (.ishl, 1) := by decide +kernel
theorem dX4_lockedFirms_40 : decode cX4_lockedFirms 40 = .ok (.iconst (-1), 1) := by decide +kernel
theorem dX4_lockedFirms_41 : decode cX4_lockedFirms 41 = .ok (.ixor, 1) := by decide +kernel
theorem dX4_lockedFirms_42 : decode cX4_lockedFirms 42 = .ok (.iand, 1) := by decide +kernel
theorem dX4_lockedFirms_43 : decode cX4_lockedFirms 43 = .ok (.istore_n 1, 1) := by decide +kernel
theorem dX4_lockedFirms_44 : decode cX4_lockedFirms 44 = .ok (.iinc 3 1, 3) := by decide +kernel
theorem dX4_lockedFirms_47 : decode cX4_lockedFirms 47 = .ok (.goto (-35), 3) := by decide +kernel
theorem dX4_lockedFirms_50 : decode cX4_lockedFirms 50 = .ok (.iinc 2 1, 3) := by decide +kernel
theorem dX4_lockedFirms_53 : decode cX4_lockedFirms 53 = .ok (.goto (-48), 3) := by decide +kernel
theorem dX4_lockedFirms_56 : decode cX4_lockedFirms 56 = .ok (.iload_n 1, 1) := by decide +kernel
theorem dX4_lockedFirms_57 : decode cX4_lockedFirms 57 = .ok (.ireturn, 1) := by decide +kernel
theorem dX4_writeRow_0 : decode cX4_writeRow 0 = .ok (.aload_n 0, 1) := by decide +kernel
theorem dX4_writeRow_1 : decode cX4_writeRow 1 = .ok (.getfield 20, 3) := by decide +kernel
theorem dX4_writeRow_4 : decode cX4_writeRow 4 = .ok (.iload_n 2, 1) := by decide +kernel
theorem dX4_writeRow_5 : decode cX4_writeRow 5 = .ok (.invokestatic 31, 3) := by decide +kernel
theorem dX4_writeRow_8 : decode cX4_writeRow 8 = .ok (.istore_n 3, 1) := by decide +kernel
theorem dX4_writeRow_9 : decode cX4_writeRow 9 = .ok (.iconst 0, 1) := by decide +kernel
theorem dX4_writeRow_10 : decode cX4_writeRow 10 = .ok (.istore 4, 2) := by decide +kernel
theorem dX4_writeRow_12 : decode cX4_writeRow 12 = .ok (.iload 4, 2) := by decide +kernel
theorem dX4_writeRow_14 : decode cX4_writeRow 14 = .ok (.iconst 5, 1) := by decide +kernel
theorem dX4_writeRow_15 : decode cX4_writeRow 15 = .ok (.if_icmp .ge 64, 3) := by decide +kernel
theorem dX4_writeRow_18 : decode cX4_writeRow 18 = .ok (.iload_n 3, 1) := by decide +kernel
theorem dX4_writeRow_19 : decode cX4_writeRow 19 = .ok (.ifCond .ne 19, 3) := by decide +kernel
theorem dX4_writeRow_22 : decode cX4_writeRow 22 = .ok (.aload_n 0, 1) := by decide +kernel
theorem dX4_writeRow_23 : decode cX4_writeRow 23 = .ok (.getfield 20, 3) := by decide +kernel
theorem dX4_writeRow_26 : decode cX4_writeRow 26 = .ok (.iload 4, 2) := by decide +kernel
theorem dX4_writeRow_28 : decode cX4_writeRow 28 = .ok (.invokestatic 31, 3) := by decide +kernel
theorem dX4_writeRow_31 : decode cX4_writeRow 31 = .ok (.ifCond .ne 7, 3) := by decide +kernel
theorem dX4_writeRow_34 : decode cX4_writeRow 34 = .ok (.iconst 1, 1) := by decide +kernel
theorem dX4_writeRow_35 : decode cX4_writeRow 35 = .ok (.goto 4, 3) := by decide +kernel
theorem dX4_writeRow_38 : decode cX4_writeRow 38 = .ok (.iconst 0, 1) := by decide +kernel
theorem dX4_writeRow_39 : decode cX4_writeRow 39 = .ok (.istore 5, 2) := by decide +kernel
theorem dX4_writeRow_41 : decode cX4_writeRow 41 = .ok (.aload_n 0, 1) := by decide +kernel
theorem dX4_writeRow_42 : decode cX4_writeRow 42 = .ok (.getfield 13, 3) := by decide +kernel
theorem dX4_writeRow_45 : decode cX4_writeRow 45 = .ok (.iload_n 2, 1) := by decide +kernel
theorem dX4_writeRow_46 : decode cX4_writeRow 46 = .ok (.aaload, 1) := by decide +kernel
theorem dX4_writeRow_47 : decode cX4_writeRow 47 = .ok (.iload 4, 2) := by decide +kernel
theorem dX4_writeRow_49 : decode cX4_writeRow 49 = .ok (.iload 5, 2) := by decide +kernel
theorem dX4_writeRow_51 : decode cX4_writeRow 51 = .ok (.ifCond .eq 20, 3) := by decide +kernel
theorem dX4_writeRow_54 : decode cX4_writeRow 54 = .ok (.aload_n 1, 1) := by decide +kernel
theorem dX4_writeRow_55 : decode cX4_writeRow 55 = .ok (.getfield 41, 3) := by decide +kernel
theorem dX4_writeRow_58 : decode cX4_writeRow 58 = .ok (.iload_n 2, 1) := by decide +kernel
theorem dX4_writeRow_59 : decode cX4_writeRow 59 = .ok (.aaload, 1) := by decide +kernel
theorem dX4_writeRow_60 : decode cX4_writeRow 60 = .ok (.iload 4, 2) := by decide +kernel
theorem dX4_writeRow_62 : decode cX4_writeRow 62 = .ok (.invokestatic 45, 3) := by decide +kernel
theorem dX4_writeRow_65 : decode cX4_writeRow 65 = .ok (.iaload, 1) := by decide +kernel
theorem dX4_writeRow_66 : decode cX4_writeRow 66 = .ok (.ineg, 1) := by decide +kernel
theorem dX4_writeRow_67 : decode cX4_writeRow 67 = .ok (.i2l, 1) := by decide +kernel
theorem dX4_writeRow_68 : decode cX4_writeRow 68 = .ok (.goto 4, 3) := by decide +kernel
theorem dX4_writeRow_71 : decode cX4_writeRow 71 = .ok (.lconst 0, 1) := by decide +kernel
theorem dX4_writeRow_72 : decode cX4_writeRow 72 = .ok (.lastore, 1) := by decide +kernel
theorem dX4_writeRow_73 : decode cX4_writeRow 73 = .ok (.iinc 4 1, 3) := by decide +kernel
theorem dX4_writeRow_76 : decode cX4_writeRow 76 = .ok (.goto (-64), 3) := by decide +kernel
theorem dX4_writeRow_79 : decode cX4_writeRow 79 = .ok (.aload_n 0, 1) := by decide +kernel
theorem dX4_writeRow_80 : decode cX4_writeRow 80 = .ok (.getfield 13, 3) := by decide +kernel
theorem dX4_writeRow_83 : decode cX4_writeRow 83 = .ok (.iload_n 2, 1) := by decide +kernel
theorem dX4_writeRow_84 : decode cX4_writeRow 84 = .ok (.aaload, 1) := by decide +kernel
theorem dX4_writeRow_85 : decode cX4_writeRow 85 = .ok (.iload_n 2, 1) := by decide +kernel
theorem dX4_writeRow_86 : decode cX4_writeRow 86 = .ok (.ldc2_w 49, 3) := by decide +kernel
theorem dX4_writeRow_89 : decode cX4_writeRow 89 = .ok (.lastore, 1) := by decide +kernel
theorem dX4_writeRow_90 : decode cX4_writeRow 90 = .ok (.iconst 0, 1) := by decide +kernel
theorem dX4_writeRow_91 : decode cX4_writeRow 91 = .ok (.istore 4, 2) := by decide +kernel
theorem dX4_writeRow_93 : decode cX4_writeRow 93 = .ok (.iload 4, 2) := by decide +kernel
theorem dX4_writeRow_95 : decode cX4_writeRow 95 = .ok (.iconst 5, 1) := by decide +kernel
theorem dX4_writeRow_96 : decode cX4_writeRow 96 = .ok (.if_icmp .ge 53, 3) := by decide +kernel
theorem dX4_writeRow_99 : decode cX4_writeRow 99 = .ok (.iload 4, 2) := by decide +kernel
theorem dX4_writeRow_101 : decode cX4_writeRow 101 = .ok (.iconst 4, 1) := by decide +kernel
theorem dX4_writeRow_102 : decode cX4_writeRow 102 = .ok (.if_icmp .ne 8, 3) := by decide +kernel
theorem dX4_writeRow_105 : decode cX4_writeRow 105 = .ok (.bipush 9, 2) := by decide +kernel
theorem dX4_writeRow_107 : decode cX4_writeRow 107 = .ok (.goto 5, 3) := by decide +kernel
theorem dX4_writeRow_110 : decode cX4_writeRow 110 = .ok (.iload 4, 2) := by decide +kernel
theorem dX4_writeRow_112 : decode cX4_writeRow 112 = .ok (.istore 5, 2) := by decide +kernel
theorem dX4_writeRow_114 : decode cX4_writeRow 114 = .ok (.aload_n 0, 1) := by decide +kernel
theorem dX4_writeRow_115 : decode cX4_writeRow 115 = .ok (.getfield 13, 3) := by decide +kernel
theorem dX4_writeRow_118 : decode cX4_writeRow 118 = .ok (.iload_n 2, 1) := by decide +kernel
theorem dX4_writeRow_119 : decode cX4_writeRow 119 = .ok (.aaload, 1) := by decide +kernel
theorem dX4_writeRow_120 : decode cX4_writeRow 120 = .ok (.iconst 5, 1) := by decide +kernel
theorem dX4_writeRow_121 : decode cX4_writeRow 121 = .ok (.iload 4, 2) := by decide +kernel
theorem dX4_writeRow_123 : decode cX4_writeRow 123 = .ok (.iadd, 1) := by decide +kernel
theorem dX4_writeRow_124 : decode cX4_writeRow 124 = .ok (.iload_n 3, 1) := by decide +kernel
theorem dX4_writeRow_125 : decode cX4_writeRow 125 = .ok (.ifCond .eq 7, 3) := by decide +kernel
theorem dX4_writeRow_128 : decode cX4_writeRow 128 = .ok (.lconst 0, 1) := by decide +kernel
theorem dX4_writeRow_129 : decode cX4_writeRow 129 = .ok (.goto 13, 3) := by decide +kernel
theorem dX4_writeRow_132 : decode cX4_writeRow 132 = .ok (.aload_n 1, 1) := by decide +kernel
theorem dX4_writeRow_133 : decode cX4_writeRow 133 = .ok (.getfield 41, 3) := by decide +kernel
theorem dX4_writeRow_136 : decode cX4_writeRow 136 = .ok (.iload_n 2, 1) := by decide +kernel
theorem dX4_writeRow_137 : decode cX4_writeRow 137 = .ok (.aaload, 1) := by decide +kernel
theorem dX4_writeRow_138 : decode cX4_writeRow 138 = .ok (.iload 5, 2) := by decide +kernel
theorem dX4_writeRow_140 : decode cX4_writeRow 140 = .ok (.iaload, 1) := by decide +kernel
theorem dX4_writeRow_141 : decode cX4_writeRow 141 = .ok (.i2l, 1) := by decide +kernel
theorem dX4_writeRow_142 : decode cX4_writeRow 142 = .ok (.lastore, 1) := by decide +kernel
theorem dX4_writeRow_143 : decode cX4_writeRow 143 = .ok (.iinc 4 1, 3) := by decide +kernel
theorem dX4_writeRow_146 : decode cX4_writeRow 146 = .ok (.goto (-53), 3) := by decide +kernel
theorem dX4_writeRow_149 : decode cX4_writeRow 149 = .ok (.return_, 1) := by decide +kernel
theorem dX4_solve_0 : decode cX4_solve 0 = .ok (.lconst 1, 1) := by decide +kernel
theorem dX4_solve_1 : decode cX4_solve 1 = .ok (.lstore_n 1, 1) := by decide +kernel
theorem dX4_solve_2 : decode cX4_solve 2 = .ok (.iconst 0, 1) := by decide +kernel
theorem dX4_solve_3 : decode cX4_solve 3 = .ok (.istore_n 3, 1) := by decide +kernel
theorem dX4_solve_4 : decode cX4_solve 4 = .ok (.iload_n 3, 1) := by decide +kernel
theorem dX4_solve_5 : decode cX4_solve 5 = .ok (.iconst 5, 1) := by decide +kernel
theorem dX4_solve_6 : decode cX4_solve 6 = .ok (.if_icmp .ge 54, 3) := by decide +kernel
theorem dX4_solve_9 : decode cX4_solve 9 = .ok (.lload_n 1, 1) := by decide +kernel
theorem dX4_solve_10 : decode cX4_solve 10 = .ok (.lconst 0, 1) := by decide +kernel
theorem dX4_solve_11 : decode cX4_solve 11 = .ok (.lcmp, 1) := by decide +kernel
theorem dX4_solve_12 : decode cX4_solve 12 = .ok (.ifCond .ne 4, 3) := by decide +kernel
theorem dX4_solve_15 : decode cX4_solve 15 = .ok (.return_, 1) := by decide +kernel
theorem dX4_solve_16 : decode cX4_solve 16 = .ok (.iconst 0, 1) := by decide +kernel
theorem dX4_solve_17 : decode cX4_solve 17 = .ok (.istore 4, 2) := by decide +kernel
theorem dX4_solve_19 : decode cX4_solve 19 = .ok (.iload 4, 2) := by decide +kernel
theorem dX4_solve_21 : decode cX4_solve 21 = .ok (.iconst 5, 1) := by decide +kernel
theorem dX4_solve_22 : decode cX4_solve 22 = .ok (.if_icmp .ge 23, 3) := by decide +kernel
theorem dX4_solve_25 : decode cX4_solve 25 = .ok (.iload 4, 2) := by decide +kernel
theorem dX4_solve_27 : decode cX4_solve 27 = .ok (.iload_n 3, 1) := by decide +kernel
theorem dX4_solve_28 : decode cX4_solve 28 = .ok (.if_icmp .eq 11, 3) := by decide +kernel
theorem dX4_solve_31 : decode cX4_solve 31 = .ok (.aload_n 0, 1) := by decide +kernel
theorem dX4_solve_32 : decode cX4_solve 32 = .ok (.iload 4, 2) := by decide +kernel
theorem dX4_solve_34 : decode cX4_solve 34 = .ok (.iload_n 3, 1) := by decide +kernel
theorem dX4_solve_35 : decode cX4_solve 35 = .ok (.lload_n 1, 1) := by decide +kernel
theorem dX4_solve_36 : decode cX4_solve 36 = .ok (.invokevirtual 51, 3) := by decide +kernel
theorem dX4_solve_39 : decode cX4_solve 39 = .ok (.iinc 4 1, 3) := by decide +kernel
theorem dX4_solve_42 : decode cX4_solve 42 = .ok (.goto (-23), 3) := by decide +kernel
theorem dX4_solve_45 : decode cX4_solve 45 = .ok (.aload_n 0, 1) := by decide +kernel
theorem dX4_solve_46 : decode cX4_solve 46 = .ok (.getfield 13, 3) := by decide +kernel
theorem dX4_solve_49 : decode cX4_solve 49 = .ok (.iload_n 3, 1) := by decide +kernel
theorem dX4_solve_50 : decode cX4_solve 50 = .ok (.aaload, 1) := by decide +kernel
theorem dX4_solve_51 : decode cX4_solve 51 = .ok (.iload_n 3, 1) := by decide +kernel
theorem dX4_solve_52 : decode cX4_solve 52 = .ok (.laload, 1) := by decide +kernel
theorem dX4_solve_53 : decode cX4_solve 53 = .ok (.lstore_n 1, 1) := by decide +kernel
theorem dX4_solve_54 : decode cX4_solve 54 = .ok (.iinc 3 1, 3) := by decide +kernel
theorem dX4_solve_57 : decode cX4_solve 57 = .ok (.goto (-53), 3) := by decide +kernel
theorem dX4_solve_60 : decode cX4_solve 60 = .ok (.return_, 1) := by decide +kernel
theorem dX4_eliminate_0 : decode cX4_eliminate 0 = .ok (.lload_n 3, 1) := by decide +kernel
theorem dX4_eliminate_1 : decode cX4_eliminate 1 = .ok (.lconst 0, 1) := by decide +kernel
theorem dX4_eliminate_2 : decode cX4_eliminate 2 = .ok (.lcmp, 1) := by decide +kernel
theorem dX4_eliminate_3 : decode cX4_eliminate 3 = .ok (.ifCond .ne 4, 3) := by decide +kernel
theorem dX4_eliminate_6 : decode cX4_eliminate 6 = .ok (.return_, 1) := by decide +kernel
theorem dX4_eliminate_7 : decode cX4_eliminate 7 = .ok (.aload_n 0, 1) := by decide +kernel
theorem dX4_eliminate_8 : decode cX4_eliminate 8 = .ok (.getfield 13, 3) := by decide +kernel
theorem dX4_eliminate_11 : decode cX4_eliminate 11 = .ok (.iload_n 2, 1) := by decide +kernel
theorem dX4_eliminate_12 : decode cX4_eliminate 12 = .ok (.aaload, 1) := by decide +kernel
theorem dX4_eliminate_13 : decode cX4_eliminate 13 = .ok (.iload_n 2, 1) := by decide +kernel
theorem dX4_eliminate_14 : decode cX4_eliminate 14 = .ok (.laload, 1) := by decide +kernel
theorem dX4_eliminate_15 : decode cX4_eliminate 15 = .ok (.lstore 5, 2) := by decide +kernel
theorem dX4_eliminate_17 : decode cX4_eliminate 17 = .ok (.aload_n 0, 1) := by decide +kernel
theorem dX4_eliminate_18 : decode cX4_eliminate 18 = .ok (.getfield 13, 3) := by decide +kernel
theorem dX4_eliminate_21 : decode cX4_eliminate 21 = .ok (.iload_n 1, 1) := by decide +kernel
theorem dX4_eliminate_22 : decode cX4_eliminate 22 = .ok (.aaload, 1) := by decide +kernel
theorem dX4_eliminate_23 : decode cX4_eliminate 23 = .ok (.iload_n 2, 1) := by decide +kernel
theorem dX4_eliminate_24 : decode cX4_eliminate 24 = .ok (.laload, 1) := by decide +kernel
theorem dX4_eliminate_25 : decode cX4_eliminate 25 = .ok (.lstore 7, 2) := by decide +kernel
theorem dX4_eliminate_27 : decode cX4_eliminate 27 = .ok (.iconst 0, 1) := by decide +kernel
theorem dX4_eliminate_28 : decode cX4_eliminate 28 = .ok (.istore 9, 2) := by decide +kernel
theorem dX4_eliminate_30 : decode cX4_eliminate 30 = .ok (.iload 9, 2) := by decide +kernel
theorem dX4_eliminate_32 : decode cX4_eliminate 32 = .ok (.bipush 10, 2) := by decide +kernel
theorem dX4_eliminate_34 : decode cX4_eliminate 34 = .ok (.if_icmp .ge 45, 3) := by decide +kernel
theorem dX4_eliminate_37 : decode cX4_eliminate 37 = .ok (.aload_n 0, 1) := by decide +kernel
theorem dX4_eliminate_38 : decode cX4_eliminate 38 = .ok (.getfield 13, 3) := by decide +kernel
theorem dX4_eliminate_41 : decode cX4_eliminate 41 = .ok (.iload_n 1, 1) := by decide +kernel
theorem dX4_eliminate_42 : decode cX4_eliminate 42 = .ok (.aaload, 1) := by decide +kernel
theorem dX4_eliminate_43 : decode cX4_eliminate 43 = .ok (.iload 9, 2) := by decide +kernel
theorem dX4_eliminate_45 : decode cX4_eliminate 45 = .ok (.lload 5, 2) := by decide +kernel
theorem dX4_eliminate_47 : decode cX4_eliminate 47 = .ok (.aload_n 0, 1) := by decide +kernel
theorem dX4_eliminate_48 : decode cX4_eliminate 48 = .ok (.getfield 13, 3) := by decide +kernel
theorem dX4_eliminate_51 : decode cX4_eliminate 51 = .ok (.iload_n 1, 1) := by decide +kernel
theorem dX4_eliminate_52 : decode cX4_eliminate 52 = .ok (.aaload, 1) := by decide +kernel
theorem dX4_eliminate_53 : decode cX4_eliminate 53 = .ok (.iload 9, 2) := by decide +kernel
theorem dX4_eliminate_55 : decode cX4_eliminate 55 = .ok (.laload, 1) := by decide +kernel
theorem dX4_eliminate_56 : decode cX4_eliminate 56 = .ok (.lmul, 1) := by decide +kernel
theorem dX4_eliminate_57 : decode cX4_eliminate 57 = .ok (.lload 7, 2) := by decide +kernel
theorem dX4_eliminate_59 : decode cX4_eliminate 59 = .ok (.aload_n 0, 1) := by decide +kernel
theorem dX4_eliminate_60 : decode cX4_eliminate 60 = .ok (.getfield 13, 3) := by decide +kernel
theorem dX4_eliminate_63 : decode cX4_eliminate 63 = .ok (.iload_n 2, 1) := by decide +kernel
theorem dX4_eliminate_64 : decode cX4_eliminate 64 = .ok (.aaload, 1) := by decide +kernel
theorem dX4_eliminate_65 : decode cX4_eliminate 65 = .ok (.iload 9, 2) := by decide +kernel
theorem dX4_eliminate_67 : decode cX4_eliminate 67 = .ok (.laload, 1) := by decide +kernel
theorem dX4_eliminate_68 : decode cX4_eliminate 68 = .ok (.lmul, 1) := by decide +kernel
theorem dX4_eliminate_69 : decode cX4_eliminate 69 = .ok (.lsub, 1) := by decide +kernel
theorem dX4_eliminate_70 : decode cX4_eliminate 70 = .ok (.lload_n 3, 1) := by decide +kernel
theorem dX4_eliminate_71 : decode cX4_eliminate 71 = .ok (.ldiv, 1) := by decide +kernel
theorem dX4_eliminate_72 : decode cX4_eliminate 72 = .ok (.lastore, 1) := by decide +kernel
theorem dX4_eliminate_73 : decode cX4_eliminate 73 = .ok (.iinc 9 1, 3) := by decide +kernel
theorem dX4_eliminate_76 : decode cX4_eliminate 76 = .ok (.goto (-46), 3) := by decide +kernel
theorem dX4_eliminate_79 : decode cX4_eliminate 79 = .ok (.return_, 1) := by decide +kernel
theorem dX4_upper_0 : decode cX4_upper 0 = .ok (.aload_n 0, 1) := by decide +kernel
theorem dX4_upper_1 : decode cX4_upper 1 = .ok (.getfield 13, 3) := by decide +kernel
theorem dX4_upper_4 : decode cX4_upper 4 = .ok (.iload_n 1, 1) := by decide +kernel
theorem dX4_upper_5 : decode cX4_upper 5 = .ok (.aaload, 1) := by decide +kernel
theorem dX4_upper_6 : decode cX4_upper 6 = .ok (.iconst 5, 1) := by decide +kernel
theorem dX4_upper_7 : decode cX4_upper 7 = .ok (.iload_n 2, 1) := by decide +kernel
theorem dX4_upper_8 : decode cX4_upper 8 = .ok (.iadd, 1) := by decide +kernel
theorem dX4_upper_9 : decode cX4_upper 9 = .ok (.laload, 1) := by decide +kernel
theorem dX4_upper_10 : decode cX4_upper 10 = .ok (.lreturn, 1) := by decide +kernel
theorem dX4_lower_0 : decode cX4_lower 0 = .ok (.aload_n 0, 1) := by decide +kernel
theorem dX4_lower_1 : decode cX4_lower 1 = .ok (.getfield 13, 3) := by decide +kernel
theorem dX4_lower_4 : decode cX4_lower 4 = .ok (.iload_n 1, 1) := by decide +kernel
theorem dX4_lower_5 : decode cX4_lower 5 = .ok (.aaload, 1) := by decide +kernel
theorem dX4_lower_6 : decode cX4_lower 6 = .ok (.iload_n 1, 1) := by decide +kernel
theorem dX4_lower_7 : decode cX4_lower 7 = .ok (.laload, 1) := by decide +kernel
theorem dX4_lower_8 : decode cX4_lower 8 = .ok (.lreturn, 1) := by decide +kernel
theorem dX4_upperOfNobody_0 : decode cX4_upperOfNobody 0 = .ok (.aload_n 0, 1) := by decide +kernel
theorem dX4_upperOfNobody_1 : decode cX4_upperOfNobody 1 = .ok (.iload_n 1, 1) := by decide +kernel
theorem dX4_upperOfNobody_2 : decode cX4_upperOfNobody 2 = .ok (.invokevirtual 55, 3) := by decide +kernel
theorem dX4_upperOfNobody_5 : decode cX4_upperOfNobody 5 = .ok (.lstore_n 2, 1) := by decide +kernel
theorem dX4_upperOfNobody_6 : decode cX4_upperOfNobody 6 = .ok (.iconst 0, 1) := by decide +kernel
theorem dX4_upperOfNobody_7 : decode cX4_upperOfNobody 7 = .ok (.istore 4, 2) := by decide +kernel
theorem dX4_upperOfNobody_9 : decode cX4_upperOfNobody 9 = .ok (.iload 4, 2) := by decide +kernel
theorem dX4_upperOfNobody_11 : decode cX4_upperOfNobody 11 = .ok (.iconst 5, 1) := by decide +kernel
theorem dX4_upperOfNobody_12 : decode cX4_upperOfNobody 12 = .ok (.if_icmp .ge 19, 3) := by decide +kernel
theorem dX4_upperOfNobody_15 : decode cX4_upperOfNobody 15 = .ok (.lload_n 2, 1) := by decide +kernel
theorem dX4_upperOfNobody_16 : decode cX4_upperOfNobody 16 = .ok (.aload_n 0, 1) := by decide +kernel
theorem dX4_upperOfNobody_17 : decode cX4_upperOfNobody 17 = .ok (.iload_n 1, 1) := by decide +kernel
theorem dX4_upperOfNobody_18 : decode cX4_upperOfNobody 18 = .ok (.iload 4, 2) := by decide +kernel
theorem dX4_upperOfNobody_20 : decode cX4_upperOfNobody 20 = .ok (.invokevirtual 59, 3) := by decide +kernel
theorem dX4_upperOfNobody_23 : decode cX4_upperOfNobody 23 = .ok (.lsub, 1) := by decide +kernel
theorem dX4_upperOfNobody_24 : decode cX4_upperOfNobody 24 = .ok (.lstore_n 2, 1) := by decide +kernel
theorem dX4_upperOfNobody_25 : decode cX4_upperOfNobody 25 = .ok (.iinc 4 1, 3) := by decide +kernel
theorem dX4_upperOfNobody_28 : decode cX4_upperOfNobody 28 = .ok (.goto (-19), 3) := by decide +kernel
theorem dX4_upperOfNobody_31 : decode cX4_upperOfNobody 31 = .ok (.lload_n 2, 1) := by decide +kernel
theorem dX4_upperOfNobody_32 : decode cX4_upperOfNobody 32 = .ok (.lreturn, 1) := by decide +kernel
theorem dX4_rankOf_0 : decode cX4_rankOf 0 = .ok (.iconst 0, 1) := by decide +kernel
theorem dX4_rankOf_1 : decode cX4_rankOf 1 = .ok (.istore_n 3, 1) := by decide +kernel
theorem dX4_rankOf_2 : decode cX4_rankOf 2 = .ok (.iconst 0, 1) := by decide +kernel
theorem dX4_rankOf_3 : decode cX4_rankOf 3 = .ok (.istore 4, 2) := by decide +kernel
theorem dX4_rankOf_5 : decode cX4_rankOf 5 = .ok (.iload 4, 2) := by decide +kernel
theorem dX4_rankOf_7 : decode cX4_rankOf 7 = .ok (.iconst 4, 1) := by decide +kernel
theorem dX4_rankOf_8 : decode cX4_rankOf 8 = .ok (.if_icmp .ge 72, 3) := by decide +kernel
theorem dX4_rankOf_11 : decode cX4_rankOf 11 = .ok (.aload_n 0, 1) := by decide +kernel
theorem dX4_rankOf_12 : decode cX4_rankOf 12 = .ok (.iload_n 1, 1) := by decide +kernel
theorem dX4_rankOf_13 : decode cX4_rankOf 13 = .ok (.iload 4, 2) := by decide +kernel
theorem dX4_rankOf_15 : decode cX4_rankOf 15 = .ok (.invokevirtual 59, 3) := by decide +kernel
theorem dX4_rankOf_18 : decode cX4_rankOf 18 = .ok (.aload_n 0, 1) := by decide +kernel
theorem dX4_rankOf_19 : decode cX4_rankOf 19 = .ok (.iload_n 1, 1) := by decide +kernel
theorem dX4_rankOf_20 : decode cX4_rankOf 20 = .ok (.iload_n 2, 1) := by decide +kernel
theorem dX4_rankOf_21 : decode cX4_rankOf 21 = .ok (.invokevirtual 59, 3) := by decide +kernel
theorem dX4_rankOf_24 : decode cX4_rankOf 24 = .ok (.lcmp, 1) := by decide +kernel
theorem dX4_rankOf_25 : decode cX4_rankOf 25 = .ok (.ifCond .ne 13, 3) := by decide +kernel
theorem dX4_rankOf_28 : decode cX4_rankOf 28 = .ok (.iload 4, 2) := by decide +kernel
theorem dX4_rankOf_30 : decode cX4_rankOf 30 = .ok (.iload_n 2, 1) := by decide +kernel
theorem dX4_rankOf_31 : decode cX4_rankOf 31 = .ok (.if_icmp .ge 7, 3) := by decide +kernel
theorem dX4_rankOf_34 : decode cX4_rankOf 34 = .ok (.iconst 1, 1) := by decide +kernel
theorem dX4_rankOf_35 : decode cX4_rankOf 35 = .ok (.goto 4, 3) := by decide +kernel
theorem dX4_rankOf_38 : decode cX4_rankOf 38 = .ok (.iconst 0, 1) := by decide +kernel
theorem dX4_rankOf_39 : decode cX4_rankOf 39 = .ok (.istore 5, 2) := by decide +kernel
theorem dX4_rankOf_41 : decode cX4_rankOf 41 = .ok (.iload_n 3, 1) := by decide +kernel
theorem dX4_rankOf_42 : decode cX4_rankOf 42 = .ok (.iload 5, 2) := by decide +kernel
theorem dX4_rankOf_44 : decode cX4_rankOf 44 = .ok (.ifCond .ne 20, 3) := by decide +kernel
theorem dX4_rankOf_47 : decode cX4_rankOf 47 = .ok (.aload_n 0, 1) := by decide +kernel
theorem dX4_rankOf_48 : decode cX4_rankOf 48 = .ok (.iload_n 1, 1) := by decide +kernel
theorem dX4_rankOf_49 : decode cX4_rankOf 49 = .ok (.iload 4, 2) := by decide +kernel
theorem dX4_rankOf_51 : decode cX4_rankOf 51 = .ok (.invokevirtual 59, 3) := by decide +kernel
theorem dX4_rankOf_54 : decode cX4_rankOf 54 = .ok (.aload_n 0, 1) := by decide +kernel
theorem dX4_rankOf_55 : decode cX4_rankOf 55 = .ok (.iload_n 1, 1) := by decide +kernel
theorem dX4_rankOf_56 : decode cX4_rankOf 56 = .ok (.iload_n 2, 1) := by decide +kernel
theorem dX4_rankOf_57 : decode cX4_rankOf 57 = .ok (.invokevirtual 59, 3) := by decide +kernel
theorem dX4_rankOf_60 : decode cX4_rankOf 60 = .ok (.lcmp, 1) := by decide +kernel
theorem dX4_rankOf_61 : decode cX4_rankOf 61 = .ok (.ifCond .le 7, 3) := by decide +kernel
theorem dX4_rankOf_64 : decode cX4_rankOf 64 = .ok (.iconst 1, 1) := by decide +kernel
theorem dX4_rankOf_65 : decode cX4_rankOf 65 = .ok (.goto 4, 3) := by decide +kernel
theorem dX4_rankOf_68 : decode cX4_rankOf 68 = .ok (.iconst 0, 1) := by decide +kernel
theorem dX4_rankOf_69 : decode cX4_rankOf 69 = .ok (.invokestatic 63, 3) := by decide +kernel
theorem dX4_rankOf_72 : decode cX4_rankOf 72 = .ok (.iadd, 1) := by decide +kernel
theorem dX4_rankOf_73 : decode cX4_rankOf 73 = .ok (.istore_n 3, 1) := by decide +kernel
theorem dX4_rankOf_74 : decode cX4_rankOf 74 = .ok (.iinc 4 1, 3) := by decide +kernel
theorem dX4_rankOf_77 : decode cX4_rankOf 77 = .ok (.goto (-72), 3) := by decide +kernel
theorem dX4_rankOf_80 : decode cX4_rankOf 80 = .ok (.iload_n 3, 1) := by decide +kernel
theorem dX4_rankOf_81 : decode cX4_rankOf 81 = .ok (.ireturn, 1) := by decide +kernel
theorem dX4_personsAbove_0 : decode cX4_personsAbove 0 = .ok (.iconst 0, 1) := by decide +kernel
theorem dX4_personsAbove_1 : decode cX4_personsAbove 1 = .ok (.istore_n 3, 1) := by decide +kernel
theorem dX4_personsAbove_2 : decode cX4_personsAbove 2 = .ok (.iconst 0, 1) := by decide +kernel
theorem dX4_personsAbove_3 : decode cX4_personsAbove 3 = .ok (.istore 4, 2) := by decide +kernel
theorem dX4_personsAbove_5 : decode cX4_personsAbove 5 = .ok (.iload 4, 2) := by decide +kernel
theorem dX4_personsAbove_7 : decode cX4_personsAbove 7 = .ok (.iconst 4, 1) := by decide +kernel
theorem dX4_personsAbove_8 : decode cX4_personsAbove 8 = .ok (.if_icmp .ge 39, 3) := by decide +kernel
theorem dX4_personsAbove_11 : decode cX4_personsAbove 11 = .ok (.aload_n 0, 1) := by decide +kernel
theorem dX4_personsAbove_12 : decode cX4_personsAbove 12 = .ok (.iload_n 1, 1) := by decide +kernel
theorem dX4_personsAbove_13 : decode cX4_personsAbove 13 = .ok (.iload 4, 2) := by decide +kernel
theorem dX4_personsAbove_15 : decode cX4_personsAbove 15 = .ok (.invokevirtual 59, 3) := by decide +kernel
theorem dX4_personsAbove_18 : decode cX4_personsAbove 18 = .ok (.ldc2_w 49, 3) := by decide +kernel
theorem dX4_personsAbove_21 : decode cX4_personsAbove 21 = .ok (.lmul, 1) := by decide +kernel
theorem dX4_personsAbove_22 : decode cX4_personsAbove 22 = .ok (.iload_n 2, 1) := by decide +kernel
theorem dX4_personsAbove_23 : decode cX4_personsAbove 23 = .ok (.i2l, 1) := by decide +kernel
theorem dX4_personsAbove_24 : decode cX4_personsAbove 24 = .ok (.aload_n 0, 1) := by decide +kernel
theorem dX4_personsAbove_25 : decode cX4_personsAbove 25 = .ok (.iload_n 1, 1) := by decide +kernel
theorem dX4_personsAbove_26 : decode cX4_personsAbove 26 = .ok (.invokevirtual 55, 3) := by decide +kernel
theorem dX4_personsAbove_29 : decode cX4_personsAbove 29 = .ok (.lmul, 1) := by decide +kernel
theorem dX4_personsAbove_30 : decode cX4_personsAbove 30 = .ok (.lcmp, 1) := by decide +kernel
theorem dX4_personsAbove_31 : decode cX4_personsAbove 31 = .ok (.ifCond .le 10, 3) := by decide +kernel
theorem dX4_personsAbove_34 : decode cX4_personsAbove 34 = .ok (.iload_n 3, 1) := by decide +kernel
theorem dX4_personsAbove_35 : decode cX4_personsAbove 35 = .ok (.iconst 1, 1) := by decide +kernel
theorem dX4_personsAbove_36 : decode cX4_personsAbove 36 = .ok (.iload 4, 2) := by decide +kernel
theorem dX4_personsAbove_38 : decode cX4_personsAbove 38 = .ok (.ishl, 1) := by decide +kernel
theorem dX4_personsAbove_39 : decode cX4_personsAbove 39 = .ok (.ior, 1) := by decide +kernel
theorem dX4_personsAbove_40 : decode cX4_personsAbove 40 = .ok (.istore_n 3, 1) := by decide +kernel
theorem dX4_personsAbove_41 : decode cX4_personsAbove 41 = .ok (.iinc 4 1, 3) := by decide +kernel
theorem dX4_personsAbove_44 : decode cX4_personsAbove 44 = .ok (.goto (-39), 3) := by decide +kernel
theorem dX4_personsAbove_47 : decode cX4_personsAbove 47 = .ok (.iload_n 3, 1) := by decide +kernel
theorem dX4_personsAbove_48 : decode cX4_personsAbove 48 = .ok (.ireturn, 1) := by decide +kernel
theorem dX5_init_0 : decode cX5_init 0 = .ok (.aload_n 0, 1) := by decide +kernel
theorem dX5_init_1 : decode cX5_init 1 = .ok (.invokespecial 3, 3) := by decide +kernel
theorem dX5_init_4 : decode cX5_init 4 = .ok (.aload_n 0, 1) := by decide +kernel
theorem dX5_init_5 : decode cX5_init 5 = .ok (.bipush 40, 2) := by decide +kernel
theorem dX5_init_7 : decode cX5_init 7 = .ok (.newarray .int, 2) := by decide +kernel
theorem dX5_init_9 : decode cX5_init 9 = .ok (.putfield 9, 3) := by decide +kernel
theorem dX5_init_12 : decode cX5_init 12 = .ok (.aload_n 0, 1) := by decide +kernel
theorem dX5_init_13 : decode cX5_init 13 = .ok (.bipush 40, 2) := by decide +kernel
theorem dX5_init_15 : decode cX5_init 15 = .ok (.bipush 9, 2) := by decide +kernel
theorem dX5_init_17 : decode cX5_init 17 = .ok (.multianewarray 15 2, 4) := by decide +kernel
theorem dX5_init_21 : decode cX5_init 21 = .ok (.putfield 17, 3) := by decide +kernel
theorem dX5_init_24 : decode cX5_init 24 = .ok (.aload_n 0, 1) := by decide +kernel
theorem dX5_init_25 : decode cX5_init 25 = .ok (.sipush 1800, 3) := by decide +kernel
theorem dX5_init_28 : decode cX5_init 28 = .ok (.newarray .int, 2) := by decide +kernel
theorem dX5_init_30 : decode cX5_init 30 = .ok (.putfield 20, 3) := by decide +kernel
theorem dX5_init_33 : decode cX5_init 33 = .ok (.return_, 1) := by decide +kernel
theorem dX5_workOut_0 : decode cX5_workOut 0 = .ok (.aload_n 0, 1) := by decide +kernel
theorem dX5_workOut_1 : decode cX5_workOut 1 = .ok (.iconst 0, 1) := by decide +kernel
theorem dX5_workOut_2 : decode cX5_workOut 2 = .ok (.putfield 23, 3) := by decide +kernel
theorem dX5_workOut_5 : decode cX5_workOut 5 = .ok (.aload_n 2, 1) := by decide +kernel
theorem dX5_workOut_6 : decode cX5_workOut 6 = .ok (.invokevirtual 27, 3) := by decide +kernel
theorem dX5_workOut_9 : decode cX5_workOut 9 = .ok (.iconst 0, 1) := by decide +kernel
theorem dX5_workOut_10 : decode cX5_workOut 10 = .ok (.istore 4, 2) := by decide +kernel
theorem dX5_workOut_12 : decode cX5_workOut 12 = .ok (.iload 4, 2) := by decide +kernel
theorem dX5_workOut_14 : decode cX5_workOut 14 = .ok (.aload_n 1, 1) := by decide +kernel
theorem dX5_workOut_15 : decode cX5_workOut 15 = .ok (.getfield 32, 3) := by decide +kernel
theorem dX5_workOut_18 : decode cX5_workOut 18 = .ok (.if_icmp .ge 113, 3) := by decide +kernel
theorem dX5_workOut_21 : decode cX5_workOut 21 = .ok (.aload_n 0, 1) := by decide +kernel
theorem dX5_workOut_22 : decode cX5_workOut 22 = .ok (.getfield 23, 3) := by decide +kernel
theorem dX5_workOut_25 : decode cX5_workOut 25 = .ok (.bipush 40, 2) := by decide +kernel
theorem dX5_workOut_27 : decode cX5_workOut 27 = .ok (.if_icmp .ge 104, 3) := by decide +kernel
theorem dX5_workOut_30 : decode cX5_workOut 30 = .ok (.aload_n 1, 1) := by decide +kernel
theorem dX5_workOut_31 : decode cX5_workOut 31 = .ok (.getfield 35, 3) := by decide +kernel
theorem dX5_workOut_34 : decode cX5_workOut 34 = .ok (.iload 4, 2) := by decide +kernel
theorem dX5_workOut_36 : decode cX5_workOut 36 = .ok (.iaload, 1) := by decide +kernel
theorem dX5_workOut_37 : decode cX5_workOut 37 = .ok (.istore 5, 2) := by decide +kernel
theorem dX5_workOut_39 : decode cX5_workOut 39 = .ok (.aload_n 2, 1) := by decide +kernel
theorem dX5_workOut_40 : decode cX5_workOut 40 = .ok (.aload_n 1, 1) := by decide +kernel
theorem dX5_workOut_41 : decode cX5_workOut 41 = .ok (.iload 5, 2) := by decide +kernel
theorem dX5_workOut_43 : decode cX5_workOut 43 = .ok (.invokevirtual 38, 3) := by decide +kernel
theorem dX5_workOut_46 : decode cX5_workOut 46 = .ok (.pop, 1) := by decide +kernel
theorem dX5_workOut_47 : decode cX5_workOut 47 = .ok (.aload_n 1, 1) := by decide +kernel
theorem dX5_workOut_48 : decode cX5_workOut 48 = .ok (.iload 4, 2) := by decide +kernel
theorem dX5_workOut_50 : decode cX5_workOut 50 = .ok (.invokevirtual 42, 3) := by decide +kernel
theorem dX5_workOut_53 : decode cX5_workOut 53 = .ok (.ifCond .eq 72, 3) := by decide +kernel
theorem dX5_workOut_56 : decode cX5_workOut 56 = .ok (.iconst 0, 1) := by decide +kernel
theorem dX5_workOut_57 : decode cX5_workOut 57 = .ok (.istore 6, 2) := by decide +kernel
theorem dX5_workOut_59 : decode cX5_workOut 59 = .ok (.iload 6, 2) := by decide +kernel
theorem dX5_workOut_61 : decode cX5_workOut 61 = .ok (.bipush 9, 2) := by decide +kernel
theorem dX5_workOut_63 : decode cX5_workOut 63 = .ok (.if_icmp .ge 36, 3) := by decide +kernel
theorem dX5_workOut_66 : decode cX5_workOut 66 = .ok (.aload_n 3, 1) := by decide +kernel
theorem dX5_workOut_67 : decode cX5_workOut 67 = .ok (.iload 6, 2) := by decide +kernel
theorem dX5_workOut_69 : decode cX5_workOut 69 = .ok (.aload_n 2, 1) := by decide +kernel
theorem dX5_workOut_70 : decode cX5_workOut 70 = .ok (.aload_n 1, 1) := by decide +kernel
theorem dX5_workOut_71 : decode cX5_workOut 71 = .ok (.invokevirtual 46, 3) := by decide +kernel
theorem dX5_workOut_74 : decode cX5_workOut 74 = .ok (.aload_n 0, 1) := by decide +kernel
theorem dX5_workOut_75 : decode cX5_workOut 75 = .ok (.getfield 17, 3) := by decide +kernel
theorem dX5_workOut_78 : decode cX5_workOut 78 = .ok (.aload_n 0, 1) := by decide +kernel
theorem dX5_workOut_79 : decode cX5_workOut 79 = .ok (.getfield 23, 3) := by decide +kernel
theorem dX5_workOut_82 : decode cX5_workOut 82 = .ok (.aaload, 1) := by decide +kernel
theorem dX5_workOut_83 : decode cX5_workOut 83 = .ok (.iload 6, 2) := by decide +kernel
theorem dX5_workOut_85 : decode cX5_workOut 85 = .ok (.aload_n 3, 1) := by decide +kernel
theorem dX5_workOut_86 : decode cX5_workOut 86 = .ok (.getfield 52, 3) := by decide +kernel
theorem dX5_workOut_89 : decode cX5_workOut 89 = .ok (.iload 6, 2) := by decide +kernel
theorem dX5_workOut_91 : decode cX5_workOut 91 = .ok (.iaload, 1) := by decide +kernel
theorem dX5_workOut_92 : decode cX5_workOut 92 = .ok (.iastore, 1) := by decide +kernel
theorem dX5_workOut_93 : decode cX5_workOut 93 = .ok (.iinc 6 1, 3) := by decide +kernel
theorem dX5_workOut_96 : decode cX5_workOut 96 = .ok (.goto (-37), 3) := by decide +kernel
theorem dX5_workOut_99 : decode cX5_workOut 99 = .ok (.aload_n 0, 1) := by decide +kernel
theorem dX5_workOut_100 : decode cX5_workOut 100 = .ok (.getfield 9, 3) := by decide +kernel
theorem dX5_workOut_103 : decode cX5_workOut 103 = .ok (.aload_n 0, 1) := by decide +kernel
theorem dX5_workOut_104 : decode cX5_workOut 104 = .ok (.getfield 23, 3) := by decide +kernel
theorem dX5_workOut_107 : decode cX5_workOut 107 = .ok (.aload_n 1, 1) := by decide +kernel
theorem dX5_workOut_108 : decode cX5_workOut 108 = .ok (.getfield 54, 3) := by decide +kernel
theorem dX5_workOut_111 : decode cX5_workOut 111 = .ok (.iload 5, 2) := by decide +kernel
theorem dX5_workOut_113 : decode cX5_workOut 113 = .ok (.iaload, 1) := by decide +kernel
theorem dX5_workOut_114 : decode cX5_workOut 114 = .ok (.iastore, 1) := by decide +kernel
theorem dX5_workOut_115 : decode cX5_workOut 115 = .ok (.aload_n 0, 1) := by decide +kernel
theorem dX5_workOut_116 : decode cX5_workOut 116 = .ok (.dup, 1) := by decide +kernel
theorem dX5_workOut_117 : decode cX5_workOut 117 = .ok (.getfield 23, 3) := by decide +kernel
theorem dX5_workOut_120 : decode cX5_workOut 120 = .ok (.iconst 1, 1) := by decide +kernel
theorem dX5_workOut_121 : decode cX5_workOut 121 = .ok (.iadd, 1) := by decide +kernel
theorem dX5_workOut_122 : decode cX5_workOut 122 = .ok (.putfield 23, 3) := by decide +kernel
theorem dX5_workOut_125 : decode cX5_workOut 125 = .ok (.iinc 4 1, 3) := by decide +kernel
theorem dX5_workOut_128 : decode cX5_workOut 128 = .ok (.goto (-116), 3) := by decide +kernel
theorem dX5_workOut_131 : decode cX5_workOut 131 = .ok (.aload_n 0, 1) := by decide +kernel
theorem dX5_workOut_132 : decode cX5_workOut 132 = .ok (.invokevirtual 57, 3) := by decide +kernel
theorem dX5_workOut_135 : decode cX5_workOut 135 = .ok (.return_, 1) := by decide +kernel
theorem dX5_listEvents_0 : decode cX5_listEvents 0 = .ok (.aload_n 0, 1) := by decide +kernel
theorem dX5_listEvents_1 : decode cX5_listEvents 1 = .ok (.iconst 0, 1) := by decide +kernel
theorem dX5_listEvents_2 : decode cX5_listEvents 2 = .ok (.putfield 60, 3) := by decide +kernel
theorem dX5_listEvents_5 : decode cX5_listEvents 5 = .ok (.iconst 0, 1) := by decide +kernel
theorem dX5_listEvents_6 : decode cX5_listEvents 6 = .ok (.istore_n 1, 1) := by decide +kernel
theorem dX5_listEvents_7 : decode cX5_listEvents 7 = .ok (.iload_n 1, 1) := by decide +kernel
theorem dX5_listEvents_8 : decode cX5_listEvents 8 = .ok (.aload_n 0, 1) := by decide +kernel
theorem dX5_listEvents_9 : decode cX5_listEvents 9 = .ok (.getfield 23, 3) := by decide +kernel
theorem dX5_listEvents_12 : decode cX5_listEvents 12 = .ok (.if_icmp .ge 43, 3) := by decide +kernel
theorem dX5_listEvents_15 : decode cX5_listEvents 15 = .ok (.iconst 0, 1) := by decide +kernel
theorem dX5_listEvents_16 : decode cX5_listEvents 16 = .ok (.istore_n 2, 1) := by decide +kernel
theorem dX5_listEvents_17 : decode cX5_listEvents 17 = .ok (.iload_n 2, 1) := by decide +kernel
theorem dX5_listEvents_18 : decode cX5_listEvents 18 = .ok (.bipush 9, 2) := by decide +kernel
theorem dX5_listEvents_20 : decode cX5_listEvents 20 = .ok (.if_icmp .ge 29, 3) := by decide +kernel
theorem dX5_listEvents_23 : decode cX5_listEvents 23 = .ok (.iconst 0, 1) := by decide +kernel
theorem dX5_listEvents_24 : decode cX5_listEvents 24 = .ok (.istore_n 3, 1) := by decide +kernel
theorem dX5_listEvents_25 : decode cX5_listEvents 25 = .ok (.iload_n 3, 1) := by decide +kernel
theorem dX5_listEvents_26 : decode cX5_listEvents 26 = .ok (.iconst 5, 1) := by decide +kernel
theorem dX5_listEvents_27 : decode cX5_listEvents 27 = .ok (.if_icmp .ge 16, 3) := by decide +kernel
theorem dX5_listEvents_30 : decode cX5_listEvents 30 = .ok (.aload_n 0, 1) := by decide +kernel
theorem dX5_listEvents_31 : decode cX5_listEvents 31 = .ok (.iload_n 1, 1) := by decide +kernel
theorem dX5_listEvents_32 : decode cX5_listEvents 32 = .ok (.iload_n 2, 1) := by decide +kernel
theorem dX5_listEvents_33 : decode cX5_listEvents 33 = .ok (.iload_n 3, 1) := by decide +kernel
theorem dX5_listEvents_34 : decode cX5_listEvents 34 = .ok (.invokevirtual 63, 3) := by decide +kernel
theorem dX5_listEvents_37 : decode cX5_listEvents 37 = .ok (.iinc 3 1, 3) := by decide +kernel
theorem dX5_listEvents_40 : decode cX5_listEvents 40 = .ok (.goto (-15), 3) := by decide +kernel
theorem dX5_listEvents_43 : decode cX5_listEvents 43 = .ok (.iinc 2 1, 3) := by decide +kernel
theorem dX5_listEvents_46 : decode cX5_listEvents 46 = .ok (.goto (-29), 3) := by decide +kernel
theorem dX5_listEvents_49 : decode cX5_listEvents 49 = .ok (.iinc 1 1, 3) := by decide +kernel
theorem dX5_listEvents_52 : decode cX5_listEvents 52 = .ok (.goto (-45), 3) := by decide +kernel
theorem dX5_listEvents_55 : decode cX5_listEvents 55 = .ok (.return_, 1) := by decide +kernel
theorem dX5_listEvent_0 : decode cX5_listEvent 0 = .ok (.aload_n 0, 1) := by decide +kernel
theorem dX5_listEvent_1 : decode cX5_listEvent 1 = .ok (.iload_n 1, 1) := by decide +kernel
theorem dX5_listEvent_2 : decode cX5_listEvent 2 = .ok (.iload_n 2, 1) := by decide +kernel
theorem dX5_listEvent_3 : decode cX5_listEvent 3 = .ok (.iload_n 3, 1) := by decide +kernel
theorem dX5_listEvent_4 : decode cX5_listEvent 4 = .ok (.invokevirtual 67, 3) := by decide +kernel
theorem dX5_listEvent_7 : decode cX5_listEvent 7 = .ok (.istore 4, 2) := by decide +kernel
theorem dX5_listEvent_9 : decode cX5_listEvent 9 = .ok (.iload 4, 2) := by decide +kernel
theorem dX5_listEvent_11 : decode cX5_listEvent 11 = .ok (.aload_n 0, 1) := by decide +kernel
theorem dX5_listEvent_12 : decode cX5_listEvent 12 = .ok (.iload_n 1, 1) := by decide +kernel
theorem dX5_listEvent_13 : decode cX5_listEvent 13 = .ok (.iconst 1, 1) := by decide +kernel
theorem dX5_listEvent_14 : decode cX5_listEvent 14 = .ok (.isub, 1) := by decide +kernel
theorem dX5_listEvent_15 : decode cX5_listEvent 15 = .ok (.iload_n 2, 1) := by decide +kernel
theorem dX5_listEvent_16 : decode cX5_listEvent 16 = .ok (.iload_n 3, 1) := by decide +kernel
theorem dX5_listEvent_17 : decode cX5_listEvent 17 = .ok (.invokevirtual 67, 3) := by decide +kernel
theorem dX5_listEvent_20 : decode cX5_listEvent 20 = .ok (.if_icmp .eq 50, 3) := by decide +kernel
theorem dX5_listEvent_23 : decode cX5_listEvent 23 = .ok (.aload_n 0, 1) := by decide +kernel
theorem dX5_listEvent_24 : decode cX5_listEvent 24 = .ok (.getfield 60, 3) := by decide +kernel
theorem dX5_listEvent_27 : decode cX5_listEvent 27 = .ok (.sipush 1800, 3) := by decide +kernel
theorem dX5_listEvent_30 : decode cX5_listEvent 30 = .ok (.if_icmp .ge 40, 3) := by decide +kernel
theorem dX5_listEvent_33 : decode cX5_listEvent 33 = .ok (.aload_n 0, 1) := by decide +kernel
theorem dX5_listEvent_34 : decode cX5_listEvent 34 = .ok (.getfield 20, 3) := by decide +kernel
theorem dX5_listEvent_37 : decode cX5_listEvent 37 = .ok (.aload_n 0, 1) := by decide +kernel
theorem dX5_listEvent_38 : decode cX5_listEvent 38 = .ok (.getfield 60, 3) := by decide +kernel
theorem dX5_listEvent_41 : decode cX5_listEvent 41 = .ok (.iload_n 1, 1) := by decide +kernel
theorem dX5_listEvent_42 : decode cX5_listEvent 42 = .ok (.bipush 9, 2) := by decide +kernel
theorem dX5_listEvent_44 : decode cX5_listEvent 44 = .ok (.imul, 1) := by decide +kernel
theorem dX5_listEvent_45 : decode cX5_listEvent 45 = .ok (.iload_n 2, 1) := by decide +kernel
theorem dX5_listEvent_46 : decode cX5_listEvent 46 = .ok (.iadd, 1) := by decide +kernel
theorem dX5_listEvent_47 : decode cX5_listEvent 47 = .ok (.iconst 5, 1) := by decide +kernel
theorem dX5_listEvent_48 : decode cX5_listEvent 48 = .ok (.imul, 1) := by decide +kernel
theorem dX5_listEvent_49 : decode cX5_listEvent 49 = .ok (.iload_n 3, 1) := by decide +kernel
theorem dX5_listEvent_50 : decode cX5_listEvent 50 = .ok (.iadd, 1) := by decide +kernel
theorem dX5_listEvent_51 : decode cX5_listEvent 51 = .ok (.iconst 2, 1) := by decide +kernel
theorem dX5_listEvent_52 : decode cX5_listEvent 52 = .ok (.imul, 1) := by decide +kernel
theorem dX5_listEvent_53 : decode cX5_listEvent 53 = .ok (.iload 4, 2) := by decide +kernel
theorem dX5_listEvent_55 : decode cX5_listEvent 55 = .ok (.invokestatic 71, 3) := by decide +kernel
theorem dX5_listEvent_58 : decode cX5_listEvent 58 = .ok (.iadd, 1) := by decide +kernel
theorem dX5_listEvent_59 : decode cX5_listEvent 59 = .ok (.iastore, 1) := by decide +kernel
theorem dX5_listEvent_60 : decode cX5_listEvent 60 = .ok (.aload_n 0, 1) := by decide +kernel
theorem dX5_listEvent_61 : decode cX5_listEvent 61 = .ok (.dup, 1) := by decide +kernel
theorem dX5_listEvent_62 : decode cX5_listEvent 62 = .ok (.getfield 60, 3) := by decide +kernel
theorem dX5_listEvent_65 : decode cX5_listEvent 65 = .ok (.iconst 1, 1) := by decide +kernel
theorem dX5_listEvent_66 : decode cX5_listEvent 66 = .ok (.iadd, 1) := by decide +kernel
theorem dX5_listEvent_67 : decode cX5_listEvent 67 = .ok (.putfield 60, 3) := by decide +kernel
theorem dX5_listEvent_70 : decode cX5_listEvent 70 = .ok (.return_, 1) := by decide +kernel
theorem dX5_isControlled_0 : decode cX5_isControlled 0 = .ok (.iload_n 1, 1) := by decide +kernel
theorem dX5_isControlled_1 : decode cX5_isControlled 1 = .ok (.ifCond .lt 22, 3) := by decide +kernel
theorem dX5_isControlled_4 : decode cX5_isControlled 4 = .ok (.aload_n 0, 1) := by decide +kernel
theorem dX5_isControlled_5 : decode cX5_isControlled 5 = .ok (.getfield 17, 3) := by decide +kernel
theorem dX5_isControlled_8 : decode cX5_isControlled 8 = .ok (.iload_n 1, 1) := by decide +kernel
theorem dX5_isControlled_9 : decode cX5_isControlled 9 = .ok (.aaload, 1) := by decide +kernel
theorem dX5_isControlled_10 : decode cX5_isControlled 10 = .ok (.iload_n 2, 1) := by decide +kernel
theorem dX5_isControlled_11 : decode cX5_isControlled 11 = .ok (.iaload, 1) := by decide +kernel
theorem dX5_isControlled_12 : decode cX5_isControlled 12 = .ok (.iload_n 3, 1) := by decide +kernel
theorem dX5_isControlled_13 : decode cX5_isControlled 13 = .ok (.invokestatic 75, 3) := by decide +kernel
theorem dX5_isControlled_16 : decode cX5_isControlled 16 = .ok (.ifCond .eq 7, 3) := by decide +kernel
theorem dX5_isControlled_19 : decode cX5_isControlled 19 = .ok (.iconst 1, 1) := by decide +kernel
theorem dX5_isControlled_20 : decode cX5_isControlled 20 = .ok (.goto 4, 3) := by decide +kernel
theorem dX5_isControlled_23 : decode cX5_isControlled 23 = .ok (.iconst 0, 1) := by decide +kernel
theorem dX5_isControlled_24 : decode cX5_isControlled 24 = .ok (.ireturn, 1) := by decide +kernel
theorem dX5_ofEvent_0 : decode cX5_ofEvent 0 = .ok (.iload_n 1, 1) := by decide +kernel
theorem dX5_ofEvent_1 : decode cX5_ofEvent 1 = .ok (.ifCond .lt 11, 3) := by decide +kernel
theorem dX5_ofEvent_4 : decode cX5_ofEvent 4 = .ok (.iload_n 1, 1) := by decide +kernel
theorem dX5_ofEvent_5 : decode cX5_ofEvent 5 = .ok (.aload_n 0, 1) := by decide +kernel
theorem dX5_ofEvent_6 : decode cX5_ofEvent 6 = .ok (.getfield 60, 3) := by decide +kernel
theorem dX5_ofEvent_9 : decode cX5_ofEvent 9 = .ok (.if_icmp .lt 6, 3) := by decide +kernel
theorem dX5_ofEvent_12 : decode cX5_ofEvent 12 = .ok (.bipush (-6), 2) := by decide +kernel
theorem dX5_ofEvent_14 : decode cX5_ofEvent 14 = .ok (.ireturn, 1) := by decide +kernel
theorem dX5_ofEvent_15 : decode cX5_ofEvent 15 = .ok (.aload_n 0, 1) := by decide +kernel
theorem dX5_ofEvent_16 : decode cX5_ofEvent 16 = .ok (.getfield 20, 3) := by decide +kernel
theorem dX5_ofEvent_19 : decode cX5_ofEvent 19 = .ok (.iload_n 1, 1) := by decide +kernel
theorem dX5_ofEvent_20 : decode cX5_ofEvent 20 = .ok (.iaload, 1) := by decide +kernel
theorem dX5_ofEvent_21 : decode cX5_ofEvent 21 = .ok (.iconst 2, 1) := by decide +kernel
theorem dX5_ofEvent_22 : decode cX5_ofEvent 22 = .ok (.idiv, 1) := by decide +kernel
theorem dX5_ofEvent_23 : decode cX5_ofEvent 23 = .ok (.istore_n 3, 1) := by decide +kernel
theorem dX5_ofEvent_24 : decode cX5_ofEvent 24 = .ok (.iload_n 2, 1) := by decide +kernel
theorem dX5_ofEvent_25 : decode cX5_ofEvent 25 = .ok (.tableswitch 48 0 2 #[27, 37, 44], 27) := by decide +kernel
theorem dX5_ofEvent_52 : decode cX5_ofEvent 52 = .ok (.aload_n 0, 1) := by decide +kernel
theorem dX5_ofEvent_53 : decode cX5_ofEvent 53 = .ok (.getfield 9, 3) := by decide +kernel
theorem dX5_ofEvent_56 : decode cX5_ofEvent 56 = .ok (.iload_n 3, 1) := by decide +kernel
theorem dX5_ofEvent_57 : decode cX5_ofEvent 57 = .ok (.bipush 45, 2) := by decide +kernel
theorem dX5_ofEvent_59 : decode cX5_ofEvent 59 = .ok (.idiv, 1) := by decide +kernel
theorem dX5_ofEvent_60 : decode cX5_ofEvent 60 = .ok (.iaload, 1) := by decide +kernel
theorem dX5_ofEvent_61 : decode cX5_ofEvent 61 = .ok (.ireturn, 1) := by decide +kernel
theorem dX5_ofEvent_62 : decode cX5_ofEvent 62 = .ok (.iload_n 3, 1) := by decide +kernel
theorem dX5_ofEvent_63 : decode cX5_ofEvent 63 = .ok (.iconst 5, 1) := by decide +kernel
theorem dX5_ofEvent_64 : decode cX5_ofEvent 64 = .ok (.idiv, 1) := by decide +kernel
theorem dX5_ofEvent_65 : decode cX5_ofEvent 65 = .ok (.bipush 9, 2) := by decide +kernel
theorem dX5_ofEvent_67 : decode cX5_ofEvent 67 = .ok (.irem, 1) := by decide +kernel
theorem dX5_ofEvent_68 : decode cX5_ofEvent 68 = .ok (.ireturn, 1) := by decide +kernel
theorem dX5_ofEvent_69 : decode cX5_ofEvent 69 = .ok (.iload_n 3, 1) := by decide +kernel
theorem dX5_ofEvent_70 : decode cX5_ofEvent 70 = .ok (.iconst 5, 1) := by decide +kernel
theorem dX5_ofEvent_71 : decode cX5_ofEvent 71 = .ok (.irem, 1) := by decide +kernel
theorem dX5_ofEvent_72 : decode cX5_ofEvent 72 = .ok (.ireturn, 1) := by decide +kernel
theorem dX5_ofEvent_73 : decode cX5_ofEvent 73 = .ok (.aload_n 0, 1) := by decide +kernel
theorem dX5_ofEvent_74 : decode cX5_ofEvent 74 = .ok (.getfield 20, 3) := by decide +kernel
theorem dX5_ofEvent_77 : decode cX5_ofEvent 77 = .ok (.iload_n 1, 1) := by decide +kernel
theorem dX5_ofEvent_78 : decode cX5_ofEvent 78 = .ok (.iaload, 1) := by decide +kernel
theorem dX5_ofEvent_79 : decode cX5_ofEvent 79 = .ok (.iconst 2, 1) := by decide +kernel
theorem dX5_ofEvent_80 : decode cX5_ofEvent 80 = .ok (.irem, 1) := by decide +kernel
theorem dX5_ofEvent_81 : decode cX5_ofEvent 81 = .ok (.ireturn, 1) := by decide +kernel
theorem dX5_firstDay_0 : decode cX5_firstDay 0 = .ok (.aload_n 0, 1) := by decide +kernel
theorem dX5_firstDay_1 : decode cX5_firstDay 1 = .ok (.iload_n 1, 1) := by decide +kernel
theorem dX5_firstDay_2 : decode cX5_firstDay 2 = .ok (.invokevirtual 79, 3) := by decide +kernel
theorem dX5_firstDay_5 : decode cX5_firstDay 5 = .ok (.istore 5, 2) := by decide +kernel
theorem dX5_firstDay_7 : decode cX5_firstDay 7 = .ok (.aload_n 0, 1) := by decide +kernel
theorem dX5_firstDay_8 : decode cX5_firstDay 8 = .ok (.iload 5, 2) := by decide +kernel
theorem dX5_firstDay_10 : decode cX5_firstDay 10 = .ok (.iload_n 2, 1) := by decide +kernel
theorem dX5_firstDay_11 : decode cX5_firstDay 11 = .ok (.iload_n 3, 1) := by decide +kernel
theorem dX5_firstDay_12 : decode cX5_firstDay 12 = .ok (.invokevirtual 67, 3) := by decide +kernel
theorem dX5_firstDay_15 : decode cX5_firstDay 15 = .ok (.iload 4, 2) := by decide +kernel
theorem dX5_firstDay_17 : decode cX5_firstDay 17 = .ok (.if_icmp .ne 5, 3) := by decide +kernel
theorem dX5_firstDay_20 : decode cX5_firstDay 20 = .ok (.iload_n 1, 1) := by decide +kernel
theorem dX5_firstDay_21 : decode cX5_firstDay 21 = .ok (.ireturn, 1) := by decide +kernel
theorem dX5_firstDay_22 : decode cX5_firstDay 22 = .ok (.iload 5, 2) := by decide +kernel
theorem dX5_firstDay_24 : decode cX5_firstDay 24 = .ok (.iconst 1, 1) := by decide +kernel
theorem dX5_firstDay_25 : decode cX5_firstDay 25 = .ok (.iadd, 1) := by decide +kernel
theorem dX5_firstDay_26 : decode cX5_firstDay 26 = .ok (.istore 6, 2) := by decide +kernel
theorem dX5_firstDay_28 : decode cX5_firstDay 28 = .ok (.iload 6, 2) := by decide +kernel
theorem dX5_firstDay_30 : decode cX5_firstDay 30 = .ok (.aload_n 0, 1) := by decide +kernel
theorem dX5_firstDay_31 : decode cX5_firstDay 31 = .ok (.getfield 23, 3) := by decide +kernel
theorem dX5_firstDay_34 : decode cX5_firstDay 34 = .ok (.if_icmp .ge 30, 3) := by decide +kernel
theorem dX5_firstDay_37 : decode cX5_firstDay 37 = .ok (.aload_n 0, 1) := by decide +kernel
theorem dX5_firstDay_38 : decode cX5_firstDay 38 = .ok (.iload 6, 2) := by decide +kernel
theorem dX5_firstDay_40 : decode cX5_firstDay 40 = .ok (.iload_n 2, 1) := by decide +kernel
theorem dX5_firstDay_41 : decode cX5_firstDay 41 = .ok (.iload_n 3, 1) := by decide +kernel
theorem dX5_firstDay_42 : decode cX5_firstDay 42 = .ok (.invokevirtual 67, 3) := by decide +kernel
theorem dX5_firstDay_45 : decode cX5_firstDay 45 = .ok (.iload 4, 2) := by decide +kernel
theorem dX5_firstDay_47 : decode cX5_firstDay 47 = .ok (.if_icmp .ne 11, 3) := by decide +kernel
theorem dX5_firstDay_50 : decode cX5_firstDay 50 = .ok (.aload_n 0, 1) := by decide +kernel
theorem dX5_firstDay_51 : decode cX5_firstDay 51 = .ok (.getfield 9, 3) := by decide +kernel
theorem dX5_firstDay_54 : decode cX5_firstDay 54 = .ok (.iload 6, 2) := by decide +kernel
theorem dX5_firstDay_56 : decode cX5_firstDay 56 = .ok (.iaload, 1) := by decide +kernel
theorem dX5_firstDay_57 : decode cX5_firstDay 57 = .ok (.ireturn, 1) := by decide +kernel
theorem dX5_firstDay_58 : decode cX5_firstDay 58 = .ok (.iinc 6 1, 3) := by decide +kernel
theorem dX5_firstDay_61 : decode cX5_firstDay 61 = .ok (.goto (-33), 3) := by decide +kernel
theorem dX5_firstDay_64 : decode cX5_firstDay 64 = .ok (.bipush (-6), 2) := by decide +kernel
theorem dX5_firstDay_66 : decode cX5_firstDay 66 = .ok (.ireturn, 1) := by decide +kernel
theorem dX5_lastBy_0 : decode cX5_lastBy 0 = .ok (.iconst (-1), 1) := by decide +kernel
theorem dX5_lastBy_1 : decode cX5_lastBy 1 = .ok (.istore_n 2, 1) := by decide +kernel
theorem dX5_lastBy_2 : decode cX5_lastBy 2 = .ok (.iconst 0, 1) := by decide +kernel
theorem dX5_lastBy_3 : decode cX5_lastBy 3 = .ok (.istore_n 3, 1) := by decide +kernel
theorem dX5_lastBy_4 : decode cX5_lastBy 4 = .ok (.iload_n 3, 1) := by decide +kernel
theorem dX5_lastBy_5 : decode cX5_lastBy 5 = .ok (.aload_n 0, 1) := by decide +kernel
theorem dX5_lastBy_6 : decode cX5_lastBy 6 = .ok (.getfield 23, 3) := by decide +kernel
theorem dX5_lastBy_9 : decode cX5_lastBy 9 = .ok (.if_icmp .ge 21, 3) := by decide +kernel
theorem dX5_lastBy_12 : decode cX5_lastBy 12 = .ok (.aload_n 0, 1) := by decide +kernel
theorem dX5_lastBy_13 : decode cX5_lastBy 13 = .ok (.getfield 9, 3) := by decide +kernel
theorem dX5_lastBy_16 : decode cX5_lastBy 16 = .ok (.iload_n 3, 1) := by decide +kernel
theorem dX5_lastBy_17 : decode cX5_lastBy 17 = .ok (.iaload, 1) := by decide +kernel
theorem dX5_lastBy_18 : decode cX5_lastBy 18 = .ok (.iload_n 1, 1) := by decide +kernel
theorem dX5_lastBy_19 : decode cX5_lastBy 19 = .ok (.if_icmp .gt 11, 3) := by decide +kernel
theorem dX5_lastBy_22 : decode cX5_lastBy 22 = .ok (.iload_n 3, 1) := by decide +kernel
theorem dX5_lastBy_23 : decode cX5_lastBy 23 = .ok (.istore_n 2, 1) := by decide +kernel
theorem dX5_lastBy_24 : decode cX5_lastBy 24 = .ok (.iinc 3 1, 3) := by decide +kernel
theorem dX5_lastBy_27 : decode cX5_lastBy 27 = .ok (.goto (-23), 3) := by decide +kernel
theorem dX5_lastBy_30 : decode cX5_lastBy 30 = .ok (.iload_n 2, 1) := by decide +kernel
theorem dX5_lastBy_31 : decode cX5_lastBy 31 = .ok (.ireturn, 1) := by decide +kernel
theorem dJ6_bitCount_0f7a4_0 : decode cJ6_bitCount_0f7a4 0 = .ok (.iload_n 0, 1) := by decide +kernel
theorem dJ6_bitCount_0f7a4_1 : decode cJ6_bitCount_0f7a4 1 = .ok (.iload_n 0, 1) := by decide +kernel
theorem dJ6_bitCount_0f7a4_2 : decode cJ6_bitCount_0f7a4 2 = .ok (.iconst 1, 1) := by decide +kernel
theorem dJ6_bitCount_0f7a4_3 : decode cJ6_bitCount_0f7a4 3 = .ok (.iushr, 1) := by decide +kernel
theorem dJ6_bitCount_0f7a4_4 : decode cJ6_bitCount_0f7a4 4 = .ok (.ldc_w 265, 3) := by decide +kernel
theorem dJ6_bitCount_0f7a4_7 : decode cJ6_bitCount_0f7a4 7 = .ok (.iand, 1) := by decide +kernel
theorem dJ6_bitCount_0f7a4_8 : decode cJ6_bitCount_0f7a4 8 = .ok (.isub, 1) := by decide +kernel
theorem dJ6_bitCount_0f7a4_9 : decode cJ6_bitCount_0f7a4 9 = .ok (.istore_n 0, 1) := by decide +kernel
theorem dJ6_bitCount_0f7a4_10 : decode cJ6_bitCount_0f7a4 10 = .ok (.iload_n 0, 1) := by decide +kernel
theorem dJ6_bitCount_0f7a4_11 : decode cJ6_bitCount_0f7a4 11 = .ok (.ldc_w 266, 3) := by decide +kernel
theorem dJ6_bitCount_0f7a4_14 : decode cJ6_bitCount_0f7a4 14 = .ok (.iand, 1) := by decide +kernel
theorem dJ6_bitCount_0f7a4_15 : decode cJ6_bitCount_0f7a4 15 = .ok (.iload_n 0, 1) := by decide +kernel
theorem dJ6_bitCount_0f7a4_16 : decode cJ6_bitCount_0f7a4 16 = .ok (.iconst 2, 1) := by decide +kernel
theorem dJ6_bitCount_0f7a4_17 : decode cJ6_bitCount_0f7a4 17 = .ok (.iushr, 1) := by decide +kernel
theorem dJ6_bitCount_0f7a4_18 : decode cJ6_bitCount_0f7a4 18 = .ok (.ldc_w 266, 3) := by decide +kernel
theorem dJ6_bitCount_0f7a4_21 : decode cJ6_bitCount_0f7a4 21 = .ok (.iand, 1) := by decide +kernel
theorem dJ6_bitCount_0f7a4_22 : decode cJ6_bitCount_0f7a4 22 = .ok (.iadd, 1) := by decide +kernel
theorem dJ6_bitCount_0f7a4_23 : decode cJ6_bitCount_0f7a4 23 = .ok (.istore_n 0, 1) := by decide +kernel
theorem dJ6_bitCount_0f7a4_24 : decode cJ6_bitCount_0f7a4 24 = .ok (.iload_n 0, 1) := by decide +kernel
theorem dJ6_bitCount_0f7a4_25 : decode cJ6_bitCount_0f7a4 25 = .ok (.iload_n 0, 1) := by decide +kernel
theorem dJ6_bitCount_0f7a4_26 : decode cJ6_bitCount_0f7a4 26 = .ok (.iconst 4, 1) := by decide +kernel
theorem dJ6_bitCount_0f7a4_27 : decode cJ6_bitCount_0f7a4 27 = .ok (.iushr, 1) := by decide +kernel
theorem dJ6_bitCount_0f7a4_28 : decode cJ6_bitCount_0f7a4 28 = .ok (.iadd, 1) := by decide +kernel
theorem dJ6_bitCount_0f7a4_29 : decode cJ6_bitCount_0f7a4 29 = .ok (.ldc_w 267, 3) := by decide +kernel
theorem dJ6_bitCount_0f7a4_32 : decode cJ6_bitCount_0f7a4 32 = .ok (.iand, 1) := by decide +kernel
theorem dJ6_bitCount_0f7a4_33 : decode cJ6_bitCount_0f7a4 33 = .ok (.istore_n 0, 1) := by decide +kernel
theorem dJ6_bitCount_0f7a4_34 : decode cJ6_bitCount_0f7a4 34 = .ok (.iload_n 0, 1) := by decide +kernel
theorem dJ6_bitCount_0f7a4_35 : decode cJ6_bitCount_0f7a4 35 = .ok (.iload_n 0, 1) := by decide +kernel
theorem dJ6_bitCount_0f7a4_36 : decode cJ6_bitCount_0f7a4 36 = .ok (.bipush 8, 2) := by decide +kernel
theorem dJ6_bitCount_0f7a4_38 : decode cJ6_bitCount_0f7a4 38 = .ok (.iushr, 1) := by decide +kernel
theorem dJ6_bitCount_0f7a4_39 : decode cJ6_bitCount_0f7a4 39 = .ok (.iadd, 1) := by decide +kernel
theorem dJ6_bitCount_0f7a4_40 : decode cJ6_bitCount_0f7a4 40 = .ok (.istore_n 0, 1) := by decide +kernel
theorem dJ6_bitCount_0f7a4_41 : decode cJ6_bitCount_0f7a4 41 = .ok (.iload_n 0, 1) := by decide +kernel
theorem dJ6_bitCount_0f7a4_42 : decode cJ6_bitCount_0f7a4 42 = .ok (.iload_n 0, 1) := by decide +kernel
theorem dJ6_bitCount_0f7a4_43 : decode cJ6_bitCount_0f7a4 43 = .ok (.bipush 16, 2) := by decide +kernel
theorem dJ6_bitCount_0f7a4_45 : decode cJ6_bitCount_0f7a4 45 = .ok (.iushr, 1) := by decide +kernel
theorem dJ6_bitCount_0f7a4_46 : decode cJ6_bitCount_0f7a4 46 = .ok (.iadd, 1) := by decide +kernel
theorem dJ6_bitCount_0f7a4_47 : decode cJ6_bitCount_0f7a4 47 = .ok (.istore_n 0, 1) := by decide +kernel
theorem dJ6_bitCount_0f7a4_48 : decode cJ6_bitCount_0f7a4 48 = .ok (.iload_n 0, 1) := by decide +kernel
theorem dJ6_bitCount_0f7a4_49 : decode cJ6_bitCount_0f7a4 49 = .ok (.bipush 63, 2) := by decide +kernel
theorem dJ6_bitCount_0f7a4_51 : decode cJ6_bitCount_0f7a4 51 = .ok (.iand, 1) := by decide +kernel
theorem dJ6_bitCount_0f7a4_52 : decode cJ6_bitCount_0f7a4 52 = .ok (.ireturn, 1) := by decide +kernel
theorem dJ9_max_7cf53_0 : decode cJ9_max_7cf53 0 = .ok (.iload_n 0, 1) := by decide +kernel
theorem dJ9_max_7cf53_1 : decode cJ9_max_7cf53 1 = .ok (.iload_n 1, 1) := by decide +kernel
theorem dJ9_max_7cf53_2 : decode cJ9_max_7cf53 2 = .ok (.if_icmp .lt 7, 3) := by decide +kernel
theorem dJ9_max_7cf53_5 : decode cJ9_max_7cf53 5 = .ok (.iload_n 0, 1) := by decide +kernel
theorem dJ9_max_7cf53_6 : decode cJ9_max_7cf53 6 = .ok (.goto 4, 3) := by decide +kernel
theorem dJ9_max_7cf53_9 : decode cJ9_max_7cf53 9 = .ok (.iload_n 1, 1) := by decide +kernel
theorem dJ9_max_7cf53_10 : decode cJ9_max_7cf53 10 = .ok (.ireturn, 1) := by decide +kernel
end
section
theorem dX6_init_0 : decode cX6_init 0 = .ok (.aload_n 0, 1) := by decide +kernel
theorem dX6_init_1 : decode cX6_init 1 = .ok (.invokespecial 3, 3) := by decide +kernel
theorem dX6_init_4 : decode cX6_init 4 = .ok (.aload_n 0, 1) := by decide +kernel
theorem dX6_init_5 : decode cX6_init 5 = .ok (.new 9, 3) := by decide +kernel
theorem dX6_init_8 : decode cX6_init 8 = .ok (.dup, 1) := by decide +kernel
theorem dX6_init_9 : decode cX6_init 9 = .ok (.invokespecial 11, 3) := by decide +kernel
theorem dX6_init_12 : decode cX6_init 12 = .ok (.putfield 12, 3) := by decide +kernel
theorem dX6_init_15 : decode cX6_init 15 = .ok (.aload_n 0, 1) := by decide +kernel
theorem dX6_init_16 : decode cX6_init 16 = .ok (.new 9, 3) := by decide +kernel
theorem dX6_init_19 : decode cX6_init 19 = .ok (.dup, 1) := by decide +kernel
theorem dX6_init_20 : decode cX6_init 20 = .ok (.invokespecial 11, 3) := by decide +kernel
theorem dX6_init_23 : decode cX6_init 23 = .ok (.putfield 16, 3) := by decide +kernel
theorem dX6_init_26 : decode cX6_init 26 = .ok (.aload_n 0, 1) := by decide +kernel
theorem dX6_init_27 : decode cX6_init 27 = .ok (.new 9, 3) := by decide +kernel
theorem dX6_init_30 : decode cX6_init 30 = .ok (.dup, 1) := by decide +kernel
theorem dX6_init_31 : decode cX6_init 31 = .ok (.invokespecial 11, 3) := by decide +kernel
theorem dX6_init_34 : decode cX6_init 34 = .ok (.putfield 19, 3) := by decide +kernel
theorem dX6_init_37 : decode cX6_init 37 = .ok (.aload_n 0, 1) := by decide +kernel
theorem dX6_init_38 : decode cX6_init 38 = .ok (.new 22, 3) := by decide +kernel
theorem dX6_init_41 : decode cX6_init 41 = .ok (.dup, 1) := by decide +kernel
theorem dX6_init_42 : decode cX6_init 42 = .ok (.invokespecial 24, 3) := by decide +kernel
theorem dX6_init_45 : decode cX6_init 45 = .ok (.putfield 25, 3) := by decide +kernel
theorem dX6_init_48 : decode cX6_init 48 = .ok (.aload_n 0, 1) := by decide +kernel
theorem dX6_init_49 : decode cX6_init 49 = .ok (.new 29, 3) := by decide +kernel
theorem dX6_init_52 : decode cX6_init 52 = .ok (.dup, 1) := by decide +kernel
theorem dX6_init_53 : decode cX6_init 53 = .ok (.invokespecial 31, 3) := by decide +kernel
theorem dX6_init_56 : decode cX6_init 56 = .ok (.putfield 32, 3) := by decide +kernel
theorem dX6_init_59 : decode cX6_init 59 = .ok (.aload_n 0, 1) := by decide +kernel
theorem dX6_init_60 : decode cX6_init 60 = .ok (.new 36, 3) := by decide +kernel
theorem dX6_init_63 : decode cX6_init 63 = .ok (.dup, 1) := by decide +kernel
theorem dX6_init_64 : decode cX6_init 64 = .ok (.invokespecial 38, 3) := by decide +kernel
theorem dX6_init_67 : decode cX6_init 67 = .ok (.putfield 39, 3) := by decide +kernel
theorem dX6_init_70 : decode cX6_init 70 = .ok (.aload_n 0, 1) := by decide +kernel
theorem dX6_init_71 : decode cX6_init 71 = .ok (.new 43, 3) := by decide +kernel
theorem dX6_init_74 : decode cX6_init 74 = .ok (.dup, 1) := by decide +kernel
theorem dX6_init_75 : decode cX6_init 75 = .ok (.invokespecial 45, 3) := by decide +kernel
theorem dX6_init_78 : decode cX6_init 78 = .ok (.putfield 46, 3) := by decide +kernel
theorem dX6_init_81 : decode cX6_init 81 = .ok (.aload_n 0, 1) := by decide +kernel
theorem dX6_init_82 : decode cX6_init 82 = .ok (.new 50, 3) := by decide +kernel
theorem dX6_init_85 : decode cX6_init 85 = .ok (.dup, 1) := by decide +kernel
theorem dX6_init_86 : decode cX6_init 86 = .ok (.invokespecial 52, 3) := by decide +kernel
theorem dX6_init_89 : decode cX6_init 89 = .ok (.putfield 53, 3) := by decide +kernel
theorem dX6_init_92 : decode cX6_init 92 = .ok (.aload_n 0, 1) := by decide +kernel
theorem dX6_init_93 : decode cX6_init 93 = .ok (.new 22, 3) := by decide +kernel
theorem dX6_init_96 : decode cX6_init 96 = .ok (.dup, 1) := by decide +kernel
theorem dX6_init_97 : decode cX6_init 97 = .ok (.invokespecial 24, 3) := by decide +kernel
theorem dX6_init_100 : decode cX6_init 100 = .ok (.putfield 57, 3) := by decide +kernel
theorem dX6_init_103 : decode cX6_init 103 = .ok (.aload_n 0, 1) := by decide +kernel
theorem dX6_init_104 : decode cX6_init 104 = .ok (.new 29, 3) := by decide +kernel
theorem dX6_init_107 : decode cX6_init 107 = .ok (.dup, 1) := by decide +kernel
theorem dX6_init_108 : decode cX6_init 108 = .ok (.invokespecial 31, 3) := by decide +kernel
theorem dX6_init_111 : decode cX6_init 111 = .ok (.putfield 60, 3) := by decide +kernel
theorem dX6_init_114 : decode cX6_init 114 = .ok (.return_, 1) := by decide +kernel
theorem dX6_sellShares_0 : decode cX6_sellShares 0 = .ok (.aload_n 0, 1) := by decide +kernel
theorem dX6_sellShares_1 : decode cX6_sellShares 1 = .ok (.iconst 0, 1) := by decide +kernel
theorem dX6_sellShares_2 : decode cX6_sellShares 2 = .ok (.iload_n 1, 1) := by decide +kernel
theorem dX6_sellShares_3 : decode cX6_sellShares 3 = .ok (.iload_n 2, 1) := by decide +kernel
theorem dX6_sellShares_4 : decode cX6_sellShares 4 = .ok (.iload_n 3, 1) := by decide +kernel
theorem dX6_sellShares_5 : decode cX6_sellShares 5 = .ok (.iload 4, 2) := by decide +kernel
theorem dX6_sellShares_7 : decode cX6_sellShares 7 = .ok (.iload 5, 2) := by decide +kernel
theorem dX6_sellShares_9 : decode cX6_sellShares 9 = .ok (.invokevirtual 63, 3) := by decide +kernel
theorem dX6_sellShares_12 : decode cX6_sellShares 12 = .ok (.ireturn, 1) := by decide +kernel
theorem dX6_sellVotes_0 : decode cX6_sellVotes 0 = .ok (.aload_n 0, 1) := by decide +kernel
theorem dX6_sellVotes_1 : decode cX6_sellVotes 1 = .ok (.iconst 1, 1) := by decide +kernel
theorem dX6_sellVotes_2 : decode cX6_sellVotes 2 = .ok (.iload_n 1, 1) := by decide +kernel
theorem dX6_sellVotes_3 : decode cX6_sellVotes 3 = .ok (.iload_n 2, 1) := by decide +kernel
theorem dX6_sellVotes_4 : decode cX6_sellVotes 4 = .ok (.iload_n 3, 1) := by decide +kernel
theorem dX6_sellVotes_5 : decode cX6_sellVotes 5 = .ok (.iload 4, 2) := by decide +kernel
theorem dX6_sellVotes_7 : decode cX6_sellVotes 7 = .ok (.iload 5, 2) := by decide +kernel
theorem dX6_sellVotes_9 : decode cX6_sellVotes 9 = .ok (.invokevirtual 63, 3) := by decide +kernel
theorem dX6_sellVotes_12 : decode cX6_sellVotes 12 = .ok (.ireturn, 1) := by decide +kernel
theorem dX6_veto_0 : decode cX6_veto 0 = .ok (.iload_n 2, 1) := by decide +kernel
theorem dX6_veto_1 : decode cX6_veto 1 = .ok (.invokestatic 67, 3) := by decide +kernel
theorem dX6_veto_4 : decode cX6_veto 4 = .ok (.ifCond .eq 10, 3) := by decide +kernel
theorem dX6_veto_7 : decode cX6_veto 7 = .ok (.iload_n 3, 1) := by decide +kernel
theorem dX6_veto_8 : decode cX6_veto 8 = .ok (.invokestatic 71, 3) := by decide +kernel
theorem dX6_veto_11 : decode cX6_veto 11 = .ok (.ifCond .ne 5, 3) := by decide +kernel
theorem dX6_veto_14 : decode cX6_veto 14 = .ok (.iconst (-1), 1) := by decide +kernel
theorem dX6_veto_15 : decode cX6_veto 15 = .ok (.ireturn, 1) := by decide +kernel
theorem dX6_veto_16 : decode cX6_veto 16 = .ok (.iload_n 1, 1) := by decide +kernel
theorem dX6_veto_17 : decode cX6_veto 17 = .ok (.invokestatic 74, 3) := by decide +kernel
theorem dX6_veto_20 : decode cX6_veto 20 = .ok (.ifCond .eq 11, 3) := by decide +kernel
theorem dX6_veto_23 : decode cX6_veto 23 = .ok (.iload 4, 2) := by decide +kernel
theorem dX6_veto_25 : decode cX6_veto 25 = .ok (.invokestatic 77, 3) := by decide +kernel
theorem dX6_veto_28 : decode cX6_veto 28 = .ok (.ifCond .ne 6, 3) := by decide +kernel
theorem dX6_veto_31 : decode cX6_veto 31 = .ok (.bipush (-2), 2) := by decide +kernel
theorem dX6_veto_33 : decode cX6_veto 33 = .ok (.ireturn, 1) := by decide +kernel
theorem dX6_veto_34 : decode cX6_veto 34 = .ok (.aload_n 0, 1) := by decide +kernel
theorem dX6_veto_35 : decode cX6_veto 35 = .ok (.iload_n 1, 1) := by decide +kernel
theorem dX6_veto_36 : decode cX6_veto 36 = .ok (.iload 4, 2) := by decide +kernel
theorem dX6_veto_38 : decode cX6_veto 38 = .ok (.iconst 1, 1) := by decide +kernel
theorem dX6_veto_39 : decode cX6_veto 39 = .ok (.if_icmp .ne 7, 3) := by decide +kernel
theorem dX6_veto_42 : decode cX6_veto 42 = .ok (.iconst 2, 1) := by decide +kernel
theorem dX6_veto_43 : decode cX6_veto 43 = .ok (.goto 4, 3) := by decide +kernel
theorem dX6_veto_46 : decode cX6_veto 46 = .ok (.iconst 3, 1) := by decide +kernel
theorem dX6_veto_47 : decode cX6_veto 47 = .ok (.iload_n 3, 1) := by decide +kernel
theorem dX6_veto_48 : decode cX6_veto 48 = .ok (.bipush (-6), 2) := by decide +kernel
theorem dX6_veto_50 : decode cX6_veto 50 = .ok (.iload_n 2, 1) := by decide +kernel
theorem dX6_veto_51 : decode cX6_veto 51 = .ok (.iconst 0, 1) := by decide +kernel
theorem dX6_veto_52 : decode cX6_veto 52 = .ok (.invokevirtual 80, 3) := by decide +kernel
theorem dX6_veto_55 : decode cX6_veto 55 = .ok (.ireturn, 1) := by decide +kernel
theorem dX6_cancel_0 : decode cX6_cancel 0 = .ok (.aload_n 0, 1) := by decide +kernel
theorem dX6_cancel_1 : decode cX6_cancel 1 = .ok (.iload_n 1, 1) := by decide +kernel
theorem dX6_cancel_2 : decode cX6_cancel 2 = .ok (.invokevirtual 83, 3) := by decide +kernel
theorem dX6_cancel_5 : decode cX6_cancel 5 = .ok (.ifCond .ne 5, 3) := by decide +kernel
theorem dX6_cancel_8 : decode cX6_cancel 8 = .ok (.iconst (-1), 1) := by decide +kernel
theorem dX6_cancel_9 : decode cX6_cancel 9 = .ok (.ireturn, 1) := by decide +kernel
theorem dX6_cancel_10 : decode cX6_cancel 10 = .ok (.aload_n 0, 1) := by decide +kernel
theorem dX6_cancel_11 : decode cX6_cancel 11 = .ok (.iload_n 1, 1) := by decide +kernel
theorem dX6_cancel_12 : decode cX6_cancel 12 = .ok (.invokevirtual 86, 3) := by decide +kernel
theorem dX6_cancel_15 : decode cX6_cancel 15 = .ok (.ifCond .ne 6, 3) := by decide +kernel
theorem dX6_cancel_18 : decode cX6_cancel 18 = .ok (.bipush (-5), 2) := by decide +kernel
theorem dX6_cancel_20 : decode cX6_cancel 20 = .ok (.ireturn, 1) := by decide +kernel
theorem dX6_cancel_21 : decode cX6_cancel 21 = .ok (.aload_n 0, 1) := by decide +kernel
theorem dX6_cancel_22 : decode cX6_cancel 22 = .ok (.getfield 12, 3) := by decide +kernel
theorem dX6_cancel_25 : decode cX6_cancel 25 = .ok (.iload_n 1, 1) := by decide +kernel
theorem dX6_cancel_26 : decode cX6_cancel 26 = .ok (.invokevirtual 89, 3) := by decide +kernel
theorem dX6_cancel_29 : decode cX6_cancel 29 = .ok (.aload_n 0, 1) := by decide +kernel
theorem dX6_cancel_30 : decode cX6_cancel 30 = .ok (.invokevirtual 93, 3) := by decide +kernel
theorem dX6_cancel_33 : decode cX6_cancel 33 = .ok (.aload_n 0, 1) := by decide +kernel
theorem dX6_cancel_34 : decode cX6_cancel 34 = .ok (.getfield 12, 3) := by decide +kernel
theorem dX6_cancel_37 : decode cX6_cancel 37 = .ok (.getfield 96, 3) := by decide +kernel
theorem dX6_cancel_40 : decode cX6_cancel 40 = .ok (.ireturn, 1) := by decide +kernel
theorem dX6_told_0 : decode cX6_told 0 = .ok (.aload_n 0, 1) := by decide +kernel
theorem dX6_told_1 : decode cX6_told 1 = .ok (.iload_n 1, 1) := by decide +kernel
theorem dX6_told_2 : decode cX6_told 2 = .ok (.invokevirtual 83, 3) := by decide +kernel
theorem dX6_told_5 : decode cX6_told 5 = .ok (.ifCond .ne 5, 3) := by decide +kernel
theorem dX6_told_8 : decode cX6_told 8 = .ok (.iconst (-1), 1) := by decide +kernel
theorem dX6_told_9 : decode cX6_told 9 = .ok (.ireturn, 1) := by decide +kernel
theorem dX6_told_10 : decode cX6_told 10 = .ok (.iload_n 2, 1) := by decide +kernel
theorem dX6_told_11 : decode cX6_told 11 = .ok (.tableswitch 142 0 7 #[45, 55, 65, 75, 85, 95, 105, 114], 45) := by decide +kernel
theorem dX6_told_56 : decode cX6_told 56 = .ok (.aload_n 0, 1) := by decide +kernel
theorem dX6_told_57 : decode cX6_told 57 = .ok (.getfield 12, 3) := by decide +kernel
theorem dX6_told_60 : decode cX6_told 60 = .ok (.getfield 100, 3) := by decide +kernel
theorem dX6_told_63 : decode cX6_told 63 = .ok (.iload_n 1, 1) := by decide +kernel
theorem dX6_told_64 : decode cX6_told 64 = .ok (.iaload, 1) := by decide +kernel
theorem dX6_told_65 : decode cX6_told 65 = .ok (.ireturn, 1) := by decide +kernel
theorem dX6_told_66 : decode cX6_told 66 = .ok (.aload_n 0, 1) := by decide +kernel
theorem dX6_told_67 : decode cX6_told 67 = .ok (.getfield 12, 3) := by decide +kernel
theorem dX6_told_70 : decode cX6_told 70 = .ok (.getfield 104, 3) := by decide +kernel
theorem dX6_told_73 : decode cX6_told 73 = .ok (.iload_n 1, 1) := by decide +kernel
theorem dX6_told_74 : decode cX6_told 74 = .ok (.iaload, 1) := by decide +kernel
theorem dX6_told_75 : decode cX6_told 75 = .ok (.ireturn, 1) := by decide +kernel
theorem dX6_told_76 : decode cX6_told 76 = .ok (.aload_n 0, 1) := by decide +kernel
theorem dX6_told_77 : decode cX6_told 77 = .ok (.getfield 12, 3) := by decide +kernel
theorem dX6_told_80 : decode cX6_told 80 = .ok (.getfield 107, 3) := by decide +kernel
theorem dX6_told_83 : decode cX6_told 83 = .ok (.iload_n 1, 1) := by decide +kernel
theorem dX6_told_84 : decode cX6_told 84 = .ok (.iaload, 1) := by decide +kernel
theorem dX6_told_85 : decode cX6_told 85 = .ok (.ireturn, 1) := by decide +kernel
theorem dX6_told_86 : decode cX6_told 86 = .ok (.aload_n 0, 1) := by decide +kernel
theorem dX6_told_87 : decode cX6_told 87 = .ok (.getfield 12, 3) := by decide +kernel
theorem dX6_told_90 : decode cX6_told 90 = .ok (.getfield 110, 3) := by decide +kernel
theorem dX6_told_93 : decode cX6_told 93 = .ok (.iload_n 1, 1) := by decide +kernel
theorem dX6_told_94 : decode cX6_told 94 = .ok (.iaload, 1) := by decide +kernel
theorem dX6_told_95 : decode cX6_told 95 = .ok (.ireturn, 1) := by decide +kernel
theorem dX6_told_96 : decode cX6_told 96 = .ok (.aload_n 0, 1) := by decide +kernel
theorem dX6_told_97 : decode cX6_told 97 = .ok (.getfield 12, 3) := by decide +kernel
theorem dX6_told_100 : decode cX6_told 100 = .ok (.getfield 113, 3) := by decide +kernel
theorem dX6_told_103 : decode cX6_told 103 = .ok (.iload_n 1, 1) := by decide +kernel
theorem dX6_told_104 : decode cX6_told 104 = .ok (.iaload, 1) := by decide +kernel
theorem dX6_told_105 : decode cX6_told 105 = .ok (.ireturn, 1) := by decide +kernel
theorem dX6_told_106 : decode cX6_told 106 = .ok (.aload_n 0, 1) := by decide +kernel
theorem dX6_told_107 : decode cX6_told 107 = .ok (.getfield 12, 3) := by decide +kernel
theorem dX6_told_110 : decode cX6_told 110 = .ok (.getfield 116, 3) := by decide +kernel
theorem dX6_told_113 : decode cX6_told 113 = .ok (.iload_n 1, 1) := by decide +kernel
theorem dX6_told_114 : decode cX6_told 114 = .ok (.iaload, 1) := by decide +kernel
theorem dX6_told_115 : decode cX6_told 115 = .ok (.ireturn, 1) := by decide +kernel
theorem dX6_told_116 : decode cX6_told 116 = .ok (.aload_n 0, 1) := by decide +kernel
theorem dX6_told_117 : decode cX6_told 117 = .ok (.getfield 12, 3) := by decide +kernel
theorem dX6_told_120 : decode cX6_told 120 = .ok (.iload_n 1, 1) := by decide +kernel
theorem dX6_told_121 : decode cX6_told 121 = .ok (.invokevirtual 119, 3) := by decide +kernel
theorem dX6_told_124 : decode cX6_told 124 = .ok (.ireturn, 1) := by decide +kernel
theorem dX6_told_125 : decode cX6_told 125 = .ok (.aload_n 0, 1) := by decide +kernel
theorem dX6_told_126 : decode cX6_told 126 = .ok (.getfield 12, 3) := by decide +kernel
theorem dX6_told_129 : decode cX6_told 129 = .ok (.getfield 100, 3) := by decide +kernel
theorem dX6_told_132 : decode cX6_told 132 = .ok (.iload_n 1, 1) := by decide +kernel
theorem dX6_told_133 : decode cX6_told 133 = .ok (.iaload, 1) := by decide +kernel
theorem dX6_told_134 : decode cX6_told 134 = .ok (.aload_n 0, 1) := by decide +kernel
theorem dX6_told_135 : decode cX6_told 135 = .ok (.getfield 12, 3) := by decide +kernel
theorem dX6_told_138 : decode cX6_told 138 = .ok (.getfield 123, 3) := by decide +kernel
theorem dX6_told_141 : decode cX6_told 141 = .ok (.if_icmp .gt 7, 3) := by decide +kernel
theorem dX6_told_144 : decode cX6_told 144 = .ok (.iconst 1, 1) := by decide +kernel
theorem dX6_told_145 : decode cX6_told 145 = .ok (.goto 4, 3) := by decide +kernel
theorem dX6_told_148 : decode cX6_told 148 = .ok (.iconst 0, 1) := by decide +kernel
theorem dX6_told_149 : decode cX6_told 149 = .ok (.invokestatic 126, 3) := by decide +kernel
theorem dX6_told_152 : decode cX6_told 152 = .ok (.ireturn, 1) := by decide +kernel
theorem dX6_told_153 : decode cX6_told 153 = .ok (.bipush (-2), 2) := by decide +kernel
theorem dX6_told_155 : decode cX6_told 155 = .ok (.ireturn, 1) := by decide +kernel
theorem dX6_look_0 : decode cX6_look 0 = .ok (.iload_n 1, 1) := by decide +kernel
theorem dX6_look_1 : decode cX6_look 1 = .ok (.invokestatic 74, 3) := by decide +kernel
theorem dX6_look_4 : decode cX6_look 4 = .ok (.ifCond .ne 6, 3) := by decide +kernel
theorem dX6_look_7 : decode cX6_look 7 = .ok (.bipush (-2), 2) := by decide +kernel
theorem dX6_look_9 : decode cX6_look 9 = .ok (.ireturn, 1) := by decide +kernel
theorem dX6_look_10 : decode cX6_look 10 = .ok (.aload_n 0, 1) := by decide +kernel
theorem dX6_look_11 : decode cX6_look 11 = .ok (.getfield 12, 3) := by decide +kernel
theorem dX6_look_14 : decode cX6_look 14 = .ok (.getfield 123, 3) := by decide +kernel
theorem dX6_look_17 : decode cX6_look 17 = .ok (.istore_n 2, 1) := by decide +kernel
theorem dX6_look_18 : decode cX6_look 18 = .ok (.aload_n 0, 1) := by decide +kernel
theorem dX6_look_19 : decode cX6_look 19 = .ok (.getfield 12, 3) := by decide +kernel
theorem dX6_look_22 : decode cX6_look 22 = .ok (.iload_n 1, 1) := by decide +kernel
theorem dX6_look_23 : decode cX6_look 23 = .ok (.putfield 123, 3) := by decide +kernel
theorem dX6_look_26 : decode cX6_look 26 = .ok (.aload_n 0, 1) := by decide +kernel
theorem dX6_look_27 : decode cX6_look 27 = .ok (.iconst 0, 1) := by decide +kernel
theorem dX6_look_28 : decode cX6_look 28 = .ok (.putfield 130, 3) := by decide +kernel
theorem dX6_look_31 : decode cX6_look 31 = .ok (.iload_n 2, 1) := by decide +kernel
theorem dX6_look_32 : decode cX6_look 32 = .ok (.ireturn, 1) := by decide +kernel
theorem dX6_rule_0 : decode cX6_rule 0 = .ok (.iload_n 1, 1) := by decide +kernel
theorem dX6_rule_1 : decode cX6_rule 1 = .ok (.ifCond .lt 19, 3) := by decide +kernel
theorem dX6_rule_4 : decode cX6_rule 4 = .ok (.iload_n 1, 1) := by decide +kernel
theorem dX6_rule_5 : decode cX6_rule 5 = .ok (.iconst 2, 1) := by decide +kernel
theorem dX6_rule_6 : decode cX6_rule 6 = .ok (.if_icmp .gt 14, 3) := by decide +kernel
theorem dX6_rule_9 : decode cX6_rule 9 = .ok (.iload_n 2, 1) := by decide +kernel
theorem dX6_rule_10 : decode cX6_rule 10 = .ok (.iconst 1, 1) := by decide +kernel
theorem dX6_rule_11 : decode cX6_rule 11 = .ok (.if_icmp .lt 9, 3) := by decide +kernel
theorem dX6_rule_14 : decode cX6_rule 14 = .ok (.iload_n 2, 1) := by decide +kernel
theorem dX6_rule_15 : decode cX6_rule 15 = .ok (.bipush 100, 2) := by decide +kernel
theorem dX6_rule_17 : decode cX6_rule 17 = .ok (.if_icmp .lt 6, 3) := by decide +kernel
theorem dX6_rule_20 : decode cX6_rule 20 = .ok (.bipush (-2), 2) := by decide +kernel
theorem dX6_rule_22 : decode cX6_rule 22 = .ok (.ireturn, 1) := by decide +kernel
theorem dX6_rule_23 : decode cX6_rule 23 = .ok (.iload_n 1, 1) := by decide +kernel
theorem dX6_rule_24 : decode cX6_rule 24 = .ok (.ifCond .ne 22, 3) := by decide +kernel
theorem dX6_rule_27 : decode cX6_rule 27 = .ok (.aload_n 0, 1) := by decide +kernel
theorem dX6_rule_28 : decode cX6_rule 28 = .ok (.getfield 12, 3) := by decide +kernel
theorem dX6_rule_31 : decode cX6_rule 31 = .ok (.getfield 134, 3) := by decide +kernel
theorem dX6_rule_34 : decode cX6_rule 34 = .ok (.istore_n 3, 1) := by decide +kernel
theorem dX6_rule_35 : decode cX6_rule 35 = .ok (.aload_n 0, 1) := by decide +kernel
theorem dX6_rule_36 : decode cX6_rule 36 = .ok (.getfield 12, 3) := by decide +kernel
theorem dX6_rule_39 : decode cX6_rule 39 = .ok (.iload_n 2, 1) := by decide +kernel
theorem dX6_rule_40 : decode cX6_rule 40 = .ok (.putfield 134, 3) := by decide +kernel
theorem dX6_rule_43 : decode cX6_rule 43 = .ok (.goto 43, 3) := by decide +kernel
theorem dX6_rule_46 : decode cX6_rule 46 = .ok (.iload_n 1, 1) := by decide +kernel
theorem dX6_rule_47 : decode cX6_rule 47 = .ok (.iconst 1, 1) := by decide +kernel
theorem dX6_rule_48 : decode cX6_rule 48 = .ok (.if_icmp .ne 22, 3) := by decide +kernel
theorem dX6_rule_51 : decode cX6_rule 51 = .ok (.aload_n 0, 1) := by decide +kernel
theorem dX6_rule_52 : decode cX6_rule 52 = .ok (.getfield 12, 3) := by decide +kernel
theorem dX6_rule_55 : decode cX6_rule 55 = .ok (.getfield 137, 3) := by decide +kernel
theorem dX6_rule_58 : decode cX6_rule 58 = .ok (.istore_n 3, 1) := by decide +kernel
theorem dX6_rule_59 : decode cX6_rule 59 = .ok (.aload_n 0, 1) := by decide +kernel
theorem dX6_rule_60 : decode cX6_rule 60 = .ok (.getfield 12, 3) := by decide +kernel
theorem dX6_rule_63 : decode cX6_rule 63 = .ok (.iload_n 2, 1) := by decide +kernel
theorem dX6_rule_64 : decode cX6_rule 64 = .ok (.putfield 137, 3) := by decide +kernel
theorem dX6_rule_67 : decode cX6_rule 67 = .ok (.goto 19, 3) := by decide +kernel
theorem dX6_rule_70 : decode cX6_rule 70 = .ok (.aload_n 0, 1) := by decide +kernel
theorem dX6_rule_71 : decode cX6_rule 71 = .ok (.getfield 12, 3) := by decide +kernel
theorem dX6_rule_74 : decode cX6_rule 74 = .ok (.getfield 140, 3) := by decide +kernel
theorem dX6_rule_77 : decode cX6_rule 77 = .ok (.istore_n 3, 1) := by decide +kernel
theorem dX6_rule_78 : decode cX6_rule 78 = .ok (.aload_n 0, 1) := by decide +kernel
theorem dX6_rule_79 : decode cX6_rule 79 = .ok (.getfield 12, 3) := by decide +kernel
theorem dX6_rule_82 : decode cX6_rule 82 = .ok (.iload_n 2, 1) := by decide +kernel
theorem dX6_rule_83 : decode cX6_rule 83 = .ok (.putfield 140, 3) := by decide +kernel
theorem dX6_rule_86 : decode cX6_rule 86 = .ok (.aload_n 0, 1) := by decide +kernel
theorem dX6_rule_87 : decode cX6_rule 87 = .ok (.invokevirtual 93, 3) := by decide +kernel
theorem dX6_rule_90 : decode cX6_rule 90 = .ok (.iload_n 3, 1) := by decide +kernel
theorem dX6_rule_91 : decode cX6_rule 91 = .ok (.ireturn, 1) := by decide +kernel
theorem dX6_holds_0 : decode cX6_holds 0 = .ok (.iload_n 1, 1) := by decide +kernel
theorem dX6_holds_1 : decode cX6_holds 1 = .ok (.invokestatic 143, 3) := by decide +kernel
theorem dX6_holds_4 : decode cX6_holds 4 = .ok (.ifCond .eq 10, 3) := by decide +kernel
theorem dX6_holds_7 : decode cX6_holds 7 = .ok (.iload_n 2, 1) := by decide +kernel
theorem dX6_holds_8 : decode cX6_holds 8 = .ok (.invokestatic 71, 3) := by decide +kernel
theorem dX6_holds_11 : decode cX6_holds 11 = .ok (.ifCond .ne 5, 3) := by decide +kernel
theorem dX6_holds_14 : decode cX6_holds 14 = .ok (.iconst (-1), 1) := by decide +kernel
theorem dX6_holds_15 : decode cX6_holds 15 = .ok (.ireturn, 1) := by decide +kernel
theorem dX6_holds_16 : decode cX6_holds 16 = .ok (.aload_n 0, 1) := by decide +kernel
theorem dX6_holds_17 : decode cX6_holds 17 = .ok (.invokevirtual 146, 3) := by decide +kernel
theorem dX6_holds_20 : decode cX6_holds 20 = .ok (.iload_n 3, 1) := by decide +kernel
theorem dX6_holds_21 : decode cX6_holds 21 = .ok (.tableswitch 68 0 2 #[27, 39, 51], 27) := by decide +kernel
theorem dX6_holds_48 : decode cX6_holds 48 = .ok (.aload_n 0, 1) := by decide +kernel
theorem dX6_holds_49 : decode cX6_holds 49 = .ok (.getfield 25, 3) := by decide +kernel
theorem dX6_holds_52 : decode cX6_holds 52 = .ok (.getfield 149, 3) := by decide +kernel
theorem dX6_holds_55 : decode cX6_holds 55 = .ok (.iload_n 2, 1) := by decide +kernel
theorem dX6_holds_56 : decode cX6_holds 56 = .ok (.aaload, 1) := by decide +kernel
theorem dX6_holds_57 : decode cX6_holds 57 = .ok (.iload_n 1, 1) := by decide +kernel
theorem dX6_holds_58 : decode cX6_holds 58 = .ok (.iaload, 1) := by decide +kernel
theorem dX6_holds_59 : decode cX6_holds 59 = .ok (.ireturn, 1) := by decide +kernel
theorem dX6_holds_60 : decode cX6_holds 60 = .ok (.aload_n 0, 1) := by decide +kernel
theorem dX6_holds_61 : decode cX6_holds 61 = .ok (.getfield 25, 3) := by decide +kernel
theorem dX6_holds_64 : decode cX6_holds 64 = .ok (.getfield 153, 3) := by decide +kernel
theorem dX6_holds_67 : decode cX6_holds 67 = .ok (.iload_n 2, 1) := by decide +kernel
theorem dX6_holds_68 : decode cX6_holds 68 = .ok (.aaload, 1) := by decide +kernel
theorem dX6_holds_69 : decode cX6_holds 69 = .ok (.iload_n 1, 1) := by decide +kernel
theorem dX6_holds_70 : decode cX6_holds 70 = .ok (.iaload, 1) := by decide +kernel
theorem dX6_holds_71 : decode cX6_holds 71 = .ok (.ireturn, 1) := by decide +kernel
theorem dX6_holds_72 : decode cX6_holds 72 = .ok (.aload_n 0, 1) := by decide +kernel
theorem dX6_holds_73 : decode cX6_holds 73 = .ok (.getfield 25, 3) := by decide +kernel
theorem dX6_holds_76 : decode cX6_holds 76 = .ok (.getfield 156, 3) := by decide +kernel
theorem dX6_holds_79 : decode cX6_holds 79 = .ok (.iload_n 2, 1) := by decide +kernel
theorem dX6_holds_80 : decode cX6_holds 80 = .ok (.iaload, 1) := by decide +kernel
theorem dX6_holds_81 : decode cX6_holds 81 = .ok (.iload_n 1, 1) := by decide +kernel
theorem dX6_holds_82 : decode cX6_holds 82 = .ok (.invokestatic 159, 3) := by decide +kernel
theorem dX6_holds_85 : decode cX6_holds 85 = .ok (.invokestatic 126, 3) := by decide +kernel
theorem dX6_holds_88 : decode cX6_holds 88 = .ok (.ireturn, 1) := by decide +kernel
theorem dX6_holds_89 : decode cX6_holds 89 = .ok (.bipush (-2), 2) := by decide +kernel
theorem dX6_holds_91 : decode cX6_holds 91 = .ok (.ireturn, 1) := by decide +kernel
theorem dX6_controls_0 : decode cX6_controls 0 = .ok (.iload_n 1, 1) := by decide +kernel
theorem dX6_controls_1 : decode cX6_controls 1 = .ok (.invokestatic 67, 3) := by decide +kernel
theorem dX6_controls_4 : decode cX6_controls 4 = .ok (.ifCond .ne 5, 3) := by decide +kernel
theorem dX6_controls_7 : decode cX6_controls 7 = .ok (.iconst (-1), 1) := by decide +kernel
theorem dX6_controls_8 : decode cX6_controls 8 = .ok (.ireturn, 1) := by decide +kernel
theorem dX6_controls_9 : decode cX6_controls 9 = .ok (.aload_n 0, 1) := by decide +kernel
theorem dX6_controls_10 : decode cX6_controls 10 = .ok (.invokevirtual 146, 3) := by decide +kernel
theorem dX6_controls_13 : decode cX6_controls 13 = .ok (.aload_n 0, 1) := by decide +kernel
theorem dX6_controls_14 : decode cX6_controls 14 = .ok (.getfield 32, 3) := by decide +kernel
theorem dX6_controls_17 : decode cX6_controls 17 = .ok (.getfield 163, 3) := by decide +kernel
theorem dX6_controls_20 : decode cX6_controls 20 = .ok (.iload_n 1, 1) := by decide +kernel
theorem dX6_controls_21 : decode cX6_controls 21 = .ok (.iaload, 1) := by decide +kernel
theorem dX6_controls_22 : decode cX6_controls 22 = .ok (.ireturn, 1) := by decide +kernel
theorem dX6_how_0 : decode cX6_how 0 = .ok (.iload_n 1, 1) := by decide +kernel
theorem dX6_how_1 : decode cX6_how 1 = .ok (.invokestatic 67, 3) := by decide +kernel
theorem dX6_how_4 : decode cX6_how 4 = .ok (.ifCond .eq 10, 3) := by decide +kernel
theorem dX6_how_7 : decode cX6_how 7 = .ok (.iload_n 2, 1) := by decide +kernel
theorem dX6_how_8 : decode cX6_how 8 = .ok (.invokestatic 71, 3) := by decide +kernel
theorem dX6_how_11 : decode cX6_how 11 = .ok (.ifCond .ne 5, 3) := by decide +kernel
theorem dX6_how_14 : decode cX6_how 14 = .ok (.iconst (-1), 1) := by decide +kernel
theorem dX6_how_15 : decode cX6_how 15 = .ok (.ireturn, 1) := by decide +kernel
theorem dX6_how_16 : decode cX6_how 16 = .ok (.aload_n 0, 1) := by decide +kernel
theorem dX6_how_17 : decode cX6_how 17 = .ok (.invokevirtual 146, 3) := by decide +kernel
theorem dX6_how_20 : decode cX6_how 20 = .ok (.iload_n 3, 1) := by decide +kernel
theorem dX6_how_21 : decode cX6_how 21 = .ok (.tableswitch 97 0 4 #[35, 42, 54, 61, 79], 35) := by decide +kernel
theorem dX6_how_56 : decode cX6_how 56 = .ok (.aload_n 0, 1) := by decide +kernel
theorem dX6_how_57 : decode cX6_how 57 = .ok (.iload_n 1, 1) := by decide +kernel
theorem dX6_how_58 : decode cX6_how 58 = .ok (.iload_n 2, 1) := by decide +kernel
theorem dX6_how_59 : decode cX6_how 59 = .ok (.invokevirtual 166, 3) := by decide +kernel
theorem dX6_how_62 : decode cX6_how 62 = .ok (.ireturn, 1) := by decide +kernel
theorem dX6_how_63 : decode cX6_how 63 = .ok (.aload_n 0, 1) := by decide +kernel
theorem dX6_how_64 : decode cX6_how 64 = .ok (.getfield 32, 3) := by decide +kernel
theorem dX6_how_67 : decode cX6_how 67 = .ok (.getfield 170, 3) := by decide +kernel
theorem dX6_how_70 : decode cX6_how 70 = .ok (.iload_n 1, 1) := by decide +kernel
theorem dX6_how_71 : decode cX6_how 71 = .ok (.aaload, 1) := by decide +kernel
theorem dX6_how_72 : decode cX6_how 72 = .ok (.iload_n 2, 1) := by decide +kernel
theorem dX6_how_73 : decode cX6_how 73 = .ok (.iaload, 1) := by decide +kernel
theorem dX6_how_74 : decode cX6_how 74 = .ok (.ireturn, 1) := by decide +kernel
theorem dX6_how_75 : decode cX6_how 75 = .ok (.aload_n 0, 1) := by decide +kernel
theorem dX6_how_76 : decode cX6_how 76 = .ok (.iload_n 1, 1) := by decide +kernel
theorem dX6_how_77 : decode cX6_how 77 = .ok (.iload_n 2, 1) := by decide +kernel
theorem dX6_how_78 : decode cX6_how 78 = .ok (.invokevirtual 173, 3) := by decide +kernel
theorem dX6_how_81 : decode cX6_how 81 = .ok (.ireturn, 1) := by decide +kernel
theorem dX6_how_82 : decode cX6_how 82 = .ok (.aload_n 0, 1) := by decide +kernel
theorem dX6_how_83 : decode cX6_how 83 = .ok (.getfield 32, 3) := by decide +kernel
theorem dX6_how_86 : decode cX6_how 86 = .ok (.iload_n 1, 1) := by decide +kernel
theorem dX6_how_87 : decode cX6_how 87 = .ok (.iload_n 2, 1) := by decide +kernel
theorem dX6_how_88 : decode cX6_how 88 = .ok (.aload_n 0, 1) := by decide +kernel
theorem dX6_how_89 : decode cX6_how 89 = .ok (.getfield 25, 3) := by decide +kernel
theorem dX6_how_92 : decode cX6_how 92 = .ok (.aload_n 0, 1) := by decide +kernel
theorem dX6_how_93 : decode cX6_how 93 = .ok (.getfield 12, 3) := by decide +kernel
theorem dX6_how_96 : decode cX6_how 96 = .ok (.invokevirtual 176, 3) := by decide +kernel
theorem dX6_how_99 : decode cX6_how 99 = .ok (.ireturn, 1) := by decide +kernel
theorem dX6_how_100 : decode cX6_how 100 = .ok (.aload_n 0, 1) := by decide +kernel
theorem dX6_how_101 : decode cX6_how 101 = .ok (.getfield 32, 3) := by decide +kernel
theorem dX6_how_104 : decode cX6_how 104 = .ok (.iload_n 1, 1) := by decide +kernel
theorem dX6_how_105 : decode cX6_how 105 = .ok (.iload_n 2, 1) := by decide +kernel
theorem dX6_how_106 : decode cX6_how 106 = .ok (.aload_n 0, 1) := by decide +kernel
theorem dX6_how_107 : decode cX6_how 107 = .ok (.getfield 25, 3) := by decide +kernel
theorem dX6_how_110 : decode cX6_how 110 = .ok (.aload_n 0, 1) := by decide +kernel
theorem dX6_how_111 : decode cX6_how 111 = .ok (.getfield 12, 3) := by decide +kernel
theorem dX6_how_114 : decode cX6_how 114 = .ok (.invokevirtual 180, 3) := by decide +kernel
theorem dX6_how_117 : decode cX6_how 117 = .ok (.ireturn, 1) := by decide +kernel
theorem dX6_how_118 : decode cX6_how 118 = .ok (.bipush (-2), 2) := by decide +kernel
theorem dX6_how_120 : decode cX6_how 120 = .ok (.ireturn, 1) := by decide +kernel
theorem dX6_above_0 : decode cX6_above 0 = .ok (.iload_n 1, 1) := by decide +kernel
theorem dX6_above_1 : decode cX6_above 1 = .ok (.invokestatic 71, 3) := by decide +kernel
theorem dX6_above_4 : decode cX6_above 4 = .ok (.ifCond .ne 5, 3) := by decide +kernel
theorem dX6_above_7 : decode cX6_above 7 = .ok (.iconst (-1), 1) := by decide +kernel
theorem dX6_above_8 : decode cX6_above 8 = .ok (.ireturn, 1) := by decide +kernel
theorem dX6_above_9 : decode cX6_above 9 = .ok (.aload_n 0, 1) := by decide +kernel
theorem dX6_above_10 : decode cX6_above 10 = .ok (.invokevirtual 146, 3) := by decide +kernel
theorem dX6_above_13 : decode cX6_above 13 = .ok (.iload_n 2, 1) := by decide +kernel
theorem dX6_above_14 : decode cX6_above 14 = .ok (.tableswitch 82 0 3 #[30, 41, 52, 62], 30) := by decide +kernel
theorem dX6_above_44 : decode cX6_above 44 = .ok (.aload_n 0, 1) := by decide +kernel
theorem dX6_above_45 : decode cX6_above 45 = .ok (.getfield 32, 3) := by decide +kernel
theorem dX6_above_48 : decode cX6_above 48 = .ok (.iload_n 1, 1) := by decide +kernel
theorem dX6_above_49 : decode cX6_above 49 = .ok (.iconst 0, 1) := by decide +kernel
theorem dX6_above_50 : decode cX6_above 50 = .ok (.iconst 4, 1) := by decide +kernel
theorem dX6_above_51 : decode cX6_above 51 = .ok (.invokevirtual 183, 3) := by decide +kernel
theorem dX6_above_54 : decode cX6_above 54 = .ok (.ireturn, 1) := by decide +kernel
theorem dX6_above_55 : decode cX6_above 55 = .ok (.aload_n 0, 1) := by decide +kernel
theorem dX6_above_56 : decode cX6_above 56 = .ok (.getfield 32, 3) := by decide +kernel
theorem dX6_above_59 : decode cX6_above 59 = .ok (.iload_n 1, 1) := by decide +kernel
theorem dX6_above_60 : decode cX6_above 60 = .ok (.iconst 4, 1) := by decide +kernel
theorem dX6_above_61 : decode cX6_above 61 = .ok (.iconst 5, 1) := by decide +kernel
theorem dX6_above_62 : decode cX6_above 62 = .ok (.invokevirtual 183, 3) := by decide +kernel
theorem dX6_above_65 : decode cX6_above 65 = .ok (.ireturn, 1) := by decide +kernel
theorem dX6_above_66 : decode cX6_above 66 = .ok (.aload_n 0, 1) := by decide +kernel
theorem dX6_above_67 : decode cX6_above 67 = .ok (.getfield 25, 3) := by decide +kernel
theorem dX6_above_70 : decode cX6_above 70 = .ok (.getfield 156, 3) := by decide +kernel
theorem dX6_above_73 : decode cX6_above 73 = .ok (.iload_n 1, 1) := by decide +kernel
theorem dX6_above_74 : decode cX6_above 74 = .ok (.iaload, 1) := by decide +kernel
theorem dX6_above_75 : decode cX6_above 75 = .ok (.ireturn, 1) := by decide +kernel
theorem dX6_above_76 : decode cX6_above 76 = .ok (.aload_n 0, 1) := by decide +kernel
theorem dX6_above_77 : decode cX6_above 77 = .ok (.getfield 32, 3) := by decide +kernel
theorem dX6_above_80 : decode cX6_above 80 = .ok (.getfield 163, 3) := by decide +kernel
theorem dX6_above_83 : decode cX6_above 83 = .ok (.iload_n 1, 1) := by decide +kernel
theorem dX6_above_84 : decode cX6_above 84 = .ok (.invokestatic 187, 3) := by decide +kernel
theorem dX6_above_87 : decode cX6_above 87 = .ok (.iaload, 1) := by decide +kernel
theorem dX6_above_88 : decode cX6_above 88 = .ok (.iload_n 1, 1) := by decide +kernel
theorem dX6_above_89 : decode cX6_above 89 = .ok (.invokestatic 159, 3) := by decide +kernel
theorem dX6_above_92 : decode cX6_above 92 = .ok (.invokestatic 126, 3) := by decide +kernel
theorem dX6_above_95 : decode cX6_above 95 = .ok (.ireturn, 1) := by decide +kernel
theorem dX6_above_96 : decode cX6_above 96 = .ok (.bipush (-2), 2) := by decide +kernel
theorem dX6_above_98 : decode cX6_above 98 = .ok (.ireturn, 1) := by decide +kernel
theorem dX6_when_0 : decode cX6_when 0 = .ok (.iload_n 1, 1) := by decide +kernel
theorem dX6_when_1 : decode cX6_when 1 = .ok (.invokestatic 67, 3) := by decide +kernel
theorem dX6_when_4 : decode cX6_when 4 = .ok (.ifCond .eq 10, 3) := by decide +kernel
theorem dX6_when_7 : decode cX6_when 7 = .ok (.iload_n 2, 1) := by decide +kernel
theorem dX6_when_8 : decode cX6_when 8 = .ok (.invokestatic 71, 3) := by decide +kernel
theorem dX6_when_11 : decode cX6_when 11 = .ok (.ifCond .ne 5, 3) := by decide +kernel
theorem dX6_when_14 : decode cX6_when 14 = .ok (.iconst (-1), 1) := by decide +kernel
theorem dX6_when_15 : decode cX6_when 15 = .ok (.ireturn, 1) := by decide +kernel
theorem dX6_when_16 : decode cX6_when 16 = .ok (.iload_n 3, 1) := by decide +kernel
theorem dX6_when_17 : decode cX6_when 17 = .ok (.invokestatic 77, 3) := by decide +kernel
theorem dX6_when_20 : decode cX6_when 20 = .ok (.ifCond .ne 6, 3) := by decide +kernel
theorem dX6_when_23 : decode cX6_when 23 = .ok (.bipush (-2), 2) := by decide +kernel
theorem dX6_when_25 : decode cX6_when 25 = .ok (.ireturn, 1) := by decide +kernel
theorem dX6_when_26 : decode cX6_when 26 = .ok (.aload_n 0, 1) := by decide +kernel
theorem dX6_when_27 : decode cX6_when 27 = .ok (.invokevirtual 190, 3) := by decide +kernel
theorem dX6_when_30 : decode cX6_when 30 = .ok (.aload_n 0, 1) := by decide +kernel
theorem dX6_when_31 : decode cX6_when 31 = .ok (.getfield 53, 3) := by decide +kernel
theorem dX6_when_34 : decode cX6_when 34 = .ok (.aload_n 0, 1) := by decide +kernel
theorem dX6_when_35 : decode cX6_when 35 = .ok (.getfield 12, 3) := by decide +kernel
theorem dX6_when_38 : decode cX6_when 38 = .ok (.getfield 123, 3) := by decide +kernel
theorem dX6_when_41 : decode cX6_when 41 = .ok (.iload_n 1, 1) := by decide +kernel
theorem dX6_when_42 : decode cX6_when 42 = .ok (.iload_n 2, 1) := by decide +kernel
theorem dX6_when_43 : decode cX6_when 43 = .ok (.iload_n 3, 1) := by decide +kernel
theorem dX6_when_44 : decode cX6_when 44 = .ok (.iconst 1, 1) := by decide +kernel
theorem dX6_when_45 : decode cX6_when 45 = .ok (.if_icmp .ne 7, 3) := by decide +kernel
theorem dX6_when_48 : decode cX6_when 48 = .ok (.iconst 1, 1) := by decide +kernel
theorem dX6_when_49 : decode cX6_when 49 = .ok (.goto 4, 3) := by decide +kernel
theorem dX6_when_52 : decode cX6_when 52 = .ok (.iconst 0, 1) := by decide +kernel
theorem dX6_when_53 : decode cX6_when 53 = .ok (.invokevirtual 193, 3) := by decide +kernel
theorem dX6_when_56 : decode cX6_when 56 = .ok (.ireturn, 1) := by decide +kernel
theorem dX6_fewest_0 : decode cX6_fewest 0 = .ok (.iload_n 1, 1) := by decide +kernel
theorem dX6_fewest_1 : decode cX6_fewest 1 = .ok (.invokestatic 67, 3) := by decide +kernel
theorem dX6_fewest_4 : decode cX6_fewest 4 = .ok (.ifCond .eq 10, 3) := by decide +kernel
theorem dX6_fewest_7 : decode cX6_fewest 7 = .ok (.iload_n 2, 1) := by decide +kernel
theorem dX6_fewest_8 : decode cX6_fewest 8 = .ok (.invokestatic 71, 3) := by decide +kernel
theorem dX6_fewest_11 : decode cX6_fewest 11 = .ok (.ifCond .ne 5, 3) := by decide +kernel
theorem dX6_fewest_14 : decode cX6_fewest 14 = .ok (.iconst (-1), 1) := by decide +kernel
theorem dX6_fewest_15 : decode cX6_fewest 15 = .ok (.ireturn, 1) := by decide +kernel
theorem dX6_fewest_16 : decode cX6_fewest 16 = .ok (.iload_n 3, 1) := by decide +kernel
theorem dX6_fewest_17 : decode cX6_fewest 17 = .ok (.invokestatic 77, 3) := by decide +kernel
theorem dX6_fewest_20 : decode cX6_fewest 20 = .ok (.ifCond .ne 6, 3) := by decide +kernel
theorem dX6_fewest_23 : decode cX6_fewest 23 = .ok (.bipush (-2), 2) := by decide +kernel
theorem dX6_fewest_25 : decode cX6_fewest 25 = .ok (.ireturn, 1) := by decide +kernel
theorem dX6_fewest_26 : decode cX6_fewest 26 = .ok (.aload_n 0, 1) := by decide +kernel
theorem dX6_fewest_27 : decode cX6_fewest 27 = .ok (.invokevirtual 146, 3) := by decide +kernel
theorem dX6_fewest_30 : decode cX6_fewest 30 = .ok (.iload_n 3, 1) := by decide +kernel
theorem dX6_fewest_31 : decode cX6_fewest 31 = .ok (.ifCond .ne 12, 3) := by decide +kernel
theorem dX6_fewest_34 : decode cX6_fewest 34 = .ok (.aload_n 0, 1) := by decide +kernel
theorem dX6_fewest_35 : decode cX6_fewest 35 = .ok (.iload_n 1, 1) := by decide +kernel
theorem dX6_fewest_36 : decode cX6_fewest 36 = .ok (.iload_n 2, 1) := by decide +kernel
theorem dX6_fewest_37 : decode cX6_fewest 37 = .ok (.invokevirtual 197, 3) := by decide +kernel
theorem dX6_fewest_40 : decode cX6_fewest 40 = .ok (.goto 9, 3) := by decide +kernel
theorem dX6_fewest_43 : decode cX6_fewest 43 = .ok (.aload_n 0, 1) := by decide +kernel
theorem dX6_fewest_44 : decode cX6_fewest 44 = .ok (.iload_n 1, 1) := by decide +kernel
theorem dX6_fewest_45 : decode cX6_fewest 45 = .ok (.iload_n 2, 1) := by decide +kernel
theorem dX6_fewest_46 : decode cX6_fewest 46 = .ok (.invokevirtual 200, 3) := by decide +kernel
theorem dX6_fewest_49 : decode cX6_fewest 49 = .ok (.ireturn, 1) := by decide +kernel
theorem dX6_event_0 : decode cX6_event 0 = .ok (.iload_n 2, 1) := by decide +kernel
theorem dX6_event_1 : decode cX6_event 1 = .ok (.ifCond .lt 8, 3) := by decide +kernel
theorem dX6_event_4 : decode cX6_event 4 = .ok (.iload_n 2, 1) := by decide +kernel
theorem dX6_event_5 : decode cX6_event 5 = .ok (.iconst 3, 1) := by decide +kernel
theorem dX6_event_6 : decode cX6_event 6 = .ok (.if_icmp .le 6, 3) := by decide +kernel
theorem dX6_event_9 : decode cX6_event 9 = .ok (.bipush (-2), 2) := by decide +kernel
theorem dX6_event_11 : decode cX6_event 11 = .ok (.ireturn, 1) := by decide +kernel
theorem dX6_event_12 : decode cX6_event 12 = .ok (.aload_n 0, 1) := by decide +kernel
theorem dX6_event_13 : decode cX6_event 13 = .ok (.invokevirtual 190, 3) := by decide +kernel
theorem dX6_event_16 : decode cX6_event 16 = .ok (.aload_n 0, 1) := by decide +kernel
theorem dX6_event_17 : decode cX6_event 17 = .ok (.getfield 53, 3) := by decide +kernel
theorem dX6_event_20 : decode cX6_event 20 = .ok (.iload_n 1, 1) := by decide +kernel
theorem dX6_event_21 : decode cX6_event 21 = .ok (.iload_n 2, 1) := by decide +kernel
theorem dX6_event_22 : decode cX6_event 22 = .ok (.invokevirtual 203, 3) := by decide +kernel
theorem dX6_event_25 : decode cX6_event 25 = .ok (.ireturn, 1) := by decide +kernel
theorem dX6_stake_0 : decode cX6_stake 0 = .ok (.iload_n 1, 1) := by decide +kernel
theorem dX6_stake_1 : decode cX6_stake 1 = .ok (.invokestatic 206, 3) := by decide +kernel
theorem dX6_stake_4 : decode cX6_stake 4 = .ok (.ifCond .ne 9, 3) := by decide +kernel
theorem dX6_stake_7 : decode cX6_stake 7 = .ok (.iload_n 1, 1) := by decide +kernel
theorem dX6_stake_8 : decode cX6_stake 8 = .ok (.bipush 9, 2) := by decide +kernel
theorem dX6_stake_10 : decode cX6_stake 10 = .ok (.if_icmp .ne 10, 3) := by decide +kernel
theorem dX6_stake_13 : decode cX6_stake 13 = .ok (.iload_n 2, 1) := by decide +kernel
theorem dX6_stake_14 : decode cX6_stake 14 = .ok (.invokestatic 71, 3) := by decide +kernel
theorem dX6_stake_17 : decode cX6_stake 17 = .ok (.ifCond .ne 7, 3) := by decide +kernel
theorem dX6_stake_20 : decode cX6_stake 20 = .ok (.ldc2_w 209, 3) := by decide +kernel
theorem dX6_stake_23 : decode cX6_stake 23 = .ok (.lreturn, 1) := by decide +kernel
theorem dX6_stake_24 : decode cX6_stake 24 = .ok (.iload_n 3, 1) := by decide +kernel
theorem dX6_stake_25 : decode cX6_stake 25 = .ok (.invokestatic 77, 3) := by decide +kernel
theorem dX6_stake_28 : decode cX6_stake 28 = .ok (.ifCond .ne 7, 3) := by decide +kernel
theorem dX6_stake_31 : decode cX6_stake 31 = .ok (.ldc2_w 211, 3) := by decide +kernel
theorem dX6_stake_34 : decode cX6_stake 34 = .ok (.lreturn, 1) := by decide +kernel
theorem dX6_stake_35 : decode cX6_stake 35 = .ok (.aload_n 0, 1) := by decide +kernel
theorem dX6_stake_36 : decode cX6_stake 36 = .ok (.invokevirtual 146, 3) := by decide +kernel
theorem dX6_stake_39 : decode cX6_stake 39 = .ok (.iload_n 1, 1) := by decide +kernel
theorem dX6_stake_40 : decode cX6_stake 40 = .ok (.bipush 9, 2) := by decide +kernel
theorem dX6_stake_42 : decode cX6_stake 42 = .ok (.if_icmp .ne 7, 3) := by decide +kernel
theorem dX6_stake_45 : decode cX6_stake 45 = .ok (.iconst 4, 1) := by decide +kernel
theorem dX6_stake_46 : decode cX6_stake 46 = .ok (.goto 4, 3) := by decide +kernel
theorem dX6_stake_49 : decode cX6_stake 49 = .ok (.iload_n 1, 1) := by decide +kernel
theorem dX6_stake_50 : decode cX6_stake 50 = .ok (.istore 4, 2) := by decide +kernel
theorem dX6_stake_52 : decode cX6_stake 52 = .ok (.aload_n 0, 1) := by decide +kernel
theorem dX6_stake_53 : decode cX6_stake 53 = .ok (.getfield 39, 3) := by decide +kernel
theorem dX6_stake_56 : decode cX6_stake 56 = .ok (.iload_n 2, 1) := by decide +kernel
theorem dX6_stake_57 : decode cX6_stake 57 = .ok (.iload 4, 2) := by decide +kernel
theorem dX6_stake_59 : decode cX6_stake 59 = .ok (.invokevirtual 213, 3) := by decide +kernel
theorem dX6_stake_62 : decode cX6_stake 62 = .ok (.aload_n 0, 1) := by decide +kernel
theorem dX6_stake_63 : decode cX6_stake 63 = .ok (.getfield 39, 3) := by decide +kernel
theorem dX6_stake_66 : decode cX6_stake 66 = .ok (.iload_n 2, 1) := by decide +kernel
theorem dX6_stake_67 : decode cX6_stake 67 = .ok (.invokevirtual 217, 3) := by decide +kernel
theorem dX6_stake_70 : decode cX6_stake 70 = .ok (.iload_n 3, 1) := by decide +kernel
theorem dX6_stake_71 : decode cX6_stake 71 = .ok (.invokestatic 221, 3) := by decide +kernel
theorem dX6_stake_74 : decode cX6_stake 74 = .ok (.lreturn, 1) := by decide +kernel
theorem dX6_nobody_0 : decode cX6_nobody 0 = .ok (.iload_n 1, 1) := by decide +kernel
theorem dX6_nobody_1 : decode cX6_nobody 1 = .ok (.invokestatic 71, 3) := by decide +kernel
theorem dX6_nobody_4 : decode cX6_nobody 4 = .ok (.ifCond .ne 7, 3) := by decide +kernel
theorem dX6_nobody_7 : decode cX6_nobody 7 = .ok (.ldc2_w 209, 3) := by decide +kernel
theorem dX6_nobody_10 : decode cX6_nobody 10 = .ok (.lreturn, 1) := by decide +kernel
theorem dX6_nobody_11 : decode cX6_nobody 11 = .ok (.iload_n 2, 1) := by decide +kernel
theorem dX6_nobody_12 : decode cX6_nobody 12 = .ok (.invokestatic 77, 3) := by decide +kernel
theorem dX6_nobody_15 : decode cX6_nobody 15 = .ok (.ifCond .ne 7, 3) := by decide +kernel
theorem dX6_nobody_18 : decode cX6_nobody 18 = .ok (.ldc2_w 211, 3) := by decide +kernel
theorem dX6_nobody_21 : decode cX6_nobody 21 = .ok (.lreturn, 1) := by decide +kernel
theorem dX6_nobody_22 : decode cX6_nobody 22 = .ok (.aload_n 0, 1) := by decide +kernel
theorem dX6_nobody_23 : decode cX6_nobody 23 = .ok (.invokevirtual 146, 3) := by decide +kernel
theorem dX6_nobody_26 : decode cX6_nobody 26 = .ok (.aload_n 0, 1) := by decide +kernel
theorem dX6_nobody_27 : decode cX6_nobody 27 = .ok (.getfield 39, 3) := by decide +kernel
theorem dX6_nobody_30 : decode cX6_nobody 30 = .ok (.iload_n 1, 1) := by decide +kernel
theorem dX6_nobody_31 : decode cX6_nobody 31 = .ok (.invokevirtual 225, 3) := by decide +kernel
theorem dX6_nobody_34 : decode cX6_nobody 34 = .ok (.aload_n 0, 1) := by decide +kernel
theorem dX6_nobody_35 : decode cX6_nobody 35 = .ok (.getfield 39, 3) := by decide +kernel
theorem dX6_nobody_38 : decode cX6_nobody 38 = .ok (.iload_n 1, 1) := by decide +kernel
theorem dX6_nobody_39 : decode cX6_nobody 39 = .ok (.invokevirtual 217, 3) := by decide +kernel
theorem dX6_nobody_42 : decode cX6_nobody 42 = .ok (.iload_n 2, 1) := by decide +kernel
theorem dX6_nobody_43 : decode cX6_nobody 43 = .ok (.invokestatic 221, 3) := by decide +kernel
theorem dX6_nobody_46 : decode cX6_nobody 46 = .ok (.lreturn, 1) := by decide +kernel
theorem dX6_ranked_0 : decode cX6_ranked 0 = .ok (.iload_n 1, 1) := by decide +kernel
theorem dX6_ranked_1 : decode cX6_ranked 1 = .ok (.invokestatic 71, 3) := by decide +kernel
theorem dX6_ranked_4 : decode cX6_ranked 4 = .ok (.ifCond .ne 5, 3) := by decide +kernel
theorem dX6_ranked_7 : decode cX6_ranked 7 = .ok (.iconst (-1), 1) := by decide +kernel
theorem dX6_ranked_8 : decode cX6_ranked 8 = .ok (.ireturn, 1) := by decide +kernel
theorem dX6_ranked_9 : decode cX6_ranked 9 = .ok (.aload_n 0, 1) := by decide +kernel
theorem dX6_ranked_10 : decode cX6_ranked 10 = .ok (.invokevirtual 146, 3) := by decide +kernel
theorem dX6_ranked_13 : decode cX6_ranked 13 = .ok (.iconst 0, 1) := by decide +kernel
theorem dX6_ranked_14 : decode cX6_ranked 14 = .ok (.istore_n 3, 1) := by decide +kernel
theorem dX6_ranked_15 : decode cX6_ranked 15 = .ok (.iload_n 3, 1) := by decide +kernel
theorem dX6_ranked_16 : decode cX6_ranked 16 = .ok (.iconst 4, 1) := by decide +kernel
theorem dX6_ranked_17 : decode cX6_ranked 17 = .ok (.if_icmp .ge 38, 3) := by decide +kernel
theorem dX6_ranked_20 : decode cX6_ranked 20 = .ok (.aload_n 0, 1) := by decide +kernel
theorem dX6_ranked_21 : decode cX6_ranked 21 = .ok (.getfield 39, 3) := by decide +kernel
theorem dX6_ranked_24 : decode cX6_ranked 24 = .ok (.iload_n 1, 1) := by decide +kernel
theorem dX6_ranked_25 : decode cX6_ranked 25 = .ok (.iload_n 3, 1) := by decide +kernel
theorem dX6_ranked_26 : decode cX6_ranked 26 = .ok (.invokevirtual 213, 3) := by decide +kernel
theorem dX6_ranked_29 : decode cX6_ranked 29 = .ok (.lconst 0, 1) := by decide +kernel
theorem dX6_ranked_30 : decode cX6_ranked 30 = .ok (.lcmp, 1) := by decide +kernel
theorem dX6_ranked_31 : decode cX6_ranked 31 = .ok (.ifCond .le 18, 3) := by decide +kernel
theorem dX6_ranked_34 : decode cX6_ranked 34 = .ok (.aload_n 0, 1) := by decide +kernel
theorem dX6_ranked_35 : decode cX6_ranked 35 = .ok (.getfield 39, 3) := by decide +kernel
theorem dX6_ranked_38 : decode cX6_ranked 38 = .ok (.iload_n 1, 1) := by decide +kernel
theorem dX6_ranked_39 : decode cX6_ranked 39 = .ok (.iload_n 3, 1) := by decide +kernel
theorem dX6_ranked_40 : decode cX6_ranked 40 = .ok (.invokevirtual 228, 3) := by decide +kernel
theorem dX6_ranked_43 : decode cX6_ranked 43 = .ok (.iload_n 2, 1) := by decide +kernel
theorem dX6_ranked_44 : decode cX6_ranked 44 = .ok (.if_icmp .ne 5, 3) := by decide +kernel
theorem dX6_ranked_47 : decode cX6_ranked 47 = .ok (.iload_n 3, 1) := by decide +kernel
theorem dX6_ranked_48 : decode cX6_ranked 48 = .ok (.ireturn, 1) := by decide +kernel
theorem dX6_ranked_49 : decode cX6_ranked 49 = .ok (.iinc 3 1, 3) := by decide +kernel
theorem dX6_ranked_52 : decode cX6_ranked 52 = .ok (.goto (-37), 3) := by decide +kernel
theorem dX6_ranked_55 : decode cX6_ranked 55 = .ok (.bipush (-6), 2) := by decide +kernel
theorem dX6_ranked_57 : decode cX6_ranked 57 = .ok (.ireturn, 1) := by decide +kernel
theorem dX6_owners_0 : decode cX6_owners 0 = .ok (.iload_n 1, 1) := by decide +kernel
theorem dX6_owners_1 : decode cX6_owners 1 = .ok (.invokestatic 71, 3) := by decide +kernel
theorem dX6_owners_4 : decode cX6_owners 4 = .ok (.ifCond .ne 5, 3) := by decide +kernel
theorem dX6_owners_7 : decode cX6_owners 7 = .ok (.iconst (-1), 1) := by decide +kernel
theorem dX6_owners_8 : decode cX6_owners 8 = .ok (.ireturn, 1) := by decide +kernel
theorem dX6_owners_9 : decode cX6_owners 9 = .ok (.aload_n 0, 1) := by decide +kernel
theorem dX6_owners_10 : decode cX6_owners 10 = .ok (.invokevirtual 146, 3) := by decide +kernel
theorem dX6_owners_13 : decode cX6_owners 13 = .ok (.aload_n 0, 1) := by decide +kernel
theorem dX6_owners_14 : decode cX6_owners 14 = .ok (.getfield 32, 3) := by decide +kernel
theorem dX6_owners_17 : decode cX6_owners 17 = .ok (.iload_n 1, 1) := by decide +kernel
theorem dX6_owners_18 : decode cX6_owners 18 = .ok (.iconst 0, 1) := by decide +kernel
theorem dX6_owners_19 : decode cX6_owners 19 = .ok (.iconst 4, 1) := by decide +kernel
theorem dX6_owners_20 : decode cX6_owners 20 = .ok (.invokevirtual 183, 3) := by decide +kernel
theorem dX6_owners_23 : decode cX6_owners 23 = .ok (.aload_n 0, 1) := by decide +kernel
theorem dX6_owners_24 : decode cX6_owners 24 = .ok (.getfield 39, 3) := by decide +kernel
theorem dX6_owners_27 : decode cX6_owners 27 = .ok (.iload_n 1, 1) := by decide +kernel
theorem dX6_owners_28 : decode cX6_owners 28 = .ok (.aload_n 0, 1) := by decide +kernel
theorem dX6_owners_29 : decode cX6_owners 29 = .ok (.getfield 12, 3) := by decide +kernel
theorem dX6_owners_32 : decode cX6_owners 32 = .ok (.getfield 140, 3) := by decide +kernel
theorem dX6_owners_35 : decode cX6_owners 35 = .ok (.invokevirtual 231, 3) := by decide +kernel
theorem dX6_owners_38 : decode cX6_owners 38 = .ok (.ior, 1) := by decide +kernel
theorem dX6_owners_39 : decode cX6_owners 39 = .ok (.ireturn, 1) := by decide +kernel
theorem dX6_circle_0 : decode cX6_circle 0 = .ok (.iload_n 1, 1) := by decide +kernel
theorem dX6_circle_1 : decode cX6_circle 1 = .ok (.invokestatic 71, 3) := by decide +kernel
theorem dX6_circle_4 : decode cX6_circle 4 = .ok (.ifCond .ne 5, 3) := by decide +kernel
theorem dX6_circle_7 : decode cX6_circle 7 = .ok (.iconst (-1), 1) := by decide +kernel
theorem dX6_circle_8 : decode cX6_circle 8 = .ok (.ireturn, 1) := by decide +kernel
theorem dX6_circle_9 : decode cX6_circle 9 = .ok (.aload_n 0, 1) := by decide +kernel
theorem dX6_circle_10 : decode cX6_circle 10 = .ok (.invokevirtual 146, 3) := by decide +kernel
theorem dX6_circle_13 : decode cX6_circle 13 = .ok (.aload_n 0, 1) := by decide +kernel
theorem dX6_circle_14 : decode cX6_circle 14 = .ok (.getfield 46, 3) := by decide +kernel
theorem dX6_circle_17 : decode cX6_circle 17 = .ok (.iload_n 1, 1) := by decide +kernel
theorem dX6_circle_18 : decode cX6_circle 18 = .ok (.invokevirtual 234, 3) := by decide +kernel
theorem dX6_circle_21 : decode cX6_circle 21 = .ok (.ireturn, 1) := by decide +kernel
theorem dX6_image_0 : decode cX6_image 0 = .ok (.iload_n 1, 1) := by decide +kernel
theorem dX6_image_1 : decode cX6_image 1 = .ok (.invokestatic 77, 3) := by decide +kernel
end
section
theorem dX6_image_4 : decode cX6_image 4 = .ok (.ifCond .ne 6, 3) := by decide +kernel
theorem dX6_image_7 : decode cX6_image 7 = .ok (.bipush (-2), 2) := by decide +kernel
theorem dX6_image_9 : decode cX6_image 9 = .ok (.ireturn, 1) := by decide +kernel
theorem dX6_image_10 : decode cX6_image 10 = .ok (.aload_n 0, 1) := by decide +kernel
theorem dX6_image_11 : decode cX6_image 11 = .ok (.iload_n 1, 1) := by decide +kernel
theorem dX6_image_12 : decode cX6_image 12 = .ok (.invokevirtual 237, 3) := by decide +kernel
theorem dX6_image_15 : decode cX6_image 15 = .ok (.aload_n 0, 1) := by decide +kernel
theorem dX6_image_16 : decode cX6_image 16 = .ok (.getfield 12, 3) := by decide +kernel
theorem dX6_image_19 : decode cX6_image 19 = .ok (.invokevirtual 241, 3) := by decide +kernel
theorem dX6_image_22 : decode cX6_image 22 = .ok (.aload_n 0, 1) := by decide +kernel
theorem dX6_image_23 : decode cX6_image 23 = .ok (.dup, 1) := by decide +kernel
theorem dX6_image_24 : decode cX6_image 24 = .ok (.getfield 245, 3) := by decide +kernel
theorem dX6_image_27 : decode cX6_image 27 = .ok (.iconst 1, 1) := by decide +kernel
theorem dX6_image_28 : decode cX6_image 28 = .ok (.iload_n 1, 1) := by decide +kernel
theorem dX6_image_29 : decode cX6_image 29 = .ok (.ishl, 1) := by decide +kernel
theorem dX6_image_30 : decode cX6_image 30 = .ok (.ior, 1) := by decide +kernel
theorem dX6_image_31 : decode cX6_image 31 = .ok (.putfield 245, 3) := by decide +kernel
theorem dX6_image_34 : decode cX6_image 34 = .ok (.iconst 1, 1) := by decide +kernel
theorem dX6_image_35 : decode cX6_image 35 = .ok (.ireturn, 1) := by decide +kernel
theorem dX6_restore_0 : decode cX6_restore 0 = .ok (.iload_n 1, 1) := by decide +kernel
theorem dX6_restore_1 : decode cX6_restore 1 = .ok (.invokestatic 77, 3) := by decide +kernel
theorem dX6_restore_4 : decode cX6_restore 4 = .ok (.ifCond .ne 6, 3) := by decide +kernel
theorem dX6_restore_7 : decode cX6_restore 7 = .ok (.bipush (-2), 2) := by decide +kernel
theorem dX6_restore_9 : decode cX6_restore 9 = .ok (.ireturn, 1) := by decide +kernel
theorem dX6_restore_10 : decode cX6_restore 10 = .ok (.aload_n 0, 1) := by decide +kernel
theorem dX6_restore_11 : decode cX6_restore 11 = .ok (.getfield 245, 3) := by decide +kernel
theorem dX6_restore_14 : decode cX6_restore 14 = .ok (.iload_n 1, 1) := by decide +kernel
theorem dX6_restore_15 : decode cX6_restore 15 = .ok (.invokestatic 159, 3) := by decide +kernel
theorem dX6_restore_18 : decode cX6_restore 18 = .ok (.ifCond .ne 6, 3) := by decide +kernel
theorem dX6_restore_21 : decode cX6_restore 21 = .ok (.bipush (-3), 2) := by decide +kernel
theorem dX6_restore_23 : decode cX6_restore 23 = .ok (.ireturn, 1) := by decide +kernel
theorem dX6_restore_24 : decode cX6_restore 24 = .ok (.aload_n 0, 1) := by decide +kernel
theorem dX6_restore_25 : decode cX6_restore 25 = .ok (.getfield 12, 3) := by decide +kernel
theorem dX6_restore_28 : decode cX6_restore 28 = .ok (.aload_n 0, 1) := by decide +kernel
theorem dX6_restore_29 : decode cX6_restore 29 = .ok (.iload_n 1, 1) := by decide +kernel
theorem dX6_restore_30 : decode cX6_restore 30 = .ok (.invokevirtual 237, 3) := by decide +kernel
theorem dX6_restore_33 : decode cX6_restore 33 = .ok (.invokevirtual 241, 3) := by decide +kernel
theorem dX6_restore_36 : decode cX6_restore 36 = .ok (.aload_n 0, 1) := by decide +kernel
theorem dX6_restore_37 : decode cX6_restore 37 = .ok (.invokevirtual 93, 3) := by decide +kernel
theorem dX6_restore_40 : decode cX6_restore 40 = .ok (.iconst 1, 1) := by decide +kernel
theorem dX6_restore_41 : decode cX6_restore 41 = .ok (.ireturn, 1) := by decide +kernel
theorem dX6_count_0 : decode cX6_count 0 = .ok (.iload_n 1, 1) := by decide +kernel
theorem dX6_count_1 : decode cX6_count 1 = .ok (.bipush 10, 2) := by decide +kernel
theorem dX6_count_3 : decode cX6_count 3 = .ok (.if_icmp .lt 21, 3) := by decide +kernel
theorem dX6_count_6 : decode cX6_count 6 = .ok (.iload_n 1, 1) := by decide +kernel
theorem dX6_count_7 : decode cX6_count 7 = .ok (.bipush 50, 2) := by decide +kernel
theorem dX6_count_9 : decode cX6_count 9 = .ok (.if_icmp .ge 15, 3) := by decide +kernel
theorem dX6_count_12 : decode cX6_count 12 = .ok (.aload_n 0, 1) := by decide +kernel
theorem dX6_count_13 : decode cX6_count 13 = .ok (.getfield 12, 3) := by decide +kernel
theorem dX6_count_16 : decode cX6_count 16 = .ok (.iload_n 1, 1) := by decide +kernel
theorem dX6_count_17 : decode cX6_count 17 = .ok (.bipush 10, 2) := by decide +kernel
theorem dX6_count_19 : decode cX6_count 19 = .ok (.isub, 1) := by decide +kernel
theorem dX6_count_20 : decode cX6_count 20 = .ok (.invokevirtual 248, 3) := by decide +kernel
theorem dX6_count_23 : decode cX6_count 23 = .ok (.ireturn, 1) := by decide +kernel
theorem dX6_count_24 : decode cX6_count 24 = .ok (.iload_n 1, 1) := by decide +kernel
theorem dX6_count_25 : decode cX6_count 25 = .ok (.tableswitch 151 0 9 #[55, 63, 71, 79, 87, 95, 110, 122, 134, 146], 55) := by decide +kernel
theorem dX6_count_80 : decode cX6_count 80 = .ok (.aload_n 0, 1) := by decide +kernel
theorem dX6_count_81 : decode cX6_count 81 = .ok (.getfield 12, 3) := by decide +kernel
theorem dX6_count_84 : decode cX6_count 84 = .ok (.getfield 96, 3) := by decide +kernel
theorem dX6_count_87 : decode cX6_count 87 = .ok (.ireturn, 1) := by decide +kernel
theorem dX6_count_88 : decode cX6_count 88 = .ok (.aload_n 0, 1) := by decide +kernel
theorem dX6_count_89 : decode cX6_count 89 = .ok (.getfield 12, 3) := by decide +kernel
theorem dX6_count_92 : decode cX6_count 92 = .ok (.getfield 123, 3) := by decide +kernel
theorem dX6_count_95 : decode cX6_count 95 = .ok (.ireturn, 1) := by decide +kernel
theorem dX6_count_96 : decode cX6_count 96 = .ok (.aload_n 0, 1) := by decide +kernel
theorem dX6_count_97 : decode cX6_count 97 = .ok (.getfield 12, 3) := by decide +kernel
theorem dX6_count_100 : decode cX6_count 100 = .ok (.getfield 134, 3) := by decide +kernel
theorem dX6_count_103 : decode cX6_count 103 = .ok (.ireturn, 1) := by decide +kernel
theorem dX6_count_104 : decode cX6_count 104 = .ok (.aload_n 0, 1) := by decide +kernel
theorem dX6_count_105 : decode cX6_count 105 = .ok (.getfield 12, 3) := by decide +kernel
theorem dX6_count_108 : decode cX6_count 108 = .ok (.getfield 137, 3) := by decide +kernel
theorem dX6_count_111 : decode cX6_count 111 = .ok (.ireturn, 1) := by decide +kernel
theorem dX6_count_112 : decode cX6_count 112 = .ok (.aload_n 0, 1) := by decide +kernel
theorem dX6_count_113 : decode cX6_count 113 = .ok (.getfield 12, 3) := by decide +kernel
theorem dX6_count_116 : decode cX6_count 116 = .ok (.getfield 140, 3) := by decide +kernel
theorem dX6_count_119 : decode cX6_count 119 = .ok (.ireturn, 1) := by decide +kernel
theorem dX6_count_120 : decode cX6_count 120 = .ok (.aload_n 0, 1) := by decide +kernel
theorem dX6_count_121 : decode cX6_count 121 = .ok (.getfield 12, 3) := by decide +kernel
theorem dX6_count_124 : decode cX6_count 124 = .ok (.aload_n 0, 1) := by decide +kernel
theorem dX6_count_125 : decode cX6_count 125 = .ok (.getfield 12, 3) := by decide +kernel
theorem dX6_count_128 : decode cX6_count 128 = .ok (.getfield 123, 3) := by decide +kernel
theorem dX6_count_131 : decode cX6_count 131 = .ok (.invokevirtual 251, 3) := by decide +kernel
theorem dX6_count_134 : decode cX6_count 134 = .ok (.ireturn, 1) := by decide +kernel
theorem dX6_count_135 : decode cX6_count 135 = .ok (.aload_n 0, 1) := by decide +kernel
theorem dX6_count_136 : decode cX6_count 136 = .ok (.invokevirtual 146, 3) := by decide +kernel
theorem dX6_count_139 : decode cX6_count 139 = .ok (.aload_n 0, 1) := by decide +kernel
theorem dX6_count_140 : decode cX6_count 140 = .ok (.getfield 32, 3) := by decide +kernel
theorem dX6_count_143 : decode cX6_count 143 = .ok (.invokevirtual 254, 3) := by decide +kernel
theorem dX6_count_146 : decode cX6_count 146 = .ok (.ireturn, 1) := by decide +kernel
theorem dX6_count_147 : decode cX6_count 147 = .ok (.aload_n 0, 1) := by decide +kernel
theorem dX6_count_148 : decode cX6_count 148 = .ok (.invokevirtual 190, 3) := by decide +kernel
theorem dX6_count_151 : decode cX6_count 151 = .ok (.aload_n 0, 1) := by decide +kernel
theorem dX6_count_152 : decode cX6_count 152 = .ok (.getfield 53, 3) := by decide +kernel
theorem dX6_count_155 : decode cX6_count 155 = .ok (.getfield 258, 3) := by decide +kernel
theorem dX6_count_158 : decode cX6_count 158 = .ok (.ireturn, 1) := by decide +kernel
theorem dX6_count_159 : decode cX6_count 159 = .ok (.aload_n 0, 1) := by decide +kernel
theorem dX6_count_160 : decode cX6_count 160 = .ok (.invokevirtual 146, 3) := by decide +kernel
theorem dX6_count_163 : decode cX6_count 163 = .ok (.aload_n 0, 1) := by decide +kernel
theorem dX6_count_164 : decode cX6_count 164 = .ok (.getfield 39, 3) := by decide +kernel
theorem dX6_count_167 : decode cX6_count 167 = .ok (.getfield 261, 3) := by decide +kernel
theorem dX6_count_170 : decode cX6_count 170 = .ok (.ireturn, 1) := by decide +kernel
theorem dX6_count_171 : decode cX6_count 171 = .ok (.aload_n 0, 1) := by decide +kernel
theorem dX6_count_172 : decode cX6_count 172 = .ok (.getfield 245, 3) := by decide +kernel
theorem dX6_count_175 : decode cX6_count 175 = .ok (.ireturn, 1) := by decide +kernel
theorem dX6_count_176 : decode cX6_count 176 = .ok (.bipush (-2), 2) := by decide +kernel
theorem dX6_count_178 : decode cX6_count 178 = .ok (.ireturn, 1) := by decide +kernel
theorem dX6_isHolder_0 : decode cX6_isHolder 0 = .ok (.iload_n 0, 1) := by decide +kernel
theorem dX6_isHolder_1 : decode cX6_isHolder 1 = .ok (.ifCond .lt 13, 3) := by decide +kernel
theorem dX6_isHolder_4 : decode cX6_isHolder 4 = .ok (.iload_n 0, 1) := by decide +kernel
theorem dX6_isHolder_5 : decode cX6_isHolder 5 = .ok (.bipush 10, 2) := by decide +kernel
theorem dX6_isHolder_7 : decode cX6_isHolder 7 = .ok (.if_icmp .ge 7, 3) := by decide +kernel
theorem dX6_isHolder_10 : decode cX6_isHolder 10 = .ok (.iconst 1, 1) := by decide +kernel
theorem dX6_isHolder_11 : decode cX6_isHolder 11 = .ok (.goto 4, 3) := by decide +kernel
theorem dX6_isHolder_14 : decode cX6_isHolder 14 = .ok (.iconst 0, 1) := by decide +kernel
theorem dX6_isHolder_15 : decode cX6_isHolder 15 = .ok (.ireturn, 1) := by decide +kernel
theorem dX6_isPerson_0 : decode cX6_isPerson 0 = .ok (.iload_n 0, 1) := by decide +kernel
theorem dX6_isPerson_1 : decode cX6_isPerson 1 = .ok (.ifCond .lt 12, 3) := by decide +kernel
theorem dX6_isPerson_4 : decode cX6_isPerson 4 = .ok (.iload_n 0, 1) := by decide +kernel
theorem dX6_isPerson_5 : decode cX6_isPerson 5 = .ok (.iconst 4, 1) := by decide +kernel
theorem dX6_isPerson_6 : decode cX6_isPerson 6 = .ok (.if_icmp .ge 7, 3) := by decide +kernel
theorem dX6_isPerson_9 : decode cX6_isPerson 9 = .ok (.iconst 1, 1) := by decide +kernel
theorem dX6_isPerson_10 : decode cX6_isPerson 10 = .ok (.goto 4, 3) := by decide +kernel
theorem dX6_isPerson_13 : decode cX6_isPerson 13 = .ok (.iconst 0, 1) := by decide +kernel
theorem dX6_isPerson_14 : decode cX6_isPerson 14 = .ok (.ireturn, 1) := by decide +kernel
theorem dX6_isController_0 : decode cX6_isController 0 = .ok (.iload_n 0, 1) := by decide +kernel
theorem dX6_isController_1 : decode cX6_isController 1 = .ok (.ifCond .lt 13, 3) := by decide +kernel
theorem dX6_isController_4 : decode cX6_isController 4 = .ok (.iload_n 0, 1) := by decide +kernel
theorem dX6_isController_5 : decode cX6_isController 5 = .ok (.bipush 9, 2) := by decide +kernel
theorem dX6_isController_7 : decode cX6_isController 7 = .ok (.if_icmp .ge 7, 3) := by decide +kernel
theorem dX6_isController_10 : decode cX6_isController 10 = .ok (.iconst 1, 1) := by decide +kernel
theorem dX6_isController_11 : decode cX6_isController 11 = .ok (.goto 4, 3) := by decide +kernel
theorem dX6_isController_14 : decode cX6_isController 14 = .ok (.iconst 0, 1) := by decide +kernel
theorem dX6_isController_15 : decode cX6_isController 15 = .ok (.ireturn, 1) := by decide +kernel
theorem dX6_isFirm_0 : decode cX6_isFirm 0 = .ok (.iload_n 0, 1) := by decide +kernel
theorem dX6_isFirm_1 : decode cX6_isFirm 1 = .ok (.ifCond .lt 12, 3) := by decide +kernel
theorem dX6_isFirm_4 : decode cX6_isFirm 4 = .ok (.iload_n 0, 1) := by decide +kernel
theorem dX6_isFirm_5 : decode cX6_isFirm 5 = .ok (.iconst 5, 1) := by decide +kernel
theorem dX6_isFirm_6 : decode cX6_isFirm 6 = .ok (.if_icmp .ge 7, 3) := by decide +kernel
theorem dX6_isFirm_9 : decode cX6_isFirm 9 = .ok (.iconst 1, 1) := by decide +kernel
theorem dX6_isFirm_10 : decode cX6_isFirm 10 = .ok (.goto 4, 3) := by decide +kernel
theorem dX6_isFirm_13 : decode cX6_isFirm 13 = .ok (.iconst 0, 1) := by decide +kernel
theorem dX6_isFirm_14 : decode cX6_isFirm 14 = .ok (.ireturn, 1) := by decide +kernel
theorem dX6_isDay_0 : decode cX6_isDay 0 = .ok (.iload_n 0, 1) := by decide +kernel
theorem dX6_isDay_1 : decode cX6_isDay 1 = .ok (.ifCond .lt 14, 3) := by decide +kernel
theorem dX6_isDay_4 : decode cX6_isDay 4 = .ok (.iload_n 0, 1) := by decide +kernel
theorem dX6_isDay_5 : decode cX6_isDay 5 = .ok (.sipush 999, 3) := by decide +kernel
theorem dX6_isDay_8 : decode cX6_isDay 8 = .ok (.if_icmp .gt 7, 3) := by decide +kernel
theorem dX6_isDay_11 : decode cX6_isDay 11 = .ok (.iconst 1, 1) := by decide +kernel
theorem dX6_isDay_12 : decode cX6_isDay 12 = .ok (.goto 4, 3) := by decide +kernel
theorem dX6_isDay_15 : decode cX6_isDay 15 = .ok (.iconst 0, 1) := by decide +kernel
theorem dX6_isDay_16 : decode cX6_isDay 16 = .ok (.ireturn, 1) := by decide +kernel
theorem dX6_isYesOrNo_0 : decode cX6_isYesOrNo 0 = .ok (.iload_n 0, 1) := by decide +kernel
theorem dX6_isYesOrNo_1 : decode cX6_isYesOrNo 1 = .ok (.ifCond .eq 8, 3) := by decide +kernel
theorem dX6_isYesOrNo_4 : decode cX6_isYesOrNo 4 = .ok (.iload_n 0, 1) := by decide +kernel
theorem dX6_isYesOrNo_5 : decode cX6_isYesOrNo 5 = .ok (.iconst 1, 1) := by decide +kernel
theorem dX6_isYesOrNo_6 : decode cX6_isYesOrNo 6 = .ok (.if_icmp .ne 7, 3) := by decide +kernel
theorem dX6_isYesOrNo_9 : decode cX6_isYesOrNo 9 = .ok (.iconst 1, 1) := by decide +kernel
theorem dX6_isYesOrNo_10 : decode cX6_isYesOrNo 10 = .ok (.goto 4, 3) := by decide +kernel
theorem dX6_isYesOrNo_13 : decode cX6_isYesOrNo 13 = .ok (.iconst 0, 1) := by decide +kernel
theorem dX6_isYesOrNo_14 : decode cX6_isYesOrNo 14 = .ok (.ireturn, 1) := by decide +kernel
theorem dX6_isDeal_0 : decode cX6_isDeal 0 = .ok (.iload_n 1, 1) := by decide +kernel
theorem dX6_isDeal_1 : decode cX6_isDeal 1 = .ok (.ifCond .lt 18, 3) := by decide +kernel
theorem dX6_isDeal_4 : decode cX6_isDeal 4 = .ok (.iload_n 1, 1) := by decide +kernel
theorem dX6_isDeal_5 : decode cX6_isDeal 5 = .ok (.aload_n 0, 1) := by decide +kernel
theorem dX6_isDeal_6 : decode cX6_isDeal 6 = .ok (.getfield 12, 3) := by decide +kernel
theorem dX6_isDeal_9 : decode cX6_isDeal 9 = .ok (.getfield 96, 3) := by decide +kernel
theorem dX6_isDeal_12 : decode cX6_isDeal 12 = .ok (.if_icmp .ge 7, 3) := by decide +kernel
theorem dX6_isDeal_15 : decode cX6_isDeal 15 = .ok (.iconst 1, 1) := by decide +kernel
theorem dX6_isDeal_16 : decode cX6_isDeal 16 = .ok (.goto 4, 3) := by decide +kernel
theorem dX6_isDeal_19 : decode cX6_isDeal 19 = .ok (.iconst 0, 1) := by decide +kernel
theorem dX6_isDeal_20 : decode cX6_isDeal 20 = .ok (.ireturn, 1) := by decide +kernel
theorem dX6_holderOf_0 : decode cX6_holderOf 0 = .ok (.iconst 4, 1) := by decide +kernel
theorem dX6_holderOf_1 : decode cX6_holderOf 1 = .ok (.iload_n 0, 1) := by decide +kernel
theorem dX6_holderOf_2 : decode cX6_holderOf 2 = .ok (.iadd, 1) := by decide +kernel
theorem dX6_holderOf_3 : decode cX6_holderOf 3 = .ok (.ireturn, 1) := by decide +kernel
theorem dX6_has_0 : decode cX6_has 0 = .ok (.iload_n 0, 1) := by decide +kernel
theorem dX6_has_1 : decode cX6_has 1 = .ok (.iload_n 1, 1) := by decide +kernel
theorem dX6_has_2 : decode cX6_has 2 = .ok (.ishr, 1) := by decide +kernel
theorem dX6_has_3 : decode cX6_has 3 = .ok (.iconst 1, 1) := by decide +kernel
theorem dX6_has_4 : decode cX6_has 4 = .ok (.iand, 1) := by decide +kernel
theorem dX6_has_5 : decode cX6_has 5 = .ok (.iconst 1, 1) := by decide +kernel
theorem dX6_has_6 : decode cX6_has 6 = .ok (.if_icmp .ne 7, 3) := by decide +kernel
theorem dX6_has_9 : decode cX6_has 9 = .ok (.iconst 1, 1) := by decide +kernel
theorem dX6_has_10 : decode cX6_has 10 = .ok (.goto 4, 3) := by decide +kernel
theorem dX6_has_13 : decode cX6_has 13 = .ok (.iconst 0, 1) := by decide +kernel
theorem dX6_has_14 : decode cX6_has 14 = .ok (.ireturn, 1) := by decide +kernel
theorem dX6_asNumber_0 : decode cX6_asNumber 0 = .ok (.iload_n 0, 1) := by decide +kernel
theorem dX6_asNumber_1 : decode cX6_asNumber 1 = .ok (.ifCond .eq 7, 3) := by decide +kernel
theorem dX6_asNumber_4 : decode cX6_asNumber 4 = .ok (.iconst 1, 1) := by decide +kernel
theorem dX6_asNumber_5 : decode cX6_asNumber 5 = .ok (.goto 4, 3) := by decide +kernel
theorem dX6_asNumber_8 : decode cX6_asNumber 8 = .ok (.iconst 0, 1) := by decide +kernel
theorem dX6_asNumber_9 : decode cX6_asNumber 9 = .ok (.ireturn, 1) := by decide +kernel
theorem dX6_imageAt_0 : decode cX6_imageAt 0 = .ok (.iload_n 1, 1) := by decide +kernel
theorem dX6_imageAt_1 : decode cX6_imageAt 1 = .ok (.ifCond .ne 10, 3) := by decide +kernel
theorem dX6_imageAt_4 : decode cX6_imageAt 4 = .ok (.aload_n 0, 1) := by decide +kernel
theorem dX6_imageAt_5 : decode cX6_imageAt 5 = .ok (.getfield 16, 3) := by decide +kernel
theorem dX6_imageAt_8 : decode cX6_imageAt 8 = .ok (.goto 7, 3) := by decide +kernel
theorem dX6_imageAt_11 : decode cX6_imageAt 11 = .ok (.aload_n 0, 1) := by decide +kernel
theorem dX6_imageAt_12 : decode cX6_imageAt 12 = .ok (.getfield 19, 3) := by decide +kernel
theorem dX6_imageAt_15 : decode cX6_imageAt 15 = .ok (.areturn, 1) := by decide +kernel
theorem dX6_sell_0 : decode cX6_sell 0 = .ok (.iload_n 3, 1) := by decide +kernel
theorem dX6_sell_1 : decode cX6_sell 1 = .ok (.invokestatic 143, 3) := by decide +kernel
theorem dX6_sell_4 : decode cX6_sell 4 = .ok (.ifCond .eq 19, 3) := by decide +kernel
theorem dX6_sell_7 : decode cX6_sell 7 = .ok (.iload 4, 2) := by decide +kernel
theorem dX6_sell_9 : decode cX6_sell 9 = .ok (.invokestatic 143, 3) := by decide +kernel
theorem dX6_sell_12 : decode cX6_sell 12 = .ok (.ifCond .eq 11, 3) := by decide +kernel
theorem dX6_sell_15 : decode cX6_sell 15 = .ok (.iload 5, 2) := by decide +kernel
theorem dX6_sell_17 : decode cX6_sell 17 = .ok (.invokestatic 71, 3) := by decide +kernel
theorem dX6_sell_20 : decode cX6_sell 20 = .ok (.ifCond .ne 5, 3) := by decide +kernel
theorem dX6_sell_23 : decode cX6_sell 23 = .ok (.iconst (-1), 1) := by decide +kernel
theorem dX6_sell_24 : decode cX6_sell 24 = .ok (.ireturn, 1) := by decide +kernel
theorem dX6_sell_25 : decode cX6_sell 25 = .ok (.iload_n 2, 1) := by decide +kernel
theorem dX6_sell_26 : decode cX6_sell 26 = .ok (.invokestatic 74, 3) := by decide +kernel
theorem dX6_sell_29 : decode cX6_sell 29 = .ok (.ifCond .eq 16, 3) := by decide +kernel
theorem dX6_sell_32 : decode cX6_sell 32 = .ok (.iload 6, 2) := by decide +kernel
theorem dX6_sell_34 : decode cX6_sell 34 = .ok (.iconst 1, 1) := by decide +kernel
theorem dX6_sell_35 : decode cX6_sell 35 = .ok (.if_icmp .lt 10, 3) := by decide +kernel
theorem dX6_sell_38 : decode cX6_sell 38 = .ok (.iload 6, 2) := by decide +kernel
theorem dX6_sell_40 : decode cX6_sell 40 = .ok (.bipush 100, 2) := by decide +kernel
theorem dX6_sell_42 : decode cX6_sell 42 = .ok (.if_icmp .le 6, 3) := by decide +kernel
theorem dX6_sell_45 : decode cX6_sell 45 = .ok (.bipush (-2), 2) := by decide +kernel
theorem dX6_sell_47 : decode cX6_sell 47 = .ok (.ireturn, 1) := by decide +kernel
theorem dX6_sell_48 : decode cX6_sell 48 = .ok (.iload_n 3, 1) := by decide +kernel
theorem dX6_sell_49 : decode cX6_sell 49 = .ok (.iload 4, 2) := by decide +kernel
theorem dX6_sell_51 : decode cX6_sell 51 = .ok (.if_icmp .eq 22, 3) := by decide +kernel
theorem dX6_sell_54 : decode cX6_sell 54 = .ok (.iload_n 3, 1) := by decide +kernel
theorem dX6_sell_55 : decode cX6_sell 55 = .ok (.iload 5, 2) := by decide +kernel
theorem dX6_sell_57 : decode cX6_sell 57 = .ok (.invokestatic 187, 3) := by decide +kernel
theorem dX6_sell_60 : decode cX6_sell 60 = .ok (.if_icmp .eq 13, 3) := by decide +kernel
theorem dX6_sell_63 : decode cX6_sell 63 = .ok (.iload 4, 2) := by decide +kernel
theorem dX6_sell_65 : decode cX6_sell 65 = .ok (.iload 5, 2) := by decide +kernel
theorem dX6_sell_67 : decode cX6_sell 67 = .ok (.invokestatic 187, 3) := by decide +kernel
theorem dX6_sell_70 : decode cX6_sell 70 = .ok (.if_icmp .ne 6, 3) := by decide +kernel
theorem dX6_sell_73 : decode cX6_sell 73 = .ok (.bipush (-2), 2) := by decide +kernel
theorem dX6_sell_75 : decode cX6_sell 75 = .ok (.ireturn, 1) := by decide +kernel
theorem dX6_sell_76 : decode cX6_sell 76 = .ok (.aload_n 0, 1) := by decide +kernel
theorem dX6_sell_77 : decode cX6_sell 77 = .ok (.iload_n 2, 1) := by decide +kernel
theorem dX6_sell_78 : decode cX6_sell 78 = .ok (.iload_n 1, 1) := by decide +kernel
theorem dX6_sell_79 : decode cX6_sell 79 = .ok (.iload 5, 2) := by decide +kernel
theorem dX6_sell_81 : decode cX6_sell 81 = .ok (.iload_n 3, 1) := by decide +kernel
theorem dX6_sell_82 : decode cX6_sell 82 = .ok (.iload 4, 2) := by decide +kernel
theorem dX6_sell_84 : decode cX6_sell 84 = .ok (.iload 6, 2) := by decide +kernel
theorem dX6_sell_86 : decode cX6_sell 86 = .ok (.invokevirtual 80, 3) := by decide +kernel
theorem dX6_sell_89 : decode cX6_sell 89 = .ok (.ireturn, 1) := by decide +kernel
theorem dX6_enter_0 : decode cX6_enter 0 = .ok (.aload_n 0, 1) := by decide +kernel
theorem dX6_enter_1 : decode cX6_enter 1 = .ok (.getfield 12, 3) := by decide +kernel
theorem dX6_enter_4 : decode cX6_enter 4 = .ok (.iload_n 1, 1) := by decide +kernel
theorem dX6_enter_5 : decode cX6_enter 5 = .ok (.iload_n 2, 1) := by decide +kernel
theorem dX6_enter_6 : decode cX6_enter 6 = .ok (.iload_n 3, 1) := by decide +kernel
theorem dX6_enter_7 : decode cX6_enter 7 = .ok (.iload 4, 2) := by decide +kernel
theorem dX6_enter_9 : decode cX6_enter 9 = .ok (.iload 5, 2) := by decide +kernel
theorem dX6_enter_11 : decode cX6_enter 11 = .ok (.iload 6, 2) := by decide +kernel
theorem dX6_enter_13 : decode cX6_enter 13 = .ok (.invokevirtual 264, 3) := by decide +kernel
theorem dX6_enter_16 : decode cX6_enter 16 = .ok (.iconst 0, 1) := by decide +kernel
theorem dX6_enter_17 : decode cX6_enter 17 = .ok (.istore 7, 2) := by decide +kernel
theorem dX6_enter_19 : decode cX6_enter 19 = .ok (.aload_n 0, 1) := by decide +kernel
theorem dX6_enter_20 : decode cX6_enter 20 = .ok (.iconst (-1), 1) := by decide +kernel
theorem dX6_enter_21 : decode cX6_enter 21 = .ok (.invokevirtual 86, 3) := by decide +kernel
theorem dX6_enter_24 : decode cX6_enter 24 = .ok (.ifCond .ne 10, 3) := by decide +kernel
theorem dX6_enter_27 : decode cX6_enter 27 = .ok (.bipush (-5), 2) := by decide +kernel
theorem dX6_enter_29 : decode cX6_enter 29 = .ok (.istore 7, 2) := by decide +kernel
theorem dX6_enter_31 : decode cX6_enter 31 = .ok (.goto 19, 3) := by decide +kernel
theorem dX6_enter_34 : decode cX6_enter 34 = .ok (.aload_n 0, 1) := by decide +kernel
theorem dX6_enter_35 : decode cX6_enter 35 = .ok (.getfield 12, 3) := by decide +kernel
theorem dX6_enter_38 : decode cX6_enter 38 = .ok (.getfield 96, 3) := by decide +kernel
theorem dX6_enter_41 : decode cX6_enter 41 = .ok (.bipush 40, 2) := by decide +kernel
theorem dX6_enter_43 : decode cX6_enter 43 = .ok (.if_icmp .le 7, 3) := by decide +kernel
theorem dX6_enter_46 : decode cX6_enter 46 = .ok (.bipush (-4), 2) := by decide +kernel
theorem dX6_enter_48 : decode cX6_enter 48 = .ok (.istore 7, 2) := by decide +kernel
theorem dX6_enter_50 : decode cX6_enter 50 = .ok (.iload 7, 2) := by decide +kernel
theorem dX6_enter_52 : decode cX6_enter 52 = .ok (.ifCond .eq 22, 3) := by decide +kernel
theorem dX6_enter_55 : decode cX6_enter 55 = .ok (.aload_n 0, 1) := by decide +kernel
theorem dX6_enter_56 : decode cX6_enter 56 = .ok (.getfield 12, 3) := by decide +kernel
theorem dX6_enter_59 : decode cX6_enter 59 = .ok (.aload_n 0, 1) := by decide +kernel
theorem dX6_enter_60 : decode cX6_enter 60 = .ok (.getfield 12, 3) := by decide +kernel
theorem dX6_enter_63 : decode cX6_enter 63 = .ok (.getfield 96, 3) := by decide +kernel
theorem dX6_enter_66 : decode cX6_enter 66 = .ok (.iconst 1, 1) := by decide +kernel
theorem dX6_enter_67 : decode cX6_enter 67 = .ok (.isub, 1) := by decide +kernel
theorem dX6_enter_68 : decode cX6_enter 68 = .ok (.invokevirtual 89, 3) := by decide +kernel
theorem dX6_enter_71 : decode cX6_enter 71 = .ok (.iload 7, 2) := by decide +kernel
theorem dX6_enter_73 : decode cX6_enter 73 = .ok (.ireturn, 1) := by decide +kernel
theorem dX6_enter_74 : decode cX6_enter 74 = .ok (.aload_n 0, 1) := by decide +kernel
theorem dX6_enter_75 : decode cX6_enter 75 = .ok (.invokevirtual 93, 3) := by decide +kernel
theorem dX6_enter_78 : decode cX6_enter 78 = .ok (.aload_n 0, 1) := by decide +kernel
theorem dX6_enter_79 : decode cX6_enter 79 = .ok (.getfield 12, 3) := by decide +kernel
theorem dX6_enter_82 : decode cX6_enter 82 = .ok (.getfield 96, 3) := by decide +kernel
theorem dX6_enter_85 : decode cX6_enter 85 = .ok (.ireturn, 1) := by decide +kernel
theorem dX6_isSoundWithout_0 : decode cX6_isSoundWithout 0 = .ok (.aload_n 0, 1) := by decide +kernel
theorem dX6_isSoundWithout_1 : decode cX6_isSoundWithout 1 = .ok (.getfield 57, 3) := by decide +kernel
theorem dX6_isSoundWithout_4 : decode cX6_isSoundWithout 4 = .ok (.invokevirtual 268, 3) := by decide +kernel
theorem dX6_isSoundWithout_7 : decode cX6_isSoundWithout 7 = .ok (.iconst 0, 1) := by decide +kernel
theorem dX6_isSoundWithout_8 : decode cX6_isSoundWithout 8 = .ok (.istore_n 2, 1) := by decide +kernel
theorem dX6_isSoundWithout_9 : decode cX6_isSoundWithout 9 = .ok (.iload_n 2, 1) := by decide +kernel
theorem dX6_isSoundWithout_10 : decode cX6_isSoundWithout 10 = .ok (.aload_n 0, 1) := by decide +kernel
theorem dX6_isSoundWithout_11 : decode cX6_isSoundWithout 11 = .ok (.getfield 12, 3) := by decide +kernel
theorem dX6_isSoundWithout_14 : decode cX6_isSoundWithout 14 = .ok (.getfield 96, 3) := by decide +kernel
theorem dX6_isSoundWithout_17 : decode cX6_isSoundWithout 17 = .ok (.if_icmp .ge 41, 3) := by decide +kernel
theorem dX6_isSoundWithout_20 : decode cX6_isSoundWithout 20 = .ok (.aload_n 0, 1) := by decide +kernel
theorem dX6_isSoundWithout_21 : decode cX6_isSoundWithout 21 = .ok (.getfield 12, 3) := by decide +kernel
theorem dX6_isSoundWithout_24 : decode cX6_isSoundWithout 24 = .ok (.getfield 271, 3) := by decide +kernel
theorem dX6_isSoundWithout_27 : decode cX6_isSoundWithout 27 = .ok (.iload_n 2, 1) := by decide +kernel
theorem dX6_isSoundWithout_28 : decode cX6_isSoundWithout 28 = .ok (.iaload, 1) := by decide +kernel
theorem dX6_isSoundWithout_29 : decode cX6_isSoundWithout 29 = .ok (.istore_n 3, 1) := by decide +kernel
theorem dX6_isSoundWithout_30 : decode cX6_isSoundWithout 30 = .ok (.iload_n 3, 1) := by decide +kernel
theorem dX6_isSoundWithout_31 : decode cX6_isSoundWithout 31 = .ok (.iload_n 1, 1) := by decide +kernel
theorem dX6_isSoundWithout_32 : decode cX6_isSoundWithout 32 = .ok (.if_icmp .eq 20, 3) := by decide +kernel
theorem dX6_isSoundWithout_35 : decode cX6_isSoundWithout 35 = .ok (.aload_n 0, 1) := by decide +kernel
theorem dX6_isSoundWithout_36 : decode cX6_isSoundWithout 36 = .ok (.getfield 57, 3) := by decide +kernel
theorem dX6_isSoundWithout_39 : decode cX6_isSoundWithout 39 = .ok (.aload_n 0, 1) := by decide +kernel
theorem dX6_isSoundWithout_40 : decode cX6_isSoundWithout 40 = .ok (.getfield 12, 3) := by decide +kernel
theorem dX6_isSoundWithout_43 : decode cX6_isSoundWithout 43 = .ok (.iload_n 3, 1) := by decide +kernel
theorem dX6_isSoundWithout_44 : decode cX6_isSoundWithout 44 = .ok (.invokevirtual 274, 3) := by decide +kernel
theorem dX6_isSoundWithout_47 : decode cX6_isSoundWithout 47 = .ok (.ifCond .ne 5, 3) := by decide +kernel
theorem dX6_isSoundWithout_50 : decode cX6_isSoundWithout 50 = .ok (.iconst 0, 1) := by decide +kernel
theorem dX6_isSoundWithout_51 : decode cX6_isSoundWithout 51 = .ok (.ireturn, 1) := by decide +kernel
theorem dX6_isSoundWithout_52 : decode cX6_isSoundWithout 52 = .ok (.iinc 2 1, 3) := by decide +kernel
theorem dX6_isSoundWithout_55 : decode cX6_isSoundWithout 55 = .ok (.goto (-46), 3) := by decide +kernel
theorem dX6_isSoundWithout_58 : decode cX6_isSoundWithout 58 = .ok (.iconst 1, 1) := by decide +kernel
theorem dX6_isSoundWithout_59 : decode cX6_isSoundWithout 59 = .ok (.ireturn, 1) := by decide +kernel
theorem dX6_allIsChanged_0 : decode cX6_allIsChanged 0 = .ok (.aload_n 0, 1) := by decide +kernel
theorem dX6_allIsChanged_1 : decode cX6_allIsChanged 1 = .ok (.iconst 0, 1) := by decide +kernel
theorem dX6_allIsChanged_2 : decode cX6_allIsChanged 2 = .ok (.putfield 130, 3) := by decide +kernel
theorem dX6_allIsChanged_5 : decode cX6_allIsChanged 5 = .ok (.aload_n 0, 1) := by decide +kernel
theorem dX6_allIsChanged_6 : decode cX6_allIsChanged 6 = .ok (.iconst 0, 1) := by decide +kernel
theorem dX6_allIsChanged_7 : decode cX6_allIsChanged 7 = .ok (.putfield 278, 3) := by decide +kernel
theorem dX6_allIsChanged_10 : decode cX6_allIsChanged 10 = .ok (.return_, 1) := by decide +kernel
theorem dX6_bringUpToDate_0 : decode cX6_bringUpToDate 0 = .ok (.aload_n 0, 1) := by decide +kernel
theorem dX6_bringUpToDate_1 : decode cX6_bringUpToDate 1 = .ok (.getfield 130, 3) := by decide +kernel
theorem dX6_bringUpToDate_4 : decode cX6_bringUpToDate 4 = .ok (.ifCond .eq 4, 3) := by decide +kernel
theorem dX6_bringUpToDate_7 : decode cX6_bringUpToDate 7 = .ok (.return_, 1) := by decide +kernel
theorem dX6_bringUpToDate_8 : decode cX6_bringUpToDate 8 = .ok (.aload_n 0, 1) := by decide +kernel
theorem dX6_bringUpToDate_9 : decode cX6_bringUpToDate 9 = .ok (.getfield 25, 3) := by decide +kernel
theorem dX6_bringUpToDate_12 : decode cX6_bringUpToDate 12 = .ok (.invokevirtual 268, 3) := by decide +kernel
theorem dX6_bringUpToDate_15 : decode cX6_bringUpToDate 15 = .ok (.aload_n 0, 1) := by decide +kernel
theorem dX6_bringUpToDate_16 : decode cX6_bringUpToDate 16 = .ok (.getfield 12, 3) := by decide +kernel
theorem dX6_bringUpToDate_19 : decode cX6_bringUpToDate 19 = .ok (.aload_n 0, 1) := by decide +kernel
theorem dX6_bringUpToDate_20 : decode cX6_bringUpToDate 20 = .ok (.getfield 12, 3) := by decide +kernel
theorem dX6_bringUpToDate_23 : decode cX6_bringUpToDate 23 = .ok (.getfield 123, 3) := by decide +kernel
theorem dX6_bringUpToDate_26 : decode cX6_bringUpToDate 26 = .ok (.invokevirtual 251, 3) := by decide +kernel
theorem dX6_bringUpToDate_29 : decode cX6_bringUpToDate 29 = .ok (.istore_n 1, 1) := by decide +kernel
theorem dX6_bringUpToDate_30 : decode cX6_bringUpToDate 30 = .ok (.iconst 0, 1) := by decide +kernel
theorem dX6_bringUpToDate_31 : decode cX6_bringUpToDate 31 = .ok (.istore_n 2, 1) := by decide +kernel
theorem dX6_bringUpToDate_32 : decode cX6_bringUpToDate 32 = .ok (.iload_n 2, 1) := by decide +kernel
theorem dX6_bringUpToDate_33 : decode cX6_bringUpToDate 33 = .ok (.iload_n 1, 1) := by decide +kernel
theorem dX6_bringUpToDate_34 : decode cX6_bringUpToDate 34 = .ok (.if_icmp .ge 30, 3) := by decide +kernel
theorem dX6_bringUpToDate_37 : decode cX6_bringUpToDate 37 = .ok (.aload_n 0, 1) := by decide +kernel
theorem dX6_bringUpToDate_38 : decode cX6_bringUpToDate 38 = .ok (.getfield 25, 3) := by decide +kernel
theorem dX6_bringUpToDate_41 : decode cX6_bringUpToDate 41 = .ok (.aload_n 0, 1) := by decide +kernel
theorem dX6_bringUpToDate_42 : decode cX6_bringUpToDate 42 = .ok (.getfield 12, 3) := by decide +kernel
theorem dX6_bringUpToDate_45 : decode cX6_bringUpToDate 45 = .ok (.aload_n 0, 1) := by decide +kernel
theorem dX6_bringUpToDate_46 : decode cX6_bringUpToDate 46 = .ok (.getfield 12, 3) := by decide +kernel
theorem dX6_bringUpToDate_49 : decode cX6_bringUpToDate 49 = .ok (.getfield 271, 3) := by decide +kernel
theorem dX6_bringUpToDate_52 : decode cX6_bringUpToDate 52 = .ok (.iload_n 2, 1) := by decide +kernel
theorem dX6_bringUpToDate_53 : decode cX6_bringUpToDate 53 = .ok (.iaload, 1) := by decide +kernel
theorem dX6_bringUpToDate_54 : decode cX6_bringUpToDate 54 = .ok (.invokevirtual 274, 3) := by decide +kernel
theorem dX6_bringUpToDate_57 : decode cX6_bringUpToDate 57 = .ok (.pop, 1) := by decide +kernel
theorem dX6_bringUpToDate_58 : decode cX6_bringUpToDate 58 = .ok (.iinc 2 1, 3) := by decide +kernel
theorem dX6_bringUpToDate_61 : decode cX6_bringUpToDate 61 = .ok (.goto (-29), 3) := by decide +kernel
theorem dX6_bringUpToDate_64 : decode cX6_bringUpToDate 64 = .ok (.aload_n 0, 1) := by decide +kernel
theorem dX6_bringUpToDate_65 : decode cX6_bringUpToDate 65 = .ok (.getfield 32, 3) := by decide +kernel
theorem dX6_bringUpToDate_68 : decode cX6_bringUpToDate 68 = .ok (.aload_n 0, 1) := by decide +kernel
theorem dX6_bringUpToDate_69 : decode cX6_bringUpToDate 69 = .ok (.getfield 25, 3) := by decide +kernel
theorem dX6_bringUpToDate_72 : decode cX6_bringUpToDate 72 = .ok (.aload_n 0, 1) := by decide +kernel
theorem dX6_bringUpToDate_73 : decode cX6_bringUpToDate 73 = .ok (.getfield 12, 3) := by decide +kernel
theorem dX6_bringUpToDate_76 : decode cX6_bringUpToDate 76 = .ok (.invokevirtual 281, 3) := by decide +kernel
theorem dX6_bringUpToDate_79 : decode cX6_bringUpToDate 79 = .ok (.aload_n 0, 1) := by decide +kernel
theorem dX6_bringUpToDate_80 : decode cX6_bringUpToDate 80 = .ok (.getfield 39, 3) := by decide +kernel
theorem dX6_bringUpToDate_83 : decode cX6_bringUpToDate 83 = .ok (.aload_n 0, 1) := by decide +kernel
theorem dX6_bringUpToDate_84 : decode cX6_bringUpToDate 84 = .ok (.getfield 25, 3) := by decide +kernel
theorem dX6_bringUpToDate_87 : decode cX6_bringUpToDate 87 = .ok (.invokevirtual 285, 3) := by decide +kernel
theorem dX6_bringUpToDate_90 : decode cX6_bringUpToDate 90 = .ok (.aload_n 0, 1) := by decide +kernel
theorem dX6_bringUpToDate_91 : decode cX6_bringUpToDate 91 = .ok (.getfield 46, 3) := by decide +kernel
theorem dX6_bringUpToDate_94 : decode cX6_bringUpToDate 94 = .ok (.aload_n 0, 1) := by decide +kernel
theorem dX6_bringUpToDate_95 : decode cX6_bringUpToDate 95 = .ok (.getfield 25, 3) := by decide +kernel
theorem dX6_bringUpToDate_98 : decode cX6_bringUpToDate 98 = .ok (.invokevirtual 289, 3) := by decide +kernel
theorem dX6_bringUpToDate_101 : decode cX6_bringUpToDate 101 = .ok (.aload_n 0, 1) := by decide +kernel
theorem dX6_bringUpToDate_102 : decode cX6_bringUpToDate 102 = .ok (.iconst 1, 1) := by decide +kernel
theorem dX6_bringUpToDate_103 : decode cX6_bringUpToDate 103 = .ok (.putfield 130, 3) := by decide +kernel
theorem dX6_bringUpToDate_106 : decode cX6_bringUpToDate 106 = .ok (.return_, 1) := by decide +kernel
theorem dX6_trace_0 : decode cX6_trace 0 = .ok (.aload_n 0, 1) := by decide +kernel
theorem dX6_trace_1 : decode cX6_trace 1 = .ok (.getfield 278, 3) := by decide +kernel
theorem dX6_trace_4 : decode cX6_trace 4 = .ok (.ifCond .eq 4, 3) := by decide +kernel
theorem dX6_trace_7 : decode cX6_trace 7 = .ok (.return_, 1) := by decide +kernel
theorem dX6_trace_8 : decode cX6_trace 8 = .ok (.aload_n 0, 1) := by decide +kernel
theorem dX6_trace_9 : decode cX6_trace 9 = .ok (.getfield 53, 3) := by decide +kernel
theorem dX6_trace_12 : decode cX6_trace 12 = .ok (.aload_n 0, 1) := by decide +kernel
theorem dX6_trace_13 : decode cX6_trace 13 = .ok (.getfield 12, 3) := by decide +kernel
theorem dX6_trace_16 : decode cX6_trace 16 = .ok (.aload_n 0, 1) := by decide +kernel
theorem dX6_trace_17 : decode cX6_trace 17 = .ok (.getfield 57, 3) := by decide +kernel
theorem dX6_trace_20 : decode cX6_trace 20 = .ok (.aload_n 0, 1) := by decide +kernel
theorem dX6_trace_21 : decode cX6_trace 21 = .ok (.getfield 60, 3) := by decide +kernel
theorem dX6_trace_24 : decode cX6_trace 24 = .ok (.invokevirtual 290, 3) := by decide +kernel
theorem dX6_trace_27 : decode cX6_trace 27 = .ok (.aload_n 0, 1) := by decide +kernel
theorem dX6_trace_28 : decode cX6_trace 28 = .ok (.iconst 1, 1) := by decide +kernel
theorem dX6_trace_29 : decode cX6_trace 29 = .ok (.putfield 278, 3) := by decide +kernel
theorem dX6_trace_32 : decode cX6_trace 32 = .ok (.return_, 1) := by decide +kernel
theorem dX6_finalBlock_0 : decode cX6_finalBlock 0 = .ok (.aload_n 0, 1) := by decide +kernel
theorem dX6_finalBlock_1 : decode cX6_finalBlock 1 = .ok (.getfield 25, 3) := by decide +kernel
theorem dX6_finalBlock_4 : decode cX6_finalBlock 4 = .ok (.iload_n 2, 1) := by decide +kernel
theorem dX6_finalBlock_5 : decode cX6_finalBlock 5 = .ok (.iload_n 1, 1) := by decide +kernel
theorem dX6_finalBlock_6 : decode cX6_finalBlock 6 = .ok (.aload_n 0, 1) := by decide +kernel
theorem dX6_finalBlock_7 : decode cX6_finalBlock 7 = .ok (.getfield 32, 3) := by decide +kernel
theorem dX6_finalBlock_10 : decode cX6_finalBlock 10 = .ok (.getfield 163, 3) := by decide +kernel
theorem dX6_finalBlock_13 : decode cX6_finalBlock 13 = .ok (.iload_n 1, 1) := by decide +kernel
theorem dX6_finalBlock_14 : decode cX6_finalBlock 14 = .ok (.iaload, 1) := by decide +kernel
theorem dX6_finalBlock_15 : decode cX6_finalBlock 15 = .ok (.invokestatic 293, 3) := by decide +kernel
theorem dX6_finalBlock_18 : decode cX6_finalBlock 18 = .ok (.invokevirtual 296, 3) := by decide +kernel
theorem dX6_finalBlock_21 : decode cX6_finalBlock 21 = .ok (.ireturn, 1) := by decide +kernel
theorem dX6_wayOfControl_0 : decode cX6_wayOfControl 0 = .ok (.aload_n 0, 1) := by decide +kernel
theorem dX6_wayOfControl_1 : decode cX6_wayOfControl 1 = .ok (.getfield 32, 3) := by decide +kernel
theorem dX6_wayOfControl_4 : decode cX6_wayOfControl 4 = .ok (.getfield 163, 3) := by decide +kernel
theorem dX6_wayOfControl_7 : decode cX6_wayOfControl 7 = .ok (.iload_n 1, 1) := by decide +kernel
theorem dX6_wayOfControl_8 : decode cX6_wayOfControl 8 = .ok (.iaload, 1) := by decide +kernel
theorem dX6_wayOfControl_9 : decode cX6_wayOfControl 9 = .ok (.iload_n 2, 1) := by decide +kernel
theorem dX6_wayOfControl_10 : decode cX6_wayOfControl 10 = .ok (.invokestatic 159, 3) := by decide +kernel
theorem dX6_wayOfControl_13 : decode cX6_wayOfControl 13 = .ok (.ifCond .ne 5, 3) := by decide +kernel
theorem dX6_wayOfControl_16 : decode cX6_wayOfControl 16 = .ok (.iconst 0, 1) := by decide +kernel
theorem dX6_wayOfControl_17 : decode cX6_wayOfControl 17 = .ok (.ireturn, 1) := by decide +kernel
theorem dX6_wayOfControl_18 : decode cX6_wayOfControl 18 = .ok (.aload_n 0, 1) := by decide +kernel
theorem dX6_wayOfControl_19 : decode cX6_wayOfControl 19 = .ok (.iload_n 1, 1) := by decide +kernel
theorem dX6_wayOfControl_20 : decode cX6_wayOfControl 20 = .ok (.iload_n 2, 1) := by decide +kernel
theorem dX6_wayOfControl_21 : decode cX6_wayOfControl 21 = .ok (.invokevirtual 173, 3) := by decide +kernel
theorem dX6_wayOfControl_24 : decode cX6_wayOfControl 24 = .ok (.aload_n 0, 1) := by decide +kernel
theorem dX6_wayOfControl_25 : decode cX6_wayOfControl 25 = .ok (.getfield 12, 3) := by decide +kernel
theorem dX6_wayOfControl_28 : decode cX6_wayOfControl 28 = .ok (.getfield 134, 3) := by decide +kernel
theorem dX6_wayOfControl_31 : decode cX6_wayOfControl 31 = .ok (.if_icmp .le 7, 3) := by decide +kernel
theorem dX6_wayOfControl_34 : decode cX6_wayOfControl 34 = .ok (.iconst 1, 1) := by decide +kernel
theorem dX6_wayOfControl_35 : decode cX6_wayOfControl 35 = .ok (.goto 4, 3) := by decide +kernel
theorem dX6_wayOfControl_38 : decode cX6_wayOfControl 38 = .ok (.iconst 2, 1) := by decide +kernel
theorem dX6_wayOfControl_39 : decode cX6_wayOfControl 39 = .ok (.ireturn, 1) := by decide +kernel
theorem dX6_fewestToSell_0 : decode cX6_fewestToSell 0 = .ok (.aload_n 0, 1) := by decide +kernel
theorem dX6_fewestToSell_1 : decode cX6_fewestToSell 1 = .ok (.getfield 25, 3) := by decide +kernel
theorem dX6_fewestToSell_4 : decode cX6_fewestToSell 4 = .ok (.getfield 153, 3) := by decide +kernel
theorem dX6_fewestToSell_7 : decode cX6_fewestToSell 7 = .ok (.iload_n 2, 1) := by decide +kernel
theorem dX6_fewestToSell_8 : decode cX6_fewestToSell 8 = .ok (.aaload, 1) := by decide +kernel
theorem dX6_fewestToSell_9 : decode cX6_fewestToSell 9 = .ok (.iload_n 1, 1) := by decide +kernel
theorem dX6_fewestToSell_10 : decode cX6_fewestToSell 10 = .ok (.iaload, 1) := by decide +kernel
theorem dX6_fewestToSell_11 : decode cX6_fewestToSell 11 = .ok (.istore_n 3, 1) := by decide +kernel
theorem dX6_fewestToSell_12 : decode cX6_fewestToSell 12 = .ok (.aload_n 0, 1) := by decide +kernel
theorem dX6_fewestToSell_13 : decode cX6_fewestToSell 13 = .ok (.getfield 57, 3) := by decide +kernel
theorem dX6_fewestToSell_16 : decode cX6_fewestToSell 16 = .ok (.aload_n 0, 1) := by decide +kernel
theorem dX6_fewestToSell_17 : decode cX6_fewestToSell 17 = .ok (.getfield 25, 3) := by decide +kernel
theorem dX6_fewestToSell_20 : decode cX6_fewestToSell 20 = .ok (.invokevirtual 299, 3) := by decide +kernel
theorem dX6_fewestToSell_23 : decode cX6_fewestToSell 23 = .ok (.iconst 0, 1) := by decide +kernel
theorem dX6_fewestToSell_24 : decode cX6_fewestToSell 24 = .ok (.istore 4, 2) := by decide +kernel
theorem dX6_fewestToSell_26 : decode cX6_fewestToSell 26 = .ok (.iload 4, 2) := by decide +kernel
theorem dX6_fewestToSell_28 : decode cX6_fewestToSell 28 = .ok (.iload_n 3, 1) := by decide +kernel
theorem dX6_fewestToSell_29 : decode cX6_fewestToSell 29 = .ok (.if_icmp .gt 38, 3) := by decide +kernel
theorem dX6_fewestToSell_32 : decode cX6_fewestToSell 32 = .ok (.aload_n 0, 1) := by decide +kernel
theorem dX6_fewestToSell_33 : decode cX6_fewestToSell 33 = .ok (.iload_n 1, 1) := by decide +kernel
theorem dX6_fewestToSell_34 : decode cX6_fewestToSell 34 = .ok (.iload_n 2, 1) := by decide +kernel
theorem dX6_fewestToSell_35 : decode cX6_fewestToSell 35 = .ok (.invokevirtual 301, 3) := by decide +kernel
theorem dX6_fewestToSell_38 : decode cX6_fewestToSell 38 = .ok (.ifCond .ne 6, 3) := by decide +kernel
theorem dX6_fewestToSell_41 : decode cX6_fewestToSell 41 = .ok (.iload 4, 2) := by decide +kernel
theorem dX6_fewestToSell_43 : decode cX6_fewestToSell 43 = .ok (.ireturn, 1) := by decide +kernel
theorem dX6_fewestToSell_44 : decode cX6_fewestToSell 44 = .ok (.aload_n 0, 1) := by decide +kernel
theorem dX6_fewestToSell_45 : decode cX6_fewestToSell 45 = .ok (.getfield 57, 3) := by decide +kernel
theorem dX6_fewestToSell_48 : decode cX6_fewestToSell 48 = .ok (.getfield 153, 3) := by decide +kernel
theorem dX6_fewestToSell_51 : decode cX6_fewestToSell 51 = .ok (.iload_n 2, 1) := by decide +kernel
theorem dX6_fewestToSell_52 : decode cX6_fewestToSell 52 = .ok (.aaload, 1) := by decide +kernel
theorem dX6_fewestToSell_53 : decode cX6_fewestToSell 53 = .ok (.iload_n 1, 1) := by decide +kernel
theorem dX6_fewestToSell_54 : decode cX6_fewestToSell 54 = .ok (.bipush 9, 2) := by decide +kernel
theorem dX6_fewestToSell_56 : decode cX6_fewestToSell 56 = .ok (.iconst 1, 1) := by decide +kernel
theorem dX6_fewestToSell_57 : decode cX6_fewestToSell 57 = .ok (.invokestatic 304, 3) := by decide +kernel
theorem dX6_fewestToSell_60 : decode cX6_fewestToSell 60 = .ok (.pop, 1) := by decide +kernel
theorem dX6_fewestToSell_61 : decode cX6_fewestToSell 61 = .ok (.iinc 4 1, 3) := by decide +kernel
theorem dX6_fewestToSell_64 : decode cX6_fewestToSell 64 = .ok (.goto (-38), 3) := by decide +kernel
theorem dX6_fewestToSell_67 : decode cX6_fewestToSell 67 = .ok (.bipush (-6), 2) := by decide +kernel
theorem dX6_fewestToSell_69 : decode cX6_fewestToSell 69 = .ok (.ireturn, 1) := by decide +kernel
theorem dX6_fewestToBuy_0 : decode cX6_fewestToBuy 0 = .ok (.iload_n 1, 1) := by decide +kernel
theorem dX6_fewestToBuy_1 : decode cX6_fewestToBuy 1 = .ok (.iload_n 2, 1) := by decide +kernel
theorem dX6_fewestToBuy_2 : decode cX6_fewestToBuy 2 = .ok (.invokestatic 187, 3) := by decide +kernel
theorem dX6_fewestToBuy_5 : decode cX6_fewestToBuy 5 = .ok (.if_icmp .ne 7, 3) := by decide +kernel
theorem dX6_fewestToBuy_8 : decode cX6_fewestToBuy 8 = .ok (.iconst 0, 1) := by decide +kernel
theorem dX6_fewestToBuy_9 : decode cX6_fewestToBuy 9 = .ok (.goto 15, 3) := by decide +kernel
theorem dX6_fewestToBuy_12 : decode cX6_fewestToBuy 12 = .ok (.aload_n 0, 1) := by decide +kernel
theorem dX6_fewestToBuy_13 : decode cX6_fewestToBuy 13 = .ok (.getfield 25, 3) := by decide +kernel
theorem dX6_fewestToBuy_16 : decode cX6_fewestToBuy 16 = .ok (.getfield 153, 3) := by decide +kernel
theorem dX6_fewestToBuy_19 : decode cX6_fewestToBuy 19 = .ok (.iload_n 2, 1) := by decide +kernel
theorem dX6_fewestToBuy_20 : decode cX6_fewestToBuy 20 = .ok (.aaload, 1) := by decide +kernel
theorem dX6_fewestToBuy_21 : decode cX6_fewestToBuy 21 = .ok (.bipush 9, 2) := by decide +kernel
theorem dX6_fewestToBuy_23 : decode cX6_fewestToBuy 23 = .ok (.iaload, 1) := by decide +kernel
theorem dX6_fewestToBuy_24 : decode cX6_fewestToBuy 24 = .ok (.istore_n 3, 1) := by decide +kernel
theorem dX6_fewestToBuy_25 : decode cX6_fewestToBuy 25 = .ok (.aload_n 0, 1) := by decide +kernel
theorem dX6_fewestToBuy_26 : decode cX6_fewestToBuy 26 = .ok (.getfield 57, 3) := by decide +kernel
theorem dX6_fewestToBuy_29 : decode cX6_fewestToBuy 29 = .ok (.aload_n 0, 1) := by decide +kernel
theorem dX6_fewestToBuy_30 : decode cX6_fewestToBuy 30 = .ok (.getfield 25, 3) := by decide +kernel
theorem dX6_fewestToBuy_33 : decode cX6_fewestToBuy 33 = .ok (.invokevirtual 299, 3) := by decide +kernel
theorem dX6_fewestToBuy_36 : decode cX6_fewestToBuy 36 = .ok (.iconst 0, 1) := by decide +kernel
theorem dX6_fewestToBuy_37 : decode cX6_fewestToBuy 37 = .ok (.istore 4, 2) := by decide +kernel
theorem dX6_fewestToBuy_39 : decode cX6_fewestToBuy 39 = .ok (.iload 4, 2) := by decide +kernel
theorem dX6_fewestToBuy_41 : decode cX6_fewestToBuy 41 = .ok (.iload_n 3, 1) := by decide +kernel
theorem dX6_fewestToBuy_42 : decode cX6_fewestToBuy 42 = .ok (.if_icmp .gt 38, 3) := by decide +kernel
theorem dX6_fewestToBuy_45 : decode cX6_fewestToBuy 45 = .ok (.aload_n 0, 1) := by decide +kernel
theorem dX6_fewestToBuy_46 : decode cX6_fewestToBuy 46 = .ok (.iload_n 1, 1) := by decide +kernel
theorem dX6_fewestToBuy_47 : decode cX6_fewestToBuy 47 = .ok (.iload_n 2, 1) := by decide +kernel
theorem dX6_fewestToBuy_48 : decode cX6_fewestToBuy 48 = .ok (.invokevirtual 301, 3) := by decide +kernel
theorem dX6_fewestToBuy_51 : decode cX6_fewestToBuy 51 = .ok (.ifCond .eq 6, 3) := by decide +kernel
theorem dX6_fewestToBuy_54 : decode cX6_fewestToBuy 54 = .ok (.iload 4, 2) := by decide +kernel
theorem dX6_fewestToBuy_56 : decode cX6_fewestToBuy 56 = .ok (.ireturn, 1) := by decide +kernel
theorem dX6_fewestToBuy_57 : decode cX6_fewestToBuy 57 = .ok (.aload_n 0, 1) := by decide +kernel
theorem dX6_fewestToBuy_58 : decode cX6_fewestToBuy 58 = .ok (.getfield 57, 3) := by decide +kernel
theorem dX6_fewestToBuy_61 : decode cX6_fewestToBuy 61 = .ok (.getfield 153, 3) := by decide +kernel
theorem dX6_fewestToBuy_64 : decode cX6_fewestToBuy 64 = .ok (.iload_n 2, 1) := by decide +kernel
theorem dX6_fewestToBuy_65 : decode cX6_fewestToBuy 65 = .ok (.aaload, 1) := by decide +kernel
theorem dX6_fewestToBuy_66 : decode cX6_fewestToBuy 66 = .ok (.bipush 9, 2) := by decide +kernel
theorem dX6_fewestToBuy_68 : decode cX6_fewestToBuy 68 = .ok (.iload_n 1, 1) := by decide +kernel
theorem dX6_fewestToBuy_69 : decode cX6_fewestToBuy 69 = .ok (.iconst 1, 1) := by decide +kernel
theorem dX6_fewestToBuy_70 : decode cX6_fewestToBuy 70 = .ok (.invokestatic 304, 3) := by decide +kernel
theorem dX6_fewestToBuy_73 : decode cX6_fewestToBuy 73 = .ok (.pop, 1) := by decide +kernel
theorem dX6_fewestToBuy_74 : decode cX6_fewestToBuy 74 = .ok (.iinc 4 1, 3) := by decide +kernel
theorem dX6_fewestToBuy_77 : decode cX6_fewestToBuy 77 = .ok (.goto (-38), 3) := by decide +kernel
theorem dX6_fewestToBuy_80 : decode cX6_fewestToBuy 80 = .ok (.bipush (-6), 2) := by decide +kernel
theorem dX6_fewestToBuy_82 : decode cX6_fewestToBuy 82 = .ok (.ireturn, 1) := by decide +kernel
theorem dX6_wouldControl_0 : decode cX6_wouldControl 0 = .ok (.aload_n 0, 1) := by decide +kernel
theorem dX6_wouldControl_1 : decode cX6_wouldControl 1 = .ok (.getfield 60, 3) := by decide +kernel
theorem dX6_wouldControl_4 : decode cX6_wouldControl 4 = .ok (.iload_n 1, 1) := by decide +kernel
theorem dX6_wouldControl_5 : decode cX6_wouldControl 5 = .ok (.aload_n 0, 1) := by decide +kernel
theorem dX6_wouldControl_6 : decode cX6_wouldControl 6 = .ok (.getfield 57, 3) := by decide +kernel
theorem dX6_wouldControl_9 : decode cX6_wouldControl 9 = .ok (.aload_n 0, 1) := by decide +kernel
theorem dX6_wouldControl_10 : decode cX6_wouldControl 10 = .ok (.getfield 12, 3) := by decide +kernel
theorem dX6_wouldControl_13 : decode cX6_wouldControl 13 = .ok (.invokevirtual 308, 3) := by decide +kernel
theorem dX6_wouldControl_16 : decode cX6_wouldControl 16 = .ok (.aload_n 0, 1) := by decide +kernel
theorem dX6_wouldControl_17 : decode cX6_wouldControl 17 = .ok (.getfield 60, 3) := by decide +kernel
theorem dX6_wouldControl_20 : decode cX6_wouldControl 20 = .ok (.getfield 163, 3) := by decide +kernel
theorem dX6_wouldControl_23 : decode cX6_wouldControl 23 = .ok (.iload_n 1, 1) := by decide +kernel
theorem dX6_wouldControl_24 : decode cX6_wouldControl 24 = .ok (.iaload, 1) := by decide +kernel
theorem dX6_wouldControl_25 : decode cX6_wouldControl 25 = .ok (.iload_n 2, 1) := by decide +kernel
theorem dX6_wouldControl_26 : decode cX6_wouldControl 26 = .ok (.invokestatic 159, 3) := by decide +kernel
theorem dX6_wouldControl_29 : decode cX6_wouldControl 29 = .ok (.ireturn, 1) := by decide +kernel
theorem dX6_inLowestTerms_0 : decode cX6_inLowestTerms 0 = .ok (.lload_n 0, 1) := by decide +kernel
theorem dX6_inLowestTerms_1 : decode cX6_inLowestTerms 1 = .ok (.lload_n 2, 1) := by decide +kernel
theorem dX6_inLowestTerms_2 : decode cX6_inLowestTerms 2 = .ok (.invokestatic 311, 3) := by decide +kernel
theorem dX6_inLowestTerms_5 : decode cX6_inLowestTerms 5 = .ok (.lstore 5, 2) := by decide +kernel
theorem dX6_inLowestTerms_7 : decode cX6_inLowestTerms 7 = .ok (.lload 5, 2) := by decide +kernel
theorem dX6_inLowestTerms_9 : decode cX6_inLowestTerms 9 = .ok (.lconst 0, 1) := by decide +kernel
theorem dX6_inLowestTerms_10 : decode cX6_inLowestTerms 10 = .ok (.lcmp, 1) := by decide +kernel
theorem dX6_inLowestTerms_11 : decode cX6_inLowestTerms 11 = .ok (.ifCond .ne 7, 3) := by decide +kernel
theorem dX6_inLowestTerms_14 : decode cX6_inLowestTerms 14 = .ok (.iload 4, 2) := by decide +kernel
theorem dX6_inLowestTerms_16 : decode cX6_inLowestTerms 16 = .ok (.i2l, 1) := by decide +kernel
theorem dX6_inLowestTerms_17 : decode cX6_inLowestTerms 17 = .ok (.lreturn, 1) := by decide +kernel
theorem dX6_inLowestTerms_18 : decode cX6_inLowestTerms 18 = .ok (.iload 4, 2) := by decide +kernel
theorem dX6_inLowestTerms_20 : decode cX6_inLowestTerms 20 = .ok (.ifCond .ne 7, 3) := by decide +kernel
theorem dX6_inLowestTerms_23 : decode cX6_inLowestTerms 23 = .ok (.lload_n 0, 1) := by decide +kernel
theorem dX6_inLowestTerms_24 : decode cX6_inLowestTerms 24 = .ok (.goto 4, 3) := by decide +kernel
theorem dX6_inLowestTerms_27 : decode cX6_inLowestTerms 27 = .ok (.lload_n 2, 1) := by decide +kernel
theorem dX6_inLowestTerms_28 : decode cX6_inLowestTerms 28 = .ok (.lload 5, 2) := by decide +kernel
theorem dX6_inLowestTerms_30 : decode cX6_inLowestTerms 30 = .ok (.ldiv, 1) := by decide +kernel
theorem dX6_inLowestTerms_31 : decode cX6_inLowestTerms 31 = .ok (.lreturn, 1) := by decide +kernel
theorem dX6_commonDivisor_0 : decode cX6_commonDivisor 0 = .ok (.lload_n 0, 1) := by decide +kernel
theorem dX6_commonDivisor_1 : decode cX6_commonDivisor 1 = .ok (.lstore 4, 2) := by decide +kernel
theorem dX6_commonDivisor_3 : decode cX6_commonDivisor 3 = .ok (.lload_n 2, 1) := by decide +kernel
theorem dX6_commonDivisor_4 : decode cX6_commonDivisor 4 = .ok (.lstore 6, 2) := by decide +kernel
theorem dX6_commonDivisor_6 : decode cX6_commonDivisor 6 = .ok (.iconst 0, 1) := by decide +kernel
theorem dX6_commonDivisor_7 : decode cX6_commonDivisor 7 = .ok (.istore 8, 2) := by decide +kernel
theorem dX6_commonDivisor_9 : decode cX6_commonDivisor 9 = .ok (.iload 8, 2) := by decide +kernel
theorem dX6_commonDivisor_11 : decode cX6_commonDivisor 11 = .ok (.bipush 100, 2) := by decide +kernel
theorem dX6_commonDivisor_13 : decode cX6_commonDivisor 13 = .ok (.if_icmp .ge 31, 3) := by decide +kernel
theorem dX6_commonDivisor_16 : decode cX6_commonDivisor 16 = .ok (.lload 6, 2) := by decide +kernel
theorem dX6_commonDivisor_18 : decode cX6_commonDivisor 18 = .ok (.lconst 0, 1) := by decide +kernel
theorem dX6_commonDivisor_19 : decode cX6_commonDivisor 19 = .ok (.lcmp, 1) := by decide +kernel
theorem dX6_commonDivisor_20 : decode cX6_commonDivisor 20 = .ok (.ifCond .eq 24, 3) := by decide +kernel
theorem dX6_commonDivisor_23 : decode cX6_commonDivisor 23 = .ok (.lload 4, 2) := by decide +kernel
theorem dX6_commonDivisor_25 : decode cX6_commonDivisor 25 = .ok (.lload 6, 2) := by decide +kernel
theorem dX6_commonDivisor_27 : decode cX6_commonDivisor 27 = .ok (.lrem, 1) := by decide +kernel
theorem dX6_commonDivisor_28 : decode cX6_commonDivisor 28 = .ok (.lstore 9, 2) := by decide +kernel
theorem dX6_commonDivisor_30 : decode cX6_commonDivisor 30 = .ok (.lload 6, 2) := by decide +kernel
theorem dX6_commonDivisor_32 : decode cX6_commonDivisor 32 = .ok (.lstore 4, 2) := by decide +kernel
theorem dX6_commonDivisor_34 : decode cX6_commonDivisor 34 = .ok (.lload 9, 2) := by decide +kernel
theorem dX6_commonDivisor_36 : decode cX6_commonDivisor 36 = .ok (.lstore 6, 2) := by decide +kernel
theorem dX6_commonDivisor_38 : decode cX6_commonDivisor 38 = .ok (.iinc 8 1, 3) := by decide +kernel
theorem dX6_commonDivisor_41 : decode cX6_commonDivisor 41 = .ok (.goto (-32), 3) := by decide +kernel
theorem dX6_commonDivisor_44 : decode cX6_commonDivisor 44 = .ok (.lload 4, 2) := by decide +kernel
theorem dX6_commonDivisor_46 : decode cX6_commonDivisor 46 = .ok (.lreturn, 1) := by decide +kernel
end
section
theorem dX7_init_0 : decode cX7_init 0 = .ok (.aload_n 0, 1) := by decide +kernel
theorem dX7_init_1 : decode cX7_init 1 = .ok (.invokespecial 1, 3) := by decide +kernel
theorem dX7_init_4 : decode cX7_init 4 = .ok (.aload_n 0, 1) := by decide +kernel
theorem dX7_init_5 : decode cX7_init 5 = .ok (.bipush 41, 2) := by decide +kernel
theorem dX7_init_7 : decode cX7_init 7 = .ok (.newarray .int, 2) := by decide +kernel
theorem dX7_init_9 : decode cX7_init 9 = .ok (.putfield 7, 3) := by decide +kernel
theorem dX7_init_12 : decode cX7_init 12 = .ok (.aload_n 0, 1) := by decide +kernel
theorem dX7_init_13 : decode cX7_init 13 = .ok (.bipush 41, 2) := by decide +kernel
theorem dX7_init_15 : decode cX7_init 15 = .ok (.newarray .int, 2) := by decide +kernel
theorem dX7_init_17 : decode cX7_init 17 = .ok (.putfield 13, 3) := by decide +kernel
theorem dX7_init_20 : decode cX7_init 20 = .ok (.aload_n 0, 1) := by decide +kernel
theorem dX7_init_21 : decode cX7_init 21 = .ok (.bipush 41, 2) := by decide +kernel
theorem dX7_init_23 : decode cX7_init 23 = .ok (.newarray .int, 2) := by decide +kernel
theorem dX7_init_25 : decode cX7_init 25 = .ok (.putfield 16, 3) := by decide +kernel
theorem dX7_init_28 : decode cX7_init 28 = .ok (.aload_n 0, 1) := by decide +kernel
theorem dX7_init_29 : decode cX7_init 29 = .ok (.bipush 41, 2) := by decide +kernel
theorem dX7_init_31 : decode cX7_init 31 = .ok (.newarray .int, 2) := by decide +kernel
theorem dX7_init_33 : decode cX7_init 33 = .ok (.putfield 19, 3) := by decide +kernel
theorem dX7_init_36 : decode cX7_init 36 = .ok (.aload_n 0, 1) := by decide +kernel
theorem dX7_init_37 : decode cX7_init 37 = .ok (.bipush 41, 2) := by decide +kernel
theorem dX7_init_39 : decode cX7_init 39 = .ok (.newarray .int, 2) := by decide +kernel
theorem dX7_init_41 : decode cX7_init 41 = .ok (.putfield 22, 3) := by decide +kernel
theorem dX7_init_44 : decode cX7_init 44 = .ok (.aload_n 0, 1) := by decide +kernel
theorem dX7_init_45 : decode cX7_init 45 = .ok (.bipush 41, 2) := by decide +kernel
theorem dX7_init_47 : decode cX7_init 47 = .ok (.newarray .int, 2) := by decide +kernel
theorem dX7_init_49 : decode cX7_init 49 = .ok (.putfield 25, 3) := by decide +kernel
theorem dX7_init_52 : decode cX7_init 52 = .ok (.aload_n 0, 1) := by decide +kernel
theorem dX7_init_53 : decode cX7_init 53 = .ok (.iconst 3, 1) := by decide +kernel
theorem dX7_init_54 : decode cX7_init 54 = .ok (.newarray .int, 2) := by decide +kernel
theorem dX7_init_56 : decode cX7_init 56 = .ok (.putfield 28, 3) := by decide +kernel
theorem dX7_init_59 : decode cX7_init 59 = .ok (.aload_n 0, 1) := by decide +kernel
theorem dX7_init_60 : decode cX7_init 60 = .ok (.bipush 41, 2) := by decide +kernel
theorem dX7_init_62 : decode cX7_init 62 = .ok (.newarray .int, 2) := by decide +kernel
theorem dX7_init_64 : decode cX7_init 64 = .ok (.putfield 31, 3) := by decide +kernel
theorem dX7_init_67 : decode cX7_init 67 = .ok (.aload_n 0, 1) := by decide +kernel
theorem dX7_init_68 : decode cX7_init 68 = .ok (.bipush 50, 2) := by decide +kernel
theorem dX7_init_70 : decode cX7_init 70 = .ok (.newarray .int, 2) := by decide +kernel
theorem dX7_init_72 : decode cX7_init 72 = .ok (.putfield 34, 3) := by decide +kernel
theorem dX7_init_75 : decode cX7_init 75 = .ok (.aload_n 0, 1) := by decide +kernel
theorem dX7_init_76 : decode cX7_init 76 = .ok (.bipush 50, 2) := by decide +kernel
theorem dX7_init_78 : decode cX7_init 78 = .ok (.newarray .int, 2) := by decide +kernel
theorem dX7_init_80 : decode cX7_init 80 = .ok (.putfield 37, 3) := by decide +kernel
theorem dX7_init_83 : decode cX7_init 83 = .ok (.aload_n 0, 1) := by decide +kernel
theorem dX7_init_84 : decode cX7_init 84 = .ok (.bipush 50, 2) := by decide +kernel
theorem dX7_init_86 : decode cX7_init 86 = .ok (.newarray .boolean, 2) := by decide +kernel
theorem dX7_init_88 : decode cX7_init 88 = .ok (.putfield 40, 3) := by decide +kernel
theorem dX7_init_91 : decode cX7_init 91 = .ok (.aload_n 0, 1) := by decide +kernel
theorem dX7_init_92 : decode cX7_init 92 = .ok (.iconst 5, 1) := by decide +kernel
theorem dX7_init_93 : decode cX7_init 93 = .ok (.newarray .int, 2) := by decide +kernel
theorem dX7_init_95 : decode cX7_init 95 = .ok (.putfield 44, 3) := by decide +kernel
theorem dX7_init_98 : decode cX7_init 98 = .ok (.aload_n 0, 1) := by decide +kernel
theorem dX7_init_99 : decode cX7_init 99 = .ok (.bipush 9, 2) := by decide +kernel
theorem dX7_init_101 : decode cX7_init 101 = .ok (.newarray .int, 2) := by decide +kernel
theorem dX7_init_103 : decode cX7_init 103 = .ok (.putfield 47, 3) := by decide +kernel
theorem dX7_init_106 : decode cX7_init 106 = .ok (.aload_n 0, 1) := by decide +kernel
theorem dX7_init_107 : decode cX7_init 107 = .ok (.bipush 25, 2) := by decide +kernel
theorem dX7_init_109 : decode cX7_init 109 = .ok (.newarray .long, 2) := by decide +kernel
theorem dX7_init_111 : decode cX7_init 111 = .ok (.putfield 50, 3) := by decide +kernel
theorem dX7_init_114 : decode cX7_init 114 = .ok (.aload_n 0, 1) := by decide +kernel
theorem dX7_init_115 : decode cX7_init 115 = .ok (.iconst 4, 1) := by decide +kernel
theorem dX7_init_116 : decode cX7_init 116 = .ok (.newarray .long, 2) := by decide +kernel
theorem dX7_init_118 : decode cX7_init 118 = .ok (.putfield 54, 3) := by decide +kernel
theorem dX7_init_121 : decode cX7_init 121 = .ok (.aload_n 0, 1) := by decide +kernel
theorem dX7_init_122 : decode cX7_init 122 = .ok (.iconst 5, 1) := by decide +kernel
theorem dX7_init_123 : decode cX7_init 123 = .ok (.newarray .int, 2) := by decide +kernel
theorem dX7_init_125 : decode cX7_init 125 = .ok (.putfield 57, 3) := by decide +kernel
theorem dX7_init_128 : decode cX7_init 128 = .ok (.aload_n 0, 1) := by decide +kernel
theorem dX7_init_129 : decode cX7_init 129 = .ok (.sipush 490, 3) := by decide +kernel
theorem dX7_init_132 : decode cX7_init 132 = .ok (.newarray .int, 2) := by decide +kernel
theorem dX7_init_134 : decode cX7_init 134 = .ok (.putfield 60, 3) := by decide +kernel
theorem dX7_init_137 : decode cX7_init 137 = .ok (.aload_n 0, 1) := by decide +kernel
theorem dX7_init_138 : decode cX7_init 138 = .ok (.iconst 2, 1) := by decide +kernel
theorem dX7_init_139 : decode cX7_init 139 = .ok (.newarray .boolean, 2) := by decide +kernel
theorem dX7_init_141 : decode cX7_init 141 = .ok (.putfield 63, 3) := by decide +kernel
theorem dX7_init_144 : decode cX7_init 144 = .ok (.aload_n 0, 1) := by decide +kernel
theorem dX7_init_145 : decode cX7_init 145 = .ok (.getfield 28, 3) := by decide +kernel
theorem dX7_init_148 : decode cX7_init 148 = .ok (.iconst 0, 1) := by decide +kernel
theorem dX7_init_149 : decode cX7_init 149 = .ok (.bipush 50, 2) := by decide +kernel
theorem dX7_init_151 : decode cX7_init 151 = .ok (.iastore, 1) := by decide +kernel
theorem dX7_init_152 : decode cX7_init 152 = .ok (.aload_n 0, 1) := by decide +kernel
theorem dX7_init_153 : decode cX7_init 153 = .ok (.getfield 28, 3) := by decide +kernel
theorem dX7_init_156 : decode cX7_init 156 = .ok (.iconst 1, 1) := by decide +kernel
theorem dX7_init_157 : decode cX7_init 157 = .ok (.bipush 30, 2) := by decide +kernel
theorem dX7_init_159 : decode cX7_init 159 = .ok (.iastore, 1) := by decide +kernel
theorem dX7_init_160 : decode cX7_init 160 = .ok (.aload_n 0, 1) := by decide +kernel
theorem dX7_init_161 : decode cX7_init 161 = .ok (.getfield 28, 3) := by decide +kernel
theorem dX7_init_164 : decode cX7_init 164 = .ok (.iconst 2, 1) := by decide +kernel
theorem dX7_init_165 : decode cX7_init 165 = .ok (.bipush 25, 2) := by decide +kernel
theorem dX7_init_167 : decode cX7_init 167 = .ok (.iastore, 1) := by decide +kernel
theorem dX7_init_168 : decode cX7_init 168 = .ok (.return_, 1) := by decide +kernel
theorem dX7_in_0 : decode cX7_in 0 = .ok (.iload_n 0, 1) := by decide +kernel
theorem dX7_in_1 : decode cX7_in 1 = .ok (.iload_n 1, 1) := by decide +kernel
theorem dX7_in_2 : decode cX7_in 2 = .ok (.if_icmp .lt 12, 3) := by decide +kernel
theorem dX7_in_5 : decode cX7_in 5 = .ok (.iload_n 0, 1) := by decide +kernel
theorem dX7_in_6 : decode cX7_in 6 = .ok (.iload_n 2, 1) := by decide +kernel
theorem dX7_in_7 : decode cX7_in 7 = .ok (.if_icmp .gt 7, 3) := by decide +kernel
theorem dX7_in_10 : decode cX7_in 10 = .ok (.iconst 1, 1) := by decide +kernel
theorem dX7_in_11 : decode cX7_in 11 = .ok (.goto 4, 3) := by decide +kernel
theorem dX7_in_14 : decode cX7_in 14 = .ok (.iconst 0, 1) := by decide +kernel
theorem dX7_in_15 : decode cX7_in 15 = .ok (.ireturn, 1) := by decide +kernel
theorem dX7_isFirm_0 : decode cX7_isFirm 0 = .ok (.iload_n 0, 1) := by decide +kernel
theorem dX7_isFirm_1 : decode cX7_isFirm 1 = .ok (.iconst 0, 1) := by decide +kernel
theorem dX7_isFirm_2 : decode cX7_isFirm 2 = .ok (.iconst 4, 1) := by decide +kernel
theorem dX7_isFirm_3 : decode cX7_isFirm 3 = .ok (.invokestatic 66, 3) := by decide +kernel
theorem dX7_isFirm_6 : decode cX7_isFirm 6 = .ok (.ireturn, 1) := by decide +kernel
theorem dX7_isOne_0 : decode cX7_isOne 0 = .ok (.iload_n 0, 1) := by decide +kernel
theorem dX7_isOne_1 : decode cX7_isOne 1 = .ok (.iconst 0, 1) := by decide +kernel
theorem dX7_isOne_2 : decode cX7_isOne 2 = .ok (.bipush 8, 2) := by decide +kernel
theorem dX7_isOne_4 : decode cX7_isOne 4 = .ok (.invokestatic 66, 3) := by decide +kernel
theorem dX7_isOne_7 : decode cX7_isOne 7 = .ok (.ireturn, 1) := by decide +kernel
theorem dX7_placeOf_0 : decode cX7_placeOf 0 = .ok (.iconst 0, 1) := by decide +kernel
theorem dX7_placeOf_1 : decode cX7_placeOf 1 = .ok (.istore_n 2, 1) := by decide +kernel
theorem dX7_placeOf_2 : decode cX7_placeOf 2 = .ok (.iconst 0, 1) := by decide +kernel
theorem dX7_placeOf_3 : decode cX7_placeOf 3 = .ok (.istore_n 3, 1) := by decide +kernel
theorem dX7_placeOf_4 : decode cX7_placeOf 4 = .ok (.iload_n 3, 1) := by decide +kernel
theorem dX7_placeOf_5 : decode cX7_placeOf 5 = .ok (.aload_n 0, 1) := by decide +kernel
theorem dX7_placeOf_6 : decode cX7_placeOf 6 = .ok (.getfield 70, 3) := by decide +kernel
theorem dX7_placeOf_9 : decode cX7_placeOf 9 = .ok (.if_icmp .ge 52, 3) := by decide +kernel
theorem dX7_placeOf_12 : decode cX7_placeOf 12 = .ok (.iload_n 2, 1) := by decide +kernel
theorem dX7_placeOf_13 : decode cX7_placeOf 13 = .ok (.aload_n 0, 1) := by decide +kernel
theorem dX7_placeOf_14 : decode cX7_placeOf 14 = .ok (.getfield 7, 3) := by decide +kernel
theorem dX7_placeOf_17 : decode cX7_placeOf 17 = .ok (.iload_n 3, 1) := by decide +kernel
theorem dX7_placeOf_18 : decode cX7_placeOf 18 = .ok (.iaload, 1) := by decide +kernel
theorem dX7_placeOf_19 : decode cX7_placeOf 19 = .ok (.aload_n 0, 1) := by decide +kernel
theorem dX7_placeOf_20 : decode cX7_placeOf 20 = .ok (.getfield 7, 3) := by decide +kernel
theorem dX7_placeOf_23 : decode cX7_placeOf 23 = .ok (.iload_n 1, 1) := by decide +kernel
theorem dX7_placeOf_24 : decode cX7_placeOf 24 = .ok (.iaload, 1) := by decide +kernel
theorem dX7_placeOf_25 : decode cX7_placeOf 25 = .ok (.if_icmp .lt 23, 3) := by decide +kernel
theorem dX7_placeOf_28 : decode cX7_placeOf 28 = .ok (.aload_n 0, 1) := by decide +kernel
theorem dX7_placeOf_29 : decode cX7_placeOf 29 = .ok (.getfield 7, 3) := by decide +kernel
theorem dX7_placeOf_32 : decode cX7_placeOf 32 = .ok (.iload_n 3, 1) := by decide +kernel
theorem dX7_placeOf_33 : decode cX7_placeOf 33 = .ok (.iaload, 1) := by decide +kernel
theorem dX7_placeOf_34 : decode cX7_placeOf 34 = .ok (.aload_n 0, 1) := by decide +kernel
theorem dX7_placeOf_35 : decode cX7_placeOf 35 = .ok (.getfield 7, 3) := by decide +kernel
theorem dX7_placeOf_38 : decode cX7_placeOf 38 = .ok (.iload_n 1, 1) := by decide +kernel
theorem dX7_placeOf_39 : decode cX7_placeOf 39 = .ok (.iaload, 1) := by decide +kernel
theorem dX7_placeOf_40 : decode cX7_placeOf 40 = .ok (.if_icmp .ne 12, 3) := by decide +kernel
theorem dX7_placeOf_43 : decode cX7_placeOf 43 = .ok (.iload_n 3, 1) := by decide +kernel
theorem dX7_placeOf_44 : decode cX7_placeOf 44 = .ok (.iload_n 1, 1) := by decide +kernel
theorem dX7_placeOf_45 : decode cX7_placeOf 45 = .ok (.if_icmp .ge 7, 3) := by decide +kernel
theorem dX7_placeOf_48 : decode cX7_placeOf 48 = .ok (.iconst 1, 1) := by decide +kernel
theorem dX7_placeOf_49 : decode cX7_placeOf 49 = .ok (.goto 4, 3) := by decide +kernel
theorem dX7_placeOf_52 : decode cX7_placeOf 52 = .ok (.iconst 0, 1) := by decide +kernel
theorem dX7_placeOf_53 : decode cX7_placeOf 53 = .ok (.iadd, 1) := by decide +kernel
theorem dX7_placeOf_54 : decode cX7_placeOf 54 = .ok (.istore_n 2, 1) := by decide +kernel
theorem dX7_placeOf_55 : decode cX7_placeOf 55 = .ok (.iinc 3 1, 3) := by decide +kernel
theorem dX7_placeOf_58 : decode cX7_placeOf 58 = .ok (.goto (-54), 3) := by decide +kernel
theorem dX7_placeOf_61 : decode cX7_placeOf 61 = .ok (.iload_n 2, 1) := by decide +kernel
theorem dX7_placeOf_62 : decode cX7_placeOf 62 = .ok (.ireturn, 1) := by decide +kernel
theorem dX7_at_0 : decode cX7_at 0 = .ok (.iconst 5, 1) := by decide +kernel
theorem dX7_at_1 : decode cX7_at 1 = .ok (.iload_n 0, 1) := by decide +kernel
theorem dX7_at_2 : decode cX7_at 2 = .ok (.imul, 1) := by decide +kernel
theorem dX7_at_3 : decode cX7_at 3 = .ok (.iload_n 1, 1) := by decide +kernel
theorem dX7_at_4 : decode cX7_at 4 = .ok (.iadd, 1) := by decide +kernel
theorem dX7_at_5 : decode cX7_at 5 = .ok (.ireturn, 1) := by decide +kernel
theorem dX7_begin_0 : decode cX7_begin 0 = .ok (.iconst 0, 1) := by decide +kernel
theorem dX7_begin_1 : decode cX7_begin 1 = .ok (.istore_n 1, 1) := by decide +kernel
theorem dX7_begin_2 : decode cX7_begin 2 = .ok (.iload_n 1, 1) := by decide +kernel
theorem dX7_begin_3 : decode cX7_begin 3 = .ok (.aload_n 0, 1) := by decide +kernel
theorem dX7_begin_4 : decode cX7_begin 4 = .ok (.getfield 70, 3) := by decide +kernel
theorem dX7_begin_7 : decode cX7_begin 7 = .ok (.if_icmp .ge 20, 3) := by decide +kernel
theorem dX7_begin_10 : decode cX7_begin 10 = .ok (.aload_n 0, 1) := by decide +kernel
theorem dX7_begin_11 : decode cX7_begin 11 = .ok (.getfield 31, 3) := by decide +kernel
theorem dX7_begin_14 : decode cX7_begin 14 = .ok (.aload_n 0, 1) := by decide +kernel
theorem dX7_begin_15 : decode cX7_begin 15 = .ok (.iload_n 1, 1) := by decide +kernel
theorem dX7_begin_16 : decode cX7_begin 16 = .ok (.invokevirtual 74, 3) := by decide +kernel
theorem dX7_begin_19 : decode cX7_begin 19 = .ok (.iload_n 1, 1) := by decide +kernel
theorem dX7_begin_20 : decode cX7_begin 20 = .ok (.iastore, 1) := by decide +kernel
theorem dX7_begin_21 : decode cX7_begin 21 = .ok (.iinc 1 1, 3) := by decide +kernel
theorem dX7_begin_24 : decode cX7_begin 24 = .ok (.goto (-22), 3) := by decide +kernel
theorem dX7_begin_27 : decode cX7_begin 27 = .ok (.iconst 0, 1) := by decide +kernel
theorem dX7_begin_28 : decode cX7_begin 28 = .ok (.istore_n 1, 1) := by decide +kernel
theorem dX7_begin_29 : decode cX7_begin 29 = .ok (.iload_n 1, 1) := by decide +kernel
theorem dX7_begin_30 : decode cX7_begin 30 = .ok (.bipush 50, 2) := by decide +kernel
theorem dX7_begin_32 : decode cX7_begin 32 = .ok (.if_icmp .ge 48, 3) := by decide +kernel
theorem dX7_begin_35 : decode cX7_begin 35 = .ok (.aload_n 0, 1) := by decide +kernel
theorem dX7_begin_36 : decode cX7_begin 36 = .ok (.getfield 34, 3) := by decide +kernel
theorem dX7_begin_39 : decode cX7_begin 39 = .ok (.iload_n 1, 1) := by decide +kernel
theorem dX7_begin_40 : decode cX7_begin 40 = .ok (.iload_n 1, 1) := by decide +kernel
theorem dX7_begin_41 : decode cX7_begin 41 = .ok (.iconst 5, 1) := by decide +kernel
theorem dX7_begin_42 : decode cX7_begin 42 = .ok (.idiv, 1) := by decide +kernel
theorem dX7_begin_43 : decode cX7_begin 43 = .ok (.bipush 9, 2) := by decide +kernel
theorem dX7_begin_45 : decode cX7_begin 45 = .ok (.if_icmp .ne 8, 3) := by decide +kernel
theorem dX7_begin_48 : decode cX7_begin 48 = .ok (.bipush 100, 2) := by decide +kernel
theorem dX7_begin_50 : decode cX7_begin 50 = .ok (.goto 4, 3) := by decide +kernel
theorem dX7_begin_53 : decode cX7_begin 53 = .ok (.iconst 0, 1) := by decide +kernel
theorem dX7_begin_54 : decode cX7_begin 54 = .ok (.iastore, 1) := by decide +kernel
theorem dX7_begin_55 : decode cX7_begin 55 = .ok (.aload_n 0, 1) := by decide +kernel
theorem dX7_begin_56 : decode cX7_begin 56 = .ok (.getfield 37, 3) := by decide +kernel
theorem dX7_begin_59 : decode cX7_begin 59 = .ok (.iload_n 1, 1) := by decide +kernel
theorem dX7_begin_60 : decode cX7_begin 60 = .ok (.aload_n 0, 1) := by decide +kernel
theorem dX7_begin_61 : decode cX7_begin 61 = .ok (.getfield 34, 3) := by decide +kernel
theorem dX7_begin_64 : decode cX7_begin 64 = .ok (.iload_n 1, 1) := by decide +kernel
theorem dX7_begin_65 : decode cX7_begin 65 = .ok (.iaload, 1) := by decide +kernel
theorem dX7_begin_66 : decode cX7_begin 66 = .ok (.iastore, 1) := by decide +kernel
theorem dX7_begin_67 : decode cX7_begin 67 = .ok (.aload_n 0, 1) := by decide +kernel
theorem dX7_begin_68 : decode cX7_begin 68 = .ok (.getfield 40, 3) := by decide +kernel
theorem dX7_begin_71 : decode cX7_begin 71 = .ok (.iload_n 1, 1) := by decide +kernel
theorem dX7_begin_72 : decode cX7_begin 72 = .ok (.iconst 0, 1) := by decide +kernel
theorem dX7_begin_73 : decode cX7_begin 73 = .ok (.bastore, 1) := by decide +kernel
theorem dX7_begin_74 : decode cX7_begin 74 = .ok (.iinc 1 1, 3) := by decide +kernel
theorem dX7_begin_77 : decode cX7_begin 77 = .ok (.goto (-48), 3) := by decide +kernel
theorem dX7_begin_80 : decode cX7_begin 80 = .ok (.return_, 1) := by decide +kernel
theorem dX7_does_0 : decode cX7_does 0 = .ok (.aload_n 0, 1) := by decide +kernel
theorem dX7_does_1 : decode cX7_does 1 = .ok (.getfield 19, 3) := by decide +kernel
theorem dX7_does_4 : decode cX7_does 4 = .ok (.iload_n 1, 1) := by decide +kernel
theorem dX7_does_5 : decode cX7_does 5 = .ok (.iaload, 1) := by decide +kernel
theorem dX7_does_6 : decode cX7_does 6 = .ok (.aload_n 0, 1) := by decide +kernel
theorem dX7_does_7 : decode cX7_does 7 = .ok (.getfield 13, 3) := by decide +kernel
theorem dX7_does_10 : decode cX7_does 10 = .ok (.iload_n 1, 1) := by decide +kernel
theorem dX7_does_11 : decode cX7_does 11 = .ok (.iaload, 1) := by decide +kernel
theorem dX7_does_12 : decode cX7_does 12 = .ok (.invokestatic 78, 3) := by decide +kernel
theorem dX7_does_15 : decode cX7_does 15 = .ok (.istore_n 2, 1) := by decide +kernel
theorem dX7_does_16 : decode cX7_does 16 = .ok (.aload_n 0, 1) := by decide +kernel
theorem dX7_does_17 : decode cX7_does 17 = .ok (.getfield 22, 3) := by decide +kernel
theorem dX7_does_20 : decode cX7_does 20 = .ok (.iload_n 1, 1) := by decide +kernel
theorem dX7_does_21 : decode cX7_does 21 = .ok (.iaload, 1) := by decide +kernel
theorem dX7_does_22 : decode cX7_does 22 = .ok (.aload_n 0, 1) := by decide +kernel
theorem dX7_does_23 : decode cX7_does 23 = .ok (.getfield 13, 3) := by decide +kernel
theorem dX7_does_26 : decode cX7_does 26 = .ok (.iload_n 1, 1) := by decide +kernel
theorem dX7_does_27 : decode cX7_does 27 = .ok (.iaload, 1) := by decide +kernel
theorem dX7_does_28 : decode cX7_does 28 = .ok (.invokestatic 78, 3) := by decide +kernel
theorem dX7_does_31 : decode cX7_does 31 = .ok (.istore_n 3, 1) := by decide +kernel
theorem dX7_does_32 : decode cX7_does 32 = .ok (.aload_n 0, 1) := by decide +kernel
theorem dX7_does_33 : decode cX7_does 33 = .ok (.getfield 16, 3) := by decide +kernel
theorem dX7_does_36 : decode cX7_does 36 = .ok (.iload_n 1, 1) := by decide +kernel
theorem dX7_does_37 : decode cX7_does 37 = .ok (.iaload, 1) := by decide +kernel
theorem dX7_does_38 : decode cX7_does 38 = .ok (.lookupswitch 124 #[(0, 26), (1, 75)], 26) := by decide +kernel
theorem dX7_does_64 : decode cX7_does 64 = .ok (.aload_n 0, 1) := by decide +kernel
theorem dX7_does_65 : decode cX7_does 65 = .ok (.getfield 34, 3) := by decide +kernel
theorem dX7_does_68 : decode cX7_does 68 = .ok (.iload_n 2, 1) := by decide +kernel
theorem dX7_does_69 : decode cX7_does 69 = .ok (.iaload, 1) := by decide +kernel
theorem dX7_does_70 : decode cX7_does 70 = .ok (.aload_n 0, 1) := by decide +kernel
theorem dX7_does_71 : decode cX7_does 71 = .ok (.getfield 25, 3) := by decide +kernel
theorem dX7_does_74 : decode cX7_does 74 = .ok (.iload_n 1, 1) := by decide +kernel
theorem dX7_does_75 : decode cX7_does 75 = .ok (.iaload, 1) := by decide +kernel
theorem dX7_does_76 : decode cX7_does 76 = .ok (.if_icmp .ge 5, 3) := by decide +kernel
theorem dX7_does_79 : decode cX7_does 79 = .ok (.iconst 0, 1) := by decide +kernel
theorem dX7_does_80 : decode cX7_does 80 = .ok (.ireturn, 1) := by decide +kernel
theorem dX7_does_81 : decode cX7_does 81 = .ok (.aload_n 0, 1) := by decide +kernel
theorem dX7_does_82 : decode cX7_does 82 = .ok (.getfield 34, 3) := by decide +kernel
theorem dX7_does_85 : decode cX7_does 85 = .ok (.iload_n 2, 1) := by decide +kernel
theorem dX7_does_86 : decode cX7_does 86 = .ok (.dup2, 1) := by decide +kernel
theorem dX7_does_87 : decode cX7_does 87 = .ok (.iaload, 1) := by decide +kernel
theorem dX7_does_88 : decode cX7_does 88 = .ok (.aload_n 0, 1) := by decide +kernel
theorem dX7_does_89 : decode cX7_does 89 = .ok (.getfield 25, 3) := by decide +kernel
theorem dX7_does_92 : decode cX7_does 92 = .ok (.iload_n 1, 1) := by decide +kernel
theorem dX7_does_93 : decode cX7_does 93 = .ok (.iaload, 1) := by decide +kernel
theorem dX7_does_94 : decode cX7_does 94 = .ok (.isub, 1) := by decide +kernel
theorem dX7_does_95 : decode cX7_does 95 = .ok (.iastore, 1) := by decide +kernel
theorem dX7_does_96 : decode cX7_does 96 = .ok (.aload_n 0, 1) := by decide +kernel
theorem dX7_does_97 : decode cX7_does 97 = .ok (.getfield 34, 3) := by decide +kernel
theorem dX7_does_100 : decode cX7_does 100 = .ok (.iload_n 3, 1) := by decide +kernel
theorem dX7_does_101 : decode cX7_does 101 = .ok (.dup2, 1) := by decide +kernel
theorem dX7_does_102 : decode cX7_does 102 = .ok (.iaload, 1) := by decide +kernel
theorem dX7_does_103 : decode cX7_does 103 = .ok (.aload_n 0, 1) := by decide +kernel
theorem dX7_does_104 : decode cX7_does 104 = .ok (.getfield 25, 3) := by decide +kernel
theorem dX7_does_107 : decode cX7_does 107 = .ok (.iload_n 1, 1) := by decide +kernel
theorem dX7_does_108 : decode cX7_does 108 = .ok (.iaload, 1) := by decide +kernel
theorem dX7_does_109 : decode cX7_does 109 = .ok (.iadd, 1) := by decide +kernel
theorem dX7_does_110 : decode cX7_does 110 = .ok (.iastore, 1) := by decide +kernel
theorem dX7_does_111 : decode cX7_does 111 = .ok (.iconst 1, 1) := by decide +kernel
theorem dX7_does_112 : decode cX7_does 112 = .ok (.ireturn, 1) := by decide +kernel
theorem dX7_does_113 : decode cX7_does 113 = .ok (.aload_n 0, 1) := by decide +kernel
theorem dX7_does_114 : decode cX7_does 114 = .ok (.getfield 37, 3) := by decide +kernel
theorem dX7_does_117 : decode cX7_does 117 = .ok (.iload_n 2, 1) := by decide +kernel
theorem dX7_does_118 : decode cX7_does 118 = .ok (.iaload, 1) := by decide +kernel
theorem dX7_does_119 : decode cX7_does 119 = .ok (.aload_n 0, 1) := by decide +kernel
theorem dX7_does_120 : decode cX7_does 120 = .ok (.getfield 25, 3) := by decide +kernel
theorem dX7_does_123 : decode cX7_does 123 = .ok (.iload_n 1, 1) := by decide +kernel
theorem dX7_does_124 : decode cX7_does 124 = .ok (.iaload, 1) := by decide +kernel
theorem dX7_does_125 : decode cX7_does 125 = .ok (.if_icmp .ge 5, 3) := by decide +kernel
theorem dX7_does_128 : decode cX7_does 128 = .ok (.iconst 0, 1) := by decide +kernel
theorem dX7_does_129 : decode cX7_does 129 = .ok (.ireturn, 1) := by decide +kernel
theorem dX7_does_130 : decode cX7_does 130 = .ok (.aload_n 0, 1) := by decide +kernel
theorem dX7_does_131 : decode cX7_does 131 = .ok (.getfield 37, 3) := by decide +kernel
theorem dX7_does_134 : decode cX7_does 134 = .ok (.iload_n 2, 1) := by decide +kernel
theorem dX7_does_135 : decode cX7_does 135 = .ok (.dup2, 1) := by decide +kernel
theorem dX7_does_136 : decode cX7_does 136 = .ok (.iaload, 1) := by decide +kernel
theorem dX7_does_137 : decode cX7_does 137 = .ok (.aload_n 0, 1) := by decide +kernel
theorem dX7_does_138 : decode cX7_does 138 = .ok (.getfield 25, 3) := by decide +kernel
theorem dX7_does_141 : decode cX7_does 141 = .ok (.iload_n 1, 1) := by decide +kernel
theorem dX7_does_142 : decode cX7_does 142 = .ok (.iaload, 1) := by decide +kernel
theorem dX7_does_143 : decode cX7_does 143 = .ok (.isub, 1) := by decide +kernel
theorem dX7_does_144 : decode cX7_does 144 = .ok (.iastore, 1) := by decide +kernel
theorem dX7_does_145 : decode cX7_does 145 = .ok (.aload_n 0, 1) := by decide +kernel
theorem dX7_does_146 : decode cX7_does 146 = .ok (.getfield 37, 3) := by decide +kernel
theorem dX7_does_149 : decode cX7_does 149 = .ok (.iload_n 3, 1) := by decide +kernel
theorem dX7_does_150 : decode cX7_does 150 = .ok (.dup2, 1) := by decide +kernel
theorem dX7_does_151 : decode cX7_does 151 = .ok (.iaload, 1) := by decide +kernel
theorem dX7_does_152 : decode cX7_does 152 = .ok (.aload_n 0, 1) := by decide +kernel
theorem dX7_does_153 : decode cX7_does 153 = .ok (.getfield 25, 3) := by decide +kernel
theorem dX7_does_156 : decode cX7_does 156 = .ok (.iload_n 1, 1) := by decide +kernel
theorem dX7_does_157 : decode cX7_does 157 = .ok (.iaload, 1) := by decide +kernel
theorem dX7_does_158 : decode cX7_does 158 = .ok (.iadd, 1) := by decide +kernel
theorem dX7_does_159 : decode cX7_does 159 = .ok (.iastore, 1) := by decide +kernel
theorem dX7_does_160 : decode cX7_does 160 = .ok (.iconst 1, 1) := by decide +kernel
theorem dX7_does_161 : decode cX7_does 161 = .ok (.ireturn, 1) := by decide +kernel
theorem dX7_does_162 : decode cX7_does 162 = .ok (.aload_n 0, 1) := by decide +kernel
theorem dX7_does_163 : decode cX7_does 163 = .ok (.getfield 40, 3) := by decide +kernel
theorem dX7_does_166 : decode cX7_does 166 = .ok (.iload_n 3, 1) := by decide +kernel
theorem dX7_does_167 : decode cX7_does 167 = .ok (.aload_n 0, 1) := by decide +kernel
theorem dX7_does_168 : decode cX7_does 168 = .ok (.getfield 16, 3) := by decide +kernel
theorem dX7_does_171 : decode cX7_does 171 = .ok (.iload_n 1, 1) := by decide +kernel
theorem dX7_does_172 : decode cX7_does 172 = .ok (.iaload, 1) := by decide +kernel
theorem dX7_does_173 : decode cX7_does 173 = .ok (.iconst 2, 1) := by decide +kernel
theorem dX7_does_174 : decode cX7_does 174 = .ok (.if_icmp .ne 7, 3) := by decide +kernel
theorem dX7_does_177 : decode cX7_does 177 = .ok (.iconst 1, 1) := by decide +kernel
theorem dX7_does_178 : decode cX7_does 178 = .ok (.goto 4, 3) := by decide +kernel
theorem dX7_does_181 : decode cX7_does 181 = .ok (.iconst 0, 1) := by decide +kernel
theorem dX7_does_182 : decode cX7_does 182 = .ok (.bastore, 1) := by decide +kernel
theorem dX7_does_183 : decode cX7_does 183 = .ok (.iconst 1, 1) := by decide +kernel
theorem dX7_does_184 : decode cX7_does 184 = .ok (.ireturn, 1) := by decide +kernel
theorem dX7_lay_0 : decode cX7_lay 0 = .ok (.aload_n 0, 1) := by decide +kernel
theorem dX7_lay_1 : decode cX7_lay 1 = .ok (.invokevirtual 82, 3) := by decide +kernel
theorem dX7_lay_4 : decode cX7_lay 4 = .ok (.iconst 0, 1) := by decide +kernel
theorem dX7_lay_5 : decode cX7_lay 5 = .ok (.istore_n 3, 1) := by decide +kernel
theorem dX7_lay_6 : decode cX7_lay 6 = .ok (.iload_n 3, 1) := by decide +kernel
theorem dX7_lay_7 : decode cX7_lay 7 = .ok (.aload_n 0, 1) := by decide +kernel
theorem dX7_lay_8 : decode cX7_lay 8 = .ok (.getfield 70, 3) := by decide +kernel
theorem dX7_lay_11 : decode cX7_lay 11 = .ok (.if_icmp .ge 45, 3) := by decide +kernel
theorem dX7_lay_14 : decode cX7_lay 14 = .ok (.aload_n 0, 1) := by decide +kernel
theorem dX7_lay_15 : decode cX7_lay 15 = .ok (.getfield 31, 3) := by decide +kernel
theorem dX7_lay_18 : decode cX7_lay 18 = .ok (.iload_n 3, 1) := by decide +kernel
theorem dX7_lay_19 : decode cX7_lay 19 = .ok (.iaload, 1) := by decide +kernel
theorem dX7_lay_20 : decode cX7_lay 20 = .ok (.istore 4, 2) := by decide +kernel
theorem dX7_lay_22 : decode cX7_lay 22 = .ok (.iload 4, 2) := by decide +kernel
theorem dX7_lay_24 : decode cX7_lay 24 = .ok (.iload_n 2, 1) := by decide +kernel
theorem dX7_lay_25 : decode cX7_lay 25 = .ok (.if_icmp .eq 25, 3) := by decide +kernel
theorem dX7_lay_28 : decode cX7_lay 28 = .ok (.aload_n 0, 1) := by decide +kernel
theorem dX7_lay_29 : decode cX7_lay 29 = .ok (.getfield 7, 3) := by decide +kernel
theorem dX7_lay_32 : decode cX7_lay 32 = .ok (.iload 4, 2) := by decide +kernel
theorem dX7_lay_34 : decode cX7_lay 34 = .ok (.iaload, 1) := by decide +kernel
theorem dX7_lay_35 : decode cX7_lay 35 = .ok (.iload_n 1, 1) := by decide +kernel
theorem dX7_lay_36 : decode cX7_lay 36 = .ok (.if_icmp .gt 14, 3) := by decide +kernel
theorem dX7_lay_39 : decode cX7_lay 39 = .ok (.aload_n 0, 1) := by decide +kernel
theorem dX7_lay_40 : decode cX7_lay 40 = .ok (.iload 4, 2) := by decide +kernel
theorem dX7_lay_42 : decode cX7_lay 42 = .ok (.invokevirtual 85, 3) := by decide +kernel
theorem dX7_lay_45 : decode cX7_lay 45 = .ok (.ifCond .ne 5, 3) := by decide +kernel
theorem dX7_lay_48 : decode cX7_lay 48 = .ok (.iconst 0, 1) := by decide +kernel
theorem dX7_lay_49 : decode cX7_lay 49 = .ok (.ireturn, 1) := by decide +kernel
theorem dX7_lay_50 : decode cX7_lay 50 = .ok (.iinc 3 1, 3) := by decide +kernel
theorem dX7_lay_53 : decode cX7_lay 53 = .ok (.goto (-47), 3) := by decide +kernel
theorem dX7_lay_56 : decode cX7_lay 56 = .ok (.iconst 1, 1) := by decide +kernel
theorem dX7_lay_57 : decode cX7_lay 57 = .ok (.ireturn, 1) := by decide +kernel
theorem dX7_put_0 : decode cX7_put 0 = .ok (.aload_n 0, 1) := by decide +kernel
theorem dX7_put_1 : decode cX7_put 1 = .ok (.getfield 7, 3) := by decide +kernel
theorem dX7_put_4 : decode cX7_put 4 = .ok (.iload_n 1, 1) := by decide +kernel
theorem dX7_put_5 : decode cX7_put 5 = .ok (.iload_n 2, 1) := by decide +kernel
theorem dX7_put_6 : decode cX7_put 6 = .ok (.iastore, 1) := by decide +kernel
theorem dX7_put_7 : decode cX7_put 7 = .ok (.aload_n 0, 1) := by decide +kernel
theorem dX7_put_8 : decode cX7_put 8 = .ok (.getfield 13, 3) := by decide +kernel
theorem dX7_put_11 : decode cX7_put 11 = .ok (.iload_n 1, 1) := by decide +kernel
theorem dX7_put_12 : decode cX7_put 12 = .ok (.iload_n 3, 1) := by decide +kernel
theorem dX7_put_13 : decode cX7_put 13 = .ok (.iastore, 1) := by decide +kernel
theorem dX7_put_14 : decode cX7_put 14 = .ok (.aload_n 0, 1) := by decide +kernel
theorem dX7_put_15 : decode cX7_put 15 = .ok (.getfield 16, 3) := by decide +kernel
theorem dX7_put_18 : decode cX7_put 18 = .ok (.iload_n 1, 1) := by decide +kernel
theorem dX7_put_19 : decode cX7_put 19 = .ok (.iload 4, 2) := by decide +kernel
theorem dX7_put_21 : decode cX7_put 21 = .ok (.iastore, 1) := by decide +kernel
theorem dX7_put_22 : decode cX7_put 22 = .ok (.aload_n 0, 1) := by decide +kernel
theorem dX7_put_23 : decode cX7_put 23 = .ok (.getfield 19, 3) := by decide +kernel
theorem dX7_put_26 : decode cX7_put 26 = .ok (.iload_n 1, 1) := by decide +kernel
theorem dX7_put_27 : decode cX7_put 27 = .ok (.iload 5, 2) := by decide +kernel
theorem dX7_put_29 : decode cX7_put 29 = .ok (.iastore, 1) := by decide +kernel
theorem dX7_put_30 : decode cX7_put 30 = .ok (.aload_n 0, 1) := by decide +kernel
theorem dX7_put_31 : decode cX7_put 31 = .ok (.getfield 22, 3) := by decide +kernel
theorem dX7_put_34 : decode cX7_put 34 = .ok (.iload_n 1, 1) := by decide +kernel
theorem dX7_put_35 : decode cX7_put 35 = .ok (.iload 6, 2) := by decide +kernel
theorem dX7_put_37 : decode cX7_put 37 = .ok (.iastore, 1) := by decide +kernel
theorem dX7_put_38 : decode cX7_put 38 = .ok (.aload_n 0, 1) := by decide +kernel
theorem dX7_put_39 : decode cX7_put 39 = .ok (.getfield 25, 3) := by decide +kernel
theorem dX7_put_42 : decode cX7_put 42 = .ok (.iload_n 1, 1) := by decide +kernel
theorem dX7_put_43 : decode cX7_put 43 = .ok (.iload 7, 2) := by decide +kernel
theorem dX7_put_45 : decode cX7_put 45 = .ok (.iastore, 1) := by decide +kernel
theorem dX7_put_46 : decode cX7_put 46 = .ok (.return_, 1) := by decide +kernel
theorem dX7_add_0 : decode cX7_add 0 = .ok (.aload_n 0, 1) := by decide +kernel
theorem dX7_add_1 : decode cX7_add 1 = .ok (.dup, 1) := by decide +kernel
theorem dX7_add_2 : decode cX7_add 2 = .ok (.getfield 70, 3) := by decide +kernel
theorem dX7_add_5 : decode cX7_add 5 = .ok (.iconst 1, 1) := by decide +kernel
theorem dX7_add_6 : decode cX7_add 6 = .ok (.iadd, 1) := by decide +kernel
theorem dX7_add_7 : decode cX7_add 7 = .ok (.putfield 70, 3) := by decide +kernel
theorem dX7_add_10 : decode cX7_add 10 = .ok (.aload_n 0, 1) := by decide +kernel
theorem dX7_add_11 : decode cX7_add 11 = .ok (.sipush 999, 3) := by decide +kernel
theorem dX7_add_14 : decode cX7_add 14 = .ok (.bipush (-6), 2) := by decide +kernel
theorem dX7_add_16 : decode cX7_add 16 = .ok (.invokevirtual 89, 3) := by decide +kernel
theorem dX7_add_19 : decode cX7_add 19 = .ok (.ifCond .ne 16, 3) := by decide +kernel
theorem dX7_add_22 : decode cX7_add 22 = .ok (.aload_n 0, 1) := by decide +kernel
theorem dX7_add_23 : decode cX7_add 23 = .ok (.dup, 1) := by decide +kernel
theorem dX7_add_24 : decode cX7_add 24 = .ok (.getfield 70, 3) := by decide +kernel
theorem dX7_add_27 : decode cX7_add 27 = .ok (.iconst 1, 1) := by decide +kernel
theorem dX7_add_28 : decode cX7_add 28 = .ok (.isub, 1) := by decide +kernel
theorem dX7_add_29 : decode cX7_add 29 = .ok (.putfield 70, 3) := by decide +kernel
theorem dX7_add_32 : decode cX7_add 32 = .ok (.bipush (-5), 2) := by decide +kernel
theorem dX7_add_34 : decode cX7_add 34 = .ok (.ireturn, 1) := by decide +kernel
theorem dX7_add_35 : decode cX7_add 35 = .ok (.aload_n 0, 1) := by decide +kernel
theorem dX7_add_36 : decode cX7_add 36 = .ok (.getfield 70, 3) := by decide +kernel
theorem dX7_add_39 : decode cX7_add 39 = .ok (.bipush 40, 2) := by decide +kernel
theorem dX7_add_41 : decode cX7_add 41 = .ok (.if_icmp .le 16, 3) := by decide +kernel
theorem dX7_add_44 : decode cX7_add 44 = .ok (.aload_n 0, 1) := by decide +kernel
theorem dX7_add_45 : decode cX7_add 45 = .ok (.dup, 1) := by decide +kernel
theorem dX7_add_46 : decode cX7_add 46 = .ok (.getfield 70, 3) := by decide +kernel
theorem dX7_add_49 : decode cX7_add 49 = .ok (.iconst 1, 1) := by decide +kernel
theorem dX7_add_50 : decode cX7_add 50 = .ok (.isub, 1) := by decide +kernel
theorem dX7_add_51 : decode cX7_add 51 = .ok (.putfield 70, 3) := by decide +kernel
theorem dX7_add_54 : decode cX7_add 54 = .ok (.bipush (-4), 2) := by decide +kernel
theorem dX7_add_56 : decode cX7_add 56 = .ok (.ireturn, 1) := by decide +kernel
theorem dX7_add_57 : decode cX7_add 57 = .ok (.aload_n 0, 1) := by decide +kernel
theorem dX7_add_58 : decode cX7_add 58 = .ok (.getfield 70, 3) := by decide +kernel
theorem dX7_add_61 : decode cX7_add 61 = .ok (.ireturn, 1) := by decide +kernel
theorem dX7_sell_0 : decode cX7_sell 0 = .ok (.iload_n 3, 1) := by decide +kernel
theorem dX7_sell_1 : decode cX7_sell 1 = .ok (.iconst 0, 1) := by decide +kernel
theorem dX7_sell_2 : decode cX7_sell 2 = .ok (.bipush 9, 2) := by decide +kernel
theorem dX7_sell_4 : decode cX7_sell 4 = .ok (.invokestatic 66, 3) := by decide +kernel
theorem dX7_sell_7 : decode cX7_sell 7 = .ok (.ifCond .eq 22, 3) := by decide +kernel
theorem dX7_sell_10 : decode cX7_sell 10 = .ok (.iload 4, 2) := by decide +kernel
theorem dX7_sell_12 : decode cX7_sell 12 = .ok (.iconst 0, 1) := by decide +kernel
theorem dX7_sell_13 : decode cX7_sell 13 = .ok (.bipush 9, 2) := by decide +kernel
theorem dX7_sell_15 : decode cX7_sell 15 = .ok (.invokestatic 66, 3) := by decide +kernel
theorem dX7_sell_18 : decode cX7_sell 18 = .ok (.ifCond .eq 11, 3) := by decide +kernel
theorem dX7_sell_21 : decode cX7_sell 21 = .ok (.iload 5, 2) := by decide +kernel
theorem dX7_sell_23 : decode cX7_sell 23 = .ok (.invokestatic 93, 3) := by decide +kernel
theorem dX7_sell_26 : decode cX7_sell 26 = .ok (.ifCond .ne 5, 3) := by decide +kernel
theorem dX7_sell_29 : decode cX7_sell 29 = .ok (.iconst (-1), 1) := by decide +kernel
theorem dX7_sell_30 : decode cX7_sell 30 = .ok (.ireturn, 1) := by decide +kernel
theorem dX7_sell_31 : decode cX7_sell 31 = .ok (.iload_n 2, 1) := by decide +kernel
theorem dX7_sell_32 : decode cX7_sell 32 = .ok (.iconst 0, 1) := by decide +kernel
theorem dX7_sell_33 : decode cX7_sell 33 = .ok (.sipush 999, 3) := by decide +kernel
theorem dX7_sell_36 : decode cX7_sell 36 = .ok (.invokestatic 66, 3) := by decide +kernel
theorem dX7_sell_39 : decode cX7_sell 39 = .ok (.ifCond .eq 37, 3) := by decide +kernel
theorem dX7_sell_42 : decode cX7_sell 42 = .ok (.iload 6, 2) := by decide +kernel
theorem dX7_sell_44 : decode cX7_sell 44 = .ok (.iconst 1, 1) := by decide +kernel
theorem dX7_sell_45 : decode cX7_sell 45 = .ok (.bipush 100, 2) := by decide +kernel
theorem dX7_sell_47 : decode cX7_sell 47 = .ok (.invokestatic 66, 3) := by decide +kernel
theorem dX7_sell_50 : decode cX7_sell 50 = .ok (.ifCond .eq 26, 3) := by decide +kernel
theorem dX7_sell_53 : decode cX7_sell 53 = .ok (.iload_n 3, 1) := by decide +kernel
theorem dX7_sell_54 : decode cX7_sell 54 = .ok (.iload 4, 2) := by decide +kernel
theorem dX7_sell_56 : decode cX7_sell 56 = .ok (.if_icmp .eq 20, 3) := by decide +kernel
theorem dX7_sell_59 : decode cX7_sell 59 = .ok (.iload_n 3, 1) := by decide +kernel
theorem dX7_sell_60 : decode cX7_sell 60 = .ok (.iconst 4, 1) := by decide +kernel
theorem dX7_sell_61 : decode cX7_sell 61 = .ok (.iload 5, 2) := by decide +kernel
theorem dX7_sell_63 : decode cX7_sell 63 = .ok (.iadd, 1) := by decide +kernel
theorem dX7_sell_64 : decode cX7_sell 64 = .ok (.if_icmp .eq 12, 3) := by decide +kernel
theorem dX7_sell_67 : decode cX7_sell 67 = .ok (.iload 4, 2) := by decide +kernel
theorem dX7_sell_69 : decode cX7_sell 69 = .ok (.iconst 4, 1) := by decide +kernel
theorem dX7_sell_70 : decode cX7_sell 70 = .ok (.iload 5, 2) := by decide +kernel
theorem dX7_sell_72 : decode cX7_sell 72 = .ok (.iadd, 1) := by decide +kernel
theorem dX7_sell_73 : decode cX7_sell 73 = .ok (.if_icmp .ne 6, 3) := by decide +kernel
theorem dX7_sell_76 : decode cX7_sell 76 = .ok (.bipush (-2), 2) := by decide +kernel
theorem dX7_sell_78 : decode cX7_sell 78 = .ok (.ireturn, 1) := by decide +kernel
theorem dX7_sell_79 : decode cX7_sell 79 = .ok (.aload_n 0, 1) := by decide +kernel
theorem dX7_sell_80 : decode cX7_sell 80 = .ok (.aload_n 0, 1) := by decide +kernel
theorem dX7_sell_81 : decode cX7_sell 81 = .ok (.getfield 70, 3) := by decide +kernel
theorem dX7_sell_84 : decode cX7_sell 84 = .ok (.iload_n 2, 1) := by decide +kernel
theorem dX7_sell_85 : decode cX7_sell 85 = .ok (.iload 5, 2) := by decide +kernel
theorem dX7_sell_87 : decode cX7_sell 87 = .ok (.iload_n 1, 1) := by decide +kernel
theorem dX7_sell_88 : decode cX7_sell 88 = .ok (.iload_n 3, 1) := by decide +kernel
theorem dX7_sell_89 : decode cX7_sell 89 = .ok (.iload 4, 2) := by decide +kernel
theorem dX7_sell_91 : decode cX7_sell 91 = .ok (.iload 6, 2) := by decide +kernel
theorem dX7_sell_93 : decode cX7_sell 93 = .ok (.invokevirtual 96, 3) := by decide +kernel
theorem dX7_sell_96 : decode cX7_sell 96 = .ok (.aload_n 0, 1) := by decide +kernel
theorem dX7_sell_97 : decode cX7_sell 97 = .ok (.invokevirtual 100, 3) := by decide +kernel
theorem dX7_sell_100 : decode cX7_sell 100 = .ok (.ireturn, 1) := by decide +kernel
theorem dX7_sellShares_0 : decode cX7_sellShares 0 = .ok (.aload_n 0, 1) := by decide +kernel
theorem dX7_sellShares_1 : decode cX7_sellShares 1 = .ok (.iconst 0, 1) := by decide +kernel
theorem dX7_sellShares_2 : decode cX7_sellShares 2 = .ok (.iload_n 1, 1) := by decide +kernel
theorem dX7_sellShares_3 : decode cX7_sellShares 3 = .ok (.iload_n 2, 1) := by decide +kernel
theorem dX7_sellShares_4 : decode cX7_sellShares 4 = .ok (.iload_n 3, 1) := by decide +kernel
theorem dX7_sellShares_5 : decode cX7_sellShares 5 = .ok (.iload 4, 2) := by decide +kernel
theorem dX7_sellShares_7 : decode cX7_sellShares 7 = .ok (.iload 5, 2) := by decide +kernel
theorem dX7_sellShares_9 : decode cX7_sellShares 9 = .ok (.invokevirtual 104, 3) := by decide +kernel
theorem dX7_sellShares_12 : decode cX7_sellShares 12 = .ok (.ireturn, 1) := by decide +kernel
theorem dX7_sellVotes_0 : decode cX7_sellVotes 0 = .ok (.aload_n 0, 1) := by decide +kernel
theorem dX7_sellVotes_1 : decode cX7_sellVotes 1 = .ok (.iconst 1, 1) := by decide +kernel
theorem dX7_sellVotes_2 : decode cX7_sellVotes 2 = .ok (.iload_n 1, 1) := by decide +kernel
theorem dX7_sellVotes_3 : decode cX7_sellVotes 3 = .ok (.iload_n 2, 1) := by decide +kernel
theorem dX7_sellVotes_4 : decode cX7_sellVotes 4 = .ok (.iload_n 3, 1) := by decide +kernel
theorem dX7_sellVotes_5 : decode cX7_sellVotes 5 = .ok (.iload 4, 2) := by decide +kernel
theorem dX7_sellVotes_7 : decode cX7_sellVotes 7 = .ok (.iload 5, 2) := by decide +kernel
theorem dX7_sellVotes_9 : decode cX7_sellVotes 9 = .ok (.invokevirtual 104, 3) := by decide +kernel
theorem dX7_sellVotes_12 : decode cX7_sellVotes 12 = .ok (.ireturn, 1) := by decide +kernel
theorem dX7_veto_0 : decode cX7_veto 0 = .ok (.iload_n 2, 1) := by decide +kernel
theorem dX7_veto_1 : decode cX7_veto 1 = .ok (.invokestatic 108, 3) := by decide +kernel
theorem dX7_veto_4 : decode cX7_veto 4 = .ok (.ifCond .eq 10, 3) := by decide +kernel
theorem dX7_veto_7 : decode cX7_veto 7 = .ok (.iload_n 3, 1) := by decide +kernel
theorem dX7_veto_8 : decode cX7_veto 8 = .ok (.invokestatic 93, 3) := by decide +kernel
theorem dX7_veto_11 : decode cX7_veto 11 = .ok (.ifCond .ne 5, 3) := by decide +kernel
theorem dX7_veto_14 : decode cX7_veto 14 = .ok (.iconst (-1), 1) := by decide +kernel
theorem dX7_veto_15 : decode cX7_veto 15 = .ok (.ireturn, 1) := by decide +kernel
theorem dX7_veto_16 : decode cX7_veto 16 = .ok (.iload_n 1, 1) := by decide +kernel
theorem dX7_veto_17 : decode cX7_veto 17 = .ok (.iconst 0, 1) := by decide +kernel
theorem dX7_veto_18 : decode cX7_veto 18 = .ok (.sipush 999, 3) := by decide +kernel
theorem dX7_veto_21 : decode cX7_veto 21 = .ok (.invokestatic 66, 3) := by decide +kernel
theorem dX7_veto_24 : decode cX7_veto 24 = .ok (.ifCond .eq 13, 3) := by decide +kernel
theorem dX7_veto_27 : decode cX7_veto 27 = .ok (.iload 4, 2) := by decide +kernel
theorem dX7_veto_29 : decode cX7_veto 29 = .ok (.iconst 0, 1) := by decide +kernel
theorem dX7_veto_30 : decode cX7_veto 30 = .ok (.iconst 1, 1) := by decide +kernel
theorem dX7_veto_31 : decode cX7_veto 31 = .ok (.invokestatic 66, 3) := by decide +kernel
theorem dX7_veto_34 : decode cX7_veto 34 = .ok (.ifCond .ne 6, 3) := by decide +kernel
theorem dX7_veto_37 : decode cX7_veto 37 = .ok (.bipush (-2), 2) := by decide +kernel
theorem dX7_veto_39 : decode cX7_veto 39 = .ok (.ireturn, 1) := by decide +kernel
theorem dX7_veto_40 : decode cX7_veto 40 = .ok (.aload_n 0, 1) := by decide +kernel
theorem dX7_veto_41 : decode cX7_veto 41 = .ok (.aload_n 0, 1) := by decide +kernel
theorem dX7_veto_42 : decode cX7_veto 42 = .ok (.getfield 70, 3) := by decide +kernel
theorem dX7_veto_45 : decode cX7_veto 45 = .ok (.iload_n 1, 1) := by decide +kernel
theorem dX7_veto_46 : decode cX7_veto 46 = .ok (.iload_n 3, 1) := by decide +kernel
theorem dX7_veto_47 : decode cX7_veto 47 = .ok (.iconst 3, 1) := by decide +kernel
theorem dX7_veto_48 : decode cX7_veto 48 = .ok (.iload 4, 2) := by decide +kernel
theorem dX7_veto_50 : decode cX7_veto 50 = .ok (.isub, 1) := by decide +kernel
theorem dX7_veto_51 : decode cX7_veto 51 = .ok (.iconst 0, 1) := by decide +kernel
theorem dX7_veto_52 : decode cX7_veto 52 = .ok (.iload_n 2, 1) := by decide +kernel
theorem dX7_veto_53 : decode cX7_veto 53 = .ok (.iconst 0, 1) := by decide +kernel
theorem dX7_veto_54 : decode cX7_veto 54 = .ok (.invokevirtual 96, 3) := by decide +kernel
theorem dX7_veto_57 : decode cX7_veto 57 = .ok (.aload_n 0, 1) := by decide +kernel
theorem dX7_veto_58 : decode cX7_veto 58 = .ok (.invokevirtual 100, 3) := by decide +kernel
theorem dX7_veto_61 : decode cX7_veto 61 = .ok (.ireturn, 1) := by decide +kernel
theorem dX7_isDeal_0 : decode cX7_isDeal 0 = .ok (.iload_n 1, 1) := by decide +kernel
theorem dX7_isDeal_1 : decode cX7_isDeal 1 = .ok (.iconst 0, 1) := by decide +kernel
theorem dX7_isDeal_2 : decode cX7_isDeal 2 = .ok (.aload_n 0, 1) := by decide +kernel
theorem dX7_isDeal_3 : decode cX7_isDeal 3 = .ok (.getfield 70, 3) := by decide +kernel
theorem dX7_isDeal_6 : decode cX7_isDeal 6 = .ok (.iconst 1, 1) := by decide +kernel
theorem dX7_isDeal_7 : decode cX7_isDeal 7 = .ok (.isub, 1) := by decide +kernel
theorem dX7_isDeal_8 : decode cX7_isDeal 8 = .ok (.invokestatic 66, 3) := by decide +kernel
theorem dX7_isDeal_11 : decode cX7_isDeal 11 = .ok (.ireturn, 1) := by decide +kernel
theorem dX7_cancel_0 : decode cX7_cancel 0 = .ok (.aload_n 0, 1) := by decide +kernel
theorem dX7_cancel_1 : decode cX7_cancel 1 = .ok (.iload_n 1, 1) := by decide +kernel
theorem dX7_cancel_2 : decode cX7_cancel 2 = .ok (.invokevirtual 111, 3) := by decide +kernel
theorem dX7_cancel_5 : decode cX7_cancel 5 = .ok (.ifCond .ne 5, 3) := by decide +kernel
theorem dX7_cancel_8 : decode cX7_cancel 8 = .ok (.iconst (-1), 1) := by decide +kernel
theorem dX7_cancel_9 : decode cX7_cancel 9 = .ok (.ireturn, 1) := by decide +kernel
theorem dX7_cancel_10 : decode cX7_cancel 10 = .ok (.aload_n 0, 1) := by decide +kernel
theorem dX7_cancel_11 : decode cX7_cancel 11 = .ok (.sipush 999, 3) := by decide +kernel
theorem dX7_cancel_14 : decode cX7_cancel 14 = .ok (.iload_n 1, 1) := by decide +kernel
theorem dX7_cancel_15 : decode cX7_cancel 15 = .ok (.invokevirtual 89, 3) := by decide +kernel
theorem dX7_cancel_18 : decode cX7_cancel 18 = .ok (.ifCond .ne 6, 3) := by decide +kernel
theorem dX7_cancel_21 : decode cX7_cancel 21 = .ok (.bipush (-5), 2) := by decide +kernel
theorem dX7_cancel_23 : decode cX7_cancel 23 = .ok (.ireturn, 1) := by decide +kernel
theorem dX7_cancel_24 : decode cX7_cancel 24 = .ok (.aload_n 0, 1) := by decide +kernel
theorem dX7_cancel_25 : decode cX7_cancel 25 = .ok (.dup, 1) := by decide +kernel
theorem dX7_cancel_26 : decode cX7_cancel 26 = .ok (.getfield 70, 3) := by decide +kernel
theorem dX7_cancel_29 : decode cX7_cancel 29 = .ok (.iconst 1, 1) := by decide +kernel
theorem dX7_cancel_30 : decode cX7_cancel 30 = .ok (.isub, 1) := by decide +kernel
theorem dX7_cancel_31 : decode cX7_cancel 31 = .ok (.putfield 70, 3) := by decide +kernel
theorem dX7_cancel_34 : decode cX7_cancel 34 = .ok (.iload_n 1, 1) := by decide +kernel
theorem dX7_cancel_35 : decode cX7_cancel 35 = .ok (.istore_n 2, 1) := by decide +kernel
theorem dX7_cancel_36 : decode cX7_cancel 36 = .ok (.iload_n 2, 1) := by decide +kernel
theorem dX7_cancel_37 : decode cX7_cancel 37 = .ok (.aload_n 0, 1) := by decide +kernel
theorem dX7_cancel_38 : decode cX7_cancel 38 = .ok (.getfield 70, 3) := by decide +kernel
theorem dX7_cancel_41 : decode cX7_cancel 41 = .ok (.if_icmp .ge 62, 3) := by decide +kernel
theorem dX7_cancel_44 : decode cX7_cancel 44 = .ok (.aload_n 0, 1) := by decide +kernel
theorem dX7_cancel_45 : decode cX7_cancel 45 = .ok (.iload_n 2, 1) := by decide +kernel
theorem dX7_cancel_46 : decode cX7_cancel 46 = .ok (.aload_n 0, 1) := by decide +kernel
theorem dX7_cancel_47 : decode cX7_cancel 47 = .ok (.getfield 7, 3) := by decide +kernel
theorem dX7_cancel_50 : decode cX7_cancel 50 = .ok (.iload_n 2, 1) := by decide +kernel
theorem dX7_cancel_51 : decode cX7_cancel 51 = .ok (.iconst 1, 1) := by decide +kernel
theorem dX7_cancel_52 : decode cX7_cancel 52 = .ok (.iadd, 1) := by decide +kernel
theorem dX7_cancel_53 : decode cX7_cancel 53 = .ok (.iaload, 1) := by decide +kernel
theorem dX7_cancel_54 : decode cX7_cancel 54 = .ok (.aload_n 0, 1) := by decide +kernel
theorem dX7_cancel_55 : decode cX7_cancel 55 = .ok (.getfield 13, 3) := by decide +kernel
theorem dX7_cancel_58 : decode cX7_cancel 58 = .ok (.iload_n 2, 1) := by decide +kernel
theorem dX7_cancel_59 : decode cX7_cancel 59 = .ok (.iconst 1, 1) := by decide +kernel
theorem dX7_cancel_60 : decode cX7_cancel 60 = .ok (.iadd, 1) := by decide +kernel
theorem dX7_cancel_61 : decode cX7_cancel 61 = .ok (.iaload, 1) := by decide +kernel
theorem dX7_cancel_62 : decode cX7_cancel 62 = .ok (.aload_n 0, 1) := by decide +kernel
theorem dX7_cancel_63 : decode cX7_cancel 63 = .ok (.getfield 16, 3) := by decide +kernel
theorem dX7_cancel_66 : decode cX7_cancel 66 = .ok (.iload_n 2, 1) := by decide +kernel
theorem dX7_cancel_67 : decode cX7_cancel 67 = .ok (.iconst 1, 1) := by decide +kernel
theorem dX7_cancel_68 : decode cX7_cancel 68 = .ok (.iadd, 1) := by decide +kernel
theorem dX7_cancel_69 : decode cX7_cancel 69 = .ok (.iaload, 1) := by decide +kernel
theorem dX7_cancel_70 : decode cX7_cancel 70 = .ok (.aload_n 0, 1) := by decide +kernel
theorem dX7_cancel_71 : decode cX7_cancel 71 = .ok (.getfield 19, 3) := by decide +kernel
theorem dX7_cancel_74 : decode cX7_cancel 74 = .ok (.iload_n 2, 1) := by decide +kernel
theorem dX7_cancel_75 : decode cX7_cancel 75 = .ok (.iconst 1, 1) := by decide +kernel
theorem dX7_cancel_76 : decode cX7_cancel 76 = .ok (.iadd, 1) := by decide +kernel
theorem dX7_cancel_77 : decode cX7_cancel 77 = .ok (.iaload, 1) := by decide +kernel
theorem dX7_cancel_78 : decode cX7_cancel 78 = .ok (.aload_n 0, 1) := by decide +kernel
theorem dX7_cancel_79 : decode cX7_cancel 79 = .ok (.getfield 22, 3) := by decide +kernel
theorem dX7_cancel_82 : decode cX7_cancel 82 = .ok (.iload_n 2, 1) := by decide +kernel
theorem dX7_cancel_83 : decode cX7_cancel 83 = .ok (.iconst 1, 1) := by decide +kernel
theorem dX7_cancel_84 : decode cX7_cancel 84 = .ok (.iadd, 1) := by decide +kernel
theorem dX7_cancel_85 : decode cX7_cancel 85 = .ok (.iaload, 1) := by decide +kernel
theorem dX7_cancel_86 : decode cX7_cancel 86 = .ok (.aload_n 0, 1) := by decide +kernel
theorem dX7_cancel_87 : decode cX7_cancel 87 = .ok (.getfield 25, 3) := by decide +kernel
theorem dX7_cancel_90 : decode cX7_cancel 90 = .ok (.iload_n 2, 1) := by decide +kernel
theorem dX7_cancel_91 : decode cX7_cancel 91 = .ok (.iconst 1, 1) := by decide +kernel
theorem dX7_cancel_92 : decode cX7_cancel 92 = .ok (.iadd, 1) := by decide +kernel
theorem dX7_cancel_93 : decode cX7_cancel 93 = .ok (.iaload, 1) := by decide +kernel
theorem dX7_cancel_94 : decode cX7_cancel 94 = .ok (.invokevirtual 96, 3) := by decide +kernel
theorem dX7_cancel_97 : decode cX7_cancel 97 = .ok (.iinc 2 1, 3) := by decide +kernel
theorem dX7_cancel_100 : decode cX7_cancel 100 = .ok (.goto (-64), 3) := by decide +kernel
theorem dX7_cancel_103 : decode cX7_cancel 103 = .ok (.aload_n 0, 1) := by decide +kernel
theorem dX7_cancel_104 : decode cX7_cancel 104 = .ok (.getfield 70, 3) := by decide +kernel
theorem dX7_cancel_107 : decode cX7_cancel 107 = .ok (.ireturn, 1) := by decide +kernel
theorem dX7_told_0 : decode cX7_told 0 = .ok (.aload_n 0, 1) := by decide +kernel
theorem dX7_told_1 : decode cX7_told 1 = .ok (.iload_n 1, 1) := by decide +kernel
theorem dX7_told_2 : decode cX7_told 2 = .ok (.invokevirtual 111, 3) := by decide +kernel
theorem dX7_told_5 : decode cX7_told 5 = .ok (.ifCond .ne 5, 3) := by decide +kernel
theorem dX7_told_8 : decode cX7_told 8 = .ok (.iconst (-1), 1) := by decide +kernel
theorem dX7_told_9 : decode cX7_told 9 = .ok (.ireturn, 1) := by decide +kernel
theorem dX7_told_10 : decode cX7_told 10 = .ok (.iload_n 2, 1) := by decide +kernel
theorem dX7_told_11 : decode cX7_told 11 = .ok (.tableswitch 127 0 7 #[45, 52, 59, 66, 88, 95, 102, 108], 45) := by decide +kernel
theorem dX7_told_56 : decode cX7_told 56 = .ok (.aload_n 0, 1) := by decide +kernel
theorem dX7_told_57 : decode cX7_told 57 = .ok (.getfield 7, 3) := by decide +kernel
theorem dX7_told_60 : decode cX7_told 60 = .ok (.iload_n 1, 1) := by decide +kernel
theorem dX7_told_61 : decode cX7_told 61 = .ok (.iaload, 1) := by decide +kernel
theorem dX7_told_62 : decode cX7_told 62 = .ok (.ireturn, 1) := by decide +kernel
theorem dX7_told_63 : decode cX7_told 63 = .ok (.aload_n 0, 1) := by decide +kernel
theorem dX7_told_64 : decode cX7_told 64 = .ok (.getfield 13, 3) := by decide +kernel
theorem dX7_told_67 : decode cX7_told 67 = .ok (.iload_n 1, 1) := by decide +kernel
theorem dX7_told_68 : decode cX7_told 68 = .ok (.iaload, 1) := by decide +kernel
theorem dX7_told_69 : decode cX7_told 69 = .ok (.ireturn, 1) := by decide +kernel
theorem dX7_told_70 : decode cX7_told 70 = .ok (.aload_n 0, 1) := by decide +kernel
theorem dX7_told_71 : decode cX7_told 71 = .ok (.getfield 16, 3) := by decide +kernel
theorem dX7_told_74 : decode cX7_told 74 = .ok (.iload_n 1, 1) := by decide +kernel
theorem dX7_told_75 : decode cX7_told 75 = .ok (.iaload, 1) := by decide +kernel
theorem dX7_told_76 : decode cX7_told 76 = .ok (.ireturn, 1) := by decide +kernel
theorem dX7_told_77 : decode cX7_told 77 = .ok (.aload_n 0, 1) := by decide +kernel
theorem dX7_told_78 : decode cX7_told 78 = .ok (.getfield 16, 3) := by decide +kernel
theorem dX7_told_81 : decode cX7_told 81 = .ok (.iload_n 1, 1) := by decide +kernel
theorem dX7_told_82 : decode cX7_told 82 = .ok (.iaload, 1) := by decide +kernel
theorem dX7_told_83 : decode cX7_told 83 = .ok (.iconst 1, 1) := by decide +kernel
theorem dX7_told_84 : decode cX7_told 84 = .ok (.if_icmp .le 8, 3) := by decide +kernel
theorem dX7_told_87 : decode cX7_told 87 = .ok (.bipush (-6), 2) := by decide +kernel
theorem dX7_told_89 : decode cX7_told 89 = .ok (.goto 9, 3) := by decide +kernel
theorem dX7_told_92 : decode cX7_told 92 = .ok (.aload_n 0, 1) := by decide +kernel
theorem dX7_told_93 : decode cX7_told 93 = .ok (.getfield 19, 3) := by decide +kernel
theorem dX7_told_96 : decode cX7_told 96 = .ok (.iload_n 1, 1) := by decide +kernel
theorem dX7_told_97 : decode cX7_told 97 = .ok (.iaload, 1) := by decide +kernel
theorem dX7_told_98 : decode cX7_told 98 = .ok (.ireturn, 1) := by decide +kernel
theorem dX7_told_99 : decode cX7_told 99 = .ok (.aload_n 0, 1) := by decide +kernel
theorem dX7_told_100 : decode cX7_told 100 = .ok (.getfield 22, 3) := by decide +kernel
theorem dX7_told_103 : decode cX7_told 103 = .ok (.iload_n 1, 1) := by decide +kernel
theorem dX7_told_104 : decode cX7_told 104 = .ok (.iaload, 1) := by decide +kernel
theorem dX7_told_105 : decode cX7_told 105 = .ok (.ireturn, 1) := by decide +kernel
theorem dX7_told_106 : decode cX7_told 106 = .ok (.aload_n 0, 1) := by decide +kernel
theorem dX7_told_107 : decode cX7_told 107 = .ok (.getfield 25, 3) := by decide +kernel
theorem dX7_told_110 : decode cX7_told 110 = .ok (.iload_n 1, 1) := by decide +kernel
theorem dX7_told_111 : decode cX7_told 111 = .ok (.iaload, 1) := by decide +kernel
theorem dX7_told_112 : decode cX7_told 112 = .ok (.ireturn, 1) := by decide +kernel
theorem dX7_told_113 : decode cX7_told 113 = .ok (.aload_n 0, 1) := by decide +kernel
theorem dX7_told_114 : decode cX7_told 114 = .ok (.iload_n 1, 1) := by decide +kernel
theorem dX7_told_115 : decode cX7_told 115 = .ok (.invokevirtual 74, 3) := by decide +kernel
theorem dX7_told_118 : decode cX7_told 118 = .ok (.ireturn, 1) := by decide +kernel
theorem dX7_told_119 : decode cX7_told 119 = .ok (.aload_n 0, 1) := by decide +kernel
theorem dX7_told_120 : decode cX7_told 120 = .ok (.getfield 7, 3) := by decide +kernel
theorem dX7_told_123 : decode cX7_told 123 = .ok (.iload_n 1, 1) := by decide +kernel
theorem dX7_told_124 : decode cX7_told 124 = .ok (.iaload, 1) := by decide +kernel
theorem dX7_told_125 : decode cX7_told 125 = .ok (.aload_n 0, 1) := by decide +kernel
theorem dX7_told_126 : decode cX7_told 126 = .ok (.getfield 114, 3) := by decide +kernel
theorem dX7_told_129 : decode cX7_told 129 = .ok (.if_icmp .gt 7, 3) := by decide +kernel
theorem dX7_told_132 : decode cX7_told 132 = .ok (.iconst 1, 1) := by decide +kernel
theorem dX7_told_133 : decode cX7_told 133 = .ok (.goto 4, 3) := by decide +kernel
theorem dX7_told_136 : decode cX7_told 136 = .ok (.iconst 0, 1) := by decide +kernel
theorem dX7_told_137 : decode cX7_told 137 = .ok (.ireturn, 1) := by decide +kernel
theorem dX7_told_138 : decode cX7_told 138 = .ok (.bipush (-2), 2) := by decide +kernel
theorem dX7_told_140 : decode cX7_told 140 = .ok (.ireturn, 1) := by decide +kernel
theorem dX7_look_0 : decode cX7_look 0 = .ok (.iload_n 1, 1) := by decide +kernel
theorem dX7_look_1 : decode cX7_look 1 = .ok (.iconst 0, 1) := by decide +kernel
theorem dX7_look_2 : decode cX7_look 2 = .ok (.sipush 999, 3) := by decide +kernel
theorem dX7_look_5 : decode cX7_look 5 = .ok (.invokestatic 66, 3) := by decide +kernel
theorem dX7_look_8 : decode cX7_look 8 = .ok (.ifCond .ne 6, 3) := by decide +kernel
theorem dX7_look_11 : decode cX7_look 11 = .ok (.bipush (-2), 2) := by decide +kernel
theorem dX7_look_13 : decode cX7_look 13 = .ok (.ireturn, 1) := by decide +kernel
theorem dX7_look_14 : decode cX7_look 14 = .ok (.aload_n 0, 1) := by decide +kernel
theorem dX7_look_15 : decode cX7_look 15 = .ok (.getfield 114, 3) := by decide +kernel
theorem dX7_look_18 : decode cX7_look 18 = .ok (.istore_n 2, 1) := by decide +kernel
theorem dX7_look_19 : decode cX7_look 19 = .ok (.aload_n 0, 1) := by decide +kernel
theorem dX7_look_20 : decode cX7_look 20 = .ok (.iload_n 1, 1) := by decide +kernel
theorem dX7_look_21 : decode cX7_look 21 = .ok (.putfield 114, 3) := by decide +kernel
theorem dX7_look_24 : decode cX7_look 24 = .ok (.iload_n 2, 1) := by decide +kernel
theorem dX7_look_25 : decode cX7_look 25 = .ok (.ireturn, 1) := by decide +kernel
theorem dX7_rule_0 : decode cX7_rule 0 = .ok (.iload_n 1, 1) := by decide +kernel
theorem dX7_rule_1 : decode cX7_rule 1 = .ok (.iconst 0, 1) := by decide +kernel
theorem dX7_rule_2 : decode cX7_rule 2 = .ok (.iconst 2, 1) := by decide +kernel
theorem dX7_rule_3 : decode cX7_rule 3 = .ok (.invokestatic 66, 3) := by decide +kernel
theorem dX7_rule_6 : decode cX7_rule 6 = .ok (.ifCond .eq 13, 3) := by decide +kernel
theorem dX7_rule_9 : decode cX7_rule 9 = .ok (.iload_n 2, 1) := by decide +kernel
theorem dX7_rule_10 : decode cX7_rule 10 = .ok (.iconst 1, 1) := by decide +kernel
theorem dX7_rule_11 : decode cX7_rule 11 = .ok (.bipush 99, 2) := by decide +kernel
theorem dX7_rule_13 : decode cX7_rule 13 = .ok (.invokestatic 66, 3) := by decide +kernel
theorem dX7_rule_16 : decode cX7_rule 16 = .ok (.ifCond .ne 6, 3) := by decide +kernel
theorem dX7_rule_19 : decode cX7_rule 19 = .ok (.bipush (-2), 2) := by decide +kernel
theorem dX7_rule_21 : decode cX7_rule 21 = .ok (.ireturn, 1) := by decide +kernel
theorem dX7_rule_22 : decode cX7_rule 22 = .ok (.aload_n 0, 1) := by decide +kernel
theorem dX7_rule_23 : decode cX7_rule 23 = .ok (.getfield 28, 3) := by decide +kernel
theorem dX7_rule_26 : decode cX7_rule 26 = .ok (.iload_n 1, 1) := by decide +kernel
theorem dX7_rule_27 : decode cX7_rule 27 = .ok (.iaload, 1) := by decide +kernel
theorem dX7_rule_28 : decode cX7_rule 28 = .ok (.istore_n 3, 1) := by decide +kernel
theorem dX7_rule_29 : decode cX7_rule 29 = .ok (.aload_n 0, 1) := by decide +kernel
theorem dX7_rule_30 : decode cX7_rule 30 = .ok (.getfield 28, 3) := by decide +kernel
theorem dX7_rule_33 : decode cX7_rule 33 = .ok (.iload_n 1, 1) := by decide +kernel
theorem dX7_rule_34 : decode cX7_rule 34 = .ok (.iload_n 2, 1) := by decide +kernel
theorem dX7_rule_35 : decode cX7_rule 35 = .ok (.iastore, 1) := by decide +kernel
theorem dX7_rule_36 : decode cX7_rule 36 = .ok (.iload_n 3, 1) := by decide +kernel
theorem dX7_rule_37 : decode cX7_rule 37 = .ok (.ireturn, 1) := by decide +kernel
theorem dX7_holds_0 : decode cX7_holds 0 = .ok (.iload_n 1, 1) := by decide +kernel
theorem dX7_holds_1 : decode cX7_holds 1 = .ok (.iconst 0, 1) := by decide +kernel
theorem dX7_holds_2 : decode cX7_holds 2 = .ok (.bipush 9, 2) := by decide +kernel
theorem dX7_holds_4 : decode cX7_holds 4 = .ok (.invokestatic 66, 3) := by decide +kernel
theorem dX7_holds_7 : decode cX7_holds 7 = .ok (.ifCond .eq 10, 3) := by decide +kernel
theorem dX7_holds_10 : decode cX7_holds 10 = .ok (.iload_n 2, 1) := by decide +kernel
theorem dX7_holds_11 : decode cX7_holds 11 = .ok (.invokestatic 93, 3) := by decide +kernel
theorem dX7_holds_14 : decode cX7_holds 14 = .ok (.ifCond .ne 5, 3) := by decide +kernel
theorem dX7_holds_17 : decode cX7_holds 17 = .ok (.iconst (-1), 1) := by decide +kernel
theorem dX7_holds_18 : decode cX7_holds 18 = .ok (.ireturn, 1) := by decide +kernel
theorem dX7_holds_19 : decode cX7_holds 19 = .ok (.iload_n 3, 1) := by decide +kernel
theorem dX7_holds_20 : decode cX7_holds 20 = .ok (.iconst 0, 1) := by decide +kernel
theorem dX7_holds_21 : decode cX7_holds 21 = .ok (.iconst 2, 1) := by decide +kernel
theorem dX7_holds_22 : decode cX7_holds 22 = .ok (.invokestatic 66, 3) := by decide +kernel
theorem dX7_holds_25 : decode cX7_holds 25 = .ok (.ifCond .ne 6, 3) := by decide +kernel
theorem dX7_holds_28 : decode cX7_holds 28 = .ok (.bipush (-2), 2) := by decide +kernel
theorem dX7_holds_30 : decode cX7_holds 30 = .ok (.ireturn, 1) := by decide +kernel
theorem dX7_holds_31 : decode cX7_holds 31 = .ok (.aload_n 0, 1) := by decide +kernel
theorem dX7_holds_32 : decode cX7_holds 32 = .ok (.aload_n 0, 1) := by decide +kernel
theorem dX7_holds_33 : decode cX7_holds 33 = .ok (.getfield 114, 3) := by decide +kernel
theorem dX7_holds_36 : decode cX7_holds 36 = .ok (.bipush (-6), 2) := by decide +kernel
theorem dX7_holds_38 : decode cX7_holds 38 = .ok (.invokevirtual 89, 3) := by decide +kernel
theorem dX7_holds_41 : decode cX7_holds 41 = .ok (.pop, 1) := by decide +kernel
theorem dX7_holds_42 : decode cX7_holds 42 = .ok (.iload_n 1, 1) := by decide +kernel
theorem dX7_holds_43 : decode cX7_holds 43 = .ok (.iload_n 2, 1) := by decide +kernel
theorem dX7_holds_44 : decode cX7_holds 44 = .ok (.invokestatic 78, 3) := by decide +kernel
theorem dX7_holds_47 : decode cX7_holds 47 = .ok (.istore 4, 2) := by decide +kernel
theorem dX7_holds_49 : decode cX7_holds 49 = .ok (.iload_n 3, 1) := by decide +kernel
theorem dX7_holds_50 : decode cX7_holds 50 = .ok (.ifCond .ne 13, 3) := by decide +kernel
theorem dX7_holds_53 : decode cX7_holds 53 = .ok (.aload_n 0, 1) := by decide +kernel
theorem dX7_holds_54 : decode cX7_holds 54 = .ok (.getfield 34, 3) := by decide +kernel
theorem dX7_holds_57 : decode cX7_holds 57 = .ok (.iload 4, 2) := by decide +kernel
theorem dX7_holds_59 : decode cX7_holds 59 = .ok (.iaload, 1) := by decide +kernel
theorem dX7_holds_60 : decode cX7_holds 60 = .ok (.goto 33, 3) := by decide +kernel
theorem dX7_holds_63 : decode cX7_holds 63 = .ok (.iload_n 3, 1) := by decide +kernel
theorem dX7_holds_64 : decode cX7_holds 64 = .ok (.iconst 1, 1) := by decide +kernel
theorem dX7_holds_65 : decode cX7_holds 65 = .ok (.if_icmp .ne 13, 3) := by decide +kernel
theorem dX7_holds_68 : decode cX7_holds 68 = .ok (.aload_n 0, 1) := by decide +kernel
theorem dX7_holds_69 : decode cX7_holds 69 = .ok (.getfield 37, 3) := by decide +kernel
theorem dX7_holds_72 : decode cX7_holds 72 = .ok (.iload 4, 2) := by decide +kernel
theorem dX7_holds_74 : decode cX7_holds 74 = .ok (.iaload, 1) := by decide +kernel
theorem dX7_holds_75 : decode cX7_holds 75 = .ok (.goto 18, 3) := by decide +kernel
theorem dX7_holds_78 : decode cX7_holds 78 = .ok (.aload_n 0, 1) := by decide +kernel
theorem dX7_holds_79 : decode cX7_holds 79 = .ok (.getfield 40, 3) := by decide +kernel
theorem dX7_holds_82 : decode cX7_holds 82 = .ok (.iload 4, 2) := by decide +kernel
theorem dX7_holds_84 : decode cX7_holds 84 = .ok (.baload, 1) := by decide +kernel
theorem dX7_holds_85 : decode cX7_holds 85 = .ok (.ifCond .eq 7, 3) := by decide +kernel
theorem dX7_holds_88 : decode cX7_holds 88 = .ok (.iconst 1, 1) := by decide +kernel
theorem dX7_holds_89 : decode cX7_holds 89 = .ok (.goto 4, 3) := by decide +kernel
theorem dX7_holds_92 : decode cX7_holds 92 = .ok (.iconst 0, 1) := by decide +kernel
theorem dX7_holds_93 : decode cX7_holds 93 = .ok (.ireturn, 1) := by decide +kernel
theorem dX7_has_0 : decode cX7_has 0 = .ok (.iload_n 0, 1) := by decide +kernel
theorem dX7_has_1 : decode cX7_has 1 = .ok (.iload_n 1, 1) := by decide +kernel
theorem dX7_has_2 : decode cX7_has 2 = .ok (.ishr, 1) := by decide +kernel
theorem dX7_has_3 : decode cX7_has 3 = .ok (.iconst 1, 1) := by decide +kernel
theorem dX7_has_4 : decode cX7_has 4 = .ok (.iand, 1) := by decide +kernel
theorem dX7_has_5 : decode cX7_has 5 = .ok (.iconst 1, 1) := by decide +kernel
theorem dX7_has_6 : decode cX7_has 6 = .ok (.if_icmp .ne 7, 3) := by decide +kernel
theorem dX7_has_9 : decode cX7_has 9 = .ok (.iconst 1, 1) := by decide +kernel
theorem dX7_has_10 : decode cX7_has 10 = .ok (.goto 4, 3) := by decide +kernel
theorem dX7_has_13 : decode cX7_has 13 = .ok (.iconst 0, 1) := by decide +kernel
theorem dX7_has_14 : decode cX7_has 14 = .ok (.ireturn, 1) := by decide +kernel
theorem dX7_isWith_0 : decode cX7_isWith 0 = .ok (.iload_n 0, 1) := by decide +kernel
theorem dX7_isWith_1 : decode cX7_isWith 1 = .ok (.iload_n 1, 1) := by decide +kernel
theorem dX7_isWith_2 : decode cX7_isWith 2 = .ok (.if_icmp .eq 18, 3) := by decide +kernel
theorem dX7_isWith_5 : decode cX7_isWith 5 = .ok (.iload_n 0, 1) := by decide +kernel
theorem dX7_isWith_6 : decode cX7_isWith 6 = .ok (.iconst 4, 1) := by decide +kernel
theorem dX7_isWith_7 : decode cX7_isWith 7 = .ok (.if_icmp .lt 17, 3) := by decide +kernel
theorem dX7_isWith_10 : decode cX7_isWith 10 = .ok (.iload_n 2, 1) := by decide +kernel
theorem dX7_isWith_11 : decode cX7_isWith 11 = .ok (.iload_n 0, 1) := by decide +kernel
theorem dX7_isWith_12 : decode cX7_isWith 12 = .ok (.iconst 4, 1) := by decide +kernel
theorem dX7_isWith_13 : decode cX7_isWith 13 = .ok (.isub, 1) := by decide +kernel
theorem dX7_isWith_14 : decode cX7_isWith 14 = .ok (.invokestatic 117, 3) := by decide +kernel
theorem dX7_isWith_17 : decode cX7_isWith 17 = .ok (.ifCond .eq 7, 3) := by decide +kernel
theorem dX7_isWith_20 : decode cX7_isWith 20 = .ok (.iconst 1, 1) := by decide +kernel
theorem dX7_isWith_21 : decode cX7_isWith 21 = .ok (.goto 4, 3) := by decide +kernel
theorem dX7_isWith_24 : decode cX7_isWith 24 = .ok (.iconst 0, 1) := by decide +kernel
theorem dX7_isWith_25 : decode cX7_isWith 25 = .ok (.ireturn, 1) := by decide +kernel
theorem dX7_block_0 : decode cX7_block 0 = .ok (.iconst 0, 1) := by decide +kernel
theorem dX7_block_1 : decode cX7_block 1 = .ok (.istore 4, 2) := by decide +kernel
theorem dX7_block_3 : decode cX7_block 3 = .ok (.iconst 0, 1) := by decide +kernel
theorem dX7_block_4 : decode cX7_block 4 = .ok (.istore 5, 2) := by decide +kernel
theorem dX7_block_6 : decode cX7_block 6 = .ok (.iload 5, 2) := by decide +kernel
theorem dX7_block_8 : decode cX7_block 8 = .ok (.bipush 9, 2) := by decide +kernel
theorem dX7_block_10 : decode cX7_block 10 = .ok (.if_icmp .ge 39, 3) := by decide +kernel
theorem dX7_block_13 : decode cX7_block 13 = .ok (.iload 4, 2) := by decide +kernel
theorem dX7_block_15 : decode cX7_block 15 = .ok (.iload 5, 2) := by decide +kernel
theorem dX7_block_17 : decode cX7_block 17 = .ok (.iload_n 1, 1) := by decide +kernel
theorem dX7_block_18 : decode cX7_block 18 = .ok (.iload_n 3, 1) := by decide +kernel
theorem dX7_block_19 : decode cX7_block 19 = .ok (.invokestatic 120, 3) := by decide +kernel
theorem dX7_block_22 : decode cX7_block 22 = .ok (.ifCond .eq 17, 3) := by decide +kernel
theorem dX7_block_25 : decode cX7_block 25 = .ok (.aload_n 0, 1) := by decide +kernel
theorem dX7_block_26 : decode cX7_block 26 = .ok (.getfield 37, 3) := by decide +kernel
theorem dX7_block_29 : decode cX7_block 29 = .ok (.iload 5, 2) := by decide +kernel
theorem dX7_block_31 : decode cX7_block 31 = .ok (.iload_n 2, 1) := by decide +kernel
theorem dX7_block_32 : decode cX7_block 32 = .ok (.invokestatic 78, 3) := by decide +kernel
theorem dX7_block_35 : decode cX7_block 35 = .ok (.iaload, 1) := by decide +kernel
theorem dX7_block_36 : decode cX7_block 36 = .ok (.goto 4, 3) := by decide +kernel
theorem dX7_block_39 : decode cX7_block 39 = .ok (.iconst 0, 1) := by decide +kernel
theorem dX7_block_40 : decode cX7_block 40 = .ok (.iadd, 1) := by decide +kernel
theorem dX7_block_41 : decode cX7_block 41 = .ok (.istore 4, 2) := by decide +kernel
theorem dX7_block_43 : decode cX7_block 43 = .ok (.iinc 5 1, 3) := by decide +kernel
theorem dX7_block_46 : decode cX7_block 46 = .ok (.goto (-40), 3) := by decide +kernel
theorem dX7_block_49 : decode cX7_block 49 = .ok (.iload 4, 2) := by decide +kernel
theorem dX7_block_51 : decode cX7_block 51 = .ok (.ireturn, 1) := by decide +kernel
theorem dX7_falls_0 : decode cX7_falls 0 = .ok (.aload_n 0, 1) := by decide +kernel
theorem dX7_falls_1 : decode cX7_falls 1 = .ok (.iload_n 1, 1) := by decide +kernel
theorem dX7_falls_2 : decode cX7_falls 2 = .ok (.iload_n 2, 1) := by decide +kernel
theorem dX7_falls_3 : decode cX7_falls 3 = .ok (.iload_n 3, 1) := by decide +kernel
theorem dX7_falls_4 : decode cX7_falls 4 = .ok (.invokevirtual 123, 3) := by decide +kernel
theorem dX7_falls_7 : decode cX7_falls 7 = .ok (.istore 4, 2) := by decide +kernel
theorem dX7_falls_9 : decode cX7_falls 9 = .ok (.iload 4, 2) := by decide +kernel
theorem dX7_falls_11 : decode cX7_falls 11 = .ok (.aload_n 0, 1) := by decide +kernel
theorem dX7_falls_12 : decode cX7_falls 12 = .ok (.getfield 28, 3) := by decide +kernel
theorem dX7_falls_15 : decode cX7_falls 15 = .ok (.iconst 1, 1) := by decide +kernel
theorem dX7_falls_16 : decode cX7_falls 16 = .ok (.iaload, 1) := by decide +kernel
theorem dX7_falls_17 : decode cX7_falls 17 = .ok (.if_icmp .lt 7, 3) := by decide +kernel
theorem dX7_falls_20 : decode cX7_falls 20 = .ok (.iconst 1, 1) := by decide +kernel
theorem dX7_falls_21 : decode cX7_falls 21 = .ok (.goto 4, 3) := by decide +kernel
theorem dX7_falls_24 : decode cX7_falls 24 = .ok (.iconst 0, 1) := by decide +kernel
theorem dX7_falls_25 : decode cX7_falls 25 = .ok (.istore 5, 2) := by decide +kernel
theorem dX7_falls_27 : decode cX7_falls 27 = .ok (.iconst 1, 1) := by decide +kernel
theorem dX7_falls_28 : decode cX7_falls 28 = .ok (.istore 6, 2) := by decide +kernel
theorem dX7_falls_30 : decode cX7_falls 30 = .ok (.iconst 0, 1) := by decide +kernel
theorem dX7_falls_31 : decode cX7_falls 31 = .ok (.istore 7, 2) := by decide +kernel
theorem dX7_falls_33 : decode cX7_falls 33 = .ok (.iload 7, 2) := by decide +kernel
theorem dX7_falls_35 : decode cX7_falls 35 = .ok (.bipush 9, 2) := by decide +kernel
theorem dX7_falls_37 : decode cX7_falls 37 = .ok (.if_icmp .ge 73, 3) := by decide +kernel
theorem dX7_falls_40 : decode cX7_falls 40 = .ok (.iload 7, 2) := by decide +kernel
theorem dX7_falls_42 : decode cX7_falls 42 = .ok (.iload_n 1, 1) := by decide +kernel
theorem dX7_falls_43 : decode cX7_falls 43 = .ok (.iload_n 3, 1) := by decide +kernel
theorem dX7_falls_44 : decode cX7_falls 44 = .ok (.invokestatic 120, 3) := by decide +kernel
theorem dX7_falls_47 : decode cX7_falls 47 = .ok (.ifCond .ne 57, 3) := by decide +kernel
theorem dX7_falls_50 : decode cX7_falls 50 = .ok (.iload 6, 2) := by decide +kernel
theorem dX7_falls_52 : decode cX7_falls 52 = .ok (.ifCond .eq 21, 3) := by decide +kernel
theorem dX7_falls_55 : decode cX7_falls 55 = .ok (.aload_n 0, 1) := by decide +kernel
theorem dX7_falls_56 : decode cX7_falls 56 = .ok (.getfield 40, 3) := by decide +kernel
theorem dX7_falls_59 : decode cX7_falls 59 = .ok (.iload 7, 2) := by decide +kernel
theorem dX7_falls_61 : decode cX7_falls 61 = .ok (.iload_n 2, 1) := by decide +kernel
theorem dX7_falls_62 : decode cX7_falls 62 = .ok (.invokestatic 78, 3) := by decide +kernel
theorem dX7_falls_65 : decode cX7_falls 65 = .ok (.baload, 1) := by decide +kernel
theorem dX7_falls_66 : decode cX7_falls 66 = .ok (.ifCond .ne 7, 3) := by decide +kernel
theorem dX7_falls_69 : decode cX7_falls 69 = .ok (.iconst 1, 1) := by decide +kernel
theorem dX7_falls_70 : decode cX7_falls 70 = .ok (.goto 4, 3) := by decide +kernel
theorem dX7_falls_73 : decode cX7_falls 73 = .ok (.iconst 0, 1) := by decide +kernel
theorem dX7_falls_74 : decode cX7_falls 74 = .ok (.istore 6, 2) := by decide +kernel
theorem dX7_falls_76 : decode cX7_falls 76 = .ok (.iload 5, 2) := by decide +kernel
theorem dX7_falls_78 : decode cX7_falls 78 = .ok (.ifCond .eq 23, 3) := by decide +kernel
theorem dX7_falls_81 : decode cX7_falls 81 = .ok (.iload 4, 2) := by decide +kernel
theorem dX7_falls_83 : decode cX7_falls 83 = .ok (.aload_n 0, 1) := by decide +kernel
theorem dX7_falls_84 : decode cX7_falls 84 = .ok (.getfield 37, 3) := by decide +kernel
theorem dX7_falls_87 : decode cX7_falls 87 = .ok (.iload 7, 2) := by decide +kernel
theorem dX7_falls_89 : decode cX7_falls 89 = .ok (.iload_n 2, 1) := by decide +kernel
theorem dX7_falls_90 : decode cX7_falls 90 = .ok (.invokestatic 78, 3) := by decide +kernel
theorem dX7_falls_93 : decode cX7_falls 93 = .ok (.iaload, 1) := by decide +kernel
theorem dX7_falls_94 : decode cX7_falls 94 = .ok (.if_icmp .le 7, 3) := by decide +kernel
theorem dX7_falls_97 : decode cX7_falls 97 = .ok (.iconst 1, 1) := by decide +kernel
theorem dX7_falls_98 : decode cX7_falls 98 = .ok (.goto 4, 3) := by decide +kernel
theorem dX7_falls_101 : decode cX7_falls 101 = .ok (.iconst 0, 1) := by decide +kernel
theorem dX7_falls_102 : decode cX7_falls 102 = .ok (.istore 5, 2) := by decide +kernel
theorem dX7_falls_104 : decode cX7_falls 104 = .ok (.iinc 7 1, 3) := by decide +kernel
theorem dX7_falls_107 : decode cX7_falls 107 = .ok (.goto (-74), 3) := by decide +kernel
theorem dX7_falls_110 : decode cX7_falls 110 = .ok (.iload 6, 2) := by decide +kernel
theorem dX7_falls_112 : decode cX7_falls 112 = .ok (.ifCond .eq 23, 3) := by decide +kernel
theorem dX7_falls_115 : decode cX7_falls 115 = .ok (.iload 4, 2) := by decide +kernel
theorem dX7_falls_117 : decode cX7_falls 117 = .ok (.aload_n 0, 1) := by decide +kernel
theorem dX7_falls_118 : decode cX7_falls 118 = .ok (.getfield 28, 3) := by decide +kernel
theorem dX7_falls_121 : decode cX7_falls 121 = .ok (.iconst 0, 1) := by decide +kernel
theorem dX7_falls_122 : decode cX7_falls 122 = .ok (.iaload, 1) := by decide +kernel
theorem dX7_falls_123 : decode cX7_falls 123 = .ok (.if_icmp .gt 8, 3) := by decide +kernel
theorem dX7_falls_126 : decode cX7_falls 126 = .ok (.iload 5, 2) := by decide +kernel
theorem dX7_falls_128 : decode cX7_falls 128 = .ok (.ifCond .eq 7, 3) := by decide +kernel
theorem dX7_falls_131 : decode cX7_falls 131 = .ok (.iconst 1, 1) := by decide +kernel
theorem dX7_falls_132 : decode cX7_falls 132 = .ok (.goto 4, 3) := by decide +kernel
theorem dX7_falls_135 : decode cX7_falls 135 = .ok (.iconst 0, 1) := by decide +kernel
theorem dX7_falls_136 : decode cX7_falls 136 = .ok (.ireturn, 1) := by decide +kernel
theorem dX7_control_0 : decode cX7_control 0 = .ok (.iconst 0, 1) := by decide +kernel
theorem dX7_control_1 : decode cX7_control 1 = .ok (.istore_n 2, 1) := by decide +kernel
theorem dX7_control_2 : decode cX7_control 2 = .ok (.aload_n 0, 1) := by decide +kernel
theorem dX7_control_3 : decode cX7_control 3 = .ok (.iconst 0, 1) := by decide +kernel
theorem dX7_control_4 : decode cX7_control 4 = .ok (.putfield 127, 3) := by decide +kernel
theorem dX7_control_7 : decode cX7_control 7 = .ok (.iconst 0, 1) := by decide +kernel
theorem dX7_control_8 : decode cX7_control 8 = .ok (.istore_n 3, 1) := by decide +kernel
theorem dX7_control_9 : decode cX7_control 9 = .ok (.iload_n 3, 1) := by decide +kernel
theorem dX7_control_10 : decode cX7_control 10 = .ok (.iconst 5, 1) := by decide +kernel
theorem dX7_control_11 : decode cX7_control 11 = .ok (.if_icmp .ge 17, 3) := by decide +kernel
theorem dX7_control_14 : decode cX7_control 14 = .ok (.aload_n 0, 1) := by decide +kernel
theorem dX7_control_15 : decode cX7_control 15 = .ok (.getfield 44, 3) := by decide +kernel
theorem dX7_control_18 : decode cX7_control 18 = .ok (.iload_n 3, 1) := by decide +kernel
theorem dX7_control_19 : decode cX7_control 19 = .ok (.bipush (-6), 2) := by decide +kernel
theorem dX7_control_21 : decode cX7_control 21 = .ok (.iastore, 1) := by decide +kernel
theorem dX7_control_22 : decode cX7_control 22 = .ok (.iinc 3 1, 3) := by decide +kernel
theorem dX7_control_25 : decode cX7_control 25 = .ok (.goto (-16), 3) := by decide +kernel
theorem dX7_control_28 : decode cX7_control 28 = .ok (.iconst 1, 1) := by decide +kernel
theorem dX7_control_29 : decode cX7_control 29 = .ok (.istore_n 3, 1) := by decide +kernel
theorem dX7_control_30 : decode cX7_control 30 = .ok (.iload_n 3, 1) := by decide +kernel
theorem dX7_control_31 : decode cX7_control 31 = .ok (.iconst 5, 1) := by decide +kernel
theorem dX7_control_32 : decode cX7_control 32 = .ok (.if_icmp .gt 74, 3) := by decide +kernel
theorem dX7_control_35 : decode cX7_control 35 = .ok (.iconst 0, 1) := by decide +kernel
theorem dX7_control_36 : decode cX7_control 36 = .ok (.istore 4, 2) := by decide +kernel
theorem dX7_control_38 : decode cX7_control 38 = .ok (.iconst 0, 1) := by decide +kernel
theorem dX7_control_39 : decode cX7_control 39 = .ok (.istore 5, 2) := by decide +kernel
theorem dX7_control_41 : decode cX7_control 41 = .ok (.iload 5, 2) := by decide +kernel
theorem dX7_control_43 : decode cX7_control 43 = .ok (.iconst 5, 1) := by decide +kernel
theorem dX7_control_44 : decode cX7_control 44 = .ok (.if_icmp .ge 51, 3) := by decide +kernel
end
section
theorem dX7_control_47 : decode cX7_control 47 = .ok (.iload_n 2, 1) := by decide +kernel
theorem dX7_control_48 : decode cX7_control 48 = .ok (.iload 5, 2) := by decide +kernel
theorem dX7_control_50 : decode cX7_control 50 = .ok (.invokestatic 117, 3) := by decide +kernel
theorem dX7_control_53 : decode cX7_control 53 = .ok (.ifCond .ne 36, 3) := by decide +kernel
theorem dX7_control_56 : decode cX7_control 56 = .ok (.aload_n 0, 1) := by decide +kernel
theorem dX7_control_57 : decode cX7_control 57 = .ok (.iload_n 1, 1) := by decide +kernel
theorem dX7_control_58 : decode cX7_control 58 = .ok (.iload 5, 2) := by decide +kernel
theorem dX7_control_60 : decode cX7_control 60 = .ok (.iload_n 2, 1) := by decide +kernel
theorem dX7_control_61 : decode cX7_control 61 = .ok (.invokevirtual 130, 3) := by decide +kernel
theorem dX7_control_64 : decode cX7_control 64 = .ok (.ifCond .eq 25, 3) := by decide +kernel
theorem dX7_control_67 : decode cX7_control 67 = .ok (.iload 4, 2) := by decide +kernel
theorem dX7_control_69 : decode cX7_control 69 = .ok (.iconst 1, 1) := by decide +kernel
theorem dX7_control_70 : decode cX7_control 70 = .ok (.iload 5, 2) := by decide +kernel
theorem dX7_control_72 : decode cX7_control 72 = .ok (.ishl, 1) := by decide +kernel
theorem dX7_control_73 : decode cX7_control 73 = .ok (.ior, 1) := by decide +kernel
theorem dX7_control_74 : decode cX7_control 74 = .ok (.istore 4, 2) := by decide +kernel
theorem dX7_control_76 : decode cX7_control 76 = .ok (.aload_n 0, 1) := by decide +kernel
theorem dX7_control_77 : decode cX7_control 77 = .ok (.getfield 44, 3) := by decide +kernel
theorem dX7_control_80 : decode cX7_control 80 = .ok (.iload 5, 2) := by decide +kernel
theorem dX7_control_82 : decode cX7_control 82 = .ok (.iload_n 3, 1) := by decide +kernel
theorem dX7_control_83 : decode cX7_control 83 = .ok (.iastore, 1) := by decide +kernel
theorem dX7_control_84 : decode cX7_control 84 = .ok (.aload_n 0, 1) := by decide +kernel
theorem dX7_control_85 : decode cX7_control 85 = .ok (.iload_n 3, 1) := by decide +kernel
theorem dX7_control_86 : decode cX7_control 86 = .ok (.putfield 127, 3) := by decide +kernel
theorem dX7_control_89 : decode cX7_control 89 = .ok (.iinc 5 1, 3) := by decide +kernel
theorem dX7_control_92 : decode cX7_control 92 = .ok (.goto (-51), 3) := by decide +kernel
theorem dX7_control_95 : decode cX7_control 95 = .ok (.iload_n 2, 1) := by decide +kernel
theorem dX7_control_96 : decode cX7_control 96 = .ok (.iload 4, 2) := by decide +kernel
theorem dX7_control_98 : decode cX7_control 98 = .ok (.ior, 1) := by decide +kernel
theorem dX7_control_99 : decode cX7_control 99 = .ok (.istore_n 2, 1) := by decide +kernel
theorem dX7_control_100 : decode cX7_control 100 = .ok (.iinc 3 1, 3) := by decide +kernel
theorem dX7_control_103 : decode cX7_control 103 = .ok (.goto (-73), 3) := by decide +kernel
theorem dX7_control_106 : decode cX7_control 106 = .ok (.iload_n 2, 1) := by decide +kernel
theorem dX7_control_107 : decode cX7_control 107 = .ok (.ireturn, 1) := by decide +kernel
theorem dX7_controls_0 : decode cX7_controls 0 = .ok (.iload_n 1, 1) := by decide +kernel
theorem dX7_controls_1 : decode cX7_controls 1 = .ok (.invokestatic 108, 3) := by decide +kernel
theorem dX7_controls_4 : decode cX7_controls 4 = .ok (.ifCond .ne 5, 3) := by decide +kernel
theorem dX7_controls_7 : decode cX7_controls 7 = .ok (.iconst (-1), 1) := by decide +kernel
theorem dX7_controls_8 : decode cX7_controls 8 = .ok (.ireturn, 1) := by decide +kernel
theorem dX7_controls_9 : decode cX7_controls 9 = .ok (.aload_n 0, 1) := by decide +kernel
theorem dX7_controls_10 : decode cX7_controls 10 = .ok (.aload_n 0, 1) := by decide +kernel
theorem dX7_controls_11 : decode cX7_controls 11 = .ok (.getfield 114, 3) := by decide +kernel
theorem dX7_controls_14 : decode cX7_controls 14 = .ok (.bipush (-6), 2) := by decide +kernel
theorem dX7_controls_16 : decode cX7_controls 16 = .ok (.invokevirtual 89, 3) := by decide +kernel
theorem dX7_controls_19 : decode cX7_controls 19 = .ok (.pop, 1) := by decide +kernel
theorem dX7_controls_20 : decode cX7_controls 20 = .ok (.aload_n 0, 1) := by decide +kernel
theorem dX7_controls_21 : decode cX7_controls 21 = .ok (.iload_n 1, 1) := by decide +kernel
theorem dX7_controls_22 : decode cX7_controls 22 = .ok (.invokevirtual 133, 3) := by decide +kernel
theorem dX7_controls_25 : decode cX7_controls 25 = .ok (.ireturn, 1) := by decide +kernel
theorem dX7_many_0 : decode cX7_many 0 = .ok (.iconst 0, 1) := by decide +kernel
theorem dX7_many_1 : decode cX7_many 1 = .ok (.istore_n 1, 1) := by decide +kernel
theorem dX7_many_2 : decode cX7_many 2 = .ok (.iconst 0, 1) := by decide +kernel
theorem dX7_many_3 : decode cX7_many 3 = .ok (.istore_n 2, 1) := by decide +kernel
theorem dX7_many_4 : decode cX7_many 4 = .ok (.iload_n 2, 1) := by decide +kernel
theorem dX7_many_5 : decode cX7_many 5 = .ok (.iconst 5, 1) := by decide +kernel
theorem dX7_many_6 : decode cX7_many 6 = .ok (.if_icmp .ge 17, 3) := by decide +kernel
theorem dX7_many_9 : decode cX7_many 9 = .ok (.iload_n 1, 1) := by decide +kernel
theorem dX7_many_10 : decode cX7_many 10 = .ok (.iload_n 0, 1) := by decide +kernel
theorem dX7_many_11 : decode cX7_many 11 = .ok (.iload_n 2, 1) := by decide +kernel
theorem dX7_many_12 : decode cX7_many 12 = .ok (.ishr, 1) := by decide +kernel
theorem dX7_many_13 : decode cX7_many 13 = .ok (.iconst 1, 1) := by decide +kernel
theorem dX7_many_14 : decode cX7_many 14 = .ok (.iand, 1) := by decide +kernel
theorem dX7_many_15 : decode cX7_many 15 = .ok (.iadd, 1) := by decide +kernel
theorem dX7_many_16 : decode cX7_many 16 = .ok (.istore_n 1, 1) := by decide +kernel
theorem dX7_many_17 : decode cX7_many 17 = .ok (.iinc 2 1, 3) := by decide +kernel
theorem dX7_many_20 : decode cX7_many 20 = .ok (.goto (-16), 3) := by decide +kernel
theorem dX7_many_23 : decode cX7_many 23 = .ok (.iload_n 1, 1) := by decide +kernel
theorem dX7_many_24 : decode cX7_many 24 = .ok (.ireturn, 1) := by decide +kernel
theorem dX7_witness_0 : decode cX7_witness 0 = .ok (.iconst 0, 1) := by decide +kernel
theorem dX7_witness_1 : decode cX7_witness 1 = .ok (.istore_n 3, 1) := by decide +kernel
theorem dX7_witness_2 : decode cX7_witness 2 = .ok (.iconst 0, 1) := by decide +kernel
theorem dX7_witness_3 : decode cX7_witness 3 = .ok (.istore 4, 2) := by decide +kernel
theorem dX7_witness_5 : decode cX7_witness 5 = .ok (.iload 4, 2) := by decide +kernel
theorem dX7_witness_7 : decode cX7_witness 7 = .ok (.iconst 5, 1) := by decide +kernel
theorem dX7_witness_8 : decode cX7_witness 8 = .ok (.if_icmp .ge 46, 3) := by decide +kernel
theorem dX7_witness_11 : decode cX7_witness 11 = .ok (.iload_n 3, 1) := by decide +kernel
theorem dX7_witness_12 : decode cX7_witness 12 = .ok (.aload_n 0, 1) := by decide +kernel
theorem dX7_witness_13 : decode cX7_witness 13 = .ok (.getfield 44, 3) := by decide +kernel
theorem dX7_witness_16 : decode cX7_witness 16 = .ok (.iload 4, 2) := by decide +kernel
theorem dX7_witness_18 : decode cX7_witness 18 = .ok (.iaload, 1) := by decide +kernel
theorem dX7_witness_19 : decode cX7_witness 19 = .ok (.ifCond .le 26, 3) := by decide +kernel
theorem dX7_witness_22 : decode cX7_witness 22 = .ok (.aload_n 0, 1) := by decide +kernel
theorem dX7_witness_23 : decode cX7_witness 23 = .ok (.getfield 44, 3) := by decide +kernel
theorem dX7_witness_26 : decode cX7_witness 26 = .ok (.iload 4, 2) := by decide +kernel
theorem dX7_witness_28 : decode cX7_witness 28 = .ok (.iaload, 1) := by decide +kernel
theorem dX7_witness_29 : decode cX7_witness 29 = .ok (.aload_n 0, 1) := by decide +kernel
theorem dX7_witness_30 : decode cX7_witness 30 = .ok (.getfield 44, 3) := by decide +kernel
theorem dX7_witness_33 : decode cX7_witness 33 = .ok (.iload_n 2, 1) := by decide +kernel
theorem dX7_witness_34 : decode cX7_witness 34 = .ok (.iaload, 1) := by decide +kernel
theorem dX7_witness_35 : decode cX7_witness 35 = .ok (.if_icmp .ge 10, 3) := by decide +kernel
theorem dX7_witness_38 : decode cX7_witness 38 = .ok (.iconst 1, 1) := by decide +kernel
theorem dX7_witness_39 : decode cX7_witness 39 = .ok (.iload 4, 2) := by decide +kernel
theorem dX7_witness_41 : decode cX7_witness 41 = .ok (.ishl, 1) := by decide +kernel
theorem dX7_witness_42 : decode cX7_witness 42 = .ok (.goto 4, 3) := by decide +kernel
theorem dX7_witness_45 : decode cX7_witness 45 = .ok (.iconst 0, 1) := by decide +kernel
theorem dX7_witness_46 : decode cX7_witness 46 = .ok (.ior, 1) := by decide +kernel
theorem dX7_witness_47 : decode cX7_witness 47 = .ok (.istore_n 3, 1) := by decide +kernel
theorem dX7_witness_48 : decode cX7_witness 48 = .ok (.iinc 4 1, 3) := by decide +kernel
theorem dX7_witness_51 : decode cX7_witness 51 = .ok (.goto (-46), 3) := by decide +kernel
theorem dX7_witness_54 : decode cX7_witness 54 = .ok (.bipush (-6), 2) := by decide +kernel
theorem dX7_witness_56 : decode cX7_witness 56 = .ok (.istore 4, 2) := by decide +kernel
theorem dX7_witness_58 : decode cX7_witness 58 = .ok (.iconst 0, 1) := by decide +kernel
theorem dX7_witness_59 : decode cX7_witness 59 = .ok (.istore 5, 2) := by decide +kernel
theorem dX7_witness_61 : decode cX7_witness 61 = .ok (.iload 5, 2) := by decide +kernel
theorem dX7_witness_63 : decode cX7_witness 63 = .ok (.bipush 32, 2) := by decide +kernel
theorem dX7_witness_65 : decode cX7_witness 65 = .ok (.if_icmp .ge 51, 3) := by decide +kernel
theorem dX7_witness_68 : decode cX7_witness 68 = .ok (.iload 5, 2) := by decide +kernel
theorem dX7_witness_70 : decode cX7_witness 70 = .ok (.iload_n 3, 1) := by decide +kernel
theorem dX7_witness_71 : decode cX7_witness 71 = .ok (.iand, 1) := by decide +kernel
theorem dX7_witness_72 : decode cX7_witness 72 = .ok (.iload 5, 2) := by decide +kernel
theorem dX7_witness_74 : decode cX7_witness 74 = .ok (.if_icmp .ne 36, 3) := by decide +kernel
theorem dX7_witness_77 : decode cX7_witness 77 = .ok (.aload_n 0, 1) := by decide +kernel
theorem dX7_witness_78 : decode cX7_witness 78 = .ok (.iload_n 1, 1) := by decide +kernel
theorem dX7_witness_79 : decode cX7_witness 79 = .ok (.iload_n 2, 1) := by decide +kernel
theorem dX7_witness_80 : decode cX7_witness 80 = .ok (.iload 5, 2) := by decide +kernel
theorem dX7_witness_82 : decode cX7_witness 82 = .ok (.invokevirtual 130, 3) := by decide +kernel
theorem dX7_witness_85 : decode cX7_witness 85 = .ok (.ifCond .eq 25, 3) := by decide +kernel
theorem dX7_witness_88 : decode cX7_witness 88 = .ok (.iload 4, 2) := by decide +kernel
theorem dX7_witness_90 : decode cX7_witness 90 = .ok (.ifCond .lt 16, 3) := by decide +kernel
theorem dX7_witness_93 : decode cX7_witness 93 = .ok (.iload 5, 2) := by decide +kernel
theorem dX7_witness_95 : decode cX7_witness 95 = .ok (.invokestatic 136, 3) := by decide +kernel
theorem dX7_witness_98 : decode cX7_witness 98 = .ok (.iload 4, 2) := by decide +kernel
theorem dX7_witness_100 : decode cX7_witness 100 = .ok (.invokestatic 136, 3) := by decide +kernel
theorem dX7_witness_103 : decode cX7_witness 103 = .ok (.if_icmp .ge 7, 3) := by decide +kernel
theorem dX7_witness_106 : decode cX7_witness 106 = .ok (.iload 5, 2) := by decide +kernel
theorem dX7_witness_108 : decode cX7_witness 108 = .ok (.istore 4, 2) := by decide +kernel
theorem dX7_witness_110 : decode cX7_witness 110 = .ok (.iinc 5 1, 3) := by decide +kernel
theorem dX7_witness_113 : decode cX7_witness 113 = .ok (.goto (-52), 3) := by decide +kernel
theorem dX7_witness_116 : decode cX7_witness 116 = .ok (.iload 4, 2) := by decide +kernel
theorem dX7_witness_118 : decode cX7_witness 118 = .ok (.ireturn, 1) := by decide +kernel
theorem dX7_chain_0 : decode cX7_chain 0 = .ok (.aload_n 0, 1) := by decide +kernel
theorem dX7_chain_1 : decode cX7_chain 1 = .ok (.iload_n 1, 1) := by decide +kernel
theorem dX7_chain_2 : decode cX7_chain 2 = .ok (.iload_n 2, 1) := by decide +kernel
theorem dX7_chain_3 : decode cX7_chain 3 = .ok (.invokevirtual 139, 3) := by decide +kernel
theorem dX7_chain_6 : decode cX7_chain 6 = .ok (.istore_n 3, 1) := by decide +kernel
theorem dX7_chain_7 : decode cX7_chain 7 = .ok (.iconst 0, 1) := by decide +kernel
theorem dX7_chain_8 : decode cX7_chain 8 = .ok (.istore 4, 2) := by decide +kernel
theorem dX7_chain_10 : decode cX7_chain 10 = .ok (.iload 4, 2) := by decide +kernel
theorem dX7_chain_12 : decode cX7_chain 12 = .ok (.iconst 5, 1) := by decide +kernel
theorem dX7_chain_13 : decode cX7_chain 13 = .ok (.if_icmp .ge 47, 3) := by decide +kernel
theorem dX7_chain_16 : decode cX7_chain 16 = .ok (.iconst 0, 1) := by decide +kernel
theorem dX7_chain_17 : decode cX7_chain 17 = .ok (.istore 5, 2) := by decide +kernel
theorem dX7_chain_19 : decode cX7_chain 19 = .ok (.iload 5, 2) := by decide +kernel
theorem dX7_chain_21 : decode cX7_chain 21 = .ok (.iconst 5, 1) := by decide +kernel
theorem dX7_chain_22 : decode cX7_chain 22 = .ok (.if_icmp .ge 32, 3) := by decide +kernel
theorem dX7_chain_25 : decode cX7_chain 25 = .ok (.iload_n 3, 1) := by decide +kernel
theorem dX7_chain_26 : decode cX7_chain 26 = .ok (.iload_n 3, 1) := by decide +kernel
theorem dX7_chain_27 : decode cX7_chain 27 = .ok (.iload 5, 2) := by decide +kernel
theorem dX7_chain_29 : decode cX7_chain 29 = .ok (.invokestatic 117, 3) := by decide +kernel
theorem dX7_chain_32 : decode cX7_chain 32 = .ok (.ifCond .eq 13, 3) := by decide +kernel
theorem dX7_chain_35 : decode cX7_chain 35 = .ok (.aload_n 0, 1) := by decide +kernel
theorem dX7_chain_36 : decode cX7_chain 36 = .ok (.iload_n 1, 1) := by decide +kernel
theorem dX7_chain_37 : decode cX7_chain 37 = .ok (.iload 5, 2) := by decide +kernel
theorem dX7_chain_39 : decode cX7_chain 39 = .ok (.invokevirtual 139, 3) := by decide +kernel
theorem dX7_chain_42 : decode cX7_chain 42 = .ok (.goto 4, 3) := by decide +kernel
theorem dX7_chain_45 : decode cX7_chain 45 = .ok (.iconst 0, 1) := by decide +kernel
theorem dX7_chain_46 : decode cX7_chain 46 = .ok (.ior, 1) := by decide +kernel
theorem dX7_chain_47 : decode cX7_chain 47 = .ok (.istore_n 3, 1) := by decide +kernel
theorem dX7_chain_48 : decode cX7_chain 48 = .ok (.iinc 5 1, 3) := by decide +kernel
theorem dX7_chain_51 : decode cX7_chain 51 = .ok (.goto (-32), 3) := by decide +kernel
theorem dX7_chain_54 : decode cX7_chain 54 = .ok (.iinc 4 1, 3) := by decide +kernel
theorem dX7_chain_57 : decode cX7_chain 57 = .ok (.goto (-47), 3) := by decide +kernel
theorem dX7_chain_60 : decode cX7_chain 60 = .ok (.iload_n 3, 1) := by decide +kernel
theorem dX7_chain_61 : decode cX7_chain 61 = .ok (.ireturn, 1) := by decide +kernel
theorem dX7_areKnown_0 : decode cX7_areKnown 0 = .ok (.iload_n 0, 1) := by decide +kernel
theorem dX7_areKnown_1 : decode cX7_areKnown 1 = .ok (.invokestatic 108, 3) := by decide +kernel
theorem dX7_areKnown_4 : decode cX7_areKnown 4 = .ok (.ifCond .eq 14, 3) := by decide +kernel
theorem dX7_areKnown_7 : decode cX7_areKnown 7 = .ok (.iload_n 1, 1) := by decide +kernel
theorem dX7_areKnown_8 : decode cX7_areKnown 8 = .ok (.invokestatic 93, 3) := by decide +kernel
theorem dX7_areKnown_11 : decode cX7_areKnown 11 = .ok (.ifCond .eq 7, 3) := by decide +kernel
theorem dX7_areKnown_14 : decode cX7_areKnown 14 = .ok (.iconst 1, 1) := by decide +kernel
theorem dX7_areKnown_15 : decode cX7_areKnown 15 = .ok (.goto 4, 3) := by decide +kernel
theorem dX7_areKnown_18 : decode cX7_areKnown 18 = .ok (.iconst 0, 1) := by decide +kernel
theorem dX7_areKnown_19 : decode cX7_areKnown 19 = .ok (.ireturn, 1) := by decide +kernel
theorem dX7_how_0 : decode cX7_how 0 = .ok (.iload_n 1, 1) := by decide +kernel
theorem dX7_how_1 : decode cX7_how 1 = .ok (.iload_n 2, 1) := by decide +kernel
theorem dX7_how_2 : decode cX7_how 2 = .ok (.invokestatic 142, 3) := by decide +kernel
theorem dX7_how_5 : decode cX7_how 5 = .ok (.ifCond .ne 5, 3) := by decide +kernel
theorem dX7_how_8 : decode cX7_how 8 = .ok (.iconst (-1), 1) := by decide +kernel
theorem dX7_how_9 : decode cX7_how 9 = .ok (.ireturn, 1) := by decide +kernel
theorem dX7_how_10 : decode cX7_how 10 = .ok (.iload_n 3, 1) := by decide +kernel
theorem dX7_how_11 : decode cX7_how 11 = .ok (.iconst 0, 1) := by decide +kernel
theorem dX7_how_12 : decode cX7_how 12 = .ok (.iconst 4, 1) := by decide +kernel
theorem dX7_how_13 : decode cX7_how 13 = .ok (.invokestatic 66, 3) := by decide +kernel
theorem dX7_how_16 : decode cX7_how 16 = .ok (.ifCond .ne 6, 3) := by decide +kernel
theorem dX7_how_19 : decode cX7_how 19 = .ok (.bipush (-2), 2) := by decide +kernel
theorem dX7_how_21 : decode cX7_how 21 = .ok (.ireturn, 1) := by decide +kernel
theorem dX7_how_22 : decode cX7_how 22 = .ok (.aload_n 0, 1) := by decide +kernel
theorem dX7_how_23 : decode cX7_how 23 = .ok (.aload_n 0, 1) := by decide +kernel
theorem dX7_how_24 : decode cX7_how 24 = .ok (.getfield 114, 3) := by decide +kernel
theorem dX7_how_27 : decode cX7_how 27 = .ok (.bipush (-6), 2) := by decide +kernel
theorem dX7_how_29 : decode cX7_how 29 = .ok (.invokevirtual 89, 3) := by decide +kernel
theorem dX7_how_32 : decode cX7_how 32 = .ok (.pop, 1) := by decide +kernel
theorem dX7_how_33 : decode cX7_how 33 = .ok (.aload_n 0, 1) := by decide +kernel
theorem dX7_how_34 : decode cX7_how 34 = .ok (.iload_n 1, 1) := by decide +kernel
theorem dX7_how_35 : decode cX7_how 35 = .ok (.invokevirtual 133, 3) := by decide +kernel
theorem dX7_how_38 : decode cX7_how 38 = .ok (.istore 4, 2) := by decide +kernel
theorem dX7_how_40 : decode cX7_how 40 = .ok (.aload_n 0, 1) := by decide +kernel
theorem dX7_how_41 : decode cX7_how 41 = .ok (.iload_n 1, 1) := by decide +kernel
theorem dX7_how_42 : decode cX7_how 42 = .ok (.iload_n 2, 1) := by decide +kernel
theorem dX7_how_43 : decode cX7_how 43 = .ok (.iload 4, 2) := by decide +kernel
theorem dX7_how_45 : decode cX7_how 45 = .ok (.invokevirtual 123, 3) := by decide +kernel
theorem dX7_how_48 : decode cX7_how 48 = .ok (.istore 5, 2) := by decide +kernel
theorem dX7_how_50 : decode cX7_how 50 = .ok (.iload_n 3, 1) := by decide +kernel
theorem dX7_how_51 : decode cX7_how 51 = .ok (.tableswitch 90 0 3 #[29, 59, 66, 69], 29) := by decide +kernel
theorem dX7_how_80 : decode cX7_how 80 = .ok (.iload 4, 2) := by decide +kernel
theorem dX7_how_82 : decode cX7_how 82 = .ok (.iload_n 2, 1) := by decide +kernel
theorem dX7_how_83 : decode cX7_how 83 = .ok (.invokestatic 117, 3) := by decide +kernel
theorem dX7_how_86 : decode cX7_how 86 = .ok (.ifCond .ne 7, 3) := by decide +kernel
theorem dX7_how_89 : decode cX7_how 89 = .ok (.iconst 0, 1) := by decide +kernel
theorem dX7_how_90 : decode cX7_how 90 = .ok (.goto 19, 3) := by decide +kernel
theorem dX7_how_93 : decode cX7_how 93 = .ok (.iload 5, 2) := by decide +kernel
theorem dX7_how_95 : decode cX7_how 95 = .ok (.aload_n 0, 1) := by decide +kernel
theorem dX7_how_96 : decode cX7_how 96 = .ok (.getfield 28, 3) := by decide +kernel
theorem dX7_how_99 : decode cX7_how 99 = .ok (.iconst 0, 1) := by decide +kernel
theorem dX7_how_100 : decode cX7_how 100 = .ok (.iaload, 1) := by decide +kernel
theorem dX7_how_101 : decode cX7_how 101 = .ok (.if_icmp .le 7, 3) := by decide +kernel
theorem dX7_how_104 : decode cX7_how 104 = .ok (.iconst 1, 1) := by decide +kernel
theorem dX7_how_105 : decode cX7_how 105 = .ok (.goto 4, 3) := by decide +kernel
theorem dX7_how_108 : decode cX7_how 108 = .ok (.iconst 2, 1) := by decide +kernel
theorem dX7_how_109 : decode cX7_how 109 = .ok (.ireturn, 1) := by decide +kernel
theorem dX7_how_110 : decode cX7_how 110 = .ok (.aload_n 0, 1) := by decide +kernel
theorem dX7_how_111 : decode cX7_how 111 = .ok (.getfield 44, 3) := by decide +kernel
theorem dX7_how_114 : decode cX7_how 114 = .ok (.iload_n 2, 1) := by decide +kernel
theorem dX7_how_115 : decode cX7_how 115 = .ok (.iaload, 1) := by decide +kernel
theorem dX7_how_116 : decode cX7_how 116 = .ok (.ireturn, 1) := by decide +kernel
theorem dX7_how_117 : decode cX7_how 117 = .ok (.iload 5, 2) := by decide +kernel
theorem dX7_how_119 : decode cX7_how 119 = .ok (.ireturn, 1) := by decide +kernel
theorem dX7_how_120 : decode cX7_how 120 = .ok (.iload 4, 2) := by decide +kernel
theorem dX7_how_122 : decode cX7_how 122 = .ok (.iload_n 2, 1) := by decide +kernel
theorem dX7_how_123 : decode cX7_how 123 = .ok (.invokestatic 117, 3) := by decide +kernel
theorem dX7_how_126 : decode cX7_how 126 = .ok (.ifCond .eq 12, 3) := by decide +kernel
theorem dX7_how_129 : decode cX7_how 129 = .ok (.aload_n 0, 1) := by decide +kernel
theorem dX7_how_130 : decode cX7_how 130 = .ok (.iload_n 1, 1) := by decide +kernel
theorem dX7_how_131 : decode cX7_how 131 = .ok (.iload_n 2, 1) := by decide +kernel
theorem dX7_how_132 : decode cX7_how 132 = .ok (.invokevirtual 139, 3) := by decide +kernel
theorem dX7_how_135 : decode cX7_how 135 = .ok (.goto 5, 3) := by decide +kernel
theorem dX7_how_138 : decode cX7_how 138 = .ok (.bipush (-6), 2) := by decide +kernel
theorem dX7_how_140 : decode cX7_how 140 = .ok (.ireturn, 1) := by decide +kernel
theorem dX7_how_141 : decode cX7_how 141 = .ok (.iload 4, 2) := by decide +kernel
theorem dX7_how_143 : decode cX7_how 143 = .ok (.iload_n 2, 1) := by decide +kernel
theorem dX7_how_144 : decode cX7_how 144 = .ok (.invokestatic 117, 3) := by decide +kernel
theorem dX7_how_147 : decode cX7_how 147 = .ok (.ifCond .eq 12, 3) := by decide +kernel
theorem dX7_how_150 : decode cX7_how 150 = .ok (.aload_n 0, 1) := by decide +kernel
theorem dX7_how_151 : decode cX7_how 151 = .ok (.iload_n 1, 1) := by decide +kernel
theorem dX7_how_152 : decode cX7_how 152 = .ok (.iload_n 2, 1) := by decide +kernel
theorem dX7_how_153 : decode cX7_how 153 = .ok (.invokevirtual 145, 3) := by decide +kernel
theorem dX7_how_156 : decode cX7_how 156 = .ok (.goto 5, 3) := by decide +kernel
theorem dX7_how_159 : decode cX7_how 159 = .ok (.bipush (-6), 2) := by decide +kernel
theorem dX7_how_161 : decode cX7_how 161 = .ok (.ireturn, 1) := by decide +kernel
theorem dX7_above_0 : decode cX7_above 0 = .ok (.iload_n 1, 1) := by decide +kernel
theorem dX7_above_1 : decode cX7_above 1 = .ok (.invokestatic 93, 3) := by decide +kernel
theorem dX7_above_4 : decode cX7_above 4 = .ok (.ifCond .ne 5, 3) := by decide +kernel
theorem dX7_above_7 : decode cX7_above 7 = .ok (.iconst (-1), 1) := by decide +kernel
theorem dX7_above_8 : decode cX7_above 8 = .ok (.ireturn, 1) := by decide +kernel
theorem dX7_above_9 : decode cX7_above 9 = .ok (.iload_n 2, 1) := by decide +kernel
theorem dX7_above_10 : decode cX7_above 10 = .ok (.iconst 0, 1) := by decide +kernel
theorem dX7_above_11 : decode cX7_above 11 = .ok (.iconst 3, 1) := by decide +kernel
theorem dX7_above_12 : decode cX7_above 12 = .ok (.invokestatic 66, 3) := by decide +kernel
theorem dX7_above_15 : decode cX7_above 15 = .ok (.ifCond .ne 6, 3) := by decide +kernel
theorem dX7_above_18 : decode cX7_above 18 = .ok (.bipush (-2), 2) := by decide +kernel
theorem dX7_above_20 : decode cX7_above 20 = .ok (.ireturn, 1) := by decide +kernel
theorem dX7_above_21 : decode cX7_above 21 = .ok (.aload_n 0, 1) := by decide +kernel
theorem dX7_above_22 : decode cX7_above 22 = .ok (.aload_n 0, 1) := by decide +kernel
theorem dX7_above_23 : decode cX7_above 23 = .ok (.getfield 114, 3) := by decide +kernel
theorem dX7_above_26 : decode cX7_above 26 = .ok (.bipush (-6), 2) := by decide +kernel
theorem dX7_above_28 : decode cX7_above 28 = .ok (.invokevirtual 89, 3) := by decide +kernel
theorem dX7_above_31 : decode cX7_above 31 = .ok (.pop, 1) := by decide +kernel
theorem dX7_above_32 : decode cX7_above 32 = .ok (.iconst 0, 1) := by decide +kernel
theorem dX7_above_33 : decode cX7_above 33 = .ok (.istore_n 3, 1) := by decide +kernel
theorem dX7_above_34 : decode cX7_above 34 = .ok (.iconst 0, 1) := by decide +kernel
theorem dX7_above_35 : decode cX7_above 35 = .ok (.istore 4, 2) := by decide +kernel
theorem dX7_above_37 : decode cX7_above 37 = .ok (.iconst 0, 1) := by decide +kernel
theorem dX7_above_38 : decode cX7_above 38 = .ok (.istore 5, 2) := by decide +kernel
theorem dX7_above_40 : decode cX7_above 40 = .ok (.iload 5, 2) := by decide +kernel
theorem dX7_above_42 : decode cX7_above 42 = .ok (.bipush 9, 2) := by decide +kernel
theorem dX7_above_44 : decode cX7_above 44 = .ok (.if_icmp .ge 60, 3) := by decide +kernel
theorem dX7_above_47 : decode cX7_above 47 = .ok (.iload_n 3, 1) := by decide +kernel
theorem dX7_above_48 : decode cX7_above 48 = .ok (.aload_n 0, 1) := by decide +kernel
theorem dX7_above_49 : decode cX7_above 49 = .ok (.iload 5, 2) := by decide +kernel
theorem dX7_above_51 : decode cX7_above 51 = .ok (.invokevirtual 133, 3) := by decide +kernel
theorem dX7_above_54 : decode cX7_above 54 = .ok (.iload_n 1, 1) := by decide +kernel
theorem dX7_above_55 : decode cX7_above 55 = .ok (.invokestatic 117, 3) := by decide +kernel
theorem dX7_above_58 : decode cX7_above 58 = .ok (.ifCond .eq 10, 3) := by decide +kernel
theorem dX7_above_61 : decode cX7_above 61 = .ok (.iconst 1, 1) := by decide +kernel
theorem dX7_above_62 : decode cX7_above 62 = .ok (.iload 5, 2) := by decide +kernel
theorem dX7_above_64 : decode cX7_above 64 = .ok (.ishl, 1) := by decide +kernel
theorem dX7_above_65 : decode cX7_above 65 = .ok (.goto 4, 3) := by decide +kernel
theorem dX7_above_68 : decode cX7_above 68 = .ok (.iconst 0, 1) := by decide +kernel
theorem dX7_above_69 : decode cX7_above 69 = .ok (.ior, 1) := by decide +kernel
theorem dX7_above_70 : decode cX7_above 70 = .ok (.istore_n 3, 1) := by decide +kernel
theorem dX7_above_71 : decode cX7_above 71 = .ok (.iload 4, 2) := by decide +kernel
theorem dX7_above_73 : decode cX7_above 73 = .ok (.aload_n 0, 1) := by decide +kernel
theorem dX7_above_74 : decode cX7_above 74 = .ok (.getfield 40, 3) := by decide +kernel
theorem dX7_above_77 : decode cX7_above 77 = .ok (.iload 5, 2) := by decide +kernel
theorem dX7_above_79 : decode cX7_above 79 = .ok (.iload_n 1, 1) := by decide +kernel
theorem dX7_above_80 : decode cX7_above 80 = .ok (.invokestatic 78, 3) := by decide +kernel
theorem dX7_above_83 : decode cX7_above 83 = .ok (.baload, 1) := by decide +kernel
theorem dX7_above_84 : decode cX7_above 84 = .ok (.ifCond .eq 10, 3) := by decide +kernel
theorem dX7_above_87 : decode cX7_above 87 = .ok (.iconst 1, 1) := by decide +kernel
theorem dX7_above_88 : decode cX7_above 88 = .ok (.iload 5, 2) := by decide +kernel
theorem dX7_above_90 : decode cX7_above 90 = .ok (.ishl, 1) := by decide +kernel
theorem dX7_above_91 : decode cX7_above 91 = .ok (.goto 4, 3) := by decide +kernel
theorem dX7_above_94 : decode cX7_above 94 = .ok (.iconst 0, 1) := by decide +kernel
theorem dX7_above_95 : decode cX7_above 95 = .ok (.ior, 1) := by decide +kernel
theorem dX7_above_96 : decode cX7_above 96 = .ok (.istore 4, 2) := by decide +kernel
theorem dX7_above_98 : decode cX7_above 98 = .ok (.iinc 5 1, 3) := by decide +kernel
theorem dX7_above_101 : decode cX7_above 101 = .ok (.goto (-61), 3) := by decide +kernel
theorem dX7_above_104 : decode cX7_above 104 = .ok (.iload_n 2, 1) := by decide +kernel
theorem dX7_above_105 : decode cX7_above 105 = .ok (.ifCond .ne 10, 3) := by decide +kernel
theorem dX7_above_108 : decode cX7_above 108 = .ok (.iload_n 3, 1) := by decide +kernel
theorem dX7_above_109 : decode cX7_above 109 = .ok (.bipush 15, 2) := by decide +kernel
theorem dX7_above_111 : decode cX7_above 111 = .ok (.iand, 1) := by decide +kernel
theorem dX7_above_112 : decode cX7_above 112 = .ok (.goto 31, 3) := by decide +kernel
theorem dX7_above_115 : decode cX7_above 115 = .ok (.iload_n 2, 1) := by decide +kernel
theorem dX7_above_116 : decode cX7_above 116 = .ok (.iconst 1, 1) := by decide +kernel
theorem dX7_above_117 : decode cX7_above 117 = .ok (.if_icmp .ne 9, 3) := by decide +kernel
theorem dX7_above_120 : decode cX7_above 120 = .ok (.iload_n 3, 1) := by decide +kernel
theorem dX7_above_121 : decode cX7_above 121 = .ok (.iconst 4, 1) := by decide +kernel
theorem dX7_above_122 : decode cX7_above 122 = .ok (.ishr, 1) := by decide +kernel
theorem dX7_above_123 : decode cX7_above 123 = .ok (.goto 20, 3) := by decide +kernel
theorem dX7_above_126 : decode cX7_above 126 = .ok (.iload_n 2, 1) := by decide +kernel
theorem dX7_above_127 : decode cX7_above 127 = .ok (.iconst 2, 1) := by decide +kernel
theorem dX7_above_128 : decode cX7_above 128 = .ok (.if_icmp .ne 8, 3) := by decide +kernel
theorem dX7_above_131 : decode cX7_above 131 = .ok (.iload 4, 2) := by decide +kernel
theorem dX7_above_133 : decode cX7_above 133 = .ok (.goto 10, 3) := by decide +kernel
theorem dX7_above_136 : decode cX7_above 136 = .ok (.iload_n 3, 1) := by decide +kernel
theorem dX7_above_137 : decode cX7_above 137 = .ok (.iconst 4, 1) := by decide +kernel
theorem dX7_above_138 : decode cX7_above 138 = .ok (.iload_n 1, 1) := by decide +kernel
theorem dX7_above_139 : decode cX7_above 139 = .ok (.iadd, 1) := by decide +kernel
theorem dX7_above_140 : decode cX7_above 140 = .ok (.ishr, 1) := by decide +kernel
theorem dX7_above_141 : decode cX7_above 141 = .ok (.iconst 1, 1) := by decide +kernel
theorem dX7_above_142 : decode cX7_above 142 = .ok (.iand, 1) := by decide +kernel
theorem dX7_above_143 : decode cX7_above 143 = .ok (.ireturn, 1) := by decide +kernel
theorem dX7_dayBehind_0 : decode cX7_dayBehind 0 = .ok (.bipush (-6), 2) := by decide +kernel
theorem dX7_dayBehind_2 : decode cX7_dayBehind 2 = .ok (.istore_n 2, 1) := by decide +kernel
theorem dX7_dayBehind_3 : decode cX7_dayBehind 3 = .ok (.iconst 0, 1) := by decide +kernel
theorem dX7_dayBehind_4 : decode cX7_dayBehind 4 = .ok (.istore_n 3, 1) := by decide +kernel
theorem dX7_dayBehind_5 : decode cX7_dayBehind 5 = .ok (.iload_n 3, 1) := by decide +kernel
theorem dX7_dayBehind_6 : decode cX7_dayBehind 6 = .ok (.aload_n 0, 1) := by decide +kernel
theorem dX7_dayBehind_7 : decode cX7_dayBehind 7 = .ok (.getfield 70, 3) := by decide +kernel
theorem dX7_dayBehind_10 : decode cX7_dayBehind 10 = .ok (.if_icmp .ge 44, 3) := by decide +kernel
theorem dX7_dayBehind_13 : decode cX7_dayBehind 13 = .ok (.aload_n 0, 1) := by decide +kernel
theorem dX7_dayBehind_14 : decode cX7_dayBehind 14 = .ok (.getfield 7, 3) := by decide +kernel
theorem dX7_dayBehind_17 : decode cX7_dayBehind 17 = .ok (.iload_n 3, 1) := by decide +kernel
theorem dX7_dayBehind_18 : decode cX7_dayBehind 18 = .ok (.iaload, 1) := by decide +kernel
theorem dX7_dayBehind_19 : decode cX7_dayBehind 19 = .ok (.iload_n 1, 1) := by decide +kernel
theorem dX7_dayBehind_20 : decode cX7_dayBehind 20 = .ok (.if_icmp .le 26, 3) := by decide +kernel
theorem dX7_dayBehind_23 : decode cX7_dayBehind 23 = .ok (.iload_n 2, 1) := by decide +kernel
theorem dX7_dayBehind_24 : decode cX7_dayBehind 24 = .ok (.ifCond .lt 13, 3) := by decide +kernel
theorem dX7_dayBehind_27 : decode cX7_dayBehind 27 = .ok (.aload_n 0, 1) := by decide +kernel
theorem dX7_dayBehind_28 : decode cX7_dayBehind 28 = .ok (.getfield 7, 3) := by decide +kernel
theorem dX7_dayBehind_31 : decode cX7_dayBehind 31 = .ok (.iload_n 3, 1) := by decide +kernel
theorem dX7_dayBehind_32 : decode cX7_dayBehind 32 = .ok (.iaload, 1) := by decide +kernel
theorem dX7_dayBehind_33 : decode cX7_dayBehind 33 = .ok (.iload_n 2, 1) := by decide +kernel
theorem dX7_dayBehind_34 : decode cX7_dayBehind 34 = .ok (.if_icmp .ge 12, 3) := by decide +kernel
theorem dX7_dayBehind_37 : decode cX7_dayBehind 37 = .ok (.aload_n 0, 1) := by decide +kernel
theorem dX7_dayBehind_38 : decode cX7_dayBehind 38 = .ok (.getfield 7, 3) := by decide +kernel
theorem dX7_dayBehind_41 : decode cX7_dayBehind 41 = .ok (.iload_n 3, 1) := by decide +kernel
theorem dX7_dayBehind_42 : decode cX7_dayBehind 42 = .ok (.iaload, 1) := by decide +kernel
theorem dX7_dayBehind_43 : decode cX7_dayBehind 43 = .ok (.goto 4, 3) := by decide +kernel
theorem dX7_dayBehind_46 : decode cX7_dayBehind 46 = .ok (.iload_n 2, 1) := by decide +kernel
theorem dX7_dayBehind_47 : decode cX7_dayBehind 47 = .ok (.istore_n 2, 1) := by decide +kernel
theorem dX7_dayBehind_48 : decode cX7_dayBehind 48 = .ok (.iinc 3 1, 3) := by decide +kernel
theorem dX7_dayBehind_51 : decode cX7_dayBehind 51 = .ok (.goto (-46), 3) := by decide +kernel
theorem dX7_dayBehind_54 : decode cX7_dayBehind 54 = .ok (.iload_n 2, 1) := by decide +kernel
theorem dX7_dayBehind_55 : decode cX7_dayBehind 55 = .ok (.ireturn, 1) := by decide +kernel
theorem dX7_when_0 : decode cX7_when 0 = .ok (.iload_n 1, 1) := by decide +kernel
theorem dX7_when_1 : decode cX7_when 1 = .ok (.iload_n 2, 1) := by decide +kernel
theorem dX7_when_2 : decode cX7_when 2 = .ok (.invokestatic 142, 3) := by decide +kernel
theorem dX7_when_5 : decode cX7_when 5 = .ok (.ifCond .ne 5, 3) := by decide +kernel
theorem dX7_when_8 : decode cX7_when 8 = .ok (.iconst (-1), 1) := by decide +kernel
theorem dX7_when_9 : decode cX7_when 9 = .ok (.ireturn, 1) := by decide +kernel
theorem dX7_when_10 : decode cX7_when 10 = .ok (.iload_n 3, 1) := by decide +kernel
theorem dX7_when_11 : decode cX7_when 11 = .ok (.iconst 0, 1) := by decide +kernel
theorem dX7_when_12 : decode cX7_when 12 = .ok (.iconst 1, 1) := by decide +kernel
theorem dX7_when_13 : decode cX7_when 13 = .ok (.invokestatic 66, 3) := by decide +kernel
theorem dX7_when_16 : decode cX7_when 16 = .ok (.ifCond .ne 6, 3) := by decide +kernel
theorem dX7_when_19 : decode cX7_when 19 = .ok (.bipush (-2), 2) := by decide +kernel
theorem dX7_when_21 : decode cX7_when 21 = .ok (.ireturn, 1) := by decide +kernel
theorem dX7_when_22 : decode cX7_when 22 = .ok (.aload_n 0, 1) := by decide +kernel
theorem dX7_when_23 : decode cX7_when 23 = .ok (.getfield 114, 3) := by decide +kernel
theorem dX7_when_26 : decode cX7_when 26 = .ok (.istore 4, 2) := by decide +kernel
theorem dX7_when_28 : decode cX7_when 28 = .ok (.iconst 0, 1) := by decide +kernel
theorem dX7_when_29 : decode cX7_when 29 = .ok (.istore 5, 2) := by decide +kernel
theorem dX7_when_31 : decode cX7_when 31 = .ok (.iload 5, 2) := by decide +kernel
theorem dX7_when_33 : decode cX7_when 33 = .ok (.bipush 40, 2) := by decide +kernel
theorem dX7_when_35 : decode cX7_when 35 = .ok (.if_icmp .gt 56, 3) := by decide +kernel
theorem dX7_when_38 : decode cX7_when 38 = .ok (.iload 4, 2) := by decide +kernel
theorem dX7_when_40 : decode cX7_when 40 = .ok (.ifCond .lt 51, 3) := by decide +kernel
theorem dX7_when_43 : decode cX7_when 43 = .ok (.aload_n 0, 1) := by decide +kernel
theorem dX7_when_44 : decode cX7_when 44 = .ok (.iload 4, 2) := by decide +kernel
theorem dX7_when_46 : decode cX7_when 46 = .ok (.bipush (-6), 2) := by decide +kernel
theorem dX7_when_48 : decode cX7_when 48 = .ok (.invokevirtual 89, 3) := by decide +kernel
theorem dX7_when_51 : decode cX7_when 51 = .ok (.pop, 1) := by decide +kernel
theorem dX7_when_52 : decode cX7_when 52 = .ok (.aload_n 0, 1) := by decide +kernel
theorem dX7_when_53 : decode cX7_when 53 = .ok (.iload_n 1, 1) := by decide +kernel
theorem dX7_when_54 : decode cX7_when 54 = .ok (.invokevirtual 133, 3) := by decide +kernel
theorem dX7_when_57 : decode cX7_when 57 = .ok (.iload_n 2, 1) := by decide +kernel
theorem dX7_when_58 : decode cX7_when 58 = .ok (.invokestatic 117, 3) := by decide +kernel
theorem dX7_when_61 : decode cX7_when 61 = .ok (.iload_n 3, 1) := by decide +kernel
theorem dX7_when_62 : decode cX7_when 62 = .ok (.iconst 1, 1) := by decide +kernel
theorem dX7_when_63 : decode cX7_when 63 = .ok (.if_icmp .ne 7, 3) := by decide +kernel
theorem dX7_when_66 : decode cX7_when 66 = .ok (.iconst 1, 1) := by decide +kernel
theorem dX7_when_67 : decode cX7_when 67 = .ok (.goto 4, 3) := by decide +kernel
theorem dX7_when_70 : decode cX7_when 70 = .ok (.iconst 0, 1) := by decide +kernel
theorem dX7_when_71 : decode cX7_when 71 = .ok (.if_icmp .ne 6, 3) := by decide +kernel
theorem dX7_when_74 : decode cX7_when 74 = .ok (.iload 4, 2) := by decide +kernel
theorem dX7_when_76 : decode cX7_when 76 = .ok (.ireturn, 1) := by decide +kernel
theorem dX7_when_77 : decode cX7_when 77 = .ok (.aload_n 0, 1) := by decide +kernel
theorem dX7_when_78 : decode cX7_when 78 = .ok (.iload 4, 2) := by decide +kernel
theorem dX7_when_80 : decode cX7_when 80 = .ok (.invokevirtual 148, 3) := by decide +kernel
theorem dX7_when_83 : decode cX7_when 83 = .ok (.istore 4, 2) := by decide +kernel
theorem dX7_when_85 : decode cX7_when 85 = .ok (.iinc 5 1, 3) := by decide +kernel
theorem dX7_when_88 : decode cX7_when 88 = .ok (.goto (-57), 3) := by decide +kernel
theorem dX7_when_91 : decode cX7_when 91 = .ok (.bipush (-6), 2) := by decide +kernel
theorem dX7_when_93 : decode cX7_when 93 = .ok (.ireturn, 1) := by decide +kernel
theorem dX7_fewest_0 : decode cX7_fewest 0 = .ok (.iload_n 1, 1) := by decide +kernel
theorem dX7_fewest_1 : decode cX7_fewest 1 = .ok (.iload_n 2, 1) := by decide +kernel
theorem dX7_fewest_2 : decode cX7_fewest 2 = .ok (.invokestatic 142, 3) := by decide +kernel
theorem dX7_fewest_5 : decode cX7_fewest 5 = .ok (.ifCond .ne 5, 3) := by decide +kernel
theorem dX7_fewest_8 : decode cX7_fewest 8 = .ok (.iconst (-1), 1) := by decide +kernel
theorem dX7_fewest_9 : decode cX7_fewest 9 = .ok (.ireturn, 1) := by decide +kernel
theorem dX7_fewest_10 : decode cX7_fewest 10 = .ok (.iload_n 3, 1) := by decide +kernel
theorem dX7_fewest_11 : decode cX7_fewest 11 = .ok (.iconst 0, 1) := by decide +kernel
theorem dX7_fewest_12 : decode cX7_fewest 12 = .ok (.iconst 1, 1) := by decide +kernel
theorem dX7_fewest_13 : decode cX7_fewest 13 = .ok (.invokestatic 66, 3) := by decide +kernel
theorem dX7_fewest_16 : decode cX7_fewest 16 = .ok (.ifCond .ne 6, 3) := by decide +kernel
theorem dX7_fewest_19 : decode cX7_fewest 19 = .ok (.bipush (-2), 2) := by decide +kernel
theorem dX7_fewest_21 : decode cX7_fewest 21 = .ok (.ireturn, 1) := by decide +kernel
theorem dX7_fewest_22 : decode cX7_fewest 22 = .ok (.aload_n 0, 1) := by decide +kernel
theorem dX7_fewest_23 : decode cX7_fewest 23 = .ok (.aload_n 0, 1) := by decide +kernel
theorem dX7_fewest_24 : decode cX7_fewest 24 = .ok (.getfield 114, 3) := by decide +kernel
theorem dX7_fewest_27 : decode cX7_fewest 27 = .ok (.bipush (-6), 2) := by decide +kernel
theorem dX7_fewest_29 : decode cX7_fewest 29 = .ok (.invokevirtual 89, 3) := by decide +kernel
theorem dX7_fewest_32 : decode cX7_fewest 32 = .ok (.pop, 1) := by decide +kernel
theorem dX7_fewest_33 : decode cX7_fewest 33 = .ok (.iload_n 1, 1) := by decide +kernel
theorem dX7_fewest_34 : decode cX7_fewest 34 = .ok (.iload_n 2, 1) := by decide +kernel
theorem dX7_fewest_35 : decode cX7_fewest 35 = .ok (.invokestatic 78, 3) := by decide +kernel
theorem dX7_fewest_38 : decode cX7_fewest 38 = .ok (.istore 4, 2) := by decide +kernel
theorem dX7_fewest_40 : decode cX7_fewest 40 = .ok (.bipush 9, 2) := by decide +kernel
theorem dX7_fewest_42 : decode cX7_fewest 42 = .ok (.iload_n 2, 1) := by decide +kernel
theorem dX7_fewest_43 : decode cX7_fewest 43 = .ok (.invokestatic 78, 3) := by decide +kernel
theorem dX7_fewest_46 : decode cX7_fewest 46 = .ok (.istore 5, 2) := by decide +kernel
theorem dX7_fewest_48 : decode cX7_fewest 48 = .ok (.iload_n 3, 1) := by decide +kernel
theorem dX7_fewest_49 : decode cX7_fewest 49 = .ok (.ifCond .ne 7, 3) := by decide +kernel
theorem dX7_fewest_52 : decode cX7_fewest 52 = .ok (.iconst (-1), 1) := by decide +kernel
theorem dX7_fewest_53 : decode cX7_fewest 53 = .ok (.goto 4, 3) := by decide +kernel
theorem dX7_fewest_56 : decode cX7_fewest 56 = .ok (.iconst 1, 1) := by decide +kernel
theorem dX7_fewest_57 : decode cX7_fewest 57 = .ok (.istore 6, 2) := by decide +kernel
theorem dX7_fewest_59 : decode cX7_fewest 59 = .ok (.iload_n 3, 1) := by decide +kernel
theorem dX7_fewest_60 : decode cX7_fewest 60 = .ok (.ifCond .ne 13, 3) := by decide +kernel
theorem dX7_fewest_63 : decode cX7_fewest 63 = .ok (.aload_n 0, 1) := by decide +kernel
theorem dX7_fewest_64 : decode cX7_fewest 64 = .ok (.getfield 37, 3) := by decide +kernel
theorem dX7_fewest_67 : decode cX7_fewest 67 = .ok (.iload 4, 2) := by decide +kernel
theorem dX7_fewest_69 : decode cX7_fewest 69 = .ok (.iaload, 1) := by decide +kernel
theorem dX7_fewest_70 : decode cX7_fewest 70 = .ok (.goto 21, 3) := by decide +kernel
theorem dX7_fewest_73 : decode cX7_fewest 73 = .ok (.iload_n 1, 1) := by decide +kernel
theorem dX7_fewest_74 : decode cX7_fewest 74 = .ok (.iconst 4, 1) := by decide +kernel
theorem dX7_fewest_75 : decode cX7_fewest 75 = .ok (.iload_n 2, 1) := by decide +kernel
theorem dX7_fewest_76 : decode cX7_fewest 76 = .ok (.iadd, 1) := by decide +kernel
theorem dX7_fewest_77 : decode cX7_fewest 77 = .ok (.if_icmp .ne 7, 3) := by decide +kernel
theorem dX7_fewest_80 : decode cX7_fewest 80 = .ok (.iconst 0, 1) := by decide +kernel
theorem dX7_fewest_81 : decode cX7_fewest 81 = .ok (.goto 10, 3) := by decide +kernel
theorem dX7_fewest_84 : decode cX7_fewest 84 = .ok (.aload_n 0, 1) := by decide +kernel
theorem dX7_fewest_85 : decode cX7_fewest 85 = .ok (.getfield 37, 3) := by decide +kernel
theorem dX7_fewest_88 : decode cX7_fewest 88 = .ok (.iload 5, 2) := by decide +kernel
theorem dX7_fewest_90 : decode cX7_fewest 90 = .ok (.iaload, 1) := by decide +kernel
theorem dX7_fewest_91 : decode cX7_fewest 91 = .ok (.istore 7, 2) := by decide +kernel
theorem dX7_fewest_93 : decode cX7_fewest 93 = .ok (.iconst 0, 1) := by decide +kernel
theorem dX7_fewest_94 : decode cX7_fewest 94 = .ok (.istore 8, 2) := by decide +kernel
theorem dX7_fewest_96 : decode cX7_fewest 96 = .ok (.iload 8, 2) := by decide +kernel
theorem dX7_fewest_98 : decode cX7_fewest 98 = .ok (.iload 7, 2) := by decide +kernel
theorem dX7_fewest_100 : decode cX7_fewest 100 = .ok (.if_icmp .gt 58, 3) := by decide +kernel
theorem dX7_fewest_103 : decode cX7_fewest 103 = .ok (.aload_n 0, 1) := by decide +kernel
theorem dX7_fewest_104 : decode cX7_fewest 104 = .ok (.iload_n 1, 1) := by decide +kernel
theorem dX7_fewest_105 : decode cX7_fewest 105 = .ok (.invokevirtual 133, 3) := by decide +kernel
theorem dX7_fewest_108 : decode cX7_fewest 108 = .ok (.iload_n 2, 1) := by decide +kernel
theorem dX7_fewest_109 : decode cX7_fewest 109 = .ok (.invokestatic 117, 3) := by decide +kernel
theorem dX7_fewest_112 : decode cX7_fewest 112 = .ok (.iload_n 3, 1) := by decide +kernel
theorem dX7_fewest_113 : decode cX7_fewest 113 = .ok (.iconst 1, 1) := by decide +kernel
theorem dX7_fewest_114 : decode cX7_fewest 114 = .ok (.if_icmp .ne 7, 3) := by decide +kernel
theorem dX7_fewest_117 : decode cX7_fewest 117 = .ok (.iconst 1, 1) := by decide +kernel
theorem dX7_fewest_118 : decode cX7_fewest 118 = .ok (.goto 4, 3) := by decide +kernel
theorem dX7_fewest_121 : decode cX7_fewest 121 = .ok (.iconst 0, 1) := by decide +kernel
theorem dX7_fewest_122 : decode cX7_fewest 122 = .ok (.if_icmp .ne 6, 3) := by decide +kernel
theorem dX7_fewest_125 : decode cX7_fewest 125 = .ok (.iload 8, 2) := by decide +kernel
theorem dX7_fewest_127 : decode cX7_fewest 127 = .ok (.ireturn, 1) := by decide +kernel
theorem dX7_fewest_128 : decode cX7_fewest 128 = .ok (.aload_n 0, 1) := by decide +kernel
theorem dX7_fewest_129 : decode cX7_fewest 129 = .ok (.getfield 37, 3) := by decide +kernel
theorem dX7_fewest_132 : decode cX7_fewest 132 = .ok (.iload 4, 2) := by decide +kernel
theorem dX7_fewest_134 : decode cX7_fewest 134 = .ok (.dup2, 1) := by decide +kernel
theorem dX7_fewest_135 : decode cX7_fewest 135 = .ok (.iaload, 1) := by decide +kernel
theorem dX7_fewest_136 : decode cX7_fewest 136 = .ok (.iload 6, 2) := by decide +kernel
theorem dX7_fewest_138 : decode cX7_fewest 138 = .ok (.iadd, 1) := by decide +kernel
theorem dX7_fewest_139 : decode cX7_fewest 139 = .ok (.iastore, 1) := by decide +kernel
theorem dX7_fewest_140 : decode cX7_fewest 140 = .ok (.aload_n 0, 1) := by decide +kernel
theorem dX7_fewest_141 : decode cX7_fewest 141 = .ok (.getfield 37, 3) := by decide +kernel
theorem dX7_fewest_144 : decode cX7_fewest 144 = .ok (.iload 5, 2) := by decide +kernel
theorem dX7_fewest_146 : decode cX7_fewest 146 = .ok (.dup2, 1) := by decide +kernel
theorem dX7_fewest_147 : decode cX7_fewest 147 = .ok (.iaload, 1) := by decide +kernel
theorem dX7_fewest_148 : decode cX7_fewest 148 = .ok (.iload 6, 2) := by decide +kernel
theorem dX7_fewest_150 : decode cX7_fewest 150 = .ok (.isub, 1) := by decide +kernel
theorem dX7_fewest_151 : decode cX7_fewest 151 = .ok (.iastore, 1) := by decide +kernel
theorem dX7_fewest_152 : decode cX7_fewest 152 = .ok (.iinc 8 1, 3) := by decide +kernel
theorem dX7_fewest_155 : decode cX7_fewest 155 = .ok (.goto (-59), 3) := by decide +kernel
theorem dX7_fewest_158 : decode cX7_fewest 158 = .ok (.bipush (-6), 2) := by decide +kernel
theorem dX7_fewest_160 : decode cX7_fewest 160 = .ok (.ireturn, 1) := by decide +kernel
theorem dX7_events_0 : decode cX7_events 0 = .ok (.iconst 0, 1) := by decide +kernel
theorem dX7_events_1 : decode cX7_events 1 = .ok (.istore_n 2, 1) := by decide +kernel
theorem dX7_events_2 : decode cX7_events 2 = .ok (.iconst 0, 1) := by decide +kernel
theorem dX7_events_3 : decode cX7_events 3 = .ok (.istore_n 3, 1) := by decide +kernel
theorem dX7_events_4 : decode cX7_events 4 = .ok (.iload_n 3, 1) := by decide +kernel
theorem dX7_events_5 : decode cX7_events 5 = .ok (.bipush 9, 2) := by decide +kernel
theorem dX7_events_7 : decode cX7_events 7 = .ok (.if_icmp .ge 16, 3) := by decide +kernel
theorem dX7_events_10 : decode cX7_events 10 = .ok (.aload_n 0, 1) := by decide +kernel
theorem dX7_events_11 : decode cX7_events 11 = .ok (.getfield 47, 3) := by decide +kernel
theorem dX7_events_14 : decode cX7_events 14 = .ok (.iload_n 3, 1) := by decide +kernel
theorem dX7_events_15 : decode cX7_events 15 = .ok (.iconst 0, 1) := by decide +kernel
theorem dX7_events_16 : decode cX7_events 16 = .ok (.iastore, 1) := by decide +kernel
theorem dX7_events_17 : decode cX7_events 17 = .ok (.iinc 3 1, 3) := by decide +kernel
theorem dX7_events_20 : decode cX7_events 20 = .ok (.goto (-16), 3) := by decide +kernel
theorem dX7_events_23 : decode cX7_events 23 = .ok (.aload_n 0, 1) := by decide +kernel
theorem dX7_events_24 : decode cX7_events 24 = .ok (.iconst (-1), 1) := by decide +kernel
theorem dX7_events_25 : decode cX7_events 25 = .ok (.invokevirtual 148, 3) := by decide +kernel
theorem dX7_events_28 : decode cX7_events 28 = .ok (.istore_n 3, 1) := by decide +kernel
theorem dX7_events_29 : decode cX7_events 29 = .ok (.iconst 0, 1) := by decide +kernel
theorem dX7_events_30 : decode cX7_events 30 = .ok (.istore 4, 2) := by decide +kernel
theorem dX7_events_32 : decode cX7_events 32 = .ok (.iload 4, 2) := by decide +kernel
theorem dX7_events_34 : decode cX7_events 34 = .ok (.bipush 40, 2) := by decide +kernel
theorem dX7_events_36 : decode cX7_events 36 = .ok (.if_icmp .ge 133, 3) := by decide +kernel
theorem dX7_events_39 : decode cX7_events 39 = .ok (.iload_n 3, 1) := by decide +kernel
theorem dX7_events_40 : decode cX7_events 40 = .ok (.ifCond .lt 129, 3) := by decide +kernel
theorem dX7_events_43 : decode cX7_events 43 = .ok (.aload_n 0, 1) := by decide +kernel
theorem dX7_events_44 : decode cX7_events 44 = .ok (.iload_n 3, 1) := by decide +kernel
theorem dX7_events_45 : decode cX7_events 45 = .ok (.bipush (-6), 2) := by decide +kernel
theorem dX7_events_47 : decode cX7_events 47 = .ok (.invokevirtual 89, 3) := by decide +kernel
theorem dX7_events_50 : decode cX7_events 50 = .ok (.pop, 1) := by decide +kernel
theorem dX7_events_51 : decode cX7_events 51 = .ok (.iconst 0, 1) := by decide +kernel
theorem dX7_events_52 : decode cX7_events 52 = .ok (.istore 5, 2) := by decide +kernel
theorem dX7_events_54 : decode cX7_events 54 = .ok (.iload 5, 2) := by decide +kernel
theorem dX7_events_56 : decode cX7_events 56 = .ok (.bipush 9, 2) := by decide +kernel
theorem dX7_events_58 : decode cX7_events 58 = .ok (.if_icmp .ge 99, 3) := by decide +kernel
theorem dX7_events_61 : decode cX7_events 61 = .ok (.aload_n 0, 1) := by decide +kernel
theorem dX7_events_62 : decode cX7_events 62 = .ok (.iload 5, 2) := by decide +kernel
theorem dX7_events_64 : decode cX7_events 64 = .ok (.invokevirtual 133, 3) := by decide +kernel
theorem dX7_events_67 : decode cX7_events 67 = .ok (.istore 6, 2) := by decide +kernel
theorem dX7_events_69 : decode cX7_events 69 = .ok (.iconst 0, 1) := by decide +kernel
theorem dX7_events_70 : decode cX7_events 70 = .ok (.istore 7, 2) := by decide +kernel
theorem dX7_events_72 : decode cX7_events 72 = .ok (.iload 7, 2) := by decide +kernel
theorem dX7_events_74 : decode cX7_events 74 = .ok (.iconst 5, 1) := by decide +kernel
theorem dX7_events_75 : decode cX7_events 75 = .ok (.if_icmp .ge 67, 3) := by decide +kernel
theorem dX7_events_78 : decode cX7_events 78 = .ok (.iload 6, 2) := by decide +kernel
theorem dX7_events_80 : decode cX7_events 80 = .ok (.iload 7, 2) := by decide +kernel
theorem dX7_events_82 : decode cX7_events 82 = .ok (.invokestatic 117, 3) := by decide +kernel
theorem dX7_events_85 : decode cX7_events 85 = .ok (.aload_n 0, 1) := by decide +kernel
theorem dX7_events_86 : decode cX7_events 86 = .ok (.getfield 47, 3) := by decide +kernel
theorem dX7_events_89 : decode cX7_events 89 = .ok (.iload 5, 2) := by decide +kernel
theorem dX7_events_91 : decode cX7_events 91 = .ok (.iaload, 1) := by decide +kernel
theorem dX7_events_92 : decode cX7_events 92 = .ok (.iload 7, 2) := by decide +kernel
theorem dX7_events_94 : decode cX7_events 94 = .ok (.invokestatic 117, 3) := by decide +kernel
theorem dX7_events_97 : decode cX7_events 97 = .ok (.if_icmp .eq 39, 3) := by decide +kernel
theorem dX7_events_100 : decode cX7_events 100 = .ok (.iload_n 2, 1) := by decide +kernel
theorem dX7_events_101 : decode cX7_events 101 = .ok (.iload_n 1, 1) := by decide +kernel
theorem dX7_events_102 : decode cX7_events 102 = .ok (.if_icmp .ne 31, 3) := by decide +kernel
theorem dX7_events_105 : decode cX7_events 105 = .ok (.aload_n 0, 1) := by decide +kernel
theorem dX7_events_106 : decode cX7_events 106 = .ok (.iload_n 3, 1) := by decide +kernel
theorem dX7_events_107 : decode cX7_events 107 = .ok (.putfield 151, 3) := by decide +kernel
theorem dX7_events_110 : decode cX7_events 110 = .ok (.aload_n 0, 1) := by decide +kernel
theorem dX7_events_111 : decode cX7_events 111 = .ok (.iload 5, 2) := by decide +kernel
theorem dX7_events_113 : decode cX7_events 113 = .ok (.putfield 154, 3) := by decide +kernel
theorem dX7_events_116 : decode cX7_events 116 = .ok (.aload_n 0, 1) := by decide +kernel
theorem dX7_events_117 : decode cX7_events 117 = .ok (.iload 7, 2) := by decide +kernel
theorem dX7_events_119 : decode cX7_events 119 = .ok (.putfield 157, 3) := by decide +kernel
theorem dX7_events_122 : decode cX7_events 122 = .ok (.aload_n 0, 1) := by decide +kernel
theorem dX7_events_123 : decode cX7_events 123 = .ok (.iload 6, 2) := by decide +kernel
theorem dX7_events_125 : decode cX7_events 125 = .ok (.iload 7, 2) := by decide +kernel
theorem dX7_events_127 : decode cX7_events 127 = .ok (.ishr, 1) := by decide +kernel
theorem dX7_events_128 : decode cX7_events 128 = .ok (.iconst 1, 1) := by decide +kernel
theorem dX7_events_129 : decode cX7_events 129 = .ok (.iand, 1) := by decide +kernel
theorem dX7_events_130 : decode cX7_events 130 = .ok (.putfield 160, 3) := by decide +kernel
theorem dX7_events_133 : decode cX7_events 133 = .ok (.iinc 2 1, 3) := by decide +kernel
theorem dX7_events_136 : decode cX7_events 136 = .ok (.iinc 7 1, 3) := by decide +kernel
theorem dX7_events_139 : decode cX7_events 139 = .ok (.goto (-67), 3) := by decide +kernel
theorem dX7_events_142 : decode cX7_events 142 = .ok (.aload_n 0, 1) := by decide +kernel
theorem dX7_events_143 : decode cX7_events 143 = .ok (.getfield 47, 3) := by decide +kernel
theorem dX7_events_146 : decode cX7_events 146 = .ok (.iload 5, 2) := by decide +kernel
theorem dX7_events_148 : decode cX7_events 148 = .ok (.iload 6, 2) := by decide +kernel
theorem dX7_events_150 : decode cX7_events 150 = .ok (.iastore, 1) := by decide +kernel
theorem dX7_events_151 : decode cX7_events 151 = .ok (.iinc 5 1, 3) := by decide +kernel
theorem dX7_events_154 : decode cX7_events 154 = .ok (.goto (-100), 3) := by decide +kernel
theorem dX7_events_157 : decode cX7_events 157 = .ok (.aload_n 0, 1) := by decide +kernel
theorem dX7_events_158 : decode cX7_events 158 = .ok (.iload_n 3, 1) := by decide +kernel
theorem dX7_events_159 : decode cX7_events 159 = .ok (.invokevirtual 148, 3) := by decide +kernel
theorem dX7_events_162 : decode cX7_events 162 = .ok (.istore_n 3, 1) := by decide +kernel
theorem dX7_events_163 : decode cX7_events 163 = .ok (.iinc 4 1, 3) := by decide +kernel
theorem dX7_events_166 : decode cX7_events 166 = .ok (.goto (-134), 3) := by decide +kernel
theorem dX7_events_169 : decode cX7_events 169 = .ok (.iload_n 2, 1) := by decide +kernel
theorem dX7_events_170 : decode cX7_events 170 = .ok (.ireturn, 1) := by decide +kernel
theorem dX7_event_0 : decode cX7_event 0 = .ok (.iload_n 2, 1) := by decide +kernel
theorem dX7_event_1 : decode cX7_event 1 = .ok (.iconst 0, 1) := by decide +kernel
theorem dX7_event_2 : decode cX7_event 2 = .ok (.iconst 3, 1) := by decide +kernel
theorem dX7_event_3 : decode cX7_event 3 = .ok (.invokestatic 66, 3) := by decide +kernel
theorem dX7_event_6 : decode cX7_event 6 = .ok (.ifCond .ne 6, 3) := by decide +kernel
theorem dX7_event_9 : decode cX7_event 9 = .ok (.bipush (-2), 2) := by decide +kernel
theorem dX7_event_11 : decode cX7_event 11 = .ok (.ireturn, 1) := by decide +kernel
theorem dX7_event_12 : decode cX7_event 12 = .ok (.iload_n 1, 1) := by decide +kernel
theorem dX7_event_13 : decode cX7_event 13 = .ok (.ifCond .lt 12, 3) := by decide +kernel
theorem dX7_event_16 : decode cX7_event 16 = .ok (.iload_n 1, 1) := by decide +kernel
theorem dX7_event_17 : decode cX7_event 17 = .ok (.aload_n 0, 1) := by decide +kernel
theorem dX7_event_18 : decode cX7_event 18 = .ok (.iload_n 1, 1) := by decide +kernel
theorem dX7_event_19 : decode cX7_event 19 = .ok (.invokevirtual 163, 3) := by decide +kernel
theorem dX7_event_22 : decode cX7_event 22 = .ok (.if_icmp .lt 6, 3) := by decide +kernel
theorem dX7_event_25 : decode cX7_event 25 = .ok (.bipush (-6), 2) := by decide +kernel
theorem dX7_event_27 : decode cX7_event 27 = .ok (.ireturn, 1) := by decide +kernel
theorem dX7_event_28 : decode cX7_event 28 = .ok (.iload_n 2, 1) := by decide +kernel
theorem dX7_event_29 : decode cX7_event 29 = .ok (.ifCond .ne 10, 3) := by decide +kernel
theorem dX7_event_32 : decode cX7_event 32 = .ok (.aload_n 0, 1) := by decide +kernel
theorem dX7_event_33 : decode cX7_event 33 = .ok (.getfield 151, 3) := by decide +kernel
theorem dX7_event_36 : decode cX7_event 36 = .ok (.goto 31, 3) := by decide +kernel
theorem dX7_event_39 : decode cX7_event 39 = .ok (.iload_n 2, 1) := by decide +kernel
theorem dX7_event_40 : decode cX7_event 40 = .ok (.iconst 1, 1) := by decide +kernel
theorem dX7_event_41 : decode cX7_event 41 = .ok (.if_icmp .ne 10, 3) := by decide +kernel
theorem dX7_event_44 : decode cX7_event 44 = .ok (.aload_n 0, 1) := by decide +kernel
theorem dX7_event_45 : decode cX7_event 45 = .ok (.getfield 154, 3) := by decide +kernel
theorem dX7_event_48 : decode cX7_event 48 = .ok (.goto 19, 3) := by decide +kernel
theorem dX7_event_51 : decode cX7_event 51 = .ok (.iload_n 2, 1) := by decide +kernel
theorem dX7_event_52 : decode cX7_event 52 = .ok (.iconst 2, 1) := by decide +kernel
theorem dX7_event_53 : decode cX7_event 53 = .ok (.if_icmp .ne 10, 3) := by decide +kernel
theorem dX7_event_56 : decode cX7_event 56 = .ok (.aload_n 0, 1) := by decide +kernel
theorem dX7_event_57 : decode cX7_event 57 = .ok (.getfield 157, 3) := by decide +kernel
theorem dX7_event_60 : decode cX7_event 60 = .ok (.goto 7, 3) := by decide +kernel
theorem dX7_event_63 : decode cX7_event 63 = .ok (.aload_n 0, 1) := by decide +kernel
theorem dX7_event_64 : decode cX7_event 64 = .ok (.getfield 160, 3) := by decide +kernel
theorem dX7_event_67 : decode cX7_event 67 = .ok (.ireturn, 1) := by decide +kernel
theorem dX7_locked_0 : decode cX7_locked 0 = .ok (.iconst 0, 1) := by decide +kernel
theorem dX7_locked_1 : decode cX7_locked 1 = .ok (.istore_n 1, 1) := by decide +kernel
theorem dX7_locked_2 : decode cX7_locked 2 = .ok (.iconst 1, 1) := by decide +kernel
theorem dX7_locked_3 : decode cX7_locked 3 = .ok (.istore_n 2, 1) := by decide +kernel
theorem dX7_locked_4 : decode cX7_locked 4 = .ok (.iload_n 2, 1) := by decide +kernel
theorem dX7_locked_5 : decode cX7_locked 5 = .ok (.bipush 32, 2) := by decide +kernel
theorem dX7_locked_7 : decode cX7_locked 7 = .ok (.if_icmp .ge 114, 3) := by decide +kernel
theorem dX7_locked_10 : decode cX7_locked 10 = .ok (.iconst 1, 1) := by decide +kernel
theorem dX7_locked_11 : decode cX7_locked 11 = .ok (.istore_n 3, 1) := by decide +kernel
theorem dX7_locked_12 : decode cX7_locked 12 = .ok (.iconst 0, 1) := by decide +kernel
theorem dX7_locked_13 : decode cX7_locked 13 = .ok (.istore 4, 2) := by decide +kernel
theorem dX7_locked_15 : decode cX7_locked 15 = .ok (.iload 4, 2) := by decide +kernel
theorem dX7_locked_17 : decode cX7_locked 17 = .ok (.iconst 5, 1) := by decide +kernel
theorem dX7_locked_18 : decode cX7_locked 18 = .ok (.if_icmp .ge 85, 3) := by decide +kernel
theorem dX7_locked_21 : decode cX7_locked 21 = .ok (.iconst 0, 1) := by decide +kernel
theorem dX7_locked_22 : decode cX7_locked 22 = .ok (.istore 5, 2) := by decide +kernel
theorem dX7_locked_24 : decode cX7_locked 24 = .ok (.iconst 0, 1) := by decide +kernel
theorem dX7_locked_25 : decode cX7_locked 25 = .ok (.istore 6, 2) := by decide +kernel
theorem dX7_locked_27 : decode cX7_locked 27 = .ok (.iload 6, 2) := by decide +kernel
theorem dX7_locked_29 : decode cX7_locked 29 = .ok (.iconst 5, 1) := by decide +kernel
theorem dX7_locked_30 : decode cX7_locked 30 = .ok (.if_icmp .ge 41, 3) := by decide +kernel
theorem dX7_locked_33 : decode cX7_locked 33 = .ok (.iload 5, 2) := by decide +kernel
theorem dX7_locked_35 : decode cX7_locked 35 = .ok (.iload_n 2, 1) := by decide +kernel
theorem dX7_locked_36 : decode cX7_locked 36 = .ok (.iload 6, 2) := by decide +kernel
theorem dX7_locked_38 : decode cX7_locked 38 = .ok (.invokestatic 117, 3) := by decide +kernel
theorem dX7_locked_41 : decode cX7_locked 41 = .ok (.ifCond .eq 20, 3) := by decide +kernel
theorem dX7_locked_44 : decode cX7_locked 44 = .ok (.aload_n 0, 1) := by decide +kernel
theorem dX7_locked_45 : decode cX7_locked 45 = .ok (.getfield 34, 3) := by decide +kernel
theorem dX7_locked_48 : decode cX7_locked 48 = .ok (.iconst 4, 1) := by decide +kernel
theorem dX7_locked_49 : decode cX7_locked 49 = .ok (.iload 6, 2) := by decide +kernel
theorem dX7_locked_51 : decode cX7_locked 51 = .ok (.iadd, 1) := by decide +kernel
theorem dX7_locked_52 : decode cX7_locked 52 = .ok (.iload 4, 2) := by decide +kernel
theorem dX7_locked_54 : decode cX7_locked 54 = .ok (.invokestatic 78, 3) := by decide +kernel
theorem dX7_locked_57 : decode cX7_locked 57 = .ok (.iaload, 1) := by decide +kernel
theorem dX7_locked_58 : decode cX7_locked 58 = .ok (.goto 4, 3) := by decide +kernel
theorem dX7_locked_61 : decode cX7_locked 61 = .ok (.iconst 0, 1) := by decide +kernel
theorem dX7_locked_62 : decode cX7_locked 62 = .ok (.iadd, 1) := by decide +kernel
theorem dX7_locked_63 : decode cX7_locked 63 = .ok (.istore 5, 2) := by decide +kernel
theorem dX7_locked_65 : decode cX7_locked 65 = .ok (.iinc 6 1, 3) := by decide +kernel
theorem dX7_locked_68 : decode cX7_locked 68 = .ok (.goto (-41), 3) := by decide +kernel
theorem dX7_locked_71 : decode cX7_locked 71 = .ok (.iload_n 3, 1) := by decide +kernel
theorem dX7_locked_72 : decode cX7_locked 72 = .ok (.ifCond .eq 23, 3) := by decide +kernel
theorem dX7_locked_75 : decode cX7_locked 75 = .ok (.iload_n 2, 1) := by decide +kernel
theorem dX7_locked_76 : decode cX7_locked 76 = .ok (.iload 4, 2) := by decide +kernel
theorem dX7_locked_78 : decode cX7_locked 78 = .ok (.invokestatic 117, 3) := by decide +kernel
theorem dX7_locked_81 : decode cX7_locked 81 = .ok (.ifCond .eq 10, 3) := by decide +kernel
theorem dX7_locked_84 : decode cX7_locked 84 = .ok (.iload 5, 2) := by decide +kernel
theorem dX7_locked_86 : decode cX7_locked 86 = .ok (.bipush 100, 2) := by decide +kernel
theorem dX7_locked_88 : decode cX7_locked 88 = .ok (.if_icmp .ne 7, 3) := by decide +kernel
theorem dX7_locked_91 : decode cX7_locked 91 = .ok (.iconst 1, 1) := by decide +kernel
theorem dX7_locked_92 : decode cX7_locked 92 = .ok (.goto 4, 3) := by decide +kernel
theorem dX7_locked_95 : decode cX7_locked 95 = .ok (.iconst 0, 1) := by decide +kernel
theorem dX7_locked_96 : decode cX7_locked 96 = .ok (.istore_n 3, 1) := by decide +kernel
theorem dX7_locked_97 : decode cX7_locked 97 = .ok (.iinc 4 1, 3) := by decide +kernel
theorem dX7_locked_100 : decode cX7_locked 100 = .ok (.goto (-85), 3) := by decide +kernel
theorem dX7_locked_103 : decode cX7_locked 103 = .ok (.iload_n 1, 1) := by decide +kernel
theorem dX7_locked_104 : decode cX7_locked 104 = .ok (.iload_n 3, 1) := by decide +kernel
theorem dX7_locked_105 : decode cX7_locked 105 = .ok (.ifCond .eq 7, 3) := by decide +kernel
theorem dX7_locked_108 : decode cX7_locked 108 = .ok (.iload_n 2, 1) := by decide +kernel
theorem dX7_locked_109 : decode cX7_locked 109 = .ok (.goto 4, 3) := by decide +kernel
theorem dX7_locked_112 : decode cX7_locked 112 = .ok (.iconst 0, 1) := by decide +kernel
theorem dX7_locked_113 : decode cX7_locked 113 = .ok (.ior, 1) := by decide +kernel
theorem dX7_locked_114 : decode cX7_locked 114 = .ok (.istore_n 1, 1) := by decide +kernel
theorem dX7_locked_115 : decode cX7_locked 115 = .ok (.iinc 2 1, 3) := by decide +kernel
theorem dX7_locked_118 : decode cX7_locked 118 = .ok (.goto (-114), 3) := by decide +kernel
theorem dX7_locked_121 : decode cX7_locked 121 = .ok (.iload_n 1, 1) := by decide +kernel
theorem dX7_locked_122 : decode cX7_locked 122 = .ok (.ireturn, 1) := by decide +kernel
theorem dX7_over_0 : decode cX7_over 0 = .ok (.iload_n 0, 1) := by decide +kernel
theorem dX7_over_1 : decode cX7_over 1 = .ok (.iload_n 1, 1) := by decide +kernel
theorem dX7_over_2 : decode cX7_over 2 = .ok (.if_icmp .le 7, 3) := by decide +kernel
theorem dX7_over_5 : decode cX7_over 5 = .ok (.iconst 1, 1) := by decide +kernel
theorem dX7_over_6 : decode cX7_over 6 = .ok (.goto 4, 3) := by decide +kernel
theorem dX7_over_9 : decode cX7_over 9 = .ok (.iconst 0, 1) := by decide +kernel
theorem dX7_over_10 : decode cX7_over 10 = .ok (.ireturn, 1) := by decide +kernel
theorem dX7_determinant_0 : decode cX7_determinant 0 = .ok (.lconst 0, 1) := by decide +kernel
theorem dX7_determinant_1 : decode cX7_determinant 1 = .ok (.lstore_n 1, 1) := by decide +kernel
theorem dX7_determinant_2 : decode cX7_determinant 2 = .ok (.iconst 0, 1) := by decide +kernel
theorem dX7_determinant_3 : decode cX7_determinant 3 = .ok (.istore_n 3, 1) := by decide +kernel
theorem dX7_determinant_4 : decode cX7_determinant 4 = .ok (.iload_n 3, 1) := by decide +kernel
theorem dX7_determinant_5 : decode cX7_determinant 5 = .ok (.sipush 3125, 3) := by decide +kernel
theorem dX7_determinant_8 : decode cX7_determinant 8 = .ok (.if_icmp .ge 224, 3) := by decide +kernel
theorem dX7_determinant_11 : decode cX7_determinant 11 = .ok (.iload_n 3, 1) := by decide +kernel
theorem dX7_determinant_12 : decode cX7_determinant 12 = .ok (.sipush 625, 3) := by decide +kernel
theorem dX7_determinant_15 : decode cX7_determinant 15 = .ok (.idiv, 1) := by decide +kernel
theorem dX7_determinant_16 : decode cX7_determinant 16 = .ok (.istore 4, 2) := by decide +kernel
theorem dX7_determinant_18 : decode cX7_determinant 18 = .ok (.iload_n 3, 1) := by decide +kernel
theorem dX7_determinant_19 : decode cX7_determinant 19 = .ok (.bipush 125, 2) := by decide +kernel
theorem dX7_determinant_21 : decode cX7_determinant 21 = .ok (.idiv, 1) := by decide +kernel
theorem dX7_determinant_22 : decode cX7_determinant 22 = .ok (.iconst 5, 1) := by decide +kernel
theorem dX7_determinant_23 : decode cX7_determinant 23 = .ok (.irem, 1) := by decide +kernel
theorem dX7_determinant_24 : decode cX7_determinant 24 = .ok (.istore 5, 2) := by decide +kernel
theorem dX7_determinant_26 : decode cX7_determinant 26 = .ok (.iload_n 3, 1) := by decide +kernel
theorem dX7_determinant_27 : decode cX7_determinant 27 = .ok (.bipush 25, 2) := by decide +kernel
theorem dX7_determinant_29 : decode cX7_determinant 29 = .ok (.idiv, 1) := by decide +kernel
theorem dX7_determinant_30 : decode cX7_determinant 30 = .ok (.iconst 5, 1) := by decide +kernel
theorem dX7_determinant_31 : decode cX7_determinant 31 = .ok (.irem, 1) := by decide +kernel
theorem dX7_determinant_32 : decode cX7_determinant 32 = .ok (.istore 6, 2) := by decide +kernel
theorem dX7_determinant_34 : decode cX7_determinant 34 = .ok (.iload_n 3, 1) := by decide +kernel
theorem dX7_determinant_35 : decode cX7_determinant 35 = .ok (.iconst 5, 1) := by decide +kernel
theorem dX7_determinant_36 : decode cX7_determinant 36 = .ok (.idiv, 1) := by decide +kernel
theorem dX7_determinant_37 : decode cX7_determinant 37 = .ok (.iconst 5, 1) := by decide +kernel
theorem dX7_determinant_38 : decode cX7_determinant 38 = .ok (.irem, 1) := by decide +kernel
theorem dX7_determinant_39 : decode cX7_determinant 39 = .ok (.istore 7, 2) := by decide +kernel
theorem dX7_determinant_41 : decode cX7_determinant 41 = .ok (.iload_n 3, 1) := by decide +kernel
theorem dX7_determinant_42 : decode cX7_determinant 42 = .ok (.iconst 5, 1) := by decide +kernel
theorem dX7_determinant_43 : decode cX7_determinant 43 = .ok (.irem, 1) := by decide +kernel
theorem dX7_determinant_44 : decode cX7_determinant 44 = .ok (.istore 8, 2) := by decide +kernel
theorem dX7_determinant_46 : decode cX7_determinant 46 = .ok (.iconst 1, 1) := by decide +kernel
theorem dX7_determinant_47 : decode cX7_determinant 47 = .ok (.iload 4, 2) := by decide +kernel
theorem dX7_determinant_49 : decode cX7_determinant 49 = .ok (.ishl, 1) := by decide +kernel
theorem dX7_determinant_50 : decode cX7_determinant 50 = .ok (.iconst 1, 1) := by decide +kernel
theorem dX7_determinant_51 : decode cX7_determinant 51 = .ok (.iload 5, 2) := by decide +kernel
theorem dX7_determinant_53 : decode cX7_determinant 53 = .ok (.ishl, 1) := by decide +kernel
theorem dX7_determinant_54 : decode cX7_determinant 54 = .ok (.ior, 1) := by decide +kernel
theorem dX7_determinant_55 : decode cX7_determinant 55 = .ok (.iconst 1, 1) := by decide +kernel
theorem dX7_determinant_56 : decode cX7_determinant 56 = .ok (.iload 6, 2) := by decide +kernel
theorem dX7_determinant_58 : decode cX7_determinant 58 = .ok (.ishl, 1) := by decide +kernel
theorem dX7_determinant_59 : decode cX7_determinant 59 = .ok (.ior, 1) := by decide +kernel
theorem dX7_determinant_60 : decode cX7_determinant 60 = .ok (.iconst 1, 1) := by decide +kernel
theorem dX7_determinant_61 : decode cX7_determinant 61 = .ok (.iload 7, 2) := by decide +kernel
theorem dX7_determinant_63 : decode cX7_determinant 63 = .ok (.ishl, 1) := by decide +kernel
theorem dX7_determinant_64 : decode cX7_determinant 64 = .ok (.ior, 1) := by decide +kernel
theorem dX7_determinant_65 : decode cX7_determinant 65 = .ok (.iconst 1, 1) := by decide +kernel
theorem dX7_determinant_66 : decode cX7_determinant 66 = .ok (.iload 8, 2) := by decide +kernel
theorem dX7_determinant_68 : decode cX7_determinant 68 = .ok (.ishl, 1) := by decide +kernel
theorem dX7_determinant_69 : decode cX7_determinant 69 = .ok (.ior, 1) := by decide +kernel
theorem dX7_determinant_70 : decode cX7_determinant 70 = .ok (.bipush 31, 2) := by decide +kernel
theorem dX7_determinant_72 : decode cX7_determinant 72 = .ok (.if_icmp .ne 154, 3) := by decide +kernel
theorem dX7_determinant_75 : decode cX7_determinant 75 = .ok (.iload 4, 2) := by decide +kernel
theorem dX7_determinant_77 : decode cX7_determinant 77 = .ok (.iload 5, 2) := by decide +kernel
theorem dX7_determinant_79 : decode cX7_determinant 79 = .ok (.invokestatic 166, 3) := by decide +kernel
theorem dX7_determinant_82 : decode cX7_determinant 82 = .ok (.iload 4, 2) := by decide +kernel
theorem dX7_determinant_84 : decode cX7_determinant 84 = .ok (.iload 6, 2) := by decide +kernel
theorem dX7_determinant_86 : decode cX7_determinant 86 = .ok (.invokestatic 166, 3) := by decide +kernel
theorem dX7_determinant_89 : decode cX7_determinant 89 = .ok (.iadd, 1) := by decide +kernel
theorem dX7_determinant_90 : decode cX7_determinant 90 = .ok (.iload 4, 2) := by decide +kernel
theorem dX7_determinant_92 : decode cX7_determinant 92 = .ok (.iload 7, 2) := by decide +kernel
theorem dX7_determinant_94 : decode cX7_determinant 94 = .ok (.invokestatic 166, 3) := by decide +kernel
theorem dX7_determinant_97 : decode cX7_determinant 97 = .ok (.iadd, 1) := by decide +kernel
theorem dX7_determinant_98 : decode cX7_determinant 98 = .ok (.iload 4, 2) := by decide +kernel
theorem dX7_determinant_100 : decode cX7_determinant 100 = .ok (.iload 8, 2) := by decide +kernel
theorem dX7_determinant_102 : decode cX7_determinant 102 = .ok (.invokestatic 166, 3) := by decide +kernel
theorem dX7_determinant_105 : decode cX7_determinant 105 = .ok (.iadd, 1) := by decide +kernel
theorem dX7_determinant_106 : decode cX7_determinant 106 = .ok (.iload 5, 2) := by decide +kernel
theorem dX7_determinant_108 : decode cX7_determinant 108 = .ok (.iload 6, 2) := by decide +kernel
theorem dX7_determinant_110 : decode cX7_determinant 110 = .ok (.invokestatic 166, 3) := by decide +kernel
theorem dX7_determinant_113 : decode cX7_determinant 113 = .ok (.iadd, 1) := by decide +kernel
theorem dX7_determinant_114 : decode cX7_determinant 114 = .ok (.iload 5, 2) := by decide +kernel
theorem dX7_determinant_116 : decode cX7_determinant 116 = .ok (.iload 7, 2) := by decide +kernel
theorem dX7_determinant_118 : decode cX7_determinant 118 = .ok (.invokestatic 166, 3) := by decide +kernel
theorem dX7_determinant_121 : decode cX7_determinant 121 = .ok (.iadd, 1) := by decide +kernel
theorem dX7_determinant_122 : decode cX7_determinant 122 = .ok (.iload 5, 2) := by decide +kernel
theorem dX7_determinant_124 : decode cX7_determinant 124 = .ok (.iload 8, 2) := by decide +kernel
theorem dX7_determinant_126 : decode cX7_determinant 126 = .ok (.invokestatic 166, 3) := by decide +kernel
theorem dX7_determinant_129 : decode cX7_determinant 129 = .ok (.iadd, 1) := by decide +kernel
theorem dX7_determinant_130 : decode cX7_determinant 130 = .ok (.iload 6, 2) := by decide +kernel
theorem dX7_determinant_132 : decode cX7_determinant 132 = .ok (.iload 7, 2) := by decide +kernel
theorem dX7_determinant_134 : decode cX7_determinant 134 = .ok (.invokestatic 166, 3) := by decide +kernel
theorem dX7_determinant_137 : decode cX7_determinant 137 = .ok (.iadd, 1) := by decide +kernel
theorem dX7_determinant_138 : decode cX7_determinant 138 = .ok (.iload 6, 2) := by decide +kernel
theorem dX7_determinant_140 : decode cX7_determinant 140 = .ok (.iload 8, 2) := by decide +kernel
theorem dX7_determinant_142 : decode cX7_determinant 142 = .ok (.invokestatic 166, 3) := by decide +kernel
theorem dX7_determinant_145 : decode cX7_determinant 145 = .ok (.iadd, 1) := by decide +kernel
theorem dX7_determinant_146 : decode cX7_determinant 146 = .ok (.iload 7, 2) := by decide +kernel
theorem dX7_determinant_148 : decode cX7_determinant 148 = .ok (.iload 8, 2) := by decide +kernel
theorem dX7_determinant_150 : decode cX7_determinant 150 = .ok (.invokestatic 166, 3) := by decide +kernel
theorem dX7_determinant_153 : decode cX7_determinant 153 = .ok (.iadd, 1) := by decide +kernel
theorem dX7_determinant_154 : decode cX7_determinant 154 = .ok (.istore 9, 2) := by decide +kernel
theorem dX7_determinant_156 : decode cX7_determinant 156 = .ok (.aload_n 0, 1) := by decide +kernel
theorem dX7_determinant_157 : decode cX7_determinant 157 = .ok (.getfield 50, 3) := by decide +kernel
theorem dX7_determinant_160 : decode cX7_determinant 160 = .ok (.iload 4, 2) := by decide +kernel
theorem dX7_determinant_162 : decode cX7_determinant 162 = .ok (.laload, 1) := by decide +kernel
theorem dX7_determinant_163 : decode cX7_determinant 163 = .ok (.aload_n 0, 1) := by decide +kernel
theorem dX7_determinant_164 : decode cX7_determinant 164 = .ok (.getfield 50, 3) := by decide +kernel
theorem dX7_determinant_167 : decode cX7_determinant 167 = .ok (.iconst 5, 1) := by decide +kernel
theorem dX7_determinant_168 : decode cX7_determinant 168 = .ok (.iload 5, 2) := by decide +kernel
theorem dX7_determinant_170 : decode cX7_determinant 170 = .ok (.iadd, 1) := by decide +kernel
theorem dX7_determinant_171 : decode cX7_determinant 171 = .ok (.laload, 1) := by decide +kernel
theorem dX7_determinant_172 : decode cX7_determinant 172 = .ok (.lmul, 1) := by decide +kernel
theorem dX7_determinant_173 : decode cX7_determinant 173 = .ok (.aload_n 0, 1) := by decide +kernel
theorem dX7_determinant_174 : decode cX7_determinant 174 = .ok (.getfield 50, 3) := by decide +kernel
theorem dX7_determinant_177 : decode cX7_determinant 177 = .ok (.bipush 10, 2) := by decide +kernel
theorem dX7_determinant_179 : decode cX7_determinant 179 = .ok (.iload 6, 2) := by decide +kernel
theorem dX7_determinant_181 : decode cX7_determinant 181 = .ok (.iadd, 1) := by decide +kernel
theorem dX7_determinant_182 : decode cX7_determinant 182 = .ok (.laload, 1) := by decide +kernel
theorem dX7_determinant_183 : decode cX7_determinant 183 = .ok (.lmul, 1) := by decide +kernel
theorem dX7_determinant_184 : decode cX7_determinant 184 = .ok (.aload_n 0, 1) := by decide +kernel
theorem dX7_determinant_185 : decode cX7_determinant 185 = .ok (.getfield 50, 3) := by decide +kernel
theorem dX7_determinant_188 : decode cX7_determinant 188 = .ok (.bipush 15, 2) := by decide +kernel
theorem dX7_determinant_190 : decode cX7_determinant 190 = .ok (.iload 7, 2) := by decide +kernel
theorem dX7_determinant_192 : decode cX7_determinant 192 = .ok (.iadd, 1) := by decide +kernel
theorem dX7_determinant_193 : decode cX7_determinant 193 = .ok (.laload, 1) := by decide +kernel
theorem dX7_determinant_194 : decode cX7_determinant 194 = .ok (.lmul, 1) := by decide +kernel
theorem dX7_determinant_195 : decode cX7_determinant 195 = .ok (.aload_n 0, 1) := by decide +kernel
theorem dX7_determinant_196 : decode cX7_determinant 196 = .ok (.getfield 50, 3) := by decide +kernel
theorem dX7_determinant_199 : decode cX7_determinant 199 = .ok (.bipush 20, 2) := by decide +kernel
theorem dX7_determinant_201 : decode cX7_determinant 201 = .ok (.iload 8, 2) := by decide +kernel
theorem dX7_determinant_203 : decode cX7_determinant 203 = .ok (.iadd, 1) := by decide +kernel
theorem dX7_determinant_204 : decode cX7_determinant 204 = .ok (.laload, 1) := by decide +kernel
theorem dX7_determinant_205 : decode cX7_determinant 205 = .ok (.lmul, 1) := by decide +kernel
theorem dX7_determinant_206 : decode cX7_determinant 206 = .ok (.lstore 10, 2) := by decide +kernel
theorem dX7_determinant_208 : decode cX7_determinant 208 = .ok (.lload_n 1, 1) := by decide +kernel
theorem dX7_determinant_209 : decode cX7_determinant 209 = .ok (.iload 9, 2) := by decide +kernel
theorem dX7_determinant_211 : decode cX7_determinant 211 = .ok (.iconst 2, 1) := by decide +kernel
theorem dX7_determinant_212 : decode cX7_determinant 212 = .ok (.irem, 1) := by decide +kernel
theorem dX7_determinant_213 : decode cX7_determinant 213 = .ok (.ifCond .ne 8, 3) := by decide +kernel
theorem dX7_determinant_216 : decode cX7_determinant 216 = .ok (.lload 10, 2) := by decide +kernel
theorem dX7_determinant_218 : decode cX7_determinant 218 = .ok (.goto 6, 3) := by decide +kernel
theorem dX7_determinant_221 : decode cX7_determinant 221 = .ok (.lload 10, 2) := by decide +kernel
theorem dX7_determinant_223 : decode cX7_determinant 223 = .ok (.lneg, 1) := by decide +kernel
theorem dX7_determinant_224 : decode cX7_determinant 224 = .ok (.ladd, 1) := by decide +kernel
theorem dX7_determinant_225 : decode cX7_determinant 225 = .ok (.lstore_n 1, 1) := by decide +kernel
theorem dX7_determinant_226 : decode cX7_determinant 226 = .ok (.iinc 3 1, 3) := by decide +kernel
theorem dX7_determinant_229 : decode cX7_determinant 229 = .ok (.goto (-225), 3) := by decide +kernel
theorem dX7_determinant_232 : decode cX7_determinant 232 = .ok (.lload_n 1, 1) := by decide +kernel
theorem dX7_determinant_233 : decode cX7_determinant 233 = .ok (.lreturn, 1) := by decide +kernel
theorem dX7_layRows_0 : decode cX7_layRows 0 = .ok (.aload_n 0, 1) := by decide +kernel
theorem dX7_layRows_1 : decode cX7_layRows 1 = .ok (.invokevirtual 169, 3) := by decide +kernel
theorem dX7_layRows_4 : decode cX7_layRows 4 = .ok (.istore_n 1, 1) := by decide +kernel
theorem dX7_layRows_5 : decode cX7_layRows 5 = .ok (.iconst 0, 1) := by decide +kernel
theorem dX7_layRows_6 : decode cX7_layRows 6 = .ok (.istore_n 2, 1) := by decide +kernel
theorem dX7_layRows_7 : decode cX7_layRows 7 = .ok (.iload_n 2, 1) := by decide +kernel
theorem dX7_layRows_8 : decode cX7_layRows 8 = .ok (.iconst 5, 1) := by decide +kernel
theorem dX7_layRows_9 : decode cX7_layRows 9 = .ok (.if_icmp .ge 69, 3) := by decide +kernel
theorem dX7_layRows_12 : decode cX7_layRows 12 = .ok (.iconst 0, 1) := by decide +kernel
theorem dX7_layRows_13 : decode cX7_layRows 13 = .ok (.istore_n 3, 1) := by decide +kernel
theorem dX7_layRows_14 : decode cX7_layRows 14 = .ok (.iload_n 3, 1) := by decide +kernel
theorem dX7_layRows_15 : decode cX7_layRows 15 = .ok (.iconst 5, 1) := by decide +kernel
theorem dX7_layRows_16 : decode cX7_layRows 16 = .ok (.if_icmp .ge 56, 3) := by decide +kernel
theorem dX7_layRows_19 : decode cX7_layRows 19 = .ok (.aload_n 0, 1) := by decide +kernel
theorem dX7_layRows_20 : decode cX7_layRows 20 = .ok (.getfield 50, 3) := by decide +kernel
theorem dX7_layRows_23 : decode cX7_layRows 23 = .ok (.iconst 5, 1) := by decide +kernel
theorem dX7_layRows_24 : decode cX7_layRows 24 = .ok (.iload_n 2, 1) := by decide +kernel
theorem dX7_layRows_25 : decode cX7_layRows 25 = .ok (.imul, 1) := by decide +kernel
theorem dX7_layRows_26 : decode cX7_layRows 26 = .ok (.iload_n 3, 1) := by decide +kernel
theorem dX7_layRows_27 : decode cX7_layRows 27 = .ok (.iadd, 1) := by decide +kernel
theorem dX7_layRows_28 : decode cX7_layRows 28 = .ok (.iload_n 2, 1) := by decide +kernel
theorem dX7_layRows_29 : decode cX7_layRows 29 = .ok (.iload_n 3, 1) := by decide +kernel
theorem dX7_layRows_30 : decode cX7_layRows 30 = .ok (.if_icmp .ne 9, 3) := by decide +kernel
theorem dX7_layRows_33 : decode cX7_layRows 33 = .ok (.ldc2_w 172, 3) := by decide +kernel
theorem dX7_layRows_36 : decode cX7_layRows 36 = .ok (.goto 29, 3) := by decide +kernel
theorem dX7_layRows_39 : decode cX7_layRows 39 = .ok (.iload_n 1, 1) := by decide +kernel
theorem dX7_layRows_40 : decode cX7_layRows 40 = .ok (.iload_n 2, 1) := by decide +kernel
theorem dX7_layRows_41 : decode cX7_layRows 41 = .ok (.invokestatic 117, 3) := by decide +kernel
theorem dX7_layRows_44 : decode cX7_layRows 44 = .ok (.ifCond .eq 7, 3) := by decide +kernel
theorem dX7_layRows_47 : decode cX7_layRows 47 = .ok (.lconst 0, 1) := by decide +kernel
theorem dX7_layRows_48 : decode cX7_layRows 48 = .ok (.goto 17, 3) := by decide +kernel
theorem dX7_layRows_51 : decode cX7_layRows 51 = .ok (.aload_n 0, 1) := by decide +kernel
theorem dX7_layRows_52 : decode cX7_layRows 52 = .ok (.getfield 34, 3) := by decide +kernel
theorem dX7_layRows_55 : decode cX7_layRows 55 = .ok (.iconst 4, 1) := by decide +kernel
theorem dX7_layRows_56 : decode cX7_layRows 56 = .ok (.iload_n 3, 1) := by decide +kernel
theorem dX7_layRows_57 : decode cX7_layRows 57 = .ok (.iadd, 1) := by decide +kernel
theorem dX7_layRows_58 : decode cX7_layRows 58 = .ok (.iload_n 2, 1) := by decide +kernel
theorem dX7_layRows_59 : decode cX7_layRows 59 = .ok (.invokestatic 78, 3) := by decide +kernel
theorem dX7_layRows_62 : decode cX7_layRows 62 = .ok (.iaload, 1) := by decide +kernel
theorem dX7_layRows_63 : decode cX7_layRows 63 = .ok (.ineg, 1) := by decide +kernel
theorem dX7_layRows_64 : decode cX7_layRows 64 = .ok (.i2l, 1) := by decide +kernel
theorem dX7_layRows_65 : decode cX7_layRows 65 = .ok (.lastore, 1) := by decide +kernel
theorem dX7_layRows_66 : decode cX7_layRows 66 = .ok (.iinc 3 1, 3) := by decide +kernel
theorem dX7_layRows_69 : decode cX7_layRows 69 = .ok (.goto (-55), 3) := by decide +kernel
theorem dX7_layRows_72 : decode cX7_layRows 72 = .ok (.iinc 2 1, 3) := by decide +kernel
theorem dX7_layRows_75 : decode cX7_layRows 75 = .ok (.goto (-68), 3) := by decide +kernel
theorem dX7_layRows_78 : decode cX7_layRows 78 = .ok (.return_, 1) := by decide +kernel
theorem dX7_lower_0 : decode cX7_lower 0 = .ok (.aload_n 0, 1) := by decide +kernel
theorem dX7_lower_1 : decode cX7_lower 1 = .ok (.invokevirtual 174, 3) := by decide +kernel
end
section
theorem dX7_lower_4 : decode cX7_lower 4 = .ok (.aload_n 0, 1) := by decide +kernel
theorem dX7_lower_5 : decode cX7_lower 5 = .ok (.invokevirtual 177, 3) := by decide +kernel
theorem dX7_lower_8 : decode cX7_lower 8 = .ok (.lreturn, 1) := by decide +kernel
theorem dX7_upper_0 : decode cX7_upper 0 = .ok (.aload_n 0, 1) := by decide +kernel
theorem dX7_upper_1 : decode cX7_upper 1 = .ok (.invokevirtual 174, 3) := by decide +kernel
theorem dX7_upper_4 : decode cX7_upper 4 = .ok (.aload_n 0, 1) := by decide +kernel
theorem dX7_upper_5 : decode cX7_upper 5 = .ok (.invokevirtual 169, 3) := by decide +kernel
theorem dX7_upper_8 : decode cX7_upper 8 = .ok (.istore_n 3, 1) := by decide +kernel
theorem dX7_upper_9 : decode cX7_upper 9 = .ok (.iconst 0, 1) := by decide +kernel
theorem dX7_upper_10 : decode cX7_upper 10 = .ok (.istore 4, 2) := by decide +kernel
theorem dX7_upper_12 : decode cX7_upper 12 = .ok (.iload 4, 2) := by decide +kernel
theorem dX7_upper_14 : decode cX7_upper 14 = .ok (.iconst 5, 1) := by decide +kernel
theorem dX7_upper_15 : decode cX7_upper 15 = .ok (.if_icmp .ge 45, 3) := by decide +kernel
theorem dX7_upper_18 : decode cX7_upper 18 = .ok (.aload_n 0, 1) := by decide +kernel
theorem dX7_upper_19 : decode cX7_upper 19 = .ok (.getfield 50, 3) := by decide +kernel
theorem dX7_upper_22 : decode cX7_upper 22 = .ok (.iconst 5, 1) := by decide +kernel
theorem dX7_upper_23 : decode cX7_upper 23 = .ok (.iload 4, 2) := by decide +kernel
theorem dX7_upper_25 : decode cX7_upper 25 = .ok (.imul, 1) := by decide +kernel
theorem dX7_upper_26 : decode cX7_upper 26 = .ok (.iload_n 2, 1) := by decide +kernel
theorem dX7_upper_27 : decode cX7_upper 27 = .ok (.iadd, 1) := by decide +kernel
theorem dX7_upper_28 : decode cX7_upper 28 = .ok (.iload_n 3, 1) := by decide +kernel
theorem dX7_upper_29 : decode cX7_upper 29 = .ok (.iload 4, 2) := by decide +kernel
theorem dX7_upper_31 : decode cX7_upper 31 = .ok (.invokestatic 117, 3) := by decide +kernel
theorem dX7_upper_34 : decode cX7_upper 34 = .ok (.ifCond .eq 7, 3) := by decide +kernel
theorem dX7_upper_37 : decode cX7_upper 37 = .ok (.lconst 0, 1) := by decide +kernel
theorem dX7_upper_38 : decode cX7_upper 38 = .ok (.goto 15, 3) := by decide +kernel
theorem dX7_upper_41 : decode cX7_upper 41 = .ok (.aload_n 0, 1) := by decide +kernel
theorem dX7_upper_42 : decode cX7_upper 42 = .ok (.getfield 34, 3) := by decide +kernel
theorem dX7_upper_45 : decode cX7_upper 45 = .ok (.iload_n 1, 1) := by decide +kernel
theorem dX7_upper_46 : decode cX7_upper 46 = .ok (.iload 4, 2) := by decide +kernel
theorem dX7_upper_48 : decode cX7_upper 48 = .ok (.invokestatic 78, 3) := by decide +kernel
theorem dX7_upper_51 : decode cX7_upper 51 = .ok (.iaload, 1) := by decide +kernel
theorem dX7_upper_52 : decode cX7_upper 52 = .ok (.i2l, 1) := by decide +kernel
theorem dX7_upper_53 : decode cX7_upper 53 = .ok (.lastore, 1) := by decide +kernel
theorem dX7_upper_54 : decode cX7_upper 54 = .ok (.iinc 4 1, 3) := by decide +kernel
theorem dX7_upper_57 : decode cX7_upper 57 = .ok (.goto (-45), 3) := by decide +kernel
theorem dX7_upper_60 : decode cX7_upper 60 = .ok (.aload_n 0, 1) := by decide +kernel
theorem dX7_upper_61 : decode cX7_upper 61 = .ok (.invokevirtual 177, 3) := by decide +kernel
theorem dX7_upper_64 : decode cX7_upper 64 = .ok (.lreturn, 1) := by decide +kernel
theorem dX7_part_0 : decode cX7_part 0 = .ok (.lload_n 0, 1) := by decide +kernel
theorem dX7_part_1 : decode cX7_part 1 = .ok (.lstore 5, 2) := by decide +kernel
theorem dX7_part_3 : decode cX7_part 3 = .ok (.lload_n 2, 1) := by decide +kernel
theorem dX7_part_4 : decode cX7_part 4 = .ok (.lstore 7, 2) := by decide +kernel
theorem dX7_part_6 : decode cX7_part 6 = .ok (.iconst 0, 1) := by decide +kernel
theorem dX7_part_7 : decode cX7_part 7 = .ok (.istore 9, 2) := by decide +kernel
theorem dX7_part_9 : decode cX7_part 9 = .ok (.iload 9, 2) := by decide +kernel
theorem dX7_part_11 : decode cX7_part 11 = .ok (.bipush 100, 2) := by decide +kernel
theorem dX7_part_13 : decode cX7_part 13 = .ok (.if_icmp .ge 31, 3) := by decide +kernel
theorem dX7_part_16 : decode cX7_part 16 = .ok (.lload 7, 2) := by decide +kernel
theorem dX7_part_18 : decode cX7_part 18 = .ok (.lconst 0, 1) := by decide +kernel
theorem dX7_part_19 : decode cX7_part 19 = .ok (.lcmp, 1) := by decide +kernel
theorem dX7_part_20 : decode cX7_part 20 = .ok (.ifCond .eq 24, 3) := by decide +kernel
theorem dX7_part_23 : decode cX7_part 23 = .ok (.lload 5, 2) := by decide +kernel
theorem dX7_part_25 : decode cX7_part 25 = .ok (.lload 7, 2) := by decide +kernel
theorem dX7_part_27 : decode cX7_part 27 = .ok (.lrem, 1) := by decide +kernel
theorem dX7_part_28 : decode cX7_part 28 = .ok (.lstore 10, 2) := by decide +kernel
theorem dX7_part_30 : decode cX7_part 30 = .ok (.lload 7, 2) := by decide +kernel
theorem dX7_part_32 : decode cX7_part 32 = .ok (.lstore 5, 2) := by decide +kernel
theorem dX7_part_34 : decode cX7_part 34 = .ok (.lload 10, 2) := by decide +kernel
theorem dX7_part_36 : decode cX7_part 36 = .ok (.lstore 7, 2) := by decide +kernel
theorem dX7_part_38 : decode cX7_part 38 = .ok (.iinc 9 1, 3) := by decide +kernel
theorem dX7_part_41 : decode cX7_part 41 = .ok (.goto (-32), 3) := by decide +kernel
theorem dX7_part_44 : decode cX7_part 44 = .ok (.iload 4, 2) := by decide +kernel
theorem dX7_part_46 : decode cX7_part 46 = .ok (.ifCond .ne 10, 3) := by decide +kernel
theorem dX7_part_49 : decode cX7_part 49 = .ok (.lload_n 0, 1) := by decide +kernel
theorem dX7_part_50 : decode cX7_part 50 = .ok (.lload 5, 2) := by decide +kernel
theorem dX7_part_52 : decode cX7_part 52 = .ok (.ldiv, 1) := by decide +kernel
theorem dX7_part_53 : decode cX7_part 53 = .ok (.goto 7, 3) := by decide +kernel
theorem dX7_part_56 : decode cX7_part 56 = .ok (.lload_n 2, 1) := by decide +kernel
theorem dX7_part_57 : decode cX7_part 57 = .ok (.lload 5, 2) := by decide +kernel
theorem dX7_part_59 : decode cX7_part 59 = .ok (.ldiv, 1) := by decide +kernel
theorem dX7_part_60 : decode cX7_part 60 = .ok (.lreturn, 1) := by decide +kernel
theorem dX7_stake_0 : decode cX7_stake 0 = .ok (.iload_n 1, 1) := by decide +kernel
theorem dX7_stake_1 : decode cX7_stake 1 = .ok (.iconst 0, 1) := by decide +kernel
theorem dX7_stake_2 : decode cX7_stake 2 = .ok (.iconst 3, 1) := by decide +kernel
theorem dX7_stake_3 : decode cX7_stake 3 = .ok (.invokestatic 66, 3) := by decide +kernel
theorem dX7_stake_6 : decode cX7_stake 6 = .ok (.ifCond .ne 9, 3) := by decide +kernel
theorem dX7_stake_9 : decode cX7_stake 9 = .ok (.iload_n 1, 1) := by decide +kernel
theorem dX7_stake_10 : decode cX7_stake 10 = .ok (.bipush 9, 2) := by decide +kernel
theorem dX7_stake_12 : decode cX7_stake 12 = .ok (.if_icmp .ne 10, 3) := by decide +kernel
theorem dX7_stake_15 : decode cX7_stake 15 = .ok (.iload_n 2, 1) := by decide +kernel
theorem dX7_stake_16 : decode cX7_stake 16 = .ok (.invokestatic 93, 3) := by decide +kernel
theorem dX7_stake_19 : decode cX7_stake 19 = .ok (.ifCond .ne 7, 3) := by decide +kernel
theorem dX7_stake_22 : decode cX7_stake 22 = .ok (.ldc2_w 181, 3) := by decide +kernel
theorem dX7_stake_25 : decode cX7_stake 25 = .ok (.lreturn, 1) := by decide +kernel
theorem dX7_stake_26 : decode cX7_stake 26 = .ok (.iload_n 3, 1) := by decide +kernel
theorem dX7_stake_27 : decode cX7_stake 27 = .ok (.iconst 0, 1) := by decide +kernel
theorem dX7_stake_28 : decode cX7_stake 28 = .ok (.iconst 1, 1) := by decide +kernel
theorem dX7_stake_29 : decode cX7_stake 29 = .ok (.invokestatic 66, 3) := by decide +kernel
theorem dX7_stake_32 : decode cX7_stake 32 = .ok (.ifCond .ne 7, 3) := by decide +kernel
theorem dX7_stake_35 : decode cX7_stake 35 = .ok (.ldc2_w 183, 3) := by decide +kernel
theorem dX7_stake_38 : decode cX7_stake 38 = .ok (.lreturn, 1) := by decide +kernel
theorem dX7_stake_39 : decode cX7_stake 39 = .ok (.aload_n 0, 1) := by decide +kernel
theorem dX7_stake_40 : decode cX7_stake 40 = .ok (.aload_n 0, 1) := by decide +kernel
theorem dX7_stake_41 : decode cX7_stake 41 = .ok (.getfield 114, 3) := by decide +kernel
theorem dX7_stake_44 : decode cX7_stake 44 = .ok (.bipush (-6), 2) := by decide +kernel
theorem dX7_stake_46 : decode cX7_stake 46 = .ok (.invokevirtual 89, 3) := by decide +kernel
theorem dX7_stake_49 : decode cX7_stake 49 = .ok (.pop, 1) := by decide +kernel
theorem dX7_stake_50 : decode cX7_stake 50 = .ok (.aload_n 0, 1) := by decide +kernel
theorem dX7_stake_51 : decode cX7_stake 51 = .ok (.iload_n 1, 1) := by decide +kernel
theorem dX7_stake_52 : decode cX7_stake 52 = .ok (.iload_n 2, 1) := by decide +kernel
theorem dX7_stake_53 : decode cX7_stake 53 = .ok (.invokevirtual 185, 3) := by decide +kernel
theorem dX7_stake_56 : decode cX7_stake 56 = .ok (.aload_n 0, 1) := by decide +kernel
theorem dX7_stake_57 : decode cX7_stake 57 = .ok (.invokevirtual 189, 3) := by decide +kernel
theorem dX7_stake_60 : decode cX7_stake 60 = .ok (.iload_n 3, 1) := by decide +kernel
theorem dX7_stake_61 : decode cX7_stake 61 = .ok (.invokestatic 192, 3) := by decide +kernel
theorem dX7_stake_64 : decode cX7_stake 64 = .ok (.lreturn, 1) := by decide +kernel
theorem dX7_nobody_0 : decode cX7_nobody 0 = .ok (.iload_n 1, 1) := by decide +kernel
theorem dX7_nobody_1 : decode cX7_nobody 1 = .ok (.invokestatic 93, 3) := by decide +kernel
theorem dX7_nobody_4 : decode cX7_nobody 4 = .ok (.ifCond .ne 7, 3) := by decide +kernel
theorem dX7_nobody_7 : decode cX7_nobody 7 = .ok (.ldc2_w 181, 3) := by decide +kernel
theorem dX7_nobody_10 : decode cX7_nobody 10 = .ok (.lreturn, 1) := by decide +kernel
theorem dX7_nobody_11 : decode cX7_nobody 11 = .ok (.iload_n 2, 1) := by decide +kernel
theorem dX7_nobody_12 : decode cX7_nobody 12 = .ok (.iconst 0, 1) := by decide +kernel
theorem dX7_nobody_13 : decode cX7_nobody 13 = .ok (.iconst 1, 1) := by decide +kernel
theorem dX7_nobody_14 : decode cX7_nobody 14 = .ok (.invokestatic 66, 3) := by decide +kernel
theorem dX7_nobody_17 : decode cX7_nobody 17 = .ok (.ifCond .ne 7, 3) := by decide +kernel
theorem dX7_nobody_20 : decode cX7_nobody 20 = .ok (.ldc2_w 183, 3) := by decide +kernel
theorem dX7_nobody_23 : decode cX7_nobody 23 = .ok (.lreturn, 1) := by decide +kernel
theorem dX7_nobody_24 : decode cX7_nobody 24 = .ok (.aload_n 0, 1) := by decide +kernel
theorem dX7_nobody_25 : decode cX7_nobody 25 = .ok (.aload_n 0, 1) := by decide +kernel
theorem dX7_nobody_26 : decode cX7_nobody 26 = .ok (.getfield 114, 3) := by decide +kernel
theorem dX7_nobody_29 : decode cX7_nobody 29 = .ok (.bipush (-6), 2) := by decide +kernel
theorem dX7_nobody_31 : decode cX7_nobody 31 = .ok (.invokevirtual 89, 3) := by decide +kernel
theorem dX7_nobody_34 : decode cX7_nobody 34 = .ok (.pop, 1) := by decide +kernel
theorem dX7_nobody_35 : decode cX7_nobody 35 = .ok (.aload_n 0, 1) := by decide +kernel
theorem dX7_nobody_36 : decode cX7_nobody 36 = .ok (.invokevirtual 189, 3) := by decide +kernel
theorem dX7_nobody_39 : decode cX7_nobody 39 = .ok (.aload_n 0, 1) := by decide +kernel
theorem dX7_nobody_40 : decode cX7_nobody 40 = .ok (.bipush 9, 2) := by decide +kernel
theorem dX7_nobody_42 : decode cX7_nobody 42 = .ok (.iload_n 1, 1) := by decide +kernel
theorem dX7_nobody_43 : decode cX7_nobody 43 = .ok (.invokevirtual 185, 3) := by decide +kernel
theorem dX7_nobody_46 : decode cX7_nobody 46 = .ok (.lsub, 1) := by decide +kernel
theorem dX7_nobody_47 : decode cX7_nobody 47 = .ok (.lstore_n 3, 1) := by decide +kernel
theorem dX7_nobody_48 : decode cX7_nobody 48 = .ok (.iconst 0, 1) := by decide +kernel
theorem dX7_nobody_49 : decode cX7_nobody 49 = .ok (.istore 5, 2) := by decide +kernel
theorem dX7_nobody_51 : decode cX7_nobody 51 = .ok (.iload 5, 2) := by decide +kernel
theorem dX7_nobody_53 : decode cX7_nobody 53 = .ok (.iconst 4, 1) := by decide +kernel
theorem dX7_nobody_54 : decode cX7_nobody 54 = .ok (.if_icmp .ge 19, 3) := by decide +kernel
theorem dX7_nobody_57 : decode cX7_nobody 57 = .ok (.lload_n 3, 1) := by decide +kernel
theorem dX7_nobody_58 : decode cX7_nobody 58 = .ok (.aload_n 0, 1) := by decide +kernel
theorem dX7_nobody_59 : decode cX7_nobody 59 = .ok (.iload 5, 2) := by decide +kernel
theorem dX7_nobody_61 : decode cX7_nobody 61 = .ok (.iload_n 1, 1) := by decide +kernel
theorem dX7_nobody_62 : decode cX7_nobody 62 = .ok (.invokevirtual 185, 3) := by decide +kernel
theorem dX7_nobody_65 : decode cX7_nobody 65 = .ok (.lsub, 1) := by decide +kernel
theorem dX7_nobody_66 : decode cX7_nobody 66 = .ok (.lstore_n 3, 1) := by decide +kernel
theorem dX7_nobody_67 : decode cX7_nobody 67 = .ok (.iinc 5 1, 3) := by decide +kernel
theorem dX7_nobody_70 : decode cX7_nobody 70 = .ok (.goto (-19), 3) := by decide +kernel
theorem dX7_nobody_73 : decode cX7_nobody 73 = .ok (.lload_n 3, 1) := by decide +kernel
theorem dX7_nobody_74 : decode cX7_nobody 74 = .ok (.aload_n 0, 1) := by decide +kernel
theorem dX7_nobody_75 : decode cX7_nobody 75 = .ok (.invokevirtual 189, 3) := by decide +kernel
theorem dX7_nobody_78 : decode cX7_nobody 78 = .ok (.iload_n 2, 1) := by decide +kernel
theorem dX7_nobody_79 : decode cX7_nobody 79 = .ok (.invokestatic 192, 3) := by decide +kernel
theorem dX7_nobody_82 : decode cX7_nobody 82 = .ok (.lreturn, 1) := by decide +kernel
theorem dX7_layUppers_0 : decode cX7_layUppers 0 = .ok (.aload_n 0, 1) := by decide +kernel
theorem dX7_layUppers_1 : decode cX7_layUppers 1 = .ok (.aload_n 0, 1) := by decide +kernel
theorem dX7_layUppers_2 : decode cX7_layUppers 2 = .ok (.getfield 114, 3) := by decide +kernel
theorem dX7_layUppers_5 : decode cX7_layUppers 5 = .ok (.bipush (-6), 2) := by decide +kernel
theorem dX7_layUppers_7 : decode cX7_layUppers 7 = .ok (.invokevirtual 89, 3) := by decide +kernel
theorem dX7_layUppers_10 : decode cX7_layUppers 10 = .ok (.pop, 1) := by decide +kernel
theorem dX7_layUppers_11 : decode cX7_layUppers 11 = .ok (.iconst 0, 1) := by decide +kernel
theorem dX7_layUppers_12 : decode cX7_layUppers 12 = .ok (.istore_n 2, 1) := by decide +kernel
theorem dX7_layUppers_13 : decode cX7_layUppers 13 = .ok (.iload_n 2, 1) := by decide +kernel
theorem dX7_layUppers_14 : decode cX7_layUppers 14 = .ok (.iconst 4, 1) := by decide +kernel
theorem dX7_layUppers_15 : decode cX7_layUppers 15 = .ok (.if_icmp .ge 21, 3) := by decide +kernel
theorem dX7_layUppers_18 : decode cX7_layUppers 18 = .ok (.aload_n 0, 1) := by decide +kernel
theorem dX7_layUppers_19 : decode cX7_layUppers 19 = .ok (.getfield 54, 3) := by decide +kernel
theorem dX7_layUppers_22 : decode cX7_layUppers 22 = .ok (.iload_n 2, 1) := by decide +kernel
theorem dX7_layUppers_23 : decode cX7_layUppers 23 = .ok (.aload_n 0, 1) := by decide +kernel
theorem dX7_layUppers_24 : decode cX7_layUppers 24 = .ok (.iload_n 2, 1) := by decide +kernel
theorem dX7_layUppers_25 : decode cX7_layUppers 25 = .ok (.iload_n 1, 1) := by decide +kernel
theorem dX7_layUppers_26 : decode cX7_layUppers 26 = .ok (.invokevirtual 185, 3) := by decide +kernel
theorem dX7_layUppers_29 : decode cX7_layUppers 29 = .ok (.lastore, 1) := by decide +kernel
theorem dX7_layUppers_30 : decode cX7_layUppers 30 = .ok (.iinc 2 1, 3) := by decide +kernel
theorem dX7_layUppers_33 : decode cX7_layUppers 33 = .ok (.goto (-20), 3) := by decide +kernel
theorem dX7_layUppers_36 : decode cX7_layUppers 36 = .ok (.return_, 1) := by decide +kernel
theorem dX7_ranked_0 : decode cX7_ranked 0 = .ok (.iload_n 1, 1) := by decide +kernel
theorem dX7_ranked_1 : decode cX7_ranked 1 = .ok (.invokestatic 93, 3) := by decide +kernel
theorem dX7_ranked_4 : decode cX7_ranked 4 = .ok (.ifCond .ne 5, 3) := by decide +kernel
theorem dX7_ranked_7 : decode cX7_ranked 7 = .ok (.iconst (-1), 1) := by decide +kernel
theorem dX7_ranked_8 : decode cX7_ranked 8 = .ok (.ireturn, 1) := by decide +kernel
theorem dX7_ranked_9 : decode cX7_ranked 9 = .ok (.aload_n 0, 1) := by decide +kernel
theorem dX7_ranked_10 : decode cX7_ranked 10 = .ok (.iload_n 1, 1) := by decide +kernel
theorem dX7_ranked_11 : decode cX7_ranked 11 = .ok (.invokevirtual 196, 3) := by decide +kernel
theorem dX7_ranked_14 : decode cX7_ranked 14 = .ok (.bipush (-6), 2) := by decide +kernel
theorem dX7_ranked_16 : decode cX7_ranked 16 = .ok (.istore_n 3, 1) := by decide +kernel
theorem dX7_ranked_17 : decode cX7_ranked 17 = .ok (.iconst 0, 1) := by decide +kernel
theorem dX7_ranked_18 : decode cX7_ranked 18 = .ok (.istore 4, 2) := by decide +kernel
theorem dX7_ranked_20 : decode cX7_ranked 20 = .ok (.iload 4, 2) := by decide +kernel
theorem dX7_ranked_22 : decode cX7_ranked 22 = .ok (.iconst 4, 1) := by decide +kernel
theorem dX7_ranked_23 : decode cX7_ranked 23 = .ok (.if_icmp .ge 105, 3) := by decide +kernel
theorem dX7_ranked_26 : decode cX7_ranked 26 = .ok (.iconst 0, 1) := by decide +kernel
theorem dX7_ranked_27 : decode cX7_ranked 27 = .ok (.istore 5, 2) := by decide +kernel
theorem dX7_ranked_29 : decode cX7_ranked 29 = .ok (.iconst 0, 1) := by decide +kernel
theorem dX7_ranked_30 : decode cX7_ranked 30 = .ok (.istore 6, 2) := by decide +kernel
theorem dX7_ranked_32 : decode cX7_ranked 32 = .ok (.iload 6, 2) := by decide +kernel
theorem dX7_ranked_34 : decode cX7_ranked 34 = .ok (.iconst 4, 1) := by decide +kernel
theorem dX7_ranked_35 : decode cX7_ranked 35 = .ok (.if_icmp .ge 62, 3) := by decide +kernel
theorem dX7_ranked_38 : decode cX7_ranked 38 = .ok (.iload 5, 2) := by decide +kernel
theorem dX7_ranked_40 : decode cX7_ranked 40 = .ok (.aload_n 0, 1) := by decide +kernel
theorem dX7_ranked_41 : decode cX7_ranked 41 = .ok (.getfield 54, 3) := by decide +kernel
theorem dX7_ranked_44 : decode cX7_ranked 44 = .ok (.iload 6, 2) := by decide +kernel
theorem dX7_ranked_46 : decode cX7_ranked 46 = .ok (.laload, 1) := by decide +kernel
theorem dX7_ranked_47 : decode cX7_ranked 47 = .ok (.aload_n 0, 1) := by decide +kernel
theorem dX7_ranked_48 : decode cX7_ranked 48 = .ok (.getfield 54, 3) := by decide +kernel
theorem dX7_ranked_51 : decode cX7_ranked 51 = .ok (.iload 4, 2) := by decide +kernel
theorem dX7_ranked_53 : decode cX7_ranked 53 = .ok (.laload, 1) := by decide +kernel
theorem dX7_ranked_54 : decode cX7_ranked 54 = .ok (.lcmp, 1) := by decide +kernel
theorem dX7_ranked_55 : decode cX7_ranked 55 = .ok (.ifCond .gt 28, 3) := by decide +kernel
theorem dX7_ranked_58 : decode cX7_ranked 58 = .ok (.aload_n 0, 1) := by decide +kernel
theorem dX7_ranked_59 : decode cX7_ranked 59 = .ok (.getfield 54, 3) := by decide +kernel
theorem dX7_ranked_62 : decode cX7_ranked 62 = .ok (.iload 6, 2) := by decide +kernel
theorem dX7_ranked_64 : decode cX7_ranked 64 = .ok (.laload, 1) := by decide +kernel
theorem dX7_ranked_65 : decode cX7_ranked 65 = .ok (.aload_n 0, 1) := by decide +kernel
theorem dX7_ranked_66 : decode cX7_ranked 66 = .ok (.getfield 54, 3) := by decide +kernel
theorem dX7_ranked_69 : decode cX7_ranked 69 = .ok (.iload 4, 2) := by decide +kernel
theorem dX7_ranked_71 : decode cX7_ranked 71 = .ok (.laload, 1) := by decide +kernel
theorem dX7_ranked_72 : decode cX7_ranked 72 = .ok (.lcmp, 1) := by decide +kernel
theorem dX7_ranked_73 : decode cX7_ranked 73 = .ok (.ifCond .ne 14, 3) := by decide +kernel
theorem dX7_ranked_76 : decode cX7_ranked 76 = .ok (.iload 6, 2) := by decide +kernel
theorem dX7_ranked_78 : decode cX7_ranked 78 = .ok (.iload 4, 2) := by decide +kernel
theorem dX7_ranked_80 : decode cX7_ranked 80 = .ok (.if_icmp .ge 7, 3) := by decide +kernel
theorem dX7_ranked_83 : decode cX7_ranked 83 = .ok (.iconst 1, 1) := by decide +kernel
theorem dX7_ranked_84 : decode cX7_ranked 84 = .ok (.goto 4, 3) := by decide +kernel
theorem dX7_ranked_87 : decode cX7_ranked 87 = .ok (.iconst 0, 1) := by decide +kernel
theorem dX7_ranked_88 : decode cX7_ranked 88 = .ok (.iadd, 1) := by decide +kernel
theorem dX7_ranked_89 : decode cX7_ranked 89 = .ok (.istore 5, 2) := by decide +kernel
theorem dX7_ranked_91 : decode cX7_ranked 91 = .ok (.iinc 6 1, 3) := by decide +kernel
theorem dX7_ranked_94 : decode cX7_ranked 94 = .ok (.goto (-62), 3) := by decide +kernel
theorem dX7_ranked_97 : decode cX7_ranked 97 = .ok (.iload 5, 2) := by decide +kernel
theorem dX7_ranked_99 : decode cX7_ranked 99 = .ok (.iload_n 2, 1) := by decide +kernel
theorem dX7_ranked_100 : decode cX7_ranked 100 = .ok (.if_icmp .ne 20, 3) := by decide +kernel
theorem dX7_ranked_103 : decode cX7_ranked 103 = .ok (.aload_n 0, 1) := by decide +kernel
theorem dX7_ranked_104 : decode cX7_ranked 104 = .ok (.getfield 54, 3) := by decide +kernel
theorem dX7_ranked_107 : decode cX7_ranked 107 = .ok (.iload 4, 2) := by decide +kernel
theorem dX7_ranked_109 : decode cX7_ranked 109 = .ok (.laload, 1) := by decide +kernel
theorem dX7_ranked_110 : decode cX7_ranked 110 = .ok (.lconst 0, 1) := by decide +kernel
theorem dX7_ranked_111 : decode cX7_ranked 111 = .ok (.lcmp, 1) := by decide +kernel
theorem dX7_ranked_112 : decode cX7_ranked 112 = .ok (.ifCond .le 8, 3) := by decide +kernel
theorem dX7_ranked_115 : decode cX7_ranked 115 = .ok (.iload 4, 2) := by decide +kernel
theorem dX7_ranked_117 : decode cX7_ranked 117 = .ok (.goto 4, 3) := by decide +kernel
theorem dX7_ranked_120 : decode cX7_ranked 120 = .ok (.iload_n 3, 1) := by decide +kernel
theorem dX7_ranked_121 : decode cX7_ranked 121 = .ok (.istore_n 3, 1) := by decide +kernel
theorem dX7_ranked_122 : decode cX7_ranked 122 = .ok (.iinc 4 1, 3) := by decide +kernel
theorem dX7_ranked_125 : decode cX7_ranked 125 = .ok (.goto (-105), 3) := by decide +kernel
theorem dX7_ranked_128 : decode cX7_ranked 128 = .ok (.iload_n 3, 1) := by decide +kernel
theorem dX7_ranked_129 : decode cX7_ranked 129 = .ok (.ireturn, 1) := by decide +kernel
theorem dX7_owners_0 : decode cX7_owners 0 = .ok (.iload_n 1, 1) := by decide +kernel
theorem dX7_owners_1 : decode cX7_owners 1 = .ok (.invokestatic 93, 3) := by decide +kernel
theorem dX7_owners_4 : decode cX7_owners 4 = .ok (.ifCond .ne 5, 3) := by decide +kernel
theorem dX7_owners_7 : decode cX7_owners 7 = .ok (.iconst (-1), 1) := by decide +kernel
theorem dX7_owners_8 : decode cX7_owners 8 = .ok (.ireturn, 1) := by decide +kernel
theorem dX7_owners_9 : decode cX7_owners 9 = .ok (.aload_n 0, 1) := by decide +kernel
theorem dX7_owners_10 : decode cX7_owners 10 = .ok (.iload_n 1, 1) := by decide +kernel
theorem dX7_owners_11 : decode cX7_owners 11 = .ok (.invokevirtual 196, 3) := by decide +kernel
theorem dX7_owners_14 : decode cX7_owners 14 = .ok (.aload_n 0, 1) := by decide +kernel
theorem dX7_owners_15 : decode cX7_owners 15 = .ok (.invokevirtual 189, 3) := by decide +kernel
theorem dX7_owners_18 : decode cX7_owners 18 = .ok (.lstore_n 2, 1) := by decide +kernel
theorem dX7_owners_19 : decode cX7_owners 19 = .ok (.iconst 0, 1) := by decide +kernel
theorem dX7_owners_20 : decode cX7_owners 20 = .ok (.istore 4, 2) := by decide +kernel
theorem dX7_owners_22 : decode cX7_owners 22 = .ok (.iconst 0, 1) := by decide +kernel
theorem dX7_owners_23 : decode cX7_owners 23 = .ok (.istore 5, 2) := by decide +kernel
theorem dX7_owners_25 : decode cX7_owners 25 = .ok (.iload 5, 2) := by decide +kernel
theorem dX7_owners_27 : decode cX7_owners 27 = .ok (.iconst 4, 1) := by decide +kernel
theorem dX7_owners_28 : decode cX7_owners 28 = .ok (.if_icmp .ge 59, 3) := by decide +kernel
theorem dX7_owners_31 : decode cX7_owners 31 = .ok (.iload 4, 2) := by decide +kernel
theorem dX7_owners_33 : decode cX7_owners 33 = .ok (.aload_n 0, 1) := by decide +kernel
theorem dX7_owners_34 : decode cX7_owners 34 = .ok (.iload 5, 2) := by decide +kernel
theorem dX7_owners_36 : decode cX7_owners 36 = .ok (.invokevirtual 133, 3) := by decide +kernel
theorem dX7_owners_39 : decode cX7_owners 39 = .ok (.iload_n 1, 1) := by decide +kernel
theorem dX7_owners_40 : decode cX7_owners 40 = .ok (.invokestatic 117, 3) := by decide +kernel
theorem dX7_owners_43 : decode cX7_owners 43 = .ok (.ifCond .ne 27, 3) := by decide +kernel
theorem dX7_owners_46 : decode cX7_owners 46 = .ok (.ldc2_w 172, 3) := by decide +kernel
theorem dX7_owners_49 : decode cX7_owners 49 = .ok (.aload_n 0, 1) := by decide +kernel
theorem dX7_owners_50 : decode cX7_owners 50 = .ok (.getfield 54, 3) := by decide +kernel
theorem dX7_owners_53 : decode cX7_owners 53 = .ok (.iload 5, 2) := by decide +kernel
theorem dX7_owners_55 : decode cX7_owners 55 = .ok (.laload, 1) := by decide +kernel
theorem dX7_owners_56 : decode cX7_owners 56 = .ok (.lmul, 1) := by decide +kernel
theorem dX7_owners_57 : decode cX7_owners 57 = .ok (.aload_n 0, 1) := by decide +kernel
theorem dX7_owners_58 : decode cX7_owners 58 = .ok (.getfield 28, 3) := by decide +kernel
theorem dX7_owners_61 : decode cX7_owners 61 = .ok (.iconst 2, 1) := by decide +kernel
theorem dX7_owners_62 : decode cX7_owners 62 = .ok (.iaload, 1) := by decide +kernel
theorem dX7_owners_63 : decode cX7_owners 63 = .ok (.i2l, 1) := by decide +kernel
theorem dX7_owners_64 : decode cX7_owners 64 = .ok (.lload_n 2, 1) := by decide +kernel
theorem dX7_owners_65 : decode cX7_owners 65 = .ok (.lmul, 1) := by decide +kernel
theorem dX7_owners_66 : decode cX7_owners 66 = .ok (.lcmp, 1) := by decide +kernel
theorem dX7_owners_67 : decode cX7_owners 67 = .ok (.ifCond .le 10, 3) := by decide +kernel
theorem dX7_owners_70 : decode cX7_owners 70 = .ok (.iconst 1, 1) := by decide +kernel
theorem dX7_owners_71 : decode cX7_owners 71 = .ok (.iload 5, 2) := by decide +kernel
theorem dX7_owners_73 : decode cX7_owners 73 = .ok (.ishl, 1) := by decide +kernel
theorem dX7_owners_74 : decode cX7_owners 74 = .ok (.goto 4, 3) := by decide +kernel
theorem dX7_owners_77 : decode cX7_owners 77 = .ok (.iconst 0, 1) := by decide +kernel
theorem dX7_owners_78 : decode cX7_owners 78 = .ok (.ior, 1) := by decide +kernel
theorem dX7_owners_79 : decode cX7_owners 79 = .ok (.istore 4, 2) := by decide +kernel
theorem dX7_owners_81 : decode cX7_owners 81 = .ok (.iinc 5 1, 3) := by decide +kernel
theorem dX7_owners_84 : decode cX7_owners 84 = .ok (.goto (-59), 3) := by decide +kernel
theorem dX7_owners_87 : decode cX7_owners 87 = .ok (.iload 4, 2) := by decide +kernel
theorem dX7_owners_89 : decode cX7_owners 89 = .ok (.ireturn, 1) := by decide +kernel
theorem dX7_circle_0 : decode cX7_circle 0 = .ok (.iload_n 1, 1) := by decide +kernel
theorem dX7_circle_1 : decode cX7_circle 1 = .ok (.invokestatic 93, 3) := by decide +kernel
theorem dX7_circle_4 : decode cX7_circle 4 = .ok (.ifCond .ne 5, 3) := by decide +kernel
theorem dX7_circle_7 : decode cX7_circle 7 = .ok (.iconst (-1), 1) := by decide +kernel
theorem dX7_circle_8 : decode cX7_circle 8 = .ok (.ireturn, 1) := by decide +kernel
theorem dX7_circle_9 : decode cX7_circle 9 = .ok (.aload_n 0, 1) := by decide +kernel
theorem dX7_circle_10 : decode cX7_circle 10 = .ok (.aload_n 0, 1) := by decide +kernel
theorem dX7_circle_11 : decode cX7_circle 11 = .ok (.getfield 114, 3) := by decide +kernel
theorem dX7_circle_14 : decode cX7_circle 14 = .ok (.bipush (-6), 2) := by decide +kernel
theorem dX7_circle_16 : decode cX7_circle 16 = .ok (.invokevirtual 89, 3) := by decide +kernel
theorem dX7_circle_19 : decode cX7_circle 19 = .ok (.pop, 1) := by decide +kernel
theorem dX7_circle_20 : decode cX7_circle 20 = .ok (.iconst 0, 1) := by decide +kernel
theorem dX7_circle_21 : decode cX7_circle 21 = .ok (.istore_n 2, 1) := by decide +kernel
theorem dX7_circle_22 : decode cX7_circle 22 = .ok (.iload_n 2, 1) := by decide +kernel
theorem dX7_circle_23 : decode cX7_circle 23 = .ok (.iconst 5, 1) := by decide +kernel
theorem dX7_circle_24 : decode cX7_circle 24 = .ok (.if_icmp .ge 16, 3) := by decide +kernel
theorem dX7_circle_27 : decode cX7_circle 27 = .ok (.aload_n 0, 1) := by decide +kernel
theorem dX7_circle_28 : decode cX7_circle 28 = .ok (.getfield 57, 3) := by decide +kernel
theorem dX7_circle_31 : decode cX7_circle 31 = .ok (.iload_n 2, 1) := by decide +kernel
theorem dX7_circle_32 : decode cX7_circle 32 = .ok (.iconst 0, 1) := by decide +kernel
theorem dX7_circle_33 : decode cX7_circle 33 = .ok (.iastore, 1) := by decide +kernel
theorem dX7_circle_34 : decode cX7_circle 34 = .ok (.iinc 2 1, 3) := by decide +kernel
theorem dX7_circle_37 : decode cX7_circle 37 = .ok (.goto (-15), 3) := by decide +kernel
theorem dX7_circle_40 : decode cX7_circle 40 = .ok (.iconst 0, 1) := by decide +kernel
theorem dX7_circle_41 : decode cX7_circle 41 = .ok (.istore_n 2, 1) := by decide +kernel
theorem dX7_circle_42 : decode cX7_circle 42 = .ok (.iload_n 2, 1) := by decide +kernel
theorem dX7_circle_43 : decode cX7_circle 43 = .ok (.iconst 5, 1) := by decide +kernel
theorem dX7_circle_44 : decode cX7_circle 44 = .ok (.if_icmp .ge 78, 3) := by decide +kernel
theorem dX7_circle_47 : decode cX7_circle 47 = .ok (.iconst 0, 1) := by decide +kernel
theorem dX7_circle_48 : decode cX7_circle 48 = .ok (.istore_n 3, 1) := by decide +kernel
theorem dX7_circle_49 : decode cX7_circle 49 = .ok (.iload_n 3, 1) := by decide +kernel
theorem dX7_circle_50 : decode cX7_circle 50 = .ok (.iconst 5, 1) := by decide +kernel
theorem dX7_circle_51 : decode cX7_circle 51 = .ok (.if_icmp .ge 65, 3) := by decide +kernel
theorem dX7_circle_54 : decode cX7_circle 54 = .ok (.iconst 0, 1) := by decide +kernel
theorem dX7_circle_55 : decode cX7_circle 55 = .ok (.istore 4, 2) := by decide +kernel
theorem dX7_circle_57 : decode cX7_circle 57 = .ok (.iload 4, 2) := by decide +kernel
theorem dX7_circle_59 : decode cX7_circle 59 = .ok (.iconst 5, 1) := by decide +kernel
theorem dX7_circle_60 : decode cX7_circle 60 = .ok (.if_icmp .ge 50, 3) := by decide +kernel
theorem dX7_circle_63 : decode cX7_circle 63 = .ok (.aload_n 0, 1) := by decide +kernel
theorem dX7_circle_64 : decode cX7_circle 64 = .ok (.getfield 57, 3) := by decide +kernel
theorem dX7_circle_67 : decode cX7_circle 67 = .ok (.iload_n 3, 1) := by decide +kernel
theorem dX7_circle_68 : decode cX7_circle 68 = .ok (.dup2, 1) := by decide +kernel
theorem dX7_circle_69 : decode cX7_circle 69 = .ok (.iaload, 1) := by decide +kernel
theorem dX7_circle_70 : decode cX7_circle 70 = .ok (.aload_n 0, 1) := by decide +kernel
theorem dX7_circle_71 : decode cX7_circle 71 = .ok (.getfield 34, 3) := by decide +kernel
theorem dX7_circle_74 : decode cX7_circle 74 = .ok (.iconst 4, 1) := by decide +kernel
theorem dX7_circle_75 : decode cX7_circle 75 = .ok (.iload_n 3, 1) := by decide +kernel
theorem dX7_circle_76 : decode cX7_circle 76 = .ok (.iadd, 1) := by decide +kernel
theorem dX7_circle_77 : decode cX7_circle 77 = .ok (.iload 4, 2) := by decide +kernel
theorem dX7_circle_79 : decode cX7_circle 79 = .ok (.invokestatic 78, 3) := by decide +kernel
theorem dX7_circle_82 : decode cX7_circle 82 = .ok (.iaload, 1) := by decide +kernel
theorem dX7_circle_83 : decode cX7_circle 83 = .ok (.ifCond .le 18, 3) := by decide +kernel
theorem dX7_circle_86 : decode cX7_circle 86 = .ok (.iconst 1, 1) := by decide +kernel
theorem dX7_circle_87 : decode cX7_circle 87 = .ok (.iload 4, 2) := by decide +kernel
theorem dX7_circle_89 : decode cX7_circle 89 = .ok (.ishl, 1) := by decide +kernel
theorem dX7_circle_90 : decode cX7_circle 90 = .ok (.aload_n 0, 1) := by decide +kernel
theorem dX7_circle_91 : decode cX7_circle 91 = .ok (.getfield 57, 3) := by decide +kernel
theorem dX7_circle_94 : decode cX7_circle 94 = .ok (.iload 4, 2) := by decide +kernel
theorem dX7_circle_96 : decode cX7_circle 96 = .ok (.iaload, 1) := by decide +kernel
theorem dX7_circle_97 : decode cX7_circle 97 = .ok (.ior, 1) := by decide +kernel
theorem dX7_circle_98 : decode cX7_circle 98 = .ok (.goto 4, 3) := by decide +kernel
theorem dX7_circle_101 : decode cX7_circle 101 = .ok (.iconst 0, 1) := by decide +kernel
theorem dX7_circle_102 : decode cX7_circle 102 = .ok (.ior, 1) := by decide +kernel
theorem dX7_circle_103 : decode cX7_circle 103 = .ok (.iastore, 1) := by decide +kernel
theorem dX7_circle_104 : decode cX7_circle 104 = .ok (.iinc 4 1, 3) := by decide +kernel
theorem dX7_circle_107 : decode cX7_circle 107 = .ok (.goto (-50), 3) := by decide +kernel
theorem dX7_circle_110 : decode cX7_circle 110 = .ok (.iinc 3 1, 3) := by decide +kernel
theorem dX7_circle_113 : decode cX7_circle 113 = .ok (.goto (-64), 3) := by decide +kernel
theorem dX7_circle_116 : decode cX7_circle 116 = .ok (.iinc 2 1, 3) := by decide +kernel
theorem dX7_circle_119 : decode cX7_circle 119 = .ok (.goto (-77), 3) := by decide +kernel
theorem dX7_circle_122 : decode cX7_circle 122 = .ok (.iconst 0, 1) := by decide +kernel
theorem dX7_circle_123 : decode cX7_circle 123 = .ok (.istore_n 2, 1) := by decide +kernel
theorem dX7_circle_124 : decode cX7_circle 124 = .ok (.iconst 0, 1) := by decide +kernel
theorem dX7_circle_125 : decode cX7_circle 125 = .ok (.istore_n 3, 1) := by decide +kernel
theorem dX7_circle_126 : decode cX7_circle 126 = .ok (.iload_n 3, 1) := by decide +kernel
theorem dX7_circle_127 : decode cX7_circle 127 = .ok (.iconst 5, 1) := by decide +kernel
theorem dX7_circle_128 : decode cX7_circle 128 = .ok (.if_icmp .ge 45, 3) := by decide +kernel
theorem dX7_circle_131 : decode cX7_circle 131 = .ok (.iload_n 2, 1) := by decide +kernel
theorem dX7_circle_132 : decode cX7_circle 132 = .ok (.aload_n 0, 1) := by decide +kernel
theorem dX7_circle_133 : decode cX7_circle 133 = .ok (.getfield 57, 3) := by decide +kernel
theorem dX7_circle_136 : decode cX7_circle 136 = .ok (.iload_n 1, 1) := by decide +kernel
theorem dX7_circle_137 : decode cX7_circle 137 = .ok (.iaload, 1) := by decide +kernel
theorem dX7_circle_138 : decode cX7_circle 138 = .ok (.iload_n 3, 1) := by decide +kernel
theorem dX7_circle_139 : decode cX7_circle 139 = .ok (.invokestatic 117, 3) := by decide +kernel
theorem dX7_circle_142 : decode cX7_circle 142 = .ok (.ifCond .eq 22, 3) := by decide +kernel
theorem dX7_circle_145 : decode cX7_circle 145 = .ok (.aload_n 0, 1) := by decide +kernel
theorem dX7_circle_146 : decode cX7_circle 146 = .ok (.getfield 57, 3) := by decide +kernel
theorem dX7_circle_149 : decode cX7_circle 149 = .ok (.iload_n 3, 1) := by decide +kernel
theorem dX7_circle_150 : decode cX7_circle 150 = .ok (.iaload, 1) := by decide +kernel
theorem dX7_circle_151 : decode cX7_circle 151 = .ok (.iload_n 1, 1) := by decide +kernel
theorem dX7_circle_152 : decode cX7_circle 152 = .ok (.invokestatic 117, 3) := by decide +kernel
theorem dX7_circle_155 : decode cX7_circle 155 = .ok (.ifCond .eq 9, 3) := by decide +kernel
theorem dX7_circle_158 : decode cX7_circle 158 = .ok (.iconst 1, 1) := by decide +kernel
theorem dX7_circle_159 : decode cX7_circle 159 = .ok (.iload_n 3, 1) := by decide +kernel
theorem dX7_circle_160 : decode cX7_circle 160 = .ok (.ishl, 1) := by decide +kernel
theorem dX7_circle_161 : decode cX7_circle 161 = .ok (.goto 4, 3) := by decide +kernel
theorem dX7_circle_164 : decode cX7_circle 164 = .ok (.iconst 0, 1) := by decide +kernel
theorem dX7_circle_165 : decode cX7_circle 165 = .ok (.ior, 1) := by decide +kernel
theorem dX7_circle_166 : decode cX7_circle 166 = .ok (.istore_n 2, 1) := by decide +kernel
theorem dX7_circle_167 : decode cX7_circle 167 = .ok (.iinc 3 1, 3) := by decide +kernel
theorem dX7_circle_170 : decode cX7_circle 170 = .ok (.goto (-44), 3) := by decide +kernel
theorem dX7_circle_173 : decode cX7_circle 173 = .ok (.iload_n 2, 1) := by decide +kernel
theorem dX7_circle_174 : decode cX7_circle 174 = .ok (.ireturn, 1) := by decide +kernel
theorem dX7_image_0 : decode cX7_image 0 = .ok (.iload_n 1, 1) := by decide +kernel
theorem dX7_image_1 : decode cX7_image 1 = .ok (.iconst 0, 1) := by decide +kernel
theorem dX7_image_2 : decode cX7_image 2 = .ok (.iconst 1, 1) := by decide +kernel
theorem dX7_image_3 : decode cX7_image 3 = .ok (.invokestatic 66, 3) := by decide +kernel
theorem dX7_image_6 : decode cX7_image 6 = .ok (.ifCond .ne 6, 3) := by decide +kernel
theorem dX7_image_9 : decode cX7_image 9 = .ok (.bipush (-2), 2) := by decide +kernel
theorem dX7_image_11 : decode cX7_image 11 = .ok (.ireturn, 1) := by decide +kernel
theorem dX7_image_12 : decode cX7_image 12 = .ok (.sipush 245, 3) := by decide +kernel
theorem dX7_image_15 : decode cX7_image 15 = .ok (.iload_n 1, 1) := by decide +kernel
theorem dX7_image_16 : decode cX7_image 16 = .ok (.imul, 1) := by decide +kernel
theorem dX7_image_17 : decode cX7_image 17 = .ok (.istore_n 2, 1) := by decide +kernel
theorem dX7_image_18 : decode cX7_image 18 = .ok (.iconst 0, 1) := by decide +kernel
theorem dX7_image_19 : decode cX7_image 19 = .ok (.istore_n 3, 1) := by decide +kernel
theorem dX7_image_20 : decode cX7_image 20 = .ok (.iload_n 3, 1) := by decide +kernel
theorem dX7_image_21 : decode cX7_image 21 = .ok (.aload_n 0, 1) := by decide +kernel
theorem dX7_image_22 : decode cX7_image 22 = .ok (.getfield 70, 3) := by decide +kernel
theorem dX7_image_25 : decode cX7_image 25 = .ok (.if_icmp .ge 121, 3) := by decide +kernel
theorem dX7_image_28 : decode cX7_image 28 = .ok (.aload_n 0, 1) := by decide +kernel
theorem dX7_image_29 : decode cX7_image 29 = .ok (.getfield 60, 3) := by decide +kernel
theorem dX7_image_32 : decode cX7_image 32 = .ok (.iload_n 2, 1) := by decide +kernel
theorem dX7_image_33 : decode cX7_image 33 = .ok (.bipush 6, 2) := by decide +kernel
theorem dX7_image_35 : decode cX7_image 35 = .ok (.iload_n 3, 1) := by decide +kernel
theorem dX7_image_36 : decode cX7_image 36 = .ok (.imul, 1) := by decide +kernel
theorem dX7_image_37 : decode cX7_image 37 = .ok (.iadd, 1) := by decide +kernel
theorem dX7_image_38 : decode cX7_image 38 = .ok (.aload_n 0, 1) := by decide +kernel
theorem dX7_image_39 : decode cX7_image 39 = .ok (.getfield 7, 3) := by decide +kernel
theorem dX7_image_42 : decode cX7_image 42 = .ok (.iload_n 3, 1) := by decide +kernel
theorem dX7_image_43 : decode cX7_image 43 = .ok (.iaload, 1) := by decide +kernel
theorem dX7_image_44 : decode cX7_image 44 = .ok (.iastore, 1) := by decide +kernel
theorem dX7_image_45 : decode cX7_image 45 = .ok (.aload_n 0, 1) := by decide +kernel
theorem dX7_image_46 : decode cX7_image 46 = .ok (.getfield 60, 3) := by decide +kernel
theorem dX7_image_49 : decode cX7_image 49 = .ok (.iload_n 2, 1) := by decide +kernel
theorem dX7_image_50 : decode cX7_image 50 = .ok (.bipush 6, 2) := by decide +kernel
theorem dX7_image_52 : decode cX7_image 52 = .ok (.iload_n 3, 1) := by decide +kernel
theorem dX7_image_53 : decode cX7_image 53 = .ok (.imul, 1) := by decide +kernel
theorem dX7_image_54 : decode cX7_image 54 = .ok (.iadd, 1) := by decide +kernel
theorem dX7_image_55 : decode cX7_image 55 = .ok (.iconst 1, 1) := by decide +kernel
theorem dX7_image_56 : decode cX7_image 56 = .ok (.iadd, 1) := by decide +kernel
theorem dX7_image_57 : decode cX7_image 57 = .ok (.aload_n 0, 1) := by decide +kernel
theorem dX7_image_58 : decode cX7_image 58 = .ok (.getfield 13, 3) := by decide +kernel
theorem dX7_image_61 : decode cX7_image 61 = .ok (.iload_n 3, 1) := by decide +kernel
theorem dX7_image_62 : decode cX7_image 62 = .ok (.iaload, 1) := by decide +kernel
theorem dX7_image_63 : decode cX7_image 63 = .ok (.iastore, 1) := by decide +kernel
theorem dX7_image_64 : decode cX7_image 64 = .ok (.aload_n 0, 1) := by decide +kernel
theorem dX7_image_65 : decode cX7_image 65 = .ok (.getfield 60, 3) := by decide +kernel
theorem dX7_image_68 : decode cX7_image 68 = .ok (.iload_n 2, 1) := by decide +kernel
theorem dX7_image_69 : decode cX7_image 69 = .ok (.bipush 6, 2) := by decide +kernel
theorem dX7_image_71 : decode cX7_image 71 = .ok (.iload_n 3, 1) := by decide +kernel
theorem dX7_image_72 : decode cX7_image 72 = .ok (.imul, 1) := by decide +kernel
theorem dX7_image_73 : decode cX7_image 73 = .ok (.iadd, 1) := by decide +kernel
theorem dX7_image_74 : decode cX7_image 74 = .ok (.iconst 2, 1) := by decide +kernel
theorem dX7_image_75 : decode cX7_image 75 = .ok (.iadd, 1) := by decide +kernel
theorem dX7_image_76 : decode cX7_image 76 = .ok (.aload_n 0, 1) := by decide +kernel
theorem dX7_image_77 : decode cX7_image 77 = .ok (.getfield 16, 3) := by decide +kernel
theorem dX7_image_80 : decode cX7_image 80 = .ok (.iload_n 3, 1) := by decide +kernel
theorem dX7_image_81 : decode cX7_image 81 = .ok (.iaload, 1) := by decide +kernel
theorem dX7_image_82 : decode cX7_image 82 = .ok (.iastore, 1) := by decide +kernel
theorem dX7_image_83 : decode cX7_image 83 = .ok (.aload_n 0, 1) := by decide +kernel
theorem dX7_image_84 : decode cX7_image 84 = .ok (.getfield 60, 3) := by decide +kernel
theorem dX7_image_87 : decode cX7_image 87 = .ok (.iload_n 2, 1) := by decide +kernel
theorem dX7_image_88 : decode cX7_image 88 = .ok (.bipush 6, 2) := by decide +kernel
theorem dX7_image_90 : decode cX7_image 90 = .ok (.iload_n 3, 1) := by decide +kernel
theorem dX7_image_91 : decode cX7_image 91 = .ok (.imul, 1) := by decide +kernel
theorem dX7_image_92 : decode cX7_image 92 = .ok (.iadd, 1) := by decide +kernel
theorem dX7_image_93 : decode cX7_image 93 = .ok (.iconst 3, 1) := by decide +kernel
theorem dX7_image_94 : decode cX7_image 94 = .ok (.iadd, 1) := by decide +kernel
theorem dX7_image_95 : decode cX7_image 95 = .ok (.aload_n 0, 1) := by decide +kernel
theorem dX7_image_96 : decode cX7_image 96 = .ok (.getfield 19, 3) := by decide +kernel
theorem dX7_image_99 : decode cX7_image 99 = .ok (.iload_n 3, 1) := by decide +kernel
theorem dX7_image_100 : decode cX7_image 100 = .ok (.iaload, 1) := by decide +kernel
theorem dX7_image_101 : decode cX7_image 101 = .ok (.iastore, 1) := by decide +kernel
theorem dX7_image_102 : decode cX7_image 102 = .ok (.aload_n 0, 1) := by decide +kernel
theorem dX7_image_103 : decode cX7_image 103 = .ok (.getfield 60, 3) := by decide +kernel
theorem dX7_image_106 : decode cX7_image 106 = .ok (.iload_n 2, 1) := by decide +kernel
theorem dX7_image_107 : decode cX7_image 107 = .ok (.bipush 6, 2) := by decide +kernel
theorem dX7_image_109 : decode cX7_image 109 = .ok (.iload_n 3, 1) := by decide +kernel
theorem dX7_image_110 : decode cX7_image 110 = .ok (.imul, 1) := by decide +kernel
theorem dX7_image_111 : decode cX7_image 111 = .ok (.iadd, 1) := by decide +kernel
theorem dX7_image_112 : decode cX7_image 112 = .ok (.iconst 4, 1) := by decide +kernel
theorem dX7_image_113 : decode cX7_image 113 = .ok (.iadd, 1) := by decide +kernel
theorem dX7_image_114 : decode cX7_image 114 = .ok (.aload_n 0, 1) := by decide +kernel
theorem dX7_image_115 : decode cX7_image 115 = .ok (.getfield 22, 3) := by decide +kernel
theorem dX7_image_118 : decode cX7_image 118 = .ok (.iload_n 3, 1) := by decide +kernel
theorem dX7_image_119 : decode cX7_image 119 = .ok (.iaload, 1) := by decide +kernel
theorem dX7_image_120 : decode cX7_image 120 = .ok (.iastore, 1) := by decide +kernel
theorem dX7_image_121 : decode cX7_image 121 = .ok (.aload_n 0, 1) := by decide +kernel
theorem dX7_image_122 : decode cX7_image 122 = .ok (.getfield 60, 3) := by decide +kernel
theorem dX7_image_125 : decode cX7_image 125 = .ok (.iload_n 2, 1) := by decide +kernel
theorem dX7_image_126 : decode cX7_image 126 = .ok (.bipush 6, 2) := by decide +kernel
theorem dX7_image_128 : decode cX7_image 128 = .ok (.iload_n 3, 1) := by decide +kernel
theorem dX7_image_129 : decode cX7_image 129 = .ok (.imul, 1) := by decide +kernel
theorem dX7_image_130 : decode cX7_image 130 = .ok (.iadd, 1) := by decide +kernel
theorem dX7_image_131 : decode cX7_image 131 = .ok (.iconst 5, 1) := by decide +kernel
theorem dX7_image_132 : decode cX7_image 132 = .ok (.iadd, 1) := by decide +kernel
theorem dX7_image_133 : decode cX7_image 133 = .ok (.aload_n 0, 1) := by decide +kernel
theorem dX7_image_134 : decode cX7_image 134 = .ok (.getfield 25, 3) := by decide +kernel
theorem dX7_image_137 : decode cX7_image 137 = .ok (.iload_n 3, 1) := by decide +kernel
theorem dX7_image_138 : decode cX7_image 138 = .ok (.iaload, 1) := by decide +kernel
theorem dX7_image_139 : decode cX7_image 139 = .ok (.iastore, 1) := by decide +kernel
theorem dX7_image_140 : decode cX7_image 140 = .ok (.iinc 3 1, 3) := by decide +kernel
theorem dX7_image_143 : decode cX7_image 143 = .ok (.goto (-123), 3) := by decide +kernel
theorem dX7_image_146 : decode cX7_image 146 = .ok (.aload_n 0, 1) := by decide +kernel
theorem dX7_image_147 : decode cX7_image 147 = .ok (.getfield 60, 3) := by decide +kernel
theorem dX7_image_150 : decode cX7_image 150 = .ok (.iload_n 2, 1) := by decide +kernel
theorem dX7_image_151 : decode cX7_image 151 = .ok (.sipush 240, 3) := by decide +kernel
theorem dX7_image_154 : decode cX7_image 154 = .ok (.iadd, 1) := by decide +kernel
theorem dX7_image_155 : decode cX7_image 155 = .ok (.aload_n 0, 1) := by decide +kernel
theorem dX7_image_156 : decode cX7_image 156 = .ok (.getfield 70, 3) := by decide +kernel
theorem dX7_image_159 : decode cX7_image 159 = .ok (.iastore, 1) := by decide +kernel
theorem dX7_image_160 : decode cX7_image 160 = .ok (.aload_n 0, 1) := by decide +kernel
theorem dX7_image_161 : decode cX7_image 161 = .ok (.getfield 60, 3) := by decide +kernel
theorem dX7_image_164 : decode cX7_image 164 = .ok (.iload_n 2, 1) := by decide +kernel
theorem dX7_image_165 : decode cX7_image 165 = .ok (.sipush 241, 3) := by decide +kernel
theorem dX7_image_168 : decode cX7_image 168 = .ok (.iadd, 1) := by decide +kernel
theorem dX7_image_169 : decode cX7_image 169 = .ok (.aload_n 0, 1) := by decide +kernel
theorem dX7_image_170 : decode cX7_image 170 = .ok (.getfield 114, 3) := by decide +kernel
theorem dX7_image_173 : decode cX7_image 173 = .ok (.iastore, 1) := by decide +kernel
theorem dX7_image_174 : decode cX7_image 174 = .ok (.iconst 0, 1) := by decide +kernel
theorem dX7_image_175 : decode cX7_image 175 = .ok (.istore_n 3, 1) := by decide +kernel
theorem dX7_image_176 : decode cX7_image 176 = .ok (.iload_n 3, 1) := by decide +kernel
theorem dX7_image_177 : decode cX7_image 177 = .ok (.iconst 3, 1) := by decide +kernel
theorem dX7_image_178 : decode cX7_image 178 = .ok (.if_icmp .ge 27, 3) := by decide +kernel
theorem dX7_image_181 : decode cX7_image 181 = .ok (.aload_n 0, 1) := by decide +kernel
theorem dX7_image_182 : decode cX7_image 182 = .ok (.getfield 60, 3) := by decide +kernel
theorem dX7_image_185 : decode cX7_image 185 = .ok (.iload_n 2, 1) := by decide +kernel
theorem dX7_image_186 : decode cX7_image 186 = .ok (.sipush 242, 3) := by decide +kernel
theorem dX7_image_189 : decode cX7_image 189 = .ok (.iadd, 1) := by decide +kernel
theorem dX7_image_190 : decode cX7_image 190 = .ok (.iload_n 3, 1) := by decide +kernel
theorem dX7_image_191 : decode cX7_image 191 = .ok (.iadd, 1) := by decide +kernel
theorem dX7_image_192 : decode cX7_image 192 = .ok (.aload_n 0, 1) := by decide +kernel
theorem dX7_image_193 : decode cX7_image 193 = .ok (.getfield 28, 3) := by decide +kernel
theorem dX7_image_196 : decode cX7_image 196 = .ok (.iload_n 3, 1) := by decide +kernel
theorem dX7_image_197 : decode cX7_image 197 = .ok (.iaload, 1) := by decide +kernel
theorem dX7_image_198 : decode cX7_image 198 = .ok (.iastore, 1) := by decide +kernel
theorem dX7_image_199 : decode cX7_image 199 = .ok (.iinc 3 1, 3) := by decide +kernel
theorem dX7_image_202 : decode cX7_image 202 = .ok (.goto (-26), 3) := by decide +kernel
theorem dX7_image_205 : decode cX7_image 205 = .ok (.aload_n 0, 1) := by decide +kernel
theorem dX7_image_206 : decode cX7_image 206 = .ok (.getfield 63, 3) := by decide +kernel
theorem dX7_image_209 : decode cX7_image 209 = .ok (.iload_n 1, 1) := by decide +kernel
theorem dX7_image_210 : decode cX7_image 210 = .ok (.iconst 1, 1) := by decide +kernel
theorem dX7_image_211 : decode cX7_image 211 = .ok (.bastore, 1) := by decide +kernel
theorem dX7_image_212 : decode cX7_image 212 = .ok (.iconst 1, 1) := by decide +kernel
theorem dX7_image_213 : decode cX7_image 213 = .ok (.ireturn, 1) := by decide +kernel
theorem dX7_restore_0 : decode cX7_restore 0 = .ok (.iload_n 1, 1) := by decide +kernel
theorem dX7_restore_1 : decode cX7_restore 1 = .ok (.iconst 0, 1) := by decide +kernel
theorem dX7_restore_2 : decode cX7_restore 2 = .ok (.iconst 1, 1) := by decide +kernel
theorem dX7_restore_3 : decode cX7_restore 3 = .ok (.invokestatic 66, 3) := by decide +kernel
theorem dX7_restore_6 : decode cX7_restore 6 = .ok (.ifCond .ne 6, 3) := by decide +kernel
theorem dX7_restore_9 : decode cX7_restore 9 = .ok (.bipush (-2), 2) := by decide +kernel
theorem dX7_restore_11 : decode cX7_restore 11 = .ok (.ireturn, 1) := by decide +kernel
theorem dX7_restore_12 : decode cX7_restore 12 = .ok (.aload_n 0, 1) := by decide +kernel
theorem dX7_restore_13 : decode cX7_restore 13 = .ok (.getfield 63, 3) := by decide +kernel
theorem dX7_restore_16 : decode cX7_restore 16 = .ok (.iload_n 1, 1) := by decide +kernel
theorem dX7_restore_17 : decode cX7_restore 17 = .ok (.baload, 1) := by decide +kernel
theorem dX7_restore_18 : decode cX7_restore 18 = .ok (.ifCond .ne 6, 3) := by decide +kernel
theorem dX7_restore_21 : decode cX7_restore 21 = .ok (.bipush (-3), 2) := by decide +kernel
theorem dX7_restore_23 : decode cX7_restore 23 = .ok (.ireturn, 1) := by decide +kernel
theorem dX7_restore_24 : decode cX7_restore 24 = .ok (.sipush 245, 3) := by decide +kernel
theorem dX7_restore_27 : decode cX7_restore 27 = .ok (.iload_n 1, 1) := by decide +kernel
theorem dX7_restore_28 : decode cX7_restore 28 = .ok (.imul, 1) := by decide +kernel
theorem dX7_restore_29 : decode cX7_restore 29 = .ok (.istore_n 2, 1) := by decide +kernel
theorem dX7_restore_30 : decode cX7_restore 30 = .ok (.aload_n 0, 1) := by decide +kernel
theorem dX7_restore_31 : decode cX7_restore 31 = .ok (.aload_n 0, 1) := by decide +kernel
theorem dX7_restore_32 : decode cX7_restore 32 = .ok (.getfield 60, 3) := by decide +kernel
theorem dX7_restore_35 : decode cX7_restore 35 = .ok (.iload_n 2, 1) := by decide +kernel
theorem dX7_restore_36 : decode cX7_restore 36 = .ok (.sipush 240, 3) := by decide +kernel
theorem dX7_restore_39 : decode cX7_restore 39 = .ok (.iadd, 1) := by decide +kernel
theorem dX7_restore_40 : decode cX7_restore 40 = .ok (.iaload, 1) := by decide +kernel
theorem dX7_restore_41 : decode cX7_restore 41 = .ok (.putfield 70, 3) := by decide +kernel
theorem dX7_restore_44 : decode cX7_restore 44 = .ok (.aload_n 0, 1) := by decide +kernel
theorem dX7_restore_45 : decode cX7_restore 45 = .ok (.aload_n 0, 1) := by decide +kernel
theorem dX7_restore_46 : decode cX7_restore 46 = .ok (.getfield 60, 3) := by decide +kernel
theorem dX7_restore_49 : decode cX7_restore 49 = .ok (.iload_n 2, 1) := by decide +kernel
theorem dX7_restore_50 : decode cX7_restore 50 = .ok (.sipush 241, 3) := by decide +kernel
theorem dX7_restore_53 : decode cX7_restore 53 = .ok (.iadd, 1) := by decide +kernel
theorem dX7_restore_54 : decode cX7_restore 54 = .ok (.iaload, 1) := by decide +kernel
theorem dX7_restore_55 : decode cX7_restore 55 = .ok (.putfield 114, 3) := by decide +kernel
theorem dX7_restore_58 : decode cX7_restore 58 = .ok (.iconst 0, 1) := by decide +kernel
theorem dX7_restore_59 : decode cX7_restore 59 = .ok (.istore_n 3, 1) := by decide +kernel
theorem dX7_restore_60 : decode cX7_restore 60 = .ok (.iload_n 3, 1) := by decide +kernel
theorem dX7_restore_61 : decode cX7_restore 61 = .ok (.aload_n 0, 1) := by decide +kernel
theorem dX7_restore_62 : decode cX7_restore 62 = .ok (.getfield 70, 3) := by decide +kernel
theorem dX7_restore_65 : decode cX7_restore 65 = .ok (.if_icmp .ge 74, 3) := by decide +kernel
theorem dX7_restore_68 : decode cX7_restore 68 = .ok (.iload_n 2, 1) := by decide +kernel
theorem dX7_restore_69 : decode cX7_restore 69 = .ok (.bipush 6, 2) := by decide +kernel
theorem dX7_restore_71 : decode cX7_restore 71 = .ok (.iload_n 3, 1) := by decide +kernel
theorem dX7_restore_72 : decode cX7_restore 72 = .ok (.imul, 1) := by decide +kernel
theorem dX7_restore_73 : decode cX7_restore 73 = .ok (.iadd, 1) := by decide +kernel
theorem dX7_restore_74 : decode cX7_restore 74 = .ok (.istore 4, 2) := by decide +kernel
theorem dX7_restore_76 : decode cX7_restore 76 = .ok (.aload_n 0, 1) := by decide +kernel
theorem dX7_restore_77 : decode cX7_restore 77 = .ok (.iload_n 3, 1) := by decide +kernel
theorem dX7_restore_78 : decode cX7_restore 78 = .ok (.aload_n 0, 1) := by decide +kernel
theorem dX7_restore_79 : decode cX7_restore 79 = .ok (.getfield 60, 3) := by decide +kernel
theorem dX7_restore_82 : decode cX7_restore 82 = .ok (.iload 4, 2) := by decide +kernel
theorem dX7_restore_84 : decode cX7_restore 84 = .ok (.iaload, 1) := by decide +kernel
theorem dX7_restore_85 : decode cX7_restore 85 = .ok (.aload_n 0, 1) := by decide +kernel
theorem dX7_restore_86 : decode cX7_restore 86 = .ok (.getfield 60, 3) := by decide +kernel
theorem dX7_restore_89 : decode cX7_restore 89 = .ok (.iload 4, 2) := by decide +kernel
theorem dX7_restore_91 : decode cX7_restore 91 = .ok (.iconst 1, 1) := by decide +kernel
theorem dX7_restore_92 : decode cX7_restore 92 = .ok (.iadd, 1) := by decide +kernel
theorem dX7_restore_93 : decode cX7_restore 93 = .ok (.iaload, 1) := by decide +kernel
theorem dX7_restore_94 : decode cX7_restore 94 = .ok (.aload_n 0, 1) := by decide +kernel
theorem dX7_restore_95 : decode cX7_restore 95 = .ok (.getfield 60, 3) := by decide +kernel
theorem dX7_restore_98 : decode cX7_restore 98 = .ok (.iload 4, 2) := by decide +kernel
theorem dX7_restore_100 : decode cX7_restore 100 = .ok (.iconst 2, 1) := by decide +kernel
theorem dX7_restore_101 : decode cX7_restore 101 = .ok (.iadd, 1) := by decide +kernel
theorem dX7_restore_102 : decode cX7_restore 102 = .ok (.iaload, 1) := by decide +kernel
theorem dX7_restore_103 : decode cX7_restore 103 = .ok (.aload_n 0, 1) := by decide +kernel
theorem dX7_restore_104 : decode cX7_restore 104 = .ok (.getfield 60, 3) := by decide +kernel
theorem dX7_restore_107 : decode cX7_restore 107 = .ok (.iload 4, 2) := by decide +kernel
theorem dX7_restore_109 : decode cX7_restore 109 = .ok (.iconst 3, 1) := by decide +kernel
theorem dX7_restore_110 : decode cX7_restore 110 = .ok (.iadd, 1) := by decide +kernel
theorem dX7_restore_111 : decode cX7_restore 111 = .ok (.iaload, 1) := by decide +kernel
theorem dX7_restore_112 : decode cX7_restore 112 = .ok (.aload_n 0, 1) := by decide +kernel
theorem dX7_restore_113 : decode cX7_restore 113 = .ok (.getfield 60, 3) := by decide +kernel
theorem dX7_restore_116 : decode cX7_restore 116 = .ok (.iload 4, 2) := by decide +kernel
theorem dX7_restore_118 : decode cX7_restore 118 = .ok (.iconst 4, 1) := by decide +kernel
theorem dX7_restore_119 : decode cX7_restore 119 = .ok (.iadd, 1) := by decide +kernel
theorem dX7_restore_120 : decode cX7_restore 120 = .ok (.iaload, 1) := by decide +kernel
theorem dX7_restore_121 : decode cX7_restore 121 = .ok (.aload_n 0, 1) := by decide +kernel
theorem dX7_restore_122 : decode cX7_restore 122 = .ok (.getfield 60, 3) := by decide +kernel
theorem dX7_restore_125 : decode cX7_restore 125 = .ok (.iload 4, 2) := by decide +kernel
theorem dX7_restore_127 : decode cX7_restore 127 = .ok (.iconst 5, 1) := by decide +kernel
theorem dX7_restore_128 : decode cX7_restore 128 = .ok (.iadd, 1) := by decide +kernel
theorem dX7_restore_129 : decode cX7_restore 129 = .ok (.iaload, 1) := by decide +kernel
theorem dX7_restore_130 : decode cX7_restore 130 = .ok (.invokevirtual 96, 3) := by decide +kernel
theorem dX7_restore_133 : decode cX7_restore 133 = .ok (.iinc 3 1, 3) := by decide +kernel
theorem dX7_restore_136 : decode cX7_restore 136 = .ok (.goto (-76), 3) := by decide +kernel
theorem dX7_restore_139 : decode cX7_restore 139 = .ok (.iconst 0, 1) := by decide +kernel
theorem dX7_restore_140 : decode cX7_restore 140 = .ok (.istore_n 3, 1) := by decide +kernel
theorem dX7_restore_141 : decode cX7_restore 141 = .ok (.iload_n 3, 1) := by decide +kernel
theorem dX7_restore_142 : decode cX7_restore 142 = .ok (.iconst 3, 1) := by decide +kernel
theorem dX7_restore_143 : decode cX7_restore 143 = .ok (.if_icmp .ge 27, 3) := by decide +kernel
theorem dX7_restore_146 : decode cX7_restore 146 = .ok (.aload_n 0, 1) := by decide +kernel
theorem dX7_restore_147 : decode cX7_restore 147 = .ok (.getfield 28, 3) := by decide +kernel
theorem dX7_restore_150 : decode cX7_restore 150 = .ok (.iload_n 3, 1) := by decide +kernel
theorem dX7_restore_151 : decode cX7_restore 151 = .ok (.aload_n 0, 1) := by decide +kernel
theorem dX7_restore_152 : decode cX7_restore 152 = .ok (.getfield 60, 3) := by decide +kernel
theorem dX7_restore_155 : decode cX7_restore 155 = .ok (.iload_n 2, 1) := by decide +kernel
theorem dX7_restore_156 : decode cX7_restore 156 = .ok (.sipush 242, 3) := by decide +kernel
theorem dX7_restore_159 : decode cX7_restore 159 = .ok (.iadd, 1) := by decide +kernel
theorem dX7_restore_160 : decode cX7_restore 160 = .ok (.iload_n 3, 1) := by decide +kernel
theorem dX7_restore_161 : decode cX7_restore 161 = .ok (.iadd, 1) := by decide +kernel
theorem dX7_restore_162 : decode cX7_restore 162 = .ok (.iaload, 1) := by decide +kernel
theorem dX7_restore_163 : decode cX7_restore 163 = .ok (.iastore, 1) := by decide +kernel
theorem dX7_restore_164 : decode cX7_restore 164 = .ok (.iinc 3 1, 3) := by decide +kernel
theorem dX7_restore_167 : decode cX7_restore 167 = .ok (.goto (-26), 3) := by decide +kernel
theorem dX7_restore_170 : decode cX7_restore 170 = .ok (.iconst 1, 1) := by decide +kernel
theorem dX7_restore_171 : decode cX7_restore 171 = .ok (.ireturn, 1) := by decide +kernel
theorem dX7_unlikeDay_0 : decode cX7_unlikeDay 0 = .ok (.aload_n 0, 1) := by decide +kernel
theorem dX7_unlikeDay_1 : decode cX7_unlikeDay 1 = .ok (.iconst (-1), 1) := by decide +kernel
theorem dX7_unlikeDay_2 : decode cX7_unlikeDay 2 = .ok (.invokevirtual 148, 3) := by decide +kernel
theorem dX7_unlikeDay_5 : decode cX7_unlikeDay 5 = .ok (.istore_n 2, 1) := by decide +kernel
theorem dX7_unlikeDay_6 : decode cX7_unlikeDay 6 = .ok (.iconst 0, 1) := by decide +kernel
theorem dX7_unlikeDay_7 : decode cX7_unlikeDay 7 = .ok (.istore_n 3, 1) := by decide +kernel
theorem dX7_unlikeDay_8 : decode cX7_unlikeDay 8 = .ok (.iload_n 3, 1) := by decide +kernel
theorem dX7_unlikeDay_9 : decode cX7_unlikeDay 9 = .ok (.iload_n 1, 1) := by decide +kernel
theorem dX7_unlikeDay_10 : decode cX7_unlikeDay 10 = .ok (.if_icmp .ge 19, 3) := by decide +kernel
theorem dX7_unlikeDay_13 : decode cX7_unlikeDay 13 = .ok (.iload_n 2, 1) := by decide +kernel
theorem dX7_unlikeDay_14 : decode cX7_unlikeDay 14 = .ok (.ifCond .lt 15, 3) := by decide +kernel
theorem dX7_unlikeDay_17 : decode cX7_unlikeDay 17 = .ok (.aload_n 0, 1) := by decide +kernel
theorem dX7_unlikeDay_18 : decode cX7_unlikeDay 18 = .ok (.iload_n 2, 1) := by decide +kernel
theorem dX7_unlikeDay_19 : decode cX7_unlikeDay 19 = .ok (.invokevirtual 148, 3) := by decide +kernel
theorem dX7_unlikeDay_22 : decode cX7_unlikeDay 22 = .ok (.istore_n 2, 1) := by decide +kernel
theorem dX7_unlikeDay_23 : decode cX7_unlikeDay 23 = .ok (.iinc 3 1, 3) := by decide +kernel
theorem dX7_unlikeDay_26 : decode cX7_unlikeDay 26 = .ok (.goto (-18), 3) := by decide +kernel
theorem dX7_unlikeDay_29 : decode cX7_unlikeDay 29 = .ok (.iload_n 2, 1) := by decide +kernel
theorem dX7_unlikeDay_30 : decode cX7_unlikeDay 30 = .ok (.ireturn, 1) := by decide +kernel
theorem dX7_done_0 : decode cX7_done 0 = .ok (.iconst 0, 1) := by decide +kernel
theorem dX7_done_1 : decode cX7_done 1 = .ok (.istore_n 1, 1) := by decide +kernel
theorem dX7_done_2 : decode cX7_done 2 = .ok (.iconst 0, 1) := by decide +kernel
theorem dX7_done_3 : decode cX7_done 3 = .ok (.istore_n 2, 1) := by decide +kernel
theorem dX7_done_4 : decode cX7_done 4 = .ok (.iload_n 2, 1) := by decide +kernel
theorem dX7_done_5 : decode cX7_done 5 = .ok (.aload_n 0, 1) := by decide +kernel
theorem dX7_done_6 : decode cX7_done 6 = .ok (.getfield 70, 3) := by decide +kernel
theorem dX7_done_9 : decode cX7_done 9 = .ok (.if_icmp .ge 30, 3) := by decide +kernel
theorem dX7_done_12 : decode cX7_done 12 = .ok (.iload_n 1, 1) := by decide +kernel
theorem dX7_done_13 : decode cX7_done 13 = .ok (.aload_n 0, 1) := by decide +kernel
theorem dX7_done_14 : decode cX7_done 14 = .ok (.getfield 7, 3) := by decide +kernel
theorem dX7_done_17 : decode cX7_done 17 = .ok (.iload_n 2, 1) := by decide +kernel
theorem dX7_done_18 : decode cX7_done 18 = .ok (.iaload, 1) := by decide +kernel
theorem dX7_done_19 : decode cX7_done 19 = .ok (.aload_n 0, 1) := by decide +kernel
theorem dX7_done_20 : decode cX7_done 20 = .ok (.getfield 114, 3) := by decide +kernel
theorem dX7_done_23 : decode cX7_done 23 = .ok (.if_icmp .gt 7, 3) := by decide +kernel
theorem dX7_done_26 : decode cX7_done 26 = .ok (.iconst 1, 1) := by decide +kernel
theorem dX7_done_27 : decode cX7_done 27 = .ok (.goto 4, 3) := by decide +kernel
theorem dX7_done_30 : decode cX7_done 30 = .ok (.iconst 0, 1) := by decide +kernel
theorem dX7_done_31 : decode cX7_done 31 = .ok (.iadd, 1) := by decide +kernel
theorem dX7_done_32 : decode cX7_done 32 = .ok (.istore_n 1, 1) := by decide +kernel
theorem dX7_done_33 : decode cX7_done 33 = .ok (.iinc 2 1, 3) := by decide +kernel
theorem dX7_done_36 : decode cX7_done 36 = .ok (.goto (-32), 3) := by decide +kernel
theorem dX7_done_39 : decode cX7_done 39 = .ok (.iload_n 1, 1) := by decide +kernel
theorem dX7_done_40 : decode cX7_done 40 = .ok (.ireturn, 1) := by decide +kernel
theorem dX7_mostRounds_0 : decode cX7_mostRounds 0 = .ok (.iconst 0, 1) := by decide +kernel
theorem dX7_mostRounds_1 : decode cX7_mostRounds 1 = .ok (.istore_n 1, 1) := by decide +kernel
theorem dX7_mostRounds_2 : decode cX7_mostRounds 2 = .ok (.iconst 0, 1) := by decide +kernel
theorem dX7_mostRounds_3 : decode cX7_mostRounds 3 = .ok (.istore_n 2, 1) := by decide +kernel
theorem dX7_mostRounds_4 : decode cX7_mostRounds 4 = .ok (.iload_n 2, 1) := by decide +kernel
theorem dX7_mostRounds_5 : decode cX7_mostRounds 5 = .ok (.bipush 9, 2) := by decide +kernel
theorem dX7_mostRounds_7 : decode cX7_mostRounds 7 = .ok (.if_icmp .ge 34, 3) := by decide +kernel
theorem dX7_mostRounds_10 : decode cX7_mostRounds 10 = .ok (.aload_n 0, 1) := by decide +kernel
theorem dX7_mostRounds_11 : decode cX7_mostRounds 11 = .ok (.iload_n 2, 1) := by decide +kernel
theorem dX7_mostRounds_12 : decode cX7_mostRounds 12 = .ok (.invokevirtual 133, 3) := by decide +kernel
theorem dX7_mostRounds_15 : decode cX7_mostRounds 15 = .ok (.ifCond .le 18, 3) := by decide +kernel
theorem dX7_mostRounds_18 : decode cX7_mostRounds 18 = .ok (.aload_n 0, 1) := by decide +kernel
theorem dX7_mostRounds_19 : decode cX7_mostRounds 19 = .ok (.getfield 127, 3) := by decide +kernel
theorem dX7_mostRounds_22 : decode cX7_mostRounds 22 = .ok (.iload_n 1, 1) := by decide +kernel
theorem dX7_mostRounds_23 : decode cX7_mostRounds 23 = .ok (.if_icmp .le 10, 3) := by decide +kernel
theorem dX7_mostRounds_26 : decode cX7_mostRounds 26 = .ok (.aload_n 0, 1) := by decide +kernel
theorem dX7_mostRounds_27 : decode cX7_mostRounds 27 = .ok (.getfield 127, 3) := by decide +kernel
theorem dX7_mostRounds_30 : decode cX7_mostRounds 30 = .ok (.goto 4, 3) := by decide +kernel
theorem dX7_mostRounds_33 : decode cX7_mostRounds 33 = .ok (.iload_n 1, 1) := by decide +kernel
theorem dX7_mostRounds_34 : decode cX7_mostRounds 34 = .ok (.istore_n 1, 1) := by decide +kernel
theorem dX7_mostRounds_35 : decode cX7_mostRounds 35 = .ok (.iinc 2 1, 3) := by decide +kernel
theorem dX7_mostRounds_38 : decode cX7_mostRounds 38 = .ok (.goto (-34), 3) := by decide +kernel
theorem dX7_mostRounds_41 : decode cX7_mostRounds 41 = .ok (.iload_n 1, 1) := by decide +kernel
theorem dX7_mostRounds_42 : decode cX7_mostRounds 42 = .ok (.ireturn, 1) := by decide +kernel
theorem dX7_count_0 : decode cX7_count 0 = .ok (.aload_n 0, 1) := by decide +kernel
theorem dX7_count_1 : decode cX7_count 1 = .ok (.aload_n 0, 1) := by decide +kernel
theorem dX7_count_2 : decode cX7_count 2 = .ok (.getfield 114, 3) := by decide +kernel
theorem dX7_count_5 : decode cX7_count 5 = .ok (.bipush (-6), 2) := by decide +kernel
theorem dX7_count_7 : decode cX7_count 7 = .ok (.invokevirtual 89, 3) := by decide +kernel
theorem dX7_count_10 : decode cX7_count 10 = .ok (.pop, 1) := by decide +kernel
theorem dX7_count_11 : decode cX7_count 11 = .ok (.iload_n 1, 1) := by decide +kernel
theorem dX7_count_12 : decode cX7_count 12 = .ok (.tableswitch 139 0 9 #[56, 61, 66, 73, 80, 87, 92, 97, 104, 109], 56) := by decide +kernel
theorem dX7_count_68 : decode cX7_count 68 = .ok (.aload_n 0, 1) := by decide +kernel
theorem dX7_count_69 : decode cX7_count 69 = .ok (.getfield 70, 3) := by decide +kernel
theorem dX7_count_72 : decode cX7_count 72 = .ok (.ireturn, 1) := by decide +kernel
theorem dX7_count_73 : decode cX7_count 73 = .ok (.aload_n 0, 1) := by decide +kernel
theorem dX7_count_74 : decode cX7_count 74 = .ok (.getfield 114, 3) := by decide +kernel
theorem dX7_count_77 : decode cX7_count 77 = .ok (.ireturn, 1) := by decide +kernel
theorem dX7_count_78 : decode cX7_count 78 = .ok (.aload_n 0, 1) := by decide +kernel
theorem dX7_count_79 : decode cX7_count 79 = .ok (.getfield 28, 3) := by decide +kernel
theorem dX7_count_82 : decode cX7_count 82 = .ok (.iconst 0, 1) := by decide +kernel
theorem dX7_count_83 : decode cX7_count 83 = .ok (.iaload, 1) := by decide +kernel
theorem dX7_count_84 : decode cX7_count 84 = .ok (.ireturn, 1) := by decide +kernel
theorem dX7_count_85 : decode cX7_count 85 = .ok (.aload_n 0, 1) := by decide +kernel
theorem dX7_count_86 : decode cX7_count 86 = .ok (.getfield 28, 3) := by decide +kernel
theorem dX7_count_89 : decode cX7_count 89 = .ok (.iconst 1, 1) := by decide +kernel
theorem dX7_count_90 : decode cX7_count 90 = .ok (.iaload, 1) := by decide +kernel
theorem dX7_count_91 : decode cX7_count 91 = .ok (.ireturn, 1) := by decide +kernel
theorem dX7_count_92 : decode cX7_count 92 = .ok (.aload_n 0, 1) := by decide +kernel
theorem dX7_count_93 : decode cX7_count 93 = .ok (.getfield 28, 3) := by decide +kernel
theorem dX7_count_96 : decode cX7_count 96 = .ok (.iconst 2, 1) := by decide +kernel
theorem dX7_count_97 : decode cX7_count 97 = .ok (.iaload, 1) := by decide +kernel
theorem dX7_count_98 : decode cX7_count 98 = .ok (.ireturn, 1) := by decide +kernel
theorem dX7_count_99 : decode cX7_count 99 = .ok (.aload_n 0, 1) := by decide +kernel
theorem dX7_count_100 : decode cX7_count 100 = .ok (.invokevirtual 200, 3) := by decide +kernel
theorem dX7_count_103 : decode cX7_count 103 = .ok (.ireturn, 1) := by decide +kernel
theorem dX7_count_104 : decode cX7_count 104 = .ok (.aload_n 0, 1) := by decide +kernel
theorem dX7_count_105 : decode cX7_count 105 = .ok (.invokevirtual 203, 3) := by decide +kernel
theorem dX7_count_108 : decode cX7_count 108 = .ok (.ireturn, 1) := by decide +kernel
theorem dX7_count_109 : decode cX7_count 109 = .ok (.aload_n 0, 1) := by decide +kernel
theorem dX7_count_110 : decode cX7_count 110 = .ok (.bipush (-6), 2) := by decide +kernel
theorem dX7_count_112 : decode cX7_count 112 = .ok (.invokevirtual 163, 3) := by decide +kernel
theorem dX7_count_115 : decode cX7_count 115 = .ok (.ireturn, 1) := by decide +kernel
theorem dX7_count_116 : decode cX7_count 116 = .ok (.aload_n 0, 1) := by decide +kernel
theorem dX7_count_117 : decode cX7_count 117 = .ok (.invokevirtual 169, 3) := by decide +kernel
theorem dX7_count_120 : decode cX7_count 120 = .ok (.ireturn, 1) := by decide +kernel
theorem dX7_count_121 : decode cX7_count 121 = .ok (.aload_n 0, 1) := by decide +kernel
theorem dX7_count_122 : decode cX7_count 122 = .ok (.getfield 63, 3) := by decide +kernel
theorem dX7_count_125 : decode cX7_count 125 = .ok (.iconst 0, 1) := by decide +kernel
theorem dX7_count_126 : decode cX7_count 126 = .ok (.baload, 1) := by decide +kernel
theorem dX7_count_127 : decode cX7_count 127 = .ok (.ifCond .eq 7, 3) := by decide +kernel
theorem dX7_count_130 : decode cX7_count 130 = .ok (.iconst 1, 1) := by decide +kernel
theorem dX7_count_131 : decode cX7_count 131 = .ok (.goto 4, 3) := by decide +kernel
theorem dX7_count_134 : decode cX7_count 134 = .ok (.iconst 0, 1) := by decide +kernel
theorem dX7_count_135 : decode cX7_count 135 = .ok (.aload_n 0, 1) := by decide +kernel
theorem dX7_count_136 : decode cX7_count 136 = .ok (.getfield 63, 3) := by decide +kernel
theorem dX7_count_139 : decode cX7_count 139 = .ok (.iconst 1, 1) := by decide +kernel
theorem dX7_count_140 : decode cX7_count 140 = .ok (.baload, 1) := by decide +kernel
theorem dX7_count_141 : decode cX7_count 141 = .ok (.ifCond .eq 7, 3) := by decide +kernel
theorem dX7_count_144 : decode cX7_count 144 = .ok (.iconst 2, 1) := by decide +kernel
theorem dX7_count_145 : decode cX7_count 145 = .ok (.goto 4, 3) := by decide +kernel
theorem dX7_count_148 : decode cX7_count 148 = .ok (.iconst 0, 1) := by decide +kernel
theorem dX7_count_149 : decode cX7_count 149 = .ok (.iadd, 1) := by decide +kernel
theorem dX7_count_150 : decode cX7_count 150 = .ok (.ireturn, 1) := by decide +kernel
theorem dX7_count_151 : decode cX7_count 151 = .ok (.iload_n 1, 1) := by decide +kernel
theorem dX7_count_152 : decode cX7_count 152 = .ok (.bipush 10, 2) := by decide +kernel
theorem dX7_count_154 : decode cX7_count 154 = .ok (.bipush 49, 2) := by decide +kernel
theorem dX7_count_156 : decode cX7_count 156 = .ok (.invokestatic 66, 3) := by decide +kernel
theorem dX7_count_159 : decode cX7_count 159 = .ok (.ifCond .eq 14, 3) := by decide +kernel
theorem dX7_count_162 : decode cX7_count 162 = .ok (.aload_n 0, 1) := by decide +kernel
theorem dX7_count_163 : decode cX7_count 163 = .ok (.iload_n 1, 1) := by decide +kernel
theorem dX7_count_164 : decode cX7_count 164 = .ok (.bipush 10, 2) := by decide +kernel
theorem dX7_count_166 : decode cX7_count 166 = .ok (.isub, 1) := by decide +kernel
theorem dX7_count_167 : decode cX7_count 167 = .ok (.invokevirtual 206, 3) := by decide +kernel
theorem dX7_count_170 : decode cX7_count 170 = .ok (.goto 5, 3) := by decide +kernel
theorem dX7_count_173 : decode cX7_count 173 = .ok (.bipush (-2), 2) := by decide +kernel
theorem dX7_count_175 : decode cX7_count 175 = .ok (.ireturn, 1) := by decide +kernel
end
section
theorem dL_law_0 : decode cL_law 0 = .ok (.new 7, 3) := by decide +kernel
theorem dL_law_3 : decode cL_law 3 = .ok (.dup, 1) := by decide +kernel
theorem dL_law_4 : decode cL_law 4 = .ok (.invokespecial 9, 3) := by decide +kernel
theorem dL_law_7 : decode cL_law 7 = .ok (.astore_n 1, 1) := by decide +kernel
theorem dL_law_8 : decode cL_law 8 = .ok (.new 10, 3) := by decide +kernel
theorem dL_law_11 : decode cL_law 11 = .ok (.dup, 1) := by decide +kernel
theorem dL_law_12 : decode cL_law 12 = .ok (.invokespecial 12, 3) := by decide +kernel
theorem dL_law_15 : decode cL_law 15 = .ok (.astore_n 2, 1) := by decide +kernel
theorem dL_law_16 : decode cL_law 16 = .ok (.iconst 0, 1) := by decide +kernel
theorem dL_law_17 : decode cL_law 17 = .ok (.istore_n 3, 1) := by decide +kernel
theorem dL_law_18 : decode cL_law 18 = .ok (.iload_n 3, 1) := by decide +kernel
theorem dL_law_19 : decode cL_law 19 = .ok (.aload_n 0, 1) := by decide +kernel
theorem dL_law_20 : decode cL_law 20 = .ok (.arraylength, 1) := by decide +kernel
theorem dL_law_21 : decode cL_law 21 = .ok (.bipush 6, 2) := by decide +kernel
theorem dL_law_23 : decode cL_law 23 = .ok (.isub, 1) := by decide +kernel
theorem dL_law_24 : decode cL_law 24 = .ok (.if_icmp .gt 896, 3) := by decide +kernel
theorem dL_law_27 : decode cL_law 27 = .ok (.aload_n 0, 1) := by decide +kernel
theorem dL_law_28 : decode cL_law 28 = .ok (.iload_n 3, 1) := by decide +kernel
theorem dL_law_29 : decode cL_law 29 = .ok (.iaload, 1) := by decide +kernel
theorem dL_law_30 : decode cL_law 30 = .ok (.bipush 31, 2) := by decide +kernel
theorem dL_law_32 : decode cL_law 32 = .ok (.iand, 1) := by decide +kernel
theorem dL_law_33 : decode cL_law 33 = .ok (.tableswitch 881 0 21 #[103, 166, 229, 282, 305, 338, 361, 394, 437, 460, 503, 536, 579, 622, 655, 699, 733, 766, 789, 812, 835, 858], 103) := by decide +kernel
theorem dL_law_136 : decode cL_law 136 = .ok (.aload_n 1, 1) := by decide +kernel
theorem dL_law_137 : decode cL_law 137 = .ok (.aload_n 0, 1) := by decide +kernel
theorem dL_law_138 : decode cL_law 138 = .ok (.iload_n 3, 1) := by decide +kernel
theorem dL_law_139 : decode cL_law 139 = .ok (.iconst 1, 1) := by decide +kernel
theorem dL_law_140 : decode cL_law 140 = .ok (.iadd, 1) := by decide +kernel
theorem dL_law_141 : decode cL_law 141 = .ok (.iaload, 1) := by decide +kernel
theorem dL_law_142 : decode cL_law 142 = .ok (.aload_n 0, 1) := by decide +kernel
theorem dL_law_143 : decode cL_law 143 = .ok (.iload_n 3, 1) := by decide +kernel
theorem dL_law_144 : decode cL_law 144 = .ok (.iconst 2, 1) := by decide +kernel
theorem dL_law_145 : decode cL_law 145 = .ok (.iadd, 1) := by decide +kernel
theorem dL_law_146 : decode cL_law 146 = .ok (.iaload, 1) := by decide +kernel
theorem dL_law_147 : decode cL_law 147 = .ok (.aload_n 0, 1) := by decide +kernel
theorem dL_law_148 : decode cL_law 148 = .ok (.iload_n 3, 1) := by decide +kernel
theorem dL_law_149 : decode cL_law 149 = .ok (.iconst 3, 1) := by decide +kernel
theorem dL_law_150 : decode cL_law 150 = .ok (.iadd, 1) := by decide +kernel
theorem dL_law_151 : decode cL_law 151 = .ok (.iaload, 1) := by decide +kernel
theorem dL_law_152 : decode cL_law 152 = .ok (.aload_n 0, 1) := by decide +kernel
theorem dL_law_153 : decode cL_law 153 = .ok (.iload_n 3, 1) := by decide +kernel
theorem dL_law_154 : decode cL_law 154 = .ok (.iconst 4, 1) := by decide +kernel
theorem dL_law_155 : decode cL_law 155 = .ok (.iadd, 1) := by decide +kernel
theorem dL_law_156 : decode cL_law 156 = .ok (.iaload, 1) := by decide +kernel
theorem dL_law_157 : decode cL_law 157 = .ok (.aload_n 0, 1) := by decide +kernel
theorem dL_law_158 : decode cL_law 158 = .ok (.iload_n 3, 1) := by decide +kernel
theorem dL_law_159 : decode cL_law 159 = .ok (.iconst 5, 1) := by decide +kernel
theorem dL_law_160 : decode cL_law 160 = .ok (.iadd, 1) := by decide +kernel
theorem dL_law_161 : decode cL_law 161 = .ok (.iaload, 1) := by decide +kernel
theorem dL_law_162 : decode cL_law 162 = .ok (.invokevirtual 13, 3) := by decide +kernel
theorem dL_law_165 : decode cL_law 165 = .ok (.aload_n 2, 1) := by decide +kernel
theorem dL_law_166 : decode cL_law 166 = .ok (.aload_n 0, 1) := by decide +kernel
theorem dL_law_167 : decode cL_law 167 = .ok (.iload_n 3, 1) := by decide +kernel
theorem dL_law_168 : decode cL_law 168 = .ok (.iconst 1, 1) := by decide +kernel
theorem dL_law_169 : decode cL_law 169 = .ok (.iadd, 1) := by decide +kernel
theorem dL_law_170 : decode cL_law 170 = .ok (.iaload, 1) := by decide +kernel
theorem dL_law_171 : decode cL_law 171 = .ok (.aload_n 0, 1) := by decide +kernel
theorem dL_law_172 : decode cL_law 172 = .ok (.iload_n 3, 1) := by decide +kernel
theorem dL_law_173 : decode cL_law 173 = .ok (.iconst 2, 1) := by decide +kernel
theorem dL_law_174 : decode cL_law 174 = .ok (.iadd, 1) := by decide +kernel
theorem dL_law_175 : decode cL_law 175 = .ok (.iaload, 1) := by decide +kernel
theorem dL_law_176 : decode cL_law 176 = .ok (.aload_n 0, 1) := by decide +kernel
theorem dL_law_177 : decode cL_law 177 = .ok (.iload_n 3, 1) := by decide +kernel
theorem dL_law_178 : decode cL_law 178 = .ok (.iconst 3, 1) := by decide +kernel
theorem dL_law_179 : decode cL_law 179 = .ok (.iadd, 1) := by decide +kernel
theorem dL_law_180 : decode cL_law 180 = .ok (.iaload, 1) := by decide +kernel
theorem dL_law_181 : decode cL_law 181 = .ok (.aload_n 0, 1) := by decide +kernel
theorem dL_law_182 : decode cL_law 182 = .ok (.iload_n 3, 1) := by decide +kernel
theorem dL_law_183 : decode cL_law 183 = .ok (.iconst 4, 1) := by decide +kernel
theorem dL_law_184 : decode cL_law 184 = .ok (.iadd, 1) := by decide +kernel
theorem dL_law_185 : decode cL_law 185 = .ok (.iaload, 1) := by decide +kernel
theorem dL_law_186 : decode cL_law 186 = .ok (.aload_n 0, 1) := by decide +kernel
theorem dL_law_187 : decode cL_law 187 = .ok (.iload_n 3, 1) := by decide +kernel
theorem dL_law_188 : decode cL_law 188 = .ok (.iconst 5, 1) := by decide +kernel
theorem dL_law_189 : decode cL_law 189 = .ok (.iadd, 1) := by decide +kernel
theorem dL_law_190 : decode cL_law 190 = .ok (.iaload, 1) := by decide +kernel
theorem dL_law_191 : decode cL_law 191 = .ok (.invokevirtual 17, 3) := by decide +kernel
theorem dL_law_194 : decode cL_law 194 = .ok (.if_icmp .eq 720, 3) := by decide +kernel
theorem dL_law_197 : decode cL_law 197 = .ok (.iconst 0, 1) := by decide +kernel
theorem dL_law_198 : decode cL_law 198 = .ok (.ireturn, 1) := by decide +kernel
theorem dL_law_199 : decode cL_law 199 = .ok (.aload_n 1, 1) := by decide +kernel
theorem dL_law_200 : decode cL_law 200 = .ok (.aload_n 0, 1) := by decide +kernel
theorem dL_law_201 : decode cL_law 201 = .ok (.iload_n 3, 1) := by decide +kernel
theorem dL_law_202 : decode cL_law 202 = .ok (.iconst 1, 1) := by decide +kernel
theorem dL_law_203 : decode cL_law 203 = .ok (.iadd, 1) := by decide +kernel
theorem dL_law_204 : decode cL_law 204 = .ok (.iaload, 1) := by decide +kernel
theorem dL_law_205 : decode cL_law 205 = .ok (.aload_n 0, 1) := by decide +kernel
theorem dL_law_206 : decode cL_law 206 = .ok (.iload_n 3, 1) := by decide +kernel
theorem dL_law_207 : decode cL_law 207 = .ok (.iconst 2, 1) := by decide +kernel
theorem dL_law_208 : decode cL_law 208 = .ok (.iadd, 1) := by decide +kernel
theorem dL_law_209 : decode cL_law 209 = .ok (.iaload, 1) := by decide +kernel
theorem dL_law_210 : decode cL_law 210 = .ok (.aload_n 0, 1) := by decide +kernel
theorem dL_law_211 : decode cL_law 211 = .ok (.iload_n 3, 1) := by decide +kernel
theorem dL_law_212 : decode cL_law 212 = .ok (.iconst 3, 1) := by decide +kernel
theorem dL_law_213 : decode cL_law 213 = .ok (.iadd, 1) := by decide +kernel
theorem dL_law_214 : decode cL_law 214 = .ok (.iaload, 1) := by decide +kernel
theorem dL_law_215 : decode cL_law 215 = .ok (.aload_n 0, 1) := by decide +kernel
theorem dL_law_216 : decode cL_law 216 = .ok (.iload_n 3, 1) := by decide +kernel
theorem dL_law_217 : decode cL_law 217 = .ok (.iconst 4, 1) := by decide +kernel
theorem dL_law_218 : decode cL_law 218 = .ok (.iadd, 1) := by decide +kernel
theorem dL_law_219 : decode cL_law 219 = .ok (.iaload, 1) := by decide +kernel
theorem dL_law_220 : decode cL_law 220 = .ok (.aload_n 0, 1) := by decide +kernel
theorem dL_law_221 : decode cL_law 221 = .ok (.iload_n 3, 1) := by decide +kernel
theorem dL_law_222 : decode cL_law 222 = .ok (.iconst 5, 1) := by decide +kernel
theorem dL_law_223 : decode cL_law 223 = .ok (.iadd, 1) := by decide +kernel
theorem dL_law_224 : decode cL_law 224 = .ok (.iaload, 1) := by decide +kernel
theorem dL_law_225 : decode cL_law 225 = .ok (.invokevirtual 18, 3) := by decide +kernel
theorem dL_law_228 : decode cL_law 228 = .ok (.aload_n 2, 1) := by decide +kernel
theorem dL_law_229 : decode cL_law 229 = .ok (.aload_n 0, 1) := by decide +kernel
theorem dL_law_230 : decode cL_law 230 = .ok (.iload_n 3, 1) := by decide +kernel
theorem dL_law_231 : decode cL_law 231 = .ok (.iconst 1, 1) := by decide +kernel
theorem dL_law_232 : decode cL_law 232 = .ok (.iadd, 1) := by decide +kernel
theorem dL_law_233 : decode cL_law 233 = .ok (.iaload, 1) := by decide +kernel
theorem dL_law_234 : decode cL_law 234 = .ok (.aload_n 0, 1) := by decide +kernel
theorem dL_law_235 : decode cL_law 235 = .ok (.iload_n 3, 1) := by decide +kernel
theorem dL_law_236 : decode cL_law 236 = .ok (.iconst 2, 1) := by decide +kernel
theorem dL_law_237 : decode cL_law 237 = .ok (.iadd, 1) := by decide +kernel
theorem dL_law_238 : decode cL_law 238 = .ok (.iaload, 1) := by decide +kernel
theorem dL_law_239 : decode cL_law 239 = .ok (.aload_n 0, 1) := by decide +kernel
theorem dL_law_240 : decode cL_law 240 = .ok (.iload_n 3, 1) := by decide +kernel
theorem dL_law_241 : decode cL_law 241 = .ok (.iconst 3, 1) := by decide +kernel
theorem dL_law_242 : decode cL_law 242 = .ok (.iadd, 1) := by decide +kernel
theorem dL_law_243 : decode cL_law 243 = .ok (.iaload, 1) := by decide +kernel
theorem dL_law_244 : decode cL_law 244 = .ok (.aload_n 0, 1) := by decide +kernel
theorem dL_law_245 : decode cL_law 245 = .ok (.iload_n 3, 1) := by decide +kernel
theorem dL_law_246 : decode cL_law 246 = .ok (.iconst 4, 1) := by decide +kernel
theorem dL_law_247 : decode cL_law 247 = .ok (.iadd, 1) := by decide +kernel
theorem dL_law_248 : decode cL_law 248 = .ok (.iaload, 1) := by decide +kernel
theorem dL_law_249 : decode cL_law 249 = .ok (.aload_n 0, 1) := by decide +kernel
theorem dL_law_250 : decode cL_law 250 = .ok (.iload_n 3, 1) := by decide +kernel
theorem dL_law_251 : decode cL_law 251 = .ok (.iconst 5, 1) := by decide +kernel
theorem dL_law_252 : decode cL_law 252 = .ok (.iadd, 1) := by decide +kernel
theorem dL_law_253 : decode cL_law 253 = .ok (.iaload, 1) := by decide +kernel
theorem dL_law_254 : decode cL_law 254 = .ok (.invokevirtual 21, 3) := by decide +kernel
theorem dL_law_257 : decode cL_law 257 = .ok (.if_icmp .eq 657, 3) := by decide +kernel
theorem dL_law_260 : decode cL_law 260 = .ok (.iconst 0, 1) := by decide +kernel
theorem dL_law_261 : decode cL_law 261 = .ok (.ireturn, 1) := by decide +kernel
theorem dL_law_262 : decode cL_law 262 = .ok (.aload_n 1, 1) := by decide +kernel
theorem dL_law_263 : decode cL_law 263 = .ok (.aload_n 0, 1) := by decide +kernel
theorem dL_law_264 : decode cL_law 264 = .ok (.iload_n 3, 1) := by decide +kernel
theorem dL_law_265 : decode cL_law 265 = .ok (.iconst 1, 1) := by decide +kernel
theorem dL_law_266 : decode cL_law 266 = .ok (.iadd, 1) := by decide +kernel
theorem dL_law_267 : decode cL_law 267 = .ok (.iaload, 1) := by decide +kernel
theorem dL_law_268 : decode cL_law 268 = .ok (.aload_n 0, 1) := by decide +kernel
theorem dL_law_269 : decode cL_law 269 = .ok (.iload_n 3, 1) := by decide +kernel
theorem dL_law_270 : decode cL_law 270 = .ok (.iconst 2, 1) := by decide +kernel
theorem dL_law_271 : decode cL_law 271 = .ok (.iadd, 1) := by decide +kernel
theorem dL_law_272 : decode cL_law 272 = .ok (.iaload, 1) := by decide +kernel
theorem dL_law_273 : decode cL_law 273 = .ok (.aload_n 0, 1) := by decide +kernel
theorem dL_law_274 : decode cL_law 274 = .ok (.iload_n 3, 1) := by decide +kernel
theorem dL_law_275 : decode cL_law 275 = .ok (.iconst 3, 1) := by decide +kernel
theorem dL_law_276 : decode cL_law 276 = .ok (.iadd, 1) := by decide +kernel
theorem dL_law_277 : decode cL_law 277 = .ok (.iaload, 1) := by decide +kernel
theorem dL_law_278 : decode cL_law 278 = .ok (.aload_n 0, 1) := by decide +kernel
theorem dL_law_279 : decode cL_law 279 = .ok (.iload_n 3, 1) := by decide +kernel
theorem dL_law_280 : decode cL_law 280 = .ok (.iconst 4, 1) := by decide +kernel
theorem dL_law_281 : decode cL_law 281 = .ok (.iadd, 1) := by decide +kernel
theorem dL_law_282 : decode cL_law 282 = .ok (.iaload, 1) := by decide +kernel
theorem dL_law_283 : decode cL_law 283 = .ok (.invokevirtual 22, 3) := by decide +kernel
theorem dL_law_286 : decode cL_law 286 = .ok (.aload_n 2, 1) := by decide +kernel
theorem dL_law_287 : decode cL_law 287 = .ok (.aload_n 0, 1) := by decide +kernel
theorem dL_law_288 : decode cL_law 288 = .ok (.iload_n 3, 1) := by decide +kernel
theorem dL_law_289 : decode cL_law 289 = .ok (.iconst 1, 1) := by decide +kernel
theorem dL_law_290 : decode cL_law 290 = .ok (.iadd, 1) := by decide +kernel
theorem dL_law_291 : decode cL_law 291 = .ok (.iaload, 1) := by decide +kernel
theorem dL_law_292 : decode cL_law 292 = .ok (.aload_n 0, 1) := by decide +kernel
theorem dL_law_293 : decode cL_law 293 = .ok (.iload_n 3, 1) := by decide +kernel
theorem dL_law_294 : decode cL_law 294 = .ok (.iconst 2, 1) := by decide +kernel
theorem dL_law_295 : decode cL_law 295 = .ok (.iadd, 1) := by decide +kernel
theorem dL_law_296 : decode cL_law 296 = .ok (.iaload, 1) := by decide +kernel
theorem dL_law_297 : decode cL_law 297 = .ok (.aload_n 0, 1) := by decide +kernel
theorem dL_law_298 : decode cL_law 298 = .ok (.iload_n 3, 1) := by decide +kernel
theorem dL_law_299 : decode cL_law 299 = .ok (.iconst 3, 1) := by decide +kernel
theorem dL_law_300 : decode cL_law 300 = .ok (.iadd, 1) := by decide +kernel
theorem dL_law_301 : decode cL_law 301 = .ok (.iaload, 1) := by decide +kernel
theorem dL_law_302 : decode cL_law 302 = .ok (.aload_n 0, 1) := by decide +kernel
theorem dL_law_303 : decode cL_law 303 = .ok (.iload_n 3, 1) := by decide +kernel
theorem dL_law_304 : decode cL_law 304 = .ok (.iconst 4, 1) := by decide +kernel
theorem dL_law_305 : decode cL_law 305 = .ok (.iadd, 1) := by decide +kernel
theorem dL_law_306 : decode cL_law 306 = .ok (.iaload, 1) := by decide +kernel
theorem dL_law_307 : decode cL_law 307 = .ok (.invokevirtual 26, 3) := by decide +kernel
theorem dL_law_310 : decode cL_law 310 = .ok (.if_icmp .eq 604, 3) := by decide +kernel
theorem dL_law_313 : decode cL_law 313 = .ok (.iconst 0, 1) := by decide +kernel
theorem dL_law_314 : decode cL_law 314 = .ok (.ireturn, 1) := by decide +kernel
theorem dL_law_315 : decode cL_law 315 = .ok (.aload_n 1, 1) := by decide +kernel
theorem dL_law_316 : decode cL_law 316 = .ok (.aload_n 0, 1) := by decide +kernel
theorem dL_law_317 : decode cL_law 317 = .ok (.iload_n 3, 1) := by decide +kernel
theorem dL_law_318 : decode cL_law 318 = .ok (.iconst 1, 1) := by decide +kernel
theorem dL_law_319 : decode cL_law 319 = .ok (.iadd, 1) := by decide +kernel
theorem dL_law_320 : decode cL_law 320 = .ok (.iaload, 1) := by decide +kernel
theorem dL_law_321 : decode cL_law 321 = .ok (.invokevirtual 27, 3) := by decide +kernel
theorem dL_law_324 : decode cL_law 324 = .ok (.aload_n 2, 1) := by decide +kernel
theorem dL_law_325 : decode cL_law 325 = .ok (.aload_n 0, 1) := by decide +kernel
theorem dL_law_326 : decode cL_law 326 = .ok (.iload_n 3, 1) := by decide +kernel
theorem dL_law_327 : decode cL_law 327 = .ok (.iconst 1, 1) := by decide +kernel
theorem dL_law_328 : decode cL_law 328 = .ok (.iadd, 1) := by decide +kernel
theorem dL_law_329 : decode cL_law 329 = .ok (.iaload, 1) := by decide +kernel
theorem dL_law_330 : decode cL_law 330 = .ok (.invokevirtual 31, 3) := by decide +kernel
theorem dL_law_333 : decode cL_law 333 = .ok (.if_icmp .eq 581, 3) := by decide +kernel
theorem dL_law_336 : decode cL_law 336 = .ok (.iconst 0, 1) := by decide +kernel
theorem dL_law_337 : decode cL_law 337 = .ok (.ireturn, 1) := by decide +kernel
theorem dL_law_338 : decode cL_law 338 = .ok (.aload_n 1, 1) := by decide +kernel
theorem dL_law_339 : decode cL_law 339 = .ok (.aload_n 0, 1) := by decide +kernel
theorem dL_law_340 : decode cL_law 340 = .ok (.iload_n 3, 1) := by decide +kernel
theorem dL_law_341 : decode cL_law 341 = .ok (.iconst 1, 1) := by decide +kernel
theorem dL_law_342 : decode cL_law 342 = .ok (.iadd, 1) := by decide +kernel
theorem dL_law_343 : decode cL_law 343 = .ok (.iaload, 1) := by decide +kernel
theorem dL_law_344 : decode cL_law 344 = .ok (.aload_n 0, 1) := by decide +kernel
theorem dL_law_345 : decode cL_law 345 = .ok (.iload_n 3, 1) := by decide +kernel
theorem dL_law_346 : decode cL_law 346 = .ok (.iconst 2, 1) := by decide +kernel
theorem dL_law_347 : decode cL_law 347 = .ok (.iadd, 1) := by decide +kernel
theorem dL_law_348 : decode cL_law 348 = .ok (.iaload, 1) := by decide +kernel
theorem dL_law_349 : decode cL_law 349 = .ok (.invokevirtual 32, 3) := by decide +kernel
theorem dL_law_352 : decode cL_law 352 = .ok (.aload_n 2, 1) := by decide +kernel
theorem dL_law_353 : decode cL_law 353 = .ok (.aload_n 0, 1) := by decide +kernel
theorem dL_law_354 : decode cL_law 354 = .ok (.iload_n 3, 1) := by decide +kernel
theorem dL_law_355 : decode cL_law 355 = .ok (.iconst 1, 1) := by decide +kernel
theorem dL_law_356 : decode cL_law 356 = .ok (.iadd, 1) := by decide +kernel
theorem dL_law_357 : decode cL_law 357 = .ok (.iaload, 1) := by decide +kernel
theorem dL_law_358 : decode cL_law 358 = .ok (.aload_n 0, 1) := by decide +kernel
theorem dL_law_359 : decode cL_law 359 = .ok (.iload_n 3, 1) := by decide +kernel
theorem dL_law_360 : decode cL_law 360 = .ok (.iconst 2, 1) := by decide +kernel
theorem dL_law_361 : decode cL_law 361 = .ok (.iadd, 1) := by decide +kernel
theorem dL_law_362 : decode cL_law 362 = .ok (.iaload, 1) := by decide +kernel
theorem dL_law_363 : decode cL_law 363 = .ok (.invokevirtual 36, 3) := by decide +kernel
theorem dL_law_366 : decode cL_law 366 = .ok (.if_icmp .eq 548, 3) := by decide +kernel
theorem dL_law_369 : decode cL_law 369 = .ok (.iconst 0, 1) := by decide +kernel
theorem dL_law_370 : decode cL_law 370 = .ok (.ireturn, 1) := by decide +kernel
theorem dL_law_371 : decode cL_law 371 = .ok (.aload_n 1, 1) := by decide +kernel
theorem dL_law_372 : decode cL_law 372 = .ok (.aload_n 0, 1) := by decide +kernel
theorem dL_law_373 : decode cL_law 373 = .ok (.iload_n 3, 1) := by decide +kernel
theorem dL_law_374 : decode cL_law 374 = .ok (.iconst 1, 1) := by decide +kernel
theorem dL_law_375 : decode cL_law 375 = .ok (.iadd, 1) := by decide +kernel
theorem dL_law_376 : decode cL_law 376 = .ok (.iaload, 1) := by decide +kernel
theorem dL_law_377 : decode cL_law 377 = .ok (.invokevirtual 37, 3) := by decide +kernel
theorem dL_law_380 : decode cL_law 380 = .ok (.aload_n 2, 1) := by decide +kernel
theorem dL_law_381 : decode cL_law 381 = .ok (.aload_n 0, 1) := by decide +kernel
theorem dL_law_382 : decode cL_law 382 = .ok (.iload_n 3, 1) := by decide +kernel
theorem dL_law_383 : decode cL_law 383 = .ok (.iconst 1, 1) := by decide +kernel
theorem dL_law_384 : decode cL_law 384 = .ok (.iadd, 1) := by decide +kernel
theorem dL_law_385 : decode cL_law 385 = .ok (.iaload, 1) := by decide +kernel
theorem dL_law_386 : decode cL_law 386 = .ok (.invokevirtual 40, 3) := by decide +kernel
theorem dL_law_389 : decode cL_law 389 = .ok (.if_icmp .eq 525, 3) := by decide +kernel
theorem dL_law_392 : decode cL_law 392 = .ok (.iconst 0, 1) := by decide +kernel
theorem dL_law_393 : decode cL_law 393 = .ok (.ireturn, 1) := by decide +kernel
theorem dL_law_394 : decode cL_law 394 = .ok (.aload_n 1, 1) := by decide +kernel
theorem dL_law_395 : decode cL_law 395 = .ok (.aload_n 0, 1) := by decide +kernel
theorem dL_law_396 : decode cL_law 396 = .ok (.iload_n 3, 1) := by decide +kernel
theorem dL_law_397 : decode cL_law 397 = .ok (.iconst 1, 1) := by decide +kernel
theorem dL_law_398 : decode cL_law 398 = .ok (.iadd, 1) := by decide +kernel
theorem dL_law_399 : decode cL_law 399 = .ok (.iaload, 1) := by decide +kernel
theorem dL_law_400 : decode cL_law 400 = .ok (.aload_n 0, 1) := by decide +kernel
theorem dL_law_401 : decode cL_law 401 = .ok (.iload_n 3, 1) := by decide +kernel
theorem dL_law_402 : decode cL_law 402 = .ok (.iconst 2, 1) := by decide +kernel
theorem dL_law_403 : decode cL_law 403 = .ok (.iadd, 1) := by decide +kernel
theorem dL_law_404 : decode cL_law 404 = .ok (.iaload, 1) := by decide +kernel
theorem dL_law_405 : decode cL_law 405 = .ok (.invokevirtual 41, 3) := by decide +kernel
theorem dL_law_408 : decode cL_law 408 = .ok (.aload_n 2, 1) := by decide +kernel
theorem dL_law_409 : decode cL_law 409 = .ok (.aload_n 0, 1) := by decide +kernel
theorem dL_law_410 : decode cL_law 410 = .ok (.iload_n 3, 1) := by decide +kernel
theorem dL_law_411 : decode cL_law 411 = .ok (.iconst 1, 1) := by decide +kernel
theorem dL_law_412 : decode cL_law 412 = .ok (.iadd, 1) := by decide +kernel
theorem dL_law_413 : decode cL_law 413 = .ok (.iaload, 1) := by decide +kernel
theorem dL_law_414 : decode cL_law 414 = .ok (.aload_n 0, 1) := by decide +kernel
theorem dL_law_415 : decode cL_law 415 = .ok (.iload_n 3, 1) := by decide +kernel
theorem dL_law_416 : decode cL_law 416 = .ok (.iconst 2, 1) := by decide +kernel
theorem dL_law_417 : decode cL_law 417 = .ok (.iadd, 1) := by decide +kernel
theorem dL_law_418 : decode cL_law 418 = .ok (.iaload, 1) := by decide +kernel
theorem dL_law_419 : decode cL_law 419 = .ok (.invokevirtual 44, 3) := by decide +kernel
theorem dL_law_422 : decode cL_law 422 = .ok (.if_icmp .eq 492, 3) := by decide +kernel
theorem dL_law_425 : decode cL_law 425 = .ok (.iconst 0, 1) := by decide +kernel
theorem dL_law_426 : decode cL_law 426 = .ok (.ireturn, 1) := by decide +kernel
theorem dL_law_427 : decode cL_law 427 = .ok (.aload_n 1, 1) := by decide +kernel
theorem dL_law_428 : decode cL_law 428 = .ok (.aload_n 0, 1) := by decide +kernel
theorem dL_law_429 : decode cL_law 429 = .ok (.iload_n 3, 1) := by decide +kernel
theorem dL_law_430 : decode cL_law 430 = .ok (.iconst 1, 1) := by decide +kernel
theorem dL_law_431 : decode cL_law 431 = .ok (.iadd, 1) := by decide +kernel
theorem dL_law_432 : decode cL_law 432 = .ok (.iaload, 1) := by decide +kernel
theorem dL_law_433 : decode cL_law 433 = .ok (.aload_n 0, 1) := by decide +kernel
theorem dL_law_434 : decode cL_law 434 = .ok (.iload_n 3, 1) := by decide +kernel
theorem dL_law_435 : decode cL_law 435 = .ok (.iconst 2, 1) := by decide +kernel
theorem dL_law_436 : decode cL_law 436 = .ok (.iadd, 1) := by decide +kernel
theorem dL_law_437 : decode cL_law 437 = .ok (.iaload, 1) := by decide +kernel
theorem dL_law_438 : decode cL_law 438 = .ok (.aload_n 0, 1) := by decide +kernel
theorem dL_law_439 : decode cL_law 439 = .ok (.iload_n 3, 1) := by decide +kernel
theorem dL_law_440 : decode cL_law 440 = .ok (.iconst 3, 1) := by decide +kernel
theorem dL_law_441 : decode cL_law 441 = .ok (.iadd, 1) := by decide +kernel
theorem dL_law_442 : decode cL_law 442 = .ok (.iaload, 1) := by decide +kernel
theorem dL_law_443 : decode cL_law 443 = .ok (.invokevirtual 45, 3) := by decide +kernel
theorem dL_law_446 : decode cL_law 446 = .ok (.aload_n 2, 1) := by decide +kernel
theorem dL_law_447 : decode cL_law 447 = .ok (.aload_n 0, 1) := by decide +kernel
theorem dL_law_448 : decode cL_law 448 = .ok (.iload_n 3, 1) := by decide +kernel
theorem dL_law_449 : decode cL_law 449 = .ok (.iconst 1, 1) := by decide +kernel
theorem dL_law_450 : decode cL_law 450 = .ok (.iadd, 1) := by decide +kernel
theorem dL_law_451 : decode cL_law 451 = .ok (.iaload, 1) := by decide +kernel
theorem dL_law_452 : decode cL_law 452 = .ok (.aload_n 0, 1) := by decide +kernel
theorem dL_law_453 : decode cL_law 453 = .ok (.iload_n 3, 1) := by decide +kernel
theorem dL_law_454 : decode cL_law 454 = .ok (.iconst 2, 1) := by decide +kernel
theorem dL_law_455 : decode cL_law 455 = .ok (.iadd, 1) := by decide +kernel
theorem dL_law_456 : decode cL_law 456 = .ok (.iaload, 1) := by decide +kernel
theorem dL_law_457 : decode cL_law 457 = .ok (.aload_n 0, 1) := by decide +kernel
theorem dL_law_458 : decode cL_law 458 = .ok (.iload_n 3, 1) := by decide +kernel
theorem dL_law_459 : decode cL_law 459 = .ok (.iconst 3, 1) := by decide +kernel
theorem dL_law_460 : decode cL_law 460 = .ok (.iadd, 1) := by decide +kernel
theorem dL_law_461 : decode cL_law 461 = .ok (.iaload, 1) := by decide +kernel
theorem dL_law_462 : decode cL_law 462 = .ok (.invokevirtual 49, 3) := by decide +kernel
theorem dL_law_465 : decode cL_law 465 = .ok (.if_icmp .eq 449, 3) := by decide +kernel
theorem dL_law_468 : decode cL_law 468 = .ok (.iconst 0, 1) := by decide +kernel
theorem dL_law_469 : decode cL_law 469 = .ok (.ireturn, 1) := by decide +kernel
theorem dL_law_470 : decode cL_law 470 = .ok (.aload_n 1, 1) := by decide +kernel
theorem dL_law_471 : decode cL_law 471 = .ok (.aload_n 0, 1) := by decide +kernel
theorem dL_law_472 : decode cL_law 472 = .ok (.iload_n 3, 1) := by decide +kernel
theorem dL_law_473 : decode cL_law 473 = .ok (.iconst 1, 1) := by decide +kernel
theorem dL_law_474 : decode cL_law 474 = .ok (.iadd, 1) := by decide +kernel
theorem dL_law_475 : decode cL_law 475 = .ok (.iaload, 1) := by decide +kernel
theorem dL_law_476 : decode cL_law 476 = .ok (.invokevirtual 50, 3) := by decide +kernel
theorem dL_law_479 : decode cL_law 479 = .ok (.aload_n 2, 1) := by decide +kernel
theorem dL_law_480 : decode cL_law 480 = .ok (.aload_n 0, 1) := by decide +kernel
theorem dL_law_481 : decode cL_law 481 = .ok (.iload_n 3, 1) := by decide +kernel
theorem dL_law_482 : decode cL_law 482 = .ok (.iconst 1, 1) := by decide +kernel
theorem dL_law_483 : decode cL_law 483 = .ok (.iadd, 1) := by decide +kernel
theorem dL_law_484 : decode cL_law 484 = .ok (.iaload, 1) := by decide +kernel
theorem dL_law_485 : decode cL_law 485 = .ok (.invokevirtual 53, 3) := by decide +kernel
theorem dL_law_488 : decode cL_law 488 = .ok (.if_icmp .eq 426, 3) := by decide +kernel
theorem dL_law_491 : decode cL_law 491 = .ok (.iconst 0, 1) := by decide +kernel
theorem dL_law_492 : decode cL_law 492 = .ok (.ireturn, 1) := by decide +kernel
theorem dL_law_493 : decode cL_law 493 = .ok (.aload_n 1, 1) := by decide +kernel
theorem dL_law_494 : decode cL_law 494 = .ok (.aload_n 0, 1) := by decide +kernel
theorem dL_law_495 : decode cL_law 495 = .ok (.iload_n 3, 1) := by decide +kernel
theorem dL_law_496 : decode cL_law 496 = .ok (.iconst 1, 1) := by decide +kernel
theorem dL_law_497 : decode cL_law 497 = .ok (.iadd, 1) := by decide +kernel
theorem dL_law_498 : decode cL_law 498 = .ok (.iaload, 1) := by decide +kernel
theorem dL_law_499 : decode cL_law 499 = .ok (.aload_n 0, 1) := by decide +kernel
theorem dL_law_500 : decode cL_law 500 = .ok (.iload_n 3, 1) := by decide +kernel
theorem dL_law_501 : decode cL_law 501 = .ok (.iconst 2, 1) := by decide +kernel
theorem dL_law_502 : decode cL_law 502 = .ok (.iadd, 1) := by decide +kernel
theorem dL_law_503 : decode cL_law 503 = .ok (.iaload, 1) := by decide +kernel
theorem dL_law_504 : decode cL_law 504 = .ok (.aload_n 0, 1) := by decide +kernel
theorem dL_law_505 : decode cL_law 505 = .ok (.iload_n 3, 1) := by decide +kernel
theorem dL_law_506 : decode cL_law 506 = .ok (.iconst 3, 1) := by decide +kernel
theorem dL_law_507 : decode cL_law 507 = .ok (.iadd, 1) := by decide +kernel
theorem dL_law_508 : decode cL_law 508 = .ok (.iaload, 1) := by decide +kernel
theorem dL_law_509 : decode cL_law 509 = .ok (.invokevirtual 54, 3) := by decide +kernel
theorem dL_law_512 : decode cL_law 512 = .ok (.aload_n 2, 1) := by decide +kernel
theorem dL_law_513 : decode cL_law 513 = .ok (.aload_n 0, 1) := by decide +kernel
theorem dL_law_514 : decode cL_law 514 = .ok (.iload_n 3, 1) := by decide +kernel
theorem dL_law_515 : decode cL_law 515 = .ok (.iconst 1, 1) := by decide +kernel
theorem dL_law_516 : decode cL_law 516 = .ok (.iadd, 1) := by decide +kernel
theorem dL_law_517 : decode cL_law 517 = .ok (.iaload, 1) := by decide +kernel
theorem dL_law_518 : decode cL_law 518 = .ok (.aload_n 0, 1) := by decide +kernel
theorem dL_law_519 : decode cL_law 519 = .ok (.iload_n 3, 1) := by decide +kernel
theorem dL_law_520 : decode cL_law 520 = .ok (.iconst 2, 1) := by decide +kernel
theorem dL_law_521 : decode cL_law 521 = .ok (.iadd, 1) := by decide +kernel
theorem dL_law_522 : decode cL_law 522 = .ok (.iaload, 1) := by decide +kernel
theorem dL_law_523 : decode cL_law 523 = .ok (.aload_n 0, 1) := by decide +kernel
theorem dL_law_524 : decode cL_law 524 = .ok (.iload_n 3, 1) := by decide +kernel
theorem dL_law_525 : decode cL_law 525 = .ok (.iconst 3, 1) := by decide +kernel
theorem dL_law_526 : decode cL_law 526 = .ok (.iadd, 1) := by decide +kernel
theorem dL_law_527 : decode cL_law 527 = .ok (.iaload, 1) := by decide +kernel
theorem dL_law_528 : decode cL_law 528 = .ok (.invokevirtual 57, 3) := by decide +kernel
theorem dL_law_531 : decode cL_law 531 = .ok (.if_icmp .eq 383, 3) := by decide +kernel
theorem dL_law_534 : decode cL_law 534 = .ok (.iconst 0, 1) := by decide +kernel
theorem dL_law_535 : decode cL_law 535 = .ok (.ireturn, 1) := by decide +kernel
theorem dL_law_536 : decode cL_law 536 = .ok (.aload_n 1, 1) := by decide +kernel
theorem dL_law_537 : decode cL_law 537 = .ok (.aload_n 0, 1) := by decide +kernel
theorem dL_law_538 : decode cL_law 538 = .ok (.iload_n 3, 1) := by decide +kernel
theorem dL_law_539 : decode cL_law 539 = .ok (.iconst 1, 1) := by decide +kernel
theorem dL_law_540 : decode cL_law 540 = .ok (.iadd, 1) := by decide +kernel
theorem dL_law_541 : decode cL_law 541 = .ok (.iaload, 1) := by decide +kernel
theorem dL_law_542 : decode cL_law 542 = .ok (.aload_n 0, 1) := by decide +kernel
theorem dL_law_543 : decode cL_law 543 = .ok (.iload_n 3, 1) := by decide +kernel
theorem dL_law_544 : decode cL_law 544 = .ok (.iconst 2, 1) := by decide +kernel
theorem dL_law_545 : decode cL_law 545 = .ok (.iadd, 1) := by decide +kernel
theorem dL_law_546 : decode cL_law 546 = .ok (.iaload, 1) := by decide +kernel
theorem dL_law_547 : decode cL_law 547 = .ok (.invokevirtual 58, 3) := by decide +kernel
theorem dL_law_550 : decode cL_law 550 = .ok (.aload_n 2, 1) := by decide +kernel
theorem dL_law_551 : decode cL_law 551 = .ok (.aload_n 0, 1) := by decide +kernel
theorem dL_law_552 : decode cL_law 552 = .ok (.iload_n 3, 1) := by decide +kernel
theorem dL_law_553 : decode cL_law 553 = .ok (.iconst 1, 1) := by decide +kernel
theorem dL_law_554 : decode cL_law 554 = .ok (.iadd, 1) := by decide +kernel
theorem dL_law_555 : decode cL_law 555 = .ok (.iaload, 1) := by decide +kernel
theorem dL_law_556 : decode cL_law 556 = .ok (.aload_n 0, 1) := by decide +kernel
theorem dL_law_557 : decode cL_law 557 = .ok (.iload_n 3, 1) := by decide +kernel
theorem dL_law_558 : decode cL_law 558 = .ok (.iconst 2, 1) := by decide +kernel
theorem dL_law_559 : decode cL_law 559 = .ok (.iadd, 1) := by decide +kernel
theorem dL_law_560 : decode cL_law 560 = .ok (.iaload, 1) := by decide +kernel
theorem dL_law_561 : decode cL_law 561 = .ok (.invokevirtual 61, 3) := by decide +kernel
theorem dL_law_564 : decode cL_law 564 = .ok (.if_icmp .eq 350, 3) := by decide +kernel
theorem dL_law_567 : decode cL_law 567 = .ok (.iconst 0, 1) := by decide +kernel
theorem dL_law_568 : decode cL_law 568 = .ok (.ireturn, 1) := by decide +kernel
theorem dL_law_569 : decode cL_law 569 = .ok (.aload_n 1, 1) := by decide +kernel
theorem dL_law_570 : decode cL_law 570 = .ok (.aload_n 0, 1) := by decide +kernel
theorem dL_law_571 : decode cL_law 571 = .ok (.iload_n 3, 1) := by decide +kernel
theorem dL_law_572 : decode cL_law 572 = .ok (.iconst 1, 1) := by decide +kernel
theorem dL_law_573 : decode cL_law 573 = .ok (.iadd, 1) := by decide +kernel
theorem dL_law_574 : decode cL_law 574 = .ok (.iaload, 1) := by decide +kernel
theorem dL_law_575 : decode cL_law 575 = .ok (.aload_n 0, 1) := by decide +kernel
theorem dL_law_576 : decode cL_law 576 = .ok (.iload_n 3, 1) := by decide +kernel
theorem dL_law_577 : decode cL_law 577 = .ok (.iconst 2, 1) := by decide +kernel
theorem dL_law_578 : decode cL_law 578 = .ok (.iadd, 1) := by decide +kernel
theorem dL_law_579 : decode cL_law 579 = .ok (.iaload, 1) := by decide +kernel
theorem dL_law_580 : decode cL_law 580 = .ok (.aload_n 0, 1) := by decide +kernel
theorem dL_law_581 : decode cL_law 581 = .ok (.iload_n 3, 1) := by decide +kernel
theorem dL_law_582 : decode cL_law 582 = .ok (.iconst 3, 1) := by decide +kernel
theorem dL_law_583 : decode cL_law 583 = .ok (.iadd, 1) := by decide +kernel
theorem dL_law_584 : decode cL_law 584 = .ok (.iaload, 1) := by decide +kernel
theorem dL_law_585 : decode cL_law 585 = .ok (.invokevirtual 62, 3) := by decide +kernel
theorem dL_law_588 : decode cL_law 588 = .ok (.aload_n 2, 1) := by decide +kernel
theorem dL_law_589 : decode cL_law 589 = .ok (.aload_n 0, 1) := by decide +kernel
theorem dL_law_590 : decode cL_law 590 = .ok (.iload_n 3, 1) := by decide +kernel
theorem dL_law_591 : decode cL_law 591 = .ok (.iconst 1, 1) := by decide +kernel
theorem dL_law_592 : decode cL_law 592 = .ok (.iadd, 1) := by decide +kernel
theorem dL_law_593 : decode cL_law 593 = .ok (.iaload, 1) := by decide +kernel
theorem dL_law_594 : decode cL_law 594 = .ok (.aload_n 0, 1) := by decide +kernel
theorem dL_law_595 : decode cL_law 595 = .ok (.iload_n 3, 1) := by decide +kernel
theorem dL_law_596 : decode cL_law 596 = .ok (.iconst 2, 1) := by decide +kernel
theorem dL_law_597 : decode cL_law 597 = .ok (.iadd, 1) := by decide +kernel
theorem dL_law_598 : decode cL_law 598 = .ok (.iaload, 1) := by decide +kernel
theorem dL_law_599 : decode cL_law 599 = .ok (.aload_n 0, 1) := by decide +kernel
theorem dL_law_600 : decode cL_law 600 = .ok (.iload_n 3, 1) := by decide +kernel
theorem dL_law_601 : decode cL_law 601 = .ok (.iconst 3, 1) := by decide +kernel
theorem dL_law_602 : decode cL_law 602 = .ok (.iadd, 1) := by decide +kernel
theorem dL_law_603 : decode cL_law 603 = .ok (.iaload, 1) := by decide +kernel
theorem dL_law_604 : decode cL_law 604 = .ok (.invokevirtual 65, 3) := by decide +kernel
theorem dL_law_607 : decode cL_law 607 = .ok (.if_icmp .eq 307, 3) := by decide +kernel
theorem dL_law_610 : decode cL_law 610 = .ok (.iconst 0, 1) := by decide +kernel
theorem dL_law_611 : decode cL_law 611 = .ok (.ireturn, 1) := by decide +kernel
theorem dL_law_612 : decode cL_law 612 = .ok (.aload_n 1, 1) := by decide +kernel
theorem dL_law_613 : decode cL_law 613 = .ok (.aload_n 0, 1) := by decide +kernel
theorem dL_law_614 : decode cL_law 614 = .ok (.iload_n 3, 1) := by decide +kernel
theorem dL_law_615 : decode cL_law 615 = .ok (.iconst 1, 1) := by decide +kernel
theorem dL_law_616 : decode cL_law 616 = .ok (.iadd, 1) := by decide +kernel
theorem dL_law_617 : decode cL_law 617 = .ok (.iaload, 1) := by decide +kernel
theorem dL_law_618 : decode cL_law 618 = .ok (.aload_n 0, 1) := by decide +kernel
theorem dL_law_619 : decode cL_law 619 = .ok (.iload_n 3, 1) := by decide +kernel
theorem dL_law_620 : decode cL_law 620 = .ok (.iconst 2, 1) := by decide +kernel
theorem dL_law_621 : decode cL_law 621 = .ok (.iadd, 1) := by decide +kernel
theorem dL_law_622 : decode cL_law 622 = .ok (.iaload, 1) := by decide +kernel
theorem dL_law_623 : decode cL_law 623 = .ok (.aload_n 0, 1) := by decide +kernel
theorem dL_law_624 : decode cL_law 624 = .ok (.iload_n 3, 1) := by decide +kernel
theorem dL_law_625 : decode cL_law 625 = .ok (.iconst 3, 1) := by decide +kernel
theorem dL_law_626 : decode cL_law 626 = .ok (.iadd, 1) := by decide +kernel
theorem dL_law_627 : decode cL_law 627 = .ok (.iaload, 1) := by decide +kernel
theorem dL_law_628 : decode cL_law 628 = .ok (.invokevirtual 66, 3) := by decide +kernel
theorem dL_law_631 : decode cL_law 631 = .ok (.aload_n 2, 1) := by decide +kernel
theorem dL_law_632 : decode cL_law 632 = .ok (.aload_n 0, 1) := by decide +kernel
theorem dL_law_633 : decode cL_law 633 = .ok (.iload_n 3, 1) := by decide +kernel
theorem dL_law_634 : decode cL_law 634 = .ok (.iconst 1, 1) := by decide +kernel
theorem dL_law_635 : decode cL_law 635 = .ok (.iadd, 1) := by decide +kernel
theorem dL_law_636 : decode cL_law 636 = .ok (.iaload, 1) := by decide +kernel
theorem dL_law_637 : decode cL_law 637 = .ok (.aload_n 0, 1) := by decide +kernel
theorem dL_law_638 : decode cL_law 638 = .ok (.iload_n 3, 1) := by decide +kernel
theorem dL_law_639 : decode cL_law 639 = .ok (.iconst 2, 1) := by decide +kernel
theorem dL_law_640 : decode cL_law 640 = .ok (.iadd, 1) := by decide +kernel
theorem dL_law_641 : decode cL_law 641 = .ok (.iaload, 1) := by decide +kernel
theorem dL_law_642 : decode cL_law 642 = .ok (.aload_n 0, 1) := by decide +kernel
theorem dL_law_643 : decode cL_law 643 = .ok (.iload_n 3, 1) := by decide +kernel
theorem dL_law_644 : decode cL_law 644 = .ok (.iconst 3, 1) := by decide +kernel
theorem dL_law_645 : decode cL_law 645 = .ok (.iadd, 1) := by decide +kernel
theorem dL_law_646 : decode cL_law 646 = .ok (.iaload, 1) := by decide +kernel
theorem dL_law_647 : decode cL_law 647 = .ok (.invokevirtual 69, 3) := by decide +kernel
theorem dL_law_650 : decode cL_law 650 = .ok (.if_icmp .eq 264, 3) := by decide +kernel
theorem dL_law_653 : decode cL_law 653 = .ok (.iconst 0, 1) := by decide +kernel
theorem dL_law_654 : decode cL_law 654 = .ok (.ireturn, 1) := by decide +kernel
theorem dL_law_655 : decode cL_law 655 = .ok (.aload_n 1, 1) := by decide +kernel
theorem dL_law_656 : decode cL_law 656 = .ok (.aload_n 0, 1) := by decide +kernel
theorem dL_law_657 : decode cL_law 657 = .ok (.iload_n 3, 1) := by decide +kernel
theorem dL_law_658 : decode cL_law 658 = .ok (.iconst 1, 1) := by decide +kernel
theorem dL_law_659 : decode cL_law 659 = .ok (.iadd, 1) := by decide +kernel
theorem dL_law_660 : decode cL_law 660 = .ok (.iaload, 1) := by decide +kernel
theorem dL_law_661 : decode cL_law 661 = .ok (.aload_n 0, 1) := by decide +kernel
theorem dL_law_662 : decode cL_law 662 = .ok (.iload_n 3, 1) := by decide +kernel
theorem dL_law_663 : decode cL_law 663 = .ok (.iconst 2, 1) := by decide +kernel
theorem dL_law_664 : decode cL_law 664 = .ok (.iadd, 1) := by decide +kernel
theorem dL_law_665 : decode cL_law 665 = .ok (.iaload, 1) := by decide +kernel
theorem dL_law_666 : decode cL_law 666 = .ok (.invokevirtual 70, 3) := by decide +kernel
theorem dL_law_669 : decode cL_law 669 = .ok (.aload_n 2, 1) := by decide +kernel
theorem dL_law_670 : decode cL_law 670 = .ok (.aload_n 0, 1) := by decide +kernel
theorem dL_law_671 : decode cL_law 671 = .ok (.iload_n 3, 1) := by decide +kernel
theorem dL_law_672 : decode cL_law 672 = .ok (.iconst 1, 1) := by decide +kernel
theorem dL_law_673 : decode cL_law 673 = .ok (.iadd, 1) := by decide +kernel
theorem dL_law_674 : decode cL_law 674 = .ok (.iaload, 1) := by decide +kernel
theorem dL_law_675 : decode cL_law 675 = .ok (.aload_n 0, 1) := by decide +kernel
theorem dL_law_676 : decode cL_law 676 = .ok (.iload_n 3, 1) := by decide +kernel
theorem dL_law_677 : decode cL_law 677 = .ok (.iconst 2, 1) := by decide +kernel
theorem dL_law_678 : decode cL_law 678 = .ok (.iadd, 1) := by decide +kernel
theorem dL_law_679 : decode cL_law 679 = .ok (.iaload, 1) := by decide +kernel
theorem dL_law_680 : decode cL_law 680 = .ok (.invokevirtual 73, 3) := by decide +kernel
theorem dL_law_683 : decode cL_law 683 = .ok (.if_icmp .eq 231, 3) := by decide +kernel
theorem dL_law_686 : decode cL_law 686 = .ok (.iconst 0, 1) := by decide +kernel
theorem dL_law_687 : decode cL_law 687 = .ok (.ireturn, 1) := by decide +kernel
theorem dL_law_688 : decode cL_law 688 = .ok (.aload_n 1, 1) := by decide +kernel
theorem dL_law_689 : decode cL_law 689 = .ok (.aload_n 0, 1) := by decide +kernel
theorem dL_law_690 : decode cL_law 690 = .ok (.iload_n 3, 1) := by decide +kernel
theorem dL_law_691 : decode cL_law 691 = .ok (.iconst 1, 1) := by decide +kernel
theorem dL_law_692 : decode cL_law 692 = .ok (.iadd, 1) := by decide +kernel
theorem dL_law_693 : decode cL_law 693 = .ok (.iaload, 1) := by decide +kernel
theorem dL_law_694 : decode cL_law 694 = .ok (.aload_n 0, 1) := by decide +kernel
theorem dL_law_695 : decode cL_law 695 = .ok (.iload_n 3, 1) := by decide +kernel
theorem dL_law_696 : decode cL_law 696 = .ok (.iconst 2, 1) := by decide +kernel
theorem dL_law_697 : decode cL_law 697 = .ok (.iadd, 1) := by decide +kernel
theorem dL_law_698 : decode cL_law 698 = .ok (.iaload, 1) := by decide +kernel
theorem dL_law_699 : decode cL_law 699 = .ok (.aload_n 0, 1) := by decide +kernel
theorem dL_law_700 : decode cL_law 700 = .ok (.iload_n 3, 1) := by decide +kernel
theorem dL_law_701 : decode cL_law 701 = .ok (.iconst 3, 1) := by decide +kernel
theorem dL_law_702 : decode cL_law 702 = .ok (.iadd, 1) := by decide +kernel
theorem dL_law_703 : decode cL_law 703 = .ok (.iaload, 1) := by decide +kernel
theorem dL_law_704 : decode cL_law 704 = .ok (.invokevirtual 74, 3) := by decide +kernel
theorem dL_law_707 : decode cL_law 707 = .ok (.aload_n 2, 1) := by decide +kernel
theorem dL_law_708 : decode cL_law 708 = .ok (.aload_n 0, 1) := by decide +kernel
theorem dL_law_709 : decode cL_law 709 = .ok (.iload_n 3, 1) := by decide +kernel
theorem dL_law_710 : decode cL_law 710 = .ok (.iconst 1, 1) := by decide +kernel
theorem dL_law_711 : decode cL_law 711 = .ok (.iadd, 1) := by decide +kernel
theorem dL_law_712 : decode cL_law 712 = .ok (.iaload, 1) := by decide +kernel
theorem dL_law_713 : decode cL_law 713 = .ok (.aload_n 0, 1) := by decide +kernel
theorem dL_law_714 : decode cL_law 714 = .ok (.iload_n 3, 1) := by decide +kernel
theorem dL_law_715 : decode cL_law 715 = .ok (.iconst 2, 1) := by decide +kernel
theorem dL_law_716 : decode cL_law 716 = .ok (.iadd, 1) := by decide +kernel
theorem dL_law_717 : decode cL_law 717 = .ok (.iaload, 1) := by decide +kernel
theorem dL_law_718 : decode cL_law 718 = .ok (.aload_n 0, 1) := by decide +kernel
theorem dL_law_719 : decode cL_law 719 = .ok (.iload_n 3, 1) := by decide +kernel
theorem dL_law_720 : decode cL_law 720 = .ok (.iconst 3, 1) := by decide +kernel
theorem dL_law_721 : decode cL_law 721 = .ok (.iadd, 1) := by decide +kernel
theorem dL_law_722 : decode cL_law 722 = .ok (.iaload, 1) := by decide +kernel
theorem dL_law_723 : decode cL_law 723 = .ok (.invokevirtual 78, 3) := by decide +kernel
theorem dL_law_726 : decode cL_law 726 = .ok (.lcmp, 1) := by decide +kernel
theorem dL_law_727 : decode cL_law 727 = .ok (.ifCond .eq 187, 3) := by decide +kernel
theorem dL_law_730 : decode cL_law 730 = .ok (.iconst 0, 1) := by decide +kernel
theorem dL_law_731 : decode cL_law 731 = .ok (.ireturn, 1) := by decide +kernel
theorem dL_law_732 : decode cL_law 732 = .ok (.aload_n 1, 1) := by decide +kernel
theorem dL_law_733 : decode cL_law 733 = .ok (.aload_n 0, 1) := by decide +kernel
theorem dL_law_734 : decode cL_law 734 = .ok (.iload_n 3, 1) := by decide +kernel
theorem dL_law_735 : decode cL_law 735 = .ok (.iconst 1, 1) := by decide +kernel
theorem dL_law_736 : decode cL_law 736 = .ok (.iadd, 1) := by decide +kernel
theorem dL_law_737 : decode cL_law 737 = .ok (.iaload, 1) := by decide +kernel
theorem dL_law_738 : decode cL_law 738 = .ok (.aload_n 0, 1) := by decide +kernel
theorem dL_law_739 : decode cL_law 739 = .ok (.iload_n 3, 1) := by decide +kernel
theorem dL_law_740 : decode cL_law 740 = .ok (.iconst 2, 1) := by decide +kernel
theorem dL_law_741 : decode cL_law 741 = .ok (.iadd, 1) := by decide +kernel
theorem dL_law_742 : decode cL_law 742 = .ok (.iaload, 1) := by decide +kernel
theorem dL_law_743 : decode cL_law 743 = .ok (.invokevirtual 79, 3) := by decide +kernel
theorem dL_law_746 : decode cL_law 746 = .ok (.aload_n 2, 1) := by decide +kernel
theorem dL_law_747 : decode cL_law 747 = .ok (.aload_n 0, 1) := by decide +kernel
theorem dL_law_748 : decode cL_law 748 = .ok (.iload_n 3, 1) := by decide +kernel
theorem dL_law_749 : decode cL_law 749 = .ok (.iconst 1, 1) := by decide +kernel
theorem dL_law_750 : decode cL_law 750 = .ok (.iadd, 1) := by decide +kernel
theorem dL_law_751 : decode cL_law 751 = .ok (.iaload, 1) := by decide +kernel
theorem dL_law_752 : decode cL_law 752 = .ok (.aload_n 0, 1) := by decide +kernel
theorem dL_law_753 : decode cL_law 753 = .ok (.iload_n 3, 1) := by decide +kernel
theorem dL_law_754 : decode cL_law 754 = .ok (.iconst 2, 1) := by decide +kernel
theorem dL_law_755 : decode cL_law 755 = .ok (.iadd, 1) := by decide +kernel
theorem dL_law_756 : decode cL_law 756 = .ok (.iaload, 1) := by decide +kernel
theorem dL_law_757 : decode cL_law 757 = .ok (.invokevirtual 83, 3) := by decide +kernel
theorem dL_law_760 : decode cL_law 760 = .ok (.lcmp, 1) := by decide +kernel
theorem dL_law_761 : decode cL_law 761 = .ok (.ifCond .eq 153, 3) := by decide +kernel
theorem dL_law_764 : decode cL_law 764 = .ok (.iconst 0, 1) := by decide +kernel
theorem dL_law_765 : decode cL_law 765 = .ok (.ireturn, 1) := by decide +kernel
theorem dL_law_766 : decode cL_law 766 = .ok (.aload_n 1, 1) := by decide +kernel
theorem dL_law_767 : decode cL_law 767 = .ok (.aload_n 0, 1) := by decide +kernel
theorem dL_law_768 : decode cL_law 768 = .ok (.iload_n 3, 1) := by decide +kernel
theorem dL_law_769 : decode cL_law 769 = .ok (.iconst 1, 1) := by decide +kernel
theorem dL_law_770 : decode cL_law 770 = .ok (.iadd, 1) := by decide +kernel
theorem dL_law_771 : decode cL_law 771 = .ok (.iaload, 1) := by decide +kernel
theorem dL_law_772 : decode cL_law 772 = .ok (.aload_n 0, 1) := by decide +kernel
theorem dL_law_773 : decode cL_law 773 = .ok (.iload_n 3, 1) := by decide +kernel
theorem dL_law_774 : decode cL_law 774 = .ok (.iconst 2, 1) := by decide +kernel
theorem dL_law_775 : decode cL_law 775 = .ok (.iadd, 1) := by decide +kernel
theorem dL_law_776 : decode cL_law 776 = .ok (.iaload, 1) := by decide +kernel
theorem dL_law_777 : decode cL_law 777 = .ok (.invokevirtual 84, 3) := by decide +kernel
theorem dL_law_780 : decode cL_law 780 = .ok (.aload_n 2, 1) := by decide +kernel
theorem dL_law_781 : decode cL_law 781 = .ok (.aload_n 0, 1) := by decide +kernel
theorem dL_law_782 : decode cL_law 782 = .ok (.iload_n 3, 1) := by decide +kernel
theorem dL_law_783 : decode cL_law 783 = .ok (.iconst 1, 1) := by decide +kernel
theorem dL_law_784 : decode cL_law 784 = .ok (.iadd, 1) := by decide +kernel
theorem dL_law_785 : decode cL_law 785 = .ok (.iaload, 1) := by decide +kernel
theorem dL_law_786 : decode cL_law 786 = .ok (.aload_n 0, 1) := by decide +kernel
theorem dL_law_787 : decode cL_law 787 = .ok (.iload_n 3, 1) := by decide +kernel
theorem dL_law_788 : decode cL_law 788 = .ok (.iconst 2, 1) := by decide +kernel
theorem dL_law_789 : decode cL_law 789 = .ok (.iadd, 1) := by decide +kernel
theorem dL_law_790 : decode cL_law 790 = .ok (.iaload, 1) := by decide +kernel
theorem dL_law_791 : decode cL_law 791 = .ok (.invokevirtual 87, 3) := by decide +kernel
theorem dL_law_794 : decode cL_law 794 = .ok (.if_icmp .eq 120, 3) := by decide +kernel
theorem dL_law_797 : decode cL_law 797 = .ok (.iconst 0, 1) := by decide +kernel
theorem dL_law_798 : decode cL_law 798 = .ok (.ireturn, 1) := by decide +kernel
theorem dL_law_799 : decode cL_law 799 = .ok (.aload_n 1, 1) := by decide +kernel
theorem dL_law_800 : decode cL_law 800 = .ok (.aload_n 0, 1) := by decide +kernel
theorem dL_law_801 : decode cL_law 801 = .ok (.iload_n 3, 1) := by decide +kernel
theorem dL_law_802 : decode cL_law 802 = .ok (.iconst 1, 1) := by decide +kernel
theorem dL_law_803 : decode cL_law 803 = .ok (.iadd, 1) := by decide +kernel
theorem dL_law_804 : decode cL_law 804 = .ok (.iaload, 1) := by decide +kernel
theorem dL_law_805 : decode cL_law 805 = .ok (.invokevirtual 88, 3) := by decide +kernel
theorem dL_law_808 : decode cL_law 808 = .ok (.aload_n 2, 1) := by decide +kernel
theorem dL_law_809 : decode cL_law 809 = .ok (.aload_n 0, 1) := by decide +kernel
theorem dL_law_810 : decode cL_law 810 = .ok (.iload_n 3, 1) := by decide +kernel
theorem dL_law_811 : decode cL_law 811 = .ok (.iconst 1, 1) := by decide +kernel
theorem dL_law_812 : decode cL_law 812 = .ok (.iadd, 1) := by decide +kernel
theorem dL_law_813 : decode cL_law 813 = .ok (.iaload, 1) := by decide +kernel
theorem dL_law_814 : decode cL_law 814 = .ok (.invokevirtual 91, 3) := by decide +kernel
theorem dL_law_817 : decode cL_law 817 = .ok (.if_icmp .eq 97, 3) := by decide +kernel
theorem dL_law_820 : decode cL_law 820 = .ok (.iconst 0, 1) := by decide +kernel
theorem dL_law_821 : decode cL_law 821 = .ok (.ireturn, 1) := by decide +kernel
theorem dL_law_822 : decode cL_law 822 = .ok (.aload_n 1, 1) := by decide +kernel
theorem dL_law_823 : decode cL_law 823 = .ok (.aload_n 0, 1) := by decide +kernel
theorem dL_law_824 : decode cL_law 824 = .ok (.iload_n 3, 1) := by decide +kernel
theorem dL_law_825 : decode cL_law 825 = .ok (.iconst 1, 1) := by decide +kernel
theorem dL_law_826 : decode cL_law 826 = .ok (.iadd, 1) := by decide +kernel
theorem dL_law_827 : decode cL_law 827 = .ok (.iaload, 1) := by decide +kernel
theorem dL_law_828 : decode cL_law 828 = .ok (.invokevirtual 92, 3) := by decide +kernel
theorem dL_law_831 : decode cL_law 831 = .ok (.aload_n 2, 1) := by decide +kernel
theorem dL_law_832 : decode cL_law 832 = .ok (.aload_n 0, 1) := by decide +kernel
theorem dL_law_833 : decode cL_law 833 = .ok (.iload_n 3, 1) := by decide +kernel
theorem dL_law_834 : decode cL_law 834 = .ok (.iconst 1, 1) := by decide +kernel
theorem dL_law_835 : decode cL_law 835 = .ok (.iadd, 1) := by decide +kernel
theorem dL_law_836 : decode cL_law 836 = .ok (.iaload, 1) := by decide +kernel
theorem dL_law_837 : decode cL_law 837 = .ok (.invokevirtual 95, 3) := by decide +kernel
theorem dL_law_840 : decode cL_law 840 = .ok (.if_icmp .eq 74, 3) := by decide +kernel
theorem dL_law_843 : decode cL_law 843 = .ok (.iconst 0, 1) := by decide +kernel
theorem dL_law_844 : decode cL_law 844 = .ok (.ireturn, 1) := by decide +kernel
theorem dL_law_845 : decode cL_law 845 = .ok (.aload_n 1, 1) := by decide +kernel
theorem dL_law_846 : decode cL_law 846 = .ok (.aload_n 0, 1) := by decide +kernel
theorem dL_law_847 : decode cL_law 847 = .ok (.iload_n 3, 1) := by decide +kernel
theorem dL_law_848 : decode cL_law 848 = .ok (.iconst 1, 1) := by decide +kernel
theorem dL_law_849 : decode cL_law 849 = .ok (.iadd, 1) := by decide +kernel
theorem dL_law_850 : decode cL_law 850 = .ok (.iaload, 1) := by decide +kernel
theorem dL_law_851 : decode cL_law 851 = .ok (.invokevirtual 96, 3) := by decide +kernel
theorem dL_law_854 : decode cL_law 854 = .ok (.aload_n 2, 1) := by decide +kernel
theorem dL_law_855 : decode cL_law 855 = .ok (.aload_n 0, 1) := by decide +kernel
theorem dL_law_856 : decode cL_law 856 = .ok (.iload_n 3, 1) := by decide +kernel
theorem dL_law_857 : decode cL_law 857 = .ok (.iconst 1, 1) := by decide +kernel
theorem dL_law_858 : decode cL_law 858 = .ok (.iadd, 1) := by decide +kernel
theorem dL_law_859 : decode cL_law 859 = .ok (.iaload, 1) := by decide +kernel
theorem dL_law_860 : decode cL_law 860 = .ok (.invokevirtual 99, 3) := by decide +kernel
theorem dL_law_863 : decode cL_law 863 = .ok (.if_icmp .eq 51, 3) := by decide +kernel
theorem dL_law_866 : decode cL_law 866 = .ok (.iconst 0, 1) := by decide +kernel
theorem dL_law_867 : decode cL_law 867 = .ok (.ireturn, 1) := by decide +kernel
theorem dL_law_868 : decode cL_law 868 = .ok (.aload_n 1, 1) := by decide +kernel
theorem dL_law_869 : decode cL_law 869 = .ok (.aload_n 0, 1) := by decide +kernel
theorem dL_law_870 : decode cL_law 870 = .ok (.iload_n 3, 1) := by decide +kernel
theorem dL_law_871 : decode cL_law 871 = .ok (.iconst 1, 1) := by decide +kernel
theorem dL_law_872 : decode cL_law 872 = .ok (.iadd, 1) := by decide +kernel
theorem dL_law_873 : decode cL_law 873 = .ok (.iaload, 1) := by decide +kernel
theorem dL_law_874 : decode cL_law 874 = .ok (.invokevirtual 100, 3) := by decide +kernel
theorem dL_law_877 : decode cL_law 877 = .ok (.aload_n 2, 1) := by decide +kernel
theorem dL_law_878 : decode cL_law 878 = .ok (.aload_n 0, 1) := by decide +kernel
theorem dL_law_879 : decode cL_law 879 = .ok (.iload_n 3, 1) := by decide +kernel
theorem dL_law_880 : decode cL_law 880 = .ok (.iconst 1, 1) := by decide +kernel
theorem dL_law_881 : decode cL_law 881 = .ok (.iadd, 1) := by decide +kernel
theorem dL_law_882 : decode cL_law 882 = .ok (.iaload, 1) := by decide +kernel
theorem dL_law_883 : decode cL_law 883 = .ok (.invokevirtual 103, 3) := by decide +kernel
theorem dL_law_886 : decode cL_law 886 = .ok (.if_icmp .eq 28, 3) := by decide +kernel
theorem dL_law_889 : decode cL_law 889 = .ok (.iconst 0, 1) := by decide +kernel
theorem dL_law_890 : decode cL_law 890 = .ok (.ireturn, 1) := by decide +kernel
theorem dL_law_891 : decode cL_law 891 = .ok (.aload_n 1, 1) := by decide +kernel
theorem dL_law_892 : decode cL_law 892 = .ok (.aload_n 0, 1) := by decide +kernel
theorem dL_law_893 : decode cL_law 893 = .ok (.iload_n 3, 1) := by decide +kernel
theorem dL_law_894 : decode cL_law 894 = .ok (.iconst 1, 1) := by decide +kernel
theorem dL_law_895 : decode cL_law 895 = .ok (.iadd, 1) := by decide +kernel
theorem dL_law_896 : decode cL_law 896 = .ok (.iaload, 1) := by decide +kernel
theorem dL_law_897 : decode cL_law 897 = .ok (.invokevirtual 104, 3) := by decide +kernel
theorem dL_law_900 : decode cL_law 900 = .ok (.aload_n 2, 1) := by decide +kernel
theorem dL_law_901 : decode cL_law 901 = .ok (.aload_n 0, 1) := by decide +kernel
theorem dL_law_902 : decode cL_law 902 = .ok (.iload_n 3, 1) := by decide +kernel
theorem dL_law_903 : decode cL_law 903 = .ok (.iconst 1, 1) := by decide +kernel
theorem dL_law_904 : decode cL_law 904 = .ok (.iadd, 1) := by decide +kernel
theorem dL_law_905 : decode cL_law 905 = .ok (.iaload, 1) := by decide +kernel
theorem dL_law_906 : decode cL_law 906 = .ok (.invokevirtual 107, 3) := by decide +kernel
theorem dL_law_909 : decode cL_law 909 = .ok (.if_icmp .eq 5, 3) := by decide +kernel
theorem dL_law_912 : decode cL_law 912 = .ok (.iconst 0, 1) := by decide +kernel
theorem dL_law_913 : decode cL_law 913 = .ok (.ireturn, 1) := by decide +kernel
theorem dL_law_914 : decode cL_law 914 = .ok (.iinc 3 6, 3) := by decide +kernel
theorem dL_law_917 : decode cL_law 917 = .ok (.goto (-899), 3) := by decide +kernel
theorem dL_law_920 : decode cL_law 920 = .ok (.iconst 1, 1) := by decide +kernel
theorem dL_law_921 : decode cL_law 921 = .ok (.ireturn, 1) := by decide +kernel
end
section
/-! THE WORLD: every cell that the law's two objects are made of, by a number of its own (0 .. 150); what the cells hold, as two tables of numbers. -/
abbrev Sg : Type := (Nat → Nat → Int32) × (Nat → Nat → Int64)
def setR (σ : Sg) (i : Nat) (g : Nat → Int32) : Sg := (fun a => if a = i then g else σ.1 a, σ.2)
def setL (σ : Sg) (i : Nat) (g : Nat → Int64) : Sg := (σ.1, fun a => if a = i then g else σ.2 a)
def NN : Nat := 151
/-- the kinds: 0 int[], 1 long[], 2 boolean[], 3 int[][], 4 long[][], 5 Book, 6 Control, 7 Holdings, 8 Reach, 9 Stakes, 10 Timeline, 11 ControlRegister, 12 ControlRegisterModel; and the length -/
def kdBook : List (Nat × Nat) := [(5, 0), (0, 41), (0, 41), (0, 41), (0, 41), (0, 41), (0, 41), (0, 41)]
def kdHold : List (Nat × Nat) := [(7, 0), (3, 5), (0, 10), (0, 10), (0, 10), (0, 10), (0, 10), (3, 5), (0, 10), (0, 10), (0, 10), (0, 10), (0, 10), (0, 5)]
def kdCtrl : List (Nat × Nat) := [(6, 0), (0, 9), (3, 9), (0, 5), (0, 5), (0, 5), (0, 5), (0, 5), (0, 5), (0, 5), (0, 5), (0, 5), (0, 9)]
def kdStak : List (Nat × Nat) := [(9, 0), (4, 5), (1, 10), (1, 10), (1, 10), (1, 10), (1, 10)]
def kdReac : List (Nat × Nat) := [(8, 0), (0, 5)]
def kdTime : List (Nat × Nat) := [(10, 0), (0, 40), (3, 40)] ++ List.replicate 40 (0, 9) ++ [(0, 1800)]
def kdModl : List (Nat × Nat) := [(12, 0), (0, 41), (0, 41), (0, 41), (0, 41), (0, 41), (0, 41), (0, 3), (0, 41), (0, 50), (0, 50), (2, 50), (0, 5), (0, 9), (1, 25), (1, 4), (0, 5), (0, 490), (2, 2)]
def kdAll : List (Nat × Nat) := [(11, 0)] ++ kdBook ++ kdBook ++ kdBook ++ kdHold ++ kdHold ++ kdCtrl ++ kdCtrl ++ kdStak ++ kdReac ++ kdTime ++ kdModl
def kd (i : Nat) : Nat × Nat := kdAll.getD i (0, 0)
theorem kdAll_len : kdAll.length = NN := by decide +kernel
def entF (ca : Nat → ClassId) (ad : Nat → Nat) (i : Nat) (f : Nat → Int32) (g : Nat → Int64) : va_E :=
  if (kd i).1 = 0 then .inl (ca 0, (kd i).2, .inl f)
  else if (kd i).1 = 1 then .inl (ca 1, (kd i).2, .inr (.inl g))
  else if (kd i).1 = 2 then .inl (ca 2, (kd i).2, .inl f)
  else if (kd i).1 = 3 then .inl (ca 3, (kd i).2, .inr (.inr (.inr (.inr (fun j => some (ad (i + 1 + j)))))))
  else if (kd i).1 = 4 then .inl (ca 4, (kd i).2, .inr (.inr (.inr (.inr (fun j => some (ad (i + 1 + j)))))))
  else if (kd i).1 = 5 then .inr (0, [.ref (ad (i + 1)), .ref (ad (i + 2)), .ref (ad (i + 3)), .ref (ad (i + 4)), .ref (ad (i + 5)), .ref (ad (i + 6)), .ref (ad (i + 7)), .int (f 7), .int (f 8), .int (f 9), .int (f 10), .int (f 11)])
  else if (kd i).1 = 6 then .inr (1, [.ref (ad (i + 1)), .ref (ad (i + 2)), .ref (ad (i + 12))])
  else if (kd i).1 = 7 then .inr (2, [.ref (ad (i + 1)), .ref (ad (i + 7)), .ref (ad (i + 13))])
  else if (kd i).1 = 8 then .inr (3, [.ref (ad (i + 1))])
  else if (kd i).1 = 9 then .inr (4, [.int (f 0), .ref (ad (i + 1))])
  else if (kd i).1 = 10 then .inr (5, [.ref (ad (i + 1)), .ref (ad (i + 2)), .int (f 2), .ref (ad (i + 43)), .int (f 4)])
  else if (kd i).1 = 11 then .inr (6, [.ref (ad 1), .ref (ad 9), .ref (ad 17), .int (f 3), .ref (ad 25), .ref (ad 53), .ref (ad 79), .ref (ad 86), .int (f 8), .ref (ad 88), .int (f 10), .ref (ad 39), .ref (ad 66)])
  else .inr (7, [.ref (ad 133), .ref (ad 134), .ref (ad 135), .ref (ad 136), .ref (ad 137), .ref (ad 138), .int (f 6), .int (f 7), .ref (ad 139), .ref (ad 140), .ref (ad 141), .ref (ad 142), .ref (ad 143), .ref (ad 144), .int (f 14), .ref (ad 145), .int (f 16), .int (f 17), .int (f 18), .int (f 19), .ref (ad 146), .ref (ad 147), .ref (ad 148), .ref (ad 149), .ref (ad 150)])
def pool (ca : Nat → ClassId) (ad : Nat → Nat) (σ : Sg) : va_W := (List.range NN).map (fun i => (ad i, entF ca ad i (σ.1 i) (σ.2 i)))
def tysA (ca : Nat → ClassId) : List (ClassId × FieldType) := [(ca 0, .int), (ca 1, .long), (ca 2, .boolean), (ca 3, .array .int), (ca 4, .array .long)]
def Aw (ad : Nat → Nat) (sz : Nat) : Nat → Prop := fun q => (∃ i, i < NN ∧ q = ad i) ∨ sz ≤ q
theorem Aw.mono {ad : Nat → Nat} {a b q : Nat} (h : a ≤ b) (hq : Aw ad b q) : Aw ad a q := hq.elim Or.inl (fun h2 => Or.inr (Nat.le_trans h h2))
theorem pool_at {ca : Nat → ClassId} {ad : Nat → Nat} {σ : Sg} {i : Nat} (h : i < NN) : (pool ca ad σ)[i]? = some (ad i, entF ca ad i (σ.1 i) (σ.2 i)) := by
  simp [pool, h]
theorem pool_len {ca : Nat → ClassId} {ad : Nat → Nat} {σ : Sg} : (pool ca ad σ).length = NN := by simp [pool]
theorem pool_set {ca : Nat → ClassId} {ad : Nat → Nat} {σ σ' : Sg} {i : Nat} {e : va_E} (h : i < NN) (he : e = entF ca ad i (σ'.1 i) (σ'.2 i)) (ho : ∀ j, j ≠ i → σ'.1 j = σ.1 j ∧ σ'.2 j = σ.2 j) : (pool ca ad σ).set i (ad i, e) = pool ca ad σ' := by
  apply List.ext_getElem?
  intro j
  rw [List.getElem?_set]
  by_cases hj : i = j
  · subst hj
    rw [if_pos rfl, if_pos (by rw [pool_len]; exact h), pool_at h, he]
  · rw [if_neg hj]
    by_cases hl : j < NN
    · rw [pool_at hl, pool_at hl, (ho j (Ne.symm hj)).1, (ho j (Ne.symm hj)).2]
    · have h1 : (pool ca ad σ).length ≤ j := by rw [pool_len]; exact Nat.le_of_not_lt hl
      have h2 : (pool ca ad σ').length ≤ j := by rw [pool_len]; exact Nat.le_of_not_lt hl
      rw [List.getElem?_eq_none h1, List.getElem?_eq_none h2]
theorem setR_eq (σ : Sg) (i : Nat) (g : Nat → Int32) : (setR σ i g).1 i = g := by simp [setR]
theorem setR_ne (σ : Sg) {i j : Nat} (g : Nat → Int32) (h : j ≠ i) : (setR σ i g).1 j = σ.1 j := by simp [setR, h]
theorem setR_2 (σ : Sg) (i : Nat) (g : Nat → Int32) : (setR σ i g).2 = σ.2 := rfl
theorem setL_eq (σ : Sg) (i : Nat) (g : Nat → Int64) : (setL σ i g).2 i = g := by simp [setL]
theorem setL_ne (σ : Sg) {i j : Nat} (g : Nat → Int64) (h : j ≠ i) : (setL σ i g).2 j = σ.2 j := by simp [setL, h]
theorem setL_1 (σ : Sg) (i : Nat) (g : Nat → Int64) : (setL σ i g).1 = σ.1 := rfl
theorem pool_setR {ca : Nat → ClassId} {ad : Nat → Nat} {σ : Sg} {i : Nat} {g : Nat → Int32} {e : va_E} (h : i < NN) (he : e = entF ca ad i g (σ.2 i)) : (pool ca ad σ).set i (ad i, e) = pool ca ad (setR σ i g) :=
  pool_set h (by rw [setR_eq]; exact he) (fun j hj => ⟨setR_ne σ g hj, rfl⟩)
theorem pool_setL {ca : Nat → ClassId} {ad : Nat → Nat} {σ : Sg} {i : Nat} {g : Nat → Int64} {e : va_E} (h : i < NN) (he : e = entF ca ad i (σ.1 i) g) : (pool ca ad σ).set i (ad i, e) = pool ca ad (setL σ i g) :=
  pool_set h (by rw [setL_eq]; exact he) (fun j hj => ⟨rfl, setL_ne σ g hj⟩)
section
variable {ca : Nat → ClassId} {ad : Nat → Nat} {i n : Nat} {f : Nat → Int32} {g : Nat → Int64}
theorem e_ia (h : kd i = (0, n)) : entF ca ad i f g = .inl (ca 0, n, .inl f) := by simp [entF, h]
theorem e_la (h : kd i = (1, n)) : entF ca ad i f g = .inl (ca 1, n, .inr (.inl g)) := by simp [entF, h]
theorem e_za (h : kd i = (2, n)) : entF ca ad i f g = .inl (ca 2, n, .inl f) := by simp [entF, h]
theorem e_iia (h : kd i = (3, n)) : entF ca ad i f g = .inl (ca 3, n, .inr (.inr (.inr (.inr (fun j => some (ad (i + 1 + j))))))) := by simp [entF, h]
theorem e_lla (h : kd i = (4, n)) : entF ca ad i f g = .inl (ca 4, n, .inr (.inr (.inr (.inr (fun j => some (ad (i + 1 + j))))))) := by simp [entF, h]
theorem e_Book (h : kd i = (5, 0)) : entF ca ad i f g = .inr (0, [.ref (ad (i + 1)), .ref (ad (i + 2)), .ref (ad (i + 3)), .ref (ad (i + 4)), .ref (ad (i + 5)), .ref (ad (i + 6)), .ref (ad (i + 7)), .int (f 7), .int (f 8), .int (f 9), .int (f 10), .int (f 11)]) := by simp [entF, h]
theorem e_Control (h : kd i = (6, 0)) : entF ca ad i f g = .inr (1, [.ref (ad (i + 1)), .ref (ad (i + 2)), .ref (ad (i + 12))]) := by simp [entF, h]
theorem e_Holdings (h : kd i = (7, 0)) : entF ca ad i f g = .inr (2, [.ref (ad (i + 1)), .ref (ad (i + 7)), .ref (ad (i + 13))]) := by simp [entF, h]
theorem e_Reach (h : kd i = (8, 0)) : entF ca ad i f g = .inr (3, [.ref (ad (i + 1))]) := by simp [entF, h]
theorem e_Stakes (h : kd i = (9, 0)) : entF ca ad i f g = .inr (4, [.int (f 0), .ref (ad (i + 1))]) := by simp [entF, h]
theorem e_Timeline (h : kd i = (10, 0)) : entF ca ad i f g = .inr (5, [.ref (ad (i + 1)), .ref (ad (i + 2)), .int (f 2), .ref (ad (i + 43)), .int (f 4)]) := by simp [entF, h]
theorem e_ControlRegister (h : kd i = (11, 0)) : entF ca ad i f g = .inr (6, [.ref (ad 1), .ref (ad 9), .ref (ad 17), .int (f 3), .ref (ad 25), .ref (ad 53), .ref (ad 79), .ref (ad 86), .int (f 8), .ref (ad 88), .int (f 10), .ref (ad 39), .ref (ad 66)]) := by simp [entF, h]
theorem e_ControlRegisterModel (h : kd i = (12, 0)) : entF ca ad i f g = .inr (7, [.ref (ad 133), .ref (ad 134), .ref (ad 135), .ref (ad 136), .ref (ad 137), .ref (ad 138), .int (f 6), .int (f 7), .ref (ad 139), .ref (ad 140), .ref (ad 141), .ref (ad 142), .ref (ad 143), .ref (ad 144), .int (f 14), .ref (ad 145), .int (f 16), .int (f 17), .int (f 18), .int (f 19), .ref (ad 146), .ref (ad 147), .ref (ad 148), .ref (ad 149), .ref (ad 150)]) := by simp [entF, h]
end
/-- the words of the tables that go with every call -/
def wsAll : List Cond := lw_tbl.filter goodWord
theorem mem_ws {w : Cond} (h : w ∈ lw_tbl) (hg : goodWord w = true) : w ∈ wsAll := List.mem_filter.mpr ⟨h, hg⟩
theorem ws_good : GoodIn wsAll wsAll := fun _ h => ⟨h, good_of_word (List.mem_filter.mp h).2⟩
theorem mem_tb (i : Nat) {w : Cond} (h : tables_1[i]? = some w) (hg : goodWord w = true) : w ∈ wsAll := mem_ws (List.mem_append_right _ (List.mem_of_getElem? h)) hg
theorem mem_sl (i : Nat) {w : Cond} (h : (k2_sels lw_privs)[i]? = some w) (hg : goodWord w = true) : w ∈ wsAll := mem_ws (List.mem_append_left _ (List.mem_of_getElem? h)) hg
/-- the words of nest mates, which a contract carries by itself -/
def nests : List (String × Nat × MethodName) := [("ControlRegister", 11, yX0_init), ("ControlRegister", 24, yX2_init), ("ControlRegister", 31, yX1_init), ("ControlRegister", 38, yX4_init), ("ControlRegister", 45, yX3_init), ("ControlRegister", 52, yX5_init), ("ControlRegister$Book", 62, yX6_asNumber), ("ControlRegister$Control", 31, yX6_has), ("ControlRegister$Holdings", 68, yX6_has), ("ControlRegister$Holdings", 72, yX6_holderOf), ("ControlRegister$Reach", 19, yX6_has), ("ControlRegister$Reach", 29, yX6_holderOf), ("ControlRegister$Stakes", 31, yX6_has), ("ControlRegister$Stakes", 45, yX6_holderOf), ("ControlRegister$Stakes", 63, yX6_asNumber), ("ControlRegister$Timeline", 71, yX6_asNumber), ("ControlRegister$Timeline", 75, yX6_has)]
def NW (U : State) : Prop := ∀ q ∈ nests, va_Nw (.methodLinkNest q.1 q.2.1 q.2.2 "ControlRegister") U
theorem NW.warm {s U : State} (hW : s.WarmedH U.vm) (h : NW s) : NW U := fun q hq => va_Nw.warmM hW (h q hq)
theorem NW.same {u U : State} (hv : u.vm = U.vm) (h : NW u) : NW U := fun q hq => va_Nw.same rfl hv (h q hq)
end
section
/-! THE JUDGEMENT: at a context X (machine, method, frame below, end), from pc with these locals, this stack and this state of the cells, the machine comes to the end -/
abbrev Ctx : Type := Program × Launch × Env × Room × State × MethodId × Array Value × List Frame × Method × Code × Nat × Nat × (State → Prop) × va_G × (Nat → ClassId) × (Nat → Nat)
abbrev Ctx.p (X : Ctx) : Program := X.1
abbrev Ctx.l (X : Ctx) : Launch := X.2.1
abbrev Ctx.e (X : Ctx) : Env := X.2.2.1
abbrev Ctx.R (X : Ctx) : Room := X.2.2.2.1
abbrev Ctx.s (X : Ctx) : State := X.2.2.2.2.1
abbrev Ctx.m (X : Ctx) : MethodId := X.2.2.2.2.2.1
abbrev Ctx.args (X : Ctx) : Array Value := X.2.2.2.2.2.2.1
abbrev Ctx.below (X : Ctx) : List Frame := X.2.2.2.2.2.2.2.1
abbrev Ctx.meth (X : Ctx) : Method := X.2.2.2.2.2.2.2.2.1
abbrev Ctx.c (X : Ctx) : Code := X.2.2.2.2.2.2.2.2.2.1
abbrev Ctx.cells (X : Ctx) : Nat := X.2.2.2.2.2.2.2.2.2.2.1
abbrev Ctx.slots (X : Ctx) : Nat := X.2.2.2.2.2.2.2.2.2.2.2.1
abbrev Ctx.Q (X : Ctx) : State → Prop := X.2.2.2.2.2.2.2.2.2.2.2.2.1
abbrev Ctx.D (X : Ctx) : va_G := X.2.2.2.2.2.2.2.2.2.2.2.2.2.1
abbrev Ctx.ca (X : Ctx) : Nat → ClassId := X.2.2.2.2.2.2.2.2.2.2.2.2.2.2.1
abbrev Ctx.ad (X : Ctx) : Nat → Nat := X.2.2.2.2.2.2.2.2.2.2.2.2.2.2.2
def WX (X : Ctx) (H : Heap) (locs : List Loc) (g : JFrame) : Prop := W X.p X.l X.e X.R X.s X.m X.args X.below X.meth X.c H locs X.cells X.slots X.Q g
def Wl (X : Ctx) (σ : Sg) (H : Heap) (locs : List Loc) : Prop := va_P X.D vwCl (pool X.ca X.ad σ) H ∧ va_D (Aw X.ad X.s.heap.size) (pool X.ca X.ad σ) ∧ va_S (Aw X.ad X.s.heap.size) X.s.heap H locs
def G (X : Ctx) (nL : Nat) (pc : Nat) (lv : List (Nat × Value)) (st : List Value) (σ : Sg) : Prop :=
  ∀ (H : Heap) (locs : List Loc) (ls : Array Slot), Wl X σ H locs → lv_has ls nL lv → WX X H locs (F0 X.m pc ls st)
def Cok (X : Ctx) (kc : ByteArray) (nL : Nat) (ow : String) : Prop := X.p.tables.exec = Jvm.exec ∧ X.c.code = kc ∧ X.c.maxLocals = nL ∧ X.s.vm.findClass ow = some X.m.cls ∧ (∀ w ∈ wsAll, w.before X.args X.s = true) ∧ va_K X.D vwCl (tysA X.ca) X.s ∧ NW X.s ∧ X.meth.locks = false ∧ X.cells ≤ X.R.cells ∧ X.slots ≤ X.R.slots
section
variable {X : Ctx} {kc : ByteArray} {nL : Nat} {ow : String} {pc : Nat} {lv lv' : List (Nat × Value)} {st : List Value} {σ : Sg}
theorem g_iconst (K : Cok X kc nL ow) {n : Int} {v : Int32} (hd : decode kc pc = .ok (.iconst n, 1)) (hv : Int32.ofInt n = v) (k : G X nL (pc + 1) lv (.int v :: st) σ) : G X nL pc lv st σ :=
  fun H locs ls hw hl => lv_iconst K.1 K.2.1 hd hv (k H locs ls hw hl)
theorem g_bipush (K : Cok X kc nL ow) {n : Int} {v : Int32} (hd : decode kc pc = .ok (.bipush n, 2)) (hv : (Int8.ofInt n).toInt32 = v) (k : G X nL (pc + 2) lv (.int v :: st) σ) : G X nL pc lv st σ :=
  fun H locs ls hw hl => lv_bipush K.1 K.2.1 hd hv (k H locs ls hw hl)
theorem g_sipush (K : Cok X kc nL ow) {n : Int} {v : Int32} (hd : decode kc pc = .ok (.sipush n, 3)) (hv : (Int16.ofInt n).toInt32 = v) (k : G X nL (pc + 3) lv (.int v :: st) σ) : G X nL pc lv st σ :=
  fun H locs ls hw hl => lv_sipush K.1 K.2.1 hd hv (k H locs ls hw hl)
theorem g_lconst (K : Cok X kc nL ow) {n : Fin 2} {v : Int64} (hd : decode kc pc = .ok (.lconst n, 1)) (hv : Int64.ofNat (n : Nat) = v) (k : G X nL (pc + 1) lv (.long v :: st) σ) : G X nL pc lv st σ :=
  fun H locs ls hw hl => lv_lconst K.1 K.2.1 hd hv (k H locs ls hw hl)
theorem g_ldc2 (K : Cok X kc nL ow) {idx : Nat} {v : Int64} (hw0 : Cond.constantLong ow idx v ∈ wsAll) (hd : decode kc pc = .ok (.ldc2_w idx, 3)) (k : G X nL (pc + 3) lv (.long v :: st) σ) : G X nL pc lv st σ :=
  fun H locs ls hw hl => lv_ldc2 K.1 K.2.1 K.2.2.2.1 (K.2.2.2.2.1 _ hw0) hd (k H locs ls hw hl)
theorem g_ldcw (K : Cok X kc nL ow) {idx : Nat} {v : Int32} (hw0 : Cond.constant ow idx v ∈ wsAll) (hd : decode kc pc = .ok (.ldc_w idx, 3)) (k : G X nL (pc + 3) lv (.int v :: st) σ) : G X nL pc lv st σ :=
  fun H locs ls hw hl => lv_ldcw K.1 K.2.1 K.2.2.2.1 (K.2.2.2.2.1 _ hw0) hd (k H locs ls hw hl)
theorem g_ldc (K : Cok X kc nL ow) {idx : Nat} {v : Int32} (hw0 : Cond.constant ow idx v ∈ wsAll) (hd : decode kc pc = .ok (.ldc idx, 2)) (k : G X nL (pc + 2) lv (.int v :: st) σ) : G X nL pc lv st σ :=
  fun H locs ls hw hl => lv_ldc K.1 K.2.1 K.2.2.2.1 (K.2.2.2.2.1 _ hw0) hd (k H locs ls hw hl)
theorem g_iload_n (K : Cok X kc nL ow) {q : Fin 4} {i : Nat} {x : Int32} (j : Nat) (hd : decode kc pc = .ok (.iload_n q, 1)) (hi : (q : Nat) = i) (hj : lv[j]? = some (i, .int x)) (k : G X nL (pc + 1) lv (.int x :: st) σ) : G X nL pc lv st σ :=
  fun H locs ls hw hl => lv_iload_n K.1 K.2.1 hd hi (lv_at hl j hj) (k H locs ls hw hl)
theorem g_iload (K : Cok X kc nL ow) {i : Nat} {x : Int32} (j : Nat) (hd : decode kc pc = .ok (.iload i, 2)) (hj : lv[j]? = some (i, .int x)) (k : G X nL (pc + 2) lv (.int x :: st) σ) : G X nL pc lv st σ :=
  fun H locs ls hw hl => lv_iload K.1 K.2.1 hd (lv_at hl j hj) (k H locs ls hw hl)
theorem g_istore_n (K : Cok X kc nL ow) {q : Fin 4} {i : Nat} {x : Int32} (hd : decode kc pc = .ok (.istore_n q, 1)) (hi : (q : Nat) = i) (hn : i < nL) (hl : (i, Value.int x) :: lv.filter (fun q => !(q.1 == i) && !(q.1 + 1 == i && q.2.category == 2)) = lv') (k : G X nL (pc + 1) lv' st σ) : G X nL pc lv (.int x :: st) σ :=
  fun H locs ls hw hl1 => lv_istore_n K.1 K.2.1 hd hi hl1 hn hl (fun ls hl => k H locs ls hw hl)
theorem g_istore (K : Cok X kc nL ow) {i : Nat} {x : Int32} (hd : decode kc pc = .ok (.istore i, 2)) (hn : i < nL) (hl : (i, Value.int x) :: lv.filter (fun q => !(q.1 == i) && !(q.1 + 1 == i && q.2.category == 2)) = lv') (k : G X nL (pc + 2) lv' st σ) : G X nL pc lv (.int x :: st) σ :=
  fun H locs ls hw hl1 => lv_istore K.1 K.2.1 hd hl1 hn hl (fun ls hl => k H locs ls hw hl)
theorem g_lload_n (K : Cok X kc nL ow) {q : Fin 4} {i : Nat} {x : Int64} (j : Nat) (hd : decode kc pc = .ok (.lload_n q, 1)) (hi : (q : Nat) = i) (hj : lv[j]? = some (i, .long x)) (k : G X nL (pc + 1) lv (.long x :: st) σ) : G X nL pc lv st σ :=
  fun H locs ls hw hl => lv_lload_n K.1 K.2.1 hd hi (lv_at hl j hj) (k H locs ls hw hl)
theorem g_lload (K : Cok X kc nL ow) {i : Nat} {x : Int64} (j : Nat) (hd : decode kc pc = .ok (.lload i, 2)) (hj : lv[j]? = some (i, .long x)) (k : G X nL (pc + 2) lv (.long x :: st) σ) : G X nL pc lv st σ :=
  fun H locs ls hw hl => lv_lload K.1 K.2.1 hd (lv_at hl j hj) (k H locs ls hw hl)
theorem g_lstore_n (K : Cok X kc nL ow) {q : Fin 4} {i : Nat} {x : Int64} (hd : decode kc pc = .ok (.lstore_n q, 1)) (hi : (q : Nat) = i) (hn : i + 1 < nL) (hl : (i, Value.long x) :: lv.filter (fun q => !(q.1 == i) && (!(q.1 == i + 1) && !(q.1 + 1 == i && q.2.category == 2))) = lv') (k : G X nL (pc + 1) lv' st σ) : G X nL pc lv (.long x :: st) σ :=
  fun H locs ls hw hl1 => lv_lstore_n K.1 K.2.1 hd hi hl1 hn hl (fun ls hl => k H locs ls hw hl)
theorem g_lstore (K : Cok X kc nL ow) {i : Nat} {x : Int64} (hd : decode kc pc = .ok (.lstore i, 2)) (hn : i + 1 < nL) (hl : (i, Value.long x) :: lv.filter (fun q => !(q.1 == i) && (!(q.1 == i + 1) && !(q.1 + 1 == i && q.2.category == 2))) = lv') (k : G X nL (pc + 2) lv' st σ) : G X nL pc lv (.long x :: st) σ :=
  fun H locs ls hw hl1 => lv_lstore K.1 K.2.1 hd hl1 hn hl (fun ls hl => k H locs ls hw hl)
theorem g_aload_n (K : Cok X kc nL ow) {q : Fin 4} {i : Nat} {x : Nat} (j : Nat) (hd : decode kc pc = .ok (.aload_n q, 1)) (hi : (q : Nat) = i) (hj : lv[j]? = some (i, .ref x)) (k : G X nL (pc + 1) lv (.ref x :: st) σ) : G X nL pc lv st σ :=
  fun H locs ls hw hl => lv_aload_n K.1 K.2.1 hd hi (lv_at hl j hj) (k H locs ls hw hl)
theorem g_aload (K : Cok X kc nL ow) {i : Nat} {x : Nat} (j : Nat) (hd : decode kc pc = .ok (.aload i, 2)) (hj : lv[j]? = some (i, .ref x)) (k : G X nL (pc + 2) lv (.ref x :: st) σ) : G X nL pc lv st σ :=
  fun H locs ls hw hl => lv_aload K.1 K.2.1 hd (lv_at hl j hj) (k H locs ls hw hl)
theorem g_astore_n (K : Cok X kc nL ow) {q : Fin 4} {i : Nat} {x : Nat} (hd : decode kc pc = .ok (.astore_n q, 1)) (hi : (q : Nat) = i) (hn : i < nL) (hl : (i, Value.ref x) :: lv.filter (fun q => !(q.1 == i) && !(q.1 + 1 == i && q.2.category == 2)) = lv') (k : G X nL (pc + 1) lv' st σ) : G X nL pc lv (.ref x :: st) σ :=
  fun H locs ls hw hl1 => lv_astore_n K.1 K.2.1 hd hi hl1 hn hl (fun ls hl => k H locs ls hw hl)
theorem g_astore (K : Cok X kc nL ow) {i : Nat} {x : Nat} (hd : decode kc pc = .ok (.astore i, 2)) (hn : i < nL) (hl : (i, Value.ref x) :: lv.filter (fun q => !(q.1 == i) && !(q.1 + 1 == i && q.2.category == 2)) = lv') (k : G X nL (pc + 2) lv' st σ) : G X nL pc lv (.ref x :: st) σ :=
  fun H locs ls hw hl1 => lv_astore K.1 K.2.1 hd hl1 hn hl (fun ls hl => k H locs ls hw hl)
theorem g_iinc (K : Cok X kc nL ow) {i : Nat} {n : Int} {x v : Int32} (j : Nat) (hd : decode kc pc = .ok (.iinc i n, 3)) (hj : lv[j]? = some (i, .int x)) (hv : x + Int32.ofInt n = v) (hn : i < nL) (hl : (i, Value.int v) :: lv.filter (fun q => !(q.1 == i) && !(q.1 + 1 == i && q.2.category == 2)) = lv') (k : G X nL (pc + 3) lv' st σ) : G X nL pc lv st σ :=
  fun H locs ls hw hl1 => lv_iinc K.1 K.2.1 hd hl1 hj hv hn hl (fun ls hl => k H locs ls hw hl)
theorem g_iadd (K : Cok X kc nL ow) {x y : Int32} (hd : decode kc pc = .ok (.iadd, 1)) (k : G X nL (pc + 1) lv (.int (x + y) :: st) σ) : G X nL pc lv (.int y :: .int x :: st) σ :=
  fun H locs ls hw hl => lv_iadd K.1 K.2.1 hd (k H locs ls hw hl)
theorem g_isub (K : Cok X kc nL ow) {x y : Int32} (hd : decode kc pc = .ok (.isub, 1)) (k : G X nL (pc + 1) lv (.int (x - y) :: st) σ) : G X nL pc lv (.int y :: .int x :: st) σ :=
  fun H locs ls hw hl => lv_isub K.1 K.2.1 hd (k H locs ls hw hl)
theorem g_imul (K : Cok X kc nL ow) {x y : Int32} (hd : decode kc pc = .ok (.imul, 1)) (k : G X nL (pc + 1) lv (.int (x * y) :: st) σ) : G X nL pc lv (.int y :: .int x :: st) σ :=
  fun H locs ls hw hl => lv_imul K.1 K.2.1 hd (k H locs ls hw hl)
theorem g_iand (K : Cok X kc nL ow) {x y : Int32} (hd : decode kc pc = .ok (.iand, 1)) (k : G X nL (pc + 1) lv (.int (x &&& y) :: st) σ) : G X nL pc lv (.int y :: .int x :: st) σ :=
  fun H locs ls hw hl => lv_iand K.1 K.2.1 hd (k H locs ls hw hl)
theorem g_ior (K : Cok X kc nL ow) {x y : Int32} (hd : decode kc pc = .ok (.ior, 1)) (k : G X nL (pc + 1) lv (.int (x ||| y) :: st) σ) : G X nL pc lv (.int y :: .int x :: st) σ :=
  fun H locs ls hw hl => lv_ior K.1 K.2.1 hd (k H locs ls hw hl)
theorem g_ixor (K : Cok X kc nL ow) {x y : Int32} (hd : decode kc pc = .ok (.ixor, 1)) (k : G X nL (pc + 1) lv (.int (x ^^^ y) :: st) σ) : G X nL pc lv (.int y :: .int x :: st) σ :=
  fun H locs ls hw hl => lv_ixor K.1 K.2.1 hd (k H locs ls hw hl)
theorem g_ishl (K : Cok X kc nL ow) {x y : Int32} (hd : decode kc pc = .ok (.ishl, 1)) (k : G X nL (pc + 1) lv (.int (x <<< (y &&& 31)) :: st) σ) : G X nL pc lv (.int y :: .int x :: st) σ :=
  fun H locs ls hw hl => lv_ishl K.1 K.2.1 hd (k H locs ls hw hl)
theorem g_ishr (K : Cok X kc nL ow) {x y : Int32} (hd : decode kc pc = .ok (.ishr, 1)) (k : G X nL (pc + 1) lv (.int (x >>> (y &&& 31)) :: st) σ) : G X nL pc lv (.int y :: .int x :: st) σ :=
  fun H locs ls hw hl => lv_ishr K.1 K.2.1 hd (k H locs ls hw hl)
theorem g_idiv (K : Cok X kc nL ow) {x y : Int32} (hd : decode kc pc = .ok (.idiv, 1)) (hne : ¬ y = 0) (k : G X nL (pc + 1) lv (.int (x / y) :: st) σ) : G X nL pc lv (.int y :: .int x :: st) σ :=
  fun H locs ls hw hl => lv_idiv K.1 K.2.1 hd hne (k H locs ls hw hl)
theorem g_irem (K : Cok X kc nL ow) {x y : Int32} (hd : decode kc pc = .ok (.irem, 1)) (hne : ¬ y = 0) (k : G X nL (pc + 1) lv (.int (x - x / y * y) :: st) σ) : G X nL pc lv (.int y :: .int x :: st) σ :=
  fun H locs ls hw hl => lv_irem K.1 K.2.1 hd hne (k H locs ls hw hl)
theorem g_iushr (K : Cok X kc nL ow) {x y v : Int32} (hd : decode kc pc = .ok (.iushr, 1)) (hv : (x.toUInt32 >>> (y.toUInt32 &&& Int32.toUInt32 31)).toInt32 = v) (k : G X nL (pc + 1) lv (.int v :: st) σ) : G X nL pc lv (.int y :: .int x :: st) σ :=
  fun H locs ls hw hl => lv_iushr K.1 K.2.1 hd hv (k H locs ls hw hl)
theorem g_ineg (K : Cok X kc nL ow) {x : Int32} (hd : decode kc pc = .ok (.ineg, 1)) (k : G X nL (pc + 1) lv (.int (-x) :: st) σ) : G X nL pc lv (.int x :: st) σ :=
  fun H locs ls hw hl => lv_ineg K.1 K.2.1 hd (k H locs ls hw hl)
theorem g_ladd (K : Cok X kc nL ow) {x y : Int64} (hd : decode kc pc = .ok (.ladd, 1)) (k : G X nL (pc + 1) lv (.long (x + y) :: st) σ) : G X nL pc lv (.long y :: .long x :: st) σ :=
  fun H locs ls hw hl => lv_ladd K.1 K.2.1 hd (k H locs ls hw hl)
theorem g_lsub (K : Cok X kc nL ow) {x y : Int64} (hd : decode kc pc = .ok (.lsub, 1)) (k : G X nL (pc + 1) lv (.long (x - y) :: st) σ) : G X nL pc lv (.long y :: .long x :: st) σ :=
  fun H locs ls hw hl => lv_lsub K.1 K.2.1 hd (k H locs ls hw hl)
theorem g_lmul (K : Cok X kc nL ow) {x y : Int64} (hd : decode kc pc = .ok (.lmul, 1)) (k : G X nL (pc + 1) lv (.long (x * y) :: st) σ) : G X nL pc lv (.long y :: .long x :: st) σ :=
  fun H locs ls hw hl => lv_lmul K.1 K.2.1 hd (k H locs ls hw hl)
theorem g_ldiv (K : Cok X kc nL ow) {x y : Int64} (hd : decode kc pc = .ok (.ldiv, 1)) (hne : ¬ y = 0) (k : G X nL (pc + 1) lv (.long (x / y) :: st) σ) : G X nL pc lv (.long y :: .long x :: st) σ :=
  fun H locs ls hw hl => lv_ldiv K.1 K.2.1 hd hne (k H locs ls hw hl)
theorem g_lrem (K : Cok X kc nL ow) {x y : Int64} (hd : decode kc pc = .ok (.lrem, 1)) (hne : ¬ y = 0) (k : G X nL (pc + 1) lv (.long (x - x / y * y) :: st) σ) : G X nL pc lv (.long y :: .long x :: st) σ :=
  fun H locs ls hw hl => lv_lrem K.1 K.2.1 hd hne (k H locs ls hw hl)
theorem g_lneg (K : Cok X kc nL ow) {x : Int64} (hd : decode kc pc = .ok (.lneg, 1)) (k : G X nL (pc + 1) lv (.long (-x) :: st) σ) : G X nL pc lv (.long x :: st) σ :=
  fun H locs ls hw hl => lv_lneg K.1 K.2.1 hd (k H locs ls hw hl)
theorem g_i2l (K : Cok X kc nL ow) {x : Int32} (hd : decode kc pc = .ok (.i2l, 1)) (k : G X nL (pc + 1) lv (.long x.toInt64 :: st) σ) : G X nL pc lv (.int x :: st) σ :=
  fun H locs ls hw hl => lv_i2l K.1 K.2.1 hd rfl (k H locs ls hw hl)
theorem g_lcmp (K : Cok X kc nL ow) {x y : Int64} (hd : decode kc pc = .ok (.lcmp, 1)) (k : G X nL (pc + 1) lv (.int (lg_cmp x y) :: st) σ) : G X nL pc lv (.long y :: .long x :: st) σ :=
  fun H locs ls hw hl => W.lcmp K.1 K.2.1 hd (k H locs ls hw hl)
theorem g_dup (K : Cok X kc nL ow) {va : Value} (hd : decode kc pc = .ok (.dup, 1)) (hva : va.category = 1) (k : G X nL (pc + 1) lv (va :: va :: st) σ) : G X nL pc lv (va :: st) σ :=
  fun H locs ls hw hl => lv_dup K.1 K.2.1 hd hva (k H locs ls hw hl)
theorem g_pop (K : Cok X kc nL ow) {va : Value} (hd : decode kc pc = .ok (.pop, 1)) (hva : va.category = 1) (k : G X nL (pc + 1) lv st σ) : G X nL pc lv (va :: st) σ :=
  fun H locs ls hw hl => lv_pop K.1 K.2.1 hd hva (k H locs ls hw hl)
theorem g_dup_x1 (K : Cok X kc nL ow) {va vb : Value} (hd : decode kc pc = .ok (.dup_x1, 1)) (hva : va.category = 1) (hvb : vb.category = 1) (k : G X nL (pc + 1) lv (va :: vb :: va :: st) σ) : G X nL pc lv (va :: vb :: st) σ :=
  fun H locs ls hw hl => lv_dup_x1 K.1 K.2.1 hd hva hvb (k H locs ls hw hl)
theorem g_dup2 (K : Cok X kc nL ow) {va vb : Value} (hd : decode kc pc = .ok (.dup2, 1)) (hva : va.category = 1) (hvb : vb.category = 1) (k : G X nL (pc + 1) lv (va :: vb :: va :: vb :: st) σ) : G X nL pc lv (va :: vb :: st) σ :=
  fun H locs ls hw hl => lv_dup2_11 K.1 K.2.1 hd hva hvb (k H locs ls hw hl)
theorem g_if_eq (K : Cok X kc nL ow) {x : Int32} {off : Int} {tgt : Nat} (hd : decode kc pc = .ok (.ifCond .eq off, 3)) (ht : (pc : Int) + off = (tgt : Int)) (kt : x = 0 → G X nL tgt lv st σ) (kf : ¬ x = 0 → G X nL (pc + 3) lv st σ) : G X nL pc lv (.int x :: st) σ :=
  fun H locs ls hw hl => lv_if_eq K.1 K.2.1 hd ht (fun h => kt h H locs ls hw hl) (fun h => kf h H locs ls hw hl)
theorem g_icmp_eq (K : Cok X kc nL ow) {x y : Int32} {off : Int} {tgt : Nat} (hd : decode kc pc = .ok (.if_icmp .eq off, 3)) (ht : (pc : Int) + off = (tgt : Int)) (kt : x = y → G X nL tgt lv st σ) (kf : ¬ x = y → G X nL (pc + 3) lv st σ) : G X nL pc lv (.int y :: .int x :: st) σ :=
  fun H locs ls hw hl => lv_icmp_eq K.1 K.2.1 hd ht (fun h => kt h H locs ls hw hl) (fun h => kf h H locs ls hw hl)
theorem g_if_ne (K : Cok X kc nL ow) {x : Int32} {off : Int} {tgt : Nat} (hd : decode kc pc = .ok (.ifCond .ne off, 3)) (ht : (pc : Int) + off = (tgt : Int)) (kt : ¬ x = 0 → G X nL tgt lv st σ) (kf : x = 0 → G X nL (pc + 3) lv st σ) : G X nL pc lv (.int x :: st) σ :=
  fun H locs ls hw hl => lv_if_ne K.1 K.2.1 hd ht (fun h => kt h H locs ls hw hl) (fun h => kf h H locs ls hw hl)
theorem g_icmp_ne (K : Cok X kc nL ow) {x y : Int32} {off : Int} {tgt : Nat} (hd : decode kc pc = .ok (.if_icmp .ne off, 3)) (ht : (pc : Int) + off = (tgt : Int)) (kt : ¬ x = y → G X nL tgt lv st σ) (kf : x = y → G X nL (pc + 3) lv st σ) : G X nL pc lv (.int y :: .int x :: st) σ :=
  fun H locs ls hw hl => lv_icmp_ne K.1 K.2.1 hd ht (fun h => kt h H locs ls hw hl) (fun h => kf h H locs ls hw hl)
theorem g_if_lt (K : Cok X kc nL ow) {x : Int32} {off : Int} {tgt : Nat} (hd : decode kc pc = .ok (.ifCond .lt off, 3)) (ht : (pc : Int) + off = (tgt : Int)) (kt : x < 0 → G X nL tgt lv st σ) (kf : ¬ x < 0 → G X nL (pc + 3) lv st σ) : G X nL pc lv (.int x :: st) σ :=
  fun H locs ls hw hl => lv_if_lt K.1 K.2.1 hd ht (fun h => kt h H locs ls hw hl) (fun h => kf h H locs ls hw hl)
theorem g_icmp_lt (K : Cok X kc nL ow) {x y : Int32} {off : Int} {tgt : Nat} (hd : decode kc pc = .ok (.if_icmp .lt off, 3)) (ht : (pc : Int) + off = (tgt : Int)) (kt : x < y → G X nL tgt lv st σ) (kf : ¬ x < y → G X nL (pc + 3) lv st σ) : G X nL pc lv (.int y :: .int x :: st) σ :=
  fun H locs ls hw hl => lv_icmp_lt K.1 K.2.1 hd ht (fun h => kt h H locs ls hw hl) (fun h => kf h H locs ls hw hl)
theorem g_if_ge (K : Cok X kc nL ow) {x : Int32} {off : Int} {tgt : Nat} (hd : decode kc pc = .ok (.ifCond .ge off, 3)) (ht : (pc : Int) + off = (tgt : Int)) (kt : 0 ≤ x → G X nL tgt lv st σ) (kf : ¬ 0 ≤ x → G X nL (pc + 3) lv st σ) : G X nL pc lv (.int x :: st) σ :=
  fun H locs ls hw hl => lv_if_ge K.1 K.2.1 hd ht (fun h => kt h H locs ls hw hl) (fun h => kf h H locs ls hw hl)
theorem g_icmp_ge (K : Cok X kc nL ow) {x y : Int32} {off : Int} {tgt : Nat} (hd : decode kc pc = .ok (.if_icmp .ge off, 3)) (ht : (pc : Int) + off = (tgt : Int)) (kt : y ≤ x → G X nL tgt lv st σ) (kf : ¬ y ≤ x → G X nL (pc + 3) lv st σ) : G X nL pc lv (.int y :: .int x :: st) σ :=
  fun H locs ls hw hl => lv_icmp_ge K.1 K.2.1 hd ht (fun h => kt h H locs ls hw hl) (fun h => kf h H locs ls hw hl)
theorem g_if_gt (K : Cok X kc nL ow) {x : Int32} {off : Int} {tgt : Nat} (hd : decode kc pc = .ok (.ifCond .gt off, 3)) (ht : (pc : Int) + off = (tgt : Int)) (kt : 0 < x → G X nL tgt lv st σ) (kf : ¬ 0 < x → G X nL (pc + 3) lv st σ) : G X nL pc lv (.int x :: st) σ :=
  fun H locs ls hw hl => lv_if_gt K.1 K.2.1 hd ht (fun h => kt h H locs ls hw hl) (fun h => kf h H locs ls hw hl)
theorem g_icmp_gt (K : Cok X kc nL ow) {x y : Int32} {off : Int} {tgt : Nat} (hd : decode kc pc = .ok (.if_icmp .gt off, 3)) (ht : (pc : Int) + off = (tgt : Int)) (kt : y < x → G X nL tgt lv st σ) (kf : ¬ y < x → G X nL (pc + 3) lv st σ) : G X nL pc lv (.int y :: .int x :: st) σ :=
  fun H locs ls hw hl => lv_icmp_gt K.1 K.2.1 hd ht (fun h => kt h H locs ls hw hl) (fun h => kf h H locs ls hw hl)
theorem g_if_le (K : Cok X kc nL ow) {x : Int32} {off : Int} {tgt : Nat} (hd : decode kc pc = .ok (.ifCond .le off, 3)) (ht : (pc : Int) + off = (tgt : Int)) (kt : x ≤ 0 → G X nL tgt lv st σ) (kf : ¬ x ≤ 0 → G X nL (pc + 3) lv st σ) : G X nL pc lv (.int x :: st) σ :=
  fun H locs ls hw hl => lv_if_le K.1 K.2.1 hd ht (fun h => kt h H locs ls hw hl) (fun h => kf h H locs ls hw hl)
theorem g_icmp_le (K : Cok X kc nL ow) {x y : Int32} {off : Int} {tgt : Nat} (hd : decode kc pc = .ok (.if_icmp .le off, 3)) (ht : (pc : Int) + off = (tgt : Int)) (kt : x ≤ y → G X nL tgt lv st σ) (kf : ¬ x ≤ y → G X nL (pc + 3) lv st σ) : G X nL pc lv (.int y :: .int x :: st) σ :=
  fun H locs ls hw hl => lv_icmp_le K.1 K.2.1 hd ht (fun h => kt h H locs ls hw hl) (fun h => kf h H locs ls hw hl)
theorem g_goto (K : Cok X kc nL ow) {off : Int} {tgt : Nat} (hd : decode kc pc = .ok (.goto off, 3)) (ht : (pc : Int) + off = (tgt : Int)) (k : G X nL tgt lv st σ) : G X nL pc lv st σ :=
  fun H locs ls hw hl => lv_goto K.1 K.2.1 hd ht (k H locs ls hw hl)
theorem g_tableIn (K : Cok X kc nL ow) {dflt lo hi : Int} {offs : Array Int} {len : Nat} {x y : Int32} {off : Int} {tgt : Nat} (hd : decode kc pc = .ok (.tableswitch dflt lo hi offs, len)) (hy : x = y) (h1 : ¬ y.toInt < lo) (h2 : ¬ hi < y.toInt) (ho : offs[(y.toInt - lo).toNat]? = some off) (ht : (pc : Int) + off = (tgt : Int)) (k : G X nL tgt lv st σ) : G X nL pc lv (.int x :: st) σ :=
  fun H locs ls hw hl => lv_tableIn K.1 K.2.1 hd (by rw [hy]; exact h1) (by rw [hy]; exact h2) (by rw [hy]; exact ho) ht (k H locs ls hw hl)
theorem g_tableOut (K : Cok X kc nL ow) {dflt lo hi : Int} {offs : Array Int} {len : Nat} {x : Int32} {tgt : Nat} (hd : decode kc pc = .ok (.tableswitch dflt lo hi offs, len)) (h : x.toInt < lo ∨ hi < x.toInt) (ht : (pc : Int) + dflt = (tgt : Int)) (k : G X nL tgt lv st σ) : G X nL pc lv (.int x :: st) σ :=
  fun H locs ls hw hl => lv_tableOut K.1 K.2.1 hd h ht (k H locs ls hw hl)
theorem g_lookup (K : Cok X kc nL ow) {dflt : Int} {ps : Array (Int × Int)} {len : Nat} {x : Int32} {off : Int} {tgt : Nat} (hd : decode kc pc = .ok (.lookupswitch dflt ps, len)) (hp : (ps.toList.zip (ps.toList.drop 1)).all (fun (a, next) => a.1 < next.1) = true) (ho : Op.lookupswitch.offset ps.toList dflt x.toInt = off) (ht : (pc : Int) + off = (tgt : Int)) (k : G X nL tgt lv st σ) : G X nL pc lv (.int x :: st) σ :=
  fun H locs ls hw hl => lv_lookup K.1 K.2.1 hd hp ho ht (k H locs ls hw hl)
theorem g_sub (ks : List Nat) (hk : lv_pick lv ks = lv') (k : G X nL pc lv' st σ) : G X nL pc lv st σ :=
  fun H locs ls hw hl => k H locs ls hw (lv_sub hl ks hk)
/-- what a guard of an index says -/
abbrev inb (x : Int32) (n : Nat) : Prop := 0 ≤ x.toInt ∧ x.toInt < n
theorem inb.vp {x : Int32} {n : Nat} (h : inb x n) : vp_in x n := vp_in_iff.mpr h
theorem g_get (K : Cok X kc nL ow) {i ci : Nat} {fs : List Value} {v : Value} (he : entF X.ca X.ad i (σ.1 i) (σ.2 i) = .inr (ci, fs)) (hi : i < NN) {C : String} {T : u_T} {N idx : Nat} (hc : vwCl[ci]? = some (C, T, N)) (j : Nat) (hj : j < N) (hv : fs[j]? = some v) (hw0 : Cond.fieldLink ow idx (T j).1 (T j).2.1 (T j).2.2.1 ∈ wsAll) (hu : ∀ w ∈ u_ws C T N, w ∈ wsAll) (hd : decode kc pc = .ok (.getfield idx, 3)) (k : G X nL (pc + 3) lv (v :: st) σ) : G X nL pc lv (.ref (X.ad i) :: st) σ :=
  fun H locs ls hw hl => va_get K.1 K.2.1 K.2.2.2.2.1 hu K.2.2.2.1 K.2.2.2.2.2.1 hw.1 i ((pool_at hi).trans (by rw [he])) hc j hj (K.2.2.2.2.1 _ hw0) (fun _ h9 => h9) hv hd (k H locs ls hw hl)
theorem g_put (K : Cok X kc nL ow) {i ci : Nat} {fs : List Value} {v : Value} {f' : Nat → Int32} (he : entF X.ca X.ad i (σ.1 i) (σ.2 i) = .inr (ci, fs)) (hi : i < NN) {C : String} {T : u_T} {N idx : Nat} (hc : vwCl[ci]? = some (C, T, N)) (j : Nat) (hj : j < N) (he' : entF X.ca X.ad i f' (σ.2 i) = .inr (ci, fs.set j v)) (ty0 : Nat → FieldType) (hty : ∀ k, k < N → parseFieldDescriptor (T k).2.2.1 = some (ty0 k)) (hnm : ∀ a, a < N → ∀ b, b < N → a ≠ b → (T a).2.1 ≠ (T b).2.1) (hfin : (T j).2.2.2 = false) {ty : FieldType} (hd0 : parseFieldDescriptor (T j).2.2.1 = some ty) (hn : narrow ty v = v) (hfit : fits ty v = true) (hlen : j < fs.length) (hw0 : Cond.fieldLink ow idx (T j).1 (T j).2.1 (T j).2.2.1 ∈ wsAll) (hu : ∀ w ∈ u_ws C T N, w ∈ wsAll) (hd : decode kc pc = .ok (.putfield idx, 3)) (k : ∀ σ', σ' = setR σ i f' → G X nL (pc + 3) lv st σ') : G X nL pc lv (v :: .ref (X.ad i) :: st) σ :=
  fun H locs ls hw hl => va_put K.1 K.2.1 K.2.2.2.2.1 hu ty0 hty hnm K.2.2.2.1 K.2.2.2.2.2.1 hw.1 hw.2.1 hw.2.2 i ((pool_at hi).trans (by rw [he])) hc j hj (K.2.2.2.2.1 _ hw0) (fun _ h9 => h9) hfin hd0 hn hfit hlen hd (fun H1 locs1 hP hD hS => by
    rw [pool_setR hi he'.symm] at hP hD
    exact k _ rfl H1 locs1 ls ⟨hP, hD, hS⟩ hl)
theorem g_iald (K : Cok X kc nL ow) {i n : Nat} {x : Int32} (hk : kd i = (0, n)) (hi : i < NN) (hin : inb x n) (hd : decode kc pc = .ok (.iaload, 1)) (k : G X nL (pc + 1) lv (.int (σ.1 i x.toNatClampNeg) :: st) σ) : G X nL pc lv (.int x :: .ref (X.ad i) :: st) σ :=
  fun H locs ls hw hl => va_iald K.1 K.2.1 K.2.2.2.2.2.1 hw.1 i 0 ((pool_at hi).trans (by rw [e_ia hk])) rfl hin.vp hd (k H locs ls hw hl)
theorem g_zald (K : Cok X kc nL ow) {i n : Nat} {x : Int32} (hk : kd i = (2, n)) (hi : i < NN) (hin : inb x n) (hd : decode kc pc = .ok (.baload, 1)) (k : G X nL (pc + 1) lv (.int (σ.1 i x.toNatClampNeg) :: st) σ) : G X nL pc lv (.int x :: .ref (X.ad i) :: st) σ :=
  fun H locs ls hw hl => va_zald K.1 K.2.1 K.2.2.2.2.2.1 hw.1 i 2 ((pool_at hi).trans (by rw [e_za hk])) rfl hin.vp hd (k H locs ls hw hl)
theorem g_lald (K : Cok X kc nL ow) {i n : Nat} {x : Int32} (hk : kd i = (1, n)) (hi : i < NN) (hin : inb x n) (hd : decode kc pc = .ok (.laload, 1)) (k : G X nL (pc + 1) lv (.long (σ.2 i x.toNatClampNeg) :: st) σ) : G X nL pc lv (.int x :: .ref (X.ad i) :: st) σ :=
  fun H locs ls hw hl => va_lald K.1 K.2.1 K.2.2.2.2.2.1 hw.1 i 1 ((pool_at hi).trans (by rw [e_la hk])) rfl hin.vp hd (k H locs ls hw hl)
theorem va_aldA {p : Program} {l : Launch} {e : Env} {R : Room} {s : State} {m : MethodId} {args : Array Value} {below : List Frame} {meth : Method} {c : Code} {H : Heap} {locs : List Loc} {cells slots : Nat} {Q : State → Prop} {cc : ByteArray} {pc : Nat} {ls : Array Slot} {rest : List Value} {D : va_G} {cl : List vw_C} {a : Nat} {tys : List (ClassId × FieldType)} {ws : va_W} (hexec : p.tables.exec = Jvm.exec) (hb : c.code = cc) (hK : va_K D cl tys s) (hP : va_P D cl ws H) (q0 t0 : Nat) {cA : ClassId} {t : FieldType} {n : Nat} {f : Nat → Option Nat} (ha : ws[q0]? = some (a, .inl (cA, n, .inr (.inr (.inr (.inr f)))))) (ht : tys[t0]? = some (cA, .array t)) {i : Int32} (hin : vp_in i n) (hdg : decode cc pc = .ok (.aaload, 1))
    (kk : W p l e R s m args below meth c H locs cells slots Q (F0 m (pc + 1) ls (va_rf (f i.toNatClampNeg) :: rest))) : W p l e R s m args below meth c H locs cells slots Q (F0 m pc ls (.int i :: .ref a :: rest)) := by
  have hlt : i.toNatClampNeg < n := Nat.not_le.mp fun q => hin (Or.inr q)
  exact W.aald (v := va_rf (f i.toNatClampNeg)) (ty := .array t) hexec hb (hP q0 _ ha) ((hK.2 t0 _ ht).1 n (fun j => va_rf (f j))) rfl (fun q => by cases q) (by show ¬ (i < 0 ∨ (arrV _ _ _).slots.size ≤ _); rw [arrV_size]; exact hin) (by show (arrV _ _ _).slots[_]? = _; rw [arrV_read _ _ hlt]) rfl rfl hdg kk
theorem g_aaldI (K : Cok X kc nL ow) {i n : Nat} {x : Int32} (hk : kd i = (3, n)) (hi : i < NN) (hin : inb x n) (hd : decode kc pc = .ok (.aaload, 1)) (k : G X nL (pc + 1) lv (.ref (X.ad (i + 1 + x.toNatClampNeg)) :: st) σ) : G X nL pc lv (.int x :: .ref (X.ad i) :: st) σ :=
  fun H locs ls hw hl => va_aldA (f := fun j => some (X.ad (i + 1 + j))) K.1 K.2.1 K.2.2.2.2.2.1 hw.1 i 3 ((pool_at hi).trans (by rw [e_iia hk])) rfl hin.vp hd (k H locs ls hw hl)
theorem g_aaldL (K : Cok X kc nL ow) {i n : Nat} {x : Int32} (hk : kd i = (4, n)) (hi : i < NN) (hin : inb x n) (hd : decode kc pc = .ok (.aaload, 1)) (k : G X nL (pc + 1) lv (.ref (X.ad (i + 1 + x.toNatClampNeg)) :: st) σ) : G X nL pc lv (.int x :: .ref (X.ad i) :: st) σ :=
  fun H locs ls hw hl => va_aldA (f := fun j => some (X.ad (i + 1 + j))) K.1 K.2.1 K.2.2.2.2.2.1 hw.1 i 4 ((pool_at hi).trans (by rw [e_lla hk])) rfl hin.vp hd (k H locs ls hw hl)
theorem g_iast (K : Cok X kc nL ow) {i n : Nat} {x v : Int32} (hk : kd i = (0, n)) (hi : i < NN) (hin : inb x n) (hd : decode kc pc = .ok (.iastore, 1)) (k : ∀ σ', σ' = setR σ i (upd (σ.1 i) x.toNatClampNeg v) → G X nL (pc + 1) lv st σ') : G X nL pc lv (.int v :: .int x :: .ref (X.ad i) :: st) σ :=
  fun H locs ls hw hl => va_iast K.1 K.2.1 K.2.2.2.2.2.1 hw.1 hw.2.1 hw.2.2 i 0 ((pool_at hi).trans (by rw [e_ia hk])) rfl hin.vp hd (fun H1 locs1 hP hD hS => by
    rw [pool_setR hi (e_ia hk).symm] at hP hD
    exact k _ rfl H1 locs1 ls ⟨hP, hD, hS⟩ hl)
theorem g_zast (K : Cok X kc nL ow) {i n : Nat} {x v : Int32} (hk : kd i = (2, n)) (hi : i < NN) (hin : inb x n) (hd : decode kc pc = .ok (.bastore, 1)) (k : ∀ σ', σ' = setR σ i (upd (σ.1 i) x.toNatClampNeg (vp_nar .boolean v)) → G X nL (pc + 1) lv st σ') : G X nL pc lv (.int v :: .int x :: .ref (X.ad i) :: st) σ :=
  fun H locs ls hw hl => va_zast K.1 K.2.1 K.2.2.2.2.2.1 hw.1 hw.2.1 hw.2.2 i 2 ((pool_at hi).trans (by rw [e_za hk])) rfl hin.vp hd (fun H1 locs1 hP hD hS => by
    rw [pool_setR hi (e_za hk).symm] at hP hD
    exact k _ rfl H1 locs1 ls ⟨hP, hD, hS⟩ hl)
theorem g_last (K : Cok X kc nL ow) {i n : Nat} {x : Int32} {v : Int64} (hk : kd i = (1, n)) (hi : i < NN) (hin : inb x n) (hd : decode kc pc = .ok (.lastore, 1)) (k : ∀ σ', σ' = setL σ i (vp_updL (σ.2 i) x.toNatClampNeg v) → G X nL (pc + 1) lv st σ') : G X nL pc lv (.long v :: .int x :: .ref (X.ad i) :: st) σ :=
  fun H locs ls hw hl => va_last K.1 K.2.1 K.2.2.2.2.2.1 hw.1 hw.2.1 hw.2.2 i 1 ((pool_at hi).trans (by rw [e_la hk])) rfl hin.vp hd (fun H1 locs1 hP hD hS => by
    rw [pool_setL hi (e_la hk).symm] at hP hD
    exact k _ rfl H1 locs1 ls ⟨hP, hD, hS⟩ hl)
end
end
section
/-! CONTRACTS: a method, from arguments and a state of the cells, ends with this answer and this state; and the rows that use them -/
def Pcw (D : va_G) (ca : Nat → ClassId) (ad : Nat → Nat) (av : List Value) (σ : Sg) (sz : Nat) : Array Value → State → Prop :=
  va_Pc av (fun U => U.heap.size = sz ∧ va_P D vwCl (pool ca ad σ) U.heap ∧ va_K D vwCl (tysA ca) U ∧ va_D (fun _ => True) (pool ca ad σ) ∧ NW U)
def Bw (D : va_G) (ca : Nat → ClassId) (ad : Nat → Nat) (sz : Nat) (σ : Sg) (t : State) : Prop := va_P D vwCl (pool ca ad σ) t.heap ∧ va_D (Aw ad sz) (pool ca ad σ)
theorem pool_self {ca : Nat → ClassId} {ad : Nat → Nat} {σ : Sg} {A : Nat → Prop} (sz : Nat) (h : va_D A (pool ca ad σ)) : va_D (Aw ad sz) (pool ca ad σ) := by
  refine ⟨h.1, fun k q hq => Or.inl ⟨k, ?_⟩⟩
  have hk : k < NN := by
    have := (List.getElem?_eq_some_iff.mp hq).1
    rwa [pool_len] at this
  refine ⟨hk, ?_⟩
  rw [pool_at hk] at hq
  rw [← Option.some.inj hq]
theorem Pcw_blind {D : va_G} {ca : Nat → ClassId} {ad : Nat → Nat} {av : List Value} {σ : Sg} {sz : Nat} : FrameBlind (Pcw D ca ad av σ sz) := by
  intro a U g mk q
  obtain ⟨q0, q1, qP, qK, qD, qN⟩ := q
  exact ⟨q0, q1, qP, va_K.moved (u := U) (U := U.calling g mk a) (Vm.Alike.refl U.vm) qK, qD, NW.same (u := U) (U := U.calling g mk a) rfl qN⟩
def rmc (rf rl : Nat) : Room := { frames := rf, cells := 0, slots := 0, locals := rl }
def wsY (y : MethodName) (cc : ByteArray) (mx : Nat) (ret : Option FieldType) : List Cond := .code y cc mx ret :: wsAll
def CI (y : MethodName) (cc : ByteArray) (mx : Nat) (ret : Option FieldType) (rf rl : Nat) (av : (Nat → Nat) → List Value) (σ : Sg) (r : Int32) (σ' : Sg) : Prop := ∀ (l : Launch) (D : va_G) (ca : Nat → ClassId) (ad : Nat → Nat) (sz : Nat),
  Met l y (wsY y cc mx ret) (rmc rf rl) (Pcw D ca ad (av ad) σ sz) (va_Qi (fun r1 u => r1 = r ∧ u = σ') (Bw D ca ad sz) (Aw ad sz)) 0 0 (Aw ad sz)
def CL (y : MethodName) (cc : ByteArray) (mx : Nat) (ret : Option FieldType) (rf rl : Nat) (av : (Nat → Nat) → List Value) (σ : Sg) (r : Int64) (σ' : Sg) : Prop := ∀ (l : Launch) (D : va_G) (ca : Nat → ClassId) (ad : Nat → Nat) (sz : Nat),
  Met l y (wsY y cc mx ret) (rmc rf rl) (Pcw D ca ad (av ad) σ sz) (va_Ql (fun r1 u => r1 = r ∧ u = σ') (Bw D ca ad sz) (Aw ad sz)) 0 0 (Aw ad sz)
def CV (y : MethodName) (cc : ByteArray) (mx : Nat) (ret : Option FieldType) (rf rl : Nat) (av : (Nat → Nat) → List Value) (σ : Sg) (σ' : Sg) : Prop := ∀ (l : Launch) (D : va_G) (ca : Nat → ClassId) (ad : Nat → Nat) (sz : Nat),
  Met l y (wsY y cc mx ret) (rmc rf rl) (Pcw D ca ad (av ad) σ sz) (va_Qv (fun u => u = σ') (Bw D ca ad sz) (Aw ad sz)) 0 0 (Aw ad sz)
def CA (y : MethodName) (cc : ByteArray) (mx : Nat) (ret : Option FieldType) (rf rl : Nat) (av : (Nat → Nat) → List Value) (σ : Sg) (r : Nat) (σ' : Sg) : Prop := ∀ (l : Launch) (D : va_G) (ca : Nat → ClassId) (ad : Nat → Nat) (sz : Nat),
  Met l y (wsY y cc mx ret) (rmc rf rl) (Pcw D ca ad (av ad) σ sz) (va_Qr (fun u => u = σ') (fun u a t => a = ad r ∧ Bw D ca ad sz u t) (Aw ad sz)) 0 0 (Aw ad sz)
/-- what a return may answer -/
def RI (X : Ctx) (kc : ByteArray) (nL : Nat) (res : Int32 × Sg) : Prop := ∀ (pc : Nat) (lv : List (Nat × Value)) (v : Int32) (σ : Sg), decode kc pc = .ok (.ireturn, 1) → (v, σ) = res → G X nL pc lv [.int v] σ
def RZ (X : Ctx) (kc : ByteArray) (nL : Nat) (res : Int32 × Sg) : Prop := ∀ (pc : Nat) (lv : List (Nat × Value)) (v : Int32) (σ : Sg), decode kc pc = .ok (.ireturn, 1) → (v, σ) = res → narrow .boolean (.int v) = .int v → G X nL pc lv [.int v] σ
def RLg (X : Ctx) (kc : ByteArray) (nL : Nat) (res : Int64 × Sg) : Prop := ∀ (pc : Nat) (lv : List (Nat × Value)) (v : Int64) (σ : Sg), decode kc pc = .ok (.lreturn, 1) → (v, σ) = res → G X nL pc lv [.long v] σ
def RV (X : Ctx) (kc : ByteArray) (nL : Nat) (res : Sg) : Prop := ∀ (pc : Nat) (lv : List (Nat × Value)) (σ : Sg), decode kc pc = .ok (.return_, 1) → σ = res → G X nL pc lv [] σ
def RA (X : Ctx) (kc : ByteArray) (nL : Nat) (res : Nat × Sg) : Prop := ∀ (pc : Nat) (lv : List (Nat × Value)) (v : Nat) (σ : Sg), decode kc pc = .ok (.areturn, 1) → (v, σ) = res → G X nL pc lv [.ref (X.ad v)] σ

theorem CI.of {y : MethodName} {cc : ByteArray} {mx rf rl : Nat} {av : (Nat → Nat) → List Value} {σ σ' : Sg} {r : Int32} (hy : plainName y.cls = true) (hlen : ∀ ad : Nat → Nat, (lg_sl (av ad)).length ≤ mx)
    (body : ∀ X : Ctx, Cok X cc mx y.cls → rf ≤ X.R.frames ∧ rl ≤ X.R.locals → RI X cc mx (r, σ') → G X mx 0 (lv_args 0 (av X.ad)) [] σ) : CI y cc mx (some .int) rf rl av σ r σ' := by
  intro l D ca ad sz
  refine Met.ofW (cc := cc) (maxL := mx) (ret := some .int) hy rfl ?_
  intro p e s m args below meth c s₁ B hml hv
  obtain ⟨rfl, hsz, hP, hK, hD0, hN⟩ := hv
  subst hsz
  have hts : ∀ w ∈ wsAll, w.before ((av ad).toArray) s = true := fun w h => atoms_spec (ws := wsY y cc mx (some .int)) B.pre w (List.mem_cons_of_mem _ h)
  have hown : s.vm.findClass y.cls = some m.cls := findClass_of_methodNamed B.named
  have hr := B.returns
  have hx := B.exec
  have hb := B.bytes
  have hlocks := B.notSynchronized
  rw [lg_entry_eq]
  have hl := lv_entry (av ad) (n := mx) (hlen ad)
  exact body (p, l, e, rmc rf rl, s, m, (av ad).toArray, below, meth, c, 0, 0, MQ below (va_Qi (fun r1 u => r1 = r ∧ u = σ') (Bw D ca ad s.heap.size) (Aw ad s.heap.size)) (av ad).toArray s 0 0 (Aw ad s.heap.size), D, ca, ad)
    ⟨hx, hb, hml, hown, hts, hK, hN, hlocks, Nat.zero_le _, Nat.zero_le _⟩ ⟨Nat.le_refl _, Nat.le_refl _⟩
    (fun pc lv v σ1 hd he H locs ls hw hl => W.iret hx hb hr (fun t ht hW => ⟨⟨v, σ1, rfl, ⟨congrArg Prod.fst he, congrArg Prod.snd he⟩, by rw [ht]; exact hw.1, hw.2.1⟩, hw.2.2.F ht⟩) hw.2.2.2.2 hd) s.heap [] _ ⟨hP, pool_self _ hD0, va_S.rf⟩ hl
theorem CZ.of {y : MethodName} {cc : ByteArray} {mx rf rl : Nat} {av : (Nat → Nat) → List Value} {σ σ' : Sg} {r : Int32} (hy : plainName y.cls = true) (hlen : ∀ ad : Nat → Nat, (lg_sl (av ad)).length ≤ mx)
    (body : ∀ X : Ctx, Cok X cc mx y.cls → rf ≤ X.R.frames ∧ rl ≤ X.R.locals → RZ X cc mx (r, σ') → G X mx 0 (lv_args 0 (av X.ad)) [] σ) : CI y cc mx (some .boolean) rf rl av σ r σ' := by
  intro l D ca ad sz
  refine Met.ofW (cc := cc) (maxL := mx) (ret := some .boolean) hy rfl ?_
  intro p e s m args below meth c s₁ B hml hv
  obtain ⟨rfl, hsz, hP, hK, hD0, hN⟩ := hv
  subst hsz
  have hts : ∀ w ∈ wsAll, w.before ((av ad).toArray) s = true := fun w h => atoms_spec (ws := wsY y cc mx (some .boolean)) B.pre w (List.mem_cons_of_mem _ h)
  have hown : s.vm.findClass y.cls = some m.cls := findClass_of_methodNamed B.named
  have hr := B.returns
  have hx := B.exec
  have hb := B.bytes
  have hlocks := B.notSynchronized
  rw [lg_entry_eq]
  have hl := lv_entry (av ad) (n := mx) (hlen ad)
  exact body (p, l, e, rmc rf rl, s, m, (av ad).toArray, below, meth, c, 0, 0, MQ below (va_Qi (fun r1 u => r1 = r ∧ u = σ') (Bw D ca ad s.heap.size) (Aw ad s.heap.size)) (av ad).toArray s 0 0 (Aw ad s.heap.size), D, ca, ad)
    ⟨hx, hb, hml, hown, hts, hK, hN, hlocks, Nat.zero_le _, Nat.zero_le _⟩ ⟨Nat.le_refl _, Nat.le_refl _⟩
    (fun pc lv v σ1 hd he hnar H locs ls hw hl => W.zret hx hb hr hnar (fun t ht hW => ⟨⟨v, σ1, rfl, ⟨congrArg Prod.fst he, congrArg Prod.snd he⟩, by rw [ht]; exact hw.1, hw.2.1⟩, hw.2.2.F ht⟩) hw.2.2.2.2 hd) s.heap [] _ ⟨hP, pool_self _ hD0, va_S.rf⟩ hl
theorem CL.of {y : MethodName} {cc : ByteArray} {mx rf rl : Nat} {av : (Nat → Nat) → List Value} {σ σ' : Sg} {r : Int64} (hy : plainName y.cls = true) (hlen : ∀ ad : Nat → Nat, (lg_sl (av ad)).length ≤ mx)
    (body : ∀ X : Ctx, Cok X cc mx y.cls → rf ≤ X.R.frames ∧ rl ≤ X.R.locals → RLg X cc mx (r, σ') → G X mx 0 (lv_args 0 (av X.ad)) [] σ) : CL y cc mx (some .long) rf rl av σ r σ' := by
  intro l D ca ad sz
  refine Met.ofW (cc := cc) (maxL := mx) (ret := some .long) hy rfl ?_
  intro p e s m args below meth c s₁ B hml hv
  obtain ⟨rfl, hsz, hP, hK, hD0, hN⟩ := hv
  subst hsz
  have hts : ∀ w ∈ wsAll, w.before ((av ad).toArray) s = true := fun w h => atoms_spec (ws := wsY y cc mx (some .long)) B.pre w (List.mem_cons_of_mem _ h)
  have hown : s.vm.findClass y.cls = some m.cls := findClass_of_methodNamed B.named
  have hr := B.returns
  have hx := B.exec
  have hb := B.bytes
  have hlocks := B.notSynchronized
  rw [lg_entry_eq]
  have hl := lv_entry (av ad) (n := mx) (hlen ad)
  exact body (p, l, e, rmc rf rl, s, m, (av ad).toArray, below, meth, c, 0, 0, MQ below (va_Ql (fun r1 u => r1 = r ∧ u = σ') (Bw D ca ad s.heap.size) (Aw ad s.heap.size)) (av ad).toArray s 0 0 (Aw ad s.heap.size), D, ca, ad)
    ⟨hx, hb, hml, hown, hts, hK, hN, hlocks, Nat.zero_le _, Nat.zero_le _⟩ ⟨Nat.le_refl _, Nat.le_refl _⟩
    (fun pc lv v σ1 hd he H locs ls hw hl => W.lret hx hb hr (fun t ht hW => ⟨⟨v, σ1, rfl, ⟨congrArg Prod.fst he, congrArg Prod.snd he⟩, by rw [ht]; exact hw.1, hw.2.1⟩, hw.2.2.F ht⟩) hw.2.2.2.2 hd) s.heap [] _ ⟨hP, pool_self _ hD0, va_S.rf⟩ hl
theorem CV.of {y : MethodName} {cc : ByteArray} {mx rf rl : Nat} {av : (Nat → Nat) → List Value} {σ σ' : Sg}  (hy : plainName y.cls = true) (hlen : ∀ ad : Nat → Nat, (lg_sl (av ad)).length ≤ mx)
    (body : ∀ X : Ctx, Cok X cc mx y.cls → rf ≤ X.R.frames ∧ rl ≤ X.R.locals → RV X cc mx σ' → G X mx 0 (lv_args 0 (av X.ad)) [] σ) : CV y cc mx none rf rl av σ σ' := by
  intro l D ca ad sz
  refine Met.ofW (cc := cc) (maxL := mx) (ret := none) hy rfl ?_
  intro p e s m args below meth c s₁ B hml hv
  obtain ⟨rfl, hsz, hP, hK, hD0, hN⟩ := hv
  subst hsz
  have hts : ∀ w ∈ wsAll, w.before ((av ad).toArray) s = true := fun w h => atoms_spec (ws := wsY y cc mx (none)) B.pre w (List.mem_cons_of_mem _ h)
  have hown : s.vm.findClass y.cls = some m.cls := findClass_of_methodNamed B.named
  have hr := B.returns
  have hx := B.exec
  have hb := B.bytes
  have hlocks := B.notSynchronized
  rw [lg_entry_eq]
  have hl := lv_entry (av ad) (n := mx) (hlen ad)
  exact body (p, l, e, rmc rf rl, s, m, (av ad).toArray, below, meth, c, 0, 0, MQ below (va_Qv (fun u => u = σ') (Bw D ca ad s.heap.size) (Aw ad s.heap.size)) (av ad).toArray s 0 0 (Aw ad s.heap.size), D, ca, ad)
    ⟨hx, hb, hml, hown, hts, hK, hN, hlocks, Nat.zero_le _, Nat.zero_le _⟩ ⟨Nat.le_refl _, Nat.le_refl _⟩
    (fun pc lv σ1 hd he H locs ls hw hl => W.vret hx hb hr (fun t ht hW => ⟨⟨σ1, rfl, he, by rw [ht]; exact hw.1, hw.2.1⟩, hw.2.2.F ht⟩) hw.2.2.2.2 hd) s.heap [] _ ⟨hP, pool_self _ hD0, va_S.rf⟩ hl
theorem CA.of {y : MethodName} {cc : ByteArray} {mx rf rl : Nat} {av : (Nat → Nat) → List Value} {σ σ' : Sg} {r : Nat} {cn : String} (hy : plainName y.cls = true) (hlen : ∀ ad : Nat → Nat, (lg_sl (av ad)).length ≤ mx)
    (body : ∀ X : Ctx, Cok X cc mx y.cls → rf ≤ X.R.frames ∧ rl ≤ X.R.locals → RA X cc mx (r, σ') → G X mx 0 (lv_args 0 (av X.ad)) [] σ) : CA y cc mx (some (.object cn)) rf rl av σ r σ' := by
  intro l D ca ad sz
  refine Met.ofW (cc := cc) (maxL := mx) (ret := some (.object cn)) hy rfl ?_
  intro p e s m args below meth c s₁ B hml hv
  obtain ⟨rfl, hsz, hP, hK, hD0, hN⟩ := hv
  subst hsz
  have hts : ∀ w ∈ wsAll, w.before ((av ad).toArray) s = true := fun w h => atoms_spec (ws := wsY y cc mx (some (.object cn))) B.pre w (List.mem_cons_of_mem _ h)
  have hown : s.vm.findClass y.cls = some m.cls := findClass_of_methodNamed B.named
  have hr := B.returns
  have hx := B.exec
  have hb := B.bytes
  have hlocks := B.notSynchronized
  rw [lg_entry_eq]
  have hl := lv_entry (av ad) (n := mx) (hlen ad)
  exact body (p, l, e, rmc rf rl, s, m, (av ad).toArray, below, meth, c, 0, 0, MQ below (va_Qr (fun u => u = σ') (fun u a t => a = ad r ∧ Bw D ca ad s.heap.size u t) (Aw ad s.heap.size)) (av ad).toArray s 0 0 (Aw ad s.heap.size), D, ca, ad)
    ⟨hx, hb, hml, hown, hts, hK, hN, hlocks, Nat.zero_le _, Nat.zero_le _⟩ ⟨Nat.le_refl _, Nat.le_refl _⟩
    (fun pc lv v σ1 hd he H locs ls hw hl => W.aret hx hb hr (Or.inl ⟨cn, rfl⟩) (Or.inr ⟨_, rfl⟩) (fun t ht hW => ⟨⟨σ1, ad v, rfl, congrArg Prod.snd he, congrArg (fun q => ad q) (congrArg Prod.fst he), by rw [ht]; exact hw.1, hw.2.1⟩, hw.2.2.F ht⟩) hw.2.2.2.2 hd) s.heap [] _ ⟨hP, pool_self _ hD0, va_S.rf⟩ hl
/-- what a callee's names must be -/
def yOk (y : MethodName) (cc : ByteArray) (mx : Nat) (ret : Option FieldType) (n : Nat) : Prop := Cond.code y cc mx ret ∈ wsAll ∧ Cond.initialized y.cls ∈ wsAll ∧ (y.cls ≠ "java/lang/invoke/MethodHandle" ∧ y.cls ≠ "java/lang/invoke/VarHandle" ∧ (parseMethodDescriptor y.desc).map (fun d => d.parameters.length) = some n)
def yV (y : MethodName) (cc : ByteArray) (mx : Nat) (ret : Option FieldType) (n : Nat) : Prop := yOk y cc mx ret n ∧ Cond.instanceMethod y ∈ wsAll ∧ Cond.selects y.cls y y ∈ wsAll
def yS (y : MethodName) (cc : ByteArray) (mx : Nat) (ret : Option FieldType) (n : Nat) : Prop := yOk y cc mx ret n ∧ Cond.static y ∈ wsAll
theorem wsY_good {y : MethodName} {cc : ByteArray} {mx n : Nat} {ret : Option FieldType} (hy : yOk y cc mx ret n) : GoodIn wsAll (wsY y cc mx ret) := fun w h => by
  rcases List.mem_cons.mp h with e | h
  · rw [e]; exact ws_good _ hy.1
  · exact ws_good _ h
theorem Wl.pre {X : Ctx} {kc : ByteArray} {nL : Nat} {ow : String} {σ : Sg} {H : Heap} {locs : List Loc} {av : List Value} (K : Cok X kc nL ow) (hw : Wl X σ H locs) : ∀ U : State, U.heap = H → X.s.WarmedH U.vm → Pcw X.D X.ca X.ad av σ H.size av.toArray U := fun U hU hW =>
  ⟨rfl, by rw [hU], by rw [hU]; exact hw.1, va_K.moved hW.alike K.2.2.2.2.2.1, hw.2.1.weaken (fun _ _ _ _ => trivial), NW.warm hW K.2.2.2.2.2.2.1⟩
abbrev RunX (X : Ctx) (H : Heap) (locs : List Loc) (g : JFrame) (rest : List Value) (Qa : State → Outcome → State → Prop) : Prop := va_Run X.p X.l X.e X.R X.s X.m X.args X.below X.meth X.c H locs X.cells X.slots 0 0 g rest Qa (Aw X.ad H.size)
section
variable {X : Ctx} {kc : ByteArray} {nL : Nat} {ow : String} {pc : Nat} {lv lv' : List (Nat × Value)} {st stk As rest : List Value} {σ σ' : Sg} {y : MethodName} {cc : ByteArray} {mx n rf rl idx : Nat} {ret : Option FieldType} {av : (Nat → Nat) → List Value} {H : Heap} {locs : List Loc} {ls : Array Slot} {Qc : Array Value → State → Outcome → State → Prop}
theorem run_v (K : Cok X kc nL ow) (hM : Met X.l y (wsY y cc mx ret) (rmc rf rl) (Pcw X.D X.ca X.ad (av X.ad) σ H.size) Qc 0 0 (Aw X.ad H.size)) (hy : yV y cc mx ret n) (hl0 : Cond.methodLink ow idx y ∈ wsAll) {i ci : Nat} {fs : List Value} {q : vw_C} (hav : av X.ad = .ref (X.ad i) :: As) (hn : As.length = n) (hst : stk = As.reverse ++ .ref (X.ad i) :: rest) (he : entF X.ca X.ad i (σ.1 i) (σ.2 i) = .inr (ci, fs)) (hi : i < NN) (hc : vwCl[ci]? = some q) (hq : q.1 = y.cls) (hroom : rf + 1 ≤ X.R.frames ∧ 8 + (mx + 11) + rl ≤ X.R.locals) (hcat : (rest.map fun v => v.category).sum ≤ 8) (hd : decode kc pc = .ok (.invokevirtual idx, 3)) (hw : Wl X σ H locs) (hl : lv_has ls nL lv) : RunX X H locs (F0 X.m pc ls stk) rest (Qc (av X.ad).toArray) := by
  have hts := K.2.2.2.2.1
  have hy0 := hy.1
  have r := va_runV (As := As) (rest := rest) (C := y.cls) (b := X.ad i) (g := F0 X.m pc ls stk) (cells := X.cells) (slots := X.slots) (locs := locs) (below := X.below) (meth := X.meth) (e := X.e) (H := H) ⟨K.1, K.2.1, K.2.2.1, K.2.2.2.1, hts⟩ hM (⟨callB_of n hts (wsY_good hy0) rfl rfl rfl (hts _ hy0.2.1) (hts _ hl0) hy0.2.2 hroom, hts _ hy.2.1, hts _ hy.2.2⟩) ⟨Pcw_blind, by rw [← hq]; exact va_recv K.2.2.2.2.2.1 hw.1 hc ((pool_at hi).trans (by rw [he])), by rw [hav]; exact hw.pre K⟩ rfl hn hl.1 hst (lv_room hcat) hd ⟨K.2.2.2.2.2.2.2.2.1, K.2.2.2.2.2.2.2.2.2⟩
  rw [hav]
  exact r
theorem run_s (K : Cok X kc nL ow) (hM : Met X.l y (wsY y cc mx ret) (rmc rf rl) (Pcw X.D X.ca X.ad (av X.ad) σ H.size) Qc 0 0 (Aw X.ad H.size)) (hy : yS y cc mx ret n) (hl0 : Cond.methodLink ow idx y ∈ wsAll) (hav : av X.ad = As) (hn : As.length = n) (hst : stk = As.reverse ++ rest) (hroom : rf + 1 ≤ X.R.frames ∧ 8 + (mx + 11) + rl ≤ X.R.locals) (hcat : (rest.map fun v => v.category).sum ≤ 8) (hd : decode kc pc = .ok (.invokestatic idx, 3)) (hw : Wl X σ H locs) (hl : lv_has ls nL lv) : RunX X H locs (F0 X.m pc ls stk) rest (Qc (av X.ad).toArray) := by
  have hts := K.2.2.2.2.1
  have hy0 := hy.1
  have r := va_runS (As := As) (rest := rest) (g := F0 X.m pc ls stk) (cells := X.cells) (slots := X.slots) (locs := locs) (below := X.below) (meth := X.meth) (e := X.e) (H := H) ⟨K.1, K.2.1, K.2.2.1, K.2.2.2.1, hts⟩ hM ⟨callB_of n hts (wsY_good hy0) rfl rfl rfl (hts _ hy0.2.1) (hts _ hl0) hy0.2.2 hroom, hts _ hy.2⟩ ⟨Pcw_blind, by rw [hav]; exact hw.pre K⟩ rfl hn hl.1 hst (lv_room hcat) hd ⟨K.2.2.2.2.2.2.2.2.1, K.2.2.2.2.2.2.2.2.2⟩
  rw [hav]
  exact r
theorem run_n (K : Cok X kc nL ow) (hM : Met X.l y (wsY y cc mx ret) (rmc rf rl) (Pcw X.D X.ca X.ad (av X.ad) σ H.size) Qc 0 0 (Aw X.ad H.size)) (hy : yS y cc mx ret n) (hl0 : (ow, idx, y) ∈ nests) (hav : av X.ad = As) (hn : As.length = n) (hst : stk = As.reverse ++ rest) (hroom : rf + 1 ≤ X.R.frames ∧ 8 + (mx + 11) + rl ≤ X.R.locals) (hcat : (rest.map fun v => v.category).sum ≤ 8) (hd : decode kc pc = .ok (.invokestatic idx, 3)) (hw : Wl X σ H locs) (hl : lv_has ls nL lv) : RunX X H locs (F0 X.m pc ls stk) rest (Qc (av X.ad).toArray) := by
  have hts := K.2.2.2.2.1
  have hy0 := hy.1
  have r := va_runSN (As := As) (rest := rest) (host := "ControlRegister") (g := F0 X.m pc ls stk) (cells := X.cells) (slots := X.slots) (locs := locs) (below := X.below) (meth := X.meth) (e := X.e) (H := H) ⟨K.1, K.2.1, K.2.2.1, K.2.2.2.1, hts⟩ hM ⟨va_cnB n hts (wsY_good hy0) rfl rfl rfl (K.2.2.2.2.2.2.1 _ hl0) (hts _ hy0.2.1) hy0.2.2 hroom, hts _ hy.2, trivial⟩ ⟨Pcw_blind, by rw [hav]; exact hw.pre K⟩ rfl hn hl.1 hst (lv_room hcat) hd ⟨K.2.2.2.2.2.2.2.2.1, K.2.2.2.2.2.2.2.2.2⟩
  rw [hav]
  exact r
theorem go_i {r : Int32} {a : Array Value} (hr : RunX X H locs (F0 X.m pc ls stk) rest (va_Qi (fun r1 u => r1 = r ∧ u = σ') (Bw X.D X.ca X.ad H.size) (Aw X.ad H.size) a)) (hw : Wl X σ H locs) (hl : lv_has ls nL lv) (k : G X nL (pc + 3) lv (.int r :: rest) σ') : WX X H locs (F0 X.m pc ls stk) := by
  refine va_calli hr hw.2.2 (fun q _ h => h.mono hw.2.2.1) (fun q h => h.mono hw.2.2.1) (fun r_1 u t H1 locs1 ht hvm hp hB hz1 hk1 hS => ?_)
  obtain ⟨rfl, rfl⟩ := hp
  exact k H1 locs1 ls ⟨by rw [← ht]; exact hB.1, hB.2.weaken (fun _ _ _ h => h.mono hw.2.2.1), hS⟩ hl
theorem go_l {r : Int64} {a : Array Value} (hr : RunX X H locs (F0 X.m pc ls stk) rest (va_Ql (fun r1 u => r1 = r ∧ u = σ') (Bw X.D X.ca X.ad H.size) (Aw X.ad H.size) a)) (hw : Wl X σ H locs) (hl : lv_has ls nL lv) (k : G X nL (pc + 3) lv (.long r :: rest) σ') : WX X H locs (F0 X.m pc ls stk) := by
  refine va_calll hr hw.2.2 (fun q _ h => h.mono hw.2.2.1) (fun q h => h.mono hw.2.2.1) (fun r_1 u t H1 locs1 ht hvm hp hB hz1 hk1 hS => ?_)
  obtain ⟨rfl, rfl⟩ := hp
  exact k H1 locs1 ls ⟨by rw [← ht]; exact hB.1, hB.2.weaken (fun _ _ _ h => h.mono hw.2.2.1), hS⟩ hl
theorem go_v {a : Array Value} (hr : RunX X H locs (F0 X.m pc ls stk) rest (va_Qv (fun u => u = σ') (Bw X.D X.ca X.ad H.size) (Aw X.ad H.size) a)) (hw : Wl X σ H locs) (hl : lv_has ls nL lv) (k : G X nL (pc + 3) lv rest σ') : WX X H locs (F0 X.m pc ls stk) := by
  refine va_callv hr hw.2.2 (fun q _ h => h.mono hw.2.2.1) (fun q h => h.mono hw.2.2.1) (fun u t H1 locs1 ht hvm hp hB hz1 hk1 hS => ?_)
  subst hp
  exact k H1 locs1 ls ⟨by rw [← ht]; exact hB.1, hB.2.weaken (fun _ _ _ h => h.mono hw.2.2.1), hS⟩ hl
theorem go_a {r : Nat} {a : Array Value} (hr : RunX X H locs (F0 X.m pc ls stk) rest (va_Qr (fun u => u = σ') (fun u a t => a = X.ad r ∧ Bw X.D X.ca X.ad H.size u t) (Aw X.ad H.size) a)) (hw : Wl X σ H locs) (hl : lv_has ls nL lv) (k : G X nL (pc + 3) lv (.ref (X.ad r) :: rest) σ') : WX X H locs (F0 X.m pc ls stk) := by
  refine va_callr hr hw.2.2 (fun q _ h => h.mono hw.2.2.1) (fun q h => h.mono hw.2.2.1) (fun u ra t H1 locs1 ht hvm hp hB hz1 hk1 hS => ?_)
  subst hp
  obtain ⟨hra, hB⟩ := hB
  subst hra
  exact k H1 locs1 ls ⟨by rw [← ht]; exact hB.1, hB.2.weaken (fun _ _ _ h => h.mono hw.2.2.1), hS⟩ hl
theorem g_cvi (K : Cok X kc nL ow) {r : Int32} (hM : CI y cc mx ret rf rl av σ r σ') (hy : yV y cc mx ret n) (hl0 : Cond.methodLink ow idx y ∈ wsAll) {i ci : Nat} {fs : List Value} {q : vw_C} (hav : av X.ad = .ref (X.ad i) :: As) (hn : As.length = n) (hst : stk = As.reverse ++ .ref (X.ad i) :: rest) (he : entF X.ca X.ad i (σ.1 i) (σ.2 i) = .inr (ci, fs)) (hi : i < NN) (hc : vwCl[ci]? = some q) (hq : q.1 = y.cls) (hroom : rf + 1 ≤ X.R.frames ∧ 8 + (mx + 11) + rl ≤ X.R.locals) (hcat : (rest.map fun v => v.category).sum ≤ 8) (hd : decode kc pc = .ok (.invokevirtual idx, 3)) (k : G X nL (pc + 3) lv (.int r :: rest) σ') : G X nL pc lv stk σ :=
  fun H locs ls hw hl => go_i (run_v K (hM X.l X.D X.ca X.ad H.size) hy hl0 hav hn hst he hi hc hq hroom hcat hd hw hl) hw hl k
theorem g_csi (K : Cok X kc nL ow) {r : Int32} (hM : CI y cc mx ret rf rl av σ r σ') (hy : yS y cc mx ret n) (hl0 : Cond.methodLink ow idx y ∈ wsAll) (hav : av X.ad = As) (hn : As.length = n) (hst : stk = As.reverse ++ rest) (hroom : rf + 1 ≤ X.R.frames ∧ 8 + (mx + 11) + rl ≤ X.R.locals) (hcat : (rest.map fun v => v.category).sum ≤ 8) (hd : decode kc pc = .ok (.invokestatic idx, 3)) (k : G X nL (pc + 3) lv (.int r :: rest) σ') : G X nL pc lv stk σ :=
  fun H locs ls hw hl => go_i (run_s K (hM X.l X.D X.ca X.ad H.size) hy hl0 hav hn hst hroom hcat hd hw hl) hw hl k
theorem g_cni (K : Cok X kc nL ow) {r : Int32} (hM : CI y cc mx ret rf rl av σ r σ') (hy : yS y cc mx ret n) (hl0 : (ow, idx, y) ∈ nests) (hav : av X.ad = As) (hn : As.length = n) (hst : stk = As.reverse ++ rest) (hroom : rf + 1 ≤ X.R.frames ∧ 8 + (mx + 11) + rl ≤ X.R.locals) (hcat : (rest.map fun v => v.category).sum ≤ 8) (hd : decode kc pc = .ok (.invokestatic idx, 3)) (k : G X nL (pc + 3) lv (.int r :: rest) σ') : G X nL pc lv stk σ :=
  fun H locs ls hw hl => go_i (run_n K (hM X.l X.D X.ca X.ad H.size) hy hl0 hav hn hst hroom hcat hd hw hl) hw hl k
theorem g_cvl (K : Cok X kc nL ow) {r : Int64} (hM : CL y cc mx ret rf rl av σ r σ') (hy : yV y cc mx ret n) (hl0 : Cond.methodLink ow idx y ∈ wsAll) {i ci : Nat} {fs : List Value} {q : vw_C} (hav : av X.ad = .ref (X.ad i) :: As) (hn : As.length = n) (hst : stk = As.reverse ++ .ref (X.ad i) :: rest) (he : entF X.ca X.ad i (σ.1 i) (σ.2 i) = .inr (ci, fs)) (hi : i < NN) (hc : vwCl[ci]? = some q) (hq : q.1 = y.cls) (hroom : rf + 1 ≤ X.R.frames ∧ 8 + (mx + 11) + rl ≤ X.R.locals) (hcat : (rest.map fun v => v.category).sum ≤ 8) (hd : decode kc pc = .ok (.invokevirtual idx, 3)) (k : G X nL (pc + 3) lv (.long r :: rest) σ') : G X nL pc lv stk σ :=
  fun H locs ls hw hl => go_l (run_v K (hM X.l X.D X.ca X.ad H.size) hy hl0 hav hn hst he hi hc hq hroom hcat hd hw hl) hw hl k
theorem g_csl (K : Cok X kc nL ow) {r : Int64} (hM : CL y cc mx ret rf rl av σ r σ') (hy : yS y cc mx ret n) (hl0 : Cond.methodLink ow idx y ∈ wsAll) (hav : av X.ad = As) (hn : As.length = n) (hst : stk = As.reverse ++ rest) (hroom : rf + 1 ≤ X.R.frames ∧ 8 + (mx + 11) + rl ≤ X.R.locals) (hcat : (rest.map fun v => v.category).sum ≤ 8) (hd : decode kc pc = .ok (.invokestatic idx, 3)) (k : G X nL (pc + 3) lv (.long r :: rest) σ') : G X nL pc lv stk σ :=
  fun H locs ls hw hl => go_l (run_s K (hM X.l X.D X.ca X.ad H.size) hy hl0 hav hn hst hroom hcat hd hw hl) hw hl k
theorem g_cnl (K : Cok X kc nL ow) {r : Int64} (hM : CL y cc mx ret rf rl av σ r σ') (hy : yS y cc mx ret n) (hl0 : (ow, idx, y) ∈ nests) (hav : av X.ad = As) (hn : As.length = n) (hst : stk = As.reverse ++ rest) (hroom : rf + 1 ≤ X.R.frames ∧ 8 + (mx + 11) + rl ≤ X.R.locals) (hcat : (rest.map fun v => v.category).sum ≤ 8) (hd : decode kc pc = .ok (.invokestatic idx, 3)) (k : G X nL (pc + 3) lv (.long r :: rest) σ') : G X nL pc lv stk σ :=
  fun H locs ls hw hl => go_l (run_n K (hM X.l X.D X.ca X.ad H.size) hy hl0 hav hn hst hroom hcat hd hw hl) hw hl k
theorem g_cvv (K : Cok X kc nL ow) (hM : CV y cc mx ret rf rl av σ σ') (hy : yV y cc mx ret n) (hl0 : Cond.methodLink ow idx y ∈ wsAll) {i ci : Nat} {fs : List Value} {q : vw_C} (hav : av X.ad = .ref (X.ad i) :: As) (hn : As.length = n) (hst : stk = As.reverse ++ .ref (X.ad i) :: rest) (he : entF X.ca X.ad i (σ.1 i) (σ.2 i) = .inr (ci, fs)) (hi : i < NN) (hc : vwCl[ci]? = some q) (hq : q.1 = y.cls) (hroom : rf + 1 ≤ X.R.frames ∧ 8 + (mx + 11) + rl ≤ X.R.locals) (hcat : (rest.map fun v => v.category).sum ≤ 8) (hd : decode kc pc = .ok (.invokevirtual idx, 3)) (k : G X nL (pc + 3) lv rest σ') : G X nL pc lv stk σ :=
  fun H locs ls hw hl => go_v (run_v K (hM X.l X.D X.ca X.ad H.size) hy hl0 hav hn hst he hi hc hq hroom hcat hd hw hl) hw hl k
theorem g_csv (K : Cok X kc nL ow) (hM : CV y cc mx ret rf rl av σ σ') (hy : yS y cc mx ret n) (hl0 : Cond.methodLink ow idx y ∈ wsAll) (hav : av X.ad = As) (hn : As.length = n) (hst : stk = As.reverse ++ rest) (hroom : rf + 1 ≤ X.R.frames ∧ 8 + (mx + 11) + rl ≤ X.R.locals) (hcat : (rest.map fun v => v.category).sum ≤ 8) (hd : decode kc pc = .ok (.invokestatic idx, 3)) (k : G X nL (pc + 3) lv rest σ') : G X nL pc lv stk σ :=
  fun H locs ls hw hl => go_v (run_s K (hM X.l X.D X.ca X.ad H.size) hy hl0 hav hn hst hroom hcat hd hw hl) hw hl k
theorem g_cnv (K : Cok X kc nL ow) (hM : CV y cc mx ret rf rl av σ σ') (hy : yS y cc mx ret n) (hl0 : (ow, idx, y) ∈ nests) (hav : av X.ad = As) (hn : As.length = n) (hst : stk = As.reverse ++ rest) (hroom : rf + 1 ≤ X.R.frames ∧ 8 + (mx + 11) + rl ≤ X.R.locals) (hcat : (rest.map fun v => v.category).sum ≤ 8) (hd : decode kc pc = .ok (.invokestatic idx, 3)) (k : G X nL (pc + 3) lv rest σ') : G X nL pc lv stk σ :=
  fun H locs ls hw hl => go_v (run_n K (hM X.l X.D X.ca X.ad H.size) hy hl0 hav hn hst hroom hcat hd hw hl) hw hl k
theorem g_cva (K : Cok X kc nL ow) {r : Nat} (hM : CA y cc mx ret rf rl av σ r σ') (hy : yV y cc mx ret n) (hl0 : Cond.methodLink ow idx y ∈ wsAll) {i ci : Nat} {fs : List Value} {q : vw_C} (hav : av X.ad = .ref (X.ad i) :: As) (hn : As.length = n) (hst : stk = As.reverse ++ .ref (X.ad i) :: rest) (he : entF X.ca X.ad i (σ.1 i) (σ.2 i) = .inr (ci, fs)) (hi : i < NN) (hc : vwCl[ci]? = some q) (hq : q.1 = y.cls) (hroom : rf + 1 ≤ X.R.frames ∧ 8 + (mx + 11) + rl ≤ X.R.locals) (hcat : (rest.map fun v => v.category).sum ≤ 8) (hd : decode kc pc = .ok (.invokevirtual idx, 3)) (k : G X nL (pc + 3) lv (.ref (X.ad r) :: rest) σ') : G X nL pc lv stk σ :=
  fun H locs ls hw hl => go_a (run_v K (hM X.l X.D X.ca X.ad H.size) hy hl0 hav hn hst he hi hc hq hroom hcat hd hw hl) hw hl k
theorem g_csa (K : Cok X kc nL ow) {r : Nat} (hM : CA y cc mx ret rf rl av σ r σ') (hy : yS y cc mx ret n) (hl0 : Cond.methodLink ow idx y ∈ wsAll) (hav : av X.ad = As) (hn : As.length = n) (hst : stk = As.reverse ++ rest) (hroom : rf + 1 ≤ X.R.frames ∧ 8 + (mx + 11) + rl ≤ X.R.locals) (hcat : (rest.map fun v => v.category).sum ≤ 8) (hd : decode kc pc = .ok (.invokestatic idx, 3)) (k : G X nL (pc + 3) lv (.ref (X.ad r) :: rest) σ') : G X nL pc lv stk σ :=
  fun H locs ls hw hl => go_a (run_s K (hM X.l X.D X.ca X.ad H.size) hy hl0 hav hn hst hroom hcat hd hw hl) hw hl k
theorem g_cna (K : Cok X kc nL ow) {r : Nat} (hM : CA y cc mx ret rf rl av σ r σ') (hy : yS y cc mx ret n) (hl0 : (ow, idx, y) ∈ nests) (hav : av X.ad = As) (hn : As.length = n) (hst : stk = As.reverse ++ rest) (hroom : rf + 1 ≤ X.R.frames ∧ 8 + (mx + 11) + rl ≤ X.R.locals) (hcat : (rest.map fun v => v.category).sum ≤ 8) (hd : decode kc pc = .ok (.invokestatic idx, 3)) (k : G X nL (pc + 3) lv (.ref (X.ad r) :: rest) σ') : G X nL pc lv stk σ :=
  fun H locs ls hw hl => go_a (run_n K (hM X.l X.D X.ca X.ad H.size) hy hl0 hav hn hst hroom hcat hd hw hl) hw hl k
theorem g_copy (K : Cok X kc nL ow) {i0 i1 n0 n1 : Nat} (hk0 : kd i0 = (0, n0)) (hi0 : i0 < NN) (hk1 : kd i1 = (0, n1)) (hi1 : i1 < NN) {sp dp n : Int32} (h : (0 ≤ sp.toInt ∧ 0 ≤ dp.toInt ∧ 0 ≤ n.toInt) ∧ sp.toInt + n.toInt ≤ n0 ∧ dp.toInt + n.toInt ≤ n1) (hlk : Cond.methodLink ow idx arraycopyName ∈ wsAll) (hnat : Cond.native arraycopyName ∈ wsAll) (hsta : Cond.static arraycopyName ∈ wsAll) (hini : Cond.initialized "java/lang/System" ∈ wsAll) (hfr : 1 ≤ X.R.frames) (hlo : (rest.map fun v => v.category).sum + (nativeFrameWords "java/lang/System" "arraycopy" 5 + 11) ≤ X.R.locals) (hd : decode kc pc = .ok (.invokestatic idx, 3)) (k : ∀ σ', σ' = setR σ i1 (va_cpy (σ.1 i0) (σ.1 i1) sp.toNatClampNeg dp.toNatClampNeg n.toNatClampNeg) → G X nL (pc + 3) lv rest σ') : G X nL pc lv (.int n :: .int dp :: .ref (X.ad i1) :: .int sp :: .ref (X.ad i0) :: rest) σ := fun H locs ls hw hl => by
  have hts := K.2.2.2.2.1
  have nn : ∀ z : Int32, 0 ≤ z.toInt → ¬ z < 0 ∧ z.toInt = (z.toNatClampNeg : Int) := by
    intro z hz
    refine ⟨fun q => ?_, ?_⟩
    · have := Int32.lt_iff_toInt_lt.mp q
      have h0 : (0 : Int32).toInt = 0 := rfl
      omega
    · simp only [Int32.toNatClampNeg]
      omega
  obtain ⟨⟨h1, h2, h3⟩, h4, h5⟩ := h
  have a1 := nn sp h1
  have a2 := nn dp h2
  have a3 := nn n h3
  refine va_copyi K.1 K.2.1 (K.2.2.1.trans hl.1.symm) K.2.2.2.1 (hts _ hlk) (hts _ hnat) (hts _ hsta) (hts _ hini) K.2.2.2.2.2.1 hw.1 hw.2.1 hw.2.2 i0 i1 0 0 (ty := .int) ((pool_at hi0).trans (by rw [e_ia hk0])) ((pool_at hi1).trans (by rw [e_ia hk1])) rfl rfl rfl a1.1 a2.1 a3.1 (by omega) (by omega) (fun _ _ => rfl) hfr hlo hd (fun H1 locs1 hP hD hS => ?_)
  rw [pool_setR hi1 (e_ia hk1).symm] at hP hD
  exact k _ rfl H1 locs1 ls ⟨hP, hD, hS⟩ hl
end
end
section
/-! words of the tables, by their places; numbers; what kinds the cells are -/
def jn {α β : Type} (x : α) (f : α → β) : β := f x
def FU : Nat := 4000
theorem bp {β : Type} {c : Prop} {d : Decidable c} {a b w : β} (h : c) (e : (if c then a else b) = w) : a = w := by rw [if_pos h] at e; exact e
theorem bn {β : Type} {c : Prop} {d : Decidable c} {a b w : β} (h : ¬ c) (e : (if c then a else b) = w) : b = w := by rw [if_neg h] at e; exact e
theorem jpp {α β : Type} {c : Prop} {d : Decidable c} {x y : α} {f : α → β} {w : β} (h : c) (e : jn (if c then x else y) f = w) : jn x f = w := by rw [if_pos h] at e; exact e
theorem jpn {α β : Type} {c : Prop} {d : Decidable c} {x y : α} {f : α → β} {w : β} (h : ¬ c) (e : jn (if c then x else y) f = w) : jn y f = w := by rw [if_neg h] at e; exact e
theorem jbp {α β : Type} {c : Prop} {d : Decidable c} {x y : Option α} {f : α → Option β} {w : Option β} (h : c) (e : Option.bind (if c then x else y) f = w) : Option.bind x f = w := by rw [if_pos h] at e; exact e
theorem jbn {α β : Type} {c : Prop} {d : Decidable c} {x y : Option α} {f : α → Option β} {w : Option β} (h : ¬ c) (e : Option.bind (if c then x else y) f = w) : Option.bind y f = w := by rw [if_neg h] at e; exact e
theorem og {β : Type} {c : Prop} {d : Decidable c} {a : Option β} {w : β} (e : (if c then a else none) = some w) : c ∧ a = some w := by
  by_cases h : c
  · rw [if_pos h] at e; exact ⟨h, e⟩
  · rw [if_neg h] at e; cases e
theorem ogb {α β : Type} {c : Prop} {d : Decidable c} {x : Option α} {f : α → Option β} {w : β} (e : Option.bind (if c then x else none) f = some w) : c ∧ Option.bind x f = some w := by
  by_cases h : c
  · rw [if_pos h] at e; exact ⟨h, e⟩
  · rw [if_neg h] at e; cases e
theorem ob {α β : Type} {x : Option α} {f : α → Option β} {w : β} (e : Option.bind x f = some w) : ∃ a, x = some a ∧ f a = some w := by
  cases x with
  | none => cases e
  | some a => exact ⟨a, rfl, e⟩
theorem obb {α β γ : Type} {x : Option α} {g : α → Option β} {f : β → Option γ} {w : γ} (e : Option.bind (Option.bind x g) f = some w) : ∃ a, x = some a ∧ Option.bind (g a) f = some w := by
  cases x with
  | none => cases e
  | some a => exact ⟨a, rfl, e⟩
theorem jn_cut {α β : Type} {x : α} {f : α → β} {w : β} {P : α → Prop} {Goal : Prop} (_ : jn x f = w) (t : ∀ v, f v = w → P v) (k : (∀ v, jn v f = w → P v) → Goal) : Goal := k (fun v e => t v e)
theorem bd_cut {α β : Type} {x : Option α} {f : α → Option β} {w : Option β} {P : α → Prop} {Goal : Prop} (_ : Option.bind x f = w) (t : ∀ v, f v = w → P v) (k : (∀ v, Option.bind (some v) f = w → P v) → Goal) : Goal := k (fun v e => t v e)
theorem jn_at {α β : Type} {x v : α} {f : α → β} {w : β} (e : v = x) (h : jn x f = w) : f v = w := by rw [e]; exact h
theorem jn_in {α β : Type} {x : α} {f : α → β} {w : β} (h : ∀ v, v = x → f v = w) : jn x f = w := h x rfl
theorem rt0 {α : Type} {v r : α} {σ : Sg} (h : v = r) : (v, σ) = (r, σ) := by rw [h]
theorem rt1 {α : Type} {v r : α} {σ : Sg} (h : some v = some r) : (v, σ) = (r, σ) := by rw [Option.some.inj h]
theorem rt2 {α : Type} {v r : α} (h : some v = some r) : v = r := Option.some.inj h
theorem nb_0 : narrow .boolean (.int 0) = .int 0 := rfl
theorem nb_1 : narrow .boolean (.int 1) = .int 1 := rfl
theorem lc_0 : Int64.ofNat ((0 : Fin 2) : Nat) = 0 := by decide
theorem lc_1 : Int64.ofNat ((1 : Fin 2) : Nat) = 1 := by decide
theorem bp_m2 : (Int8.ofInt (-2)).toInt32 = (-2) := by decide
theorem bp_m3 : (Int8.ofInt (-3)).toInt32 = (-3) := by decide
theorem bp_m4 : (Int8.ofInt (-4)).toInt32 = (-4) := by decide
theorem bp_m5 : (Int8.ofInt (-5)).toInt32 = (-5) := by decide
theorem bp_m6 : (Int8.ofInt (-6)).toInt32 = (-6) := by decide
theorem bp_10 : (Int8.ofInt 10).toInt32 = 10 := by decide
theorem bp_100 : (Int8.ofInt 100).toInt32 = 100 := by decide
theorem bp_125 : (Int8.ofInt 125).toInt32 = 125 := by decide
theorem bp_15 : (Int8.ofInt 15).toInt32 = 15 := by decide
theorem bp_16 : (Int8.ofInt 16).toInt32 = 16 := by decide
theorem bp_20 : (Int8.ofInt 20).toInt32 = 20 := by decide
theorem bp_25 : (Int8.ofInt 25).toInt32 = 25 := by decide
theorem bp_31 : (Int8.ofInt 31).toInt32 = 31 := by decide
theorem bp_32 : (Int8.ofInt 32).toInt32 = 32 := by decide
theorem bp_40 : (Int8.ofInt 40).toInt32 = 40 := by decide
theorem bp_41 : (Int8.ofInt 41).toInt32 = 41 := by decide
theorem bp_45 : (Int8.ofInt 45).toInt32 = 45 := by decide
theorem bp_49 : (Int8.ofInt 49).toInt32 = 49 := by decide
theorem bp_50 : (Int8.ofInt 50).toInt32 = 50 := by decide
theorem bp_6 : (Int8.ofInt 6).toInt32 = 6 := by decide
theorem bp_63 : (Int8.ofInt 63).toInt32 = 63 := by decide
theorem bp_8 : (Int8.ofInt 8).toInt32 = 8 := by decide
theorem bp_9 : (Int8.ofInt 9).toInt32 = 9 := by decide
theorem bp_99 : (Int8.ofInt 99).toInt32 = 99 := by decide
theorem ic_m1 : Int32.ofInt (-1) = (-1) := by decide
theorem ic_0 : Int32.ofInt 0 = 0 := by decide
theorem ic_1 : Int32.ofInt 1 = 1 := by decide
theorem ic_2 : Int32.ofInt 2 = 2 := by decide
theorem ic_3 : Int32.ofInt 3 = 3 := by decide
theorem ic_4 : Int32.ofInt 4 = 4 := by decide
theorem ic_5 : Int32.ofInt 5 = 5 := by decide
theorem nz_125 : ¬ (125 : Int32) = 0 := by decide
theorem nz_2 : ¬ (2 : Int32) = 0 := by decide
theorem nz_25 : ¬ (25 : Int32) = 0 := by decide
theorem nz_45 : ¬ (45 : Int32) = 0 := by decide
theorem nz_5 : ¬ (5 : Int32) = 0 := by decide
theorem nz_625 : ¬ (625 : Int32) = 0 := by decide
theorem nz_9 : ¬ (9 : Int32) = 0 := by decide
theorem sp_1800 : (Int16.ofInt 1800).toInt32 = 1800 := by decide
theorem sp_240 : (Int16.ofInt 240).toInt32 = 240 := by decide
theorem sp_241 : (Int16.ofInt 241).toInt32 = 241 := by decide
theorem sp_242 : (Int16.ofInt 242).toInt32 = 242 := by decide
theorem sp_245 : (Int16.ofInt 245).toInt32 = 245 := by decide
theorem sp_3125 : (Int16.ofInt 3125).toInt32 = 3125 := by decide
theorem sp_625 : (Int16.ofInt 625).toInt32 = 625 := by decide
theorem sp_999 : (Int16.ofInt 999).toInt32 = 999 := by decide
theorem inb_lt {x : Int32} {n : Nat} (h : inb x n) : x.toNatClampNeg < n := by
  have h1 := h.1
  have h2 := h.2
  simp only [Int32.toNatClampNeg]
  omega
theorem kd_0 : kd 0 = (11, 0) := by decide +kernel
theorem ltN_0 : 0 < NN := by decide
theorem kd_1 : kd 1 = (5, 0) := by decide +kernel
theorem ltN_1 : 1 < NN := by decide
theorem kd_2 : kd 2 = (0, 41) := by decide +kernel
theorem ltN_2 : 2 < NN := by decide
theorem kd_3 : kd 3 = (0, 41) := by decide +kernel
theorem ltN_3 : 3 < NN := by decide
theorem kd_4 : kd 4 = (0, 41) := by decide +kernel
theorem ltN_4 : 4 < NN := by decide
theorem kd_5 : kd 5 = (0, 41) := by decide +kernel
theorem ltN_5 : 5 < NN := by decide
theorem kd_6 : kd 6 = (0, 41) := by decide +kernel
theorem ltN_6 : 6 < NN := by decide
theorem kd_7 : kd 7 = (0, 41) := by decide +kernel
theorem ltN_7 : 7 < NN := by decide
theorem kd_8 : kd 8 = (0, 41) := by decide +kernel
theorem ltN_8 : 8 < NN := by decide
theorem kd_9 : kd 9 = (5, 0) := by decide +kernel
theorem ltN_9 : 9 < NN := by decide
theorem kd_10 : kd 10 = (0, 41) := by decide +kernel
theorem ltN_10 : 10 < NN := by decide
theorem kd_11 : kd 11 = (0, 41) := by decide +kernel
theorem ltN_11 : 11 < NN := by decide
theorem kd_12 : kd 12 = (0, 41) := by decide +kernel
theorem ltN_12 : 12 < NN := by decide
theorem kd_13 : kd 13 = (0, 41) := by decide +kernel
theorem ltN_13 : 13 < NN := by decide
theorem kd_14 : kd 14 = (0, 41) := by decide +kernel
theorem ltN_14 : 14 < NN := by decide
theorem kd_15 : kd 15 = (0, 41) := by decide +kernel
theorem ltN_15 : 15 < NN := by decide
theorem kd_16 : kd 16 = (0, 41) := by decide +kernel
theorem ltN_16 : 16 < NN := by decide
theorem kd_17 : kd 17 = (5, 0) := by decide +kernel
theorem ltN_17 : 17 < NN := by decide
theorem kd_18 : kd 18 = (0, 41) := by decide +kernel
theorem ltN_18 : 18 < NN := by decide
theorem kd_19 : kd 19 = (0, 41) := by decide +kernel
theorem ltN_19 : 19 < NN := by decide
theorem kd_20 : kd 20 = (0, 41) := by decide +kernel
theorem ltN_20 : 20 < NN := by decide
theorem kd_21 : kd 21 = (0, 41) := by decide +kernel
theorem ltN_21 : 21 < NN := by decide
theorem kd_22 : kd 22 = (0, 41) := by decide +kernel
theorem ltN_22 : 22 < NN := by decide
theorem kd_23 : kd 23 = (0, 41) := by decide +kernel
theorem ltN_23 : 23 < NN := by decide
theorem kd_24 : kd 24 = (0, 41) := by decide +kernel
theorem ltN_24 : 24 < NN := by decide
theorem kd_25 : kd 25 = (7, 0) := by decide +kernel
theorem ltN_25 : 25 < NN := by decide
theorem kd_26 : kd 26 = (3, 5) := by decide +kernel
theorem ltN_26 : 26 < NN := by decide
theorem kd_27 : kd 27 = (0, 10) := by decide +kernel
theorem ltN_27 : 27 < NN := by decide
theorem kd_28 : kd 28 = (0, 10) := by decide +kernel
theorem ltN_28 : 28 < NN := by decide
theorem kd_29 : kd 29 = (0, 10) := by decide +kernel
theorem ltN_29 : 29 < NN := by decide
theorem kd_30 : kd 30 = (0, 10) := by decide +kernel
theorem ltN_30 : 30 < NN := by decide
theorem kd_31 : kd 31 = (0, 10) := by decide +kernel
theorem ltN_31 : 31 < NN := by decide
theorem kd_32 : kd 32 = (3, 5) := by decide +kernel
theorem ltN_32 : 32 < NN := by decide
theorem kd_33 : kd 33 = (0, 10) := by decide +kernel
theorem ltN_33 : 33 < NN := by decide
theorem kd_34 : kd 34 = (0, 10) := by decide +kernel
theorem ltN_34 : 34 < NN := by decide
theorem kd_35 : kd 35 = (0, 10) := by decide +kernel
theorem ltN_35 : 35 < NN := by decide
theorem kd_36 : kd 36 = (0, 10) := by decide +kernel
theorem ltN_36 : 36 < NN := by decide
theorem kd_37 : kd 37 = (0, 10) := by decide +kernel
theorem ltN_37 : 37 < NN := by decide
theorem kd_38 : kd 38 = (0, 5) := by decide +kernel
theorem ltN_38 : 38 < NN := by decide
theorem kd_39 : kd 39 = (7, 0) := by decide +kernel
theorem ltN_39 : 39 < NN := by decide
theorem kd_40 : kd 40 = (3, 5) := by decide +kernel
theorem ltN_40 : 40 < NN := by decide
theorem kd_41 : kd 41 = (0, 10) := by decide +kernel
theorem ltN_41 : 41 < NN := by decide
theorem kd_42 : kd 42 = (0, 10) := by decide +kernel
theorem ltN_42 : 42 < NN := by decide
theorem kd_43 : kd 43 = (0, 10) := by decide +kernel
theorem ltN_43 : 43 < NN := by decide
theorem kd_44 : kd 44 = (0, 10) := by decide +kernel
theorem ltN_44 : 44 < NN := by decide
theorem kd_45 : kd 45 = (0, 10) := by decide +kernel
theorem ltN_45 : 45 < NN := by decide
theorem kd_46 : kd 46 = (3, 5) := by decide +kernel
theorem ltN_46 : 46 < NN := by decide
theorem kd_47 : kd 47 = (0, 10) := by decide +kernel
theorem ltN_47 : 47 < NN := by decide
theorem kd_48 : kd 48 = (0, 10) := by decide +kernel
theorem ltN_48 : 48 < NN := by decide
theorem kd_49 : kd 49 = (0, 10) := by decide +kernel
theorem ltN_49 : 49 < NN := by decide
theorem kd_50 : kd 50 = (0, 10) := by decide +kernel
theorem ltN_50 : 50 < NN := by decide
theorem kd_51 : kd 51 = (0, 10) := by decide +kernel
theorem ltN_51 : 51 < NN := by decide
theorem kd_52 : kd 52 = (0, 5) := by decide +kernel
theorem ltN_52 : 52 < NN := by decide
theorem kd_53 : kd 53 = (6, 0) := by decide +kernel
theorem ltN_53 : 53 < NN := by decide
theorem kd_54 : kd 54 = (0, 9) := by decide +kernel
theorem ltN_54 : 54 < NN := by decide
theorem kd_55 : kd 55 = (3, 9) := by decide +kernel
theorem ltN_55 : 55 < NN := by decide
theorem kd_56 : kd 56 = (0, 5) := by decide +kernel
theorem ltN_56 : 56 < NN := by decide
theorem kd_57 : kd 57 = (0, 5) := by decide +kernel
theorem ltN_57 : 57 < NN := by decide
theorem kd_58 : kd 58 = (0, 5) := by decide +kernel
theorem ltN_58 : 58 < NN := by decide
theorem kd_59 : kd 59 = (0, 5) := by decide +kernel
theorem ltN_59 : 59 < NN := by decide
theorem kd_60 : kd 60 = (0, 5) := by decide +kernel
theorem ltN_60 : 60 < NN := by decide
theorem kd_61 : kd 61 = (0, 5) := by decide +kernel
theorem ltN_61 : 61 < NN := by decide
theorem kd_62 : kd 62 = (0, 5) := by decide +kernel
theorem ltN_62 : 62 < NN := by decide
theorem kd_63 : kd 63 = (0, 5) := by decide +kernel
theorem ltN_63 : 63 < NN := by decide
theorem kd_64 : kd 64 = (0, 5) := by decide +kernel
theorem ltN_64 : 64 < NN := by decide
theorem kd_65 : kd 65 = (0, 9) := by decide +kernel
theorem ltN_65 : 65 < NN := by decide
theorem kd_66 : kd 66 = (6, 0) := by decide +kernel
theorem ltN_66 : 66 < NN := by decide
theorem kd_67 : kd 67 = (0, 9) := by decide +kernel
theorem ltN_67 : 67 < NN := by decide
theorem kd_68 : kd 68 = (3, 9) := by decide +kernel
theorem ltN_68 : 68 < NN := by decide
theorem kd_69 : kd 69 = (0, 5) := by decide +kernel
theorem ltN_69 : 69 < NN := by decide
theorem kd_70 : kd 70 = (0, 5) := by decide +kernel
theorem ltN_70 : 70 < NN := by decide
theorem kd_71 : kd 71 = (0, 5) := by decide +kernel
theorem ltN_71 : 71 < NN := by decide
theorem kd_72 : kd 72 = (0, 5) := by decide +kernel
theorem ltN_72 : 72 < NN := by decide
theorem kd_73 : kd 73 = (0, 5) := by decide +kernel
theorem ltN_73 : 73 < NN := by decide
theorem kd_74 : kd 74 = (0, 5) := by decide +kernel
theorem ltN_74 : 74 < NN := by decide
theorem kd_75 : kd 75 = (0, 5) := by decide +kernel
theorem ltN_75 : 75 < NN := by decide
theorem kd_76 : kd 76 = (0, 5) := by decide +kernel
theorem ltN_76 : 76 < NN := by decide
theorem kd_77 : kd 77 = (0, 5) := by decide +kernel
theorem ltN_77 : 77 < NN := by decide
theorem kd_78 : kd 78 = (0, 9) := by decide +kernel
theorem ltN_78 : 78 < NN := by decide
theorem kd_79 : kd 79 = (9, 0) := by decide +kernel
theorem ltN_79 : 79 < NN := by decide
theorem kd_80 : kd 80 = (4, 5) := by decide +kernel
theorem ltN_80 : 80 < NN := by decide
theorem kd_81 : kd 81 = (1, 10) := by decide +kernel
theorem ltN_81 : 81 < NN := by decide
theorem kd_82 : kd 82 = (1, 10) := by decide +kernel
theorem ltN_82 : 82 < NN := by decide
theorem kd_83 : kd 83 = (1, 10) := by decide +kernel
theorem ltN_83 : 83 < NN := by decide
theorem kd_84 : kd 84 = (1, 10) := by decide +kernel
theorem ltN_84 : 84 < NN := by decide
theorem kd_85 : kd 85 = (1, 10) := by decide +kernel
theorem ltN_85 : 85 < NN := by decide
theorem kd_86 : kd 86 = (8, 0) := by decide +kernel
theorem ltN_86 : 86 < NN := by decide
theorem kd_87 : kd 87 = (0, 5) := by decide +kernel
theorem ltN_87 : 87 < NN := by decide
theorem kd_88 : kd 88 = (10, 0) := by decide +kernel
theorem ltN_88 : 88 < NN := by decide
theorem kd_89 : kd 89 = (0, 40) := by decide +kernel
theorem ltN_89 : 89 < NN := by decide
theorem kd_90 : kd 90 = (3, 40) := by decide +kernel
theorem ltN_90 : 90 < NN := by decide
theorem kd_91 : kd 91 = (0, 9) := by decide +kernel
theorem ltN_91 : 91 < NN := by decide
theorem kd_92 : kd 92 = (0, 9) := by decide +kernel
theorem ltN_92 : 92 < NN := by decide
theorem kd_93 : kd 93 = (0, 9) := by decide +kernel
theorem ltN_93 : 93 < NN := by decide
theorem kd_94 : kd 94 = (0, 9) := by decide +kernel
theorem ltN_94 : 94 < NN := by decide
theorem kd_95 : kd 95 = (0, 9) := by decide +kernel
theorem ltN_95 : 95 < NN := by decide
theorem kd_96 : kd 96 = (0, 9) := by decide +kernel
theorem ltN_96 : 96 < NN := by decide
theorem kd_97 : kd 97 = (0, 9) := by decide +kernel
theorem ltN_97 : 97 < NN := by decide
theorem kd_98 : kd 98 = (0, 9) := by decide +kernel
theorem ltN_98 : 98 < NN := by decide
theorem kd_99 : kd 99 = (0, 9) := by decide +kernel
theorem ltN_99 : 99 < NN := by decide
theorem kd_100 : kd 100 = (0, 9) := by decide +kernel
theorem ltN_100 : 100 < NN := by decide
theorem kd_101 : kd 101 = (0, 9) := by decide +kernel
theorem ltN_101 : 101 < NN := by decide
theorem kd_102 : kd 102 = (0, 9) := by decide +kernel
theorem ltN_102 : 102 < NN := by decide
theorem kd_103 : kd 103 = (0, 9) := by decide +kernel
theorem ltN_103 : 103 < NN := by decide
theorem kd_104 : kd 104 = (0, 9) := by decide +kernel
theorem ltN_104 : 104 < NN := by decide
theorem kd_105 : kd 105 = (0, 9) := by decide +kernel
theorem ltN_105 : 105 < NN := by decide
theorem kd_106 : kd 106 = (0, 9) := by decide +kernel
theorem ltN_106 : 106 < NN := by decide
theorem kd_107 : kd 107 = (0, 9) := by decide +kernel
theorem ltN_107 : 107 < NN := by decide
theorem kd_108 : kd 108 = (0, 9) := by decide +kernel
theorem ltN_108 : 108 < NN := by decide
theorem kd_109 : kd 109 = (0, 9) := by decide +kernel
theorem ltN_109 : 109 < NN := by decide
theorem kd_110 : kd 110 = (0, 9) := by decide +kernel
theorem ltN_110 : 110 < NN := by decide
theorem kd_111 : kd 111 = (0, 9) := by decide +kernel
theorem ltN_111 : 111 < NN := by decide
theorem kd_112 : kd 112 = (0, 9) := by decide +kernel
theorem ltN_112 : 112 < NN := by decide
theorem kd_113 : kd 113 = (0, 9) := by decide +kernel
theorem ltN_113 : 113 < NN := by decide
theorem kd_114 : kd 114 = (0, 9) := by decide +kernel
theorem ltN_114 : 114 < NN := by decide
theorem kd_115 : kd 115 = (0, 9) := by decide +kernel
theorem ltN_115 : 115 < NN := by decide
theorem kd_116 : kd 116 = (0, 9) := by decide +kernel
theorem ltN_116 : 116 < NN := by decide
theorem kd_117 : kd 117 = (0, 9) := by decide +kernel
theorem ltN_117 : 117 < NN := by decide
theorem kd_118 : kd 118 = (0, 9) := by decide +kernel
theorem ltN_118 : 118 < NN := by decide
theorem kd_119 : kd 119 = (0, 9) := by decide +kernel
theorem ltN_119 : 119 < NN := by decide
theorem kd_120 : kd 120 = (0, 9) := by decide +kernel
theorem ltN_120 : 120 < NN := by decide
theorem kd_121 : kd 121 = (0, 9) := by decide +kernel
theorem ltN_121 : 121 < NN := by decide
theorem kd_122 : kd 122 = (0, 9) := by decide +kernel
theorem ltN_122 : 122 < NN := by decide
theorem kd_123 : kd 123 = (0, 9) := by decide +kernel
theorem ltN_123 : 123 < NN := by decide
theorem kd_124 : kd 124 = (0, 9) := by decide +kernel
theorem ltN_124 : 124 < NN := by decide
theorem kd_125 : kd 125 = (0, 9) := by decide +kernel
theorem ltN_125 : 125 < NN := by decide
theorem kd_126 : kd 126 = (0, 9) := by decide +kernel
theorem ltN_126 : 126 < NN := by decide
theorem kd_127 : kd 127 = (0, 9) := by decide +kernel
theorem ltN_127 : 127 < NN := by decide
theorem kd_128 : kd 128 = (0, 9) := by decide +kernel
theorem ltN_128 : 128 < NN := by decide
theorem kd_129 : kd 129 = (0, 9) := by decide +kernel
theorem ltN_129 : 129 < NN := by decide
theorem kd_130 : kd 130 = (0, 9) := by decide +kernel
theorem ltN_130 : 130 < NN := by decide
theorem kd_131 : kd 131 = (0, 1800) := by decide +kernel
theorem ltN_131 : 131 < NN := by decide
theorem kd_132 : kd 132 = (12, 0) := by decide +kernel
theorem ltN_132 : 132 < NN := by decide
theorem kd_133 : kd 133 = (0, 41) := by decide +kernel
theorem ltN_133 : 133 < NN := by decide
theorem kd_134 : kd 134 = (0, 41) := by decide +kernel
theorem ltN_134 : 134 < NN := by decide
theorem kd_135 : kd 135 = (0, 41) := by decide +kernel
theorem ltN_135 : 135 < NN := by decide
theorem kd_136 : kd 136 = (0, 41) := by decide +kernel
theorem ltN_136 : 136 < NN := by decide
theorem kd_137 : kd 137 = (0, 41) := by decide +kernel
theorem ltN_137 : 137 < NN := by decide
theorem kd_138 : kd 138 = (0, 41) := by decide +kernel
theorem ltN_138 : 138 < NN := by decide
theorem kd_139 : kd 139 = (0, 3) := by decide +kernel
theorem ltN_139 : 139 < NN := by decide
theorem kd_140 : kd 140 = (0, 41) := by decide +kernel
theorem ltN_140 : 140 < NN := by decide
theorem kd_141 : kd 141 = (0, 50) := by decide +kernel
theorem ltN_141 : 141 < NN := by decide
theorem kd_142 : kd 142 = (0, 50) := by decide +kernel
theorem ltN_142 : 142 < NN := by decide
theorem kd_143 : kd 143 = (2, 50) := by decide +kernel
theorem ltN_143 : 143 < NN := by decide
theorem kd_144 : kd 144 = (0, 5) := by decide +kernel
theorem ltN_144 : 144 < NN := by decide
theorem kd_145 : kd 145 = (0, 9) := by decide +kernel
theorem ltN_145 : 145 < NN := by decide
theorem kd_146 : kd 146 = (1, 25) := by decide +kernel
theorem ltN_146 : 146 < NN := by decide
theorem kd_147 : kd 147 = (1, 4) := by decide +kernel
theorem ltN_147 : 147 < NN := by decide
theorem kd_148 : kd 148 = (0, 5) := by decide +kernel
theorem ltN_148 : 148 < NN := by decide
theorem kd_149 : kd 149 = (0, 490) := by decide +kernel
theorem ltN_149 : 149 < NN := by decide
theorem kd_150 : kd 150 = (2, 2) := by decide +kernel
theorem ltN_150 : 150 < NN := by decide
def isBook (b : Nat) : Prop := b = 1 ∨ b = 9 ∨ b = 17
theorem is_1 : isBook 1 := Or.inl rfl
theorem is_9 : isBook 9 := Or.inr (Or.inl rfl)
theorem is_17 : isBook 17 := Or.inr (Or.inr rfl)
theorem bk_k0 {b : Nat} (h : isBook b) : kd b = (5, 0) := by rcases h with rfl | rfl | rfl <;> decide +kernel
theorem bk_l0 {b : Nat} (h : isBook b) : b < NN := by rcases h with rfl | rfl | rfl <;> decide
theorem bk_k1 {b : Nat} (h : isBook b) : kd (b + 1) = (0, 41) := by rcases h with rfl | rfl | rfl <;> decide +kernel
theorem bk_l1 {b : Nat} (h : isBook b) : (b + 1) < NN := by rcases h with rfl | rfl | rfl <;> decide
theorem bk_k2 {b : Nat} (h : isBook b) : kd (b + 2) = (0, 41) := by rcases h with rfl | rfl | rfl <;> decide +kernel
theorem bk_l2 {b : Nat} (h : isBook b) : (b + 2) < NN := by rcases h with rfl | rfl | rfl <;> decide
theorem bk_k3 {b : Nat} (h : isBook b) : kd (b + 3) = (0, 41) := by rcases h with rfl | rfl | rfl <;> decide +kernel
theorem bk_l3 {b : Nat} (h : isBook b) : (b + 3) < NN := by rcases h with rfl | rfl | rfl <;> decide
theorem bk_k4 {b : Nat} (h : isBook b) : kd (b + 4) = (0, 41) := by rcases h with rfl | rfl | rfl <;> decide +kernel
theorem bk_l4 {b : Nat} (h : isBook b) : (b + 4) < NN := by rcases h with rfl | rfl | rfl <;> decide
theorem bk_k5 {b : Nat} (h : isBook b) : kd (b + 5) = (0, 41) := by rcases h with rfl | rfl | rfl <;> decide +kernel
theorem bk_l5 {b : Nat} (h : isBook b) : (b + 5) < NN := by rcases h with rfl | rfl | rfl <;> decide
theorem bk_k6 {b : Nat} (h : isBook b) : kd (b + 6) = (0, 41) := by rcases h with rfl | rfl | rfl <;> decide +kernel
theorem bk_l6 {b : Nat} (h : isBook b) : (b + 6) < NN := by rcases h with rfl | rfl | rfl <;> decide
theorem bk_k7 {b : Nat} (h : isBook b) : kd (b + 7) = (0, 41) := by rcases h with rfl | rfl | rfl <;> decide +kernel
theorem bk_l7 {b : Nat} (h : isBook b) : (b + 7) < NN := by rcases h with rfl | rfl | rfl <;> decide
def isCtrl (b : Nat) : Prop := b = 53 ∨ b = 66
theorem is_53 : isCtrl 53 := Or.inl rfl
theorem is_66 : isCtrl 66 := Or.inr rfl
theorem ct_k0 {b : Nat} (h : isCtrl b) : kd b = (6, 0) := by rcases h with rfl | rfl <;> decide +kernel
theorem ct_l0 {b : Nat} (h : isCtrl b) : b < NN := by rcases h with rfl | rfl <;> decide
theorem ct_k1 {b : Nat} (h : isCtrl b) : kd (b + 1) = (0, 9) := by rcases h with rfl | rfl <;> decide +kernel
theorem ct_l1 {b : Nat} (h : isCtrl b) : (b + 1) < NN := by rcases h with rfl | rfl <;> decide
theorem ct_k2 {b : Nat} (h : isCtrl b) : kd (b + 2) = (3, 9) := by rcases h with rfl | rfl <;> decide +kernel
theorem ct_l2 {b : Nat} (h : isCtrl b) : (b + 2) < NN := by rcases h with rfl | rfl <;> decide
theorem ct_r2 {b : Nat} (h : isCtrl b) {x : Int32} (hx : inb x 9) : kd (b + 2 + 1 + x.toNatClampNeg) = (0, 5) := by
  have hj := inb_lt hx
  generalize x.toNatClampNeg = j at hj ⊢
  rcases h with rfl | rfl <;> (revert j; decide +kernel)
theorem ct_s2 {b : Nat} (h : isCtrl b) {x : Int32} (hx : inb x 9) : b + 2 + 1 + x.toNatClampNeg < NN := by
  have hj := inb_lt hx
  generalize x.toNatClampNeg = j at hj ⊢
  rcases h with rfl | rfl <;> (revert j; decide +kernel)
theorem ct_k3 {b : Nat} (h : isCtrl b) : kd (b + 3) = (0, 5) := by rcases h with rfl | rfl <;> decide +kernel
theorem ct_l3 {b : Nat} (h : isCtrl b) : (b + 3) < NN := by rcases h with rfl | rfl <;> decide
theorem ct_k4 {b : Nat} (h : isCtrl b) : kd (b + 4) = (0, 5) := by rcases h with rfl | rfl <;> decide +kernel
theorem ct_l4 {b : Nat} (h : isCtrl b) : (b + 4) < NN := by rcases h with rfl | rfl <;> decide
theorem ct_k5 {b : Nat} (h : isCtrl b) : kd (b + 5) = (0, 5) := by rcases h with rfl | rfl <;> decide +kernel
theorem ct_l5 {b : Nat} (h : isCtrl b) : (b + 5) < NN := by rcases h with rfl | rfl <;> decide
theorem ct_k6 {b : Nat} (h : isCtrl b) : kd (b + 6) = (0, 5) := by rcases h with rfl | rfl <;> decide +kernel
theorem ct_l6 {b : Nat} (h : isCtrl b) : (b + 6) < NN := by rcases h with rfl | rfl <;> decide
theorem ct_k7 {b : Nat} (h : isCtrl b) : kd (b + 7) = (0, 5) := by rcases h with rfl | rfl <;> decide +kernel
theorem ct_l7 {b : Nat} (h : isCtrl b) : (b + 7) < NN := by rcases h with rfl | rfl <;> decide
theorem ct_k8 {b : Nat} (h : isCtrl b) : kd (b + 8) = (0, 5) := by rcases h with rfl | rfl <;> decide +kernel
theorem ct_l8 {b : Nat} (h : isCtrl b) : (b + 8) < NN := by rcases h with rfl | rfl <;> decide
theorem ct_k9 {b : Nat} (h : isCtrl b) : kd (b + 9) = (0, 5) := by rcases h with rfl | rfl <;> decide +kernel
theorem ct_l9 {b : Nat} (h : isCtrl b) : (b + 9) < NN := by rcases h with rfl | rfl <;> decide
theorem ct_k10 {b : Nat} (h : isCtrl b) : kd (b + 10) = (0, 5) := by rcases h with rfl | rfl <;> decide +kernel
theorem ct_l10 {b : Nat} (h : isCtrl b) : (b + 10) < NN := by rcases h with rfl | rfl <;> decide
theorem ct_k11 {b : Nat} (h : isCtrl b) : kd (b + 11) = (0, 5) := by rcases h with rfl | rfl <;> decide +kernel
theorem ct_l11 {b : Nat} (h : isCtrl b) : (b + 11) < NN := by rcases h with rfl | rfl <;> decide
theorem ct_k12 {b : Nat} (h : isCtrl b) : kd (b + 12) = (0, 9) := by rcases h with rfl | rfl <;> decide +kernel
theorem ct_l12 {b : Nat} (h : isCtrl b) : (b + 12) < NN := by rcases h with rfl | rfl <;> decide
def isHold (b : Nat) : Prop := b = 25 ∨ b = 39
theorem is_25 : isHold 25 := Or.inl rfl
theorem is_39 : isHold 39 := Or.inr rfl
theorem hd_k0 {b : Nat} (h : isHold b) : kd b = (7, 0) := by rcases h with rfl | rfl <;> decide +kernel
theorem hd_l0 {b : Nat} (h : isHold b) : b < NN := by rcases h with rfl | rfl <;> decide
theorem hd_k1 {b : Nat} (h : isHold b) : kd (b + 1) = (3, 5) := by rcases h with rfl | rfl <;> decide +kernel
theorem hd_l1 {b : Nat} (h : isHold b) : (b + 1) < NN := by rcases h with rfl | rfl <;> decide
theorem hd_r1 {b : Nat} (h : isHold b) {x : Int32} (hx : inb x 5) : kd (b + 1 + 1 + x.toNatClampNeg) = (0, 10) := by
  have hj := inb_lt hx
  generalize x.toNatClampNeg = j at hj ⊢
  rcases h with rfl | rfl <;> (revert j; decide +kernel)
theorem hd_s1 {b : Nat} (h : isHold b) {x : Int32} (hx : inb x 5) : b + 1 + 1 + x.toNatClampNeg < NN := by
  have hj := inb_lt hx
  generalize x.toNatClampNeg = j at hj ⊢
  rcases h with rfl | rfl <;> (revert j; decide +kernel)
theorem hd_k2 {b : Nat} (h : isHold b) : kd (b + 2) = (0, 10) := by rcases h with rfl | rfl <;> decide +kernel
theorem hd_l2 {b : Nat} (h : isHold b) : (b + 2) < NN := by rcases h with rfl | rfl <;> decide
theorem hd_k3 {b : Nat} (h : isHold b) : kd (b + 3) = (0, 10) := by rcases h with rfl | rfl <;> decide +kernel
theorem hd_l3 {b : Nat} (h : isHold b) : (b + 3) < NN := by rcases h with rfl | rfl <;> decide
theorem hd_k4 {b : Nat} (h : isHold b) : kd (b + 4) = (0, 10) := by rcases h with rfl | rfl <;> decide +kernel
theorem hd_l4 {b : Nat} (h : isHold b) : (b + 4) < NN := by rcases h with rfl | rfl <;> decide
theorem hd_k5 {b : Nat} (h : isHold b) : kd (b + 5) = (0, 10) := by rcases h with rfl | rfl <;> decide +kernel
theorem hd_l5 {b : Nat} (h : isHold b) : (b + 5) < NN := by rcases h with rfl | rfl <;> decide
theorem hd_k6 {b : Nat} (h : isHold b) : kd (b + 6) = (0, 10) := by rcases h with rfl | rfl <;> decide +kernel
theorem hd_l6 {b : Nat} (h : isHold b) : (b + 6) < NN := by rcases h with rfl | rfl <;> decide
theorem hd_k7 {b : Nat} (h : isHold b) : kd (b + 7) = (3, 5) := by rcases h with rfl | rfl <;> decide +kernel
theorem hd_l7 {b : Nat} (h : isHold b) : (b + 7) < NN := by rcases h with rfl | rfl <;> decide
theorem hd_r7 {b : Nat} (h : isHold b) {x : Int32} (hx : inb x 5) : kd (b + 7 + 1 + x.toNatClampNeg) = (0, 10) := by
  have hj := inb_lt hx
  generalize x.toNatClampNeg = j at hj ⊢
  rcases h with rfl | rfl <;> (revert j; decide +kernel)
theorem hd_s7 {b : Nat} (h : isHold b) {x : Int32} (hx : inb x 5) : b + 7 + 1 + x.toNatClampNeg < NN := by
  have hj := inb_lt hx
  generalize x.toNatClampNeg = j at hj ⊢
  rcases h with rfl | rfl <;> (revert j; decide +kernel)
theorem hd_k8 {b : Nat} (h : isHold b) : kd (b + 8) = (0, 10) := by rcases h with rfl | rfl <;> decide +kernel
theorem hd_l8 {b : Nat} (h : isHold b) : (b + 8) < NN := by rcases h with rfl | rfl <;> decide
theorem hd_k9 {b : Nat} (h : isHold b) : kd (b + 9) = (0, 10) := by rcases h with rfl | rfl <;> decide +kernel
theorem hd_l9 {b : Nat} (h : isHold b) : (b + 9) < NN := by rcases h with rfl | rfl <;> decide
theorem hd_k10 {b : Nat} (h : isHold b) : kd (b + 10) = (0, 10) := by rcases h with rfl | rfl <;> decide +kernel
theorem hd_l10 {b : Nat} (h : isHold b) : (b + 10) < NN := by rcases h with rfl | rfl <;> decide
theorem hd_k11 {b : Nat} (h : isHold b) : kd (b + 11) = (0, 10) := by rcases h with rfl | rfl <;> decide +kernel
theorem hd_l11 {b : Nat} (h : isHold b) : (b + 11) < NN := by rcases h with rfl | rfl <;> decide
theorem hd_k12 {b : Nat} (h : isHold b) : kd (b + 12) = (0, 10) := by rcases h with rfl | rfl <;> decide +kernel
theorem hd_l12 {b : Nat} (h : isHold b) : (b + 12) < NN := by rcases h with rfl | rfl <;> decide
theorem hd_k13 {b : Nat} (h : isHold b) : kd (b + 13) = (0, 5) := by rcases h with rfl | rfl <;> decide +kernel
theorem hd_l13 {b : Nat} (h : isHold b) : (b + 13) < NN := by rcases h with rfl | rfl <;> decide
theorem st_r {x : Int32} (hx : inb x 5) : kd (80 + 1 + x.toNatClampNeg) = (1, 10) := by
  have hj := inb_lt hx
  generalize x.toNatClampNeg = j at hj ⊢
  revert j; decide +kernel
theorem st_s {x : Int32} (hx : inb x 5) : 80 + 1 + x.toNatClampNeg < NN := by
  have hj := inb_lt hx
  generalize x.toNatClampNeg = j at hj ⊢
  revert j; decide +kernel
theorem tl_r {x : Int32} (hx : inb x 40) : kd (90 + 1 + x.toNatClampNeg) = (0, 9) := by
  have hj := inb_lt hx
  generalize x.toNatClampNeg = j at hj ⊢
  revert j; decide +kernel
theorem tl_s {x : Int32} (hx : inb x 40) : 90 + 1 + x.toNatClampNeg < NN := by
  have hj := inb_lt hx
  generalize x.toNatClampNeg = j at hj ⊢
  revert j; decide +kernel
theorem v_X0 : ∀ k, k < 12 → u_lay RX0 TX0 k ∈ wsAll := fun k h => match k, h with
  | 0, _ => mem_tb 60 (by decide +kernel) (by decide +kernel)
  | 1, _ => mem_tb 62 (by decide +kernel) (by decide +kernel)
  | 2, _ => mem_tb 64 (by decide +kernel) (by decide +kernel)
  | 3, _ => mem_tb 66 (by decide +kernel) (by decide +kernel)
  | 4, _ => mem_tb 68 (by decide +kernel) (by decide +kernel)
  | 5, _ => mem_tb 70 (by decide +kernel) (by decide +kernel)
  | 6, _ => mem_tb 72 (by decide +kernel) (by decide +kernel)
  | 7, _ => mem_tb 74 (by decide +kernel) (by decide +kernel)
  | 8, _ => mem_tb 76 (by decide +kernel) (by decide +kernel)
  | 9, _ => mem_tb 78 (by decide +kernel) (by decide +kernel)
  | 10, _ => mem_tb 80 (by decide +kernel) (by decide +kernel)
  | 11, _ => mem_tb 82 (by decide +kernel) (by decide +kernel)
theorem u_X0 : ∀ w ∈ u_ws RX0 TX0 12, w ∈ wsAll := fun w h => by
  obtain ⟨k, hk, rfl⟩ := List.mem_map.mp h
  exact v_X0 k (List.mem_range.mp hk)
theorem v_X1 : ∀ k, k < 3 → u_lay RX1 TX1 k ∈ wsAll := fun k h => match k, h with
  | 0, _ => mem_tb 122 (by decide +kernel) (by decide +kernel)
  | 1, _ => mem_tb 124 (by decide +kernel) (by decide +kernel)
  | 2, _ => mem_tb 126 (by decide +kernel) (by decide +kernel)
theorem u_X1 : ∀ w ∈ u_ws RX1 TX1 3, w ∈ wsAll := fun w h => by
  obtain ⟨k, hk, rfl⟩ := List.mem_map.mp h
  exact v_X1 k (List.mem_range.mp hk)
theorem v_X2 : ∀ k, k < 3 → u_lay RX2 TX2 k ∈ wsAll := fun k h => match k, h with
  | 0, _ => mem_tb 102 (by decide +kernel) (by decide +kernel)
  | 1, _ => mem_tb 104 (by decide +kernel) (by decide +kernel)
  | 2, _ => mem_tb 106 (by decide +kernel) (by decide +kernel)
theorem u_X2 : ∀ w ∈ u_ws RX2 TX2 3, w ∈ wsAll := fun w h => by
  obtain ⟨k, hk, rfl⟩ := List.mem_map.mp h
  exact v_X2 k (List.mem_range.mp hk)
theorem v_X3 : ∀ k, k < 1 → u_lay RX3 TX3 k ∈ wsAll := fun k h => match k, h with
  | 0, _ => mem_tb 153 (by decide +kernel) (by decide +kernel)
theorem u_X3 : ∀ w ∈ u_ws RX3 TX3 1, w ∈ wsAll := fun w h => by
  obtain ⟨k, hk, rfl⟩ := List.mem_map.mp h
  exact v_X3 k (List.mem_range.mp hk)
theorem v_X4 : ∀ k, k < 2 → u_lay RX4 TX4 k ∈ wsAll := fun k h => match k, h with
  | 0, _ => mem_tb 140 (by decide +kernel) (by decide +kernel)
  | 1, _ => mem_tb 142 (by decide +kernel) (by decide +kernel)
theorem u_X4 : ∀ w ∈ u_ws RX4 TX4 2, w ∈ wsAll := fun w h => by
  obtain ⟨k, hk, rfl⟩ := List.mem_map.mp h
  exact v_X4 k (List.mem_range.mp hk)
theorem v_X5 : ∀ k, k < 5 → u_lay RX5 TX5 k ∈ wsAll := fun k h => match k, h with
  | 0, _ => mem_tb 169 (by decide +kernel) (by decide +kernel)
  | 1, _ => mem_tb 171 (by decide +kernel) (by decide +kernel)
  | 2, _ => mem_tb 173 (by decide +kernel) (by decide +kernel)
  | 3, _ => mem_tb 175 (by decide +kernel) (by decide +kernel)
  | 4, _ => mem_tb 177 (by decide +kernel) (by decide +kernel)
theorem u_X5 : ∀ w ∈ u_ws RX5 TX5 5, w ∈ wsAll := fun w h => by
  obtain ⟨k, hk, rfl⟩ := List.mem_map.mp h
  exact v_X5 k (List.mem_range.mp hk)
theorem v_X6 : ∀ k, k < 13 → u_lay RX6 TX6 k ∈ wsAll := fun k h => match k, h with
  | 0, _ => mem_tb 193 (by decide +kernel) (by decide +kernel)
  | 1, _ => mem_tb 195 (by decide +kernel) (by decide +kernel)
  | 2, _ => mem_tb 197 (by decide +kernel) (by decide +kernel)
  | 3, _ => mem_tb 199 (by decide +kernel) (by decide +kernel)
  | 4, _ => mem_tb 201 (by decide +kernel) (by decide +kernel)
  | 5, _ => mem_tb 203 (by decide +kernel) (by decide +kernel)
  | 6, _ => mem_tb 205 (by decide +kernel) (by decide +kernel)
  | 7, _ => mem_tb 207 (by decide +kernel) (by decide +kernel)
  | 8, _ => mem_tb 209 (by decide +kernel) (by decide +kernel)
  | 9, _ => mem_tb 211 (by decide +kernel) (by decide +kernel)
  | 10, _ => mem_tb 213 (by decide +kernel) (by decide +kernel)
  | 11, _ => mem_tb 215 (by decide +kernel) (by decide +kernel)
  | 12, _ => mem_tb 217 (by decide +kernel) (by decide +kernel)
theorem u_X6 : ∀ w ∈ u_ws RX6 TX6 13, w ∈ wsAll := fun w h => by
  obtain ⟨k, hk, rfl⟩ := List.mem_map.mp h
  exact v_X6 k (List.mem_range.mp hk)
theorem v_X7 : ∀ k, k < 25 → u_lay RX7 TX7 k ∈ wsAll := fun k h => match k, h with
  | 0, _ => mem_tb 642 (by decide +kernel) (by decide +kernel)
  | 1, _ => mem_tb 644 (by decide +kernel) (by decide +kernel)
  | 2, _ => mem_tb 646 (by decide +kernel) (by decide +kernel)
  | 3, _ => mem_tb 648 (by decide +kernel) (by decide +kernel)
  | 4, _ => mem_tb 650 (by decide +kernel) (by decide +kernel)
  | 5, _ => mem_tb 652 (by decide +kernel) (by decide +kernel)
  | 6, _ => mem_tb 654 (by decide +kernel) (by decide +kernel)
  | 7, _ => mem_tb 656 (by decide +kernel) (by decide +kernel)
  | 8, _ => mem_tb 658 (by decide +kernel) (by decide +kernel)
  | 9, _ => mem_tb 660 (by decide +kernel) (by decide +kernel)
  | 10, _ => mem_tb 662 (by decide +kernel) (by decide +kernel)
  | 11, _ => mem_tb 664 (by decide +kernel) (by decide +kernel)
  | 12, _ => mem_tb 666 (by decide +kernel) (by decide +kernel)
  | 13, _ => mem_tb 668 (by decide +kernel) (by decide +kernel)
  | 14, _ => mem_tb 670 (by decide +kernel) (by decide +kernel)
  | 15, _ => mem_tb 672 (by decide +kernel) (by decide +kernel)
  | 16, _ => mem_tb 674 (by decide +kernel) (by decide +kernel)
  | 17, _ => mem_tb 676 (by decide +kernel) (by decide +kernel)
  | 18, _ => mem_tb 678 (by decide +kernel) (by decide +kernel)
  | 19, _ => mem_tb 680 (by decide +kernel) (by decide +kernel)
  | 20, _ => mem_tb 682 (by decide +kernel) (by decide +kernel)
  | 21, _ => mem_tb 684 (by decide +kernel) (by decide +kernel)
  | 22, _ => mem_tb 686 (by decide +kernel) (by decide +kernel)
  | 23, _ => mem_tb 688 (by decide +kernel) (by decide +kernel)
  | 24, _ => mem_tb 690 (by decide +kernel) (by decide +kernel)
  | k + 25, h => absurd h (by omega)
theorem u_X7 : ∀ w ∈ u_ws RX7 TX7 25, w ∈ wsAll := fun w h => by
  obtain ⟨k, hk, rfl⟩ := List.mem_map.mp h
  exact v_X7 k (List.mem_range.mp hk)
theorem fw_X0_11 : Cond.fieldLink RX0 11 (TX0 0).1 (TX0 0).2.1 (TX0 0).2.2.1 ∈ wsAll := mem_tb 26 (by decide +kernel) (by decide +kernel)
theorem fw_X0_15 : Cond.fieldLink RX0 15 (TX0 1).1 (TX0 1).2.1 (TX0 1).2.2.1 ∈ wsAll := mem_tb 29 (by decide +kernel) (by decide +kernel)
theorem fw_X0_18 : Cond.fieldLink RX0 18 (TX0 2).1 (TX0 2).2.1 (TX0 2).2.2.1 ∈ wsAll := mem_tb 32 (by decide +kernel) (by decide +kernel)
theorem fw_X0_21 : Cond.fieldLink RX0 21 (TX0 3).1 (TX0 3).2.1 (TX0 3).2.2.1 ∈ wsAll := mem_tb 35 (by decide +kernel) (by decide +kernel)
theorem fw_X0_24 : Cond.fieldLink RX0 24 (TX0 4).1 (TX0 4).2.1 (TX0 4).2.2.1 ∈ wsAll := mem_tb 38 (by decide +kernel) (by decide +kernel)
theorem fw_X0_27 : Cond.fieldLink RX0 27 (TX0 5).1 (TX0 5).2.1 (TX0 5).2.2.1 ∈ wsAll := mem_tb 41 (by decide +kernel) (by decide +kernel)
theorem fw_X0_30 : Cond.fieldLink RX0 30 (TX0 6).1 (TX0 6).2.1 (TX0 6).2.2.1 ∈ wsAll := mem_tb 44 (by decide +kernel) (by decide +kernel)
theorem fw_X0_33 : Cond.fieldLink RX0 33 (TX0 9).1 (TX0 9).2.1 (TX0 9).2.2.1 ∈ wsAll := mem_tb 52 (by decide +kernel) (by decide +kernel)
theorem fw_X0_37 : Cond.fieldLink RX0 37 (TX0 10).1 (TX0 10).2.1 (TX0 10).2.2.1 ∈ wsAll := mem_tb 55 (by decide +kernel) (by decide +kernel)
theorem fw_X0_40 : Cond.fieldLink RX0 40 (TX0 11).1 (TX0 11).2.1 (TX0 11).2.2.1 ∈ wsAll := mem_tb 58 (by decide +kernel) (by decide +kernel)
theorem fw_X0_43 : Cond.fieldLink RX0 43 (TX0 7).1 (TX0 7).2.1 (TX0 7).2.2.1 ∈ wsAll := mem_tb 47 (by decide +kernel) (by decide +kernel)
theorem fw_X0_59 : Cond.fieldLink RX0 59 (TX0 8).1 (TX0 8).2.1 (TX0 8).2.2.1 ∈ wsAll := mem_tb 50 (by decide +kernel) (by decide +kernel)
theorem fw_X1_9 : Cond.fieldLink RX1 9 (TX1 0).1 (TX1 0).2.1 (TX1 0).2.2.1 ∈ wsAll := mem_tb 116 (by decide +kernel) (by decide +kernel)
theorem fw_X1_17 : Cond.fieldLink RX1 17 (TX1 1).1 (TX1 1).2.1 (TX1 1).2.2.1 ∈ wsAll := mem_tb 119 (by decide +kernel) (by decide +kernel)
theorem fw_X1_20 : Cond.fieldLink RX1 20 (TX1 2).1 (TX1 2).2.1 (TX1 2).2.2.1 ∈ wsAll := mem_tb 121 (by decide +kernel) (by decide +kernel)
theorem fw_X2_11 : Cond.fieldLink RX2 11 (TX2 0).1 (TX2 0).2.1 (TX2 0).2.2.1 ∈ wsAll := mem_tb 94 (by decide +kernel) (by decide +kernel)
theorem fw_X2_16 : Cond.fieldLink RX2 16 (TX2 1).1 (TX2 1).2.1 (TX2 1).2.2.1 ∈ wsAll := mem_tb 98 (by decide +kernel) (by decide +kernel)
theorem fw_X2_19 : Cond.fieldLink RX2 19 (TX2 2).1 (TX2 2).2.1 (TX2 2).2.2.1 ∈ wsAll := mem_tb 100 (by decide +kernel) (by decide +kernel)
theorem fw_X2_29 : Cond.fieldLink RX2 29 (TX0 2).1 (TX0 2).2.1 (TX0 2).2.2.1 ∈ wsAll := mem_tb 33 (by decide +kernel) (by decide +kernel)
theorem fw_X2_34 : Cond.fieldLink RX2 34 (TX0 4).1 (TX0 4).2.1 (TX0 4).2.2.1 ∈ wsAll := mem_tb 39 (by decide +kernel) (by decide +kernel)
theorem fw_X2_37 : Cond.fieldLink RX2 37 (TX0 1).1 (TX0 1).2.1 (TX0 1).2.2.1 ∈ wsAll := mem_tb 30 (by decide +kernel) (by decide +kernel)
theorem fw_X2_40 : Cond.fieldLink RX2 40 (TX0 3).1 (TX0 3).2.1 (TX0 3).2.2.1 ∈ wsAll := mem_tb 36 (by decide +kernel) (by decide +kernel)
theorem fw_X2_43 : Cond.fieldLink RX2 43 (TX0 5).1 (TX0 5).2.1 (TX0 5).2.2.1 ∈ wsAll := mem_tb 42 (by decide +kernel) (by decide +kernel)
theorem fw_X2_57 : Cond.fieldLink RX2 57 (TX0 9).1 (TX0 9).2.1 (TX0 9).2.2.1 ∈ wsAll := mem_tb 54 (by decide +kernel) (by decide +kernel)
theorem fw_X2_61 : Cond.fieldLink RX2 61 (TX0 10).1 (TX0 10).2.1 (TX0 10).2.2.1 ∈ wsAll := mem_tb 57 (by decide +kernel) (by decide +kernel)
theorem fw_X3_9 : Cond.fieldLink RX3 9 (TX3 0).1 (TX3 0).2.1 (TX3 0).2.2.1 ∈ wsAll := mem_tb 152 (by decide +kernel) (by decide +kernel)
theorem fw_X3_23 : Cond.fieldLink RX3 23 (TX2 0).1 (TX2 0).2.1 (TX2 0).2.2.1 ∈ wsAll := mem_tb 95 (by decide +kernel) (by decide +kernel)
theorem fw_X4_13 : Cond.fieldLink RX4 13 (TX4 1).1 (TX4 1).2.1 (TX4 1).2.2.1 ∈ wsAll := mem_tb 139 (by decide +kernel) (by decide +kernel)
theorem fw_X4_20 : Cond.fieldLink RX4 20 (TX4 0).1 (TX4 0).2.1 (TX4 0).2.2.1 ∈ wsAll := mem_tb 137 (by decide +kernel) (by decide +kernel)
theorem fw_X4_41 : Cond.fieldLink RX4 41 (TX2 0).1 (TX2 0).2.1 (TX2 0).2.2.1 ∈ wsAll := mem_tb 96 (by decide +kernel) (by decide +kernel)
theorem fw_X5_9 : Cond.fieldLink RX5 9 (TX5 0).1 (TX5 0).2.1 (TX5 0).2.2.1 ∈ wsAll := mem_tb 163 (by decide +kernel) (by decide +kernel)
theorem fw_X5_17 : Cond.fieldLink RX5 17 (TX5 1).1 (TX5 1).2.1 (TX5 1).2.2.1 ∈ wsAll := mem_tb 164 (by decide +kernel) (by decide +kernel)
theorem fw_X5_20 : Cond.fieldLink RX5 20 (TX5 3).1 (TX5 3).2.1 (TX5 3).2.2.1 ∈ wsAll := mem_tb 166 (by decide +kernel) (by decide +kernel)
theorem fw_X5_23 : Cond.fieldLink RX5 23 (TX5 2).1 (TX5 2).2.1 (TX5 2).2.2.1 ∈ wsAll := mem_tb 165 (by decide +kernel) (by decide +kernel)
theorem fw_X5_32 : Cond.fieldLink RX5 32 (TX0 7).1 (TX0 7).2.1 (TX0 7).2.2.1 ∈ wsAll := mem_tb 48 (by decide +kernel) (by decide +kernel)
theorem fw_X5_35 : Cond.fieldLink RX5 35 (TX0 6).1 (TX0 6).2.1 (TX0 6).2.2.1 ∈ wsAll := mem_tb 45 (by decide +kernel) (by decide +kernel)
theorem fw_X5_52 : Cond.fieldLink RX5 52 (TX1 0).1 (TX1 0).2.1 (TX1 0).2.2.1 ∈ wsAll := mem_tb 117 (by decide +kernel) (by decide +kernel)
theorem fw_X5_54 : Cond.fieldLink RX5 54 (TX0 0).1 (TX0 0).2.1 (TX0 0).2.2.1 ∈ wsAll := mem_tb 27 (by decide +kernel) (by decide +kernel)
theorem fw_X5_60 : Cond.fieldLink RX5 60 (TX5 4).1 (TX5 4).2.1 (TX5 4).2.2.1 ∈ wsAll := mem_tb 167 (by decide +kernel) (by decide +kernel)
theorem fw_X6_12 : Cond.fieldLink RX6 12 (TX6 0).1 (TX6 0).2.1 (TX6 0).2.2.1 ∈ wsAll := mem_tb 180 (by decide +kernel) (by decide +kernel)
theorem fw_X6_16 : Cond.fieldLink RX6 16 (TX6 1).1 (TX6 1).2.1 (TX6 1).2.2.1 ∈ wsAll := mem_tb 181 (by decide +kernel) (by decide +kernel)
theorem fw_X6_19 : Cond.fieldLink RX6 19 (TX6 2).1 (TX6 2).2.1 (TX6 2).2.2.1 ∈ wsAll := mem_tb 182 (by decide +kernel) (by decide +kernel)
theorem fw_X6_25 : Cond.fieldLink RX6 25 (TX6 4).1 (TX6 4).2.1 (TX6 4).2.2.1 ∈ wsAll := mem_tb 184 (by decide +kernel) (by decide +kernel)
theorem fw_X6_32 : Cond.fieldLink RX6 32 (TX6 5).1 (TX6 5).2.1 (TX6 5).2.2.1 ∈ wsAll := mem_tb 185 (by decide +kernel) (by decide +kernel)
theorem fw_X6_39 : Cond.fieldLink RX6 39 (TX6 6).1 (TX6 6).2.1 (TX6 6).2.2.1 ∈ wsAll := mem_tb 186 (by decide +kernel) (by decide +kernel)
theorem fw_X6_46 : Cond.fieldLink RX6 46 (TX6 7).1 (TX6 7).2.1 (TX6 7).2.2.1 ∈ wsAll := mem_tb 187 (by decide +kernel) (by decide +kernel)
theorem fw_X6_53 : Cond.fieldLink RX6 53 (TX6 9).1 (TX6 9).2.1 (TX6 9).2.2.1 ∈ wsAll := mem_tb 189 (by decide +kernel) (by decide +kernel)
theorem fw_X6_57 : Cond.fieldLink RX6 57 (TX6 11).1 (TX6 11).2.1 (TX6 11).2.2.1 ∈ wsAll := mem_tb 191 (by decide +kernel) (by decide +kernel)
theorem fw_X6_60 : Cond.fieldLink RX6 60 (TX6 12).1 (TX6 12).2.1 (TX6 12).2.2.1 ∈ wsAll := mem_tb 192 (by decide +kernel) (by decide +kernel)
theorem fw_X6_96 : Cond.fieldLink RX6 96 (TX0 7).1 (TX0 7).2.1 (TX0 7).2.2.1 ∈ wsAll := mem_tb 49 (by decide +kernel) (by decide +kernel)
theorem fw_X6_100 : Cond.fieldLink RX6 100 (TX0 0).1 (TX0 0).2.1 (TX0 0).2.2.1 ∈ wsAll := mem_tb 28 (by decide +kernel) (by decide +kernel)
theorem fw_X6_104 : Cond.fieldLink RX6 104 (TX0 2).1 (TX0 2).2.1 (TX0 2).2.2.1 ∈ wsAll := mem_tb 34 (by decide +kernel) (by decide +kernel)
theorem fw_X6_107 : Cond.fieldLink RX6 107 (TX0 1).1 (TX0 1).2.1 (TX0 1).2.2.1 ∈ wsAll := mem_tb 31 (by decide +kernel) (by decide +kernel)
theorem fw_X6_110 : Cond.fieldLink RX6 110 (TX0 3).1 (TX0 3).2.1 (TX0 3).2.2.1 ∈ wsAll := mem_tb 37 (by decide +kernel) (by decide +kernel)
theorem fw_X6_113 : Cond.fieldLink RX6 113 (TX0 4).1 (TX0 4).2.1 (TX0 4).2.2.1 ∈ wsAll := mem_tb 40 (by decide +kernel) (by decide +kernel)
theorem fw_X6_116 : Cond.fieldLink RX6 116 (TX0 5).1 (TX0 5).2.1 (TX0 5).2.2.1 ∈ wsAll := mem_tb 43 (by decide +kernel) (by decide +kernel)
theorem fw_X6_123 : Cond.fieldLink RX6 123 (TX0 8).1 (TX0 8).2.1 (TX0 8).2.2.1 ∈ wsAll := mem_tb 51 (by decide +kernel) (by decide +kernel)
theorem fw_X6_130 : Cond.fieldLink RX6 130 (TX6 8).1 (TX6 8).2.1 (TX6 8).2.2.1 ∈ wsAll := mem_tb 188 (by decide +kernel) (by decide +kernel)
theorem fw_X6_134 : Cond.fieldLink RX6 134 (TX0 9).1 (TX0 9).2.1 (TX0 9).2.2.1 ∈ wsAll := mem_tb 53 (by decide +kernel) (by decide +kernel)
theorem fw_X6_137 : Cond.fieldLink RX6 137 (TX0 10).1 (TX0 10).2.1 (TX0 10).2.2.1 ∈ wsAll := mem_tb 56 (by decide +kernel) (by decide +kernel)
theorem fw_X6_140 : Cond.fieldLink RX6 140 (TX0 11).1 (TX0 11).2.1 (TX0 11).2.2.1 ∈ wsAll := mem_tb 59 (by decide +kernel) (by decide +kernel)
theorem fw_X6_149 : Cond.fieldLink RX6 149 (TX2 0).1 (TX2 0).2.1 (TX2 0).2.2.1 ∈ wsAll := mem_tb 97 (by decide +kernel) (by decide +kernel)
theorem fw_X6_153 : Cond.fieldLink RX6 153 (TX2 1).1 (TX2 1).2.1 (TX2 1).2.2.1 ∈ wsAll := mem_tb 99 (by decide +kernel) (by decide +kernel)
theorem fw_X6_156 : Cond.fieldLink RX6 156 (TX2 2).1 (TX2 2).2.1 (TX2 2).2.2.1 ∈ wsAll := mem_tb 101 (by decide +kernel) (by decide +kernel)
theorem fw_X6_163 : Cond.fieldLink RX6 163 (TX1 0).1 (TX1 0).2.1 (TX1 0).2.2.1 ∈ wsAll := mem_tb 118 (by decide +kernel) (by decide +kernel)
theorem fw_X6_170 : Cond.fieldLink RX6 170 (TX1 1).1 (TX1 1).2.1 (TX1 1).2.2.1 ∈ wsAll := mem_tb 120 (by decide +kernel) (by decide +kernel)
theorem fw_X6_245 : Cond.fieldLink RX6 245 (TX6 3).1 (TX6 3).2.1 (TX6 3).2.2.1 ∈ wsAll := mem_tb 183 (by decide +kernel) (by decide +kernel)
theorem fw_X6_258 : Cond.fieldLink RX6 258 (TX5 4).1 (TX5 4).2.1 (TX5 4).2.2.1 ∈ wsAll := mem_tb 168 (by decide +kernel) (by decide +kernel)
theorem fw_X6_261 : Cond.fieldLink RX6 261 (TX4 0).1 (TX4 0).2.1 (TX4 0).2.2.1 ∈ wsAll := mem_tb 138 (by decide +kernel) (by decide +kernel)
theorem fw_X6_271 : Cond.fieldLink RX6 271 (TX0 6).1 (TX0 6).2.1 (TX0 6).2.2.1 ∈ wsAll := mem_tb 46 (by decide +kernel) (by decide +kernel)
theorem fw_X6_278 : Cond.fieldLink RX6 278 (TX6 10).1 (TX6 10).2.1 (TX6 10).2.2.1 ∈ wsAll := mem_tb 190 (by decide +kernel) (by decide +kernel)
theorem fw_X7_7 : Cond.fieldLink RX7 7 (TX7 0).1 (TX7 0).2.1 (TX7 0).2.2.1 ∈ wsAll := mem_tb 617 (by decide +kernel) (by decide +kernel)
theorem fw_X7_13 : Cond.fieldLink RX7 13 (TX7 1).1 (TX7 1).2.1 (TX7 1).2.2.1 ∈ wsAll := mem_tb 618 (by decide +kernel) (by decide +kernel)
theorem fw_X7_16 : Cond.fieldLink RX7 16 (TX7 2).1 (TX7 2).2.1 (TX7 2).2.2.1 ∈ wsAll := mem_tb 619 (by decide +kernel) (by decide +kernel)
theorem fw_X7_19 : Cond.fieldLink RX7 19 (TX7 3).1 (TX7 3).2.1 (TX7 3).2.2.1 ∈ wsAll := mem_tb 620 (by decide +kernel) (by decide +kernel)
theorem fw_X7_22 : Cond.fieldLink RX7 22 (TX7 4).1 (TX7 4).2.1 (TX7 4).2.2.1 ∈ wsAll := mem_tb 621 (by decide +kernel) (by decide +kernel)
theorem fw_X7_25 : Cond.fieldLink RX7 25 (TX7 5).1 (TX7 5).2.1 (TX7 5).2.2.1 ∈ wsAll := mem_tb 622 (by decide +kernel) (by decide +kernel)
theorem fw_X7_28 : Cond.fieldLink RX7 28 (TX7 8).1 (TX7 8).2.1 (TX7 8).2.2.1 ∈ wsAll := mem_tb 625 (by decide +kernel) (by decide +kernel)
theorem fw_X7_31 : Cond.fieldLink RX7 31 (TX7 9).1 (TX7 9).2.1 (TX7 9).2.2.1 ∈ wsAll := mem_tb 626 (by decide +kernel) (by decide +kernel)
theorem fw_X7_34 : Cond.fieldLink RX7 34 (TX7 10).1 (TX7 10).2.1 (TX7 10).2.2.1 ∈ wsAll := mem_tb 627 (by decide +kernel) (by decide +kernel)
theorem fw_X7_37 : Cond.fieldLink RX7 37 (TX7 11).1 (TX7 11).2.1 (TX7 11).2.2.1 ∈ wsAll := mem_tb 628 (by decide +kernel) (by decide +kernel)
theorem fw_X7_40 : Cond.fieldLink RX7 40 (TX7 12).1 (TX7 12).2.1 (TX7 12).2.2.1 ∈ wsAll := mem_tb 629 (by decide +kernel) (by decide +kernel)
theorem fw_X7_44 : Cond.fieldLink RX7 44 (TX7 13).1 (TX7 13).2.1 (TX7 13).2.2.1 ∈ wsAll := mem_tb 630 (by decide +kernel) (by decide +kernel)
theorem fw_X7_47 : Cond.fieldLink RX7 47 (TX7 15).1 (TX7 15).2.1 (TX7 15).2.2.1 ∈ wsAll := mem_tb 632 (by decide +kernel) (by decide +kernel)
theorem fw_X7_50 : Cond.fieldLink RX7 50 (TX7 20).1 (TX7 20).2.1 (TX7 20).2.2.1 ∈ wsAll := mem_tb 637 (by decide +kernel) (by decide +kernel)
theorem fw_X7_54 : Cond.fieldLink RX7 54 (TX7 21).1 (TX7 21).2.1 (TX7 21).2.2.1 ∈ wsAll := mem_tb 638 (by decide +kernel) (by decide +kernel)
theorem fw_X7_57 : Cond.fieldLink RX7 57 (TX7 22).1 (TX7 22).2.1 (TX7 22).2.2.1 ∈ wsAll := mem_tb 639 (by decide +kernel) (by decide +kernel)
theorem fw_X7_60 : Cond.fieldLink RX7 60 (TX7 23).1 (TX7 23).2.1 (TX7 23).2.2.1 ∈ wsAll := mem_tb 640 (by decide +kernel) (by decide +kernel)
theorem fw_X7_63 : Cond.fieldLink RX7 63 (TX7 24).1 (TX7 24).2.1 (TX7 24).2.2.1 ∈ wsAll := mem_tb 641 (by decide +kernel) (by decide +kernel)
theorem fw_X7_70 : Cond.fieldLink RX7 70 (TX7 6).1 (TX7 6).2.1 (TX7 6).2.2.1 ∈ wsAll := mem_tb 623 (by decide +kernel) (by decide +kernel)
theorem fw_X7_114 : Cond.fieldLink RX7 114 (TX7 7).1 (TX7 7).2.1 (TX7 7).2.2.1 ∈ wsAll := mem_tb 624 (by decide +kernel) (by decide +kernel)
theorem fw_X7_127 : Cond.fieldLink RX7 127 (TX7 14).1 (TX7 14).2.1 (TX7 14).2.2.1 ∈ wsAll := mem_tb 631 (by decide +kernel) (by decide +kernel)
theorem fw_X7_151 : Cond.fieldLink RX7 151 (TX7 16).1 (TX7 16).2.1 (TX7 16).2.2.1 ∈ wsAll := mem_tb 633 (by decide +kernel) (by decide +kernel)
theorem fw_X7_154 : Cond.fieldLink RX7 154 (TX7 17).1 (TX7 17).2.1 (TX7 17).2.2.1 ∈ wsAll := mem_tb 634 (by decide +kernel) (by decide +kernel)
theorem fw_X7_157 : Cond.fieldLink RX7 157 (TX7 18).1 (TX7 18).2.1 (TX7 18).2.2.1 ∈ wsAll := mem_tb 635 (by decide +kernel) (by decide +kernel)
theorem fw_X7_160 : Cond.fieldLink RX7 160 (TX7 19).1 (TX7 19).2.1 (TX7 19).2.2.1 ∈ wsAll := mem_tb 636 (by decide +kernel) (by decide +kernel)
theorem ml_L_13 : Cond.methodLink RL 13 yX6_sellShares ∈ wsAll := mem_tb 220 (by decide +kernel) (by decide +kernel)
theorem ml_L_17 : Cond.methodLink RL 17 yX7_sellShares ∈ wsAll := mem_tb 694 (by decide +kernel) (by decide +kernel)
theorem ml_L_18 : Cond.methodLink RL 18 yX6_sellVotes ∈ wsAll := mem_tb 282 (by decide +kernel) (by decide +kernel)
theorem ml_L_21 : Cond.methodLink RL 21 yX7_sellVotes ∈ wsAll := mem_tb 735 (by decide +kernel) (by decide +kernel)
theorem ml_L_22 : Cond.methodLink RL 22 yX6_veto ∈ wsAll := mem_tb 286 (by decide +kernel) (by decide +kernel)
theorem ml_L_26 : Cond.methodLink RL 26 yX7_veto ∈ wsAll := mem_tb 739 (by decide +kernel) (by decide +kernel)
theorem ml_L_27 : Cond.methodLink RL 27 yX6_cancel ∈ wsAll := mem_tb 296 (by decide +kernel) (by decide +kernel)
theorem ml_L_31 : Cond.methodLink RL 31 yX7_cancel ∈ wsAll := mem_tb 746 (by decide +kernel) (by decide +kernel)
theorem ml_L_32 : Cond.methodLink RL 32 yX6_told ∈ wsAll := mem_tb 304 (by decide +kernel) (by decide +kernel)
theorem ml_L_36 : Cond.methodLink RL 36 yX7_told ∈ wsAll := mem_tb 754 (by decide +kernel) (by decide +kernel)
theorem ml_L_37 : Cond.methodLink RL 37 yX6_look ∈ wsAll := mem_tb 315 (by decide +kernel) (by decide +kernel)
theorem ml_L_40 : Cond.methodLink RL 40 yX7_look ∈ wsAll := mem_tb 758 (by decide +kernel) (by decide +kernel)
theorem ml_L_41 : Cond.methodLink RL 41 yX6_rule ∈ wsAll := mem_tb 319 (by decide +kernel) (by decide +kernel)
theorem ml_L_44 : Cond.methodLink RL 44 yX7_rule ∈ wsAll := mem_tb 762 (by decide +kernel) (by decide +kernel)
theorem ml_L_45 : Cond.methodLink RL 45 yX6_holds ∈ wsAll := mem_tb 323 (by decide +kernel) (by decide +kernel)
theorem ml_L_49 : Cond.methodLink RL 49 yX7_holds ∈ wsAll := mem_tb 766 (by decide +kernel) (by decide +kernel)
theorem ml_L_50 : Cond.methodLink RL 50 yX6_controls ∈ wsAll := mem_tb 404 (by decide +kernel) (by decide +kernel)
theorem ml_L_53 : Cond.methodLink RL 53 yX7_controls ∈ wsAll := mem_tb 770 (by decide +kernel) (by decide +kernel)
theorem ml_L_54 : Cond.methodLink RL 54 yX6_how ∈ wsAll := mem_tb 408 (by decide +kernel) (by decide +kernel)
theorem ml_L_57 : Cond.methodLink RL 57 yX7_how ∈ wsAll := mem_tb 792 (by decide +kernel) (by decide +kernel)
theorem ml_L_58 : Cond.methodLink RL 58 yX6_above ∈ wsAll := mem_tb 441 (by decide +kernel) (by decide +kernel)
theorem ml_L_61 : Cond.methodLink RL 61 yX7_above ∈ wsAll := mem_tb 810 (by decide +kernel) (by decide +kernel)
theorem ml_L_62 : Cond.methodLink RL 62 yX6_when ∈ wsAll := mem_tb 449 (by decide +kernel) (by decide +kernel)
theorem ml_L_65 : Cond.methodLink RL 65 yX7_when ∈ wsAll := mem_tb 814 (by decide +kernel) (by decide +kernel)
theorem ml_L_66 : Cond.methodLink RL 66 yX6_fewest ∈ wsAll := mem_tb 490 (by decide +kernel) (by decide +kernel)
theorem ml_L_69 : Cond.methodLink RL 69 yX7_fewest ∈ wsAll := mem_tb 822 (by decide +kernel) (by decide +kernel)
theorem ml_L_70 : Cond.methodLink RL 70 yX6_event ∈ wsAll := mem_tb 513 (by decide +kernel) (by decide +kernel)
theorem ml_L_73 : Cond.methodLink RL 73 yX7_event ∈ wsAll := mem_tb 826 (by decide +kernel) (by decide +kernel)
theorem ml_L_74 : Cond.methodLink RL 74 yX6_stake ∈ wsAll := mem_tb 521 (by decide +kernel) (by decide +kernel)
theorem ml_L_78 : Cond.methodLink RL 78 yX7_stake ∈ wsAll := mem_tb 834 (by decide +kernel) (by decide +kernel)
theorem ml_L_79 : Cond.methodLink RL 79 yX6_nobody ∈ wsAll := mem_tb 544 (by decide +kernel) (by decide +kernel)
theorem ml_L_83 : Cond.methodLink RL 83 yX7_nobody ∈ wsAll := mem_tb 867 (by decide +kernel) (by decide +kernel)
theorem ml_L_84 : Cond.methodLink RL 84 yX6_ranked ∈ wsAll := mem_tb 554 (by decide +kernel) (by decide +kernel)
theorem ml_L_87 : Cond.methodLink RL 87 yX7_ranked ∈ wsAll := mem_tb 871 (by decide +kernel) (by decide +kernel)
theorem ml_L_88 : Cond.methodLink RL 88 yX6_owners ∈ wsAll := mem_tb 563 (by decide +kernel) (by decide +kernel)
theorem ml_L_91 : Cond.methodLink RL 91 yX7_owners ∈ wsAll := mem_tb 879 (by decide +kernel) (by decide +kernel)
theorem ml_L_92 : Cond.methodLink RL 92 yX6_circle ∈ wsAll := mem_tb 571 (by decide +kernel) (by decide +kernel)
theorem ml_L_95 : Cond.methodLink RL 95 yX7_circle ∈ wsAll := mem_tb 883 (by decide +kernel) (by decide +kernel)
theorem ml_L_96 : Cond.methodLink RL 96 yX6_image ∈ wsAll := mem_tb 579 (by decide +kernel) (by decide +kernel)
theorem ml_L_99 : Cond.methodLink RL 99 yX7_image ∈ wsAll := mem_tb 887 (by decide +kernel) (by decide +kernel)
theorem ml_L_100 : Cond.methodLink RL 100 yX6_restore ∈ wsAll := mem_tb 591 (by decide +kernel) (by decide +kernel)
theorem ml_L_103 : Cond.methodLink RL 103 yX7_restore ∈ wsAll := mem_tb 891 (by decide +kernel) (by decide +kernel)
theorem ml_L_104 : Cond.methodLink RL 104 yX6_count ∈ wsAll := mem_tb 595 (by decide +kernel) (by decide +kernel)
theorem ml_L_107 : Cond.methodLink RL 107 yX7_count ∈ wsAll := mem_tb 895 (by decide +kernel) (by decide +kernel)
theorem ml_X0_46 : Cond.methodLink RX0 46 yX0_arrange ∈ wsAll := mem_tb 248 (by decide +kernel) (by decide +kernel)
theorem ml_X0_49 : Cond.methodLink RX0 49 yX0_closeGap ∈ wsAll := mem_tb 271 (by decide +kernel) (by decide +kernel)
theorem ml_X0_53 : Cond.methodLink RX0 53 arraycopyName ∈ wsAll := mem_tb 275 (by decide +kernel) (by decide +kernel)
theorem ml_X0_66 : Cond.methodLink RX0 66 yX0_isLastOfItsDay ∈ wsAll := mem_tb 603 (by decide +kernel) (by decide +kernel)
theorem ml_X1_23 : Cond.methodLink RX1 23 yX1_workOut ∈ wsAll := mem_tb 340 (by decide +kernel) (by decide +kernel)
theorem ml_X1_27 : Cond.methodLink RX1 27 yX1_newFirms ∈ wsAll := mem_tb 344 (by decide +kernel) (by decide +kernel)
theorem ml_X1_35 : Cond.methodLink RX1 35 yX2_falls ∈ wsAll := mem_tb 351 (by decide +kernel) (by decide +kernel)
theorem ml_X1_41 : Cond.methodLink RX1 41 yX1_firmsBefore ∈ wsAll := mem_tb 426 (by decide +kernel) (by decide +kernel)
theorem ml_X1_45 : Cond.methodLink RX1 45 yJ6_bitCount_0f7a4 ∈ wsAll := mem_tb 430 (by decide +kernel) (by decide +kernel)
theorem ml_X1_51 : Cond.methodLink RX1 51 yX1_witnessOf ∈ wsAll := mem_tb 440 (by decide +kernel) (by decide +kernel)
theorem ml_X1_55 : Cond.methodLink RX1 55 yJ9_max_7cf53 ∈ wsAll := mem_tb 608 (by decide +kernel) (by decide +kernel)
theorem ml_X2_23 : Cond.methodLink RX2 23 arraycopyName ∈ wsAll := mem_tb 502 (by decide +kernel) (by decide +kernel)
theorem ml_X2_46 : Cond.methodLink RX2 46 yX2_move ∈ wsAll := mem_tb 264 (by decide +kernel) (by decide +kernel)
theorem ml_X2_50 : Cond.methodLink RX2 50 yX2_allies ∈ wsAll := mem_tb 355 (by decide +kernel) (by decide +kernel)
theorem ml_X2_54 : Cond.methodLink RX2 54 yX2_block ∈ wsAll := mem_tb 358 (by decide +kernel) (by decide +kernel)
theorem ml_X2_64 : Cond.methodLink RX2 64 yX2_isMatched ∈ wsAll := mem_tb 362 (by decide +kernel) (by decide +kernel)
theorem ml_X3_15 : Cond.methodLink RX3 15 yX3_firmsWithShareOf ∈ wsAll := mem_tb 398 (by decide +kernel) (by decide +kernel)
theorem ml_X4_16 : Cond.methodLink RX4 16 yX4_lockedFirms ∈ wsAll := mem_tb 370 (by decide +kernel) (by decide +kernel)
theorem ml_X4_24 : Cond.methodLink RX4 24 yX4_writeRow ∈ wsAll := mem_tb 380 (by decide +kernel) (by decide +kernel)
theorem ml_X4_28 : Cond.methodLink RX4 28 yX4_solve ∈ wsAll := mem_tb 386 (by decide +kernel) (by decide +kernel)
theorem ml_X4_35 : Cond.methodLink RX4 35 yX2_sharesHeldBy ∈ wsAll := mem_tb 374 (by decide +kernel) (by decide +kernel)
theorem ml_X4_51 : Cond.methodLink RX4 51 yX4_eliminate ∈ wsAll := mem_tb 390 (by decide +kernel) (by decide +kernel)
theorem ml_X4_55 : Cond.methodLink RX4 55 yX4_lower ∈ wsAll := mem_tb 552 (by decide +kernel) (by decide +kernel)
theorem ml_X4_59 : Cond.methodLink RX4 59 yX4_upper ∈ wsAll := mem_tb 553 (by decide +kernel) (by decide +kernel)
theorem ml_X5_27 : Cond.methodLink RX5 27 yX2_beginAgain ∈ wsAll := mem_tb 461 (by decide +kernel) (by decide +kernel)
theorem ml_X5_38 : Cond.methodLink RX5 38 yX2_carryOut ∈ wsAll := mem_tb 462 (by decide +kernel) (by decide +kernel)
theorem ml_X5_42 : Cond.methodLink RX5 42 yX0_isLastOfItsDay ∈ wsAll := mem_tb 463 (by decide +kernel) (by decide +kernel)
theorem ml_X5_46 : Cond.methodLink RX5 46 yX1_workOut ∈ wsAll := mem_tb 467 (by decide +kernel) (by decide +kernel)
theorem ml_X5_57 : Cond.methodLink RX5 57 yX5_listEvents ∈ wsAll := mem_tb 468 (by decide +kernel) (by decide +kernel)
theorem ml_X5_63 : Cond.methodLink RX5 63 yX5_listEvent ∈ wsAll := mem_tb 472 (by decide +kernel) (by decide +kernel)
theorem ml_X5_67 : Cond.methodLink RX5 67 yX5_isControlled ∈ wsAll := mem_tb 476 (by decide +kernel) (by decide +kernel)
theorem ml_X5_79 : Cond.methodLink RX5 79 yX5_lastBy ∈ wsAll := mem_tb 486 (by decide +kernel) (by decide +kernel)
theorem ml_X6_63 : Cond.methodLink RX6 63 yX6_sell ∈ wsAll := mem_tb 224 (by decide +kernel) (by decide +kernel)
theorem ml_X6_67 : Cond.methodLink RX6 67 yX6_isController ∈ wsAll := mem_tb 290 (by decide +kernel) (by decide +kernel)
theorem ml_X6_71 : Cond.methodLink RX6 71 yX6_isFirm ∈ wsAll := mem_tb 231 (by decide +kernel) (by decide +kernel)
theorem ml_X6_74 : Cond.methodLink RX6 74 yX6_isDay ∈ wsAll := mem_tb 234 (by decide +kernel) (by decide +kernel)
theorem ml_X6_77 : Cond.methodLink RX6 77 yX6_isYesOrNo ∈ wsAll := mem_tb 293 (by decide +kernel) (by decide +kernel)
theorem ml_X6_80 : Cond.methodLink RX6 80 yX6_enter ∈ wsAll := mem_tb 240 (by decide +kernel) (by decide +kernel)
theorem ml_X6_83 : Cond.methodLink RX6 83 yX6_isDeal ∈ wsAll := mem_tb 300 (by decide +kernel) (by decide +kernel)
theorem ml_X6_86 : Cond.methodLink RX6 86 yX6_isSoundWithout ∈ wsAll := mem_tb 252 (by decide +kernel) (by decide +kernel)
theorem ml_X6_89 : Cond.methodLink RX6 89 yX0_strike ∈ wsAll := mem_tb 267 (by decide +kernel) (by decide +kernel)
theorem ml_X6_93 : Cond.methodLink RX6 93 yX6_allIsChanged ∈ wsAll := mem_tb 278 (by decide +kernel) (by decide +kernel)
theorem ml_X6_119 : Cond.methodLink RX6 119 yX0_placeOf ∈ wsAll := mem_tb 308 (by decide +kernel) (by decide +kernel)
theorem ml_X6_126 : Cond.methodLink RX6 126 yX6_asNumber ∈ wsAll := mem_tb 312 (by decide +kernel) (by decide +kernel)
theorem ml_X6_143 : Cond.methodLink RX6 143 yX6_isHolder ∈ wsAll := mem_tb 228 (by decide +kernel) (by decide +kernel)
theorem ml_X6_146 : Cond.methodLink RX6 146 yX6_bringUpToDate ∈ wsAll := mem_tb 327 (by decide +kernel) (by decide +kernel)
theorem ml_X6_159 : Cond.methodLink RX6 159 yX6_has ∈ wsAll := mem_tb 403 (by decide +kernel) (by decide +kernel)
theorem ml_X6_166 : Cond.methodLink RX6 166 yX6_wayOfControl ∈ wsAll := mem_tb 412 (by decide +kernel) (by decide +kernel)
theorem ml_X6_173 : Cond.methodLink RX6 173 yX6_finalBlock ∈ wsAll := mem_tb 416 (by decide +kernel) (by decide +kernel)
theorem ml_X6_176 : Cond.methodLink RX6 176 yX1_witnessOf ∈ wsAll := mem_tb 422 (by decide +kernel) (by decide +kernel)
theorem ml_X6_180 : Cond.methodLink RX6 180 yX1_chainOf ∈ wsAll := mem_tb 436 (by decide +kernel) (by decide +kernel)
theorem ml_X6_183 : Cond.methodLink RX6 183 yX1_thoseOver ∈ wsAll := mem_tb 445 (by decide +kernel) (by decide +kernel)
theorem ml_X6_187 : Cond.methodLink RX6 187 yX6_holderOf ∈ wsAll := mem_tb 237 (by decide +kernel) (by decide +kernel)
theorem ml_X6_190 : Cond.methodLink RX6 190 yX6_trace ∈ wsAll := mem_tb 453 (by decide +kernel) (by decide +kernel)
theorem ml_X6_193 : Cond.methodLink RX6 193 yX5_firstDay ∈ wsAll := mem_tb 482 (by decide +kernel) (by decide +kernel)
theorem ml_X6_197 : Cond.methodLink RX6 197 yX6_fewestToSell ∈ wsAll := mem_tb 494 (by decide +kernel) (by decide +kernel)
theorem ml_X6_200 : Cond.methodLink RX6 200 yX6_fewestToBuy ∈ wsAll := mem_tb 509 (by decide +kernel) (by decide +kernel)
theorem ml_X6_203 : Cond.methodLink RX6 203 yX5_ofEvent ∈ wsAll := mem_tb 517 (by decide +kernel) (by decide +kernel)
theorem ml_X6_206 : Cond.methodLink RX6 206 yX6_isPerson ∈ wsAll := mem_tb 525 (by decide +kernel) (by decide +kernel)
theorem ml_X6_213 : Cond.methodLink RX6 213 yX4_upper ∈ wsAll := mem_tb 530 (by decide +kernel) (by decide +kernel)
theorem ml_X6_217 : Cond.methodLink RX6 217 yX4_lower ∈ wsAll := mem_tb 534 (by decide +kernel) (by decide +kernel)
theorem ml_X6_221 : Cond.methodLink RX6 221 yX6_inLowestTerms ∈ wsAll := mem_tb 538 (by decide +kernel) (by decide +kernel)
theorem ml_X6_225 : Cond.methodLink RX6 225 yX4_upperOfNobody ∈ wsAll := mem_tb 548 (by decide +kernel) (by decide +kernel)
theorem ml_X6_228 : Cond.methodLink RX6 228 yX4_rankOf ∈ wsAll := mem_tb 558 (by decide +kernel) (by decide +kernel)
theorem ml_X6_231 : Cond.methodLink RX6 231 yX4_personsAbove ∈ wsAll := mem_tb 567 (by decide +kernel) (by decide +kernel)
theorem ml_X6_234 : Cond.methodLink RX6 234 yX3_circleOf ∈ wsAll := mem_tb 575 (by decide +kernel) (by decide +kernel)
theorem ml_X6_237 : Cond.methodLink RX6 237 yX6_imageAt ∈ wsAll := mem_tb 583 (by decide +kernel) (by decide +kernel)
theorem ml_X6_241 : Cond.methodLink RX6 241 yX0_copyFrom ∈ wsAll := mem_tb 587 (by decide +kernel) (by decide +kernel)
theorem ml_X6_248 : Cond.methodLink RX6 248 yX0_unlikeDay ∈ wsAll := mem_tb 599 (by decide +kernel) (by decide +kernel)
theorem ml_X6_251 : Cond.methodLink RX6 251 yX0_doneBy ∈ wsAll := mem_tb 331 (by decide +kernel) (by decide +kernel)
theorem ml_X6_254 : Cond.methodLink RX6 254 yX1_mostRounds ∈ wsAll := mem_tb 604 (by decide +kernel) (by decide +kernel)
theorem ml_X6_264 : Cond.methodLink RX6 264 yX0_append ∈ wsAll := mem_tb 244 (by decide +kernel) (by decide +kernel)
theorem ml_X6_268 : Cond.methodLink RX6 268 yX2_beginAgain ∈ wsAll := mem_tb 256 (by decide +kernel) (by decide +kernel)
theorem ml_X6_274 : Cond.methodLink RX6 274 yX2_carryOut ∈ wsAll := mem_tb 260 (by decide +kernel) (by decide +kernel)
theorem ml_X6_281 : Cond.methodLink RX6 281 yX1_workOutAll ∈ wsAll := mem_tb 336 (by decide +kernel) (by decide +kernel)
theorem ml_X6_285 : Cond.methodLink RX6 285 yX4_workOut ∈ wsAll := mem_tb 366 (by decide +kernel) (by decide +kernel)
theorem ml_X6_289 : Cond.methodLink RX6 289 yX3_workOut ∈ wsAll := mem_tb 394 (by decide +kernel) (by decide +kernel)
theorem ml_X6_290 : Cond.methodLink RX6 290 yX5_workOut ∈ wsAll := mem_tb 457 (by decide +kernel) (by decide +kernel)
theorem ml_X6_293 : Cond.methodLink RX6 293 yX2_allies ∈ wsAll := mem_tb 420 (by decide +kernel) (by decide +kernel)
theorem ml_X6_296 : Cond.methodLink RX6 296 yX2_block ∈ wsAll := mem_tb 421 (by decide +kernel) (by decide +kernel)
theorem ml_X6_299 : Cond.methodLink RX6 299 yX2_copyFrom ∈ wsAll := mem_tb 498 (by decide +kernel) (by decide +kernel)
theorem ml_X6_301 : Cond.methodLink RX6 301 yX6_wouldControl ∈ wsAll := mem_tb 503 (by decide +kernel) (by decide +kernel)
theorem ml_X6_304 : Cond.methodLink RX6 304 yX2_move ∈ wsAll := mem_tb 508 (by decide +kernel) (by decide +kernel)
theorem ml_X6_308 : Cond.methodLink RX6 308 yX1_workOut ∈ wsAll := mem_tb 507 (by decide +kernel) (by decide +kernel)
theorem ml_X6_311 : Cond.methodLink RX6 311 yX6_commonDivisor ∈ wsAll := mem_tb 541 (by decide +kernel) (by decide +kernel)
theorem ml_X7_66 : Cond.methodLink RX7 66 yX7_in ∈ wsAll := mem_tb 702 (by decide +kernel) (by decide +kernel)
theorem ml_X7_74 : Cond.methodLink RX7 74 yX7_placeOf ∈ wsAll := mem_tb 724 (by decide +kernel) (by decide +kernel)
theorem ml_X7_78 : Cond.methodLink RX7 78 yX7_at ∈ wsAll := mem_tb 732 (by decide +kernel) (by decide +kernel)
theorem ml_X7_82 : Cond.methodLink RX7 82 yX7_begin ∈ wsAll := mem_tb 720 (by decide +kernel) (by decide +kernel)
theorem ml_X7_85 : Cond.methodLink RX7 85 yX7_does ∈ wsAll := mem_tb 728 (by decide +kernel) (by decide +kernel)
theorem ml_X7_89 : Cond.methodLink RX7 89 yX7_lay ∈ wsAll := mem_tb 716 (by decide +kernel) (by decide +kernel)
theorem ml_X7_93 : Cond.methodLink RX7 93 yX7_isFirm ∈ wsAll := mem_tb 705 (by decide +kernel) (by decide +kernel)
theorem ml_X7_96 : Cond.methodLink RX7 96 yX7_put ∈ wsAll := mem_tb 708 (by decide +kernel) (by decide +kernel)
theorem ml_X7_100 : Cond.methodLink RX7 100 yX7_add ∈ wsAll := mem_tb 712 (by decide +kernel) (by decide +kernel)
theorem ml_X7_104 : Cond.methodLink RX7 104 yX7_sell ∈ wsAll := mem_tb 698 (by decide +kernel) (by decide +kernel)
theorem ml_X7_108 : Cond.methodLink RX7 108 yX7_isOne ∈ wsAll := mem_tb 743 (by decide +kernel) (by decide +kernel)
theorem ml_X7_111 : Cond.methodLink RX7 111 yX7_isDeal ∈ wsAll := mem_tb 750 (by decide +kernel) (by decide +kernel)
theorem ml_X7_117 : Cond.methodLink RX7 117 yX7_has ∈ wsAll := mem_tb 778 (by decide +kernel) (by decide +kernel)
theorem ml_X7_120 : Cond.methodLink RX7 120 yX7_isWith ∈ wsAll := mem_tb 789 (by decide +kernel) (by decide +kernel)
theorem ml_X7_123 : Cond.methodLink RX7 123 yX7_block ∈ wsAll := mem_tb 785 (by decide +kernel) (by decide +kernel)
theorem ml_X7_130 : Cond.methodLink RX7 130 yX7_falls ∈ wsAll := mem_tb 781 (by decide +kernel) (by decide +kernel)
theorem ml_X7_133 : Cond.methodLink RX7 133 yX7_control ∈ wsAll := mem_tb 774 (by decide +kernel) (by decide +kernel)
theorem ml_X7_136 : Cond.methodLink RX7 136 yX7_many ∈ wsAll := mem_tb 803 (by decide +kernel) (by decide +kernel)
theorem ml_X7_139 : Cond.methodLink RX7 139 yX7_witness ∈ wsAll := mem_tb 799 (by decide +kernel) (by decide +kernel)
theorem ml_X7_142 : Cond.methodLink RX7 142 yX7_areKnown ∈ wsAll := mem_tb 796 (by decide +kernel) (by decide +kernel)
theorem ml_X7_145 : Cond.methodLink RX7 145 yX7_chain ∈ wsAll := mem_tb 806 (by decide +kernel) (by decide +kernel)
theorem ml_X7_148 : Cond.methodLink RX7 148 yX7_dayBehind ∈ wsAll := mem_tb 818 (by decide +kernel) (by decide +kernel)
theorem ml_X7_163 : Cond.methodLink RX7 163 yX7_events ∈ wsAll := mem_tb 830 (by decide +kernel) (by decide +kernel)
theorem ml_X7_166 : Cond.methodLink RX7 166 yX7_over ∈ wsAll := mem_tb 857 (by decide +kernel) (by decide +kernel)
theorem ml_X7_169 : Cond.methodLink RX7 169 yX7_locked ∈ wsAll := mem_tb 848 (by decide +kernel) (by decide +kernel)
theorem ml_X7_174 : Cond.methodLink RX7 174 yX7_layRows ∈ wsAll := mem_tb 844 (by decide +kernel) (by decide +kernel)
theorem ml_X7_177 : Cond.methodLink RX7 177 yX7_determinant ∈ wsAll := mem_tb 853 (by decide +kernel) (by decide +kernel)
theorem ml_X7_185 : Cond.methodLink RX7 185 yX7_upper ∈ wsAll := mem_tb 840 (by decide +kernel) (by decide +kernel)
theorem ml_X7_189 : Cond.methodLink RX7 189 yX7_lower ∈ wsAll := mem_tb 860 (by decide +kernel) (by decide +kernel)
theorem ml_X7_192 : Cond.methodLink RX7 192 yX7_part ∈ wsAll := mem_tb 864 (by decide +kernel) (by decide +kernel)
theorem ml_X7_196 : Cond.methodLink RX7 196 yX7_layUppers ∈ wsAll := mem_tb 875 (by decide +kernel) (by decide +kernel)
theorem ml_X7_200 : Cond.methodLink RX7 200 yX7_done ∈ wsAll := mem_tb 899 (by decide +kernel) (by decide +kernel)
theorem ml_X7_203 : Cond.methodLink RX7 203 yX7_mostRounds ∈ wsAll := mem_tb 903 (by decide +kernel) (by decide +kernel)
theorem ml_X7_206 : Cond.methodLink RX7 206 yX7_unlikeDay ∈ wsAll := mem_tb 907 (by decide +kernel) (by decide +kernel)
theorem ne_X0_62 : (RX0, 62, yX6_asNumber) ∈ nests := by decide +kernel
theorem ne_X1_31 : (RX1, 31, yX6_has) ∈ nests := by decide +kernel
theorem ne_X2_68 : (RX2, 68, yX6_has) ∈ nests := by decide +kernel
theorem ne_X2_72 : (RX2, 72, yX6_holderOf) ∈ nests := by decide +kernel
theorem ne_X3_19 : (RX3, 19, yX6_has) ∈ nests := by decide +kernel
theorem ne_X3_29 : (RX3, 29, yX6_holderOf) ∈ nests := by decide +kernel
theorem ne_X4_31 : (RX4, 31, yX6_has) ∈ nests := by decide +kernel
theorem ne_X4_45 : (RX4, 45, yX6_holderOf) ∈ nests := by decide +kernel
theorem ne_X4_63 : (RX4, 63, yX6_asNumber) ∈ nests := by decide +kernel
theorem ne_X5_71 : (RX5, 71, yX6_asNumber) ∈ nests := by decide +kernel
theorem ne_X5_75 : (RX5, 75, yX6_has) ∈ nests := by decide +kernel
theorem cl_X4_49 : Cond.constantLong RX4 49 100 ∈ wsAll := mem_tb 385 (by decide +kernel) (by decide +kernel)
theorem cl_X6_209 : Cond.constantLong RX6 209 (-1) ∈ wsAll := mem_tb 528 (by decide +kernel) (by decide +kernel)
theorem cl_X6_211 : Cond.constantLong RX6 211 (-2) ∈ wsAll := mem_tb 529 (by decide +kernel) (by decide +kernel)
theorem cl_X7_172 : Cond.constantLong RX7 172 100 ∈ wsAll := mem_tb 852 (by decide +kernel) (by decide +kernel)
theorem cl_X7_181 : Cond.constantLong RX7 181 (-1) ∈ wsAll := mem_tb 838 (by decide +kernel) (by decide +kernel)
theorem cl_X7_183 : Cond.constantLong RX7 183 (-2) ∈ wsAll := mem_tb 839 (by decide +kernel) (by decide +kernel)
theorem ci_J6_265 : Cond.constant RJ6 265 1431655765 ∈ wsAll := mem_tb 433 (by decide +kernel) (by decide +kernel)
theorem ci_J6_266 : Cond.constant RJ6 266 858993459 ∈ wsAll := mem_tb 434 (by decide +kernel) (by decide +kernel)
theorem ci_J6_267 : Cond.constant RJ6 267 252645135 ∈ wsAll := mem_tb 435 (by decide +kernel) (by decide +kernel)
theorem ac_native : Cond.native arraycopyName ∈ wsAll := mem_tb 277 (by decide +kernel) (by decide +kernel)
theorem ac_static : Cond.static arraycopyName ∈ wsAll := mem_tb 276 (by decide +kernel) (by decide +kernel)
theorem ac_init : Cond.initialized "java/lang/System" ∈ wsAll := mem_tb 9 (by decide +kernel) (by decide +kernel)
theorem yv_J6_bitCount_0f7a4 : yS yJ6_bitCount_0f7a4 cJ6_bitCount_0f7a4 1 (some .int) 1 := ⟨⟨mem_tb 432 (by decide +kernel) (by decide +kernel), mem_tb 10 (by decide +kernel) (by decide +kernel), by decide +kernel⟩, mem_tb 431 (by decide +kernel) (by decide +kernel)⟩
theorem yv_J9_max_7cf53 : yS yJ9_max_7cf53 cJ9_max_7cf53 2 (some .int) 2 := ⟨⟨mem_tb 610 (by decide +kernel) (by decide +kernel), mem_tb 11 (by decide +kernel) (by decide +kernel), by decide +kernel⟩, mem_tb 609 (by decide +kernel) (by decide +kernel)⟩
theorem yv_X0_append : yV yX0_append cX0_append 7 none 6 := ⟨⟨mem_tb 247 (by decide +kernel) (by decide +kernel), mem_tb 2 (by decide +kernel) (by decide +kernel), by decide +kernel⟩, mem_tb 245 (by decide +kernel) (by decide +kernel), mem_tb 246 (by decide +kernel) (by decide +kernel)⟩
theorem yv_X0_arrange : yV yX0_arrange cX0_arrange 3 none 0 := ⟨⟨mem_tb 251 (by decide +kernel) (by decide +kernel), mem_tb 2 (by decide +kernel) (by decide +kernel), by decide +kernel⟩, mem_tb 250 (by decide +kernel) (by decide +kernel), mem_sl 2 (by decide +kernel) (by decide +kernel)⟩
theorem yv_X0_closeGap : yV yX0_closeGap cX0_closeGap 3 none 2 := ⟨⟨mem_tb 274 (by decide +kernel) (by decide +kernel), mem_tb 2 (by decide +kernel) (by decide +kernel), by decide +kernel⟩, mem_tb 273 (by decide +kernel) (by decide +kernel), mem_sl 4 (by decide +kernel) (by decide +kernel)⟩
theorem yv_X0_copyFrom : yV yX0_copyFrom cX0_copyFrom 2 none 1 := ⟨⟨mem_tb 590 (by decide +kernel) (by decide +kernel), mem_tb 2 (by decide +kernel) (by decide +kernel), by decide +kernel⟩, mem_tb 588 (by decide +kernel) (by decide +kernel), mem_tb 589 (by decide +kernel) (by decide +kernel)⟩
theorem yv_X0_doneBy : yV yX0_doneBy cX0_doneBy 4 (some .int) 1 := ⟨⟨mem_tb 334 (by decide +kernel) (by decide +kernel), mem_tb 2 (by decide +kernel) (by decide +kernel), by decide +kernel⟩, mem_tb 332 (by decide +kernel) (by decide +kernel), mem_tb 333 (by decide +kernel) (by decide +kernel)⟩
theorem yv_X0_isLastOfItsDay : yV yX0_isLastOfItsDay cX0_isLastOfItsDay 2 (some .boolean) 1 := ⟨⟨mem_tb 466 (by decide +kernel) (by decide +kernel), mem_tb 2 (by decide +kernel) (by decide +kernel), by decide +kernel⟩, mem_tb 464 (by decide +kernel) (by decide +kernel), mem_tb 465 (by decide +kernel) (by decide +kernel)⟩
theorem yv_X0_placeOf : yV yX0_placeOf cX0_placeOf 3 (some .int) 1 := ⟨⟨mem_tb 311 (by decide +kernel) (by decide +kernel), mem_tb 2 (by decide +kernel) (by decide +kernel), by decide +kernel⟩, mem_tb 309 (by decide +kernel) (by decide +kernel), mem_tb 310 (by decide +kernel) (by decide +kernel)⟩
theorem yv_X0_strike : yV yX0_strike cX0_strike 2 none 1 := ⟨⟨mem_tb 270 (by decide +kernel) (by decide +kernel), mem_tb 2 (by decide +kernel) (by decide +kernel), by decide +kernel⟩, mem_tb 268 (by decide +kernel) (by decide +kernel), mem_tb 269 (by decide +kernel) (by decide +kernel)⟩
theorem yv_X0_unlikeDay : yV yX0_unlikeDay cX0_unlikeDay 4 (some .int) 1 := ⟨⟨mem_tb 602 (by decide +kernel) (by decide +kernel), mem_tb 2 (by decide +kernel) (by decide +kernel), by decide +kernel⟩, mem_tb 600 (by decide +kernel) (by decide +kernel), mem_tb 601 (by decide +kernel) (by decide +kernel)⟩
theorem yv_X1_chainOf : yV yX1_chainOf cX1_chainOf 8 (some .int) 4 := ⟨⟨mem_tb 439 (by decide +kernel) (by decide +kernel), mem_tb 4 (by decide +kernel) (by decide +kernel), by decide +kernel⟩, mem_tb 437 (by decide +kernel) (by decide +kernel), mem_tb 438 (by decide +kernel) (by decide +kernel)⟩
theorem yv_X1_firmsBefore : yV yX1_firmsBefore cX1_firmsBefore 5 (some .int) 2 := ⟨⟨mem_tb 429 (by decide +kernel) (by decide +kernel), mem_tb 4 (by decide +kernel) (by decide +kernel), by decide +kernel⟩, mem_tb 428 (by decide +kernel) (by decide +kernel), mem_sl 15 (by decide +kernel) (by decide +kernel)⟩
theorem yv_X1_mostRounds : yV yX1_mostRounds cX1_mostRounds 3 (some .int) 0 := ⟨⟨mem_tb 607 (by decide +kernel) (by decide +kernel), mem_tb 4 (by decide +kernel) (by decide +kernel), by decide +kernel⟩, mem_tb 605 (by decide +kernel) (by decide +kernel), mem_tb 606 (by decide +kernel) (by decide +kernel)⟩
theorem yv_X1_newFirms : yV yX1_newFirms cX1_newFirms 6 (some .int) 3 := ⟨⟨mem_tb 347 (by decide +kernel) (by decide +kernel), mem_tb 4 (by decide +kernel) (by decide +kernel), by decide +kernel⟩, mem_tb 346 (by decide +kernel) (by decide +kernel), mem_sl 8 (by decide +kernel) (by decide +kernel)⟩
theorem yv_X1_thoseOver : yV yX1_thoseOver cX1_thoseOver 6 (some .int) 3 := ⟨⟨mem_tb 448 (by decide +kernel) (by decide +kernel), mem_tb 4 (by decide +kernel) (by decide +kernel), by decide +kernel⟩, mem_tb 446 (by decide +kernel) (by decide +kernel), mem_tb 447 (by decide +kernel) (by decide +kernel)⟩
theorem yv_X1_witnessOf : yV yX1_witnessOf cX1_witnessOf 9 (some .int) 4 := ⟨⟨mem_tb 425 (by decide +kernel) (by decide +kernel), mem_tb 4 (by decide +kernel) (by decide +kernel), by decide +kernel⟩, mem_tb 423 (by decide +kernel) (by decide +kernel), mem_tb 424 (by decide +kernel) (by decide +kernel)⟩
theorem yv_X1_workOut : yV yX1_workOut cX1_workOut 7 none 3 := ⟨⟨mem_tb 343 (by decide +kernel) (by decide +kernel), mem_tb 4 (by decide +kernel) (by decide +kernel), by decide +kernel⟩, mem_tb 341 (by decide +kernel) (by decide +kernel), mem_tb 342 (by decide +kernel) (by decide +kernel)⟩
theorem yv_X1_workOutAll : yV yX1_workOutAll cX1_workOutAll 4 none 2 := ⟨⟨mem_tb 339 (by decide +kernel) (by decide +kernel), mem_tb 4 (by decide +kernel) (by decide +kernel), by decide +kernel⟩, mem_tb 337 (by decide +kernel) (by decide +kernel), mem_tb 338 (by decide +kernel) (by decide +kernel)⟩
theorem yv_X2_allies : yS yX2_allies cX2_allies 2 (some .int) 2 := ⟨⟨mem_tb 357 (by decide +kernel) (by decide +kernel), mem_tb 3 (by decide +kernel) (by decide +kernel), by decide +kernel⟩, mem_tb 356 (by decide +kernel) (by decide +kernel)⟩
theorem yv_X2_beginAgain : yV yX2_beginAgain cX2_beginAgain 4 none 0 := ⟨⟨mem_tb 259 (by decide +kernel) (by decide +kernel), mem_tb 3 (by decide +kernel) (by decide +kernel), by decide +kernel⟩, mem_tb 257 (by decide +kernel) (by decide +kernel), mem_tb 258 (by decide +kernel) (by decide +kernel)⟩
theorem yv_X2_block : yV yX2_block cX2_block 5 (some .int) 2 := ⟨⟨mem_tb 361 (by decide +kernel) (by decide +kernel), mem_tb 3 (by decide +kernel) (by decide +kernel), by decide +kernel⟩, mem_tb 359 (by decide +kernel) (by decide +kernel), mem_tb 360 (by decide +kernel) (by decide +kernel)⟩
theorem yv_X2_carryOut : yV yX2_carryOut cX2_carryOut 5 (some .boolean) 2 := ⟨⟨mem_tb 263 (by decide +kernel) (by decide +kernel), mem_tb 3 (by decide +kernel) (by decide +kernel), by decide +kernel⟩, mem_tb 261 (by decide +kernel) (by decide +kernel), mem_tb 262 (by decide +kernel) (by decide +kernel)⟩
theorem yv_X2_copyFrom : yV yX2_copyFrom cX2_copyFrom 3 none 1 := ⟨⟨mem_tb 501 (by decide +kernel) (by decide +kernel), mem_tb 3 (by decide +kernel) (by decide +kernel), by decide +kernel⟩, mem_tb 499 (by decide +kernel) (by decide +kernel), mem_tb 500 (by decide +kernel) (by decide +kernel)⟩
theorem yv_X2_falls : yV yX2_falls cX2_falls 7 (some .boolean) 4 := ⟨⟨mem_tb 354 (by decide +kernel) (by decide +kernel), mem_tb 3 (by decide +kernel) (by decide +kernel), by decide +kernel⟩, mem_tb 352 (by decide +kernel) (by decide +kernel), mem_tb 353 (by decide +kernel) (by decide +kernel)⟩
theorem yv_X2_isMatched : yV yX2_isMatched cX2_isMatched 5 (some .boolean) 3 := ⟨⟨mem_tb 365 (by decide +kernel) (by decide +kernel), mem_tb 3 (by decide +kernel) (by decide +kernel), by decide +kernel⟩, mem_tb 364 (by decide +kernel) (by decide +kernel), mem_sl 9 (by decide +kernel) (by decide +kernel)⟩
theorem yv_X2_move : yS yX2_move cX2_move 4 (some .boolean) 4 := ⟨⟨mem_tb 266 (by decide +kernel) (by decide +kernel), mem_tb 3 (by decide +kernel) (by decide +kernel), by decide +kernel⟩, mem_tb 265 (by decide +kernel) (by decide +kernel)⟩
theorem yv_X2_sharesHeldBy : yV yX2_sharesHeldBy cX2_sharesHeldBy 5 (some .int) 2 := ⟨⟨mem_tb 377 (by decide +kernel) (by decide +kernel), mem_tb 3 (by decide +kernel) (by decide +kernel), by decide +kernel⟩, mem_tb 375 (by decide +kernel) (by decide +kernel), mem_tb 376 (by decide +kernel) (by decide +kernel)⟩
theorem yv_X3_circleOf : yV yX3_circleOf cX3_circleOf 4 (some .int) 1 := ⟨⟨mem_tb 578 (by decide +kernel) (by decide +kernel), mem_tb 6 (by decide +kernel) (by decide +kernel), by decide +kernel⟩, mem_tb 576 (by decide +kernel) (by decide +kernel), mem_tb 577 (by decide +kernel) (by decide +kernel)⟩
theorem yv_X3_firmsWithShareOf : yS yX3_firmsWithShareOf cX3_firmsWithShareOf 4 (some .int) 2 := ⟨⟨mem_tb 400 (by decide +kernel) (by decide +kernel), mem_tb 6 (by decide +kernel) (by decide +kernel), by decide +kernel⟩, mem_tb 399 (by decide +kernel) (by decide +kernel)⟩
theorem yv_X3_workOut : yV yX3_workOut cX3_workOut 4 none 1 := ⟨⟨mem_tb 397 (by decide +kernel) (by decide +kernel), mem_tb 6 (by decide +kernel) (by decide +kernel), by decide +kernel⟩, mem_tb 395 (by decide +kernel) (by decide +kernel), mem_tb 396 (by decide +kernel) (by decide +kernel)⟩
theorem yv_X4_eliminate : yV yX4_eliminate cX4_eliminate 10 none 3 := ⟨⟨mem_tb 393 (by decide +kernel) (by decide +kernel), mem_tb 5 (by decide +kernel) (by decide +kernel), by decide +kernel⟩, mem_tb 392 (by decide +kernel) (by decide +kernel), mem_sl 12 (by decide +kernel) (by decide +kernel)⟩
theorem yv_X4_lockedFirms : yS yX4_lockedFirms cX4_lockedFirms 4 (some .int) 1 := ⟨⟨mem_tb 372 (by decide +kernel) (by decide +kernel), mem_tb 5 (by decide +kernel) (by decide +kernel), by decide +kernel⟩, mem_tb 371 (by decide +kernel) (by decide +kernel)⟩
theorem yv_X4_lower : yV yX4_lower cX4_lower 2 (some .long) 1 := ⟨⟨mem_tb 537 (by decide +kernel) (by decide +kernel), mem_tb 5 (by decide +kernel) (by decide +kernel), by decide +kernel⟩, mem_tb 535 (by decide +kernel) (by decide +kernel), mem_tb 536 (by decide +kernel) (by decide +kernel)⟩
theorem yv_X4_personsAbove : yV yX4_personsAbove cX4_personsAbove 5 (some .int) 2 := ⟨⟨mem_tb 570 (by decide +kernel) (by decide +kernel), mem_tb 5 (by decide +kernel) (by decide +kernel), by decide +kernel⟩, mem_tb 568 (by decide +kernel) (by decide +kernel), mem_tb 569 (by decide +kernel) (by decide +kernel)⟩
theorem yv_X4_rankOf : yV yX4_rankOf cX4_rankOf 6 (some .int) 2 := ⟨⟨mem_tb 561 (by decide +kernel) (by decide +kernel), mem_tb 5 (by decide +kernel) (by decide +kernel), by decide +kernel⟩, mem_tb 559 (by decide +kernel) (by decide +kernel), mem_tb 560 (by decide +kernel) (by decide +kernel)⟩
theorem yv_X4_solve : yV yX4_solve cX4_solve 5 none 0 := ⟨⟨mem_tb 389 (by decide +kernel) (by decide +kernel), mem_tb 5 (by decide +kernel) (by decide +kernel), by decide +kernel⟩, mem_tb 388 (by decide +kernel) (by decide +kernel), mem_sl 11 (by decide +kernel) (by decide +kernel)⟩
theorem yv_X4_upper : yV yX4_upper cX4_upper 3 (some .long) 2 := ⟨⟨mem_tb 533 (by decide +kernel) (by decide +kernel), mem_tb 5 (by decide +kernel) (by decide +kernel), by decide +kernel⟩, mem_tb 531 (by decide +kernel) (by decide +kernel), mem_tb 532 (by decide +kernel) (by decide +kernel)⟩
theorem yv_X4_upperOfNobody : yV yX4_upperOfNobody cX4_upperOfNobody 5 (some .long) 1 := ⟨⟨mem_tb 551 (by decide +kernel) (by decide +kernel), mem_tb 5 (by decide +kernel) (by decide +kernel), by decide +kernel⟩, mem_tb 549 (by decide +kernel) (by decide +kernel), mem_tb 550 (by decide +kernel) (by decide +kernel)⟩
theorem yv_X4_workOut : yV yX4_workOut cX4_workOut 3 none 1 := ⟨⟨mem_tb 369 (by decide +kernel) (by decide +kernel), mem_tb 5 (by decide +kernel) (by decide +kernel), by decide +kernel⟩, mem_tb 367 (by decide +kernel) (by decide +kernel), mem_tb 368 (by decide +kernel) (by decide +kernel)⟩
theorem yv_X4_writeRow : yV yX4_writeRow cX4_writeRow 6 none 2 := ⟨⟨mem_tb 383 (by decide +kernel) (by decide +kernel), mem_tb 5 (by decide +kernel) (by decide +kernel), by decide +kernel⟩, mem_tb 382 (by decide +kernel) (by decide +kernel), mem_sl 10 (by decide +kernel) (by decide +kernel)⟩
theorem yv_X5_firstDay : yV yX5_firstDay cX5_firstDay 7 (some .int) 4 := ⟨⟨mem_tb 485 (by decide +kernel) (by decide +kernel), mem_tb 7 (by decide +kernel) (by decide +kernel), by decide +kernel⟩, mem_tb 483 (by decide +kernel) (by decide +kernel), mem_tb 484 (by decide +kernel) (by decide +kernel)⟩
theorem yv_X5_isControlled : yV yX5_isControlled cX5_isControlled 4 (some .boolean) 3 := ⟨⟨mem_tb 479 (by decide +kernel) (by decide +kernel), mem_tb 7 (by decide +kernel) (by decide +kernel), by decide +kernel⟩, mem_tb 478 (by decide +kernel) (by decide +kernel), mem_sl 19 (by decide +kernel) (by decide +kernel)⟩
theorem yv_X5_lastBy : yV yX5_lastBy cX5_lastBy 4 (some .int) 1 := ⟨⟨mem_tb 489 (by decide +kernel) (by decide +kernel), mem_tb 7 (by decide +kernel) (by decide +kernel), by decide +kernel⟩, mem_tb 488 (by decide +kernel) (by decide +kernel), mem_sl 20 (by decide +kernel) (by decide +kernel)⟩
theorem yv_X5_listEvent : yV yX5_listEvent cX5_listEvent 5 none 3 := ⟨⟨mem_tb 475 (by decide +kernel) (by decide +kernel), mem_tb 7 (by decide +kernel) (by decide +kernel), by decide +kernel⟩, mem_tb 474 (by decide +kernel) (by decide +kernel), mem_sl 18 (by decide +kernel) (by decide +kernel)⟩
theorem yv_X5_listEvents : yV yX5_listEvents cX5_listEvents 4 none 0 := ⟨⟨mem_tb 471 (by decide +kernel) (by decide +kernel), mem_tb 7 (by decide +kernel) (by decide +kernel), by decide +kernel⟩, mem_tb 470 (by decide +kernel) (by decide +kernel), mem_sl 17 (by decide +kernel) (by decide +kernel)⟩
theorem yv_X5_ofEvent : yV yX5_ofEvent cX5_ofEvent 4 (some .int) 2 := ⟨⟨mem_tb 520 (by decide +kernel) (by decide +kernel), mem_tb 7 (by decide +kernel) (by decide +kernel), by decide +kernel⟩, mem_tb 518 (by decide +kernel) (by decide +kernel), mem_tb 519 (by decide +kernel) (by decide +kernel)⟩
theorem yv_X5_workOut : yV yX5_workOut cX5_workOut 7 none 3 := ⟨⟨mem_tb 460 (by decide +kernel) (by decide +kernel), mem_tb 7 (by decide +kernel) (by decide +kernel), by decide +kernel⟩, mem_tb 458 (by decide +kernel) (by decide +kernel), mem_tb 459 (by decide +kernel) (by decide +kernel)⟩
theorem yv_X6_above : yV yX6_above cX6_above 3 (some .int) 2 := ⟨⟨mem_tb 444 (by decide +kernel) (by decide +kernel), mem_tb 1 (by decide +kernel) (by decide +kernel), by decide +kernel⟩, mem_tb 442 (by decide +kernel) (by decide +kernel), mem_tb 443 (by decide +kernel) (by decide +kernel)⟩
theorem yv_X6_allIsChanged : yV yX6_allIsChanged cX6_allIsChanged 1 none 0 := ⟨⟨mem_tb 281 (by decide +kernel) (by decide +kernel), mem_tb 1 (by decide +kernel) (by decide +kernel), by decide +kernel⟩, mem_tb 280 (by decide +kernel) (by decide +kernel), mem_sl 5 (by decide +kernel) (by decide +kernel)⟩
theorem yv_X6_asNumber : yS yX6_asNumber cX6_asNumber 1 (some .int) 1 := ⟨⟨mem_tb 314 (by decide +kernel) (by decide +kernel), mem_tb 1 (by decide +kernel) (by decide +kernel), by decide +kernel⟩, mem_tb 313 (by decide +kernel) (by decide +kernel)⟩
theorem yv_X6_bringUpToDate : yV yX6_bringUpToDate cX6_bringUpToDate 3 none 0 := ⟨⟨mem_tb 330 (by decide +kernel) (by decide +kernel), mem_tb 1 (by decide +kernel) (by decide +kernel), by decide +kernel⟩, mem_tb 329 (by decide +kernel) (by decide +kernel), mem_sl 7 (by decide +kernel) (by decide +kernel)⟩
theorem yv_X6_cancel : yV yX6_cancel cX6_cancel 2 (some .int) 1 := ⟨⟨mem_tb 299 (by decide +kernel) (by decide +kernel), mem_tb 1 (by decide +kernel) (by decide +kernel), by decide +kernel⟩, mem_tb 297 (by decide +kernel) (by decide +kernel), mem_tb 298 (by decide +kernel) (by decide +kernel)⟩
theorem yv_X6_circle : yV yX6_circle cX6_circle 2 (some .int) 1 := ⟨⟨mem_tb 574 (by decide +kernel) (by decide +kernel), mem_tb 1 (by decide +kernel) (by decide +kernel), by decide +kernel⟩, mem_tb 572 (by decide +kernel) (by decide +kernel), mem_tb 573 (by decide +kernel) (by decide +kernel)⟩
theorem yv_X6_commonDivisor : yS yX6_commonDivisor cX6_commonDivisor 11 (some .long) 2 := ⟨⟨mem_tb 543 (by decide +kernel) (by decide +kernel), mem_tb 1 (by decide +kernel) (by decide +kernel), by decide +kernel⟩, mem_tb 542 (by decide +kernel) (by decide +kernel)⟩
theorem yv_X6_controls : yV yX6_controls cX6_controls 2 (some .int) 1 := ⟨⟨mem_tb 407 (by decide +kernel) (by decide +kernel), mem_tb 1 (by decide +kernel) (by decide +kernel), by decide +kernel⟩, mem_tb 405 (by decide +kernel) (by decide +kernel), mem_tb 406 (by decide +kernel) (by decide +kernel)⟩
theorem yv_X6_count : yV yX6_count cX6_count 2 (some .int) 1 := ⟨⟨mem_tb 598 (by decide +kernel) (by decide +kernel), mem_tb 1 (by decide +kernel) (by decide +kernel), by decide +kernel⟩, mem_tb 596 (by decide +kernel) (by decide +kernel), mem_tb 597 (by decide +kernel) (by decide +kernel)⟩
theorem yv_X6_enter : yV yX6_enter cX6_enter 8 (some .int) 6 := ⟨⟨mem_tb 243 (by decide +kernel) (by decide +kernel), mem_tb 1 (by decide +kernel) (by decide +kernel), by decide +kernel⟩, mem_tb 242 (by decide +kernel) (by decide +kernel), mem_sl 1 (by decide +kernel) (by decide +kernel)⟩
theorem yv_X6_event : yV yX6_event cX6_event 3 (some .int) 2 := ⟨⟨mem_tb 516 (by decide +kernel) (by decide +kernel), mem_tb 1 (by decide +kernel) (by decide +kernel), by decide +kernel⟩, mem_tb 514 (by decide +kernel) (by decide +kernel), mem_tb 515 (by decide +kernel) (by decide +kernel)⟩
theorem yv_X6_fewest : yV yX6_fewest cX6_fewest 4 (some .int) 3 := ⟨⟨mem_tb 493 (by decide +kernel) (by decide +kernel), mem_tb 1 (by decide +kernel) (by decide +kernel), by decide +kernel⟩, mem_tb 491 (by decide +kernel) (by decide +kernel), mem_tb 492 (by decide +kernel) (by decide +kernel)⟩
theorem yv_X6_fewestToBuy : yV yX6_fewestToBuy cX6_fewestToBuy 5 (some .int) 2 := ⟨⟨mem_tb 512 (by decide +kernel) (by decide +kernel), mem_tb 1 (by decide +kernel) (by decide +kernel), by decide +kernel⟩, mem_tb 511 (by decide +kernel) (by decide +kernel), mem_sl 23 (by decide +kernel) (by decide +kernel)⟩
theorem yv_X6_fewestToSell : yV yX6_fewestToSell cX6_fewestToSell 5 (some .int) 2 := ⟨⟨mem_tb 497 (by decide +kernel) (by decide +kernel), mem_tb 1 (by decide +kernel) (by decide +kernel), by decide +kernel⟩, mem_tb 496 (by decide +kernel) (by decide +kernel), mem_sl 21 (by decide +kernel) (by decide +kernel)⟩
theorem yv_X6_finalBlock : yV yX6_finalBlock cX6_finalBlock 3 (some .int) 2 := ⟨⟨mem_tb 419 (by decide +kernel) (by decide +kernel), mem_tb 1 (by decide +kernel) (by decide +kernel), by decide +kernel⟩, mem_tb 418 (by decide +kernel) (by decide +kernel), mem_sl 14 (by decide +kernel) (by decide +kernel)⟩
theorem yv_X6_has : yS yX6_has cX6_has 2 (some .boolean) 2 := ⟨⟨mem_tb 350 (by decide +kernel) (by decide +kernel), mem_tb 1 (by decide +kernel) (by decide +kernel), by decide +kernel⟩, mem_tb 349 (by decide +kernel) (by decide +kernel)⟩
theorem yv_X6_holderOf : yS yX6_holderOf cX6_holderOf 1 (some .int) 1 := ⟨⟨mem_tb 239 (by decide +kernel) (by decide +kernel), mem_tb 1 (by decide +kernel) (by decide +kernel), by decide +kernel⟩, mem_tb 238 (by decide +kernel) (by decide +kernel)⟩
theorem yv_X6_holds : yV yX6_holds cX6_holds 4 (some .int) 3 := ⟨⟨mem_tb 326 (by decide +kernel) (by decide +kernel), mem_tb 1 (by decide +kernel) (by decide +kernel), by decide +kernel⟩, mem_tb 324 (by decide +kernel) (by decide +kernel), mem_tb 325 (by decide +kernel) (by decide +kernel)⟩
theorem yv_X6_how : yV yX6_how cX6_how 4 (some .int) 3 := ⟨⟨mem_tb 411 (by decide +kernel) (by decide +kernel), mem_tb 1 (by decide +kernel) (by decide +kernel), by decide +kernel⟩, mem_tb 409 (by decide +kernel) (by decide +kernel), mem_tb 410 (by decide +kernel) (by decide +kernel)⟩
theorem yv_X6_image : yV yX6_image cX6_image 2 (some .int) 1 := ⟨⟨mem_tb 582 (by decide +kernel) (by decide +kernel), mem_tb 1 (by decide +kernel) (by decide +kernel), by decide +kernel⟩, mem_tb 580 (by decide +kernel) (by decide +kernel), mem_tb 581 (by decide +kernel) (by decide +kernel)⟩
theorem yv_X6_imageAt : yV yX6_imageAt cX6_imageAt 2 (some (.object "ControlRegister$Book")) 1 := ⟨⟨mem_tb 586 (by decide +kernel) (by decide +kernel), mem_tb 1 (by decide +kernel) (by decide +kernel), by decide +kernel⟩, mem_tb 585 (by decide +kernel) (by decide +kernel), mem_sl 24 (by decide +kernel) (by decide +kernel)⟩
theorem yv_X6_inLowestTerms : yS yX6_inLowestTerms cX6_inLowestTerms 7 (some .long) 3 := ⟨⟨mem_tb 540 (by decide +kernel) (by decide +kernel), mem_tb 1 (by decide +kernel) (by decide +kernel), by decide +kernel⟩, mem_tb 539 (by decide +kernel) (by decide +kernel)⟩
theorem yv_X6_isController : yS yX6_isController cX6_isController 1 (some .boolean) 1 := ⟨⟨mem_tb 292 (by decide +kernel) (by decide +kernel), mem_tb 1 (by decide +kernel) (by decide +kernel), by decide +kernel⟩, mem_tb 291 (by decide +kernel) (by decide +kernel)⟩
theorem yv_X6_isDay : yS yX6_isDay cX6_isDay 1 (some .boolean) 1 := ⟨⟨mem_tb 236 (by decide +kernel) (by decide +kernel), mem_tb 1 (by decide +kernel) (by decide +kernel), by decide +kernel⟩, mem_tb 235 (by decide +kernel) (by decide +kernel)⟩
theorem yv_X6_isDeal : yV yX6_isDeal cX6_isDeal 2 (some .boolean) 1 := ⟨⟨mem_tb 303 (by decide +kernel) (by decide +kernel), mem_tb 1 (by decide +kernel) (by decide +kernel), by decide +kernel⟩, mem_tb 302 (by decide +kernel) (by decide +kernel), mem_sl 6 (by decide +kernel) (by decide +kernel)⟩
theorem yv_X6_isFirm : yS yX6_isFirm cX6_isFirm 1 (some .boolean) 1 := ⟨⟨mem_tb 233 (by decide +kernel) (by decide +kernel), mem_tb 1 (by decide +kernel) (by decide +kernel), by decide +kernel⟩, mem_tb 232 (by decide +kernel) (by decide +kernel)⟩
theorem yv_X6_isHolder : yS yX6_isHolder cX6_isHolder 1 (some .boolean) 1 := ⟨⟨mem_tb 230 (by decide +kernel) (by decide +kernel), mem_tb 1 (by decide +kernel) (by decide +kernel), by decide +kernel⟩, mem_tb 229 (by decide +kernel) (by decide +kernel)⟩
theorem yv_X6_isPerson : yS yX6_isPerson cX6_isPerson 1 (some .boolean) 1 := ⟨⟨mem_tb 527 (by decide +kernel) (by decide +kernel), mem_tb 1 (by decide +kernel) (by decide +kernel), by decide +kernel⟩, mem_tb 526 (by decide +kernel) (by decide +kernel)⟩
theorem yv_X6_isSoundWithout : yV yX6_isSoundWithout cX6_isSoundWithout 4 (some .boolean) 1 := ⟨⟨mem_tb 255 (by decide +kernel) (by decide +kernel), mem_tb 1 (by decide +kernel) (by decide +kernel), by decide +kernel⟩, mem_tb 254 (by decide +kernel) (by decide +kernel), mem_sl 3 (by decide +kernel) (by decide +kernel)⟩
theorem yv_X6_isYesOrNo : yS yX6_isYesOrNo cX6_isYesOrNo 1 (some .boolean) 1 := ⟨⟨mem_tb 295 (by decide +kernel) (by decide +kernel), mem_tb 1 (by decide +kernel) (by decide +kernel), by decide +kernel⟩, mem_tb 294 (by decide +kernel) (by decide +kernel)⟩
theorem yv_X6_look : yV yX6_look cX6_look 3 (some .int) 1 := ⟨⟨mem_tb 318 (by decide +kernel) (by decide +kernel), mem_tb 1 (by decide +kernel) (by decide +kernel), by decide +kernel⟩, mem_tb 316 (by decide +kernel) (by decide +kernel), mem_tb 317 (by decide +kernel) (by decide +kernel)⟩
theorem yv_X6_nobody : yV yX6_nobody cX6_nobody 3 (some .long) 2 := ⟨⟨mem_tb 547 (by decide +kernel) (by decide +kernel), mem_tb 1 (by decide +kernel) (by decide +kernel), by decide +kernel⟩, mem_tb 545 (by decide +kernel) (by decide +kernel), mem_tb 546 (by decide +kernel) (by decide +kernel)⟩
theorem yv_X6_owners : yV yX6_owners cX6_owners 2 (some .int) 1 := ⟨⟨mem_tb 566 (by decide +kernel) (by decide +kernel), mem_tb 1 (by decide +kernel) (by decide +kernel), by decide +kernel⟩, mem_tb 564 (by decide +kernel) (by decide +kernel), mem_tb 565 (by decide +kernel) (by decide +kernel)⟩
theorem yv_X6_ranked : yV yX6_ranked cX6_ranked 4 (some .int) 2 := ⟨⟨mem_tb 557 (by decide +kernel) (by decide +kernel), mem_tb 1 (by decide +kernel) (by decide +kernel), by decide +kernel⟩, mem_tb 555 (by decide +kernel) (by decide +kernel), mem_tb 556 (by decide +kernel) (by decide +kernel)⟩
theorem yv_X6_restore : yV yX6_restore cX6_restore 2 (some .int) 1 := ⟨⟨mem_tb 594 (by decide +kernel) (by decide +kernel), mem_tb 1 (by decide +kernel) (by decide +kernel), by decide +kernel⟩, mem_tb 592 (by decide +kernel) (by decide +kernel), mem_tb 593 (by decide +kernel) (by decide +kernel)⟩
theorem yv_X6_rule : yV yX6_rule cX6_rule 4 (some .int) 2 := ⟨⟨mem_tb 322 (by decide +kernel) (by decide +kernel), mem_tb 1 (by decide +kernel) (by decide +kernel), by decide +kernel⟩, mem_tb 320 (by decide +kernel) (by decide +kernel), mem_tb 321 (by decide +kernel) (by decide +kernel)⟩
theorem yv_X6_sell : yV yX6_sell cX6_sell 7 (some .int) 6 := ⟨⟨mem_tb 227 (by decide +kernel) (by decide +kernel), mem_tb 1 (by decide +kernel) (by decide +kernel), by decide +kernel⟩, mem_tb 226 (by decide +kernel) (by decide +kernel), mem_sl 0 (by decide +kernel) (by decide +kernel)⟩
theorem yv_X6_sellShares : yV yX6_sellShares cX6_sellShares 6 (some .int) 5 := ⟨⟨mem_tb 223 (by decide +kernel) (by decide +kernel), mem_tb 1 (by decide +kernel) (by decide +kernel), by decide +kernel⟩, mem_tb 221 (by decide +kernel) (by decide +kernel), mem_tb 222 (by decide +kernel) (by decide +kernel)⟩
theorem yv_X6_sellVotes : yV yX6_sellVotes cX6_sellVotes 6 (some .int) 5 := ⟨⟨mem_tb 285 (by decide +kernel) (by decide +kernel), mem_tb 1 (by decide +kernel) (by decide +kernel), by decide +kernel⟩, mem_tb 283 (by decide +kernel) (by decide +kernel), mem_tb 284 (by decide +kernel) (by decide +kernel)⟩
theorem yv_X6_stake : yV yX6_stake cX6_stake 5 (some .long) 3 := ⟨⟨mem_tb 524 (by decide +kernel) (by decide +kernel), mem_tb 1 (by decide +kernel) (by decide +kernel), by decide +kernel⟩, mem_tb 522 (by decide +kernel) (by decide +kernel), mem_tb 523 (by decide +kernel) (by decide +kernel)⟩
theorem yv_X6_told : yV yX6_told cX6_told 3 (some .int) 2 := ⟨⟨mem_tb 307 (by decide +kernel) (by decide +kernel), mem_tb 1 (by decide +kernel) (by decide +kernel), by decide +kernel⟩, mem_tb 305 (by decide +kernel) (by decide +kernel), mem_tb 306 (by decide +kernel) (by decide +kernel)⟩
theorem yv_X6_trace : yV yX6_trace cX6_trace 1 none 0 := ⟨⟨mem_tb 456 (by decide +kernel) (by decide +kernel), mem_tb 1 (by decide +kernel) (by decide +kernel), by decide +kernel⟩, mem_tb 455 (by decide +kernel) (by decide +kernel), mem_sl 16 (by decide +kernel) (by decide +kernel)⟩
theorem yv_X6_veto : yV yX6_veto cX6_veto 5 (some .int) 4 := ⟨⟨mem_tb 289 (by decide +kernel) (by decide +kernel), mem_tb 1 (by decide +kernel) (by decide +kernel), by decide +kernel⟩, mem_tb 287 (by decide +kernel) (by decide +kernel), mem_tb 288 (by decide +kernel) (by decide +kernel)⟩
theorem yv_X6_wayOfControl : yV yX6_wayOfControl cX6_wayOfControl 3 (some .int) 2 := ⟨⟨mem_tb 415 (by decide +kernel) (by decide +kernel), mem_tb 1 (by decide +kernel) (by decide +kernel), by decide +kernel⟩, mem_tb 414 (by decide +kernel) (by decide +kernel), mem_sl 13 (by decide +kernel) (by decide +kernel)⟩
theorem yv_X6_when : yV yX6_when cX6_when 4 (some .int) 3 := ⟨⟨mem_tb 452 (by decide +kernel) (by decide +kernel), mem_tb 1 (by decide +kernel) (by decide +kernel), by decide +kernel⟩, mem_tb 450 (by decide +kernel) (by decide +kernel), mem_tb 451 (by decide +kernel) (by decide +kernel)⟩
theorem yv_X6_wouldControl : yV yX6_wouldControl cX6_wouldControl 3 (some .boolean) 2 := ⟨⟨mem_tb 506 (by decide +kernel) (by decide +kernel), mem_tb 1 (by decide +kernel) (by decide +kernel), by decide +kernel⟩, mem_tb 505 (by decide +kernel) (by decide +kernel), mem_sl 22 (by decide +kernel) (by decide +kernel)⟩
theorem yv_X7_above : yV yX7_above cX7_above 6 (some .int) 2 := ⟨⟨mem_tb 813 (by decide +kernel) (by decide +kernel), mem_tb 8 (by decide +kernel) (by decide +kernel), by decide +kernel⟩, mem_tb 811 (by decide +kernel) (by decide +kernel), mem_tb 812 (by decide +kernel) (by decide +kernel)⟩
theorem yv_X7_add : yV yX7_add cX7_add 1 (some .int) 0 := ⟨⟨mem_tb 715 (by decide +kernel) (by decide +kernel), mem_tb 8 (by decide +kernel) (by decide +kernel), by decide +kernel⟩, mem_tb 714 (by decide +kernel) (by decide +kernel), mem_sl 27 (by decide +kernel) (by decide +kernel)⟩
theorem yv_X7_areKnown : yS yX7_areKnown cX7_areKnown 2 (some .boolean) 2 := ⟨⟨mem_tb 798 (by decide +kernel) (by decide +kernel), mem_tb 8 (by decide +kernel) (by decide +kernel), by decide +kernel⟩, mem_tb 797 (by decide +kernel) (by decide +kernel)⟩
theorem yv_X7_at : yS yX7_at cX7_at 2 (some .int) 2 := ⟨⟨mem_tb 734 (by decide +kernel) (by decide +kernel), mem_tb 8 (by decide +kernel) (by decide +kernel), by decide +kernel⟩, mem_tb 733 (by decide +kernel) (by decide +kernel)⟩
theorem yv_X7_begin : yV yX7_begin cX7_begin 2 none 0 := ⟨⟨mem_tb 723 (by decide +kernel) (by decide +kernel), mem_tb 8 (by decide +kernel) (by decide +kernel), by decide +kernel⟩, mem_tb 722 (by decide +kernel) (by decide +kernel), mem_sl 29 (by decide +kernel) (by decide +kernel)⟩
theorem yv_X7_block : yV yX7_block cX7_block 6 (some .int) 3 := ⟨⟨mem_tb 788 (by decide +kernel) (by decide +kernel), mem_tb 8 (by decide +kernel) (by decide +kernel), by decide +kernel⟩, mem_tb 787 (by decide +kernel) (by decide +kernel), mem_sl 35 (by decide +kernel) (by decide +kernel)⟩
theorem yv_X7_cancel : yV yX7_cancel cX7_cancel 3 (some .int) 1 := ⟨⟨mem_tb 749 (by decide +kernel) (by decide +kernel), mem_tb 8 (by decide +kernel) (by decide +kernel), by decide +kernel⟩, mem_tb 747 (by decide +kernel) (by decide +kernel), mem_tb 748 (by decide +kernel) (by decide +kernel)⟩
theorem yv_X7_chain : yV yX7_chain cX7_chain 6 (some .int) 2 := ⟨⟨mem_tb 809 (by decide +kernel) (by decide +kernel), mem_tb 8 (by decide +kernel) (by decide +kernel), by decide +kernel⟩, mem_tb 808 (by decide +kernel) (by decide +kernel), mem_sl 37 (by decide +kernel) (by decide +kernel)⟩
theorem yv_X7_circle : yV yX7_circle cX7_circle 5 (some .int) 1 := ⟨⟨mem_tb 886 (by decide +kernel) (by decide +kernel), mem_tb 8 (by decide +kernel) (by decide +kernel), by decide +kernel⟩, mem_tb 884 (by decide +kernel) (by decide +kernel), mem_tb 885 (by decide +kernel) (by decide +kernel)⟩
theorem yv_X7_control : yV yX7_control cX7_control 6 (some .int) 1 := ⟨⟨mem_tb 777 (by decide +kernel) (by decide +kernel), mem_tb 8 (by decide +kernel) (by decide +kernel), by decide +kernel⟩, mem_tb 776 (by decide +kernel) (by decide +kernel), mem_sl 33 (by decide +kernel) (by decide +kernel)⟩
theorem yv_X7_controls : yV yX7_controls cX7_controls 2 (some .int) 1 := ⟨⟨mem_tb 773 (by decide +kernel) (by decide +kernel), mem_tb 8 (by decide +kernel) (by decide +kernel), by decide +kernel⟩, mem_tb 771 (by decide +kernel) (by decide +kernel), mem_tb 772 (by decide +kernel) (by decide +kernel)⟩
theorem yv_X7_count : yV yX7_count cX7_count 2 (some .int) 1 := ⟨⟨mem_tb 898 (by decide +kernel) (by decide +kernel), mem_tb 8 (by decide +kernel) (by decide +kernel), by decide +kernel⟩, mem_tb 896 (by decide +kernel) (by decide +kernel), mem_tb 897 (by decide +kernel) (by decide +kernel)⟩
theorem yv_X7_dayBehind : yV yX7_dayBehind cX7_dayBehind 4 (some .int) 1 := ⟨⟨mem_tb 821 (by decide +kernel) (by decide +kernel), mem_tb 8 (by decide +kernel) (by decide +kernel), by decide +kernel⟩, mem_tb 820 (by decide +kernel) (by decide +kernel), mem_sl 38 (by decide +kernel) (by decide +kernel)⟩
theorem yv_X7_determinant : yV yX7_determinant cX7_determinant 12 (some .long) 0 := ⟨⟨mem_tb 856 (by decide +kernel) (by decide +kernel), mem_tb 8 (by decide +kernel) (by decide +kernel), by decide +kernel⟩, mem_tb 855 (by decide +kernel) (by decide +kernel), mem_sl 43 (by decide +kernel) (by decide +kernel)⟩
theorem yv_X7_does : yV yX7_does cX7_does 4 (some .boolean) 1 := ⟨⟨mem_tb 731 (by decide +kernel) (by decide +kernel), mem_tb 8 (by decide +kernel) (by decide +kernel), by decide +kernel⟩, mem_tb 730 (by decide +kernel) (by decide +kernel), mem_sl 31 (by decide +kernel) (by decide +kernel)⟩
theorem yv_X7_done : yV yX7_done cX7_done 3 (some .int) 0 := ⟨⟨mem_tb 902 (by decide +kernel) (by decide +kernel), mem_tb 8 (by decide +kernel) (by decide +kernel), by decide +kernel⟩, mem_tb 901 (by decide +kernel) (by decide +kernel), mem_sl 46 (by decide +kernel) (by decide +kernel)⟩
theorem yv_X7_event : yV yX7_event cX7_event 3 (some .int) 2 := ⟨⟨mem_tb 829 (by decide +kernel) (by decide +kernel), mem_tb 8 (by decide +kernel) (by decide +kernel), by decide +kernel⟩, mem_tb 827 (by decide +kernel) (by decide +kernel), mem_tb 828 (by decide +kernel) (by decide +kernel)⟩
theorem yv_X7_events : yV yX7_events cX7_events 8 (some .int) 1 := ⟨⟨mem_tb 833 (by decide +kernel) (by decide +kernel), mem_tb 8 (by decide +kernel) (by decide +kernel), by decide +kernel⟩, mem_tb 832 (by decide +kernel) (by decide +kernel), mem_sl 39 (by decide +kernel) (by decide +kernel)⟩
theorem yv_X7_falls : yV yX7_falls cX7_falls 8 (some .boolean) 3 := ⟨⟨mem_tb 784 (by decide +kernel) (by decide +kernel), mem_tb 8 (by decide +kernel) (by decide +kernel), by decide +kernel⟩, mem_tb 783 (by decide +kernel) (by decide +kernel), mem_sl 34 (by decide +kernel) (by decide +kernel)⟩
theorem yv_X7_fewest : yV yX7_fewest cX7_fewest 9 (some .int) 3 := ⟨⟨mem_tb 825 (by decide +kernel) (by decide +kernel), mem_tb 8 (by decide +kernel) (by decide +kernel), by decide +kernel⟩, mem_tb 823 (by decide +kernel) (by decide +kernel), mem_tb 824 (by decide +kernel) (by decide +kernel)⟩
theorem yv_X7_has : yS yX7_has cX7_has 2 (some .boolean) 2 := ⟨⟨mem_tb 780 (by decide +kernel) (by decide +kernel), mem_tb 8 (by decide +kernel) (by decide +kernel), by decide +kernel⟩, mem_tb 779 (by decide +kernel) (by decide +kernel)⟩
theorem yv_X7_holds : yV yX7_holds cX7_holds 5 (some .int) 3 := ⟨⟨mem_tb 769 (by decide +kernel) (by decide +kernel), mem_tb 8 (by decide +kernel) (by decide +kernel), by decide +kernel⟩, mem_tb 767 (by decide +kernel) (by decide +kernel), mem_tb 768 (by decide +kernel) (by decide +kernel)⟩
theorem yv_X7_how : yV yX7_how cX7_how 6 (some .int) 3 := ⟨⟨mem_tb 795 (by decide +kernel) (by decide +kernel), mem_tb 8 (by decide +kernel) (by decide +kernel), by decide +kernel⟩, mem_tb 793 (by decide +kernel) (by decide +kernel), mem_tb 794 (by decide +kernel) (by decide +kernel)⟩
theorem yv_X7_image : yV yX7_image cX7_image 4 (some .int) 1 := ⟨⟨mem_tb 890 (by decide +kernel) (by decide +kernel), mem_tb 8 (by decide +kernel) (by decide +kernel), by decide +kernel⟩, mem_tb 888 (by decide +kernel) (by decide +kernel), mem_tb 889 (by decide +kernel) (by decide +kernel)⟩
theorem yv_X7_in : yS yX7_in cX7_in 3 (some .boolean) 3 := ⟨⟨mem_tb 704 (by decide +kernel) (by decide +kernel), mem_tb 8 (by decide +kernel) (by decide +kernel), by decide +kernel⟩, mem_tb 703 (by decide +kernel) (by decide +kernel)⟩
theorem yv_X7_isDeal : yV yX7_isDeal cX7_isDeal 2 (some .boolean) 1 := ⟨⟨mem_tb 753 (by decide +kernel) (by decide +kernel), mem_tb 8 (by decide +kernel) (by decide +kernel), by decide +kernel⟩, mem_tb 752 (by decide +kernel) (by decide +kernel), mem_sl 32 (by decide +kernel) (by decide +kernel)⟩
theorem yv_X7_isFirm : yS yX7_isFirm cX7_isFirm 1 (some .boolean) 1 := ⟨⟨mem_tb 707 (by decide +kernel) (by decide +kernel), mem_tb 8 (by decide +kernel) (by decide +kernel), by decide +kernel⟩, mem_tb 706 (by decide +kernel) (by decide +kernel)⟩
theorem yv_X7_isOne : yS yX7_isOne cX7_isOne 1 (some .boolean) 1 := ⟨⟨mem_tb 745 (by decide +kernel) (by decide +kernel), mem_tb 8 (by decide +kernel) (by decide +kernel), by decide +kernel⟩, mem_tb 744 (by decide +kernel) (by decide +kernel)⟩
theorem yv_X7_isWith : yS yX7_isWith cX7_isWith 3 (some .boolean) 3 := ⟨⟨mem_tb 791 (by decide +kernel) (by decide +kernel), mem_tb 8 (by decide +kernel) (by decide +kernel), by decide +kernel⟩, mem_tb 790 (by decide +kernel) (by decide +kernel)⟩
theorem yv_X7_lay : yV yX7_lay cX7_lay 5 (some .boolean) 2 := ⟨⟨mem_tb 719 (by decide +kernel) (by decide +kernel), mem_tb 8 (by decide +kernel) (by decide +kernel), by decide +kernel⟩, mem_tb 718 (by decide +kernel) (by decide +kernel), mem_sl 28 (by decide +kernel) (by decide +kernel)⟩
theorem yv_X7_layRows : yV yX7_layRows cX7_layRows 4 none 0 := ⟨⟨mem_tb 847 (by decide +kernel) (by decide +kernel), mem_tb 8 (by decide +kernel) (by decide +kernel), by decide +kernel⟩, mem_tb 846 (by decide +kernel) (by decide +kernel), mem_sl 41 (by decide +kernel) (by decide +kernel)⟩
theorem yv_X7_layUppers : yV yX7_layUppers cX7_layUppers 3 none 1 := ⟨⟨mem_tb 878 (by decide +kernel) (by decide +kernel), mem_tb 8 (by decide +kernel) (by decide +kernel), by decide +kernel⟩, mem_tb 877 (by decide +kernel) (by decide +kernel), mem_sl 45 (by decide +kernel) (by decide +kernel)⟩
theorem yv_X7_locked : yV yX7_locked cX7_locked 7 (some .int) 0 := ⟨⟨mem_tb 851 (by decide +kernel) (by decide +kernel), mem_tb 8 (by decide +kernel) (by decide +kernel), by decide +kernel⟩, mem_tb 850 (by decide +kernel) (by decide +kernel), mem_sl 42 (by decide +kernel) (by decide +kernel)⟩
theorem yv_X7_look : yV yX7_look cX7_look 3 (some .int) 1 := ⟨⟨mem_tb 761 (by decide +kernel) (by decide +kernel), mem_tb 8 (by decide +kernel) (by decide +kernel), by decide +kernel⟩, mem_tb 759 (by decide +kernel) (by decide +kernel), mem_tb 760 (by decide +kernel) (by decide +kernel)⟩
theorem yv_X7_lower : yV yX7_lower cX7_lower 1 (some .long) 0 := ⟨⟨mem_tb 863 (by decide +kernel) (by decide +kernel), mem_tb 8 (by decide +kernel) (by decide +kernel), by decide +kernel⟩, mem_tb 862 (by decide +kernel) (by decide +kernel), mem_sl 44 (by decide +kernel) (by decide +kernel)⟩
theorem yv_X7_many : yS yX7_many cX7_many 3 (some .int) 1 := ⟨⟨mem_tb 805 (by decide +kernel) (by decide +kernel), mem_tb 8 (by decide +kernel) (by decide +kernel), by decide +kernel⟩, mem_tb 804 (by decide +kernel) (by decide +kernel)⟩
theorem yv_X7_mostRounds : yV yX7_mostRounds cX7_mostRounds 3 (some .int) 0 := ⟨⟨mem_tb 906 (by decide +kernel) (by decide +kernel), mem_tb 8 (by decide +kernel) (by decide +kernel), by decide +kernel⟩, mem_tb 905 (by decide +kernel) (by decide +kernel), mem_sl 47 (by decide +kernel) (by decide +kernel)⟩
theorem yv_X7_nobody : yV yX7_nobody cX7_nobody 6 (some .long) 2 := ⟨⟨mem_tb 870 (by decide +kernel) (by decide +kernel), mem_tb 8 (by decide +kernel) (by decide +kernel), by decide +kernel⟩, mem_tb 868 (by decide +kernel) (by decide +kernel), mem_tb 869 (by decide +kernel) (by decide +kernel)⟩
theorem yv_X7_over : yS yX7_over cX7_over 2 (some .int) 2 := ⟨⟨mem_tb 859 (by decide +kernel) (by decide +kernel), mem_tb 8 (by decide +kernel) (by decide +kernel), by decide +kernel⟩, mem_tb 858 (by decide +kernel) (by decide +kernel)⟩
theorem yv_X7_owners : yV yX7_owners cX7_owners 6 (some .int) 1 := ⟨⟨mem_tb 882 (by decide +kernel) (by decide +kernel), mem_tb 8 (by decide +kernel) (by decide +kernel), by decide +kernel⟩, mem_tb 880 (by decide +kernel) (by decide +kernel), mem_tb 881 (by decide +kernel) (by decide +kernel)⟩
theorem yv_X7_part : yS yX7_part cX7_part 12 (some .long) 3 := ⟨⟨mem_tb 866 (by decide +kernel) (by decide +kernel), mem_tb 8 (by decide +kernel) (by decide +kernel), by decide +kernel⟩, mem_tb 865 (by decide +kernel) (by decide +kernel)⟩
theorem yv_X7_placeOf : yV yX7_placeOf cX7_placeOf 4 (some .int) 1 := ⟨⟨mem_tb 727 (by decide +kernel) (by decide +kernel), mem_tb 8 (by decide +kernel) (by decide +kernel), by decide +kernel⟩, mem_tb 726 (by decide +kernel) (by decide +kernel), mem_sl 30 (by decide +kernel) (by decide +kernel)⟩
theorem yv_X7_put : yV yX7_put cX7_put 8 none 7 := ⟨⟨mem_tb 711 (by decide +kernel) (by decide +kernel), mem_tb 8 (by decide +kernel) (by decide +kernel), by decide +kernel⟩, mem_tb 710 (by decide +kernel) (by decide +kernel), mem_sl 26 (by decide +kernel) (by decide +kernel)⟩
theorem yv_X7_ranked : yV yX7_ranked cX7_ranked 7 (some .int) 2 := ⟨⟨mem_tb 874 (by decide +kernel) (by decide +kernel), mem_tb 8 (by decide +kernel) (by decide +kernel), by decide +kernel⟩, mem_tb 872 (by decide +kernel) (by decide +kernel), mem_tb 873 (by decide +kernel) (by decide +kernel)⟩
theorem yv_X7_restore : yV yX7_restore cX7_restore 5 (some .int) 1 := ⟨⟨mem_tb 894 (by decide +kernel) (by decide +kernel), mem_tb 8 (by decide +kernel) (by decide +kernel), by decide +kernel⟩, mem_tb 892 (by decide +kernel) (by decide +kernel), mem_tb 893 (by decide +kernel) (by decide +kernel)⟩
theorem yv_X7_rule : yV yX7_rule cX7_rule 4 (some .int) 2 := ⟨⟨mem_tb 765 (by decide +kernel) (by decide +kernel), mem_tb 8 (by decide +kernel) (by decide +kernel), by decide +kernel⟩, mem_tb 763 (by decide +kernel) (by decide +kernel), mem_tb 764 (by decide +kernel) (by decide +kernel)⟩
theorem yv_X7_sell : yV yX7_sell cX7_sell 7 (some .int) 6 := ⟨⟨mem_tb 701 (by decide +kernel) (by decide +kernel), mem_tb 8 (by decide +kernel) (by decide +kernel), by decide +kernel⟩, mem_tb 700 (by decide +kernel) (by decide +kernel), mem_sl 25 (by decide +kernel) (by decide +kernel)⟩
theorem yv_X7_sellShares : yV yX7_sellShares cX7_sellShares 6 (some .int) 5 := ⟨⟨mem_tb 697 (by decide +kernel) (by decide +kernel), mem_tb 8 (by decide +kernel) (by decide +kernel), by decide +kernel⟩, mem_tb 695 (by decide +kernel) (by decide +kernel), mem_tb 696 (by decide +kernel) (by decide +kernel)⟩
theorem yv_X7_sellVotes : yV yX7_sellVotes cX7_sellVotes 6 (some .int) 5 := ⟨⟨mem_tb 738 (by decide +kernel) (by decide +kernel), mem_tb 8 (by decide +kernel) (by decide +kernel), by decide +kernel⟩, mem_tb 736 (by decide +kernel) (by decide +kernel), mem_tb 737 (by decide +kernel) (by decide +kernel)⟩
theorem yv_X7_stake : yV yX7_stake cX7_stake 4 (some .long) 3 := ⟨⟨mem_tb 837 (by decide +kernel) (by decide +kernel), mem_tb 8 (by decide +kernel) (by decide +kernel), by decide +kernel⟩, mem_tb 835 (by decide +kernel) (by decide +kernel), mem_tb 836 (by decide +kernel) (by decide +kernel)⟩
theorem yv_X7_told : yV yX7_told cX7_told 3 (some .int) 2 := ⟨⟨mem_tb 757 (by decide +kernel) (by decide +kernel), mem_tb 8 (by decide +kernel) (by decide +kernel), by decide +kernel⟩, mem_tb 755 (by decide +kernel) (by decide +kernel), mem_tb 756 (by decide +kernel) (by decide +kernel)⟩
theorem yv_X7_unlikeDay : yV yX7_unlikeDay cX7_unlikeDay 4 (some .int) 1 := ⟨⟨mem_tb 910 (by decide +kernel) (by decide +kernel), mem_tb 8 (by decide +kernel) (by decide +kernel), by decide +kernel⟩, mem_tb 909 (by decide +kernel) (by decide +kernel), mem_sl 48 (by decide +kernel) (by decide +kernel)⟩
theorem yv_X7_upper : yV yX7_upper cX7_upper 5 (some .long) 2 := ⟨⟨mem_tb 843 (by decide +kernel) (by decide +kernel), mem_tb 8 (by decide +kernel) (by decide +kernel), by decide +kernel⟩, mem_tb 842 (by decide +kernel) (by decide +kernel), mem_sl 40 (by decide +kernel) (by decide +kernel)⟩
theorem yv_X7_veto : yV yX7_veto cX7_veto 5 (some .int) 4 := ⟨⟨mem_tb 742 (by decide +kernel) (by decide +kernel), mem_tb 8 (by decide +kernel) (by decide +kernel), by decide +kernel⟩, mem_tb 740 (by decide +kernel) (by decide +kernel), mem_tb 741 (by decide +kernel) (by decide +kernel)⟩
theorem yv_X7_when : yV yX7_when cX7_when 6 (some .int) 3 := ⟨⟨mem_tb 817 (by decide +kernel) (by decide +kernel), mem_tb 8 (by decide +kernel) (by decide +kernel), by decide +kernel⟩, mem_tb 815 (by decide +kernel) (by decide +kernel), mem_tb 816 (by decide +kernel) (by decide +kernel)⟩
theorem yv_X7_witness : yV yX7_witness cX7_witness 6 (some .int) 2 := ⟨⟨mem_tb 802 (by decide +kernel) (by decide +kernel), mem_tb 8 (by decide +kernel) (by decide +kernel), by decide +kernel⟩, mem_tb 801 (by decide +kernel) (by decide +kernel), mem_sl 36 (by decide +kernel) (by decide +kernel)⟩
end
section
def f_X6_isHolder (x0 : Int32) : Int32 :=
  if x0 < 0 then
  (0)
  else
  (if 10 ≤ x0 then
  (0)
  else
  (1))
set_option maxRecDepth 20000 in
set_option maxHeartbeats 4000000 in
theorem w_X6_isHolder {X : Ctx} (K : Cok X cX6_isHolder 1 RX6) (hR : 0 ≤ X.R.frames ∧ 0 ≤ X.R.locals) {x0 : Int32} {σ : Sg}  {r : Int32} (h : f_X6_isHolder x0 = r) (hr : RZ X cX6_isHolder 1 (r, σ)) : G X 1 0 [(0, .int x0)] [] σ := by
  unfold f_X6_isHolder at h
  refine g_iload_n K 0 dX6_isHolder_0 rfl rfl ?_
  refine g_if_lt (tgt := 14) K dX6_isHolder_1 (by decide) (fun c1 => ?_) (fun c1 => ?_)
  · replace h := bp c1 h
    refine g_iconst (v := 0) K dX6_isHolder_14 ic_0 ?_
    exact hr _ _ _ _ dX6_isHolder_15 (rt0 h) nb_0
  · replace h := bn c1 h
    refine g_iload_n K 0 dX6_isHolder_4 rfl rfl ?_
    refine g_bipush (v := 10) K dX6_isHolder_5 bp_10 ?_
    refine g_icmp_ge (tgt := 14) K dX6_isHolder_7 (by decide) (fun c2 => ?_) (fun c2 => ?_)
    · replace h := bp c2 h
      refine g_iconst (v := 0) K dX6_isHolder_14 ic_0 ?_
      exact hr _ _ _ _ dX6_isHolder_15 (rt0 h) nb_0
    · replace h := bn c2 h
      refine g_iconst (v := 1) K dX6_isHolder_10 ic_1 ?_
      refine g_goto (tgt := 15) K dX6_isHolder_11 (by decide) ?_
      exact hr _ _ _ _ dX6_isHolder_15 (rt0 h) nb_1
theorem m_X6_isHolder (x0 : Int32) (σ : Sg)  : CI yX6_isHolder cX6_isHolder 1 (some .boolean) 0 0 (fun ad => [.int x0]) σ (f_X6_isHolder x0) σ :=
  CZ.of (by decide) (fun _ => Nat.le_of_ble_eq_true rfl) (fun X K hR hr => w_X6_isHolder K hR rfl hr)
theorem nz_X6_isHolder (x0 : Int32) : narrow .boolean (.int (f_X6_isHolder x0)) = .int (f_X6_isHolder x0) := by
  unfold f_X6_isHolder
  (repeat' split) <;> rfl
def f_X6_isFirm (x0 : Int32) : Int32 :=
  if x0 < 0 then
  (0)
  else
  (if 5 ≤ x0 then
  (0)
  else
  (1))
set_option maxRecDepth 20000 in
set_option maxHeartbeats 4000000 in
theorem w_X6_isFirm {X : Ctx} (K : Cok X cX6_isFirm 1 RX6) (hR : 0 ≤ X.R.frames ∧ 0 ≤ X.R.locals) {x0 : Int32} {σ : Sg}  {r : Int32} (h : f_X6_isFirm x0 = r) (hr : RZ X cX6_isFirm 1 (r, σ)) : G X 1 0 [(0, .int x0)] [] σ := by
  unfold f_X6_isFirm at h
  refine g_iload_n K 0 dX6_isFirm_0 rfl rfl ?_
  refine g_if_lt (tgt := 13) K dX6_isFirm_1 (by decide) (fun c1 => ?_) (fun c1 => ?_)
  · replace h := bp c1 h
    refine g_iconst (v := 0) K dX6_isFirm_13 ic_0 ?_
    exact hr _ _ _ _ dX6_isFirm_14 (rt0 h) nb_0
  · replace h := bn c1 h
    refine g_iload_n K 0 dX6_isFirm_4 rfl rfl ?_
    refine g_iconst (v := 5) K dX6_isFirm_5 ic_5 ?_
    refine g_icmp_ge (tgt := 13) K dX6_isFirm_6 (by decide) (fun c2 => ?_) (fun c2 => ?_)
    · replace h := bp c2 h
      refine g_iconst (v := 0) K dX6_isFirm_13 ic_0 ?_
      exact hr _ _ _ _ dX6_isFirm_14 (rt0 h) nb_0
    · replace h := bn c2 h
      refine g_iconst (v := 1) K dX6_isFirm_9 ic_1 ?_
      refine g_goto (tgt := 14) K dX6_isFirm_10 (by decide) ?_
      exact hr _ _ _ _ dX6_isFirm_14 (rt0 h) nb_1
theorem m_X6_isFirm (x0 : Int32) (σ : Sg)  : CI yX6_isFirm cX6_isFirm 1 (some .boolean) 0 0 (fun ad => [.int x0]) σ (f_X6_isFirm x0) σ :=
  CZ.of (by decide) (fun _ => Nat.le_of_ble_eq_true rfl) (fun X K hR hr => w_X6_isFirm K hR rfl hr)
theorem nz_X6_isFirm (x0 : Int32) : narrow .boolean (.int (f_X6_isFirm x0)) = .int (f_X6_isFirm x0) := by
  unfold f_X6_isFirm
  (repeat' split) <;> rfl
def f_X6_isDay (x0 : Int32) : Int32 :=
  if x0 < 0 then
  (0)
  else
  (if 999 < x0 then
  (0)
  else
  (1))
set_option maxRecDepth 20000 in
set_option maxHeartbeats 4000000 in
theorem w_X6_isDay {X : Ctx} (K : Cok X cX6_isDay 1 RX6) (hR : 0 ≤ X.R.frames ∧ 0 ≤ X.R.locals) {x0 : Int32} {σ : Sg}  {r : Int32} (h : f_X6_isDay x0 = r) (hr : RZ X cX6_isDay 1 (r, σ)) : G X 1 0 [(0, .int x0)] [] σ := by
  unfold f_X6_isDay at h
  refine g_iload_n K 0 dX6_isDay_0 rfl rfl ?_
  refine g_if_lt (tgt := 15) K dX6_isDay_1 (by decide) (fun c1 => ?_) (fun c1 => ?_)
  · replace h := bp c1 h
    refine g_iconst (v := 0) K dX6_isDay_15 ic_0 ?_
    exact hr _ _ _ _ dX6_isDay_16 (rt0 h) nb_0
  · replace h := bn c1 h
    refine g_iload_n K 0 dX6_isDay_4 rfl rfl ?_
    refine g_sipush (v := 999) K dX6_isDay_5 sp_999 ?_
    refine g_icmp_gt (tgt := 15) K dX6_isDay_8 (by decide) (fun c2 => ?_) (fun c2 => ?_)
    · replace h := bp c2 h
      refine g_iconst (v := 0) K dX6_isDay_15 ic_0 ?_
      exact hr _ _ _ _ dX6_isDay_16 (rt0 h) nb_0
    · replace h := bn c2 h
      refine g_iconst (v := 1) K dX6_isDay_11 ic_1 ?_
      refine g_goto (tgt := 16) K dX6_isDay_12 (by decide) ?_
      exact hr _ _ _ _ dX6_isDay_16 (rt0 h) nb_1
theorem m_X6_isDay (x0 : Int32) (σ : Sg)  : CI yX6_isDay cX6_isDay 1 (some .boolean) 0 0 (fun ad => [.int x0]) σ (f_X6_isDay x0) σ :=
  CZ.of (by decide) (fun _ => Nat.le_of_ble_eq_true rfl) (fun X K hR hr => w_X6_isDay K hR rfl hr)
theorem nz_X6_isDay (x0 : Int32) : narrow .boolean (.int (f_X6_isDay x0)) = .int (f_X6_isDay x0) := by
  unfold f_X6_isDay
  (repeat' split) <;> rfl
def f_X6_holderOf (x0 : Int32) : Int32 :=
  (4 + x0)
set_option maxRecDepth 20000 in
set_option maxHeartbeats 4000000 in
theorem w_X6_holderOf {X : Ctx} (K : Cok X cX6_holderOf 1 RX6) (hR : 0 ≤ X.R.frames ∧ 0 ≤ X.R.locals) {x0 : Int32} {σ : Sg}  {r : Int32} (h : f_X6_holderOf x0 = r) (hr : RI X cX6_holderOf 1 (r, σ)) : G X 1 0 [(0, .int x0)] [] σ := by
  unfold f_X6_holderOf at h
  refine g_iconst (v := 4) K dX6_holderOf_0 ic_4 ?_
  refine g_iload_n K 0 dX6_holderOf_1 rfl rfl ?_
  refine g_iadd K dX6_holderOf_2 ?_
  exact hr _ _ _ _ dX6_holderOf_3 (rt0 h)
theorem m_X6_holderOf (x0 : Int32) (σ : Sg)  : CI yX6_holderOf cX6_holderOf 1 (some .int) 0 0 (fun ad => [.int x0]) σ (f_X6_holderOf x0) σ :=
  CI.of (by decide) (fun _ => Nat.le_of_ble_eq_true rfl) (fun X K hR hr => w_X6_holderOf K hR rfl hr)
def f_X6_isController (x0 : Int32) : Int32 :=
  if x0 < 0 then
  (0)
  else
  (if 9 ≤ x0 then
  (0)
  else
  (1))
set_option maxRecDepth 20000 in
set_option maxHeartbeats 4000000 in
theorem w_X6_isController {X : Ctx} (K : Cok X cX6_isController 1 RX6) (hR : 0 ≤ X.R.frames ∧ 0 ≤ X.R.locals) {x0 : Int32} {σ : Sg}  {r : Int32} (h : f_X6_isController x0 = r) (hr : RZ X cX6_isController 1 (r, σ)) : G X 1 0 [(0, .int x0)] [] σ := by
  unfold f_X6_isController at h
  refine g_iload_n K 0 dX6_isController_0 rfl rfl ?_
  refine g_if_lt (tgt := 14) K dX6_isController_1 (by decide) (fun c1 => ?_) (fun c1 => ?_)
  · replace h := bp c1 h
    refine g_iconst (v := 0) K dX6_isController_14 ic_0 ?_
    exact hr _ _ _ _ dX6_isController_15 (rt0 h) nb_0
  · replace h := bn c1 h
    refine g_iload_n K 0 dX6_isController_4 rfl rfl ?_
    refine g_bipush (v := 9) K dX6_isController_5 bp_9 ?_
    refine g_icmp_ge (tgt := 14) K dX6_isController_7 (by decide) (fun c2 => ?_) (fun c2 => ?_)
    · replace h := bp c2 h
      refine g_iconst (v := 0) K dX6_isController_14 ic_0 ?_
      exact hr _ _ _ _ dX6_isController_15 (rt0 h) nb_0
    · replace h := bn c2 h
      refine g_iconst (v := 1) K dX6_isController_10 ic_1 ?_
      refine g_goto (tgt := 15) K dX6_isController_11 (by decide) ?_
      exact hr _ _ _ _ dX6_isController_15 (rt0 h) nb_1
theorem m_X6_isController (x0 : Int32) (σ : Sg)  : CI yX6_isController cX6_isController 1 (some .boolean) 0 0 (fun ad => [.int x0]) σ (f_X6_isController x0) σ :=
  CZ.of (by decide) (fun _ => Nat.le_of_ble_eq_true rfl) (fun X K hR hr => w_X6_isController K hR rfl hr)
theorem nz_X6_isController (x0 : Int32) : narrow .boolean (.int (f_X6_isController x0)) = .int (f_X6_isController x0) := by
  unfold f_X6_isController
  (repeat' split) <;> rfl
def f_X6_isYesOrNo (x0 : Int32) : Int32 :=
  if x0 = 0 then
  (1)
  else
  (if x0 = 1 then
  (1)
  else
  (0))
set_option maxRecDepth 20000 in
set_option maxHeartbeats 4000000 in
theorem w_X6_isYesOrNo {X : Ctx} (K : Cok X cX6_isYesOrNo 1 RX6) (hR : 0 ≤ X.R.frames ∧ 0 ≤ X.R.locals) {x0 : Int32} {σ : Sg}  {r : Int32} (h : f_X6_isYesOrNo x0 = r) (hr : RZ X cX6_isYesOrNo 1 (r, σ)) : G X 1 0 [(0, .int x0)] [] σ := by
  unfold f_X6_isYesOrNo at h
  refine g_iload_n K 0 dX6_isYesOrNo_0 rfl rfl ?_
  refine g_if_eq (tgt := 9) K dX6_isYesOrNo_1 (by decide) (fun c1 => ?_) (fun c1 => ?_)
  · replace h := bp c1 h
    refine g_iconst (v := 1) K dX6_isYesOrNo_9 ic_1 ?_
    refine g_goto (tgt := 14) K dX6_isYesOrNo_10 (by decide) ?_
    exact hr _ _ _ _ dX6_isYesOrNo_14 (rt0 h) nb_1
  · replace h := bn c1 h
    refine g_iload_n K 0 dX6_isYesOrNo_4 rfl rfl ?_
    refine g_iconst (v := 1) K dX6_isYesOrNo_5 ic_1 ?_
    refine g_icmp_ne (tgt := 13) K dX6_isYesOrNo_6 (by decide) (fun c2 => ?_) (fun c2 => ?_)
    · replace h := bn c2 h
      refine g_iconst (v := 0) K dX6_isYesOrNo_13 ic_0 ?_
      exact hr _ _ _ _ dX6_isYesOrNo_14 (rt0 h) nb_0
    · replace h := bp c2 h
      refine g_iconst (v := 1) K dX6_isYesOrNo_9 ic_1 ?_
      refine g_goto (tgt := 14) K dX6_isYesOrNo_10 (by decide) ?_
      exact hr _ _ _ _ dX6_isYesOrNo_14 (rt0 h) nb_1
theorem m_X6_isYesOrNo (x0 : Int32) (σ : Sg)  : CI yX6_isYesOrNo cX6_isYesOrNo 1 (some .boolean) 0 0 (fun ad => [.int x0]) σ (f_X6_isYesOrNo x0) σ :=
  CZ.of (by decide) (fun _ => Nat.le_of_ble_eq_true rfl) (fun X K hR hr => w_X6_isYesOrNo K hR rfl hr)
theorem nz_X6_isYesOrNo (x0 : Int32) : narrow .boolean (.int (f_X6_isYesOrNo x0)) = .int (f_X6_isYesOrNo x0) := by
  unfold f_X6_isYesOrNo
  (repeat' split) <;> rfl
def f_X6_asNumber (x0 : Int32) : Int32 :=
  if x0 = 0 then
  (0)
  else
  (1)
set_option maxRecDepth 20000 in
set_option maxHeartbeats 4000000 in
theorem w_X6_asNumber {X : Ctx} (K : Cok X cX6_asNumber 1 RX6) (hR : 0 ≤ X.R.frames ∧ 0 ≤ X.R.locals) {x0 : Int32} {σ : Sg}  {r : Int32} (h : f_X6_asNumber x0 = r) (hr : RI X cX6_asNumber 1 (r, σ)) : G X 1 0 [(0, .int x0)] [] σ := by
  unfold f_X6_asNumber at h
  refine g_iload_n K 0 dX6_asNumber_0 rfl rfl ?_
  refine g_if_eq (tgt := 8) K dX6_asNumber_1 (by decide) (fun c1 => ?_) (fun c1 => ?_)
  · replace h := bp c1 h
    refine g_iconst (v := 0) K dX6_asNumber_8 ic_0 ?_
    exact hr _ _ _ _ dX6_asNumber_9 (rt0 h)
  · replace h := bn c1 h
    refine g_iconst (v := 1) K dX6_asNumber_4 ic_1 ?_
    refine g_goto (tgt := 9) K dX6_asNumber_5 (by decide) ?_
    exact hr _ _ _ _ dX6_asNumber_9 (rt0 h)
theorem m_X6_asNumber (x0 : Int32) (σ : Sg)  : CI yX6_asNumber cX6_asNumber 1 (some .int) 0 0 (fun ad => [.int x0]) σ (f_X6_asNumber x0) σ :=
  CI.of (by decide) (fun _ => Nat.le_of_ble_eq_true rfl) (fun X K hR hr => w_X6_asNumber K hR rfl hr)
def f_X6_has (x0 : Int32) (x1 : Int32) : Int32 :=
  if ((x0 >>> (x1 &&& 31)) &&& 1) = 1 then
  (1)
  else
  (0)
set_option maxRecDepth 20000 in
set_option maxHeartbeats 4000000 in
theorem w_X6_has {X : Ctx} (K : Cok X cX6_has 2 RX6) (hR : 0 ≤ X.R.frames ∧ 0 ≤ X.R.locals) {x0 : Int32} {x1 : Int32} {σ : Sg}  {r : Int32} (h : f_X6_has x0 x1 = r) (hr : RZ X cX6_has 2 (r, σ)) : G X 2 0 [(0, .int x0), (1, .int x1)] [] σ := by
  unfold f_X6_has at h
  refine g_iload_n K 0 dX6_has_0 rfl rfl ?_
  refine g_iload_n K 1 dX6_has_1 rfl rfl ?_
  refine g_ishr K dX6_has_2 ?_
  refine g_iconst (v := 1) K dX6_has_3 ic_1 ?_
  refine g_iand K dX6_has_4 ?_
  refine g_iconst (v := 1) K dX6_has_5 ic_1 ?_
  refine g_icmp_ne (tgt := 13) K dX6_has_6 (by decide) (fun c1 => ?_) (fun c1 => ?_)
  · replace h := bn c1 h
    refine g_iconst (v := 0) K dX6_has_13 ic_0 ?_
    exact hr _ _ _ _ dX6_has_14 (rt0 h) nb_0
  · replace h := bp c1 h
    refine g_iconst (v := 1) K dX6_has_9 ic_1 ?_
    refine g_goto (tgt := 14) K dX6_has_10 (by decide) ?_
    exact hr _ _ _ _ dX6_has_14 (rt0 h) nb_1
theorem m_X6_has (x0 : Int32) (x1 : Int32) (σ : Sg)  : CI yX6_has cX6_has 2 (some .boolean) 0 0 (fun ad => [.int x0, .int x1]) σ (f_X6_has x0 x1) σ :=
  CZ.of (by decide) (fun _ => Nat.le_of_ble_eq_true rfl) (fun X K hR hr => w_X6_has K hR rfl hr)
theorem nz_X6_has (x0 : Int32) (x1 : Int32) : narrow .boolean (.int (f_X6_has x0 x1)) = .int (f_X6_has x0 x1) := by
  unfold f_X6_has
  (repeat' split) <;> rfl
def f_X6_isPerson (x0 : Int32) : Int32 :=
  if x0 < 0 then
  (0)
  else
  (if 4 ≤ x0 then
  (0)
  else
  (1))
set_option maxRecDepth 20000 in
set_option maxHeartbeats 4000000 in
theorem w_X6_isPerson {X : Ctx} (K : Cok X cX6_isPerson 1 RX6) (hR : 0 ≤ X.R.frames ∧ 0 ≤ X.R.locals) {x0 : Int32} {σ : Sg}  {r : Int32} (h : f_X6_isPerson x0 = r) (hr : RZ X cX6_isPerson 1 (r, σ)) : G X 1 0 [(0, .int x0)] [] σ := by
  unfold f_X6_isPerson at h
  refine g_iload_n K 0 dX6_isPerson_0 rfl rfl ?_
  refine g_if_lt (tgt := 13) K dX6_isPerson_1 (by decide) (fun c1 => ?_) (fun c1 => ?_)
  · replace h := bp c1 h
    refine g_iconst (v := 0) K dX6_isPerson_13 ic_0 ?_
    exact hr _ _ _ _ dX6_isPerson_14 (rt0 h) nb_0
  · replace h := bn c1 h
    refine g_iload_n K 0 dX6_isPerson_4 rfl rfl ?_
    refine g_iconst (v := 4) K dX6_isPerson_5 ic_4 ?_
    refine g_icmp_ge (tgt := 13) K dX6_isPerson_6 (by decide) (fun c2 => ?_) (fun c2 => ?_)
    · replace h := bp c2 h
      refine g_iconst (v := 0) K dX6_isPerson_13 ic_0 ?_
      exact hr _ _ _ _ dX6_isPerson_14 (rt0 h) nb_0
    · replace h := bn c2 h
      refine g_iconst (v := 1) K dX6_isPerson_9 ic_1 ?_
      refine g_goto (tgt := 14) K dX6_isPerson_10 (by decide) ?_
      exact hr _ _ _ _ dX6_isPerson_14 (rt0 h) nb_1
theorem m_X6_isPerson (x0 : Int32) (σ : Sg)  : CI yX6_isPerson cX6_isPerson 1 (some .boolean) 0 0 (fun ad => [.int x0]) σ (f_X6_isPerson x0) σ :=
  CZ.of (by decide) (fun _ => Nat.le_of_ble_eq_true rfl) (fun X K hR hr => w_X6_isPerson K hR rfl hr)
theorem nz_X6_isPerson (x0 : Int32) : narrow .boolean (.int (f_X6_isPerson x0)) = .int (f_X6_isPerson x0) := by
  unfold f_X6_isPerson
  (repeat' split) <;> rfl
def f_J6_bitCount_0f7a4 (x0 : Int32) : Int32 :=
  ((((((((x0 - ((((Int32.toUInt32 x0) >>> ((Int32.toUInt32 1) &&& Int32.toUInt32 31)).toInt32) &&& 1431655765)) &&& 858993459) + ((((Int32.toUInt32 (x0 - ((((Int32.toUInt32 x0) >>> ((Int32.toUInt32 1) &&& Int32.toUInt32 31)).toInt32) &&& 1431655765))) >>> ((Int32.toUInt32 2) &&& Int32.toUInt32 31)).toInt32) &&& 858993459)) + (((Int32.toUInt32 (((x0 - ((((Int32.toUInt32 x0) >>> ((Int32.toUInt32 1) &&& Int32.toUInt32 31)).toInt32) &&& 1431655765)) &&& 858993459) + ((((Int32.toUInt32 (x0 - ((((Int32.toUInt32 x0) >>> ((Int32.toUInt32 1) &&& Int32.toUInt32 31)).toInt32) &&& 1431655765))) >>> ((Int32.toUInt32 2) &&& Int32.toUInt32 31)).toInt32) &&& 858993459))) >>> ((Int32.toUInt32 4) &&& Int32.toUInt32 31)).toInt32)) &&& 252645135) + (((Int32.toUInt32 (((((x0 - ((((Int32.toUInt32 x0) >>> ((Int32.toUInt32 1) &&& Int32.toUInt32 31)).toInt32) &&& 1431655765)) &&& 858993459) + ((((Int32.toUInt32 (x0 - ((((Int32.toUInt32 x0) >>> ((Int32.toUInt32 1) &&& Int32.toUInt32 31)).toInt32) &&& 1431655765))) >>> ((Int32.toUInt32 2) &&& Int32.toUInt32 31)).toInt32) &&& 858993459)) + (((Int32.toUInt32 (((x0 - ((((Int32.toUInt32 x0) >>> ((Int32.toUInt32 1) &&& Int32.toUInt32 31)).toInt32) &&& 1431655765)) &&& 858993459) + ((((Int32.toUInt32 (x0 - ((((Int32.toUInt32 x0) >>> ((Int32.toUInt32 1) &&& Int32.toUInt32 31)).toInt32) &&& 1431655765))) >>> ((Int32.toUInt32 2) &&& Int32.toUInt32 31)).toInt32) &&& 858993459))) >>> ((Int32.toUInt32 4) &&& Int32.toUInt32 31)).toInt32)) &&& 252645135)) >>> ((Int32.toUInt32 8) &&& Int32.toUInt32 31)).toInt32)) + (((Int32.toUInt32 ((((((x0 - ((((Int32.toUInt32 x0) >>> ((Int32.toUInt32 1) &&& Int32.toUInt32 31)).toInt32) &&& 1431655765)) &&& 858993459) + ((((Int32.toUInt32 (x0 - ((((Int32.toUInt32 x0) >>> ((Int32.toUInt32 1) &&& Int32.toUInt32 31)).toInt32) &&& 1431655765))) >>> ((Int32.toUInt32 2) &&& Int32.toUInt32 31)).toInt32) &&& 858993459)) + (((Int32.toUInt32 (((x0 - ((((Int32.toUInt32 x0) >>> ((Int32.toUInt32 1) &&& Int32.toUInt32 31)).toInt32) &&& 1431655765)) &&& 858993459) + ((((Int32.toUInt32 (x0 - ((((Int32.toUInt32 x0) >>> ((Int32.toUInt32 1) &&& Int32.toUInt32 31)).toInt32) &&& 1431655765))) >>> ((Int32.toUInt32 2) &&& Int32.toUInt32 31)).toInt32) &&& 858993459))) >>> ((Int32.toUInt32 4) &&& Int32.toUInt32 31)).toInt32)) &&& 252645135) + (((Int32.toUInt32 (((((x0 - ((((Int32.toUInt32 x0) >>> ((Int32.toUInt32 1) &&& Int32.toUInt32 31)).toInt32) &&& 1431655765)) &&& 858993459) + ((((Int32.toUInt32 (x0 - ((((Int32.toUInt32 x0) >>> ((Int32.toUInt32 1) &&& Int32.toUInt32 31)).toInt32) &&& 1431655765))) >>> ((Int32.toUInt32 2) &&& Int32.toUInt32 31)).toInt32) &&& 858993459)) + (((Int32.toUInt32 (((x0 - ((((Int32.toUInt32 x0) >>> ((Int32.toUInt32 1) &&& Int32.toUInt32 31)).toInt32) &&& 1431655765)) &&& 858993459) + ((((Int32.toUInt32 (x0 - ((((Int32.toUInt32 x0) >>> ((Int32.toUInt32 1) &&& Int32.toUInt32 31)).toInt32) &&& 1431655765))) >>> ((Int32.toUInt32 2) &&& Int32.toUInt32 31)).toInt32) &&& 858993459))) >>> ((Int32.toUInt32 4) &&& Int32.toUInt32 31)).toInt32)) &&& 252645135)) >>> ((Int32.toUInt32 8) &&& Int32.toUInt32 31)).toInt32))) >>> ((Int32.toUInt32 16) &&& Int32.toUInt32 31)).toInt32)) &&& 63)
set_option maxRecDepth 20000 in
set_option maxHeartbeats 4000000 in
theorem w_J6_bitCount_0f7a4 {X : Ctx} (K : Cok X cJ6_bitCount_0f7a4 1 RJ6) (hR : 0 ≤ X.R.frames ∧ 0 ≤ X.R.locals) {x0 : Int32} {σ : Sg}  {r : Int32} (h : f_J6_bitCount_0f7a4 x0 = r) (hr : RI X cJ6_bitCount_0f7a4 1 (r, σ)) : G X 1 0 [(0, .int x0)] [] σ := by
  unfold f_J6_bitCount_0f7a4 at h
  refine g_iload_n K 0 dJ6_bitCount_0f7a4_0 rfl rfl ?_
  refine g_iload_n K 0 dJ6_bitCount_0f7a4_1 rfl rfl ?_
  refine g_iconst (v := 1) K dJ6_bitCount_0f7a4_2 ic_1 ?_
  refine g_iushr (v := ((Int32.toUInt32 x0) >>> ((Int32.toUInt32 1) &&& Int32.toUInt32 31)).toInt32) K dJ6_bitCount_0f7a4_3 rfl ?_
  refine g_ldcw (v := 1431655765) K ci_J6_265 dJ6_bitCount_0f7a4_4 ?_
  refine g_iand K dJ6_bitCount_0f7a4_7 ?_
  refine g_isub K dJ6_bitCount_0f7a4_8 ?_
  refine g_istore_n (lv' := [(0, .int (x0 - ((((Int32.toUInt32 x0) >>> ((Int32.toUInt32 1) &&& Int32.toUInt32 31)).toInt32) &&& 1431655765)))]) K dJ6_bitCount_0f7a4_9 rfl (by decide) rfl ?_
  refine g_iload_n K 0 dJ6_bitCount_0f7a4_10 rfl rfl ?_
  refine g_ldcw (v := 858993459) K ci_J6_266 dJ6_bitCount_0f7a4_11 ?_
  refine g_iand K dJ6_bitCount_0f7a4_14 ?_
  refine g_iload_n K 0 dJ6_bitCount_0f7a4_15 rfl rfl ?_
  refine g_iconst (v := 2) K dJ6_bitCount_0f7a4_16 ic_2 ?_
  refine g_iushr (v := ((Int32.toUInt32 (x0 - ((((Int32.toUInt32 x0) >>> ((Int32.toUInt32 1) &&& Int32.toUInt32 31)).toInt32) &&& 1431655765))) >>> ((Int32.toUInt32 2) &&& Int32.toUInt32 31)).toInt32) K dJ6_bitCount_0f7a4_17 rfl ?_
  refine g_ldcw (v := 858993459) K ci_J6_266 dJ6_bitCount_0f7a4_18 ?_
  refine g_iand K dJ6_bitCount_0f7a4_21 ?_
  refine g_iadd K dJ6_bitCount_0f7a4_22 ?_
  refine g_istore_n (lv' := [(0, .int (((x0 - ((((Int32.toUInt32 x0) >>> ((Int32.toUInt32 1) &&& Int32.toUInt32 31)).toInt32) &&& 1431655765)) &&& 858993459) + ((((Int32.toUInt32 (x0 - ((((Int32.toUInt32 x0) >>> ((Int32.toUInt32 1) &&& Int32.toUInt32 31)).toInt32) &&& 1431655765))) >>> ((Int32.toUInt32 2) &&& Int32.toUInt32 31)).toInt32) &&& 858993459)))]) K dJ6_bitCount_0f7a4_23 rfl (by decide) rfl ?_
  refine g_iload_n K 0 dJ6_bitCount_0f7a4_24 rfl rfl ?_
  refine g_iload_n K 0 dJ6_bitCount_0f7a4_25 rfl rfl ?_
  refine g_iconst (v := 4) K dJ6_bitCount_0f7a4_26 ic_4 ?_
  refine g_iushr (v := ((Int32.toUInt32 (((x0 - ((((Int32.toUInt32 x0) >>> ((Int32.toUInt32 1) &&& Int32.toUInt32 31)).toInt32) &&& 1431655765)) &&& 858993459) + ((((Int32.toUInt32 (x0 - ((((Int32.toUInt32 x0) >>> ((Int32.toUInt32 1) &&& Int32.toUInt32 31)).toInt32) &&& 1431655765))) >>> ((Int32.toUInt32 2) &&& Int32.toUInt32 31)).toInt32) &&& 858993459))) >>> ((Int32.toUInt32 4) &&& Int32.toUInt32 31)).toInt32) K dJ6_bitCount_0f7a4_27 rfl ?_
  refine g_iadd K dJ6_bitCount_0f7a4_28 ?_
  refine g_ldcw (v := 252645135) K ci_J6_267 dJ6_bitCount_0f7a4_29 ?_
  refine g_iand K dJ6_bitCount_0f7a4_32 ?_
  refine g_istore_n (lv' := [(0, .int (((((x0 - ((((Int32.toUInt32 x0) >>> ((Int32.toUInt32 1) &&& Int32.toUInt32 31)).toInt32) &&& 1431655765)) &&& 858993459) + ((((Int32.toUInt32 (x0 - ((((Int32.toUInt32 x0) >>> ((Int32.toUInt32 1) &&& Int32.toUInt32 31)).toInt32) &&& 1431655765))) >>> ((Int32.toUInt32 2) &&& Int32.toUInt32 31)).toInt32) &&& 858993459)) + (((Int32.toUInt32 (((x0 - ((((Int32.toUInt32 x0) >>> ((Int32.toUInt32 1) &&& Int32.toUInt32 31)).toInt32) &&& 1431655765)) &&& 858993459) + ((((Int32.toUInt32 (x0 - ((((Int32.toUInt32 x0) >>> ((Int32.toUInt32 1) &&& Int32.toUInt32 31)).toInt32) &&& 1431655765))) >>> ((Int32.toUInt32 2) &&& Int32.toUInt32 31)).toInt32) &&& 858993459))) >>> ((Int32.toUInt32 4) &&& Int32.toUInt32 31)).toInt32)) &&& 252645135))]) K dJ6_bitCount_0f7a4_33 rfl (by decide) rfl ?_
  refine g_iload_n K 0 dJ6_bitCount_0f7a4_34 rfl rfl ?_
  refine g_iload_n K 0 dJ6_bitCount_0f7a4_35 rfl rfl ?_
  refine g_bipush (v := 8) K dJ6_bitCount_0f7a4_36 bp_8 ?_
  refine g_iushr (v := ((Int32.toUInt32 (((((x0 - ((((Int32.toUInt32 x0) >>> ((Int32.toUInt32 1) &&& Int32.toUInt32 31)).toInt32) &&& 1431655765)) &&& 858993459) + ((((Int32.toUInt32 (x0 - ((((Int32.toUInt32 x0) >>> ((Int32.toUInt32 1) &&& Int32.toUInt32 31)).toInt32) &&& 1431655765))) >>> ((Int32.toUInt32 2) &&& Int32.toUInt32 31)).toInt32) &&& 858993459)) + (((Int32.toUInt32 (((x0 - ((((Int32.toUInt32 x0) >>> ((Int32.toUInt32 1) &&& Int32.toUInt32 31)).toInt32) &&& 1431655765)) &&& 858993459) + ((((Int32.toUInt32 (x0 - ((((Int32.toUInt32 x0) >>> ((Int32.toUInt32 1) &&& Int32.toUInt32 31)).toInt32) &&& 1431655765))) >>> ((Int32.toUInt32 2) &&& Int32.toUInt32 31)).toInt32) &&& 858993459))) >>> ((Int32.toUInt32 4) &&& Int32.toUInt32 31)).toInt32)) &&& 252645135)) >>> ((Int32.toUInt32 8) &&& Int32.toUInt32 31)).toInt32) K dJ6_bitCount_0f7a4_38 rfl ?_
  refine g_iadd K dJ6_bitCount_0f7a4_39 ?_
  refine g_istore_n (lv' := [(0, .int ((((((x0 - ((((Int32.toUInt32 x0) >>> ((Int32.toUInt32 1) &&& Int32.toUInt32 31)).toInt32) &&& 1431655765)) &&& 858993459) + ((((Int32.toUInt32 (x0 - ((((Int32.toUInt32 x0) >>> ((Int32.toUInt32 1) &&& Int32.toUInt32 31)).toInt32) &&& 1431655765))) >>> ((Int32.toUInt32 2) &&& Int32.toUInt32 31)).toInt32) &&& 858993459)) + (((Int32.toUInt32 (((x0 - ((((Int32.toUInt32 x0) >>> ((Int32.toUInt32 1) &&& Int32.toUInt32 31)).toInt32) &&& 1431655765)) &&& 858993459) + ((((Int32.toUInt32 (x0 - ((((Int32.toUInt32 x0) >>> ((Int32.toUInt32 1) &&& Int32.toUInt32 31)).toInt32) &&& 1431655765))) >>> ((Int32.toUInt32 2) &&& Int32.toUInt32 31)).toInt32) &&& 858993459))) >>> ((Int32.toUInt32 4) &&& Int32.toUInt32 31)).toInt32)) &&& 252645135) + (((Int32.toUInt32 (((((x0 - ((((Int32.toUInt32 x0) >>> ((Int32.toUInt32 1) &&& Int32.toUInt32 31)).toInt32) &&& 1431655765)) &&& 858993459) + ((((Int32.toUInt32 (x0 - ((((Int32.toUInt32 x0) >>> ((Int32.toUInt32 1) &&& Int32.toUInt32 31)).toInt32) &&& 1431655765))) >>> ((Int32.toUInt32 2) &&& Int32.toUInt32 31)).toInt32) &&& 858993459)) + (((Int32.toUInt32 (((x0 - ((((Int32.toUInt32 x0) >>> ((Int32.toUInt32 1) &&& Int32.toUInt32 31)).toInt32) &&& 1431655765)) &&& 858993459) + ((((Int32.toUInt32 (x0 - ((((Int32.toUInt32 x0) >>> ((Int32.toUInt32 1) &&& Int32.toUInt32 31)).toInt32) &&& 1431655765))) >>> ((Int32.toUInt32 2) &&& Int32.toUInt32 31)).toInt32) &&& 858993459))) >>> ((Int32.toUInt32 4) &&& Int32.toUInt32 31)).toInt32)) &&& 252645135)) >>> ((Int32.toUInt32 8) &&& Int32.toUInt32 31)).toInt32)))]) K dJ6_bitCount_0f7a4_40 rfl (by decide) rfl ?_
  refine g_iload_n K 0 dJ6_bitCount_0f7a4_41 rfl rfl ?_
  refine g_iload_n K 0 dJ6_bitCount_0f7a4_42 rfl rfl ?_
  refine g_bipush (v := 16) K dJ6_bitCount_0f7a4_43 bp_16 ?_
  refine g_iushr (v := ((Int32.toUInt32 ((((((x0 - ((((Int32.toUInt32 x0) >>> ((Int32.toUInt32 1) &&& Int32.toUInt32 31)).toInt32) &&& 1431655765)) &&& 858993459) + ((((Int32.toUInt32 (x0 - ((((Int32.toUInt32 x0) >>> ((Int32.toUInt32 1) &&& Int32.toUInt32 31)).toInt32) &&& 1431655765))) >>> ((Int32.toUInt32 2) &&& Int32.toUInt32 31)).toInt32) &&& 858993459)) + (((Int32.toUInt32 (((x0 - ((((Int32.toUInt32 x0) >>> ((Int32.toUInt32 1) &&& Int32.toUInt32 31)).toInt32) &&& 1431655765)) &&& 858993459) + ((((Int32.toUInt32 (x0 - ((((Int32.toUInt32 x0) >>> ((Int32.toUInt32 1) &&& Int32.toUInt32 31)).toInt32) &&& 1431655765))) >>> ((Int32.toUInt32 2) &&& Int32.toUInt32 31)).toInt32) &&& 858993459))) >>> ((Int32.toUInt32 4) &&& Int32.toUInt32 31)).toInt32)) &&& 252645135) + (((Int32.toUInt32 (((((x0 - ((((Int32.toUInt32 x0) >>> ((Int32.toUInt32 1) &&& Int32.toUInt32 31)).toInt32) &&& 1431655765)) &&& 858993459) + ((((Int32.toUInt32 (x0 - ((((Int32.toUInt32 x0) >>> ((Int32.toUInt32 1) &&& Int32.toUInt32 31)).toInt32) &&& 1431655765))) >>> ((Int32.toUInt32 2) &&& Int32.toUInt32 31)).toInt32) &&& 858993459)) + (((Int32.toUInt32 (((x0 - ((((Int32.toUInt32 x0) >>> ((Int32.toUInt32 1) &&& Int32.toUInt32 31)).toInt32) &&& 1431655765)) &&& 858993459) + ((((Int32.toUInt32 (x0 - ((((Int32.toUInt32 x0) >>> ((Int32.toUInt32 1) &&& Int32.toUInt32 31)).toInt32) &&& 1431655765))) >>> ((Int32.toUInt32 2) &&& Int32.toUInt32 31)).toInt32) &&& 858993459))) >>> ((Int32.toUInt32 4) &&& Int32.toUInt32 31)).toInt32)) &&& 252645135)) >>> ((Int32.toUInt32 8) &&& Int32.toUInt32 31)).toInt32))) >>> ((Int32.toUInt32 16) &&& Int32.toUInt32 31)).toInt32) K dJ6_bitCount_0f7a4_45 rfl ?_
  refine g_iadd K dJ6_bitCount_0f7a4_46 ?_
  refine g_istore_n (lv' := [(0, .int (((((((x0 - ((((Int32.toUInt32 x0) >>> ((Int32.toUInt32 1) &&& Int32.toUInt32 31)).toInt32) &&& 1431655765)) &&& 858993459) + ((((Int32.toUInt32 (x0 - ((((Int32.toUInt32 x0) >>> ((Int32.toUInt32 1) &&& Int32.toUInt32 31)).toInt32) &&& 1431655765))) >>> ((Int32.toUInt32 2) &&& Int32.toUInt32 31)).toInt32) &&& 858993459)) + (((Int32.toUInt32 (((x0 - ((((Int32.toUInt32 x0) >>> ((Int32.toUInt32 1) &&& Int32.toUInt32 31)).toInt32) &&& 1431655765)) &&& 858993459) + ((((Int32.toUInt32 (x0 - ((((Int32.toUInt32 x0) >>> ((Int32.toUInt32 1) &&& Int32.toUInt32 31)).toInt32) &&& 1431655765))) >>> ((Int32.toUInt32 2) &&& Int32.toUInt32 31)).toInt32) &&& 858993459))) >>> ((Int32.toUInt32 4) &&& Int32.toUInt32 31)).toInt32)) &&& 252645135) + (((Int32.toUInt32 (((((x0 - ((((Int32.toUInt32 x0) >>> ((Int32.toUInt32 1) &&& Int32.toUInt32 31)).toInt32) &&& 1431655765)) &&& 858993459) + ((((Int32.toUInt32 (x0 - ((((Int32.toUInt32 x0) >>> ((Int32.toUInt32 1) &&& Int32.toUInt32 31)).toInt32) &&& 1431655765))) >>> ((Int32.toUInt32 2) &&& Int32.toUInt32 31)).toInt32) &&& 858993459)) + (((Int32.toUInt32 (((x0 - ((((Int32.toUInt32 x0) >>> ((Int32.toUInt32 1) &&& Int32.toUInt32 31)).toInt32) &&& 1431655765)) &&& 858993459) + ((((Int32.toUInt32 (x0 - ((((Int32.toUInt32 x0) >>> ((Int32.toUInt32 1) &&& Int32.toUInt32 31)).toInt32) &&& 1431655765))) >>> ((Int32.toUInt32 2) &&& Int32.toUInt32 31)).toInt32) &&& 858993459))) >>> ((Int32.toUInt32 4) &&& Int32.toUInt32 31)).toInt32)) &&& 252645135)) >>> ((Int32.toUInt32 8) &&& Int32.toUInt32 31)).toInt32)) + (((Int32.toUInt32 ((((((x0 - ((((Int32.toUInt32 x0) >>> ((Int32.toUInt32 1) &&& Int32.toUInt32 31)).toInt32) &&& 1431655765)) &&& 858993459) + ((((Int32.toUInt32 (x0 - ((((Int32.toUInt32 x0) >>> ((Int32.toUInt32 1) &&& Int32.toUInt32 31)).toInt32) &&& 1431655765))) >>> ((Int32.toUInt32 2) &&& Int32.toUInt32 31)).toInt32) &&& 858993459)) + (((Int32.toUInt32 (((x0 - ((((Int32.toUInt32 x0) >>> ((Int32.toUInt32 1) &&& Int32.toUInt32 31)).toInt32) &&& 1431655765)) &&& 858993459) + ((((Int32.toUInt32 (x0 - ((((Int32.toUInt32 x0) >>> ((Int32.toUInt32 1) &&& Int32.toUInt32 31)).toInt32) &&& 1431655765))) >>> ((Int32.toUInt32 2) &&& Int32.toUInt32 31)).toInt32) &&& 858993459))) >>> ((Int32.toUInt32 4) &&& Int32.toUInt32 31)).toInt32)) &&& 252645135) + (((Int32.toUInt32 (((((x0 - ((((Int32.toUInt32 x0) >>> ((Int32.toUInt32 1) &&& Int32.toUInt32 31)).toInt32) &&& 1431655765)) &&& 858993459) + ((((Int32.toUInt32 (x0 - ((((Int32.toUInt32 x0) >>> ((Int32.toUInt32 1) &&& Int32.toUInt32 31)).toInt32) &&& 1431655765))) >>> ((Int32.toUInt32 2) &&& Int32.toUInt32 31)).toInt32) &&& 858993459)) + (((Int32.toUInt32 (((x0 - ((((Int32.toUInt32 x0) >>> ((Int32.toUInt32 1) &&& Int32.toUInt32 31)).toInt32) &&& 1431655765)) &&& 858993459) + ((((Int32.toUInt32 (x0 - ((((Int32.toUInt32 x0) >>> ((Int32.toUInt32 1) &&& Int32.toUInt32 31)).toInt32) &&& 1431655765))) >>> ((Int32.toUInt32 2) &&& Int32.toUInt32 31)).toInt32) &&& 858993459))) >>> ((Int32.toUInt32 4) &&& Int32.toUInt32 31)).toInt32)) &&& 252645135)) >>> ((Int32.toUInt32 8) &&& Int32.toUInt32 31)).toInt32))) >>> ((Int32.toUInt32 16) &&& Int32.toUInt32 31)).toInt32)))]) K dJ6_bitCount_0f7a4_47 rfl (by decide) rfl ?_
  refine g_iload_n K 0 dJ6_bitCount_0f7a4_48 rfl rfl ?_
  refine g_bipush (v := 63) K dJ6_bitCount_0f7a4_49 bp_63 ?_
  refine g_iand K dJ6_bitCount_0f7a4_51 ?_
  exact hr _ _ _ _ dJ6_bitCount_0f7a4_52 (rt0 h)
theorem m_J6_bitCount_0f7a4 (x0 : Int32) (σ : Sg)  : CI yJ6_bitCount_0f7a4 cJ6_bitCount_0f7a4 1 (some .int) 0 0 (fun ad => [.int x0]) σ (f_J6_bitCount_0f7a4 x0) σ :=
  CI.of (by decide) (fun _ => Nat.le_of_ble_eq_true rfl) (fun X K hR hr => w_J6_bitCount_0f7a4 K hR rfl hr)
def f_J9_max_7cf53 (x0 : Int32) (x1 : Int32) : Int32 :=
  if x0 < x1 then
  (x1)
  else
  (x0)
set_option maxRecDepth 20000 in
set_option maxHeartbeats 4000000 in
theorem w_J9_max_7cf53 {X : Ctx} (K : Cok X cJ9_max_7cf53 2 RJ9) (hR : 0 ≤ X.R.frames ∧ 0 ≤ X.R.locals) {x0 : Int32} {x1 : Int32} {σ : Sg}  {r : Int32} (h : f_J9_max_7cf53 x0 x1 = r) (hr : RI X cJ9_max_7cf53 2 (r, σ)) : G X 2 0 [(0, .int x0), (1, .int x1)] [] σ := by
  unfold f_J9_max_7cf53 at h
  refine g_iload_n K 0 dJ9_max_7cf53_0 rfl rfl ?_
  refine g_iload_n K 1 dJ9_max_7cf53_1 rfl rfl ?_
  refine g_icmp_lt (tgt := 9) K dJ9_max_7cf53_2 (by decide) (fun c1 => ?_) (fun c1 => ?_)
  · replace h := bp c1 h
    refine g_iload_n K 1 dJ9_max_7cf53_9 rfl rfl ?_
    exact hr _ _ _ _ dJ9_max_7cf53_10 (rt0 h)
  · replace h := bn c1 h
    refine g_iload_n K 0 dJ9_max_7cf53_5 rfl rfl ?_
    refine g_goto (tgt := 10) K dJ9_max_7cf53_6 (by decide) ?_
    exact hr _ _ _ _ dJ9_max_7cf53_10 (rt0 h)
theorem m_J9_max_7cf53 (x0 : Int32) (x1 : Int32) (σ : Sg)  : CI yJ9_max_7cf53 cJ9_max_7cf53 2 (some .int) 0 0 (fun ad => [.int x0, .int x1]) σ (f_J9_max_7cf53 x0 x1) σ :=
  CI.of (by decide) (fun _ => Nat.le_of_ble_eq_true rfl) (fun X K hR hr => w_J9_max_7cf53 K hR rfl hr)
def L_X0_arrange_12 (b0 : Nat) (x1 : Int32) : Nat → Int32 → Sg → Option (Int32 × Sg)
  | 0, _, _ => none
  | n + 1, x2, σ =>
    if x2 ≤ 0 then
    (some (x2, σ))
    else
    (if inb (x2 - 1) 41 then
    (if inb (σ.1 (b0 + 7) (x2 - 1).toNatClampNeg) 41 then
    (if inb x1 41 then
    (if (σ.1 (b0 + 1) (σ.1 (b0 + 7) (x2 - 1).toNatClampNeg).toNatClampNeg) ≤ (σ.1 (b0 + 1) x1.toNatClampNeg) then
    (some (x2, σ))
    else
    (if inb (x2 - 1) 41 then
    (if inb x2 41 then
    (jn (setR σ (b0 + 7) (upd (σ.1 (b0 + 7)) x2.toNatClampNeg (σ.1 (b0 + 7) (x2 - 1).toNatClampNeg))) (fun σ8 =>
    L_X0_arrange_12 b0 x1 n (x2 + (-1)) σ8))
    else none)
    else none))
    else none)
    else none)
    else none)
set_option maxRecDepth 20000 in
set_option maxHeartbeats 4000000 in
theorem l_X0_arrange_12 {X : Ctx} (K : Cok X cX0_arrange 3 RX0) (hR : 0 ≤ X.R.frames ∧ 0 ≤ X.R.locals) {b0 : Nat} {x1 : Int32} (hb0 : isBook b0) :
    ∀ (n : Nat) (x2 : Int32) (σ : Sg) (o : (Int32 × Sg)), L_X0_arrange_12 b0 x1 n x2 σ = some o → G X 3 58 [(0, .ref (X.ad b0)), (1, .int x1), (2, .int o.1)] [] o.2 → G X 3 12 [(0, .ref (X.ad b0)), (1, .int x1), (2, .int x2)] [] σ := by
  intro n
  induction n with
  | zero => intro x2 σ o h; exact absurd h (by unfold L_X0_arrange_12; intro h; cases h)
  | succ n ih =>
    intro x2 σ o h hexit
    unfold L_X0_arrange_12 at h
    refine g_iload_n K 2 dX0_arrange_12 rfl rfl ?_
    refine g_if_le (tgt := 58) K dX0_arrange_13 (by decide) (fun c1 => ?_) (fun c1 => ?_)
    · replace h := bp c1 h
      refine g_sub [0, 1, 2] rfl ?_
      obtain rfl := Option.some.inj h
      exact hexit
    · replace h := bn c1 h
      refine g_aload_n K 0 dX0_arrange_16 rfl rfl ?_
      refine g_get (v := .ref (X.ad (b0 + 1))) K (e_Book (bk_k0 hb0)) (bk_l0 hb0) rfl 0 (by decide) rfl fw_X0_11 u_X0 dX0_arrange_17 ?_
      refine g_aload_n K 0 dX0_arrange_20 rfl rfl ?_
      refine g_get (v := .ref (X.ad (b0 + 7))) K (e_Book (bk_k0 hb0)) (bk_l0 hb0) rfl 6 (by decide) rfl fw_X0_30 u_X0 dX0_arrange_21 ?_
      refine g_iload_n K 2 dX0_arrange_24 rfl rfl ?_
      refine g_iconst (v := 1) K dX0_arrange_25 ic_1 ?_
      refine g_isub K dX0_arrange_26 ?_
      obtain ⟨g2, h⟩ := og h
      refine g_iald K (bk_k7 hb0) (bk_l7 hb0) g2 dX0_arrange_27 ?_
      obtain ⟨g3, h⟩ := og h
      refine g_iald K (bk_k1 hb0) (bk_l1 hb0) g3 dX0_arrange_28 ?_
      refine g_aload_n K 0 dX0_arrange_29 rfl rfl ?_
      refine g_get (v := .ref (X.ad (b0 + 1))) K (e_Book (bk_k0 hb0)) (bk_l0 hb0) rfl 0 (by decide) rfl fw_X0_11 u_X0 dX0_arrange_30 ?_
      refine g_iload_n K 1 dX0_arrange_33 rfl rfl ?_
      obtain ⟨g4, h⟩ := og h
      refine g_iald K (bk_k1 hb0) (bk_l1 hb0) g4 dX0_arrange_34 ?_
      refine g_icmp_le (tgt := 58) K dX0_arrange_35 (by decide) (fun c5 => ?_) (fun c5 => ?_)
      · replace h := bp c5 h
        refine g_sub [0, 1, 2] rfl ?_
        obtain rfl := Option.some.inj h
        exact hexit
      · replace h := bn c5 h
        refine g_aload_n K 0 dX0_arrange_38 rfl rfl ?_
        refine g_get (v := .ref (X.ad (b0 + 7))) K (e_Book (bk_k0 hb0)) (bk_l0 hb0) rfl 6 (by decide) rfl fw_X0_30 u_X0 dX0_arrange_39 ?_
        refine g_iload_n K 2 dX0_arrange_42 rfl rfl ?_
        refine g_aload_n K 0 dX0_arrange_43 rfl rfl ?_
        refine g_get (v := .ref (X.ad (b0 + 7))) K (e_Book (bk_k0 hb0)) (bk_l0 hb0) rfl 6 (by decide) rfl fw_X0_30 u_X0 dX0_arrange_44 ?_
        refine g_iload_n K 2 dX0_arrange_47 rfl rfl ?_
        refine g_iconst (v := 1) K dX0_arrange_48 ic_1 ?_
        refine g_isub K dX0_arrange_49 ?_
        obtain ⟨g6, h⟩ := og h
        refine g_iald K (bk_k7 hb0) (bk_l7 hb0) g6 dX0_arrange_50 ?_
        obtain ⟨g7, h⟩ := og h
        refine g_iast K (bk_k7 hb0) (bk_l7 hb0) g7 dX0_arrange_51 (fun σ8 s9 => ?_)
        replace h := jn_at s9 h
        refine g_iinc (lv' := [(2, .int (x2 + (-1))), (0, .ref (X.ad b0)), (1, .int x1)]) K 2 dX0_arrange_52 rfl (by rw [ic_m1]) (by decide) rfl ?_
        refine g_goto (tgt := 12) K dX0_arrange_55 (by decide) ?_
        refine g_sub [1, 2, 0] rfl ?_
        exact ih _ _ _ h hexit
def L_X0_arrange_2 (b0 : Nat) : Nat → Int32 → Sg → Option (Int32 × Sg)
  | 0, _, _ => none
  | n + 1, x1, σ =>
    if (σ.1 b0 7) ≤ x1 then
    (some (x1, σ))
    else
    (Option.bind (L_X0_arrange_12 b0 x1 FU x1 σ) (fun o2 =>
    if inb o2.1 41 then
    (jn (setR o2.2 (b0 + 7) (upd (o2.2.1 (b0 + 7)) o2.1.toNatClampNeg x1)) (fun σ5 =>
    L_X0_arrange_2 b0 n (x1 + 1) σ5))
    else none))
set_option maxRecDepth 20000 in
set_option maxHeartbeats 4000000 in
theorem l_X0_arrange_2 {X : Ctx} (K : Cok X cX0_arrange 3 RX0) (hR : 0 ≤ X.R.frames ∧ 0 ≤ X.R.locals) {b0 : Nat} (hb0 : isBook b0) :
    ∀ (n : Nat) (x1 : Int32) (σ : Sg) (o : (Int32 × Sg)), L_X0_arrange_2 b0 n x1 σ = some o → G X 3 71 [(0, .ref (X.ad b0)), (1, .int o.1)] [] o.2 → G X 3 2 [(0, .ref (X.ad b0)), (1, .int x1)] [] σ := by
  intro n
  induction n with
  | zero => intro x1 σ o h; exact absurd h (by unfold L_X0_arrange_2; intro h; cases h)
  | succ n ih =>
    intro x1 σ o h hexit
    unfold L_X0_arrange_2 at h
    refine g_iload_n K 1 dX0_arrange_2 rfl rfl ?_
    refine g_aload_n K 0 dX0_arrange_3 rfl rfl ?_
    refine g_get (v := .int (σ.1 b0 7)) K (e_Book (bk_k0 hb0)) (bk_l0 hb0) rfl 7 (by decide) rfl fw_X0_43 u_X0 dX0_arrange_4 ?_
    refine g_icmp_ge (tgt := 71) K dX0_arrange_7 (by decide) (fun c1 => ?_) (fun c1 => ?_)
    · replace h := bp c1 h
      refine g_sub [0, 1] rfl ?_
      obtain rfl := Option.some.inj h
      exact hexit
    · replace h := bn c1 h
      refine g_iload_n K 1 dX0_arrange_10 rfl rfl ?_
      refine g_istore_n (lv' := [(2, .int x1), (0, .ref (X.ad b0)), (1, .int x1)]) K dX0_arrange_11 rfl (by decide) rfl ?_
      obtain ⟨o2, e3, h⟩ := ob h
      refine g_sub [1, 2, 0] rfl ?_
      refine l_X0_arrange_12 K hR hb0 _ _ _ _ e3 ?_
      refine g_aload_n K 0 dX0_arrange_58 rfl rfl ?_
      refine g_get (v := .ref (X.ad (b0 + 7))) K (e_Book (bk_k0 hb0)) (bk_l0 hb0) rfl 6 (by decide) rfl fw_X0_30 u_X0 dX0_arrange_59 ?_
      refine g_iload_n K 2 dX0_arrange_62 rfl rfl ?_
      refine g_iload_n K 1 dX0_arrange_63 rfl rfl ?_
      obtain ⟨g4, h⟩ := og h
      refine g_iast K (bk_k7 hb0) (bk_l7 hb0) g4 dX0_arrange_64 (fun σ5 s6 => ?_)
      replace h := jn_at s6 h
      refine g_iinc (lv' := [(1, .int (x1 + 1)), (0, .ref (X.ad b0)), (2, .int o2.1)]) K 1 dX0_arrange_65 rfl (by rw [ic_1]) (by decide) rfl ?_
      refine g_goto (tgt := 2) K dX0_arrange_68 (by decide) ?_
      refine g_sub [1, 0] rfl ?_
      exact ih _ _ _ h hexit
def f_X0_arrange (b0 : Nat) (σ : Sg) : Option Sg :=
  Option.bind (L_X0_arrange_2 b0 FU 0 σ) (fun o1 =>
  some o1.2)
set_option maxRecDepth 20000 in
set_option maxHeartbeats 4000000 in
theorem w_X0_arrange {X : Ctx} (K : Cok X cX0_arrange 3 RX0) (hR : 0 ≤ X.R.frames ∧ 0 ≤ X.R.locals) {b0 : Nat} {σ : Sg} (hb0 : isBook b0) {r : Sg} (h : f_X0_arrange b0 σ = some r) (hr : RV X cX0_arrange 3 r) : G X 3 0 [(0, .ref (X.ad b0))] [] σ := by
  unfold f_X0_arrange at h
  refine g_iconst (v := 0) K dX0_arrange_0 ic_0 ?_
  refine g_istore_n (lv' := [(1, .int 0), (0, .ref (X.ad b0))]) K dX0_arrange_1 rfl (by decide) rfl ?_
  obtain ⟨o1, e2, h⟩ := ob h
  refine g_sub [1, 0] rfl ?_
  refine l_X0_arrange_2 K hR hb0 _ _ _ _ e2 ?_
  exact hr _ _ _ dX0_arrange_71 (rt2 h)
theorem m_X0_arrange {b0 : Nat} {σ : Sg} (hb0 : isBook b0) {r : Sg} (h : f_X0_arrange b0 σ = some r) : CV yX0_arrange cX0_arrange 3 none 0 0 (fun ad => [.ref (ad b0)]) σ r :=
  CV.of (by decide) (fun _ => Nat.le_of_ble_eq_true rfl) (fun X K hR hr => w_X0_arrange K hR hb0 h hr)
def f_X0_append (b0 : Nat) (x1 : Int32) (x2 : Int32) (x3 : Int32) (x4 : Int32) (x5 : Int32) (x6 : Int32) (σ : Sg) : Option Sg :=
  if (σ.1 b0 7) < 41 then
  (if inb (σ.1 b0 7) 41 then
  (jn (setR σ (b0 + 1) (upd (σ.1 (b0 + 1)) (σ.1 b0 7).toNatClampNeg x1)) (fun σ3 =>
  if inb (σ3.1 b0 7) 41 then
  (jn (setR σ3 (b0 + 2) (upd (σ3.1 (b0 + 2)) (σ3.1 b0 7).toNatClampNeg x2)) (fun σ6 =>
  if inb (σ6.1 b0 7) 41 then
  (jn (setR σ6 (b0 + 3) (upd (σ6.1 (b0 + 3)) (σ6.1 b0 7).toNatClampNeg x3)) (fun σ9 =>
  if inb (σ9.1 b0 7) 41 then
  (jn (setR σ9 (b0 + 4) (upd (σ9.1 (b0 + 4)) (σ9.1 b0 7).toNatClampNeg x4)) (fun σ12 =>
  if inb (σ12.1 b0 7) 41 then
  (jn (setR σ12 (b0 + 5) (upd (σ12.1 (b0 + 5)) (σ12.1 b0 7).toNatClampNeg x5)) (fun σ15 =>
  if inb (σ15.1 b0 7) 41 then
  (jn (setR σ15 (b0 + 6) (upd (σ15.1 (b0 + 6)) (σ15.1 b0 7).toNatClampNeg x6)) (fun σ18 =>
  jn (setR σ18 b0 (upd (σ18.1 b0) 7 ((σ18.1 b0 7) + 1))) (fun σ20 =>
  Option.bind (f_X0_arrange b0 σ20) (fun q22 =>
  some q22))))
  else none))
  else none))
  else none))
  else none))
  else none))
  else none)
  else
  (some (σ))
set_option maxRecDepth 20000 in
set_option maxHeartbeats 4000000 in
theorem w_X0_append {X : Ctx} (K : Cok X cX0_append 7 RX0) (hR : 1 ≤ X.R.frames ∧ 22 ≤ X.R.locals) {b0 : Nat} {x1 : Int32} {x2 : Int32} {x3 : Int32} {x4 : Int32} {x5 : Int32} {x6 : Int32} {σ : Sg} (hb0 : isBook b0) {r : Sg} (h : f_X0_append b0 x1 x2 x3 x4 x5 x6 σ = some r) (hr : RV X cX0_append 7 r) : G X 7 0 [(0, .ref (X.ad b0)), (1, .int x1), (2, .int x2), (3, .int x3), (4, .int x4), (5, .int x5), (6, .int x6)] [] σ := by
  unfold f_X0_append at h
  refine g_aload_n K 0 dX0_append_0 rfl rfl ?_
  refine g_get (v := .int (σ.1 b0 7)) K (e_Book (bk_k0 hb0)) (bk_l0 hb0) rfl 7 (by decide) rfl fw_X0_43 u_X0 dX0_append_1 ?_
  refine g_bipush (v := 41) K dX0_append_4 bp_41 ?_
  refine g_icmp_lt (tgt := 10) K dX0_append_6 (by decide) (fun c1 => ?_) (fun c1 => ?_)
  · replace h := bp c1 h
    refine g_aload_n K 0 dX0_append_10 rfl rfl ?_
    refine g_get (v := .ref (X.ad (b0 + 1))) K (e_Book (bk_k0 hb0)) (bk_l0 hb0) rfl 0 (by decide) rfl fw_X0_11 u_X0 dX0_append_11 ?_
    refine g_aload_n K 0 dX0_append_14 rfl rfl ?_
    refine g_get (v := .int (σ.1 b0 7)) K (e_Book (bk_k0 hb0)) (bk_l0 hb0) rfl 7 (by decide) rfl fw_X0_43 u_X0 dX0_append_15 ?_
    refine g_iload_n K 1 dX0_append_18 rfl rfl ?_
    obtain ⟨g2, h⟩ := og h
    refine g_iast K (bk_k1 hb0) (bk_l1 hb0) g2 dX0_append_19 (fun σ3 s4 => ?_)
    replace h := jn_at s4 h
    refine g_aload_n K 0 dX0_append_20 rfl rfl ?_
    refine g_get (v := .ref (X.ad (b0 + 2))) K (e_Book (bk_k0 hb0)) (bk_l0 hb0) rfl 1 (by decide) rfl fw_X0_15 u_X0 dX0_append_21 ?_
    refine g_aload_n K 0 dX0_append_24 rfl rfl ?_
    refine g_get (v := .int (σ3.1 b0 7)) K (e_Book (bk_k0 hb0)) (bk_l0 hb0) rfl 7 (by decide) rfl fw_X0_43 u_X0 dX0_append_25 ?_
    refine g_iload_n K 2 dX0_append_28 rfl rfl ?_
    obtain ⟨g5, h⟩ := og h
    refine g_iast K (bk_k2 hb0) (bk_l2 hb0) g5 dX0_append_29 (fun σ6 s7 => ?_)
    replace h := jn_at s7 h
    refine g_aload_n K 0 dX0_append_30 rfl rfl ?_
    refine g_get (v := .ref (X.ad (b0 + 3))) K (e_Book (bk_k0 hb0)) (bk_l0 hb0) rfl 2 (by decide) rfl fw_X0_18 u_X0 dX0_append_31 ?_
    refine g_aload_n K 0 dX0_append_34 rfl rfl ?_
    refine g_get (v := .int (σ6.1 b0 7)) K (e_Book (bk_k0 hb0)) (bk_l0 hb0) rfl 7 (by decide) rfl fw_X0_43 u_X0 dX0_append_35 ?_
    refine g_iload_n K 3 dX0_append_38 rfl rfl ?_
    obtain ⟨g8, h⟩ := og h
    refine g_iast K (bk_k3 hb0) (bk_l3 hb0) g8 dX0_append_39 (fun σ9 s10 => ?_)
    replace h := jn_at s10 h
    refine g_aload_n K 0 dX0_append_40 rfl rfl ?_
    refine g_get (v := .ref (X.ad (b0 + 4))) K (e_Book (bk_k0 hb0)) (bk_l0 hb0) rfl 3 (by decide) rfl fw_X0_21 u_X0 dX0_append_41 ?_
    refine g_aload_n K 0 dX0_append_44 rfl rfl ?_
    refine g_get (v := .int (σ9.1 b0 7)) K (e_Book (bk_k0 hb0)) (bk_l0 hb0) rfl 7 (by decide) rfl fw_X0_43 u_X0 dX0_append_45 ?_
    refine g_iload K 4 dX0_append_48 rfl ?_
    obtain ⟨g11, h⟩ := og h
    refine g_iast K (bk_k4 hb0) (bk_l4 hb0) g11 dX0_append_50 (fun σ12 s13 => ?_)
    replace h := jn_at s13 h
    refine g_aload_n K 0 dX0_append_51 rfl rfl ?_
    refine g_get (v := .ref (X.ad (b0 + 5))) K (e_Book (bk_k0 hb0)) (bk_l0 hb0) rfl 4 (by decide) rfl fw_X0_24 u_X0 dX0_append_52 ?_
    refine g_aload_n K 0 dX0_append_55 rfl rfl ?_
    refine g_get (v := .int (σ12.1 b0 7)) K (e_Book (bk_k0 hb0)) (bk_l0 hb0) rfl 7 (by decide) rfl fw_X0_43 u_X0 dX0_append_56 ?_
    refine g_iload K 5 dX0_append_59 rfl ?_
    obtain ⟨g14, h⟩ := og h
    refine g_iast K (bk_k5 hb0) (bk_l5 hb0) g14 dX0_append_61 (fun σ15 s16 => ?_)
    replace h := jn_at s16 h
    refine g_aload_n K 0 dX0_append_62 rfl rfl ?_
    refine g_get (v := .ref (X.ad (b0 + 6))) K (e_Book (bk_k0 hb0)) (bk_l0 hb0) rfl 5 (by decide) rfl fw_X0_27 u_X0 dX0_append_63 ?_
    refine g_aload_n K 0 dX0_append_66 rfl rfl ?_
    refine g_get (v := .int (σ15.1 b0 7)) K (e_Book (bk_k0 hb0)) (bk_l0 hb0) rfl 7 (by decide) rfl fw_X0_43 u_X0 dX0_append_67 ?_
    refine g_iload K 6 dX0_append_70 rfl ?_
    obtain ⟨g17, h⟩ := og h
    refine g_iast K (bk_k6 hb0) (bk_l6 hb0) g17 dX0_append_72 (fun σ18 s19 => ?_)
    replace h := jn_at s19 h
    refine g_aload_n K 0 dX0_append_73 rfl rfl ?_
    refine g_dup K dX0_append_74 rfl ?_
    refine g_get (v := .int (σ18.1 b0 7)) K (e_Book (bk_k0 hb0)) (bk_l0 hb0) rfl 7 (by decide) rfl fw_X0_43 u_X0 dX0_append_75 ?_
    refine g_iconst (v := 1) K dX0_append_78 ic_1 ?_
    refine g_iadd K dX0_append_79 ?_
    refine g_put (f' := (upd (σ18.1 b0) 7 ((σ18.1 b0 7) + 1))) K (e_Book (bk_k0 hb0)) (bk_l0 hb0) rfl 7 (by decide) (e_Book (bk_k0 hb0)) tyX0 tyX0_ok nmX0 rfl (ty := .int) (by decide +kernel) rfl rfl (by decide) fw_X0_43 u_X0 dX0_append_80 (fun σ20 s21 => ?_)
    replace h := jn_at s21 h
    refine g_aload_n K 0 dX0_append_83 rfl rfl ?_
    obtain ⟨q22, e23, h⟩ := ob h
    refine g_cvv (As := []) (rest := []) K (m_X0_arrange hb0 e23) yv_X0_arrange ml_X0_46 rfl rfl rfl (e_Book (bk_k0 hb0)) (bk_l0 hb0) rfl rfl ⟨Nat.le_trans (Nat.le_of_ble_eq_true rfl) hR.1, Nat.le_trans (Nat.le_of_ble_eq_true rfl) hR.2⟩ (Nat.le_of_ble_eq_true rfl) dX0_append_84 ?_
    exact hr _ _ _ dX0_append_87 (rt2 h)
  · replace h := bn c1 h
    exact hr _ _ _ dX0_append_9 (rt2 h)
theorem m_X0_append {b0 : Nat} {x1 : Int32} {x2 : Int32} {x3 : Int32} {x4 : Int32} {x5 : Int32} {x6 : Int32} {σ : Sg} (hb0 : isBook b0) {r : Sg} (h : f_X0_append b0 x1 x2 x3 x4 x5 x6 σ = some r) : CV yX0_append cX0_append 7 none 1 22 (fun ad => [.ref (ad b0), .int x1, .int x2, .int x3, .int x4, .int x5, .int x6]) σ r :=
  CV.of (by decide) (fun _ => Nat.le_of_ble_eq_true rfl) (fun X K hR hr => w_X0_append K hR hb0 h hr)
def f_X0_closeGap (b0 : Nat) (b1 : Nat) (x2 : Int32) (σ : Sg) : Option Sg :=
  if (0 ≤ Int32.toInt (x2 + 1) ∧ 0 ≤ Int32.toInt x2 ∧ 0 ≤ Int32.toInt (((σ.1 b0 7) - x2) - 1)) ∧ Int32.toInt (x2 + 1) + Int32.toInt (((σ.1 b0 7) - x2) - 1) ≤ 41 ∧ Int32.toInt x2 + Int32.toInt (((σ.1 b0 7) - x2) - 1) ≤ 41 then
  (jn (setR σ b1 (va_cpy (σ.1 b1) (σ.1 b1) (x2 + 1).toNatClampNeg x2.toNatClampNeg (((σ.1 b0 7) - x2) - 1).toNatClampNeg)) (fun σ2 =>
  some (σ2)))
  else none
set_option maxRecDepth 20000 in
set_option maxHeartbeats 4000000 in
theorem w_X0_closeGap {X : Ctx} (K : Cok X cX0_closeGap 3 RX0) (hR : 1 ≤ X.R.frames ∧ 26 ≤ X.R.locals) {b0 : Nat} {b1 : Nat} {x2 : Int32} {σ : Sg} (hb0 : isBook b0) (hb1 : kd b1 = (0, 41)) (hc1 : b1 < NN) {r : Sg} (h : f_X0_closeGap b0 b1 x2 σ = some r) (hr : RV X cX0_closeGap 3 r) : G X 3 0 [(0, .ref (X.ad b0)), (1, .ref (X.ad b1)), (2, .int x2)] [] σ := by
  unfold f_X0_closeGap at h
  refine g_aload_n K 1 dX0_closeGap_0 rfl rfl ?_
  refine g_iload_n K 2 dX0_closeGap_1 rfl rfl ?_
  refine g_iconst (v := 1) K dX0_closeGap_2 ic_1 ?_
  refine g_iadd K dX0_closeGap_3 ?_
  refine g_aload_n K 1 dX0_closeGap_4 rfl rfl ?_
  refine g_iload_n K 2 dX0_closeGap_5 rfl rfl ?_
  refine g_aload_n K 0 dX0_closeGap_6 rfl rfl ?_
  refine g_get (v := .int (σ.1 b0 7)) K (e_Book (bk_k0 hb0)) (bk_l0 hb0) rfl 7 (by decide) rfl fw_X0_43 u_X0 dX0_closeGap_7 ?_
  refine g_iload_n K 2 dX0_closeGap_10 rfl rfl ?_
  refine g_isub K dX0_closeGap_11 ?_
  refine g_iconst (v := 1) K dX0_closeGap_12 ic_1 ?_
  refine g_isub K dX0_closeGap_13 ?_
  obtain ⟨g1, h⟩ := og h
  refine g_copy K hb1 hc1 hb1 hc1 g1 ml_X0_53 ac_native ac_static ac_init (Nat.le_trans (Nat.le_of_ble_eq_true rfl) hR.1) (Nat.le_trans (Nat.le_of_ble_eq_true rfl) hR.2) dX0_closeGap_14 (fun σ2 s3 => ?_)
  replace h := jn_at s3 h
  exact hr _ _ _ dX0_closeGap_17 (rt2 h)
theorem m_X0_closeGap {b0 : Nat} {b1 : Nat} {x2 : Int32} {σ : Sg} (hb0 : isBook b0) (hb1 : kd b1 = (0, 41)) (hc1 : b1 < NN) {r : Sg} (h : f_X0_closeGap b0 b1 x2 σ = some r) : CV yX0_closeGap cX0_closeGap 3 none 1 26 (fun ad => [.ref (ad b0), .ref (ad b1), .int x2]) σ r :=
  CV.of (by decide) (fun _ => Nat.le_of_ble_eq_true rfl) (fun X K hR hr => w_X0_closeGap K hR hb0 hb1 hc1 h hr)
def f_X0_strike (b0 : Nat) (x1 : Int32) (σ : Sg) : Option Sg :=
  if x1 < 0 then
  (some (σ))
  else
  (if x1 < (σ.1 b0 7) then
  (Option.bind (f_X0_closeGap b0 (b0 + 1) x1 σ) (fun q3 =>
  Option.bind (f_X0_closeGap b0 (b0 + 2) x1 q3) (fun q5 =>
  Option.bind (f_X0_closeGap b0 (b0 + 3) x1 q5) (fun q7 =>
  Option.bind (f_X0_closeGap b0 (b0 + 4) x1 q7) (fun q9 =>
  Option.bind (f_X0_closeGap b0 (b0 + 5) x1 q9) (fun q11 =>
  Option.bind (f_X0_closeGap b0 (b0 + 6) x1 q11) (fun q13 =>
  jn (setR q13 b0 (upd (q13.1 b0) 7 ((q13.1 b0 7) - 1))) (fun σ15 =>
  Option.bind (f_X0_arrange b0 σ15) (fun q17 =>
  some q17)))))))))
  else
  (some (σ)))
set_option maxRecDepth 20000 in
set_option maxHeartbeats 4000000 in
theorem w_X0_strike {X : Ctx} (K : Cok X cX0_strike 2 RX0) (hR : 2 ≤ X.R.frames ∧ 48 ≤ X.R.locals) {b0 : Nat} {x1 : Int32} {σ : Sg} (hb0 : isBook b0) {r : Sg} (h : f_X0_strike b0 x1 σ = some r) (hr : RV X cX0_strike 2 r) : G X 2 0 [(0, .ref (X.ad b0)), (1, .int x1)] [] σ := by
  unfold f_X0_strike at h
  refine g_iload_n K 1 dX0_strike_0 rfl rfl ?_
  refine g_if_lt (tgt := 12) K dX0_strike_1 (by decide) (fun c1 => ?_) (fun c1 => ?_)
  · replace h := bp c1 h
    exact hr _ _ _ dX0_strike_12 (rt2 h)
  · replace h := bn c1 h
    refine g_iload_n K 1 dX0_strike_4 rfl rfl ?_
    refine g_aload_n K 0 dX0_strike_5 rfl rfl ?_
    refine g_get (v := .int (σ.1 b0 7)) K (e_Book (bk_k0 hb0)) (bk_l0 hb0) rfl 7 (by decide) rfl fw_X0_43 u_X0 dX0_strike_6 ?_
    refine g_icmp_lt (tgt := 13) K dX0_strike_9 (by decide) (fun c2 => ?_) (fun c2 => ?_)
    · replace h := bp c2 h
      refine g_aload_n K 0 dX0_strike_13 rfl rfl ?_
      refine g_aload_n K 0 dX0_strike_14 rfl rfl ?_
      refine g_get (v := .ref (X.ad (b0 + 1))) K (e_Book (bk_k0 hb0)) (bk_l0 hb0) rfl 0 (by decide) rfl fw_X0_11 u_X0 dX0_strike_15 ?_
      refine g_iload_n K 1 dX0_strike_18 rfl rfl ?_
      obtain ⟨q3, e4, h⟩ := ob h
      refine g_cvv (As := [.ref (X.ad (b0 + 1)), .int x1]) (rest := []) K (m_X0_closeGap hb0 (bk_k1 hb0) (bk_l1 hb0) e4) yv_X0_closeGap ml_X0_49 rfl rfl rfl (e_Book (bk_k0 hb0)) (bk_l0 hb0) rfl rfl ⟨Nat.le_trans (Nat.le_of_ble_eq_true rfl) hR.1, Nat.le_trans (Nat.le_of_ble_eq_true rfl) hR.2⟩ (Nat.le_of_ble_eq_true rfl) dX0_strike_19 ?_
      refine g_aload_n K 0 dX0_strike_22 rfl rfl ?_
      refine g_aload_n K 0 dX0_strike_23 rfl rfl ?_
      refine g_get (v := .ref (X.ad (b0 + 2))) K (e_Book (bk_k0 hb0)) (bk_l0 hb0) rfl 1 (by decide) rfl fw_X0_15 u_X0 dX0_strike_24 ?_
      refine g_iload_n K 1 dX0_strike_27 rfl rfl ?_
      obtain ⟨q5, e6, h⟩ := ob h
      refine g_cvv (As := [.ref (X.ad (b0 + 2)), .int x1]) (rest := []) K (m_X0_closeGap hb0 (bk_k2 hb0) (bk_l2 hb0) e6) yv_X0_closeGap ml_X0_49 rfl rfl rfl (e_Book (bk_k0 hb0)) (bk_l0 hb0) rfl rfl ⟨Nat.le_trans (Nat.le_of_ble_eq_true rfl) hR.1, Nat.le_trans (Nat.le_of_ble_eq_true rfl) hR.2⟩ (Nat.le_of_ble_eq_true rfl) dX0_strike_28 ?_
      refine g_aload_n K 0 dX0_strike_31 rfl rfl ?_
      refine g_aload_n K 0 dX0_strike_32 rfl rfl ?_
      refine g_get (v := .ref (X.ad (b0 + 3))) K (e_Book (bk_k0 hb0)) (bk_l0 hb0) rfl 2 (by decide) rfl fw_X0_18 u_X0 dX0_strike_33 ?_
      refine g_iload_n K 1 dX0_strike_36 rfl rfl ?_
      obtain ⟨q7, e8, h⟩ := ob h
      refine g_cvv (As := [.ref (X.ad (b0 + 3)), .int x1]) (rest := []) K (m_X0_closeGap hb0 (bk_k3 hb0) (bk_l3 hb0) e8) yv_X0_closeGap ml_X0_49 rfl rfl rfl (e_Book (bk_k0 hb0)) (bk_l0 hb0) rfl rfl ⟨Nat.le_trans (Nat.le_of_ble_eq_true rfl) hR.1, Nat.le_trans (Nat.le_of_ble_eq_true rfl) hR.2⟩ (Nat.le_of_ble_eq_true rfl) dX0_strike_37 ?_
      refine g_aload_n K 0 dX0_strike_40 rfl rfl ?_
      refine g_aload_n K 0 dX0_strike_41 rfl rfl ?_
      refine g_get (v := .ref (X.ad (b0 + 4))) K (e_Book (bk_k0 hb0)) (bk_l0 hb0) rfl 3 (by decide) rfl fw_X0_21 u_X0 dX0_strike_42 ?_
      refine g_iload_n K 1 dX0_strike_45 rfl rfl ?_
      obtain ⟨q9, e10, h⟩ := ob h
      refine g_cvv (As := [.ref (X.ad (b0 + 4)), .int x1]) (rest := []) K (m_X0_closeGap hb0 (bk_k4 hb0) (bk_l4 hb0) e10) yv_X0_closeGap ml_X0_49 rfl rfl rfl (e_Book (bk_k0 hb0)) (bk_l0 hb0) rfl rfl ⟨Nat.le_trans (Nat.le_of_ble_eq_true rfl) hR.1, Nat.le_trans (Nat.le_of_ble_eq_true rfl) hR.2⟩ (Nat.le_of_ble_eq_true rfl) dX0_strike_46 ?_
      refine g_aload_n K 0 dX0_strike_49 rfl rfl ?_
      refine g_aload_n K 0 dX0_strike_50 rfl rfl ?_
      refine g_get (v := .ref (X.ad (b0 + 5))) K (e_Book (bk_k0 hb0)) (bk_l0 hb0) rfl 4 (by decide) rfl fw_X0_24 u_X0 dX0_strike_51 ?_
      refine g_iload_n K 1 dX0_strike_54 rfl rfl ?_
      obtain ⟨q11, e12, h⟩ := ob h
      refine g_cvv (As := [.ref (X.ad (b0 + 5)), .int x1]) (rest := []) K (m_X0_closeGap hb0 (bk_k5 hb0) (bk_l5 hb0) e12) yv_X0_closeGap ml_X0_49 rfl rfl rfl (e_Book (bk_k0 hb0)) (bk_l0 hb0) rfl rfl ⟨Nat.le_trans (Nat.le_of_ble_eq_true rfl) hR.1, Nat.le_trans (Nat.le_of_ble_eq_true rfl) hR.2⟩ (Nat.le_of_ble_eq_true rfl) dX0_strike_55 ?_
      refine g_aload_n K 0 dX0_strike_58 rfl rfl ?_
      refine g_aload_n K 0 dX0_strike_59 rfl rfl ?_
      refine g_get (v := .ref (X.ad (b0 + 6))) K (e_Book (bk_k0 hb0)) (bk_l0 hb0) rfl 5 (by decide) rfl fw_X0_27 u_X0 dX0_strike_60 ?_
      refine g_iload_n K 1 dX0_strike_63 rfl rfl ?_
      obtain ⟨q13, e14, h⟩ := ob h
      refine g_cvv (As := [.ref (X.ad (b0 + 6)), .int x1]) (rest := []) K (m_X0_closeGap hb0 (bk_k6 hb0) (bk_l6 hb0) e14) yv_X0_closeGap ml_X0_49 rfl rfl rfl (e_Book (bk_k0 hb0)) (bk_l0 hb0) rfl rfl ⟨Nat.le_trans (Nat.le_of_ble_eq_true rfl) hR.1, Nat.le_trans (Nat.le_of_ble_eq_true rfl) hR.2⟩ (Nat.le_of_ble_eq_true rfl) dX0_strike_64 ?_
      refine g_aload_n K 0 dX0_strike_67 rfl rfl ?_
      refine g_dup K dX0_strike_68 rfl ?_
      refine g_get (v := .int (q13.1 b0 7)) K (e_Book (bk_k0 hb0)) (bk_l0 hb0) rfl 7 (by decide) rfl fw_X0_43 u_X0 dX0_strike_69 ?_
      refine g_iconst (v := 1) K dX0_strike_72 ic_1 ?_
      refine g_isub K dX0_strike_73 ?_
      refine g_put (f' := (upd (q13.1 b0) 7 ((q13.1 b0 7) - 1))) K (e_Book (bk_k0 hb0)) (bk_l0 hb0) rfl 7 (by decide) (e_Book (bk_k0 hb0)) tyX0 tyX0_ok nmX0 rfl (ty := .int) (by decide +kernel) rfl rfl (by decide) fw_X0_43 u_X0 dX0_strike_74 (fun σ15 s16 => ?_)
      replace h := jn_at s16 h
      refine g_aload_n K 0 dX0_strike_77 rfl rfl ?_
      obtain ⟨q17, e18, h⟩ := ob h
      refine g_cvv (As := []) (rest := []) K (m_X0_arrange hb0 e18) yv_X0_arrange ml_X0_46 rfl rfl rfl (e_Book (bk_k0 hb0)) (bk_l0 hb0) rfl rfl ⟨Nat.le_trans (Nat.le_of_ble_eq_true rfl) hR.1, Nat.le_trans (Nat.le_of_ble_eq_true rfl) hR.2⟩ (Nat.le_of_ble_eq_true rfl) dX0_strike_78 ?_
      exact hr _ _ _ dX0_strike_81 (rt2 h)
    · replace h := bn c2 h
      exact hr _ _ _ dX0_strike_12 (rt2 h)
theorem m_X0_strike {b0 : Nat} {x1 : Int32} {σ : Sg} (hb0 : isBook b0) {r : Sg} (h : f_X0_strike b0 x1 σ = some r) : CV yX0_strike cX0_strike 2 none 2 48 (fun ad => [.ref (ad b0), .int x1]) σ r :=
  CV.of (by decide) (fun _ => Nat.le_of_ble_eq_true rfl) (fun X K hR hr => w_X0_strike K hR hb0 h hr)
def L_X0_placeOf_2 (b0 : Nat) (x1 : Int32) (σ : Sg) : Nat → Int32 → Option ((Int32) ⊕ (Int32))
  | 0, _ => none
  | n + 1, x2 =>
    if (σ.1 b0 7) ≤ x2 then
    (some (.inr x2))
    else
    (if inb x2 41 then
    (if (σ.1 (b0 + 7) x2.toNatClampNeg) = x1 then
    (some (.inl x2))
    else
    (L_X0_placeOf_2 b0 x1 σ n (x2 + 1)))
    else none)
set_option maxRecDepth 20000 in
set_option maxHeartbeats 4000000 in
theorem l_X0_placeOf_2 {X : Ctx} (K : Cok X cX0_placeOf 3 RX0) (hR : 0 ≤ X.R.frames ∧ 0 ≤ X.R.locals) {res : Int32 × Sg} (hr : RI X cX0_placeOf 3 res) {b0 : Nat} {x1 : Int32} {σ : Sg} (hb0 : isBook b0) :
    ∀ (n : Nat) (x2 : Int32) (o : ((Int32) ⊕ (Int32))), L_X0_placeOf_2 b0 x1 σ n x2 = some o → (∀ q, o = .inl q → (q, σ) = res) → (∀ q, o = .inr q → G X 3 28 [(0, .ref (X.ad b0)), (1, .int x1), (2, .int q)] [] σ) → G X 3 2 [(0, .ref (X.ad b0)), (1, .int x1), (2, .int x2)] [] σ := by
  intro n
  induction n with
  | zero => intro x2 o h; exact absurd h (by unfold L_X0_placeOf_2; intro h; cases h)
  | succ n ih =>
    intro x2 o h hret hexit
    unfold L_X0_placeOf_2 at h
    refine g_iload_n K 2 dX0_placeOf_2 rfl rfl ?_
    refine g_aload_n K 0 dX0_placeOf_3 rfl rfl ?_
    refine g_get (v := .int (σ.1 b0 7)) K (e_Book (bk_k0 hb0)) (bk_l0 hb0) rfl 7 (by decide) rfl fw_X0_43 u_X0 dX0_placeOf_4 ?_
    refine g_icmp_ge (tgt := 28) K dX0_placeOf_7 (by decide) (fun c1 => ?_) (fun c1 => ?_)
    · replace h := bp c1 h
      refine g_sub [0, 1, 2] rfl ?_
      exact hexit _ (Option.some.inj h).symm
    · replace h := bn c1 h
      refine g_aload_n K 0 dX0_placeOf_10 rfl rfl ?_
      refine g_get (v := .ref (X.ad (b0 + 7))) K (e_Book (bk_k0 hb0)) (bk_l0 hb0) rfl 6 (by decide) rfl fw_X0_30 u_X0 dX0_placeOf_11 ?_
      refine g_iload_n K 2 dX0_placeOf_14 rfl rfl ?_
      obtain ⟨g2, h⟩ := og h
      refine g_iald K (bk_k7 hb0) (bk_l7 hb0) g2 dX0_placeOf_15 ?_
      refine g_iload_n K 1 dX0_placeOf_16 rfl rfl ?_
      refine g_icmp_ne (tgt := 22) K dX0_placeOf_17 (by decide) (fun c3 => ?_) (fun c3 => ?_)
      · replace h := bn c3 h
        refine g_iinc (lv' := [(2, .int (x2 + 1)), (0, .ref (X.ad b0)), (1, .int x1)]) K 2 dX0_placeOf_22 rfl (by rw [ic_1]) (by decide) rfl ?_
        refine g_goto (tgt := 2) K dX0_placeOf_25 (by decide) ?_
        refine g_sub [1, 2, 0] rfl ?_
        exact ih _ _ h hret hexit
      · replace h := bp c3 h
        refine g_iload_n K 2 dX0_placeOf_20 rfl rfl ?_
        exact hr _ _ _ _ dX0_placeOf_21 (hret _ (Option.some.inj h).symm)
def f_X0_placeOf (b0 : Nat) (x1 : Int32) (σ : Sg) : Option Int32 :=
  Option.bind (L_X0_placeOf_2 b0 x1 σ FU 0) (fun o1 => Sum.elim (fun x => some x) (fun o1 =>
  some (-6)) o1)
set_option maxRecDepth 20000 in
set_option maxHeartbeats 4000000 in
theorem w_X0_placeOf {X : Ctx} (K : Cok X cX0_placeOf 3 RX0) (hR : 0 ≤ X.R.frames ∧ 0 ≤ X.R.locals) {b0 : Nat} {x1 : Int32} {σ : Sg} (hb0 : isBook b0) {r : Int32} (h : f_X0_placeOf b0 x1 σ = some r) (hr : RI X cX0_placeOf 3 (r, σ)) : G X 3 0 [(0, .ref (X.ad b0)), (1, .int x1)] [] σ := by
  unfold f_X0_placeOf at h
  refine g_iconst (v := 0) K dX0_placeOf_0 ic_0 ?_
  refine g_istore_n (lv' := [(2, .int 0), (0, .ref (X.ad b0)), (1, .int x1)]) K dX0_placeOf_1 rfl (by decide) rfl ?_
  obtain ⟨o1, e2, h⟩ := ob h
  refine g_sub [1, 2, 0] rfl ?_
  refine l_X0_placeOf_2 K hR hr hb0 _ _ _ e2 (fun x hx => ?_) (fun o1 hx => ?_)
  · subst hx
    exact rt1 h
  · subst hx
    dsimp only [Sum.elim_inr] at h
    refine g_bipush (v := (-6)) K dX0_placeOf_28 bp_m6 ?_
    exact hr _ _ _ _ dX0_placeOf_30 (rt1 h)
theorem m_X0_placeOf {b0 : Nat} {x1 : Int32} {σ : Sg} (hb0 : isBook b0) {r : Int32} (h : f_X0_placeOf b0 x1 σ = some r) : CI yX0_placeOf cX0_placeOf 3 (some .int) 0 0 (fun ad => [.ref (ad b0), .int x1]) σ r σ :=
  CI.of (by decide) (fun _ => Nat.le_of_ble_eq_true rfl) (fun X K hR hr => w_X0_placeOf K hR hb0 h hr)
def L_X0_doneBy_4 (b0 : Nat) (x1 : Int32) (σ : Sg) : Nat → Int32 → Int32 → Option (Int32 × Int32)
  | 0, _, _ => none
  | n + 1, x2, x3 =>
    if (σ.1 b0 7) ≤ x3 then
    (some (x2, x3))
    else
    (if inb x3 41 then
    (jn (if x1 < (σ.1 (b0 + 1) x3.toNatClampNeg) then (0) else (1) : Int32) (fun v5 =>
    L_X0_doneBy_4 b0 x1 σ n (x2 + (f_X6_asNumber v5)) (x3 + 1)))
    else none)
set_option maxRecDepth 20000 in
set_option maxHeartbeats 4000000 in
theorem l_X0_doneBy_4 {X : Ctx} (K : Cok X cX0_doneBy 4 RX0) (hR : 1 ≤ X.R.frames ∧ 20 ≤ X.R.locals) {b0 : Nat} {x1 : Int32} {σ : Sg} (hb0 : isBook b0) :
    ∀ (n : Nat) (x2 : Int32) (x3 : Int32) (o : (Int32 × Int32)), L_X0_doneBy_4 b0 x1 σ n x2 x3 = some o → G X 4 39 [(0, .ref (X.ad b0)), (1, .int x1), (2, .int o.1), (3, .int o.2)] [] σ → G X 4 4 [(0, .ref (X.ad b0)), (1, .int x1), (2, .int x2), (3, .int x3)] [] σ := by
  intro n
  induction n with
  | zero => intro x2 x3 o h; exact absurd h (by unfold L_X0_doneBy_4; intro h; cases h)
  | succ n ih =>
    intro x2 x3 o h hexit
    unfold L_X0_doneBy_4 at h
    refine g_iload_n K 3 dX0_doneBy_4 rfl rfl ?_
    refine g_aload_n K 0 dX0_doneBy_5 rfl rfl ?_
    refine g_get (v := .int (σ.1 b0 7)) K (e_Book (bk_k0 hb0)) (bk_l0 hb0) rfl 7 (by decide) rfl fw_X0_43 u_X0 dX0_doneBy_6 ?_
    refine g_icmp_ge (tgt := 39) K dX0_doneBy_9 (by decide) (fun c1 => ?_) (fun c1 => ?_)
    · replace h := bp c1 h
      refine g_sub [0, 1, 2, 3] rfl ?_
      obtain rfl := Option.some.inj h
      exact hexit
    · replace h := bn c1 h
      refine g_iload_n K 2 dX0_doneBy_12 rfl rfl ?_
      refine g_aload_n K 0 dX0_doneBy_13 rfl rfl ?_
      refine g_get (v := .ref (X.ad (b0 + 1))) K (e_Book (bk_k0 hb0)) (bk_l0 hb0) rfl 0 (by decide) rfl fw_X0_11 u_X0 dX0_doneBy_14 ?_
      refine g_iload_n K 3 dX0_doneBy_17 rfl rfl ?_
      obtain ⟨g2, h⟩ := og h
      refine g_iald K (bk_k1 hb0) (bk_l1 hb0) g2 dX0_doneBy_18 ?_
      refine g_iload_n K 1 dX0_doneBy_19 rfl rfl ?_
      refine jn_cut h (P := (fun v5 => G X 4 28 [(0, .ref (X.ad b0)), (1, .int x1), (2, .int x2), (3, .int x3)] [.int v5, .int x2] σ)) (fun v5 h => ?_) (fun tail_4 => ?_)
      · refine g_cni (As := [.int v5]) (rest := [.int x2]) K (m_X6_asNumber v5 σ) yv_X6_asNumber ne_X0_62 rfl rfl rfl ⟨Nat.le_trans (Nat.le_of_ble_eq_true rfl) hR.1, Nat.le_trans (Nat.le_of_ble_eq_true rfl) hR.2⟩ (Nat.le_of_ble_eq_true rfl) dX0_doneBy_28 ?_
        refine g_iadd K dX0_doneBy_31 ?_
        refine g_istore_n (lv' := [(2, .int (x2 + (f_X6_asNumber v5))), (0, .ref (X.ad b0)), (1, .int x1), (3, .int x3)]) K dX0_doneBy_32 rfl (by decide) rfl ?_
        refine g_iinc (lv' := [(3, .int (x3 + 1)), (2, .int (x2 + (f_X6_asNumber v5))), (0, .ref (X.ad b0)), (1, .int x1)]) K 3 dX0_doneBy_33 rfl (by rw [ic_1]) (by decide) rfl ?_
        refine g_goto (tgt := 4) K dX0_doneBy_36 (by decide) ?_
        refine g_sub [2, 3, 1, 0] rfl ?_
        exact ih _ _ _ h hexit
      · refine g_icmp_gt (tgt := 27) K dX0_doneBy_20 (by decide) (fun c6 => ?_) (fun c6 => ?_)
        · replace h := jpp c6 h
          refine g_iconst (v := 0) K dX0_doneBy_27 ic_0 ?_
          exact tail_4 _ h
        · replace h := jpn c6 h
          refine g_iconst (v := 1) K dX0_doneBy_23 ic_1 ?_
          refine g_goto (tgt := 28) K dX0_doneBy_24 (by decide) ?_
          exact tail_4 _ h
def f_X0_doneBy (b0 : Nat) (x1 : Int32) (σ : Sg) : Option Int32 :=
  Option.bind (L_X0_doneBy_4 b0 x1 σ FU 0 0) (fun o1 =>
  some o1.1)
set_option maxRecDepth 20000 in
set_option maxHeartbeats 4000000 in
theorem w_X0_doneBy {X : Ctx} (K : Cok X cX0_doneBy 4 RX0) (hR : 1 ≤ X.R.frames ∧ 20 ≤ X.R.locals) {b0 : Nat} {x1 : Int32} {σ : Sg} (hb0 : isBook b0) {r : Int32} (h : f_X0_doneBy b0 x1 σ = some r) (hr : RI X cX0_doneBy 4 (r, σ)) : G X 4 0 [(0, .ref (X.ad b0)), (1, .int x1)] [] σ := by
  unfold f_X0_doneBy at h
  refine g_iconst (v := 0) K dX0_doneBy_0 ic_0 ?_
  refine g_istore_n (lv' := [(2, .int 0), (0, .ref (X.ad b0)), (1, .int x1)]) K dX0_doneBy_1 rfl (by decide) rfl ?_
  refine g_iconst (v := 0) K dX0_doneBy_2 ic_0 ?_
  refine g_istore_n (lv' := [(3, .int 0), (2, .int 0), (0, .ref (X.ad b0)), (1, .int x1)]) K dX0_doneBy_3 rfl (by decide) rfl ?_
  obtain ⟨o1, e2, h⟩ := ob h
  refine g_sub [2, 3, 1, 0] rfl ?_
  refine l_X0_doneBy_4 K hR hb0 _ _ _ _ e2 ?_
  refine g_iload_n K 2 dX0_doneBy_39 rfl rfl ?_
  exact hr _ _ _ _ dX0_doneBy_40 (rt1 h)
theorem m_X0_doneBy {b0 : Nat} {x1 : Int32} {σ : Sg} (hb0 : isBook b0) {r : Int32} (h : f_X0_doneBy b0 x1 σ = some r) : CI yX0_doneBy cX0_doneBy 4 (some .int) 1 20 (fun ad => [.ref (ad b0), .int x1]) σ r σ :=
  CI.of (by decide) (fun _ => Nat.le_of_ble_eq_true rfl) (fun X K hR hr => w_X0_doneBy K hR hb0 h hr)
def f_X0_isLastOfItsDay (b0 : Nat) (x1 : Int32) (σ : Sg) : Option Int32 :=
  if (σ.1 b0 7) ≤ (x1 + 1) then
  (some 1)
  else
  (if inb (x1 + 1) 41 then
  (if inb (σ.1 (b0 + 7) (x1 + 1).toNatClampNeg) 41 then
  (if inb x1 41 then
  (if inb (σ.1 (b0 + 7) x1.toNatClampNeg) 41 then
  (if (σ.1 (b0 + 1) (σ.1 (b0 + 7) (x1 + 1).toNatClampNeg).toNatClampNeg) = (σ.1 (b0 + 1) (σ.1 (b0 + 7) x1.toNatClampNeg).toNatClampNeg) then
  (some 0)
  else
  (some 1))
  else none)
  else none)
  else none)
  else none)
set_option maxRecDepth 20000 in
set_option maxHeartbeats 4000000 in
theorem w_X0_isLastOfItsDay {X : Ctx} (K : Cok X cX0_isLastOfItsDay 2 RX0) (hR : 0 ≤ X.R.frames ∧ 0 ≤ X.R.locals) {b0 : Nat} {x1 : Int32} {σ : Sg} (hb0 : isBook b0) {r : Int32} (h : f_X0_isLastOfItsDay b0 x1 σ = some r) (hr : RZ X cX0_isLastOfItsDay 2 (r, σ)) : G X 2 0 [(0, .ref (X.ad b0)), (1, .int x1)] [] σ := by
  unfold f_X0_isLastOfItsDay at h
  refine g_iload_n K 1 dX0_isLastOfItsDay_0 rfl rfl ?_
  refine g_iconst (v := 1) K dX0_isLastOfItsDay_1 ic_1 ?_
  refine g_iadd K dX0_isLastOfItsDay_2 ?_
  refine g_aload_n K 0 dX0_isLastOfItsDay_3 rfl rfl ?_
  refine g_get (v := .int (σ.1 b0 7)) K (e_Book (bk_k0 hb0)) (bk_l0 hb0) rfl 7 (by decide) rfl fw_X0_43 u_X0 dX0_isLastOfItsDay_4 ?_
  refine g_icmp_ge (tgt := 37) K dX0_isLastOfItsDay_7 (by decide) (fun c1 => ?_) (fun c1 => ?_)
  · replace h := bp c1 h
    refine g_iconst (v := 1) K dX0_isLastOfItsDay_37 ic_1 ?_
    refine g_goto (tgt := 42) K dX0_isLastOfItsDay_38 (by decide) ?_
    exact hr _ _ _ _ dX0_isLastOfItsDay_42 (rt1 h) nb_1
  · replace h := bn c1 h
    refine g_aload_n K 0 dX0_isLastOfItsDay_10 rfl rfl ?_
    refine g_get (v := .ref (X.ad (b0 + 1))) K (e_Book (bk_k0 hb0)) (bk_l0 hb0) rfl 0 (by decide) rfl fw_X0_11 u_X0 dX0_isLastOfItsDay_11 ?_
    refine g_aload_n K 0 dX0_isLastOfItsDay_14 rfl rfl ?_
    refine g_get (v := .ref (X.ad (b0 + 7))) K (e_Book (bk_k0 hb0)) (bk_l0 hb0) rfl 6 (by decide) rfl fw_X0_30 u_X0 dX0_isLastOfItsDay_15 ?_
    refine g_iload_n K 1 dX0_isLastOfItsDay_18 rfl rfl ?_
    refine g_iconst (v := 1) K dX0_isLastOfItsDay_19 ic_1 ?_
    refine g_iadd K dX0_isLastOfItsDay_20 ?_
    obtain ⟨g2, h⟩ := og h
    refine g_iald K (bk_k7 hb0) (bk_l7 hb0) g2 dX0_isLastOfItsDay_21 ?_
    obtain ⟨g3, h⟩ := og h
    refine g_iald K (bk_k1 hb0) (bk_l1 hb0) g3 dX0_isLastOfItsDay_22 ?_
    refine g_aload_n K 0 dX0_isLastOfItsDay_23 rfl rfl ?_
    refine g_get (v := .ref (X.ad (b0 + 1))) K (e_Book (bk_k0 hb0)) (bk_l0 hb0) rfl 0 (by decide) rfl fw_X0_11 u_X0 dX0_isLastOfItsDay_24 ?_
    refine g_aload_n K 0 dX0_isLastOfItsDay_27 rfl rfl ?_
    refine g_get (v := .ref (X.ad (b0 + 7))) K (e_Book (bk_k0 hb0)) (bk_l0 hb0) rfl 6 (by decide) rfl fw_X0_30 u_X0 dX0_isLastOfItsDay_28 ?_
    refine g_iload_n K 1 dX0_isLastOfItsDay_31 rfl rfl ?_
    obtain ⟨g4, h⟩ := og h
    refine g_iald K (bk_k7 hb0) (bk_l7 hb0) g4 dX0_isLastOfItsDay_32 ?_
    obtain ⟨g5, h⟩ := og h
    refine g_iald K (bk_k1 hb0) (bk_l1 hb0) g5 dX0_isLastOfItsDay_33 ?_
    refine g_icmp_eq (tgt := 41) K dX0_isLastOfItsDay_34 (by decide) (fun c6 => ?_) (fun c6 => ?_)
    · replace h := bp c6 h
      refine g_iconst (v := 0) K dX0_isLastOfItsDay_41 ic_0 ?_
      exact hr _ _ _ _ dX0_isLastOfItsDay_42 (rt1 h) nb_0
    · replace h := bn c6 h
      refine g_iconst (v := 1) K dX0_isLastOfItsDay_37 ic_1 ?_
      refine g_goto (tgt := 42) K dX0_isLastOfItsDay_38 (by decide) ?_
      exact hr _ _ _ _ dX0_isLastOfItsDay_42 (rt1 h) nb_1
theorem m_X0_isLastOfItsDay {b0 : Nat} {x1 : Int32} {σ : Sg} (hb0 : isBook b0) {r : Int32} (h : f_X0_isLastOfItsDay b0 x1 σ = some r) : CI yX0_isLastOfItsDay cX0_isLastOfItsDay 2 (some .boolean) 0 0 (fun ad => [.ref (ad b0), .int x1]) σ r σ :=
  CZ.of (by decide) (fun _ => Nat.le_of_ble_eq_true rfl) (fun X K hR hr => w_X0_isLastOfItsDay K hR hb0 h hr)
def f_X0_copyFrom (b0 : Nat) (b1 : Nat) (σ : Sg) : Option Sg :=
  if (0 ≤ Int32.toInt 0 ∧ 0 ≤ Int32.toInt 0 ∧ 0 ≤ Int32.toInt 41) ∧ Int32.toInt 0 + Int32.toInt 41 ≤ 41 ∧ Int32.toInt 0 + Int32.toInt 41 ≤ 41 then
  (jn (setR σ (b0 + 1) (va_cpy (σ.1 (b1 + 1)) (σ.1 (b0 + 1)) (0 : Int32).toNatClampNeg (0 : Int32).toNatClampNeg (41 : Int32).toNatClampNeg)) (fun σ2 =>
  if (0 ≤ Int32.toInt 0 ∧ 0 ≤ Int32.toInt 0 ∧ 0 ≤ Int32.toInt 41) ∧ Int32.toInt 0 + Int32.toInt 41 ≤ 41 ∧ Int32.toInt 0 + Int32.toInt 41 ≤ 41 then
  (jn (setR σ2 (b0 + 2) (va_cpy (σ2.1 (b1 + 2)) (σ2.1 (b0 + 2)) (0 : Int32).toNatClampNeg (0 : Int32).toNatClampNeg (41 : Int32).toNatClampNeg)) (fun σ5 =>
  if (0 ≤ Int32.toInt 0 ∧ 0 ≤ Int32.toInt 0 ∧ 0 ≤ Int32.toInt 41) ∧ Int32.toInt 0 + Int32.toInt 41 ≤ 41 ∧ Int32.toInt 0 + Int32.toInt 41 ≤ 41 then
  (jn (setR σ5 (b0 + 3) (va_cpy (σ5.1 (b1 + 3)) (σ5.1 (b0 + 3)) (0 : Int32).toNatClampNeg (0 : Int32).toNatClampNeg (41 : Int32).toNatClampNeg)) (fun σ8 =>
  if (0 ≤ Int32.toInt 0 ∧ 0 ≤ Int32.toInt 0 ∧ 0 ≤ Int32.toInt 41) ∧ Int32.toInt 0 + Int32.toInt 41 ≤ 41 ∧ Int32.toInt 0 + Int32.toInt 41 ≤ 41 then
  (jn (setR σ8 (b0 + 4) (va_cpy (σ8.1 (b1 + 4)) (σ8.1 (b0 + 4)) (0 : Int32).toNatClampNeg (0 : Int32).toNatClampNeg (41 : Int32).toNatClampNeg)) (fun σ11 =>
  if (0 ≤ Int32.toInt 0 ∧ 0 ≤ Int32.toInt 0 ∧ 0 ≤ Int32.toInt 41) ∧ Int32.toInt 0 + Int32.toInt 41 ≤ 41 ∧ Int32.toInt 0 + Int32.toInt 41 ≤ 41 then
  (jn (setR σ11 (b0 + 5) (va_cpy (σ11.1 (b1 + 5)) (σ11.1 (b0 + 5)) (0 : Int32).toNatClampNeg (0 : Int32).toNatClampNeg (41 : Int32).toNatClampNeg)) (fun σ14 =>
  if (0 ≤ Int32.toInt 0 ∧ 0 ≤ Int32.toInt 0 ∧ 0 ≤ Int32.toInt 41) ∧ Int32.toInt 0 + Int32.toInt 41 ≤ 41 ∧ Int32.toInt 0 + Int32.toInt 41 ≤ 41 then
  (jn (setR σ14 (b0 + 6) (va_cpy (σ14.1 (b1 + 6)) (σ14.1 (b0 + 6)) (0 : Int32).toNatClampNeg (0 : Int32).toNatClampNeg (41 : Int32).toNatClampNeg)) (fun σ17 =>
  if (0 ≤ Int32.toInt 0 ∧ 0 ≤ Int32.toInt 0 ∧ 0 ≤ Int32.toInt 41) ∧ Int32.toInt 0 + Int32.toInt 41 ≤ 41 ∧ Int32.toInt 0 + Int32.toInt 41 ≤ 41 then
  (jn (setR σ17 (b0 + 7) (va_cpy (σ17.1 (b1 + 7)) (σ17.1 (b0 + 7)) (0 : Int32).toNatClampNeg (0 : Int32).toNatClampNeg (41 : Int32).toNatClampNeg)) (fun σ20 =>
  jn (setR σ20 b0 (upd (σ20.1 b0) 7 (σ20.1 b1 7))) (fun σ22 =>
  jn (setR σ22 b0 (upd (σ22.1 b0) 8 (σ22.1 b1 8))) (fun σ24 =>
  jn (setR σ24 b0 (upd (σ24.1 b0) 9 (σ24.1 b1 9))) (fun σ26 =>
  jn (setR σ26 b0 (upd (σ26.1 b0) 10 (σ26.1 b1 10))) (fun σ28 =>
  jn (setR σ28 b0 (upd (σ28.1 b0) 11 (σ28.1 b1 11))) (fun σ30 =>
  some (σ30))))))))
  else none))
  else none))
  else none))
  else none))
  else none))
  else none))
  else none
set_option maxRecDepth 20000 in
set_option maxHeartbeats 4000000 in
theorem w_X0_copyFrom {X : Ctx} (K : Cok X cX0_copyFrom 2 RX0) (hR : 1 ≤ X.R.frames ∧ 26 ≤ X.R.locals) {b0 : Nat} {b1 : Nat} {σ : Sg} (hb0 : isBook b0) (hb1 : isBook b1) {r : Sg} (h : f_X0_copyFrom b0 b1 σ = some r) (hr : RV X cX0_copyFrom 2 r) : G X 2 0 [(0, .ref (X.ad b0)), (1, .ref (X.ad b1))] [] σ := by
  unfold f_X0_copyFrom at h
  refine g_aload_n K 1 dX0_copyFrom_0 rfl rfl ?_
  refine g_get (v := .ref (X.ad (b1 + 1))) K (e_Book (bk_k0 hb1)) (bk_l0 hb1) rfl 0 (by decide) rfl fw_X0_11 u_X0 dX0_copyFrom_1 ?_
  refine g_iconst (v := 0) K dX0_copyFrom_4 ic_0 ?_
  refine g_aload_n K 0 dX0_copyFrom_5 rfl rfl ?_
  refine g_get (v := .ref (X.ad (b0 + 1))) K (e_Book (bk_k0 hb0)) (bk_l0 hb0) rfl 0 (by decide) rfl fw_X0_11 u_X0 dX0_copyFrom_6 ?_
  refine g_iconst (v := 0) K dX0_copyFrom_9 ic_0 ?_
  refine g_bipush (v := 41) K dX0_copyFrom_10 bp_41 ?_
  obtain ⟨g1, h⟩ := og h
  refine g_copy K (bk_k1 hb1) (bk_l1 hb1) (bk_k1 hb0) (bk_l1 hb0) g1 ml_X0_53 ac_native ac_static ac_init (Nat.le_trans (Nat.le_of_ble_eq_true rfl) hR.1) (Nat.le_trans (Nat.le_of_ble_eq_true rfl) hR.2) dX0_copyFrom_12 (fun σ2 s3 => ?_)
  replace h := jn_at s3 h
  refine g_aload_n K 1 dX0_copyFrom_15 rfl rfl ?_
  refine g_get (v := .ref (X.ad (b1 + 2))) K (e_Book (bk_k0 hb1)) (bk_l0 hb1) rfl 1 (by decide) rfl fw_X0_15 u_X0 dX0_copyFrom_16 ?_
  refine g_iconst (v := 0) K dX0_copyFrom_19 ic_0 ?_
  refine g_aload_n K 0 dX0_copyFrom_20 rfl rfl ?_
  refine g_get (v := .ref (X.ad (b0 + 2))) K (e_Book (bk_k0 hb0)) (bk_l0 hb0) rfl 1 (by decide) rfl fw_X0_15 u_X0 dX0_copyFrom_21 ?_
  refine g_iconst (v := 0) K dX0_copyFrom_24 ic_0 ?_
  refine g_bipush (v := 41) K dX0_copyFrom_25 bp_41 ?_
  obtain ⟨g4, h⟩ := og h
  refine g_copy K (bk_k2 hb1) (bk_l2 hb1) (bk_k2 hb0) (bk_l2 hb0) g4 ml_X0_53 ac_native ac_static ac_init (Nat.le_trans (Nat.le_of_ble_eq_true rfl) hR.1) (Nat.le_trans (Nat.le_of_ble_eq_true rfl) hR.2) dX0_copyFrom_27 (fun σ5 s6 => ?_)
  replace h := jn_at s6 h
  refine g_aload_n K 1 dX0_copyFrom_30 rfl rfl ?_
  refine g_get (v := .ref (X.ad (b1 + 3))) K (e_Book (bk_k0 hb1)) (bk_l0 hb1) rfl 2 (by decide) rfl fw_X0_18 u_X0 dX0_copyFrom_31 ?_
  refine g_iconst (v := 0) K dX0_copyFrom_34 ic_0 ?_
  refine g_aload_n K 0 dX0_copyFrom_35 rfl rfl ?_
  refine g_get (v := .ref (X.ad (b0 + 3))) K (e_Book (bk_k0 hb0)) (bk_l0 hb0) rfl 2 (by decide) rfl fw_X0_18 u_X0 dX0_copyFrom_36 ?_
  refine g_iconst (v := 0) K dX0_copyFrom_39 ic_0 ?_
  refine g_bipush (v := 41) K dX0_copyFrom_40 bp_41 ?_
  obtain ⟨g7, h⟩ := og h
  refine g_copy K (bk_k3 hb1) (bk_l3 hb1) (bk_k3 hb0) (bk_l3 hb0) g7 ml_X0_53 ac_native ac_static ac_init (Nat.le_trans (Nat.le_of_ble_eq_true rfl) hR.1) (Nat.le_trans (Nat.le_of_ble_eq_true rfl) hR.2) dX0_copyFrom_42 (fun σ8 s9 => ?_)
  replace h := jn_at s9 h
  refine g_aload_n K 1 dX0_copyFrom_45 rfl rfl ?_
  refine g_get (v := .ref (X.ad (b1 + 4))) K (e_Book (bk_k0 hb1)) (bk_l0 hb1) rfl 3 (by decide) rfl fw_X0_21 u_X0 dX0_copyFrom_46 ?_
  refine g_iconst (v := 0) K dX0_copyFrom_49 ic_0 ?_
  refine g_aload_n K 0 dX0_copyFrom_50 rfl rfl ?_
  refine g_get (v := .ref (X.ad (b0 + 4))) K (e_Book (bk_k0 hb0)) (bk_l0 hb0) rfl 3 (by decide) rfl fw_X0_21 u_X0 dX0_copyFrom_51 ?_
  refine g_iconst (v := 0) K dX0_copyFrom_54 ic_0 ?_
  refine g_bipush (v := 41) K dX0_copyFrom_55 bp_41 ?_
  obtain ⟨g10, h⟩ := og h
  refine g_copy K (bk_k4 hb1) (bk_l4 hb1) (bk_k4 hb0) (bk_l4 hb0) g10 ml_X0_53 ac_native ac_static ac_init (Nat.le_trans (Nat.le_of_ble_eq_true rfl) hR.1) (Nat.le_trans (Nat.le_of_ble_eq_true rfl) hR.2) dX0_copyFrom_57 (fun σ11 s12 => ?_)
  replace h := jn_at s12 h
  refine g_aload_n K 1 dX0_copyFrom_60 rfl rfl ?_
  refine g_get (v := .ref (X.ad (b1 + 5))) K (e_Book (bk_k0 hb1)) (bk_l0 hb1) rfl 4 (by decide) rfl fw_X0_24 u_X0 dX0_copyFrom_61 ?_
  refine g_iconst (v := 0) K dX0_copyFrom_64 ic_0 ?_
  refine g_aload_n K 0 dX0_copyFrom_65 rfl rfl ?_
  refine g_get (v := .ref (X.ad (b0 + 5))) K (e_Book (bk_k0 hb0)) (bk_l0 hb0) rfl 4 (by decide) rfl fw_X0_24 u_X0 dX0_copyFrom_66 ?_
  refine g_iconst (v := 0) K dX0_copyFrom_69 ic_0 ?_
  refine g_bipush (v := 41) K dX0_copyFrom_70 bp_41 ?_
  obtain ⟨g13, h⟩ := og h
  refine g_copy K (bk_k5 hb1) (bk_l5 hb1) (bk_k5 hb0) (bk_l5 hb0) g13 ml_X0_53 ac_native ac_static ac_init (Nat.le_trans (Nat.le_of_ble_eq_true rfl) hR.1) (Nat.le_trans (Nat.le_of_ble_eq_true rfl) hR.2) dX0_copyFrom_72 (fun σ14 s15 => ?_)
  replace h := jn_at s15 h
  refine g_aload_n K 1 dX0_copyFrom_75 rfl rfl ?_
  refine g_get (v := .ref (X.ad (b1 + 6))) K (e_Book (bk_k0 hb1)) (bk_l0 hb1) rfl 5 (by decide) rfl fw_X0_27 u_X0 dX0_copyFrom_76 ?_
  refine g_iconst (v := 0) K dX0_copyFrom_79 ic_0 ?_
  refine g_aload_n K 0 dX0_copyFrom_80 rfl rfl ?_
  refine g_get (v := .ref (X.ad (b0 + 6))) K (e_Book (bk_k0 hb0)) (bk_l0 hb0) rfl 5 (by decide) rfl fw_X0_27 u_X0 dX0_copyFrom_81 ?_
  refine g_iconst (v := 0) K dX0_copyFrom_84 ic_0 ?_
  refine g_bipush (v := 41) K dX0_copyFrom_85 bp_41 ?_
  obtain ⟨g16, h⟩ := og h
  refine g_copy K (bk_k6 hb1) (bk_l6 hb1) (bk_k6 hb0) (bk_l6 hb0) g16 ml_X0_53 ac_native ac_static ac_init (Nat.le_trans (Nat.le_of_ble_eq_true rfl) hR.1) (Nat.le_trans (Nat.le_of_ble_eq_true rfl) hR.2) dX0_copyFrom_87 (fun σ17 s18 => ?_)
  replace h := jn_at s18 h
  refine g_aload_n K 1 dX0_copyFrom_90 rfl rfl ?_
  refine g_get (v := .ref (X.ad (b1 + 7))) K (e_Book (bk_k0 hb1)) (bk_l0 hb1) rfl 6 (by decide) rfl fw_X0_30 u_X0 dX0_copyFrom_91 ?_
  refine g_iconst (v := 0) K dX0_copyFrom_94 ic_0 ?_
  refine g_aload_n K 0 dX0_copyFrom_95 rfl rfl ?_
  refine g_get (v := .ref (X.ad (b0 + 7))) K (e_Book (bk_k0 hb0)) (bk_l0 hb0) rfl 6 (by decide) rfl fw_X0_30 u_X0 dX0_copyFrom_96 ?_
  refine g_iconst (v := 0) K dX0_copyFrom_99 ic_0 ?_
  refine g_bipush (v := 41) K dX0_copyFrom_100 bp_41 ?_
  obtain ⟨g19, h⟩ := og h
  refine g_copy K (bk_k7 hb1) (bk_l7 hb1) (bk_k7 hb0) (bk_l7 hb0) g19 ml_X0_53 ac_native ac_static ac_init (Nat.le_trans (Nat.le_of_ble_eq_true rfl) hR.1) (Nat.le_trans (Nat.le_of_ble_eq_true rfl) hR.2) dX0_copyFrom_102 (fun σ20 s21 => ?_)
  replace h := jn_at s21 h
  refine g_aload_n K 0 dX0_copyFrom_105 rfl rfl ?_
  refine g_aload_n K 1 dX0_copyFrom_106 rfl rfl ?_
  refine g_get (v := .int (σ20.1 b1 7)) K (e_Book (bk_k0 hb1)) (bk_l0 hb1) rfl 7 (by decide) rfl fw_X0_43 u_X0 dX0_copyFrom_107 ?_
  refine g_put (f' := (upd (σ20.1 b0) 7 (σ20.1 b1 7))) K (e_Book (bk_k0 hb0)) (bk_l0 hb0) rfl 7 (by decide) (e_Book (bk_k0 hb0)) tyX0 tyX0_ok nmX0 rfl (ty := .int) (by decide +kernel) rfl rfl (by decide) fw_X0_43 u_X0 dX0_copyFrom_110 (fun σ22 s23 => ?_)
  replace h := jn_at s23 h
  refine g_aload_n K 0 dX0_copyFrom_113 rfl rfl ?_
  refine g_aload_n K 1 dX0_copyFrom_114 rfl rfl ?_
  refine g_get (v := .int (σ22.1 b1 8)) K (e_Book (bk_k0 hb1)) (bk_l0 hb1) rfl 8 (by decide) rfl fw_X0_59 u_X0 dX0_copyFrom_115 ?_
  refine g_put (f' := (upd (σ22.1 b0) 8 (σ22.1 b1 8))) K (e_Book (bk_k0 hb0)) (bk_l0 hb0) rfl 8 (by decide) (e_Book (bk_k0 hb0)) tyX0 tyX0_ok nmX0 rfl (ty := .int) (by decide +kernel) rfl rfl (by decide) fw_X0_59 u_X0 dX0_copyFrom_118 (fun σ24 s25 => ?_)
  replace h := jn_at s25 h
  refine g_aload_n K 0 dX0_copyFrom_121 rfl rfl ?_
  refine g_aload_n K 1 dX0_copyFrom_122 rfl rfl ?_
  refine g_get (v := .int (σ24.1 b1 9)) K (e_Book (bk_k0 hb1)) (bk_l0 hb1) rfl 9 (by decide) rfl fw_X0_33 u_X0 dX0_copyFrom_123 ?_
  refine g_put (f' := (upd (σ24.1 b0) 9 (σ24.1 b1 9))) K (e_Book (bk_k0 hb0)) (bk_l0 hb0) rfl 9 (by decide) (e_Book (bk_k0 hb0)) tyX0 tyX0_ok nmX0 rfl (ty := .int) (by decide +kernel) rfl rfl (by decide) fw_X0_33 u_X0 dX0_copyFrom_126 (fun σ26 s27 => ?_)
  replace h := jn_at s27 h
  refine g_aload_n K 0 dX0_copyFrom_129 rfl rfl ?_
  refine g_aload_n K 1 dX0_copyFrom_130 rfl rfl ?_
  refine g_get (v := .int (σ26.1 b1 10)) K (e_Book (bk_k0 hb1)) (bk_l0 hb1) rfl 10 (by decide) rfl fw_X0_37 u_X0 dX0_copyFrom_131 ?_
  refine g_put (f' := (upd (σ26.1 b0) 10 (σ26.1 b1 10))) K (e_Book (bk_k0 hb0)) (bk_l0 hb0) rfl 10 (by decide) (e_Book (bk_k0 hb0)) tyX0 tyX0_ok nmX0 rfl (ty := .int) (by decide +kernel) rfl rfl (by decide) fw_X0_37 u_X0 dX0_copyFrom_134 (fun σ28 s29 => ?_)
  replace h := jn_at s29 h
  refine g_aload_n K 0 dX0_copyFrom_137 rfl rfl ?_
  refine g_aload_n K 1 dX0_copyFrom_138 rfl rfl ?_
  refine g_get (v := .int (σ28.1 b1 11)) K (e_Book (bk_k0 hb1)) (bk_l0 hb1) rfl 11 (by decide) rfl fw_X0_40 u_X0 dX0_copyFrom_139 ?_
  refine g_put (f' := (upd (σ28.1 b0) 11 (σ28.1 b1 11))) K (e_Book (bk_k0 hb0)) (bk_l0 hb0) rfl 11 (by decide) (e_Book (bk_k0 hb0)) tyX0 tyX0_ok nmX0 rfl (ty := .int) (by decide +kernel) rfl rfl (by decide) fw_X0_40 u_X0 dX0_copyFrom_142 (fun σ30 s31 => ?_)
  replace h := jn_at s31 h
  exact hr _ _ _ dX0_copyFrom_145 (rt2 h)
theorem m_X0_copyFrom {b0 : Nat} {b1 : Nat} {σ : Sg} (hb0 : isBook b0) (hb1 : isBook b1) {r : Sg} (h : f_X0_copyFrom b0 b1 σ = some r) : CV yX0_copyFrom cX0_copyFrom 2 none 1 26 (fun ad => [.ref (ad b0), .ref (ad b1)]) σ r :=
  CV.of (by decide) (fun _ => Nat.le_of_ble_eq_true rfl) (fun X K hR hr => w_X0_copyFrom K hR hb0 hb1 h hr)
def L_X0_unlikeDay_4 (b0 : Nat) (x1 : Int32) (σ : Sg) : Nat → Int32 → Int32 → Option ((Int32) ⊕ (Int32 × Int32))
  | 0, _, _ => none
  | n + 1, x2, x3 =>
    if (σ.1 b0 7) ≤ x3 then
    (some (.inr (x2, x3)))
    else
    (Option.bind (f_X0_isLastOfItsDay b0 x3 σ) (fun r2 =>
    if r2 = 0 then
    (L_X0_unlikeDay_4 b0 x1 σ n x2 (x3 + 1))
    else
    (if x2 = x1 then
    (if inb x3 41 then
    (if inb (σ.1 (b0 + 7) x3.toNatClampNeg) 41 then
    (some (.inl ((σ.1 (b0 + 1) (σ.1 (b0 + 7) x3.toNatClampNeg).toNatClampNeg))))
    else none)
    else none)
    else
    (L_X0_unlikeDay_4 b0 x1 σ n (x2 + 1) (x3 + 1)))))
set_option maxRecDepth 20000 in
set_option maxHeartbeats 4000000 in
theorem l_X0_unlikeDay_4 {X : Ctx} (K : Cok X cX0_unlikeDay 4 RX0) (hR : 1 ≤ X.R.frames ∧ 21 ≤ X.R.locals) {res : Int32 × Sg} (hr : RI X cX0_unlikeDay 4 res) {b0 : Nat} {x1 : Int32} {σ : Sg} (hb0 : isBook b0) :
    ∀ (n : Nat) (x2 : Int32) (x3 : Int32) (o : ((Int32) ⊕ (Int32 × Int32))), L_X0_unlikeDay_4 b0 x1 σ n x2 x3 = some o → (∀ q, o = .inl q → (q, σ) = res) → (∀ q, o = .inr q → G X 4 46 [(0, .ref (X.ad b0)), (1, .int x1), (2, .int q.1), (3, .int q.2)] [] σ) → G X 4 4 [(0, .ref (X.ad b0)), (1, .int x1), (2, .int x2), (3, .int x3)] [] σ := by
  intro n
  induction n with
  | zero => intro x2 x3 o h; exact absurd h (by unfold L_X0_unlikeDay_4; intro h; cases h)
  | succ n ih =>
    intro x2 x3 o h hret hexit
    unfold L_X0_unlikeDay_4 at h
    refine g_iload_n K 3 dX0_unlikeDay_4 rfl rfl ?_
    refine g_aload_n K 0 dX0_unlikeDay_5 rfl rfl ?_
    refine g_get (v := .int (σ.1 b0 7)) K (e_Book (bk_k0 hb0)) (bk_l0 hb0) rfl 7 (by decide) rfl fw_X0_43 u_X0 dX0_unlikeDay_6 ?_
    refine g_icmp_ge (tgt := 46) K dX0_unlikeDay_9 (by decide) (fun c1 => ?_) (fun c1 => ?_)
    · replace h := bp c1 h
      refine g_sub [0, 1, 2, 3] rfl ?_
      exact hexit _ (Option.some.inj h).symm
    · replace h := bn c1 h
      refine g_aload_n K 0 dX0_unlikeDay_12 rfl rfl ?_
      refine g_iload_n K 3 dX0_unlikeDay_13 rfl rfl ?_
      obtain ⟨r2, e3, h⟩ := ob h
      refine g_cvi (As := [.int x3]) (rest := []) K (m_X0_isLastOfItsDay hb0 e3) yv_X0_isLastOfItsDay ml_X0_66 rfl rfl rfl (e_Book (bk_k0 hb0)) (bk_l0 hb0) rfl rfl ⟨Nat.le_trans (Nat.le_of_ble_eq_true rfl) hR.1, Nat.le_trans (Nat.le_of_ble_eq_true rfl) hR.2⟩ (Nat.le_of_ble_eq_true rfl) dX0_unlikeDay_14 ?_
      refine g_if_eq (tgt := 40) K dX0_unlikeDay_17 (by decide) (fun c4 => ?_) (fun c4 => ?_)
      · replace h := bp c4 h
        refine g_iinc (lv' := [(3, .int (x3 + 1)), (0, .ref (X.ad b0)), (1, .int x1), (2, .int x2)]) K 3 dX0_unlikeDay_40 rfl (by rw [ic_1]) (by decide) rfl ?_
        refine g_goto (tgt := 4) K dX0_unlikeDay_43 (by decide) ?_
        refine g_sub [1, 2, 3, 0] rfl ?_
        exact ih _ _ _ h hret hexit
      · replace h := bn c4 h
        refine g_iload_n K 2 dX0_unlikeDay_20 rfl rfl ?_
        refine g_iload_n K 1 dX0_unlikeDay_21 rfl rfl ?_
        refine g_icmp_ne (tgt := 37) K dX0_unlikeDay_22 (by decide) (fun c5 => ?_) (fun c5 => ?_)
        · replace h := bn c5 h
          refine g_iinc (lv' := [(2, .int (x2 + 1)), (0, .ref (X.ad b0)), (1, .int x1), (3, .int x3)]) K 2 dX0_unlikeDay_37 rfl (by rw [ic_1]) (by decide) rfl ?_
          refine g_iinc (lv' := [(3, .int (x3 + 1)), (2, .int (x2 + 1)), (0, .ref (X.ad b0)), (1, .int x1)]) K 3 dX0_unlikeDay_40 rfl (by rw [ic_1]) (by decide) rfl ?_
          refine g_goto (tgt := 4) K dX0_unlikeDay_43 (by decide) ?_
          refine g_sub [2, 3, 1, 0] rfl ?_
          exact ih _ _ _ h hret hexit
        · replace h := bp c5 h
          refine g_aload_n K 0 dX0_unlikeDay_25 rfl rfl ?_
          refine g_get (v := .ref (X.ad (b0 + 1))) K (e_Book (bk_k0 hb0)) (bk_l0 hb0) rfl 0 (by decide) rfl fw_X0_11 u_X0 dX0_unlikeDay_26 ?_
          refine g_aload_n K 0 dX0_unlikeDay_29 rfl rfl ?_
          refine g_get (v := .ref (X.ad (b0 + 7))) K (e_Book (bk_k0 hb0)) (bk_l0 hb0) rfl 6 (by decide) rfl fw_X0_30 u_X0 dX0_unlikeDay_30 ?_
          refine g_iload_n K 3 dX0_unlikeDay_33 rfl rfl ?_
          obtain ⟨g6, h⟩ := og h
          refine g_iald K (bk_k7 hb0) (bk_l7 hb0) g6 dX0_unlikeDay_34 ?_
          obtain ⟨g7, h⟩ := og h
          refine g_iald K (bk_k1 hb0) (bk_l1 hb0) g7 dX0_unlikeDay_35 ?_
          exact hr _ _ _ _ dX0_unlikeDay_36 (hret _ (Option.some.inj h).symm)
def f_X0_unlikeDay (b0 : Nat) (x1 : Int32) (σ : Sg) : Option Int32 :=
  Option.bind (L_X0_unlikeDay_4 b0 x1 σ FU 0 0) (fun o1 => Sum.elim (fun x => some x) (fun o1 =>
  some (-6)) o1)
set_option maxRecDepth 20000 in
set_option maxHeartbeats 4000000 in
theorem w_X0_unlikeDay {X : Ctx} (K : Cok X cX0_unlikeDay 4 RX0) (hR : 1 ≤ X.R.frames ∧ 21 ≤ X.R.locals) {b0 : Nat} {x1 : Int32} {σ : Sg} (hb0 : isBook b0) {r : Int32} (h : f_X0_unlikeDay b0 x1 σ = some r) (hr : RI X cX0_unlikeDay 4 (r, σ)) : G X 4 0 [(0, .ref (X.ad b0)), (1, .int x1)] [] σ := by
  unfold f_X0_unlikeDay at h
  refine g_iconst (v := 0) K dX0_unlikeDay_0 ic_0 ?_
  refine g_istore_n (lv' := [(2, .int 0), (0, .ref (X.ad b0)), (1, .int x1)]) K dX0_unlikeDay_1 rfl (by decide) rfl ?_
  refine g_iconst (v := 0) K dX0_unlikeDay_2 ic_0 ?_
  refine g_istore_n (lv' := [(3, .int 0), (2, .int 0), (0, .ref (X.ad b0)), (1, .int x1)]) K dX0_unlikeDay_3 rfl (by decide) rfl ?_
  obtain ⟨o1, e2, h⟩ := ob h
  refine g_sub [2, 3, 1, 0] rfl ?_
  refine l_X0_unlikeDay_4 K hR hr hb0 _ _ _ _ e2 (fun x hx => ?_) (fun o1 hx => ?_)
  · subst hx
    exact rt1 h
  · subst hx
    dsimp only [Sum.elim_inr] at h
    refine g_bipush (v := (-6)) K dX0_unlikeDay_46 bp_m6 ?_
    exact hr _ _ _ _ dX0_unlikeDay_48 (rt1 h)
theorem m_X0_unlikeDay {b0 : Nat} {x1 : Int32} {σ : Sg} (hb0 : isBook b0) {r : Int32} (h : f_X0_unlikeDay b0 x1 σ = some r) : CI yX0_unlikeDay cX0_unlikeDay 4 (some .int) 1 21 (fun ad => [.ref (ad b0), .int x1]) σ r σ :=
  CI.of (by decide) (fun _ => Nat.le_of_ble_eq_true rfl) (fun X K hR hr => w_X0_unlikeDay K hR hb0 h hr)
end

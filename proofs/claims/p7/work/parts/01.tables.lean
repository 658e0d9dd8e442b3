-- ===== PART A: goes FIRST, ahead of the names: the tables' words, and 'selects' of the private methods out of them =====
/-- a private method of a class that the tables say can be made, by its rows of tables_1 -/
def lw_okq (q : MethodName × Nat) : Prop := (q.1.cls ≠ "java/lang/invoke/MethodHandle" ∧ q.1.cls ≠ "java/lang/invoke/VarHandle") ∧ Cond.instantiable q.1.cls q.2 ∈ tables_1 ∧ Cond.privateMethod q.1 ∈ tables_1 ∧ Cond.instanceMethod q.1 ∈ tables_1
theorem lw_p0 : lw_okq (⟨"WorthKeeping$Program", "spreadToCallers", "()V"⟩, 6) := ⟨⟨by decide +kernel, by decide +kernel⟩, List.mem_of_getElem? (i := 21) (by decide +kernel), List.mem_of_getElem? (i := 310) (by decide +kernel), List.mem_of_getElem? (i := 311) (by decide +kernel)⟩
theorem lw_p1 : lw_okq (⟨"WorthKeeping$Program", "gatherFromCalled", "(I)V"⟩, 6) := ⟨⟨by decide +kernel, by decide +kernel⟩, List.mem_of_getElem? (i := 21) (by decide +kernel), List.mem_of_getElem? (i := 314) (by decide +kernel), List.mem_of_getElem? (i := 315) (by decide +kernel)⟩
theorem lw_p2 : lw_okq (⟨"WorthKeeping$Machine", "enter", "(ILWorthKeeping$Frame;I)I"⟩, 12) := ⟨⟨by decide +kernel, by decide +kernel⟩, List.mem_of_getElem? (i := 138) (by decide +kernel), List.mem_of_getElem? (i := 391) (by decide +kernel), List.mem_of_getElem? (i := 392) (by decide +kernel)⟩
theorem lw_p3 : lw_okq (⟨"WorthKeeping$Machine", "walk", "(ILWorthKeeping$Frame;I)I"⟩, 12) := ⟨⟨by decide +kernel, by decide +kernel⟩, List.mem_of_getElem? (i := 138) (by decide +kernel), List.mem_of_getElem? (i := 396) (by decide +kernel), List.mem_of_getElem? (i := 397) (by decide +kernel)⟩
theorem lw_p4 : lw_okq (⟨"WorthKeeping$Machine", "perform", "(ILWorthKeeping$Frame;I)I"⟩, 12) := ⟨⟨by decide +kernel, by decide +kernel⟩, List.mem_of_getElem? (i := 138) (by decide +kernel), List.mem_of_getElem? (i := 402) (by decide +kernel), List.mem_of_getElem? (i := 403) (by decide +kernel)⟩
theorem lw_p5 : lw_okq (⟨"WorthKeeping$Machine", "readNumber", "(ILWorthKeeping$Frame;)I"⟩, 12) := ⟨⟨by decide +kernel, by decide +kernel⟩, List.mem_of_getElem? (i := 138) (by decide +kernel), List.mem_of_getElem? (i := 410) (by decide +kernel), List.mem_of_getElem? (i := 411) (by decide +kernel)⟩
theorem lw_p6 : lw_okq (⟨"WorthKeeping$Machine", "readStore", "(ILWorthKeeping$Frame;)I"⟩, 12) := ⟨⟨by decide +kernel, by decide +kernel⟩, List.mem_of_getElem? (i := 138) (by decide +kernel), List.mem_of_getElem? (i := 422) (by decide +kernel), List.mem_of_getElem? (i := 423) (by decide +kernel)⟩
theorem lw_p7 : lw_okq (⟨"WorthKeeping$Machine", "writeStore", "(ILWorthKeeping$Frame;)I"⟩, 12) := ⟨⟨by decide +kernel, by decide +kernel⟩, List.mem_of_getElem? (i := 138) (by decide +kernel), List.mem_of_getElem? (i := 427) (by decide +kernel), List.mem_of_getElem? (i := 428) (by decide +kernel)⟩
theorem lw_p8 : lw_okq (⟨"WorthKeeping$Machine", "callRoutine", "(ILWorthKeeping$Frame;I)I"⟩, 12) := ⟨⟨by decide +kernel, by decide +kernel⟩, List.mem_of_getElem? (i := 138) (by decide +kernel), List.mem_of_getElem? (i := 436) (by decide +kernel), List.mem_of_getElem? (i := 437) (by decide +kernel)⟩
theorem lw_p9 : lw_okq (⟨"WorthKeeping$Machine", "combine", "(ILWorthKeeping$Frame;)I"⟩, 12) := ⟨⟨by decide +kernel, by decide +kernel⟩, List.mem_of_getElem? (i := 138) (by decide +kernel), List.mem_of_getElem? (i := 445) (by decide +kernel), List.mem_of_getElem? (i := 446) (by decide +kernel)⟩
theorem lw_p10 : lw_okq (⟨"WorthKeeping$Machine", "changeEnd", "(ILWorthKeeping$Frame;)I"⟩, 12) := ⟨⟨by decide +kernel, by decide +kernel⟩, List.mem_of_getElem? (i := 138) (by decide +kernel), List.mem_of_getElem? (i := 449) (by decide +kernel), List.mem_of_getElem? (i := 450) (by decide +kernel)⟩
theorem lw_p11 : lw_okq (⟨"WorthKeeping$Keepsake", "numbersAreAlike", "(LWorthKeeping$Frame;)Z"⟩, 11) := ⟨⟨by decide +kernel, by decide +kernel⟩, List.mem_of_getElem? (i := 71) (by decide +kernel), List.mem_of_getElem? (i := 470) (by decide +kernel), List.mem_of_getElem? (i := 471) (by decide +kernel)⟩
theorem lw_p12 : lw_okq (⟨"WorthKeeping$Keepsake", "storesAreAlike", "(LWorthKeeping$World;)Z"⟩, 11) := ⟨⟨by decide +kernel, by decide +kernel⟩, List.mem_of_getElem? (i := 71) (by decide +kernel), List.mem_of_getElem? (i := 476) (by decide +kernel), List.mem_of_getElem? (i := 477) (by decide +kernel)⟩
theorem lw_p13 : lw_okq (⟨"WorthKeeping$Machine", "fits", "(LWorthKeeping$Keepsake;I)Z"⟩, 12) := ⟨⟨by decide +kernel, by decide +kernel⟩, List.mem_of_getElem? (i := 138) (by decide +kernel), List.mem_of_getElem? (i := 490) (by decide +kernel), List.mem_of_getElem? (i := 491) (by decide +kernel)⟩
theorem lw_p14 : lw_okq (⟨"WorthKeeping$Machine", "recall", "(LWorthKeeping$Keepsake;LWorthKeeping$Frame;)I"⟩, 12) := ⟨⟨by decide +kernel, by decide +kernel⟩, List.mem_of_getElem? (i := 138) (by decide +kernel), List.mem_of_getElem? (i := 494) (by decide +kernel), List.mem_of_getElem? (i := 495) (by decide +kernel)⟩
theorem lw_p15 : lw_okq (⟨"WorthKeeping$Shelf", "nextToGo", "()I"⟩, 5) := ⟨⟨by decide +kernel, by decide +kernel⟩, List.mem_of_getElem? (i := 64) (by decide +kernel), List.mem_of_getElem? (i := 506) (by decide +kernel), List.mem_of_getElem? (i := 507) (by decide +kernel)⟩
def lw_privs_1 : List (MethodName × Nat) := [(⟨"WorthKeeping$Program", "spreadToCallers", "()V"⟩, 6), (⟨"WorthKeeping$Program", "gatherFromCalled", "(I)V"⟩, 6), (⟨"WorthKeeping$Machine", "enter", "(ILWorthKeeping$Frame;I)I"⟩, 12), (⟨"WorthKeeping$Machine", "walk", "(ILWorthKeeping$Frame;I)I"⟩, 12), (⟨"WorthKeeping$Machine", "perform", "(ILWorthKeeping$Frame;I)I"⟩, 12), (⟨"WorthKeeping$Machine", "readNumber", "(ILWorthKeeping$Frame;)I"⟩, 12), (⟨"WorthKeeping$Machine", "readStore", "(ILWorthKeeping$Frame;)I"⟩, 12), (⟨"WorthKeeping$Machine", "writeStore", "(ILWorthKeeping$Frame;)I"⟩, 12), (⟨"WorthKeeping$Machine", "callRoutine", "(ILWorthKeeping$Frame;I)I"⟩, 12), (⟨"WorthKeeping$Machine", "combine", "(ILWorthKeeping$Frame;)I"⟩, 12), (⟨"WorthKeeping$Machine", "changeEnd", "(ILWorthKeeping$Frame;)I"⟩, 12), (⟨"WorthKeeping$Keepsake", "numbersAreAlike", "(LWorthKeeping$Frame;)Z"⟩, 11), (⟨"WorthKeeping$Keepsake", "storesAreAlike", "(LWorthKeeping$World;)Z"⟩, 11), (⟨"WorthKeeping$Machine", "fits", "(LWorthKeeping$Keepsake;I)Z"⟩, 12), (⟨"WorthKeeping$Machine", "recall", "(LWorthKeeping$Keepsake;LWorthKeeping$Frame;)I"⟩, 12), (⟨"WorthKeeping$Shelf", "nextToGo", "()I"⟩, 5)]
theorem lw_r1 : ∀ q ∈ lw_privs_1, lw_okq q := List.forall_mem_cons.mpr ⟨lw_p0, List.forall_mem_cons.mpr ⟨lw_p1, List.forall_mem_cons.mpr ⟨lw_p2, List.forall_mem_cons.mpr ⟨lw_p3, List.forall_mem_cons.mpr ⟨lw_p4, List.forall_mem_cons.mpr ⟨lw_p5, List.forall_mem_cons.mpr ⟨lw_p6, List.forall_mem_cons.mpr ⟨lw_p7, List.forall_mem_cons.mpr ⟨lw_p8, List.forall_mem_cons.mpr ⟨lw_p9, List.forall_mem_cons.mpr ⟨lw_p10, List.forall_mem_cons.mpr ⟨lw_p11, List.forall_mem_cons.mpr ⟨lw_p12, List.forall_mem_cons.mpr ⟨lw_p13, List.forall_mem_cons.mpr ⟨lw_p14, List.forall_mem_cons.mpr ⟨lw_p15, fun _ h => absurd h List.not_mem_nil⟩⟩⟩⟩⟩⟩⟩⟩⟩⟩⟩⟩⟩⟩⟩⟩
theorem lw_p16 : lw_okq (⟨"WorthKeeping$Shelf", "goesAheadOf", "(LWorthKeeping$Keepsake;LWorthKeeping$Keepsake;)Z"⟩, 5) := ⟨⟨by decide +kernel, by decide +kernel⟩, List.mem_of_getElem? (i := 64) (by decide +kernel), List.mem_of_getElem? (i := 510) (by decide +kernel), List.mem_of_getElem? (i := 511) (by decide +kernel)⟩
theorem lw_p17 : lw_okq (⟨"WorthKeeping$Shelf", "drop", "(I)V"⟩, 5) := ⟨⟨by decide +kernel, by decide +kernel⟩, List.mem_of_getElem? (i := 64) (by decide +kernel), List.mem_of_getElem? (i := 514) (by decide +kernel), List.mem_of_getElem? (i := 515) (by decide +kernel)⟩
theorem lw_p18 : lw_okq (⟨"WorthKeeping", "tryOut", "(III)I"⟩, 10) := ⟨⟨by decide +kernel, by decide +kernel⟩, List.mem_of_getElem? (i := 13) (by decide +kernel), List.mem_of_getElem? (i := 593) (by decide +kernel), List.mem_of_getElem? (i := 594) (by decide +kernel)⟩
theorem lw_p19 : lw_okq (⟨"WorthKeepingModel", "isRoutine", "(I)Z"⟩, 47) := ⟨⟨by decide +kernel, by decide +kernel⟩, List.mem_of_getElem? (i := 618) (by decide +kernel), List.mem_of_getElem? (i := 775) (by decide +kernel), List.mem_of_getElem? (i := 776) (by decide +kernel)⟩
theorem lw_p20 : lw_okq (⟨"WorthKeepingModel", "actingOf", "(I)I"⟩, 47) := ⟨⟨by decide +kernel, by decide +kernel⟩, List.mem_of_getElem? (i := 618) (by decide +kernel), List.mem_of_getElem? (i := 785) (by decide +kernel), List.mem_of_getElem? (i := 786) (by decide +kernel)⟩
theorem lw_p21 : lw_okq (⟨"WorthKeepingModel", "called", "(I)I"⟩, 47) := ⟨⟨by decide +kernel, by decide +kernel⟩, List.mem_of_getElem? (i := 618) (by decide +kernel), List.mem_of_getElem? (i := 789) (by decide +kernel), List.mem_of_getElem? (i := 790) (by decide +kernel)⟩
theorem lw_p22 : lw_okq (⟨"WorthKeepingModel", "toldSet", "()I"⟩, 47) := ⟨⟨by decide +kernel, by decide +kernel⟩, List.mem_of_getElem? (i := 618) (by decide +kernel), List.mem_of_getElem? (i := 821) (by decide +kernel), List.mem_of_getElem? (i := 822) (by decide +kernel)⟩
theorem lw_p23 : lw_okq (⟨"WorthKeepingModel", "go", "(IIIIIII)V"⟩, 47) := ⟨⟨by decide +kernel, by decide +kernel⟩, List.mem_of_getElem? (i := 618) (by decide +kernel), List.mem_of_getElem? (i := 825) (by decide +kernel), List.mem_of_getElem? (i := 826) (by decide +kernel)⟩
theorem lw_p24 : lw_okq (⟨"WorthKeepingModel", "enter", "(IIII)V"⟩, 47) := ⟨⟨by decide +kernel, by decide +kernel⟩, List.mem_of_getElem? (i := 618) (by decide +kernel), List.mem_of_getElem? (i := 829) (by decide +kernel), List.mem_of_getElem? (i := 830) (by decide +kernel)⟩
theorem lw_p25 : lw_okq (⟨"WorthKeepingModel", "find", "(IIII)I"⟩, 47) := ⟨⟨by decide +kernel, by decide +kernel⟩, List.mem_of_getElem? (i := 618) (by decide +kernel), List.mem_of_getElem? (i := 833) (by decide +kernel), List.mem_of_getElem? (i := 834) (by decide +kernel)⟩
theorem lw_p26 : lw_okq (⟨"WorthKeepingModel", "areStores", "(I)Z"⟩, 47) := ⟨⟨by decide +kernel, by decide +kernel⟩, List.mem_of_getElem? (i := 618) (by decide +kernel), List.mem_of_getElem? (i := 837) (by decide +kernel), List.mem_of_getElem? (i := 838) (by decide +kernel)⟩
theorem lw_p27 : lw_okq (⟨"WorthKeepingModel", "around", "(II)V"⟩, 47) := ⟨⟨by decide +kernel, by decide +kernel⟩, List.mem_of_getElem? (i := 618) (by decide +kernel), List.mem_of_getElem? (i := 841) (by decide +kernel), List.mem_of_getElem? (i := 842) (by decide +kernel)⟩
theorem lw_p28 : lw_okq (⟨"WorthKeepingModel", "comes", "()V"⟩, 47) := ⟨⟨by decide +kernel, by decide +kernel⟩, List.mem_of_getElem? (i := 618) (by decide +kernel), List.mem_of_getElem? (i := 845) (by decide +kernel), List.mem_of_getElem? (i := 846) (by decide +kernel)⟩
theorem lw_p29 : lw_okq (⟨"WorthKeepingModel", "leave", "()V"⟩, 47) := ⟨⟨by decide +kernel, by decide +kernel⟩, List.mem_of_getElem? (i := 618) (by decide +kernel), List.mem_of_getElem? (i := 849) (by decide +kernel), List.mem_of_getElem? (i := 850) (by decide +kernel)⟩
theorem lw_p30 : lw_okq (⟨"WorthKeepingModel", "keepNow", "()V"⟩, 47) := ⟨⟨by decide +kernel, by decide +kernel⟩, List.mem_of_getElem? (i := 618) (by decide +kernel), List.mem_of_getElem? (i := 853) (by decide +kernel), List.mem_of_getElem? (i := 854) (by decide +kernel)⟩
theorem lw_p31 : lw_okq (⟨"WorthKeepingModel", "goes", "()I"⟩, 47) := ⟨⟨by decide +kernel, by decide +kernel⟩, List.mem_of_getElem? (i := 618) (by decide +kernel), List.mem_of_getElem? (i := 857) (by decide +kernel), List.mem_of_getElem? (i := 858) (by decide +kernel)⟩
def lw_privs_2 : List (MethodName × Nat) := [(⟨"WorthKeeping$Shelf", "goesAheadOf", "(LWorthKeeping$Keepsake;LWorthKeeping$Keepsake;)Z"⟩, 5), (⟨"WorthKeeping$Shelf", "drop", "(I)V"⟩, 5), (⟨"WorthKeeping", "tryOut", "(III)I"⟩, 10), (⟨"WorthKeepingModel", "isRoutine", "(I)Z"⟩, 47), (⟨"WorthKeepingModel", "actingOf", "(I)I"⟩, 47), (⟨"WorthKeepingModel", "called", "(I)I"⟩, 47), (⟨"WorthKeepingModel", "toldSet", "()I"⟩, 47), (⟨"WorthKeepingModel", "go", "(IIIIIII)V"⟩, 47), (⟨"WorthKeepingModel", "enter", "(IIII)V"⟩, 47), (⟨"WorthKeepingModel", "find", "(IIII)I"⟩, 47), (⟨"WorthKeepingModel", "areStores", "(I)Z"⟩, 47), (⟨"WorthKeepingModel", "around", "(II)V"⟩, 47), (⟨"WorthKeepingModel", "comes", "()V"⟩, 47), (⟨"WorthKeepingModel", "leave", "()V"⟩, 47), (⟨"WorthKeepingModel", "keepNow", "()V"⟩, 47), (⟨"WorthKeepingModel", "goes", "()I"⟩, 47)]
theorem lw_r2 : ∀ q ∈ lw_privs_2, lw_okq q := List.forall_mem_cons.mpr ⟨lw_p16, List.forall_mem_cons.mpr ⟨lw_p17, List.forall_mem_cons.mpr ⟨lw_p18, List.forall_mem_cons.mpr ⟨lw_p19, List.forall_mem_cons.mpr ⟨lw_p20, List.forall_mem_cons.mpr ⟨lw_p21, List.forall_mem_cons.mpr ⟨lw_p22, List.forall_mem_cons.mpr ⟨lw_p23, List.forall_mem_cons.mpr ⟨lw_p24, List.forall_mem_cons.mpr ⟨lw_p25, List.forall_mem_cons.mpr ⟨lw_p26, List.forall_mem_cons.mpr ⟨lw_p27, List.forall_mem_cons.mpr ⟨lw_p28, List.forall_mem_cons.mpr ⟨lw_p29, List.forall_mem_cons.mpr ⟨lw_p30, List.forall_mem_cons.mpr ⟨lw_p31, fun _ h => absurd h List.not_mem_nil⟩⟩⟩⟩⟩⟩⟩⟩⟩⟩⟩⟩⟩⟩⟩⟩
theorem lw_p32 : lw_okq (⟨"WorthKeepingModel", "letGo", "(I)V"⟩, 47) := ⟨⟨by decide +kernel, by decide +kernel⟩, List.mem_of_getElem? (i := 618) (by decide +kernel), List.mem_of_getElem? (i := 861) (by decide +kernel), List.mem_of_getElem? (i := 862) (by decide +kernel)⟩
theorem lw_p33 : lw_okq (⟨"WorthKeepingModel", "copy", "(II)V"⟩, 47) := ⟨⟨by decide +kernel, by decide +kernel⟩, List.mem_of_getElem? (i := 618) (by decide +kernel), List.mem_of_getElem? (i := 865) (by decide +kernel), List.mem_of_getElem? (i := 866) (by decide +kernel)⟩
theorem lw_p34 : lw_okq (⟨"WorthKeepingModel", "step", "()V"⟩, 47) := ⟨⟨by decide +kernel, by decide +kernel⟩, List.mem_of_getElem? (i := 618) (by decide +kernel), List.mem_of_getElem? (i := 869) (by decide +kernel), List.mem_of_getElem? (i := 870) (by decide +kernel)⟩
theorem lw_p35 : lw_okq (⟨"WorthKeepingModel", "refuse", "(I)V"⟩, 47) := ⟨⟨by decide +kernel, by decide +kernel⟩, List.mem_of_getElem? (i := 618) (by decide +kernel), List.mem_of_getElem? (i := 873) (by decide +kernel), List.mem_of_getElem? (i := 874) (by decide +kernel)⟩
theorem lw_p36 : lw_okq (⟨"WorthKeepingModel", "put", "(II)V"⟩, 47) := ⟨⟨by decide +kernel, by decide +kernel⟩, List.mem_of_getElem? (i := 618) (by decide +kernel), List.mem_of_getElem? (i := 880) (by decide +kernel), List.mem_of_getElem? (i := 881) (by decide +kernel)⟩
theorem lw_p37 : lw_okq (⟨"WorthKeepingModel", "calls", "(II)V"⟩, 47) := ⟨⟨by decide +kernel, by decide +kernel⟩, List.mem_of_getElem? (i := 618) (by decide +kernel), List.mem_of_getElem? (i := 884) (by decide +kernel), List.mem_of_getElem? (i := 885) (by decide +kernel)⟩
theorem lw_p38 : lw_okq (⟨"WorthKeepingModel", "acts", "(II)V"⟩, 47) := ⟨⟨by decide +kernel, by decide +kernel⟩, List.mem_of_getElem? (i := 618) (by decide +kernel), List.mem_of_getElem? (i := 888) (by decide +kernel), List.mem_of_getElem? (i := 889) (by decide +kernel)⟩
theorem lw_p39 : lw_okq (⟨"WorthKeepingModel", "pure", "()I"⟩, 47) := ⟨⟨by decide +kernel, by decide +kernel⟩, List.mem_of_getElem? (i := 618) (by decide +kernel), List.mem_of_getElem? (i := 929) (by decide +kernel), List.mem_of_getElem? (i := 930) (by decide +kernel)⟩
theorem lw_p40 : lw_okq (⟨"WorthKeepingModel", "costOf", "(II)I"⟩, 47) := ⟨⟨by decide +kernel, by decide +kernel⟩, List.mem_of_getElem? (i := 618) (by decide +kernel), List.mem_of_getElem? (i := 933) (by decide +kernel), List.mem_of_getElem? (i := 934) (by decide +kernel)⟩
def lw_privs_3 : List (MethodName × Nat) := [(⟨"WorthKeepingModel", "letGo", "(I)V"⟩, 47), (⟨"WorthKeepingModel", "copy", "(II)V"⟩, 47), (⟨"WorthKeepingModel", "step", "()V"⟩, 47), (⟨"WorthKeepingModel", "refuse", "(I)V"⟩, 47), (⟨"WorthKeepingModel", "put", "(II)V"⟩, 47), (⟨"WorthKeepingModel", "calls", "(II)V"⟩, 47), (⟨"WorthKeepingModel", "acts", "(II)V"⟩, 47), (⟨"WorthKeepingModel", "pure", "()I"⟩, 47), (⟨"WorthKeepingModel", "costOf", "(II)I"⟩, 47)]
theorem lw_r3 : ∀ q ∈ lw_privs_3, lw_okq q := List.forall_mem_cons.mpr ⟨lw_p32, List.forall_mem_cons.mpr ⟨lw_p33, List.forall_mem_cons.mpr ⟨lw_p34, List.forall_mem_cons.mpr ⟨lw_p35, List.forall_mem_cons.mpr ⟨lw_p36, List.forall_mem_cons.mpr ⟨lw_p37, List.forall_mem_cons.mpr ⟨lw_p38, List.forall_mem_cons.mpr ⟨lw_p39, List.forall_mem_cons.mpr ⟨lw_p40, fun _ h => absurd h List.not_mem_nil⟩⟩⟩⟩⟩⟩⟩⟩⟩
def lw_privs : List (MethodName × Nat) := lw_privs_1 ++ (lw_privs_2 ++ (lw_privs_3))
def lw_tbl : List Cond := k2_sels lw_privs ++ tables_1
theorem lw_privs_ok : ∀ q ∈ lw_privs, lw_okq q := by
  show ∀ q ∈ lw_privs_1 ++ (lw_privs_2 ++ (lw_privs_3)), lw_okq q
  exact List.forall_mem_append.mpr ⟨lw_r1, List.forall_mem_append.mpr ⟨lw_r2, lw_r3⟩⟩
def RX0 : String := "WorthKeeping$Frame"
def TX0 : u_T := fun k => match k with
  | 0 => ("WorthKeeping$Frame", "numbers", "[I", true)
  | 1 => ("WorthKeeping$Frame", "row", "[I", true)
  | 2 => ("WorthKeeping$Frame", "size", "I", false)
  | 3 => ("WorthKeeping$Frame", "numbersRead", "I", false)
  | 4 => ("WorthKeeping$Frame", "storesRead", "I", false)
  | 5 => ("WorthKeeping$Frame", "within", "I", false)
  | _ => ("WorthKeeping$Frame", "result", "I", false)
def tyX0 : Nat → FieldType := fun k => match k with
  | 0 => .array .int
  | 1 => .array .int
  | 2 => .int
  | 3 => .int
  | 4 => .int
  | 5 => .int
  | _ => .int
theorem nmX0 : ∀ a, a < 7 → ∀ b, b < 7 → a ≠ b → (TX0 a).2.1 ≠ (TX0 b).2.1 := by decide +kernel
theorem tyX0_ok : ∀ k, k < 7 → parseFieldDescriptor (TX0 k).2.2.1 = some (tyX0 k) := by decide +kernel
abbrev cX0_init : ByteArray := prog_2_method_1_code
def yX0_init : MethodName := ⟨RX0, "<init>", "()V"⟩
abbrev cX0_begin : ByteArray := prog_2_method_2_code
def yX0_begin : MethodName := ⟨RX0, "begin", "(III)V"⟩
abbrev cX0_numberOf : ByteArray := prog_2_method_3_code
def yX0_numberOf : MethodName := ⟨RX0, "numberOf", "(I)I"⟩
abbrev cX0_isFull : ByteArray := prog_2_method_4_code
def yX0_isFull : MethodName := ⟨RX0, "isFull", "()Z"⟩
abbrev cX0_put : ByteArray := prog_2_method_5_code
def yX0_put : MethodName := ⟨RX0, "put", "(I)I"⟩
abbrev cX0_last : ByteArray := prog_2_method_6_code
def yX0_last : MethodName := ⟨RX0, "last", "()I"⟩
abbrev cX0_take : ByteArray := prog_2_method_7_code
def yX0_take : MethodName := ⟨RX0, "take", "()I"⟩
abbrev cX0_joinCalled : ByteArray := prog_2_method_8_code
def yX0_joinCalled : MethodName := ⟨RX0, "joinCalled", "(LWorthKeeping$Frame;)V"⟩
def RX1 : String := "WorthKeeping$Keepsake"
def TX1 : u_T := fun k => match k with
  | 0 => ("WorthKeeping$Keepsake", "numbers", "[I", true)
  | 1 => ("WorthKeeping$Keepsake", "stores", "[I", true)
  | 2 => ("WorthKeeping$Keepsake", "ofRoutine", "I", false)
  | 3 => ("WorthKeeping$Keepsake", "numbersRead", "I", false)
  | 4 => ("WorthKeeping$Keepsake", "storesRead", "I", false)
  | 5 => ("WorthKeeping$Keepsake", "result", "I", false)
  | 6 => ("WorthKeeping$Keepsake", "refusal", "I", false)
  | 7 => ("WorthKeeping$Keepsake", "steps", "I", false)
  | 8 => ("WorthKeeping$Keepsake", "within", "I", false)
  | 9 => ("WorthKeeping$Keepsake", "hits", "I", false)
  | _ => ("WorthKeeping$Keepsake", "usedAt", "I", false)
def tyX1 : Nat → FieldType := fun k => match k with
  | 0 => .array .int
  | 1 => .array .int
  | 2 => .int
  | 3 => .int
  | 4 => .int
  | 5 => .int
  | 6 => .int
  | 7 => .int
  | 8 => .int
  | 9 => .int
  | _ => .int
theorem nmX1 : ∀ a, a < 11 → ∀ b, b < 11 → a ≠ b → (TX1 a).2.1 ≠ (TX1 b).2.1 := by decide +kernel
theorem tyX1_ok : ∀ k, k < 11 → parseFieldDescriptor (TX1 k).2.2.1 = some (tyX1 k) := by decide +kernel
abbrev cX1_init : ByteArray := prog_3_method_1_code
def yX1_init : MethodName := ⟨RX1, "<init>", "()V"⟩
abbrev cX1_fill : ByteArray := prog_3_method_2_code
def yX1_fill : MethodName := ⟨RX1, "fill", "(ILWorthKeeping$Frame;LWorthKeeping$World;II)V"⟩
abbrev cX1_holdsFor : ByteArray := prog_3_method_3_code
def yX1_holdsFor : MethodName := ⟨RX1, "holdsFor", "(ILWorthKeeping$Frame;LWorthKeeping$World;)Z"⟩
abbrev cX1_numbersAreAlike : ByteArray := prog_3_method_4_code
def yX1_numbersAreAlike : MethodName := ⟨RX1, "numbersAreAlike", "(LWorthKeeping$Frame;)Z"⟩
abbrev cX1_storesAreAlike : ByteArray := prog_3_method_5_code
def yX1_storesAreAlike : MethodName := ⟨RX1, "storesAreAlike", "(LWorthKeeping$World;)Z"⟩
abbrev cX1_fact : ByteArray := prog_3_method_6_code
def yX1_fact : MethodName := ⟨RX1, "fact", "(ILWorthKeeping$World;)I"⟩
abbrev cX1_numberWas : ByteArray := prog_3_method_7_code
def yX1_numberWas : MethodName := ⟨RX1, "numberWas", "(I)I"⟩
abbrev cX1_storeWas : ByteArray := prog_3_method_8_code
def yX1_storeWas : MethodName := ⟨RX1, "storeWas", "(I)I"⟩
def RX2 : String := "WorthKeeping$Machine"
def TX2 : u_T := fun k => match k with
  | 0 => ("WorthKeeping$Machine", "program", "LWorthKeeping$Program;", true)
  | 1 => ("WorthKeeping$Machine", "world", "LWorthKeeping$World;", true)
  | 2 => ("WorthKeeping$Machine", "shelf", "LWorthKeeping$Shelf;", true)
  | 3 => ("WorthKeeping$Machine", "frames", "[LWorthKeeping$Frame;", true)
  | 4 => ("WorthKeeping$Machine", "keptOnes", "I", false)
  | 5 => ("WorthKeeping$Machine", "steps", "I", false)
  | 6 => ("WorthKeeping$Machine", "realSteps", "I", false)
  | 7 => ("WorthKeeping$Machine", "hits", "I", false)
  | 8 => ("WorthKeeping$Machine", "misses", "I", false)
  | 9 => ("WorthKeeping$Machine", "deepest", "I", false)
  | 10 => ("WorthKeeping$Machine", "refusal", "I", false)
  | _ => ("WorthKeeping$Machine", "result", "I", false)
def tyX2 : Nat → FieldType := fun k => match k with
  | 0 => .object "WorthKeeping$Program"
  | 1 => .object "WorthKeeping$World"
  | 2 => .object "WorthKeeping$Shelf"
  | 3 => .array (.object "WorthKeeping$Frame")
  | 4 => .int
  | 5 => .int
  | 6 => .int
  | 7 => .int
  | 8 => .int
  | 9 => .int
  | 10 => .int
  | _ => .int
theorem nmX2 : ∀ a, a < 12 → ∀ b, b < 12 → a ≠ b → (TX2 a).2.1 ≠ (TX2 b).2.1 := by decide +kernel
theorem tyX2_ok : ∀ k, k < 12 → parseFieldDescriptor (TX2 k).2.2.1 = some (tyX2 k) := by decide +kernel
abbrev cX2_init : ByteArray := prog_4_method_1_code
def yX2_init : MethodName := ⟨RX2, "<init>", "(LWorthKeeping$Program;LWorthKeeping$World;LWorthKeeping$Shelf;)V"⟩
abbrev cX2_start : ByteArray := prog_4_method_2_code
def yX2_start : MethodName := ⟨RX2, "start", "(IIIII)V"⟩
abbrev cX2_enter : ByteArray := prog_4_method_3_code
def yX2_enter : MethodName := ⟨RX2, "enter", "(ILWorthKeeping$Frame;I)I"⟩
abbrev cX2_fits : ByteArray := prog_4_method_4_code
def yX2_fits : MethodName := ⟨RX2, "fits", "(LWorthKeeping$Keepsake;I)Z"⟩
abbrev cX2_recall : ByteArray := prog_4_method_5_code
def yX2_recall : MethodName := ⟨RX2, "recall", "(LWorthKeeping$Keepsake;LWorthKeeping$Frame;)I"⟩
abbrev cX2_walk : ByteArray := prog_4_method_6_code
def yX2_walk : MethodName := ⟨RX2, "walk", "(ILWorthKeeping$Frame;I)I"⟩
abbrev cX2_perform : ByteArray := prog_4_method_7_code
def yX2_perform : MethodName := ⟨RX2, "perform", "(ILWorthKeeping$Frame;I)I"⟩
abbrev cX2_readNumber : ByteArray := prog_4_method_8_code
def yX2_readNumber : MethodName := ⟨RX2, "readNumber", "(ILWorthKeeping$Frame;)I"⟩
abbrev cX2_readStore : ByteArray := prog_4_method_9_code
def yX2_readStore : MethodName := ⟨RX2, "readStore", "(ILWorthKeeping$Frame;)I"⟩
abbrev cX2_writeStore : ByteArray := prog_4_method_10_code
def yX2_writeStore : MethodName := ⟨RX2, "writeStore", "(ILWorthKeeping$Frame;)I"⟩
abbrev cX2_callRoutine : ByteArray := prog_4_method_11_code
def yX2_callRoutine : MethodName := ⟨RX2, "callRoutine", "(ILWorthKeeping$Frame;I)I"⟩
abbrev cX2_combine : ByteArray := prog_4_method_12_code
def yX2_combine : MethodName := ⟨RX2, "combine", "(ILWorthKeeping$Frame;)I"⟩
abbrev cX2_changeEnd : ByteArray := prog_4_method_13_code
def yX2_changeEnd : MethodName := ⟨RX2, "changeEnd", "(ILWorthKeeping$Frame;)I"⟩
def RX3 : String := "WorthKeeping$Program"
def TX3 : u_T := fun k => match k with
  | 0 => ("WorthKeeping$Program", "codes", "[[I", true)
  | 1 => ("WorthKeeping$Program", "lengths", "[I", true)
  | 2 => ("WorthKeeping$Program", "actings", "[I", true)
  | 3 => ("WorthKeeping$Program", "readings", "[I", true)
  | 4 => ("WorthKeeping$Program", "callings", "[I", true)
  | _ => ("WorthKeeping$Program", "count", "I", false)
def tyX3 : Nat → FieldType := fun k => match k with
  | 0 => .array (.array .int)
  | 1 => .array .int
  | 2 => .array .int
  | 3 => .array .int
  | 4 => .array .int
  | _ => .int
theorem nmX3 : ∀ a, a < 6 → ∀ b, b < 6 → a ≠ b → (TX3 a).2.1 ≠ (TX3 b).2.1 := by decide +kernel
theorem tyX3_ok : ∀ k, k < 6 → parseFieldDescriptor (TX3 k).2.2.1 = some (tyX3 k) := by decide +kernel
abbrev cX3_init : ByteArray := prog_5_method_1_code
def yX3_init : MethodName := ⟨RX3, "<init>", "()V"⟩
abbrev cX3_isFull : ByteArray := prog_5_method_2_code
def yX3_isFull : MethodName := ⟨RX3, "isFull", "()Z"⟩
abbrev cX3_hasRoutine : ByteArray := prog_5_method_3_code
def yX3_hasRoutine : MethodName := ⟨RX3, "hasRoutine", "(I)Z"⟩
abbrev cX3_lengthOf : ByteArray := prog_5_method_4_code
def yX3_lengthOf : MethodName := ⟨RX3, "lengthOf", "(I)I"⟩
abbrev cX3_codeOf : ByteArray := prog_5_method_5_code
def yX3_codeOf : MethodName := ⟨RX3, "codeOf", "(II)I"⟩
abbrev cX3_actingOf : ByteArray := prog_5_method_6_code
def yX3_actingOf : MethodName := ⟨RX3, "actingOf", "(I)I"⟩
abbrev cX3_readingOf : ByteArray := prog_5_method_7_code
def yX3_readingOf : MethodName := ⟨RX3, "readingOf", "(I)I"⟩
abbrev cX3_addRoutine : ByteArray := prog_5_method_8_code
def yX3_addRoutine : MethodName := ⟨RX3, "addRoutine", "()I"⟩
abbrev cX3_addCode : ByteArray := prog_5_method_9_code
def yX3_addCode : MethodName := ⟨RX3, "addCode", "(II)V"⟩
abbrev cX3_spreadToCallers : ByteArray := prog_5_method_10_code
def yX3_spreadToCallers : MethodName := ⟨RX3, "spreadToCallers", "()V"⟩
abbrev cX3_gatherFromCalled : ByteArray := prog_5_method_11_code
def yX3_gatherFromCalled : MethodName := ⟨RX3, "gatherFromCalled", "(I)V"⟩
abbrev cX3_keepable : ByteArray := prog_5_method_12_code
def yX3_keepable : MethodName := ⟨RX3, "keepable", "()I"⟩
abbrev cX3_firstKeepable : ByteArray := prog_5_method_13_code
def yX3_firstKeepable : MethodName := ⟨RX3, "firstKeepable", "(I)I"⟩
def RX4 : String := "WorthKeeping$RunLog"
def TX4 : u_T := fun k => match k with
  | 0 => ("WorthKeeping$RunLog", "runs", "[[I", true)
  | _ => ("WorthKeeping$RunLog", "size", "I", false)
def tyX4 : Nat → FieldType := fun k => match k with
  | 0 => .array (.array .int)
  | _ => .int
theorem nmX4 : ∀ a, a < 2 → ∀ b, b < 2 → a ≠ b → (TX4 a).2.1 ≠ (TX4 b).2.1 := by decide +kernel
theorem tyX4_ok : ∀ k, k < 2 → parseFieldDescriptor (TX4 k).2.2.1 = some (tyX4 k) := by decide +kernel
abbrev cX4_init : ByteArray := prog_6_method_1_code
def yX4_init : MethodName := ⟨RX4, "<init>", "()V"⟩
abbrev cX4_add : ByteArray := prog_6_method_2_code
def yX4_add : MethodName := ⟨RX4, "add", "(IIII)Z"⟩
abbrev cX4_fact : ByteArray := prog_6_method_3_code
def yX4_fact : MethodName := ⟨RX4, "fact", "(II)I"⟩
def RX5 : String := "WorthKeeping$Shelf"
def TX5 : u_T := fun k => match k with
  | 0 => ("WorthKeeping$Shelf", "row", "[LWorthKeeping$Keepsake;", true)
  | 1 => ("WorthKeeping$Shelf", "count", "I", false)
  | 2 => ("WorthKeeping$Shelf", "places", "I", false)
  | 3 => ("WorthKeeping$Shelf", "order", "I", false)
  | _ => ("WorthKeeping$Shelf", "now", "I", false)
def tyX5 : Nat → FieldType := fun k => match k with
  | 0 => .array (.object "WorthKeeping$Keepsake")
  | 1 => .int
  | 2 => .int
  | 3 => .int
  | _ => .int
theorem nmX5 : ∀ a, a < 5 → ∀ b, b < 5 → a ≠ b → (TX5 a).2.1 ≠ (TX5 b).2.1 := by decide +kernel
theorem tyX5_ok : ∀ k, k < 5 → parseFieldDescriptor (TX5 k).2.2.1 = some (tyX5 k) := by decide +kernel
abbrev cX5_init : ByteArray := prog_7_method_1_code
def yX5_init : MethodName := ⟨RX5, "<init>", "()V"⟩
abbrev cX5_has : ByteArray := prog_7_method_2_code
def yX5_has : MethodName := ⟨RX5, "has", "(I)Z"⟩
abbrev cX5_at : ByteArray := prog_7_method_3_code
def yX5_at : MethodName := ⟨RX5, "at", "(I)LWorthKeeping$Keepsake;"⟩
abbrev cX5_firstThatHolds : ByteArray := prog_7_method_4_code
def yX5_firstThatHolds : MethodName := ⟨RX5, "firstThatHolds", "(ILWorthKeeping$Frame;LWorthKeeping$World;)I"⟩
abbrev cX5_touch : ByteArray := prog_7_method_5_code
def yX5_touch : MethodName := ⟨RX5, "touch", "(LWorthKeeping$Keepsake;)V"⟩
abbrev cX5_add : ByteArray := prog_7_method_6_code
def yX5_add : MethodName := ⟨RX5, "add", "(ILWorthKeeping$Frame;LWorthKeeping$World;II)V"⟩
abbrev cX5_nextToGo : ByteArray := prog_7_method_7_code
def yX5_nextToGo : MethodName := ⟨RX5, "nextToGo", "()I"⟩
abbrev cX5_goesAheadOf : ByteArray := prog_7_method_8_code
def yX5_goesAheadOf : MethodName := ⟨RX5, "goesAheadOf", "(LWorthKeeping$Keepsake;LWorthKeeping$Keepsake;)Z"⟩
abbrev cX5_drop : ByteArray := prog_7_method_9_code
def yX5_drop : MethodName := ⟨RX5, "drop", "(I)V"⟩
abbrev cX5_dropAll : ByteArray := prog_7_method_10_code
def yX5_dropAll : MethodName := ⟨RX5, "dropAll", "()I"⟩
abbrev cX5_dropOf : ByteArray := prog_7_method_11_code
def yX5_dropOf : MethodName := ⟨RX5, "dropOf", "(I)V"⟩
abbrev cX5_furnish : ByteArray := prog_7_method_12_code
def yX5_furnish : MethodName := ⟨RX5, "furnish", "(II)I"⟩
def RX6 : String := "WorthKeeping$World"
def TX6 : u_T := fun k => match k with
  | 0 => ("WorthKeeping$World", "values", "[I", true)
  | _ => ("WorthKeeping$World", "theLot", "I", false)
def tyX6 : Nat → FieldType := fun k => match k with
  | 0 => .array .int
  | _ => .int
theorem nmX6 : ∀ a, a < 2 → ∀ b, b < 2 → a ≠ b → (TX6 a).2.1 ≠ (TX6 b).2.1 := by decide +kernel
theorem tyX6_ok : ∀ k, k < 2 → parseFieldDescriptor (TX6 k).2.2.1 = some (tyX6 k) := by decide +kernel
abbrev cX6_init : ByteArray := prog_8_method_1_code
def yX6_init : MethodName := ⟨RX6, "<init>", "()V"⟩
abbrev cX6_valueOf : ByteArray := prog_8_method_2_code
def yX6_valueOf : MethodName := ⟨RX6, "valueOf", "(I)I"⟩
abbrev cX6_setValue : ByteArray := prog_8_method_3_code
def yX6_setValue : MethodName := ⟨RX6, "setValue", "(II)V"⟩
abbrev cX6_nextLot : ByteArray := prog_8_method_4_code
def yX6_nextLot : MethodName := ⟨RX6, "nextLot", "()I"⟩
abbrev cX6_copyFrom : ByteArray := prog_8_method_5_code
def yX6_copyFrom : MethodName := ⟨RX6, "copyFrom", "(LWorthKeeping$World;)V"⟩
def RX7 : String := "WorthKeeping"
def TX7 : u_T := fun k => match k with
  | 0 => ("WorthKeeping", "program", "LWorthKeeping$Program;", true)
  | 1 => ("WorthKeeping", "world", "LWorthKeeping$World;", true)
  | 2 => ("WorthKeeping", "shelf", "LWorthKeeping$Shelf;", true)
  | 3 => ("WorthKeeping", "machine", "LWorthKeeping$Machine;", true)
  | 4 => ("WorthKeeping", "trialWorld", "LWorthKeeping$World;", true)
  | 5 => ("WorthKeeping", "trialShelf", "LWorthKeeping$Shelf;", true)
  | 6 => ("WorthKeeping", "trialMachine", "LWorthKeeping$Machine;", true)
  | 7 => ("WorthKeeping", "runLog", "LWorthKeeping$RunLog;", true)
  | 8 => ("WorthKeeping", "toldToBeKept", "I", false)
  | _ => ("WorthKeeping", "hasRun", "Z", false)
def tyX7 : Nat → FieldType := fun k => match k with
  | 0 => .object "WorthKeeping$Program"
  | 1 => .object "WorthKeeping$World"
  | 2 => .object "WorthKeeping$Shelf"
  | 3 => .object "WorthKeeping$Machine"
  | 4 => .object "WorthKeeping$World"
  | 5 => .object "WorthKeeping$Shelf"
  | 6 => .object "WorthKeeping$Machine"
  | 7 => .object "WorthKeeping$RunLog"
  | 8 => .int
  | _ => .boolean
theorem nmX7 : ∀ a, a < 10 → ∀ b, b < 10 → a ≠ b → (TX7 a).2.1 ≠ (TX7 b).2.1 := by decide +kernel
theorem tyX7_ok : ∀ k, k < 10 → parseFieldDescriptor (TX7 k).2.2.1 = some (tyX7 k) := by decide +kernel
abbrev cX7_init : ByteArray := prog_1_method_1_code
def yX7_init : MethodName := ⟨RX7, "<init>", "()V"⟩
abbrev cX7_routine : ByteArray := prog_1_method_2_code
def yX7_routine : MethodName := ⟨RX7, "routine", "()I"⟩
abbrev cX7_code : ByteArray := prog_1_method_3_code
def yX7_code : MethodName := ⟨RX7, "code", "(II)I"⟩
abbrev cX7_codeAt : ByteArray := prog_1_method_4_code
def yX7_codeAt : MethodName := ⟨RX7, "codeAt", "(II)I"⟩
abbrev cX7_store : ByteArray := prog_1_method_5_code
def yX7_store : MethodName := ⟨RX7, "store", "(II)I"⟩
abbrev cX7_held : ByteArray := prog_1_method_6_code
def yX7_held : MethodName := ⟨RX7, "held", "(I)I"⟩
abbrev cX7_lot : ByteArray := prog_1_method_7_code
def yX7_lot : MethodName := ⟨RX7, "lot", "(I)I"⟩
abbrev cX7_acting : ByteArray := prog_1_method_8_code
def yX7_acting : MethodName := ⟨RX7, "acting", "(I)I"⟩
abbrev cX7_reads : ByteArray := prog_1_method_9_code
def yX7_reads : MethodName := ⟨RX7, "reads", "(I)I"⟩
abbrev cX7_run : ByteArray := prog_1_method_10_code
def yX7_run : MethodName := ⟨RX7, "run", "(IIII)I"⟩
abbrev cX7_answer : ByteArray := prog_1_method_11_code
def yX7_answer : MethodName := ⟨RX7, "answer", "()I"⟩
abbrev cX7_ran : ByteArray := prog_1_method_12_code
def yX7_ran : MethodName := ⟨RX7, "ran", "(I)I"⟩
abbrev cX7_keep : ByteArray := prog_1_method_13_code
def yX7_keep : MethodName := ⟨RX7, "keep", "(IZ)I"⟩
abbrev cX7_room : ByteArray := prog_1_method_14_code
def yX7_room : MethodName := ⟨RX7, "room", "(II)I"⟩
abbrev cX7_forget : ByteArray := prog_1_method_15_code
def yX7_forget : MethodName := ⟨RX7, "forget", "()I"⟩
abbrev cX7_kept : ByteArray := prog_1_method_16_code
def yX7_kept : MethodName := ⟨RX7, "kept", "(II)I"⟩
abbrev cX7_log : ByteArray := prog_1_method_17_code
def yX7_log : MethodName := ⟨RX7, "log", "(IIII)I"⟩
abbrev cX7_clear : ByteArray := prog_1_method_18_code
def yX7_clear : MethodName := ⟨RX7, "clear", "()I"⟩
abbrev cX7_cost : ByteArray := prog_1_method_19_code
def yX7_cost : MethodName := ⟨RX7, "cost", "(II)I"⟩
abbrev cX7_best : ByteArray := prog_1_method_20_code
def yX7_best : MethodName := ⟨RX7, "best", "(I)I"⟩
abbrev cX7_told : ByteArray := prog_1_method_21_code
def yX7_told : MethodName := ⟨RX7, "told", "(I)I"⟩
abbrev cX7_tryOut : ByteArray := prog_1_method_22_code
def yX7_tryOut : MethodName := ⟨RX7, "tryOut", "(III)I"⟩
abbrev cX7_pick : ByteArray := prog_1_method_23_code
def yX7_pick : MethodName := ⟨RX7, "pick", "(II)I"⟩
abbrev cX7_isCode : ByteArray := prog_1_method_24_code
def yX7_isCode : MethodName := ⟨RX7, "isCode", "(I)Z"⟩
abbrev cX7_isRoom : ByteArray := prog_1_method_25_code
def yX7_isRoom : MethodName := ⟨RX7, "isRoom", "(I)Z"⟩
abbrev cX7_isSet : ByteArray := prog_1_method_26_code
def yX7_isSet : MethodName := ⟨RX7, "isSet", "(II)Z"⟩
def RX8 : String := "WorthKeepingModel"
def TX8 : u_T := fun k => match k with
  | 0 => ("WorthKeepingModel", "routines", "I", false)
  | 1 => ("WorthKeepingModel", "size", "[I", true)
  | 2 => ("WorthKeepingModel", "code", "[I", true)
  | 3 => ("WorthKeepingModel", "isTold", "[Z", true)
  | 4 => ("WorthKeepingModel", "room", "I", false)
  | 5 => ("WorthKeepingModel", "rule", "I", false)
  | 6 => ("WorthKeepingModel", "store", "[I", true)
  | 7 => ("WorthKeepingModel", "lots", "[I", true)
  | 8 => ("WorthKeepingModel", "keptMany", "[I", true)
  | 9 => ("WorthKeepingModel", "kRoutine", "[I", true)
  | 10 => ("WorthKeepingModel", "kNumbers", "[I", true)
  | 11 => ("WorthKeepingModel", "kNumber", "[I", true)
  | 12 => ("WorthKeepingModel", "kStores", "[I", true)
  | 13 => ("WorthKeepingModel", "kStore", "[I", true)
  | 14 => ("WorthKeepingModel", "kAnswer", "[I", true)
  | 15 => ("WorthKeepingModel", "kRefusal", "[I", true)
  | 16 => ("WorthKeepingModel", "kSteps", "[I", true)
  | 17 => ("WorthKeepingModel", "kDeep", "[I", true)
  | 18 => ("WorthKeepingModel", "kHits", "[I", true)
  | 19 => ("WorthKeepingModel", "kStamp", "[I", true)
  | 20 => ("WorthKeepingModel", "stamp", "I", false)
  | 21 => ("WorthKeepingModel", "table", "I", false)
  | 22 => ("WorthKeepingModel", "keeping", "I", false)
  | 23 => ("WorthKeepingModel", "roomNow", "I", false)
  | 24 => ("WorthKeepingModel", "depth", "I", false)
  | 25 => ("WorthKeepingModel", "fRoutine", "[I", true)
  | 26 => ("WorthKeepingModel", "fAt", "[I", true)
  | 27 => ("WorthKeepingModel", "fNumber", "[I", true)
  | 28 => ("WorthKeepingModel", "fTop", "[I", true)
  | 29 => ("WorthKeepingModel", "fRow", "[I", true)
  | 30 => ("WorthKeepingModel", "fSteps", "[I", true)
  | 31 => ("WorthKeepingModel", "fNumbers", "[I", true)
  | 32 => ("WorthKeepingModel", "fStores", "[I", true)
  | 33 => ("WorthKeepingModel", "fDeep", "[I", true)
  | 34 => ("WorthKeepingModel", "steps", "I", false)
  | 35 => ("WorthKeepingModel", "real", "I", false)
  | 36 => ("WorthKeepingModel", "hits", "I", false)
  | 37 => ("WorthKeepingModel", "misses", "I", false)
  | 38 => ("WorthKeepingModel", "deepest", "I", false)
  | 39 => ("WorthKeepingModel", "refusal", "I", false)
  | 40 => ("WorthKeepingModel", "mayKeep", "Z", false)
  | 41 => ("WorthKeepingModel", "value", "I", false)
  | 42 => ("WorthKeepingModel", "hasRun", "Z", false)
  | 43 => ("WorthKeepingModel", "ran", "[I", true)
  | 44 => ("WorthKeepingModel", "answer", "I", false)
  | 45 => ("WorthKeepingModel", "logged", "I", false)
  | _ => ("WorthKeepingModel", "log", "[I", true)
def tyX8 : Nat → FieldType := fun k => match k with
  | 0 => .int
  | 1 => .array .int
  | 2 => .array .int
  | 3 => .array .boolean
  | 4 => .int
  | 5 => .int
  | 6 => .array .int
  | 7 => .array .int
  | 8 => .array .int
  | 9 => .array .int
  | 10 => .array .int
  | 11 => .array .int
  | 12 => .array .int
  | 13 => .array .int
  | 14 => .array .int
  | 15 => .array .int
  | 16 => .array .int
  | 17 => .array .int
  | 18 => .array .int
  | 19 => .array .int
  | 20 => .int
  | 21 => .int
  | 22 => .int
  | 23 => .int
  | 24 => .int
  | 25 => .array .int
  | 26 => .array .int
  | 27 => .array .int
  | 28 => .array .int
  | 29 => .array .int
  | 30 => .array .int
  | 31 => .array .int
  | 32 => .array .int
  | 33 => .array .int
  | 34 => .int
  | 35 => .int
  | 36 => .int
  | 37 => .int
  | 38 => .int
  | 39 => .int
  | 40 => .boolean
  | 41 => .int
  | 42 => .boolean
  | 43 => .array .int
  | 44 => .int
  | 45 => .int
  | _ => .array .int
theorem nmX8 : ∀ a, a < 47 → ∀ b, b < 47 → a ≠ b → (TX8 a).2.1 ≠ (TX8 b).2.1 := by decide +kernel
theorem tyX8_ok : ∀ k, k < 47 → parseFieldDescriptor (TX8 k).2.2.1 = some (tyX8 k) := by decide +kernel
abbrev cX8_init : ByteArray := prog_10_method_1_code
def yX8_init : MethodName := ⟨RX8, "<init>", "()V"⟩
abbrev cX8_in : ByteArray := prog_10_method_2_code
def yX8_in : MethodName := ⟨RX8, "in", "(III)Z"⟩
abbrev cX8_isRoutine : ByteArray := prog_10_method_3_code
def yX8_isRoutine : MethodName := ⟨RX8, "isRoutine", "(I)Z"⟩
abbrev cX8_routine : ByteArray := prog_10_method_4_code
def yX8_routine : MethodName := ⟨RX8, "routine", "()I"⟩
abbrev cX8_isCode : ByteArray := prog_10_method_5_code
def yX8_isCode : MethodName := ⟨RX8, "isCode", "(I)Z"⟩
abbrev cX8_code : ByteArray := prog_10_method_6_code
def yX8_code : MethodName := ⟨RX8, "code", "(II)I"⟩
abbrev cX8_codeAt : ByteArray := prog_10_method_7_code
def yX8_codeAt : MethodName := ⟨RX8, "codeAt", "(II)I"⟩
abbrev cX8_store : ByteArray := prog_10_method_8_code
def yX8_store : MethodName := ⟨RX8, "store", "(II)I"⟩
abbrev cX8_held : ByteArray := prog_10_method_9_code
def yX8_held : MethodName := ⟨RX8, "held", "(I)I"⟩
abbrev cX8_lot : ByteArray := prog_10_method_10_code
def yX8_lot : MethodName := ⟨RX8, "lot", "(I)I"⟩
abbrev cX8_called : ByteArray := prog_10_method_11_code
def yX8_called : MethodName := ⟨RX8, "called", "(I)I"⟩
abbrev cX8_actingOf : ByteArray := prog_10_method_12_code
def yX8_actingOf : MethodName := ⟨RX8, "actingOf", "(I)I"⟩
abbrev cX8_acting : ByteArray := prog_10_method_13_code
def yX8_acting : MethodName := ⟨RX8, "acting", "(I)I"⟩
abbrev cX8_reads : ByteArray := prog_10_method_14_code
def yX8_reads : MethodName := ⟨RX8, "reads", "(I)I"⟩
abbrev cX8_areStores : ByteArray := prog_10_method_15_code
def yX8_areStores : MethodName := ⟨RX8, "areStores", "(I)Z"⟩
abbrev cX8_find : ByteArray := prog_10_method_16_code
def yX8_find : MethodName := ⟨RX8, "find", "(IIII)I"⟩
abbrev cX8_copy : ByteArray := prog_10_method_17_code
def yX8_copy : MethodName := ⟨RX8, "copy", "(II)V"⟩
abbrev cX8_letGo : ByteArray := prog_10_method_18_code
def yX8_letGo : MethodName := ⟨RX8, "letGo", "(I)V"⟩
abbrev cX8_goes : ByteArray := prog_10_method_19_code
def yX8_goes : MethodName := ⟨RX8, "goes", "()I"⟩
abbrev cX8_keepNow : ByteArray := prog_10_method_20_code
def yX8_keepNow : MethodName := ⟨RX8, "keepNow", "()V"⟩
abbrev cX8_comes : ByteArray := prog_10_method_21_code
def yX8_comes : MethodName := ⟨RX8, "comes", "()V"⟩
abbrev cX8_around : ByteArray := prog_10_method_22_code
def yX8_around : MethodName := ⟨RX8, "around", "(II)V"⟩
abbrev cX8_enter : ByteArray := prog_10_method_23_code
def yX8_enter : MethodName := ⟨RX8, "enter", "(IIII)V"⟩
abbrev cX8_leave : ByteArray := prog_10_method_24_code
def yX8_leave : MethodName := ⟨RX8, "leave", "()V"⟩
abbrev cX8_refuse : ByteArray := prog_10_method_25_code
def yX8_refuse : MethodName := ⟨RX8, "refuse", "(I)V"⟩
abbrev cX8_put : ByteArray := prog_10_method_26_code
def yX8_put : MethodName := ⟨RX8, "put", "(II)V"⟩
abbrev cX8_needs : ByteArray := prog_10_method_27_code
def yX8_needs : MethodName := ⟨RX8, "needs", "(I)I"⟩
abbrev cX8_step : ByteArray := prog_10_method_28_code
def yX8_step : MethodName := ⟨RX8, "step", "()V"⟩
abbrev cX8_calls : ByteArray := prog_10_method_29_code
def yX8_calls : MethodName := ⟨RX8, "calls", "(II)V"⟩
abbrev cX8_acts : ByteArray := prog_10_method_30_code
def yX8_acts : MethodName := ⟨RX8, "acts", "(II)V"⟩
abbrev cX8_go : ByteArray := prog_10_method_31_code
def yX8_go : MethodName := ⟨RX8, "go", "(IIIIIII)V"⟩
abbrev cX8_toldSet : ByteArray := prog_10_method_32_code
def yX8_toldSet : MethodName := ⟨RX8, "toldSet", "()I"⟩
abbrev cX8_run : ByteArray := prog_10_method_33_code
def yX8_run : MethodName := ⟨RX8, "run", "(IIII)I"⟩
abbrev cX8_answer : ByteArray := prog_10_method_34_code
def yX8_answer : MethodName := ⟨RX8, "answer", "()I"⟩
abbrev cX8_ran : ByteArray := prog_10_method_35_code
def yX8_ran : MethodName := ⟨RX8, "ran", "(I)I"⟩
abbrev cX8_keep : ByteArray := prog_10_method_36_code
def yX8_keep : MethodName := ⟨RX8, "keep", "(IZ)I"⟩
abbrev cX8_room : ByteArray := prog_10_method_37_code
def yX8_room : MethodName := ⟨RX8, "room", "(II)I"⟩
abbrev cX8_forget : ByteArray := prog_10_method_38_code
def yX8_forget : MethodName := ⟨RX8, "forget", "()I"⟩
abbrev cX8_kept : ByteArray := prog_10_method_39_code
def yX8_kept : MethodName := ⟨RX8, "kept", "(II)I"⟩
abbrev cX8_log : ByteArray := prog_10_method_40_code
def yX8_log : MethodName := ⟨RX8, "log", "(IIII)I"⟩
abbrev cX8_clear : ByteArray := prog_10_method_41_code
def yX8_clear : MethodName := ⟨RX8, "clear", "()I"⟩
abbrev cX8_pure : ByteArray := prog_10_method_42_code
def yX8_pure : MethodName := ⟨RX8, "pure", "()I"⟩
abbrev cX8_costOf : ByteArray := prog_10_method_43_code
def yX8_costOf : MethodName := ⟨RX8, "costOf", "(II)I"⟩
abbrev cX8_cost : ByteArray := prog_10_method_44_code
def yX8_cost : MethodName := ⟨RX8, "cost", "(II)I"⟩
abbrev cX8_bits : ByteArray := prog_10_method_45_code
def yX8_bits : MethodName := ⟨RX8, "bits", "(I)I"⟩
abbrev cX8_best : ByteArray := prog_10_method_46_code
def yX8_best : MethodName := ⟨RX8, "best", "(I)I"⟩
abbrev cX8_told : ByteArray := prog_10_method_47_code
def yX8_told : MethodName := ⟨RX8, "told", "(I)I"⟩
def RJ6 : String := "java/lang/Integer"
def TJ6 : u_T := fun k => match k with
  | _ => ("", "", "", false)
def tyJ6 : Nat → FieldType := fun k => match k with
  | _ => .int
theorem nmJ6 : ∀ a, a < 0 → ∀ b, b < 0 → a ≠ b → (TJ6 a).2.1 ≠ (TJ6 b).2.1 := by decide +kernel
theorem tyJ6_ok : ∀ k, k < 0 → parseFieldDescriptor (TJ6 k).2.2.1 = some (tyJ6 k) := by decide +kernel
abbrev cJ6_bitCount_0f7a4 : ByteArray := prog_11_method_49_code
def yJ6_bitCount_0f7a4 : MethodName := ⟨RJ6, "bitCount", "(I)I"⟩
def RJ9 : String := "java/lang/Math"
def TJ9 : u_T := fun k => match k with
  | _ => ("", "", "", false)
def tyJ9 : Nat → FieldType := fun k => match k with
  | _ => .int
theorem nmJ9 : ∀ a, a < 0 → ∀ b, b < 0 → a ≠ b → (TJ9 a).2.1 ≠ (TJ9 b).2.1 := by decide +kernel
theorem tyJ9_ok : ∀ k, k < 0 → parseFieldDescriptor (TJ9 k).2.2.1 = some (tyJ9 k) := by decide +kernel
abbrev cJ9_max_7cf53 : ByteArray := prog_12_method_65_code
def yJ9_max_7cf53 : MethodName := ⟨RJ9, "max", "(II)I"⟩
def RL : String := "WorthKeepingLaw"
abbrev cL_law : ByteArray := code
def yL_law : MethodName := ⟨RL, "law", "([I)Z"⟩
abbrev vwCl : List vw_C := [(RX0, TX0, 7), (RX1, TX1, 11), (RX2, TX2, 12), (RX3, TX3, 6), (RX4, TX4, 2), (RX5, TX5, 5), (RX6, TX6, 2), (RX7, TX7, 10), (RX8, TX8, 47)]

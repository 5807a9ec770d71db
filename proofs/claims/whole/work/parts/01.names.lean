-- ===== PART A: goes FIRST, ahead of the names: the tables' words, and 'selects' of the private methods out of them =====
/-- a private method of a class that the tables say can be made, by its rows of tables_1 -/
def lw_okq (q : MethodName × Nat) : Prop := (q.1.cls ≠ "java/lang/invoke/MethodHandle" ∧ q.1.cls ≠ "java/lang/invoke/VarHandle") ∧ Cond.instantiable q.1.cls q.2 ∈ tables_1 ∧ Cond.privateMethod q.1 ∈ tables_1 ∧ Cond.instanceMethod q.1 ∈ tables_1
theorem lw_p0 : lw_okq (⟨"TollAlmanac$Tape", "cutOne", "(I)I"⟩, 7) := ⟨⟨by decide +kernel, by decide +kernel⟩, List.mem_of_getElem? (i := 30) (by decide +kernel), List.mem_of_getElem? (i := 454) (by decide +kernel), List.mem_of_getElem? (i := 455) (by decide +kernel)⟩
theorem lw_p1 : lw_okq (⟨"TollAlmanac$Tape", "rowEnd", "(ICC)I"⟩, 7) := ⟨⟨by decide +kernel, by decide +kernel⟩, List.mem_of_getElem? (i := 30) (by decide +kernel), List.mem_of_getElem? (i := 458) (by decide +kernel), List.mem_of_getElem? (i := 459) (by decide +kernel)⟩
theorem lw_p2 : lw_okq (⟨"TollAlmanac$Tape", "addName", "(II)V"⟩, 7) := ⟨⟨by decide +kernel, by decide +kernel⟩, List.mem_of_getElem? (i := 30) (by decide +kernel), List.mem_of_getElem? (i := 462) (by decide +kernel), List.mem_of_getElem? (i := 463) (by decide +kernel)⟩
theorem lw_p3 : lw_okq (⟨"TollAlmanac$Tape", "add", "(IIJ)V"⟩, 7) := ⟨⟨by decide +kernel, by decide +kernel⟩, List.mem_of_getElem? (i := 30) (by decide +kernel), List.mem_of_getElem? (i := 466) (by decide +kernel), List.mem_of_getElem? (i := 467) (by decide +kernel)⟩
theorem lw_p4 : lw_okq (⟨"TollAlmanac$Tape", "addNumber", "(II)V"⟩, 7) := ⟨⟨by decide +kernel, by decide +kernel⟩, List.mem_of_getElem? (i := 30) (by decide +kernel), List.mem_of_getElem? (i := 473) (by decide +kernel), List.mem_of_getElem? (i := 474) (by decide +kernel)⟩
theorem lw_p5 : lw_okq (⟨"TollAlmanac$Reader", "readUnder", "()V"⟩, 8) := ⟨⟨by decide +kernel, by decide +kernel⟩, List.mem_of_getElem? (i := 123) (by decide +kernel), List.mem_of_getElem? (i := 542) (by decide +kernel), List.mem_of_getElem? (i := 543) (by decide +kernel)⟩
theorem lw_p6 : lw_okq (⟨"TollAlmanac$Reader", "kind", "()I"⟩, 8) := ⟨⟨by decide +kernel, by decide +kernel⟩, List.mem_of_getElem? (i := 123) (by decide +kernel), List.mem_of_getElem? (i := 546) (by decide +kernel), List.mem_of_getElem? (i := 547) (by decide +kernel)⟩
theorem lw_p7 : lw_okq (⟨"TollAlmanac$Reader", "place", "()I"⟩, 8) := ⟨⟨by decide +kernel, by decide +kernel⟩, List.mem_of_getElem? (i := 123) (by decide +kernel), List.mem_of_getElem? (i := 550) (by decide +kernel), List.mem_of_getElem? (i := 551) (by decide +kernel)⟩
theorem lw_p8 : lw_okq (⟨"TollAlmanac$Reader", "content", "()J"⟩, 8) := ⟨⟨by decide +kernel, by decide +kernel⟩, List.mem_of_getElem? (i := 123) (by decide +kernel), List.mem_of_getElem? (i := 554) (by decide +kernel), List.mem_of_getElem? (i := 555) (by decide +kernel)⟩
theorem lw_p9 : lw_okq (⟨"TollAlmanac$Reader", "take", "(I)Z"⟩, 8) := ⟨⟨by decide +kernel, by decide +kernel⟩, List.mem_of_getElem? (i := 123) (by decide +kernel), List.mem_of_getElem? (i := 558) (by decide +kernel), List.mem_of_getElem? (i := 559) (by decide +kernel)⟩
theorem lw_p10 : lw_okq (⟨"TollAlmanac$Reader", "reject", "()V"⟩, 8) := ⟨⟨by decide +kernel, by decide +kernel⟩, List.mem_of_getElem? (i := 123) (by decide +kernel), List.mem_of_getElem? (i := 562) (by decide +kernel), List.mem_of_getElem? (i := 563) (by decide +kernel)⟩
theorem lw_p11 : lw_okq (⟨"TollAlmanac$Reader", "leanOn", "(JI)I"⟩, 8) := ⟨⟨by decide +kernel, by decide +kernel⟩, List.mem_of_getElem? (i := 123) (by decide +kernel), List.mem_of_getElem? (i := 566) (by decide +kernel), List.mem_of_getElem? (i := 567) (by decide +kernel)⟩
theorem lw_p12 : lw_okq (⟨"TollAlmanac$Reader", "note", "(II)V"⟩, 8) := ⟨⟨by decide +kernel, by decide +kernel⟩, List.mem_of_getElem? (i := 123) (by decide +kernel), List.mem_of_getElem? (i := 571) (by decide +kernel), List.mem_of_getElem? (i := 572) (by decide +kernel)⟩
theorem lw_p13 : lw_okq (⟨"TollAlmanac$Reader", "readConst", "()V"⟩, 8) := ⟨⟨by decide +kernel, by decide +kernel⟩, List.mem_of_getElem? (i := 123) (by decide +kernel), List.mem_of_getElem? (i := 579) (by decide +kernel), List.mem_of_getElem? (i := 580) (by decide +kernel)⟩
theorem lw_p14 : lw_okq (⟨"TollAlmanac$Reader", "takeNewName", "()J"⟩, 8) := ⟨⟨by decide +kernel, by decide +kernel⟩, List.mem_of_getElem? (i := 123) (by decide +kernel), List.mem_of_getElem? (i := 583) (by decide +kernel), List.mem_of_getElem? (i := 584) (by decide +kernel)⟩
theorem lw_p15 : lw_okq (⟨"TollAlmanac$Reader", "readConstantSum", "()V"⟩, 8) := ⟨⟨by decide +kernel, by decide +kernel⟩, List.mem_of_getElem? (i := 123) (by decide +kernel), List.mem_of_getElem? (i := 596) (by decide +kernel), List.mem_of_getElem? (i := 597) (by decide +kernel)⟩
def lw_privs_1 : List (MethodName × Nat) := [(⟨"TollAlmanac$Tape", "cutOne", "(I)I"⟩, 7), (⟨"TollAlmanac$Tape", "rowEnd", "(ICC)I"⟩, 7), (⟨"TollAlmanac$Tape", "addName", "(II)V"⟩, 7), (⟨"TollAlmanac$Tape", "add", "(IIJ)V"⟩, 7), (⟨"TollAlmanac$Tape", "addNumber", "(II)V"⟩, 7), (⟨"TollAlmanac$Reader", "readUnder", "()V"⟩, 8), (⟨"TollAlmanac$Reader", "kind", "()I"⟩, 8), (⟨"TollAlmanac$Reader", "place", "()I"⟩, 8), (⟨"TollAlmanac$Reader", "content", "()J"⟩, 8), (⟨"TollAlmanac$Reader", "take", "(I)Z"⟩, 8), (⟨"TollAlmanac$Reader", "reject", "()V"⟩, 8), (⟨"TollAlmanac$Reader", "leanOn", "(JI)I"⟩, 8), (⟨"TollAlmanac$Reader", "note", "(II)V"⟩, 8), (⟨"TollAlmanac$Reader", "readConst", "()V"⟩, 8), (⟨"TollAlmanac$Reader", "takeNewName", "()J"⟩, 8), (⟨"TollAlmanac$Reader", "readConstantSum", "()V"⟩, 8)]
theorem lw_r1 : ∀ q ∈ lw_privs_1, lw_okq q := List.forall_mem_cons.mpr ⟨lw_p0, List.forall_mem_cons.mpr ⟨lw_p1, List.forall_mem_cons.mpr ⟨lw_p2, List.forall_mem_cons.mpr ⟨lw_p3, List.forall_mem_cons.mpr ⟨lw_p4, List.forall_mem_cons.mpr ⟨lw_p5, List.forall_mem_cons.mpr ⟨lw_p6, List.forall_mem_cons.mpr ⟨lw_p7, List.forall_mem_cons.mpr ⟨lw_p8, List.forall_mem_cons.mpr ⟨lw_p9, List.forall_mem_cons.mpr ⟨lw_p10, List.forall_mem_cons.mpr ⟨lw_p11, List.forall_mem_cons.mpr ⟨lw_p12, List.forall_mem_cons.mpr ⟨lw_p13, List.forall_mem_cons.mpr ⟨lw_p14, List.forall_mem_cons.mpr ⟨lw_p15, fun _ h => absurd h List.not_mem_nil⟩⟩⟩⟩⟩⟩⟩⟩⟩⟩⟩⟩⟩⟩⟩⟩
theorem lw_p16 : lw_okq (⟨"TollAlmanac$Reader", "readConstantOperand", "()V"⟩, 8) := ⟨⟨by decide +kernel, by decide +kernel⟩, List.mem_of_getElem? (i := 123) (by decide +kernel), List.mem_of_getElem? (i := 600) (by decide +kernel), List.mem_of_getElem? (i := 601) (by decide +kernel)⟩
theorem lw_p17 : lw_okq (⟨"TollAlmanac$Reader", "takeMinus", "()Z"⟩, 8) := ⟨⟨by decide +kernel, by decide +kernel⟩, List.mem_of_getElem? (i := 123) (by decide +kernel), List.mem_of_getElem? (i := 604) (by decide +kernel), List.mem_of_getElem? (i := 605) (by decide +kernel)⟩
theorem lw_p18 : lw_okq (⟨"TollAlmanac$Reader", "readNumberOrYear", "()I"⟩, 8) := ⟨⟨by decide +kernel, by decide +kernel⟩, List.mem_of_getElem? (i := 123) (by decide +kernel), List.mem_of_getElem? (i := 608) (by decide +kernel), List.mem_of_getElem? (i := 609) (by decide +kernel)⟩
theorem lw_p19 : lw_okq (⟨"TollAlmanac$Reader", "readConstName", "(I)V"⟩, 8) := ⟨⟨by decide +kernel, by decide +kernel⟩, List.mem_of_getElem? (i := 123) (by decide +kernel), List.mem_of_getElem? (i := 612) (by decide +kernel), List.mem_of_getElem? (i := 613) (by decide +kernel)⟩
theorem lw_p20 : lw_okq (⟨"TollAlmanac$Reader", "readRule", "()V"⟩, 8) := ⟨⟨by decide +kernel, by decide +kernel⟩, List.mem_of_getElem? (i := 123) (by decide +kernel), List.mem_of_getElem? (i := 625) (by decide +kernel), List.mem_of_getElem? (i := 626) (by decide +kernel)⟩
theorem lw_p21 : lw_okq (⟨"TollAlmanac$Reader", "readChoice", "(I)V"⟩, 8) := ⟨⟨by decide +kernel, by decide +kernel⟩, List.mem_of_getElem? (i := 123) (by decide +kernel), List.mem_of_getElem? (i := 629) (by decide +kernel), List.mem_of_getElem? (i := 630) (by decide +kernel)⟩
theorem lw_p22 : lw_okq (⟨"TollAlmanac$Reader", "readSum", "(I)V"⟩, 8) := ⟨⟨by decide +kernel, by decide +kernel⟩, List.mem_of_getElem? (i := 123) (by decide +kernel), List.mem_of_getElem? (i := 633) (by decide +kernel), List.mem_of_getElem? (i := 634) (by decide +kernel)⟩
theorem lw_p23 : lw_okq (⟨"TollAlmanac$Reader", "readProduct", "(I)V"⟩, 8) := ⟨⟨by decide +kernel, by decide +kernel⟩, List.mem_of_getElem? (i := 123) (by decide +kernel), List.mem_of_getElem? (i := 637) (by decide +kernel), List.mem_of_getElem? (i := 638) (by decide +kernel)⟩
theorem lw_p24 : lw_okq (⟨"TollAlmanac$Reader", "readOperand", "(I)V"⟩, 8) := ⟨⟨by decide +kernel, by decide +kernel⟩, List.mem_of_getElem? (i := 123) (by decide +kernel), List.mem_of_getElem? (i := 641) (by decide +kernel), List.mem_of_getElem? (i := 642) (by decide +kernel)⟩
theorem lw_p25 : lw_okq (⟨"TollAlmanac$Reader", "readReference", "(II)V"⟩, 8) := ⟨⟨by decide +kernel, by decide +kernel⟩, List.mem_of_getElem? (i := 123) (by decide +kernel), List.mem_of_getElem? (i := 645) (by decide +kernel), List.mem_of_getElem? (i := 646) (by decide +kernel)⟩
theorem lw_p26 : lw_okq (⟨"TollAlmanac$Reader", "readSetting", "(I)V"⟩, 8) := ⟨⟨by decide +kernel, by decide +kernel⟩, List.mem_of_getElem? (i := 123) (by decide +kernel), List.mem_of_getElem? (i := 649) (by decide +kernel), List.mem_of_getElem? (i := 650) (by decide +kernel)⟩
theorem lw_p27 : lw_okq (⟨"TollAlmanac$Reader", "readStep", "(I)V"⟩, 8) := ⟨⟨by decide +kernel, by decide +kernel⟩, List.mem_of_getElem? (i := 123) (by decide +kernel), List.mem_of_getElem? (i := 659) (by decide +kernel), List.mem_of_getElem? (i := 660) (by decide +kernel)⟩
theorem lw_p28 : lw_okq (⟨"TollAlmanac$Reader", "readTable", "()V"⟩, 8) := ⟨⟨by decide +kernel, by decide +kernel⟩, List.mem_of_getElem? (i := 123) (by decide +kernel), List.mem_of_getElem? (i := 663) (by decide +kernel), List.mem_of_getElem? (i := 664) (by decide +kernel)⟩
theorem lw_p29 : lw_okq (⟨"TollAlmanac$Reader", "takeNumber", "(II)J"⟩, 8) := ⟨⟨by decide +kernel, by decide +kernel⟩, List.mem_of_getElem? (i := 123) (by decide +kernel), List.mem_of_getElem? (i := 667) (by decide +kernel), List.mem_of_getElem? (i := 668) (by decide +kernel)⟩
theorem lw_p30 : lw_okq (⟨"TollAlmanac$Reader", "readCheck", "()V"⟩, 8) := ⟨⟨by decide +kernel, by decide +kernel⟩, List.mem_of_getElem? (i := 123) (by decide +kernel), List.mem_of_getElem? (i := 676) (by decide +kernel), List.mem_of_getElem? (i := 677) (by decide +kernel)⟩
theorem lw_p31 : lw_okq (⟨"TollAlmanac$Reader", "readTry", "(I)V"⟩, 8) := ⟨⟨by decide +kernel, by decide +kernel⟩, List.mem_of_getElem? (i := 123) (by decide +kernel), List.mem_of_getElem? (i := 680) (by decide +kernel), List.mem_of_getElem? (i := 681) (by decide +kernel)⟩
def lw_privs_2 : List (MethodName × Nat) := [(⟨"TollAlmanac$Reader", "readConstantOperand", "()V"⟩, 8), (⟨"TollAlmanac$Reader", "takeMinus", "()Z"⟩, 8), (⟨"TollAlmanac$Reader", "readNumberOrYear", "()I"⟩, 8), (⟨"TollAlmanac$Reader", "readConstName", "(I)V"⟩, 8), (⟨"TollAlmanac$Reader", "readRule", "()V"⟩, 8), (⟨"TollAlmanac$Reader", "readChoice", "(I)V"⟩, 8), (⟨"TollAlmanac$Reader", "readSum", "(I)V"⟩, 8), (⟨"TollAlmanac$Reader", "readProduct", "(I)V"⟩, 8), (⟨"TollAlmanac$Reader", "readOperand", "(I)V"⟩, 8), (⟨"TollAlmanac$Reader", "readReference", "(II)V"⟩, 8), (⟨"TollAlmanac$Reader", "readSetting", "(I)V"⟩, 8), (⟨"TollAlmanac$Reader", "readStep", "(I)V"⟩, 8), (⟨"TollAlmanac$Reader", "readTable", "()V"⟩, 8), (⟨"TollAlmanac$Reader", "takeNumber", "(II)J"⟩, 8), (⟨"TollAlmanac$Reader", "readCheck", "()V"⟩, 8), (⟨"TollAlmanac$Reader", "readTry", "(I)V"⟩, 8)]
theorem lw_r2 : ∀ q ∈ lw_privs_2, lw_okq q := List.forall_mem_cons.mpr ⟨lw_p16, List.forall_mem_cons.mpr ⟨lw_p17, List.forall_mem_cons.mpr ⟨lw_p18, List.forall_mem_cons.mpr ⟨lw_p19, List.forall_mem_cons.mpr ⟨lw_p20, List.forall_mem_cons.mpr ⟨lw_p21, List.forall_mem_cons.mpr ⟨lw_p22, List.forall_mem_cons.mpr ⟨lw_p23, List.forall_mem_cons.mpr ⟨lw_p24, List.forall_mem_cons.mpr ⟨lw_p25, List.forall_mem_cons.mpr ⟨lw_p26, List.forall_mem_cons.mpr ⟨lw_p27, List.forall_mem_cons.mpr ⟨lw_p28, List.forall_mem_cons.mpr ⟨lw_p29, List.forall_mem_cons.mpr ⟨lw_p30, List.forall_mem_cons.mpr ⟨lw_p31, fun _ h => absurd h List.not_mem_nil⟩⟩⟩⟩⟩⟩⟩⟩⟩⟩⟩⟩⟩⟩⟩⟩
theorem lw_p32 : lw_okq (⟨"TollAlmanac$Reader", "readSteps", "(I)V"⟩, 8) := ⟨⟨by decide +kernel, by decide +kernel⟩, List.mem_of_getElem? (i := 123) (by decide +kernel), List.mem_of_getElem? (i := 688) (by decide +kernel), List.mem_of_getElem? (i := 689) (by decide +kernel)⟩
theorem lw_p33 : lw_okq (⟨"TollAlmanac$Editions", "touchedYears", "()I"⟩, 4) := ⟨⟨by decide +kernel, by decide +kernel⟩, List.mem_of_getElem? (i := 238) (by decide +kernel), List.mem_of_getElem? (i := 800) (by decide +kernel), List.mem_of_getElem? (i := 801) (by decide +kernel)⟩
theorem lw_p34 : lw_okq (⟨"TollAlmanac$Settler", "settle", "(I)V"⟩, 5) := ⟨⟨by decide +kernel, by decide +kernel⟩, List.mem_of_getElem? (i := 311) (by decide +kernel), List.mem_of_getElem? (i := 818) (by decide +kernel), List.mem_of_getElem? (i := 819) (by decide +kernel)⟩
theorem lw_p35 : lw_okq (⟨"TollAlmanac$Settler", "push", "(I)V"⟩, 5) := ⟨⟨by decide +kernel, by decide +kernel⟩, List.mem_of_getElem? (i := 311) (by decide +kernel), List.mem_of_getElem? (i := 822) (by decide +kernel), List.mem_of_getElem? (i := 823) (by decide +kernel)⟩
theorem lw_p36 : lw_okq (⟨"TollAlmanac$Settler", "mark", "(II)V"⟩, 5) := ⟨⟨by decide +kernel, by decide +kernel⟩, List.mem_of_getElem? (i := 311) (by decide +kernel), List.mem_of_getElem? (i := 826) (by decide +kernel), List.mem_of_getElem? (i := 827) (by decide +kernel)⟩
theorem lw_p37 : lw_okq (⟨"TollAlmanac$Settler", "evaluate", "(I)I"⟩, 5) := ⟨⟨by decide +kernel, by decide +kernel⟩, List.mem_of_getElem? (i := 311) (by decide +kernel), List.mem_of_getElem? (i := 831) (by decide +kernel), List.mem_of_getElem? (i := 832) (by decide +kernel)⟩
theorem lw_p38 : lw_okq (⟨"TollAlmanac$Settler", "refer", "(J)I"⟩, 5) := ⟨⟨by decide +kernel, by decide +kernel⟩, List.mem_of_getElem? (i := 311) (by decide +kernel), List.mem_of_getElem? (i := 835) (by decide +kernel), List.mem_of_getElem? (i := 836) (by decide +kernel)⟩
theorem lw_p39 : lw_okq (⟨"TollAlmanac$Settler", "markOf", "(I)I"⟩, 5) := ⟨⟨by decide +kernel, by decide +kernel⟩, List.mem_of_getElem? (i := 311) (by decide +kernel), List.mem_of_getElem? (i := 848) (by decide +kernel), List.mem_of_getElem? (i := 849) (by decide +kernel)⟩
theorem lw_p40 : lw_okq (⟨"TollAlmanac$Settler", "put", "(J)I"⟩, 5) := ⟨⟨by decide +kernel, by decide +kernel⟩, List.mem_of_getElem? (i := 311) (by decide +kernel), List.mem_of_getElem? (i := 852) (by decide +kernel), List.mem_of_getElem? (i := 853) (by decide +kernel)⟩
theorem lw_p41 : lw_okq (⟨"TollAlmanac$Settler", "calculate", "(IJ)I"⟩, 5) := ⟨⟨by decide +kernel, by decide +kernel⟩, List.mem_of_getElem? (i := 311) (by decide +kernel), List.mem_of_getElem? (i := 858) (by decide +kernel), List.mem_of_getElem? (i := 859) (by decide +kernel)⟩
theorem lw_p42 : lw_okq (⟨"TollAlmanac$Settler", "loseOpen", "()V"⟩, 5) := ⟨⟨by decide +kernel, by decide +kernel⟩, List.mem_of_getElem? (i := 311) (by decide +kernel), List.mem_of_getElem? (i := 868) (by decide +kernel), List.mem_of_getElem? (i := 869) (by decide +kernel)⟩
theorem lw_p43 : lw_okq (⟨"TollAlmanac$Machine", "demand", "(I)I"⟩, 9) := ⟨⟨by decide +kernel, by decide +kernel⟩, List.mem_of_getElem? (i := 333) (by decide +kernel), List.mem_of_getElem? (i := 909) (by decide +kernel), List.mem_of_getElem? (i := 910) (by decide +kernel)⟩
theorem lw_p44 : lw_okq (⟨"TollAlmanac$Machine", "open", "(ILTollAlmanac$Sheet;IZ)V"⟩, 9) := ⟨⟨by decide +kernel, by decide +kernel⟩, List.mem_of_getElem? (i := 333) (by decide +kernel), List.mem_of_getElem? (i := 913) (by decide +kernel), List.mem_of_getElem? (i := 914) (by decide +kernel)⟩
theorem lw_p45 : lw_okq (⟨"TollAlmanac$Machine", "run", "()I"⟩, 9) := ⟨⟨by decide +kernel, by decide +kernel⟩, List.mem_of_getElem? (i := 333) (by decide +kernel), List.mem_of_getElem? (i := 917) (by decide +kernel), List.mem_of_getElem? (i := 918) (by decide +kernel)⟩
theorem lw_p46 : lw_okq (⟨"TollAlmanac$Machine", "advance", "(LTollAlmanac$Frame;)I"⟩, 9) := ⟨⟨by decide +kernel, by decide +kernel⟩, List.mem_of_getElem? (i := 333) (by decide +kernel), List.mem_of_getElem? (i := 922) (by decide +kernel), List.mem_of_getElem? (i := 923) (by decide +kernel)⟩
theorem lw_p47 : lw_okq (⟨"TollAlmanac$Machine", "finish", "(LTollAlmanac$Frame;)I"⟩, 9) := ⟨⟨by decide +kernel, by decide +kernel⟩, List.mem_of_getElem? (i := 333) (by decide +kernel), List.mem_of_getElem? (i := 926) (by decide +kernel), List.mem_of_getElem? (i := 927) (by decide +kernel)⟩
def lw_privs_3 : List (MethodName × Nat) := [(⟨"TollAlmanac$Reader", "readSteps", "(I)V"⟩, 8), (⟨"TollAlmanac$Editions", "touchedYears", "()I"⟩, 4), (⟨"TollAlmanac$Settler", "settle", "(I)V"⟩, 5), (⟨"TollAlmanac$Settler", "push", "(I)V"⟩, 5), (⟨"TollAlmanac$Settler", "mark", "(II)V"⟩, 5), (⟨"TollAlmanac$Settler", "evaluate", "(I)I"⟩, 5), (⟨"TollAlmanac$Settler", "refer", "(J)I"⟩, 5), (⟨"TollAlmanac$Settler", "markOf", "(I)I"⟩, 5), (⟨"TollAlmanac$Settler", "put", "(J)I"⟩, 5), (⟨"TollAlmanac$Settler", "calculate", "(IJ)I"⟩, 5), (⟨"TollAlmanac$Settler", "loseOpen", "()V"⟩, 5), (⟨"TollAlmanac$Machine", "demand", "(I)I"⟩, 9), (⟨"TollAlmanac$Machine", "open", "(ILTollAlmanac$Sheet;IZ)V"⟩, 9), (⟨"TollAlmanac$Machine", "run", "()I"⟩, 9), (⟨"TollAlmanac$Machine", "advance", "(LTollAlmanac$Frame;)I"⟩, 9), (⟨"TollAlmanac$Machine", "finish", "(LTollAlmanac$Frame;)I"⟩, 9)]
theorem lw_r3 : ∀ q ∈ lw_privs_3, lw_okq q := List.forall_mem_cons.mpr ⟨lw_p32, List.forall_mem_cons.mpr ⟨lw_p33, List.forall_mem_cons.mpr ⟨lw_p34, List.forall_mem_cons.mpr ⟨lw_p35, List.forall_mem_cons.mpr ⟨lw_p36, List.forall_mem_cons.mpr ⟨lw_p37, List.forall_mem_cons.mpr ⟨lw_p38, List.forall_mem_cons.mpr ⟨lw_p39, List.forall_mem_cons.mpr ⟨lw_p40, List.forall_mem_cons.mpr ⟨lw_p41, List.forall_mem_cons.mpr ⟨lw_p42, List.forall_mem_cons.mpr ⟨lw_p43, List.forall_mem_cons.mpr ⟨lw_p44, List.forall_mem_cons.mpr ⟨lw_p45, List.forall_mem_cons.mpr ⟨lw_p46, List.forall_mem_cons.mpr ⟨lw_p47, fun _ h => absurd h List.not_mem_nil⟩⟩⟩⟩⟩⟩⟩⟩⟩⟩⟩⟩⟩⟩⟩⟩
theorem lw_p48 : lw_okq (⟨"TollAlmanac$Machine", "push", "(J)I"⟩, 9) := ⟨⟨by decide +kernel, by decide +kernel⟩, List.mem_of_getElem? (i := 333) (by decide +kernel), List.mem_of_getElem? (i := 930) (by decide +kernel), List.mem_of_getElem? (i := 931) (by decide +kernel)⟩
theorem lw_p49 : lw_okq (⟨"TollAlmanac$Machine", "readConst", "(J)I"⟩, 9) := ⟨⟨by decide +kernel, by decide +kernel⟩, List.mem_of_getElem? (i := 333) (by decide +kernel), List.mem_of_getElem? (i := 934) (by decide +kernel), List.mem_of_getElem? (i := 935) (by decide +kernel)⟩
theorem lw_p50 : lw_okq (⟨"TollAlmanac$Machine", "readEntry", "(LTollAlmanac$Frame;J)I"⟩, 9) := ⟨⟨by decide +kernel, by decide +kernel⟩, List.mem_of_getElem? (i := 333) (by decide +kernel), List.mem_of_getElem? (i := 941) (by decide +kernel), List.mem_of_getElem? (i := 942) (by decide +kernel)⟩
theorem lw_p51 : lw_okq (⟨"TollAlmanac$Machine", "pushEntry", "(LTollAlmanac$Tariff;IZ)I"⟩, 9) := ⟨⟨by decide +kernel, by decide +kernel⟩, List.mem_of_getElem? (i := 333) (by decide +kernel), List.mem_of_getElem? (i := 945) (by decide +kernel), List.mem_of_getElem? (i := 946) (by decide +kernel)⟩
theorem lw_p52 : lw_okq (⟨"TollAlmanac$Machine", "pop", "()J"⟩, 9) := ⟨⟨by decide +kernel, by decide +kernel⟩, List.mem_of_getElem? (i := 333) (by decide +kernel), List.mem_of_getElem? (i := 949) (by decide +kernel), List.mem_of_getElem? (i := 950) (by decide +kernel)⟩
theorem lw_p53 : lw_okq (⟨"TollAlmanac$Machine", "storeEntry", "(LTollAlmanac$Frame;I)I"⟩, 9) := ⟨⟨by decide +kernel, by decide +kernel⟩, List.mem_of_getElem? (i := 333) (by decide +kernel), List.mem_of_getElem? (i := 954) (by decide +kernel), List.mem_of_getElem? (i := 955) (by decide +kernel)⟩
theorem lw_p54 : lw_okq (⟨"TollAlmanac$Machine", "calculate", "(I)I"⟩, 9) := ⟨⟨by decide +kernel, by decide +kernel⟩, List.mem_of_getElem? (i := 333) (by decide +kernel), List.mem_of_getElem? (i := 958) (by decide +kernel), List.mem_of_getElem? (i := 959) (by decide +kernel)⟩
theorem lw_p55 : lw_okq (⟨"TollAlmanac$Machine", "unwind", "(I)I"⟩, 9) := ⟨⟨by decide +kernel, by decide +kernel⟩, List.mem_of_getElem? (i := 333) (by decide +kernel), List.mem_of_getElem? (i := 962) (by decide +kernel), List.mem_of_getElem? (i := 963) (by decide +kernel)⟩
theorem lw_p56 : lw_okq (⟨"TollAlmanac", "voyageOf", "(I)LTollAlmanac$Voyage;"⟩, 9) := ⟨⟨by decide +kernel, by decide +kernel⟩, List.mem_of_getElem? (i := 22) (by decide +kernel), List.mem_of_getElem? (i := 1027) (by decide +kernel), List.mem_of_getElem? (i := 1028) (by decide +kernel)⟩
theorem lw_p57 : lw_okq (⟨"TollAlmanac$Machine", "prepare", "(LTollAlmanac$Voyage;I)V"⟩, 9) := ⟨⟨by decide +kernel, by decide +kernel⟩, List.mem_of_getElem? (i := 333) (by decide +kernel), List.mem_of_getElem? (i := 1044) (by decide +kernel), List.mem_of_getElem? (i := 1045) (by decide +kernel)⟩
theorem lw_p58 : lw_okq (⟨"TollAlmanac$Machine", "workRule", "(I)I"⟩, 9) := ⟨⟨by decide +kernel, by decide +kernel⟩, List.mem_of_getElem? (i := 333) (by decide +kernel), List.mem_of_getElem? (i := 1048) (by decide +kernel), List.mem_of_getElem? (i := 1049) (by decide +kernel)⟩
theorem lw_p59 : lw_okq (⟨"TollAlmanacModel", "reads", "()V"⟩, 85) := ⟨⟨by decide +kernel, by decide +kernel⟩, List.mem_of_getElem? (i := 1060) (by decide +kernel), List.mem_of_getElem? (i := 1344) (by decide +kernel), List.mem_of_getElem? (i := 1345) (by decide +kernel)⟩
theorem lw_p60 : lw_okq (⟨"TollAlmanacModel", "advance", "()V"⟩, 85) := ⟨⟨by decide +kernel, by decide +kernel⟩, List.mem_of_getElem? (i := 1060) (by decide +kernel), List.mem_of_getElem? (i := 1348) (by decide +kernel), List.mem_of_getElem? (i := 1349) (by decide +kernel)⟩
theorem lw_p61 : lw_okq (⟨"TollAlmanacModel", "byteAt", "(I)I"⟩, 85) := ⟨⟨by decide +kernel, by decide +kernel⟩, List.mem_of_getElem? (i := 1060) (by decide +kernel), List.mem_of_getElem? (i := 1352) (by decide +kernel), List.mem_of_getElem? (i := 1353) (by decide +kernel)⟩
theorem lw_p62 : lw_okq (⟨"TollAlmanacModel", "isWord", "(I)Z"⟩, 85) := ⟨⟨by decide +kernel, by decide +kernel⟩, List.mem_of_getElem? (i := 1060) (by decide +kernel), List.mem_of_getElem? (i := 1365) (by decide +kernel), List.mem_of_getElem? (i := 1366) (by decide +kernel)⟩
theorem lw_p63 : lw_okq (⟨"TollAlmanacModel", "takesNumber", "()I"⟩, 85) := ⟨⟨by decide +kernel, by decide +kernel⟩, List.mem_of_getElem? (i := 1060) (by decide +kernel), List.mem_of_getElem? (i := 1369) (by decide +kernel), List.mem_of_getElem? (i := 1370) (by decide +kernel)⟩
def lw_privs_4 : List (MethodName × Nat) := [(⟨"TollAlmanac$Machine", "push", "(J)I"⟩, 9), (⟨"TollAlmanac$Machine", "readConst", "(J)I"⟩, 9), (⟨"TollAlmanac$Machine", "readEntry", "(LTollAlmanac$Frame;J)I"⟩, 9), (⟨"TollAlmanac$Machine", "pushEntry", "(LTollAlmanac$Tariff;IZ)I"⟩, 9), (⟨"TollAlmanac$Machine", "pop", "()J"⟩, 9), (⟨"TollAlmanac$Machine", "storeEntry", "(LTollAlmanac$Frame;I)I"⟩, 9), (⟨"TollAlmanac$Machine", "calculate", "(I)I"⟩, 9), (⟨"TollAlmanac$Machine", "unwind", "(I)I"⟩, 9), (⟨"TollAlmanac", "voyageOf", "(I)LTollAlmanac$Voyage;"⟩, 9), (⟨"TollAlmanac$Machine", "prepare", "(LTollAlmanac$Voyage;I)V"⟩, 9), (⟨"TollAlmanac$Machine", "workRule", "(I)I"⟩, 9), (⟨"TollAlmanacModel", "reads", "()V"⟩, 85), (⟨"TollAlmanacModel", "advance", "()V"⟩, 85), (⟨"TollAlmanacModel", "byteAt", "(I)I"⟩, 85), (⟨"TollAlmanacModel", "isWord", "(I)Z"⟩, 85), (⟨"TollAlmanacModel", "takesNumber", "()I"⟩, 85)]
theorem lw_r4 : ∀ q ∈ lw_privs_4, lw_okq q := List.forall_mem_cons.mpr ⟨lw_p48, List.forall_mem_cons.mpr ⟨lw_p49, List.forall_mem_cons.mpr ⟨lw_p50, List.forall_mem_cons.mpr ⟨lw_p51, List.forall_mem_cons.mpr ⟨lw_p52, List.forall_mem_cons.mpr ⟨lw_p53, List.forall_mem_cons.mpr ⟨lw_p54, List.forall_mem_cons.mpr ⟨lw_p55, List.forall_mem_cons.mpr ⟨lw_p56, List.forall_mem_cons.mpr ⟨lw_p57, List.forall_mem_cons.mpr ⟨lw_p58, List.forall_mem_cons.mpr ⟨lw_p59, List.forall_mem_cons.mpr ⟨lw_p60, List.forall_mem_cons.mpr ⟨lw_p61, List.forall_mem_cons.mpr ⟨lw_p62, List.forall_mem_cons.mpr ⟨lw_p63, fun _ h => absurd h List.not_mem_nil⟩⟩⟩⟩⟩⟩⟩⟩⟩⟩⟩⟩⟩⟩⟩⟩
theorem lw_p64 : lw_okq (⟨"TollAlmanacModel", "stops", "()V"⟩, 85) := ⟨⟨by decide +kernel, by decide +kernel⟩, List.mem_of_getElem? (i := 1060) (by decide +kernel), List.mem_of_getElem? (i := 1373) (by decide +kernel), List.mem_of_getElem? (i := 1374) (by decide +kernel)⟩
theorem lw_p65 : lw_okq (⟨"TollAlmanacModel", "yearOf", "(II)I"⟩, 85) := ⟨⟨by decide +kernel, by decide +kernel⟩, List.mem_of_getElem? (i := 1060) (by decide +kernel), List.mem_of_getElem? (i := 1377) (by decide +kernel), List.mem_of_getElem? (i := 1378) (by decide +kernel)⟩
theorem lw_p66 : lw_okq (⟨"TollAlmanacModel", "tells", "(II)V"⟩, 85) := ⟨⟨by decide +kernel, by decide +kernel⟩, List.mem_of_getElem? (i := 1060) (by decide +kernel), List.mem_of_getElem? (i := 1381) (by decide +kernel), List.mem_of_getElem? (i := 1382) (by decide +kernel)⟩
theorem lw_p67 : lw_okq (⟨"TollAlmanacModel", "must", "(I)V"⟩, 85) := ⟨⟨by decide +kernel, by decide +kernel⟩, List.mem_of_getElem? (i := 1060) (by decide +kernel), List.mem_of_getElem? (i := 1385) (by decide +kernel), List.mem_of_getElem? (i := 1386) (by decide +kernel)⟩
theorem lw_p68 : lw_okq (⟨"TollAlmanacModel", "isSign", "(I)Z"⟩, 85) := ⟨⟨by decide +kernel, by decide +kernel⟩, List.mem_of_getElem? (i := 1060) (by decide +kernel), List.mem_of_getElem? (i := 1389) (by decide +kernel), List.mem_of_getElem? (i := 1390) (by decide +kernel)⟩
theorem lw_p69 : lw_okq (⟨"TollAlmanacModel", "aConst", "()V"⟩, 85) := ⟨⟨by decide +kernel, by decide +kernel⟩, List.mem_of_getElem? (i := 1060) (by decide +kernel), List.mem_of_getElem? (i := 1393) (by decide +kernel), List.mem_of_getElem? (i := 1394) (by decide +kernel)⟩
theorem lw_p70 : lw_okq (⟨"TollAlmanacModel", "takesName", "()J"⟩, 85) := ⟨⟨by decide +kernel, by decide +kernel⟩, List.mem_of_getElem? (i := 1060) (by decide +kernel), List.mem_of_getElem? (i := 1397) (by decide +kernel), List.mem_of_getElem? (i := 1398) (by decide +kernel)⟩
theorem lw_p71 : lw_okq (⟨"TollAlmanacModel", "isTaken", "(J)Z"⟩, 85) := ⟨⟨by decide +kernel, by decide +kernel⟩, List.mem_of_getElem? (i := 1060) (by decide +kernel), List.mem_of_getElem? (i := 1401) (by decide +kernel), List.mem_of_getElem? (i := 1402) (by decide +kernel)⟩
theorem lw_p72 : lw_okq (⟨"TollAlmanacModel", "plainSum", "()V"⟩, 85) := ⟨⟨by decide +kernel, by decide +kernel⟩, List.mem_of_getElem? (i := 1060) (by decide +kernel), List.mem_of_getElem? (i := 1405) (by decide +kernel), List.mem_of_getElem? (i := 1406) (by decide +kernel)⟩
theorem lw_p73 : lw_okq (⟨"TollAlmanacModel", "plainProduct", "()V"⟩, 85) := ⟨⟨by decide +kernel, by decide +kernel⟩, List.mem_of_getElem? (i := 1060) (by decide +kernel), List.mem_of_getElem? (i := 1409) (by decide +kernel), List.mem_of_getElem? (i := 1410) (by decide +kernel)⟩
theorem lw_p74 : lw_okq (⟨"TollAlmanacModel", "plainPart", "()V"⟩, 85) := ⟨⟨by decide +kernel, by decide +kernel⟩, List.mem_of_getElem? (i := 1060) (by decide +kernel), List.mem_of_getElem? (i := 1413) (by decide +kernel), List.mem_of_getElem? (i := 1414) (by decide +kernel)⟩
theorem lw_p75 : lw_okq (⟨"TollAlmanacModel", "takes", "(I)Z"⟩, 85) := ⟨⟨by decide +kernel, by decide +kernel⟩, List.mem_of_getElem? (i := 1060) (by decide +kernel), List.mem_of_getElem? (i := 1417) (by decide +kernel), List.mem_of_getElem? (i := 1418) (by decide +kernel)⟩
theorem lw_p76 : lw_okq (⟨"TollAlmanacModel", "emit", "(IJI)V"⟩, 85) := ⟨⟨by decide +kernel, by decide +kernel⟩, List.mem_of_getElem? (i := 1060) (by decide +kernel), List.mem_of_getElem? (i := 1421) (by decide +kernel), List.mem_of_getElem? (i := 1422) (by decide +kernel)⟩
theorem lw_p77 : lw_okq (⟨"TollAlmanacModel", "rule", "()V"⟩, 85) := ⟨⟨by decide +kernel, by decide +kernel⟩, List.mem_of_getElem? (i := 1060) (by decide +kernel), List.mem_of_getElem? (i := 1425) (by decide +kernel), List.mem_of_getElem? (i := 1426) (by decide +kernel)⟩
theorem lw_p78 : lw_okq (⟨"TollAlmanacModel", "whole", "()V"⟩, 85) := ⟨⟨by decide +kernel, by decide +kernel⟩, List.mem_of_getElem? (i := 1060) (by decide +kernel), List.mem_of_getElem? (i := 1429) (by decide +kernel), List.mem_of_getElem? (i := 1430) (by decide +kernel)⟩
theorem lw_p79 : lw_okq (⟨"TollAlmanacModel", "formula", "()V"⟩, 85) := ⟨⟨by decide +kernel, by decide +kernel⟩, List.mem_of_getElem? (i := 1060) (by decide +kernel), List.mem_of_getElem? (i := 1433) (by decide +kernel), List.mem_of_getElem? (i := 1434) (by decide +kernel)⟩
def lw_privs_5 : List (MethodName × Nat) := [(⟨"TollAlmanacModel", "stops", "()V"⟩, 85), (⟨"TollAlmanacModel", "yearOf", "(II)I"⟩, 85), (⟨"TollAlmanacModel", "tells", "(II)V"⟩, 85), (⟨"TollAlmanacModel", "must", "(I)V"⟩, 85), (⟨"TollAlmanacModel", "isSign", "(I)Z"⟩, 85), (⟨"TollAlmanacModel", "aConst", "()V"⟩, 85), (⟨"TollAlmanacModel", "takesName", "()J"⟩, 85), (⟨"TollAlmanacModel", "isTaken", "(J)Z"⟩, 85), (⟨"TollAlmanacModel", "plainSum", "()V"⟩, 85), (⟨"TollAlmanacModel", "plainProduct", "()V"⟩, 85), (⟨"TollAlmanacModel", "plainPart", "()V"⟩, 85), (⟨"TollAlmanacModel", "takes", "(I)Z"⟩, 85), (⟨"TollAlmanacModel", "emit", "(IJI)V"⟩, 85), (⟨"TollAlmanacModel", "rule", "()V"⟩, 85), (⟨"TollAlmanacModel", "whole", "()V"⟩, 85), (⟨"TollAlmanacModel", "formula", "()V"⟩, 85)]
theorem lw_r5 : ∀ q ∈ lw_privs_5, lw_okq q := List.forall_mem_cons.mpr ⟨lw_p64, List.forall_mem_cons.mpr ⟨lw_p65, List.forall_mem_cons.mpr ⟨lw_p66, List.forall_mem_cons.mpr ⟨lw_p67, List.forall_mem_cons.mpr ⟨lw_p68, List.forall_mem_cons.mpr ⟨lw_p69, List.forall_mem_cons.mpr ⟨lw_p70, List.forall_mem_cons.mpr ⟨lw_p71, List.forall_mem_cons.mpr ⟨lw_p72, List.forall_mem_cons.mpr ⟨lw_p73, List.forall_mem_cons.mpr ⟨lw_p74, List.forall_mem_cons.mpr ⟨lw_p75, List.forall_mem_cons.mpr ⟨lw_p76, List.forall_mem_cons.mpr ⟨lw_p77, List.forall_mem_cons.mpr ⟨lw_p78, List.forall_mem_cons.mpr ⟨lw_p79, fun _ h => absurd h List.not_mem_nil⟩⟩⟩⟩⟩⟩⟩⟩⟩⟩⟩⟩⟩⟩⟩⟩
theorem lw_p80 : lw_okq (⟨"TollAlmanacModel", "compared", "()V"⟩, 85) := ⟨⟨by decide +kernel, by decide +kernel⟩, List.mem_of_getElem? (i := 1060) (by decide +kernel), List.mem_of_getElem? (i := 1437) (by decide +kernel), List.mem_of_getElem? (i := 1438) (by decide +kernel)⟩
theorem lw_p81 : lw_okq (⟨"TollAlmanacModel", "sum", "()V"⟩, 85) := ⟨⟨by decide +kernel, by decide +kernel⟩, List.mem_of_getElem? (i := 1060) (by decide +kernel), List.mem_of_getElem? (i := 1441) (by decide +kernel), List.mem_of_getElem? (i := 1442) (by decide +kernel)⟩
theorem lw_p82 : lw_okq (⟨"TollAlmanacModel", "product", "()V"⟩, 85) := ⟨⟨by decide +kernel, by decide +kernel⟩, List.mem_of_getElem? (i := 1060) (by decide +kernel), List.mem_of_getElem? (i := 1445) (by decide +kernel), List.mem_of_getElem? (i := 1446) (by decide +kernel)⟩
theorem lw_p83 : lw_okq (⟨"TollAlmanacModel", "signed", "()V"⟩, 85) := ⟨⟨by decide +kernel, by decide +kernel⟩, List.mem_of_getElem? (i := 1060) (by decide +kernel), List.mem_of_getElem? (i := 1449) (by decide +kernel), List.mem_of_getElem? (i := 1450) (by decide +kernel)⟩
theorem lw_p84 : lw_okq (⟨"TollAlmanacModel", "atom", "()V"⟩, 85) := ⟨⟨by decide +kernel, by decide +kernel⟩, List.mem_of_getElem? (i := 1060) (by decide +kernel), List.mem_of_getElem? (i := 1453) (by decide +kernel), List.mem_of_getElem? (i := 1454) (by decide +kernel)⟩
theorem lw_p85 : lw_okq (⟨"TollAlmanacModel", "called", "(JI)V"⟩, 85) := ⟨⟨by decide +kernel, by decide +kernel⟩, List.mem_of_getElem? (i := 1060) (by decide +kernel), List.mem_of_getElem? (i := 1457) (by decide +kernel), List.mem_of_getElem? (i := 1458) (by decide +kernel)⟩
theorem lw_p86 : lw_okq (⟨"TollAlmanacModel", "step", "()V"⟩, 85) := ⟨⟨by decide +kernel, by decide +kernel⟩, List.mem_of_getElem? (i := 1060) (by decide +kernel), List.mem_of_getElem? (i := 1461) (by decide +kernel), List.mem_of_getElem? (i := 1462) (by decide +kernel)⟩
theorem lw_p87 : lw_okq (⟨"TollAlmanacModel", "table", "()V"⟩, 85) := ⟨⟨by decide +kernel, by decide +kernel⟩, List.mem_of_getElem? (i := 1060) (by decide +kernel), List.mem_of_getElem? (i := 1465) (by decide +kernel), List.mem_of_getElem? (i := 1466) (by decide +kernel)⟩
theorem lw_p88 : lw_okq (⟨"TollAlmanacModel", "mark", "(III)V"⟩, 85) := ⟨⟨by decide +kernel, by decide +kernel⟩, List.mem_of_getElem? (i := 1060) (by decide +kernel), List.mem_of_getElem? (i := 1469) (by decide +kernel), List.mem_of_getElem? (i := 1470) (by decide +kernel)⟩
theorem lw_p89 : lw_okq (⟨"TollAlmanacModel", "check", "()V"⟩, 85) := ⟨⟨by decide +kernel, by decide +kernel⟩, List.mem_of_getElem? (i := 1060) (by decide +kernel), List.mem_of_getElem? (i := 1473) (by decide +kernel), List.mem_of_getElem? (i := 1474) (by decide +kernel)⟩
theorem lw_p90 : lw_okq (⟨"TollAlmanacModel", "block", "()V"⟩, 85) := ⟨⟨by decide +kernel, by decide +kernel⟩, List.mem_of_getElem? (i := 1060) (by decide +kernel), List.mem_of_getElem? (i := 1477) (by decide +kernel), List.mem_of_getElem? (i := 1478) (by decide +kernel)⟩
theorem lw_p91 : lw_okq (⟨"TollAlmanacModel", "keeps", "(I)V"⟩, 85) := ⟨⟨by decide +kernel, by decide +kernel⟩, List.mem_of_getElem? (i := 1060) (by decide +kernel), List.mem_of_getElem? (i := 1481) (by decide +kernel), List.mem_of_getElem? (i := 1482) (by decide +kernel)⟩
theorem lw_p92 : lw_okq (⟨"TollAlmanacModel", "copies", "(I)V"⟩, 85) := ⟨⟨by decide +kernel, by decide +kernel⟩, List.mem_of_getElem? (i := 1060) (by decide +kernel), List.mem_of_getElem? (i := 1497) (by decide +kernel), List.mem_of_getElem? (i := 1498) (by decide +kernel)⟩
theorem lw_p93 : lw_okq (⟨"TollAlmanacModel", "worksConstants", "()V"⟩, 85) := ⟨⟨by decide +kernel, by decide +kernel⟩, List.mem_of_getElem? (i := 1060) (by decide +kernel), List.mem_of_getElem? (i := 1517) (by decide +kernel), List.mem_of_getElem? (i := 1518) (by decide +kernel)⟩
theorem lw_p94 : lw_okq (⟨"TollAlmanacModel", "comesOut", "(I)Z"⟩, 85) := ⟨⟨by decide +kernel, by decide +kernel⟩, List.mem_of_getElem? (i := 1060) (by decide +kernel), List.mem_of_getElem? (i := 1521) (by decide +kernel), List.mem_of_getElem? (i := 1522) (by decide +kernel)⟩
theorem lw_p95 : lw_okq (⟨"TollAlmanacModel", "constOf", "(IJ)I"⟩, 85) := ⟨⟨by decide +kernel, by decide +kernel⟩, List.mem_of_getElem? (i := 1060) (by decide +kernel), List.mem_of_getElem? (i := 1525) (by decide +kernel), List.mem_of_getElem? (i := 1526) (by decide +kernel)⟩
def lw_privs_6 : List (MethodName × Nat) := [(⟨"TollAlmanacModel", "compared", "()V"⟩, 85), (⟨"TollAlmanacModel", "sum", "()V"⟩, 85), (⟨"TollAlmanacModel", "product", "()V"⟩, 85), (⟨"TollAlmanacModel", "signed", "()V"⟩, 85), (⟨"TollAlmanacModel", "atom", "()V"⟩, 85), (⟨"TollAlmanacModel", "called", "(JI)V"⟩, 85), (⟨"TollAlmanacModel", "step", "()V"⟩, 85), (⟨"TollAlmanacModel", "table", "()V"⟩, 85), (⟨"TollAlmanacModel", "mark", "(III)V"⟩, 85), (⟨"TollAlmanacModel", "check", "()V"⟩, 85), (⟨"TollAlmanacModel", "block", "()V"⟩, 85), (⟨"TollAlmanacModel", "keeps", "(I)V"⟩, 85), (⟨"TollAlmanacModel", "copies", "(I)V"⟩, 85), (⟨"TollAlmanacModel", "worksConstants", "()V"⟩, 85), (⟨"TollAlmanacModel", "comesOut", "(I)Z"⟩, 85), (⟨"TollAlmanacModel", "constOf", "(IJ)I"⟩, 85)]
theorem lw_r6 : ∀ q ∈ lw_privs_6, lw_okq q := List.forall_mem_cons.mpr ⟨lw_p80, List.forall_mem_cons.mpr ⟨lw_p81, List.forall_mem_cons.mpr ⟨lw_p82, List.forall_mem_cons.mpr ⟨lw_p83, List.forall_mem_cons.mpr ⟨lw_p84, List.forall_mem_cons.mpr ⟨lw_p85, List.forall_mem_cons.mpr ⟨lw_p86, List.forall_mem_cons.mpr ⟨lw_p87, List.forall_mem_cons.mpr ⟨lw_p88, List.forall_mem_cons.mpr ⟨lw_p89, List.forall_mem_cons.mpr ⟨lw_p90, List.forall_mem_cons.mpr ⟨lw_p91, List.forall_mem_cons.mpr ⟨lw_p92, List.forall_mem_cons.mpr ⟨lw_p93, List.forall_mem_cons.mpr ⟨lw_p94, List.forall_mem_cons.mpr ⟨lw_p95, fun _ h => absurd h List.not_mem_nil⟩⟩⟩⟩⟩⟩⟩⟩⟩⟩⟩⟩⟩⟩⟩⟩
theorem lw_p96 : lw_okq (⟨"TollAlmanacModel", "needs", "(I)I"⟩, 85) := ⟨⟨by decide +kernel, by decide +kernel⟩, List.mem_of_getElem? (i := 1060) (by decide +kernel), List.mem_of_getElem? (i := 1542) (by decide +kernel), List.mem_of_getElem? (i := 1543) (by decide +kernel)⟩
theorem lw_p97 : lw_okq (⟨"TollAlmanacModel", "does", "(I)I"⟩, 85) := ⟨⟨by decide +kernel, by decide +kernel⟩, List.mem_of_getElem? (i := 1060) (by decide +kernel), List.mem_of_getElem? (i := 1546) (by decide +kernel), List.mem_of_getElem? (i := 1547) (by decide +kernel)⟩
theorem lw_p98 : lw_okq (⟨"TollAlmanacModel", "builds", "(III)I"⟩, 85) := ⟨⟨by decide +kernel, by decide +kernel⟩, List.mem_of_getElem? (i := 1060) (by decide +kernel), List.mem_of_getElem? (i := 1550) (by decide +kernel), List.mem_of_getElem? (i := 1551) (by decide +kernel)⟩
theorem lw_p99 : lw_okq (⟨"TollAlmanacModel", "works", "(III)I"⟩, 85) := ⟨⟨by decide +kernel, by decide +kernel⟩, List.mem_of_getElem? (i := 1060) (by decide +kernel), List.mem_of_getElem? (i := 1554) (by decide +kernel), List.mem_of_getElem? (i := 1555) (by decide +kernel)⟩
theorem lw_p100 : lw_okq (⟨"TollAlmanacModel", "told", "(II)J"⟩, 85) := ⟨⟨by decide +kernel, by decide +kernel⟩, List.mem_of_getElem? (i := 1060) (by decide +kernel), List.mem_of_getElem? (i := 1558) (by decide +kernel), List.mem_of_getElem? (i := 1559) (by decide +kernel)⟩
theorem lw_p101 : lw_okq (⟨"TollAlmanacModel", "looks", "(IIJJ)I"⟩, 85) := ⟨⟨by decide +kernel, by decide +kernel⟩, List.mem_of_getElem? (i := 1060) (by decide +kernel), List.mem_of_getElem? (i := 1562) (by decide +kernel), List.mem_of_getElem? (i := 1563) (by decide +kernel)⟩
theorem lw_p102 : lw_okq (⟨"TollAlmanacModel", "tableOf", "(IJ)I"⟩, 85) := ⟨⟨by decide +kernel, by decide +kernel⟩, List.mem_of_getElem? (i := 1060) (by decide +kernel), List.mem_of_getElem? (i := 1566) (by decide +kernel), List.mem_of_getElem? (i := 1567) (by decide +kernel)⟩
theorem lw_p103 : lw_okq (⟨"TollAlmanacModel", "lined", "(I)I"⟩, 85) := ⟨⟨by decide +kernel, by decide +kernel⟩, List.mem_of_getElem? (i := 1060) (by decide +kernel), List.mem_of_getElem? (i := 1591) (by decide +kernel), List.mem_of_getElem? (i := 1592) (by decide +kernel)⟩
def lw_privs_7 : List (MethodName × Nat) := [(⟨"TollAlmanacModel", "needs", "(I)I"⟩, 85), (⟨"TollAlmanacModel", "does", "(I)I"⟩, 85), (⟨"TollAlmanacModel", "builds", "(III)I"⟩, 85), (⟨"TollAlmanacModel", "works", "(III)I"⟩, 85), (⟨"TollAlmanacModel", "told", "(II)J"⟩, 85), (⟨"TollAlmanacModel", "looks", "(IIJJ)I"⟩, 85), (⟨"TollAlmanacModel", "tableOf", "(IJ)I"⟩, 85), (⟨"TollAlmanacModel", "lined", "(I)I"⟩, 85)]
theorem lw_r7 : ∀ q ∈ lw_privs_7, lw_okq q := List.forall_mem_cons.mpr ⟨lw_p96, List.forall_mem_cons.mpr ⟨lw_p97, List.forall_mem_cons.mpr ⟨lw_p98, List.forall_mem_cons.mpr ⟨lw_p99, List.forall_mem_cons.mpr ⟨lw_p100, List.forall_mem_cons.mpr ⟨lw_p101, List.forall_mem_cons.mpr ⟨lw_p102, List.forall_mem_cons.mpr ⟨lw_p103, fun _ h => absurd h List.not_mem_nil⟩⟩⟩⟩⟩⟩⟩⟩
def lw_privs : List (MethodName × Nat) := lw_privs_1 ++ (lw_privs_2 ++ (lw_privs_3 ++ (lw_privs_4 ++ (lw_privs_5 ++ (lw_privs_6 ++ (lw_privs_7))))))
def lw_tbl : List Cond := k2_sels lw_privs ++ tables_1
theorem lw_privs_ok : ∀ q ∈ lw_privs, lw_okq q := by
  show ∀ q ∈ lw_privs_1 ++ (lw_privs_2 ++ (lw_privs_3 ++ (lw_privs_4 ++ (lw_privs_5 ++ (lw_privs_6 ++ (lw_privs_7)))))), lw_okq q
  exact List.forall_mem_append.mpr ⟨lw_r1, List.forall_mem_append.mpr ⟨lw_r2, List.forall_mem_append.mpr ⟨lw_r3, List.forall_mem_append.mpr ⟨lw_r4, List.forall_mem_append.mpr ⟨lw_r5, List.forall_mem_append.mpr ⟨lw_r6, lw_r7⟩⟩⟩⟩⟩⟩
theorem goodIn_r {big : List Cond} (ws : List Cond) (ps : List Nat) (hp : ws = ps.filterMap (fun i => big[i]?)) (h : ws.all goodWord = true) : GoodIn big ws := by
  intro w hw
  have h1 := List.all_eq_true.mp h w hw
  rw [hp] at hw
  obtain ⟨i, -, hi⟩ := List.mem_filterMap.mp hw
  have hm : w ∈ big := by first | exact List.mem_of_getElem? hi | exact List.getElem?_mem hi
  exact ⟨hm, good_of_word h1⟩
theorem goodIn_app {big a b : List Cond} (ha : GoodIn big a) (hb : GoodIn big b) : GoodIn big (a ++ b) := fun w h => (List.mem_append.mp h).elim (ha w) (hb w)
theorem goodIn_ca {big a b : List Cond} {c : Cond} (ha : GoodIn big (c :: a)) (hb : GoodIn big b) : GoodIn big (c :: (a ++ b)) := fun w h => (List.mem_cons.mp h).elim (fun e => ha w (List.mem_cons.mpr (Or.inl e))) (fun h => (List.mem_append.mp h).elim (fun h => ha w (List.mem_cons.mpr (Or.inr h))) (hb w))
theorem goodIn_sub {big ws : List Cond} (hm : ∀ w ∈ ws, w ∈ big) (h : ws.all goodWord = true) : GoodIn big ws := fun w hw => ⟨hm w hw, good_of_word (List.all_eq_true.mp h w hw)⟩
def RX0 : String := "TollAlmanac$Draft"
def TX0 : u_T := fun k => match k with
  | 0 => ("TollAlmanac$Draft", "under", "I", false)
  | 1 => ("TollAlmanac$Draft", "leaning", "I", false)
  | 2 => ("TollAlmanac$Draft", "steps", "I", false)
  | 3 => ("TollAlmanac$Draft", "rule", "I", false)
  | 4 => ("TollAlmanac$Draft", "ops", "[I", true)
  | 5 => ("TollAlmanac$Draft", "args", "[J", true)
  | 6 => ("TollAlmanac$Draft", "size", "I", false)
  | 7 => ("TollAlmanac$Draft", "constNames", "[J", true)
  | 8 => ("TollAlmanac$Draft", "constStarts", "[I", true)
  | 9 => ("TollAlmanac$Draft", "consts", "I", false)
  | 10 => ("TollAlmanac$Draft", "tableNames", "[J", true)
  | 11 => ("TollAlmanac$Draft", "tableSizes", "[I", true)
  | 12 => ("TollAlmanac$Draft", "tables", "I", false)
  | 13 => ("TollAlmanac$Draft", "tryStarts", "[I", true)
  | 14 => ("TollAlmanac$Draft", "tryEnds", "[I", true)
  | 15 => ("TollAlmanac$Draft", "elseStarts", "[I", true)
  | _ => ("TollAlmanac$Draft", "tries", "I", false)
def tyX0 : Nat → FieldType := fun k => match k with
  | 0 => .int
  | 1 => .int
  | 2 => .int
  | 3 => .int
  | 4 => .array .int
  | 5 => .array .long
  | 6 => .int
  | 7 => .array .long
  | 8 => .array .int
  | 9 => .int
  | 10 => .array .long
  | 11 => .array .int
  | 12 => .int
  | 13 => .array .int
  | 14 => .array .int
  | 15 => .array .int
  | _ => .int
theorem nmX0 : ∀ a, a < 17 → ∀ b, b < 17 → a ≠ b → (TX0 a).2.1 ≠ (TX0 b).2.1 := by decide +kernel
theorem tyX0_ok : ∀ k, k < 17 → parseFieldDescriptor (TX0 k).2.2.1 = some (tyX0 k) := by decide +kernel
abbrev cX0_init : ByteArray := prog_2_method_1_code
def yX0_init : MethodName := ⟨RX0, "<init>", "()V"⟩
abbrev cX0_clear : ByteArray := prog_2_method_2_code
def yX0_clear : MethodName := ⟨RX0, "clear", "()V"⟩
abbrev cX0_emit : ByteArray := prog_2_method_3_code
def yX0_emit : MethodName := ⟨RX0, "emit", "(IJ)I"⟩
abbrev cX0_emitReference : ByteArray := prog_2_method_4_code
def yX0_emitReference : MethodName := ⟨RX0, "emitReference", "(IIJ)V"⟩
abbrev cX0_landHere : ByteArray := prog_2_method_5_code
def yX0_landHere : MethodName := ⟨RX0, "landHere", "(I)V"⟩
abbrev cX0_hasName : ByteArray := prog_2_method_6_code
def yX0_hasName : MethodName := ⟨RX0, "hasName", "(J)Z"⟩
abbrev cX0_addConst : ByteArray := prog_2_method_7_code
def yX0_addConst : MethodName := ⟨RX0, "addConst", "(J)V"⟩
abbrev cX0_addTable : ByteArray := prog_2_method_8_code
def yX0_addTable : MethodName := ⟨RX0, "addTable", "(JJ)V"⟩
abbrev cX0_openTry : ByteArray := prog_2_method_9_code
def yX0_openTry : MethodName := ⟨RX0, "openTry", "()I"⟩
abbrev cX0_closeTry : ByteArray := prog_2_method_10_code
def yX0_closeTry : MethodName := ⟨RX0, "closeTry", "(I)V"⟩
def RX1 : String := "TollAlmanac$Editions"
def TX1 : u_T := fun k => match k with
  | 0 => ("TollAlmanac$Editions", "sheets", "[LTollAlmanac$Sheet;", true)
  | 1 => ("TollAlmanac$Editions", "tariffs", "[LTollAlmanac$Tariff;", true)
  | 2 => ("TollAlmanac$Editions", "changed", "I", false)
  | _ => ("TollAlmanac$Editions", "edition", "I", false)
def tyX1 : Nat → FieldType := fun k => match k with
  | 0 => .array (.object "TollAlmanac$Sheet")
  | 1 => .array (.object "TollAlmanac$Tariff")
  | 2 => .int
  | _ => .int
theorem nmX1 : ∀ a, a < 4 → ∀ b, b < 4 → a ≠ b → (TX1 a).2.1 ≠ (TX1 b).2.1 := by decide +kernel
theorem tyX1_ok : ∀ k, k < 4 → parseFieldDescriptor (TX1 k).2.2.1 = some (tyX1 k) := by decide +kernel
abbrev cX1_init : ByteArray := prog_3_method_1_code
def yX1_init : MethodName := ⟨RX1, "<init>", "()V"⟩
abbrev cX1_change : ByteArray := prog_3_method_2_code
def yX1_change : MethodName := ⟨RX1, "change", "(ILTollAlmanac$Sheet;)V"⟩
abbrev cX1_renew : ByteArray := prog_3_method_3_code
def yX1_renew : MethodName := ⟨RX1, "renew", "()I"⟩
abbrev cX1_touchedYears : ByteArray := prog_3_method_4_code
def yX1_touchedYears : MethodName := ⟨RX1, "touchedYears", "()I"⟩
abbrev cX1_find : ByteArray := prog_3_method_5_code
def yX1_find : MethodName := ⟨RX1, "find", "(IJ)I"⟩
def RX2 : String := "TollAlmanac$Frame"
def TX2 : u_T := fun k => match k with
  | 0 => ("TollAlmanac$Frame", "year", "I", false)
  | 1 => ("TollAlmanac$Frame", "sheet", "LTollAlmanac$Sheet;", false)
  | 2 => ("TollAlmanac$Frame", "pc", "I", false)
  | 3 => ("TollAlmanac$Frame", "base", "I", false)
  | 4 => ("TollAlmanac$Frame", "at", "I", false)
  | _ => ("TollAlmanac$Frame", "starting", "Z", false)
def tyX2 : Nat → FieldType := fun k => match k with
  | 0 => .int
  | 1 => .object "TollAlmanac$Sheet"
  | 2 => .int
  | 3 => .int
  | 4 => .int
  | _ => .boolean
theorem nmX2 : ∀ a, a < 6 → ∀ b, b < 6 → a ≠ b → (TX2 a).2.1 ≠ (TX2 b).2.1 := by decide +kernel
theorem tyX2_ok : ∀ k, k < 6 → parseFieldDescriptor (TX2 k).2.2.1 = some (tyX2 k) := by decide +kernel
abbrev cX2_init : ByteArray := prog_4_method_1_code
def yX2_init : MethodName := ⟨RX2, "<init>", "()V"⟩
def RX3 : String := "TollAlmanac$Machine"
def TX3 : u_T := fun k => match k with
  | 0 => ("TollAlmanac$Machine", "editions", "LTollAlmanac$Editions;", true)
  | 1 => ("TollAlmanac$Machine", "frames", "[LTollAlmanac$Frame;", true)
  | 2 => ("TollAlmanac$Machine", "depth", "I", false)
  | 3 => ("TollAlmanac$Machine", "stack", "[J", true)
  | 4 => ("TollAlmanac$Machine", "top", "I", false)
  | 5 => ("TollAlmanac$Machine", "settings", "[J", true)
  | 6 => ("TollAlmanac$Machine", "result", "J", false)
  | 7 => ("TollAlmanac$Machine", "startRow", "[I", true)
  | _ => ("TollAlmanac$Machine", "starts", "I", false)
def tyX3 : Nat → FieldType := fun k => match k with
  | 0 => .object "TollAlmanac$Editions"
  | 1 => .array (.object "TollAlmanac$Frame")
  | 2 => .int
  | 3 => .array .long
  | 4 => .int
  | 5 => .array .long
  | 6 => .long
  | 7 => .array .int
  | _ => .int
theorem nmX3 : ∀ a, a < 9 → ∀ b, b < 9 → a ≠ b → (TX3 a).2.1 ≠ (TX3 b).2.1 := by decide +kernel
theorem tyX3_ok : ∀ k, k < 9 → parseFieldDescriptor (TX3 k).2.2.1 = some (tyX3 k) := by decide +kernel
abbrev cX3_init : ByteArray := prog_5_method_1_code
def yX3_init : MethodName := ⟨RX3, "<init>", "(LTollAlmanac$Editions;)V"⟩
abbrev cX3_summon : ByteArray := prog_5_method_2_code
def yX3_summon : MethodName := ⟨RX3, "summon", "(I)I"⟩
abbrev cX3_charge : ByteArray := prog_5_method_3_code
def yX3_charge : MethodName := ⟨RX3, "charge", "(LTollAlmanac$Voyage;)I"⟩
abbrev cX3_prepare : ByteArray := prog_5_method_4_code
def yX3_prepare : MethodName := ⟨RX3, "prepare", "(LTollAlmanac$Voyage;I)V"⟩
abbrev cX3_workRule : ByteArray := prog_5_method_5_code
def yX3_workRule : MethodName := ⟨RX3, "workRule", "(I)I"⟩
abbrev cX3_open : ByteArray := prog_5_method_6_code
def yX3_open : MethodName := ⟨RX3, "open", "(ILTollAlmanac$Sheet;IZ)V"⟩
abbrev cX3_demand : ByteArray := prog_5_method_7_code
def yX3_demand : MethodName := ⟨RX3, "demand", "(I)I"⟩
abbrev cX3_run : ByteArray := prog_5_method_8_code
def yX3_run : MethodName := ⟨RX3, "run", "()I"⟩
abbrev cX3_unwind : ByteArray := prog_5_method_9_code
def yX3_unwind : MethodName := ⟨RX3, "unwind", "(I)I"⟩
abbrev cX3_advance : ByteArray := prog_5_method_10_code
def yX3_advance : MethodName := ⟨RX3, "advance", "(LTollAlmanac$Frame;)I"⟩
abbrev cX3_push : ByteArray := prog_5_method_11_code
def yX3_push : MethodName := ⟨RX3, "push", "(J)I"⟩
abbrev cX3_pop : ByteArray := prog_5_method_12_code
def yX3_pop : MethodName := ⟨RX3, "pop", "()J"⟩
abbrev cX3_finish : ByteArray := prog_5_method_13_code
def yX3_finish : MethodName := ⟨RX3, "finish", "(LTollAlmanac$Frame;)I"⟩
abbrev cX3_calculate : ByteArray := prog_5_method_14_code
def yX3_calculate : MethodName := ⟨RX3, "calculate", "(I)I"⟩
abbrev cX3_readConst : ByteArray := prog_5_method_15_code
def yX3_readConst : MethodName := ⟨RX3, "readConst", "(J)I"⟩
abbrev cX3_readEntry : ByteArray := prog_5_method_16_code
def yX3_readEntry : MethodName := ⟨RX3, "readEntry", "(LTollAlmanac$Frame;J)I"⟩
abbrev cX3_pushEntry : ByteArray := prog_5_method_17_code
def yX3_pushEntry : MethodName := ⟨RX3, "pushEntry", "(LTollAlmanac$Tariff;IZ)I"⟩
abbrev cX3_storeEntry : ByteArray := prog_5_method_18_code
def yX3_storeEntry : MethodName := ⟨RX3, "storeEntry", "(LTollAlmanac$Frame;I)I"⟩
def RX4 : String := "TollAlmanac$Reader"
def TX4 : u_T := fun k => match k with
  | 0 => ("TollAlmanac$Reader", "tape", "LTollAlmanac$Tape;", true)
  | 1 => ("TollAlmanac$Reader", "draft", "LTollAlmanac$Draft;", true)
  | 2 => ("TollAlmanac$Reader", "cursor", "I", false)
  | 3 => ("TollAlmanac$Reader", "ownYear", "I", false)
  | 4 => ("TollAlmanac$Reader", "context", "I", false)
  | 5 => ("TollAlmanac$Reader", "broken", "Z", false)
  | 6 => ("TollAlmanac$Reader", "fault", "I", false)
  | _ => ("TollAlmanac$Reader", "faultPlace", "I", false)
def tyX4 : Nat → FieldType := fun k => match k with
  | 0 => .object "TollAlmanac$Tape"
  | 1 => .object "TollAlmanac$Draft"
  | 2 => .int
  | 3 => .int
  | 4 => .int
  | 5 => .boolean
  | 6 => .int
  | _ => .int
theorem nmX4 : ∀ a, a < 8 → ∀ b, b < 8 → a ≠ b → (TX4 a).2.1 ≠ (TX4 b).2.1 := by decide +kernel
theorem tyX4_ok : ∀ k, k < 8 → parseFieldDescriptor (TX4 k).2.2.1 = some (tyX4 k) := by decide +kernel
abbrev cX4_init : ByteArray := prog_6_method_1_code
def yX4_init : MethodName := ⟨RX4, "<init>", "(LTollAlmanac$Tape;)V"⟩
abbrev cX4_read : ByteArray := prog_6_method_2_code
def yX4_read : MethodName := ⟨RX4, "read", "(I)LTollAlmanac$Sheet;"⟩
abbrev cX4_kind : ByteArray := prog_6_method_3_code
def yX4_kind : MethodName := ⟨RX4, "kind", "()I"⟩
abbrev cX4_place : ByteArray := prog_6_method_4_code
def yX4_place : MethodName := ⟨RX4, "place", "()I"⟩
abbrev cX4_content : ByteArray := prog_6_method_5_code
def yX4_content : MethodName := ⟨RX4, "content", "()J"⟩
abbrev cX4_reject : ByteArray := prog_6_method_6_code
def yX4_reject : MethodName := ⟨RX4, "reject", "()V"⟩
abbrev cX4_note : ByteArray := prog_6_method_7_code
def yX4_note : MethodName := ⟨RX4, "note", "(II)V"⟩
abbrev cX4_take : ByteArray := prog_6_method_8_code
def yX4_take : MethodName := ⟨RX4, "take", "(I)Z"⟩
abbrev cX4_readUnder : ByteArray := prog_6_method_9_code
def yX4_readUnder : MethodName := ⟨RX4, "readUnder", "()V"⟩
abbrev cX4_leanOn : ByteArray := prog_6_method_10_code
def yX4_leanOn : MethodName := ⟨RX4, "leanOn", "(JI)I"⟩
abbrev cX4_takeNewName : ByteArray := prog_6_method_11_code
def yX4_takeNewName : MethodName := ⟨RX4, "takeNewName", "()J"⟩
abbrev cX4_takeNumber : ByteArray := prog_6_method_12_code
def yX4_takeNumber : MethodName := ⟨RX4, "takeNumber", "(II)J"⟩
abbrev cX4_readConst : ByteArray := prog_6_method_13_code
def yX4_readConst : MethodName := ⟨RX4, "readConst", "()V"⟩
abbrev cX4_readConstantSum : ByteArray := prog_6_method_14_code
def yX4_readConstantSum : MethodName := ⟨RX4, "readConstantSum", "()V"⟩
abbrev cX4_readConstantOperand : ByteArray := prog_6_method_15_code
def yX4_readConstantOperand : MethodName := ⟨RX4, "readConstantOperand", "()V"⟩
abbrev cX4_readConstName : ByteArray := prog_6_method_16_code
def yX4_readConstName : MethodName := ⟨RX4, "readConstName", "(I)V"⟩
abbrev cX4_takeMinus : ByteArray := prog_6_method_17_code
def yX4_takeMinus : MethodName := ⟨RX4, "takeMinus", "()Z"⟩
abbrev cX4_readNumberOrYear : ByteArray := prog_6_method_18_code
def yX4_readNumberOrYear : MethodName := ⟨RX4, "readNumberOrYear", "()I"⟩
abbrev cX4_readRule : ByteArray := prog_6_method_19_code
def yX4_readRule : MethodName := ⟨RX4, "readRule", "()V"⟩
abbrev cX4_readStep : ByteArray := prog_6_method_20_code
def yX4_readStep : MethodName := ⟨RX4, "readStep", "(I)V"⟩
abbrev cX4_readTable : ByteArray := prog_6_method_21_code
def yX4_readTable : MethodName := ⟨RX4, "readTable", "()V"⟩
abbrev cX4_readCheck : ByteArray := prog_6_method_22_code
def yX4_readCheck : MethodName := ⟨RX4, "readCheck", "()V"⟩
abbrev cX4_readTry : ByteArray := prog_6_method_23_code
def yX4_readTry : MethodName := ⟨RX4, "readTry", "(I)V"⟩
abbrev cX4_readSteps : ByteArray := prog_6_method_24_code
def yX4_readSteps : MethodName := ⟨RX4, "readSteps", "(I)V"⟩
abbrev cX4_readChoice : ByteArray := prog_6_method_25_code
def yX4_readChoice : MethodName := ⟨RX4, "readChoice", "(I)V"⟩
abbrev cX4_comparison : ByteArray := prog_6_method_26_code
def yX4_comparison : MethodName := ⟨RX4, "comparison", "(I)I"⟩
abbrev cX4_readSum : ByteArray := prog_6_method_27_code
def yX4_readSum : MethodName := ⟨RX4, "readSum", "(I)V"⟩
abbrev cX4_readProduct : ByteArray := prog_6_method_28_code
def yX4_readProduct : MethodName := ⟨RX4, "readProduct", "(I)V"⟩
abbrev cX4_factor : ByteArray := prog_6_method_29_code
def yX4_factor : MethodName := ⟨RX4, "factor", "(I)I"⟩
abbrev cX4_readOperand : ByteArray := prog_6_method_30_code
def yX4_readOperand : MethodName := ⟨RX4, "readOperand", "(I)V"⟩
abbrev cX4_readSetting : ByteArray := prog_6_method_31_code
def yX4_readSetting : MethodName := ⟨RX4, "readSetting", "(I)V"⟩
abbrev cX4_readReference : ByteArray := prog_6_method_32_code
def yX4_readReference : MethodName := ⟨RX4, "readReference", "(II)V"⟩
def RX5 : String := "TollAlmanac$Settler"
def TX5 : u_T := fun k => match k with
  | 0 => ("TollAlmanac$Settler", "editions", "LTollAlmanac$Editions;", true)
  | 1 => ("TollAlmanac$Settler", "open", "[I", true)
  | 2 => ("TollAlmanac$Settler", "depth", "I", false)
  | 3 => ("TollAlmanac$Settler", "stack", "[J", true)
  | _ => ("TollAlmanac$Settler", "top", "I", false)
def tyX5 : Nat → FieldType := fun k => match k with
  | 0 => .object "TollAlmanac$Editions"
  | 1 => .array .int
  | 2 => .int
  | 3 => .array .long
  | _ => .int
theorem nmX5 : ∀ a, a < 5 → ∀ b, b < 5 → a ≠ b → (TX5 a).2.1 ≠ (TX5 b).2.1 := by decide +kernel
theorem tyX5_ok : ∀ k, k < 5 → parseFieldDescriptor (TX5 k).2.2.1 = some (tyX5 k) := by decide +kernel
abbrev cX5_init : ByteArray := prog_7_method_1_code
def yX5_init : MethodName := ⟨RX5, "<init>", "(LTollAlmanac$Editions;)V"⟩
abbrev cX5_settleAll : ByteArray := prog_7_method_2_code
def yX5_settleAll : MethodName := ⟨RX5, "settleAll", "()V"⟩
abbrev cX5_settle : ByteArray := prog_7_method_3_code
def yX5_settle : MethodName := ⟨RX5, "settle", "(I)V"⟩
abbrev cX5_push : ByteArray := prog_7_method_4_code
def yX5_push : MethodName := ⟨RX5, "push", "(I)V"⟩
abbrev cX5_loseOpen : ByteArray := prog_7_method_5_code
def yX5_loseOpen : MethodName := ⟨RX5, "loseOpen", "()V"⟩
abbrev cX5_markOf : ByteArray := prog_7_method_6_code
def yX5_markOf : MethodName := ⟨RX5, "markOf", "(I)I"⟩
abbrev cX5_mark : ByteArray := prog_7_method_7_code
def yX5_mark : MethodName := ⟨RX5, "mark", "(II)V"⟩
abbrev cX5_evaluate : ByteArray := prog_7_method_8_code
def yX5_evaluate : MethodName := ⟨RX5, "evaluate", "(I)I"⟩
abbrev cX5_refer : ByteArray := prog_7_method_9_code
def yX5_refer : MethodName := ⟨RX5, "refer", "(J)I"⟩
abbrev cX5_put : ByteArray := prog_7_method_10_code
def yX5_put : MethodName := ⟨RX5, "put", "(J)I"⟩
abbrev cX5_calculate : ByteArray := prog_7_method_11_code
def yX5_calculate : MethodName := ⟨RX5, "calculate", "(IJ)I"⟩
abbrev cX5_productFits : ByteArray := prog_7_method_12_code
def yX5_productFits : MethodName := ⟨RX5, "productFits", "(JJ)Z"⟩
def RX6 : String := "TollAlmanac$Sheet"
def TX6 : u_T := fun k => match k with
  | 0 => ("TollAlmanac$Sheet", "under", "I", true)
  | 1 => ("TollAlmanac$Sheet", "leaning", "I", true)
  | 2 => ("TollAlmanac$Sheet", "steps", "I", true)
  | 3 => ("TollAlmanac$Sheet", "rule", "I", true)
  | 4 => ("TollAlmanac$Sheet", "ops", "[I", true)
  | 5 => ("TollAlmanac$Sheet", "args", "[J", true)
  | 6 => ("TollAlmanac$Sheet", "constNames", "[J", true)
  | 7 => ("TollAlmanac$Sheet", "constStarts", "[I", true)
  | 8 => ("TollAlmanac$Sheet", "tableNames", "[J", true)
  | 9 => ("TollAlmanac$Sheet", "tableSizes", "[I", true)
  | 10 => ("TollAlmanac$Sheet", "tryStarts", "[I", true)
  | 11 => ("TollAlmanac$Sheet", "tryEnds", "[I", true)
  | _ => ("TollAlmanac$Sheet", "elseStarts", "[I", true)
def tyX6 : Nat → FieldType := fun k => match k with
  | 0 => .int
  | 1 => .int
  | 2 => .int
  | 3 => .int
  | 4 => .array .int
  | 5 => .array .long
  | 6 => .array .long
  | 7 => .array .int
  | 8 => .array .long
  | 9 => .array .int
  | 10 => .array .int
  | 11 => .array .int
  | _ => .array .int
theorem nmX6 : ∀ a, a < 13 → ∀ b, b < 13 → a ≠ b → (TX6 a).2.1 ≠ (TX6 b).2.1 := by decide +kernel
theorem tyX6_ok : ∀ k, k < 13 → parseFieldDescriptor (TX6 k).2.2.1 = some (tyX6 k) := by decide +kernel
abbrev cX6_init : ByteArray := prog_8_method_1_code
def yX6_init : MethodName := ⟨RX6, "<init>", "(LTollAlmanac$Draft;)V"⟩
abbrev cX6_indexOf : ByteArray := prog_8_method_2_code
def yX6_indexOf : MethodName := ⟨RX6, "indexOf", "(IJ)I"⟩
abbrev cX6_catchAt : ByteArray := prog_8_method_3_code
def yX6_catchAt : MethodName := ⟨RX6, "catchAt", "(I)I"⟩
def RX7 : String := "TollAlmanac$Tape"
def TX7 : u_T := fun k => match k with
  | 0 => ("TollAlmanac$Tape", "bytes", "[C", true)
  | 1 => ("TollAlmanac$Tape", "size", "I", false)
  | 2 => ("TollAlmanac$Tape", "kinds", "[I", true)
  | 3 => ("TollAlmanac$Tape", "places", "[I", true)
  | 4 => ("TollAlmanac$Tape", "contents", "[J", true)
  | 5 => ("TollAlmanac$Tape", "tokens", "I", false)
  | _ => ("TollAlmanac$Tape", "words", "[J", true)
def tyX7 : Nat → FieldType := fun k => match k with
  | 0 => .array .char
  | 1 => .int
  | 2 => .array .int
  | 3 => .array .int
  | 4 => .array .long
  | 5 => .int
  | _ => .array .long
theorem nmX7 : ∀ a, a < 7 → ∀ b, b < 7 → a ≠ b → (TX7 a).2.1 ≠ (TX7 b).2.1 := by decide +kernel
theorem tyX7_ok : ∀ k, k < 7 → parseFieldDescriptor (TX7 k).2.2.1 = some (tyX7 k) := by decide +kernel
abbrev cX7_init : ByteArray := prog_9_method_1_code
def yX7_init : MethodName := ⟨RX7, "<init>", "()V"⟩
abbrev cX7_packedWords : ByteArray := prog_9_method_2_code
def yX7_packedWords : MethodName := ⟨RX7, "packedWords", "()[J"⟩
abbrev cX7_withLetter : ByteArray := prog_9_method_3_code
def yX7_withLetter : MethodName := ⟨RX7, "withLetter", "(JC)J"⟩
abbrev cX7_put : ByteArray := prog_9_method_4_code
def yX7_put : MethodName := ⟨RX7, "put", "(I)V"⟩
abbrev cX7_cut : ByteArray := prog_9_method_5_code
def yX7_cut : MethodName := ⟨RX7, "cut", "()V"⟩
abbrev cX7_cutOne : ByteArray := prog_9_method_6_code
def yX7_cutOne : MethodName := ⟨RX7, "cutOne", "(I)I"⟩
abbrev cX7_rowEnd : ByteArray := prog_9_method_7_code
def yX7_rowEnd : MethodName := ⟨RX7, "rowEnd", "(ICC)I"⟩
abbrev cX7_addName : ByteArray := prog_9_method_8_code
def yX7_addName : MethodName := ⟨RX7, "addName", "(II)V"⟩
abbrev cX7_addNumber : ByteArray := prog_9_method_9_code
def yX7_addNumber : MethodName := ⟨RX7, "addNumber", "(II)V"⟩
abbrev cX7_add : ByteArray := prog_9_method_10_code
def yX7_add : MethodName := ⟨RX7, "add", "(IIJ)V"⟩
def RX8 : String := "TollAlmanac$Tariff"
def TX8 : u_T := fun k => match k with
  | 0 => ("TollAlmanac$Tariff", "sheet", "LTollAlmanac$Sheet;", false)
  | 1 => ("TollAlmanac$Tariff", "phase", "I", false)
  | 2 => ("TollAlmanac$Tariff", "edition", "I", false)
  | 3 => ("TollAlmanac$Tariff", "thrown", "I", false)
  | 4 => ("TollAlmanac$Tariff", "halves", "I", false)
  | 5 => ("TollAlmanac$Tariff", "marks", "[I", true)
  | 6 => ("TollAlmanac$Tariff", "values", "[J", true)
  | _ => ("TollAlmanac$Tariff", "entries", "[J", true)
def tyX8 : Nat → FieldType := fun k => match k with
  | 0 => .object "TollAlmanac$Sheet"
  | 1 => .int
  | 2 => .int
  | 3 => .int
  | 4 => .int
  | 5 => .array .int
  | 6 => .array .long
  | _ => .array .long
theorem nmX8 : ∀ a, a < 8 → ∀ b, b < 8 → a ≠ b → (TX8 a).2.1 ≠ (TX8 b).2.1 := by decide +kernel
theorem tyX8_ok : ∀ k, k < 8 → parseFieldDescriptor (TX8 k).2.2.1 = some (tyX8 k) := by decide +kernel
abbrev cX8_init : ByteArray := prog_10_method_1_code
def yX8_init : MethodName := ⟨RX8, "<init>", "()V"⟩
abbrev cX8_make : ByteArray := prog_10_method_2_code
def yX8_make : MethodName := ⟨RX8, "make", "(LTollAlmanac$Sheet;I)V"⟩
abbrev cX8_valueOf : ByteArray := prog_10_method_3_code
def yX8_valueOf : MethodName := ⟨RX8, "valueOf", "(I)J"⟩
abbrev cX8_hasEntry : ByteArray := prog_10_method_4_code
def yX8_hasEntry : MethodName := ⟨RX8, "hasEntry", "(IJ)Z"⟩
def RX9 : String := "TollAlmanac$Voyage"
def TX9 : u_T := fun k => match k with
  | 0 => ("TollAlmanac$Voyage", "tons", "I", true)
  | 1 => ("TollAlmanac$Voyage", "cargo", "I", true)
  | 2 => ("TollAlmanac$Voyage", "locks", "I", false)
  | 3 => ("TollAlmanac$Voyage", "numbers", "[I", true)
  | 4 => ("TollAlmanac$Voyage", "years", "[I", true)
  | 5 => ("TollAlmanac$Voyage", "days", "[I", true)
  | 6 => ("TollAlmanac$Voyage", "lines", "[J", true)
  | 7 => ("TollAlmanac$Voyage", "sum", "J", false)
  | _ => ("TollAlmanac$Voyage", "billed", "I", false)
def tyX9 : Nat → FieldType := fun k => match k with
  | 0 => .int
  | 1 => .int
  | 2 => .int
  | 3 => .array .int
  | 4 => .array .int
  | 5 => .array .int
  | 6 => .array .long
  | 7 => .long
  | _ => .int
theorem nmX9 : ∀ a, a < 9 → ∀ b, b < 9 → a ≠ b → (TX9 a).2.1 ≠ (TX9 b).2.1 := by decide +kernel
theorem tyX9_ok : ∀ k, k < 9 → parseFieldDescriptor (TX9 k).2.2.1 = some (tyX9 k) := by decide +kernel
abbrev cX9_init : ByteArray := prog_11_method_1_code
def yX9_init : MethodName := ⟨RX9, "<init>", "(II)V"⟩
abbrev cX9_addLock : ByteArray := prog_11_method_2_code
def yX9_addLock : MethodName := ⟨RX9, "addLock", "(III)V"⟩
def RX10 : String := "TollAlmanac"
def TX10 : u_T := fun k => match k with
  | 0 => ("TollAlmanac", "tape", "LTollAlmanac$Tape;", true)
  | 1 => ("TollAlmanac", "reader", "LTollAlmanac$Reader;", true)
  | 2 => ("TollAlmanac", "editions", "LTollAlmanac$Editions;", true)
  | 3 => ("TollAlmanac", "settler", "LTollAlmanac$Settler;", true)
  | 4 => ("TollAlmanac", "machine", "LTollAlmanac$Machine;", true)
  | 5 => ("TollAlmanac", "voyages", "[LTollAlmanac$Voyage;", true)
  | 6 => ("TollAlmanac", "voyageCount", "I", false)
  | 7 => ("TollAlmanac", "booked", "I", false)
  | _ => ("TollAlmanac", "failed", "I", false)
def tyX10 : Nat → FieldType := fun k => match k with
  | 0 => .object "TollAlmanac$Tape"
  | 1 => .object "TollAlmanac$Reader"
  | 2 => .object "TollAlmanac$Editions"
  | 3 => .object "TollAlmanac$Settler"
  | 4 => .object "TollAlmanac$Machine"
  | 5 => .array (.object "TollAlmanac$Voyage")
  | 6 => .int
  | 7 => .int
  | _ => .int
theorem nmX10 : ∀ a, a < 9 → ∀ b, b < 9 → a ≠ b → (TX10 a).2.1 ≠ (TX10 b).2.1 := by decide +kernel
theorem tyX10_ok : ∀ k, k < 9 → parseFieldDescriptor (TX10 k).2.2.1 = some (tyX10 k) := by decide +kernel
abbrev cX10_init : ByteArray := prog_1_method_1_code
def yX10_init : MethodName := ⟨RX10, "<init>", "()V"⟩
abbrev cX10_feed : ByteArray := prog_1_method_2_code
def yX10_feed : MethodName := ⟨RX10, "feed", "(IIIII)I"⟩
abbrev cX10_end : ByteArray := prog_1_method_3_code
def yX10_end : MethodName := ⟨RX10, "end", "(I)I"⟩
abbrev cX10_sheet : ByteArray := prog_1_method_4_code
def yX10_sheet : MethodName := ⟨RX10, "sheet", "(I)I"⟩
abbrev cX10_fault : ByteArray := prog_1_method_5_code
def yX10_fault : MethodName := ⟨RX10, "fault", "(I)I"⟩
abbrev cX10_forget : ByteArray := prog_1_method_6_code
def yX10_forget : MethodName := ⟨RX10, "forget", "(I)Z"⟩
abbrev cX10_issue : ByteArray := prog_1_method_7_code
def yX10_issue : MethodName := ⟨RX10, "issue", "()I"⟩
abbrev cX10_state : ByteArray := prog_1_method_8_code
def yX10_state : MethodName := ⟨RX10, "state", "(II)I"⟩
abbrev cX10_leans : ByteArray := prog_1_method_9_code
def yX10_leans : MethodName := ⟨RX10, "leans", "(II)Z"⟩
abbrev cX10_constant : ByteArray := prog_1_method_10_code
def yX10_constant : MethodName := ⟨RX10, "constant", "(II)J"⟩
abbrev cX10_entry : ByteArray := prog_1_method_11_code
def yX10_entry : MethodName := ⟨RX10, "entry", "(III)J"⟩
abbrev cX10_need : ByteArray := prog_1_method_12_code
def yX10_need : MethodName := ⟨RX10, "need", "(I)I"⟩
abbrev cX10_started : ByteArray := prog_1_method_13_code
def yX10_started : MethodName := ⟨RX10, "started", "(I)I"⟩
abbrev cX10_voyage : ByteArray := prog_1_method_14_code
def yX10_voyage : MethodName := ⟨RX10, "voyage", "(II)I"⟩
abbrev cX10_lock : ByteArray := prog_1_method_15_code
def yX10_lock : MethodName := ⟨RX10, "lock", "(IIII)I"⟩
abbrev cX10_bill : ByteArray := prog_1_method_16_code
def yX10_bill : MethodName := ⟨RX10, "bill", "(I)I"⟩
abbrev cX10_line : ByteArray := prog_1_method_17_code
def yX10_line : MethodName := ⟨RX10, "line", "(II)J"⟩
abbrev cX10_count : ByteArray := prog_1_method_18_code
def yX10_count : MethodName := ⟨RX10, "count", "(I)I"⟩
abbrev cX10_voyageOf : ByteArray := prog_1_method_19_code
def yX10_voyageOf : MethodName := ⟨RX10, "voyageOf", "(I)LTollAlmanac$Voyage;"⟩
abbrev cX10_yearIndex : ByteArray := prog_1_method_20_code
def yX10_yearIndex : MethodName := ⟨RX10, "yearIndex", "(J)I"⟩
abbrev cX10_sheetState : ByteArray := prog_1_method_21_code
def yX10_sheetState : MethodName := ⟨RX10, "sheetState", "(LTollAlmanac$Sheet;I)I"⟩
abbrev cX10_positionOf : ByteArray := prog_1_method_22_code
def yX10_positionOf : MethodName := ⟨RX10, "positionOf", "([JIJ)I"⟩
def RX11 : String := "TollAlmanacModel"
def TX11 : u_T := fun k => match k with
  | 0 => ("TollAlmanacModel", "tape", "[B", true)
  | 1 => ("TollAlmanacModel", "taped", "I", false)
  | 2 => ("TollAlmanacModel", "fault", "I", false)
  | 3 => ("TollAlmanacModel", "place", "I", false)
  | 4 => ("TollAlmanacModel", "size", "I", false)
  | 5 => ("TollAlmanacModel", "next", "I", false)
  | 6 => ("TollAlmanacModel", "token", "I", false)
  | 7 => ("TollAlmanacModel", "where", "I", false)
  | 8 => ("TollAlmanacModel", "name", "J", false)
  | 9 => ("TollAlmanacModel", "number", "I", false)
  | 10 => ("TollAlmanacModel", "word", "I", false)
  | 11 => ("TollAlmanacModel", "wrong", "Z", false)
  | 12 => ("TollAlmanacModel", "own", "I", false)
  | 13 => ("TollAlmanacModel", "words", "[J", true)
  | 14 => ("TollAlmanacModel", "under", "I", false)
  | 15 => ("TollAlmanacModel", "consts", "I", false)
  | 16 => ("TollAlmanacModel", "constName", "[J", true)
  | 17 => ("TollAlmanacModel", "constAt", "[I", true)
  | 18 => ("TollAlmanacModel", "tables", "I", false)
  | 19 => ("TollAlmanacModel", "tableName", "[J", true)
  | 20 => ("TollAlmanacModel", "tableSize", "[I", true)
  | 21 => ("TollAlmanacModel", "steps", "I", false)
  | 22 => ("TollAlmanacModel", "counted", "I", false)
  | 23 => ("TollAlmanacModel", "stepKind", "[I", true)
  | 24 => ("TollAlmanacModel", "stepAt", "[I", true)
  | 25 => ("TollAlmanacModel", "stepWhat", "[I", true)
  | 26 => ("TollAlmanacModel", "ruleAt", "I", false)
  | 27 => ("TollAlmanacModel", "acts", "I", false)
  | 28 => ("TollAlmanacModel", "act", "[I", true)
  | 29 => ("TollAlmanacModel", "arg", "[J", true)
  | 30 => ("TollAlmanacModel", "year", "[I", true)
  | 31 => ("TollAlmanacModel", "open", "I", false)
  | 32 => ("TollAlmanacModel", "tries", "I", false)
  | 33 => ("TollAlmanacModel", "inTable", "Z", false)
  | 34 => ("TollAlmanacModel", "inRule", "Z", false)
  | 35 => ("TollAlmanacModel", "leaning", "I", false)
  | 36 => ("TollAlmanacModel", "there", "[Z", true)
  | 37 => ("TollAlmanacModel", "underOf", "[I", true)
  | 38 => ("TollAlmanacModel", "leansOn", "[I", true)
  | 39 => ("TollAlmanacModel", "constsOf", "[I", true)
  | 40 => ("TollAlmanacModel", "constNames", "[J", true)
  | 41 => ("TollAlmanacModel", "constAts", "[I", true)
  | 42 => ("TollAlmanacModel", "tablesOf", "[I", true)
  | 43 => ("TollAlmanacModel", "tableNames", "[J", true)
  | 44 => ("TollAlmanacModel", "tableSizes", "[I", true)
  | 45 => ("TollAlmanacModel", "stepsOf", "[I", true)
  | 46 => ("TollAlmanacModel", "stepKinds", "[I", true)
  | 47 => ("TollAlmanacModel", "stepAts", "[I", true)
  | 48 => ("TollAlmanacModel", "stepWhats", "[I", true)
  | 49 => ("TollAlmanacModel", "ruleAts", "[I", true)
  | 50 => ("TollAlmanacModel", "actsOf", "[I", true)
  | 51 => ("TollAlmanacModel", "argsOf", "[J", true)
  | 52 => ("TollAlmanacModel", "yearsOf", "[I", true)
  | 53 => ("TollAlmanacModel", "changed", "[Z", true)
  | 54 => ("TollAlmanacModel", "stateOf", "[I", true)
  | 55 => ("TollAlmanacModel", "editionOf", "[I", true)
  | 56 => ("TollAlmanacModel", "thrownOf", "[I", true)
  | 57 => ("TollAlmanacModel", "halves", "[I", true)
  | 58 => ("TollAlmanacModel", "entries", "[J", true)
  | 59 => ("TollAlmanacModel", "edition", "I", false)
  | 60 => ("TollAlmanacModel", "known", "[Z", true)
  | 61 => ("TollAlmanacModel", "value", "[J", true)
  | 62 => ("TollAlmanacModel", "pile", "[J", true)
  | 63 => ("TollAlmanacModel", "top", "I", false)
  | 64 => ("TollAlmanacModel", "workedFor", "I", false)
  | 65 => ("TollAlmanacModel", "row", "[I", true)
  | 66 => ("TollAlmanacModel", "starts", "I", false)
  | 67 => ("TollAlmanacModel", "tons", "I", false)
  | 68 => ("TollAlmanacModel", "cargo", "I", false)
  | 69 => ("TollAlmanacModel", "lock", "I", false)
  | 70 => ("TollAlmanacModel", "day", "I", false)
  | 71 => ("TollAlmanacModel", "result", "J", false)
  | 72 => ("TollAlmanacModel", "others", "[I", true)
  | 73 => ("TollAlmanacModel", "voyages", "I", false)
  | 74 => ("TollAlmanacModel", "tonsOf", "[I", true)
  | 75 => ("TollAlmanacModel", "cargoOf", "[I", true)
  | 76 => ("TollAlmanacModel", "locksOf", "[I", true)
  | 77 => ("TollAlmanacModel", "lockNumber", "[I", true)
  | 78 => ("TollAlmanacModel", "lockYear", "[I", true)
  | 79 => ("TollAlmanacModel", "lockDay", "[I", true)
  | 80 => ("TollAlmanacModel", "billed", "[I", true)
  | 81 => ("TollAlmanacModel", "sums", "[J", true)
  | 82 => ("TollAlmanacModel", "lines", "[J", true)
  | 83 => ("TollAlmanacModel", "booked", "I", false)
  | _ => ("TollAlmanacModel", "failed", "I", false)
def tyX11 : Nat → FieldType := fun k => match k with
  | 0 => .array .byte
  | 1 => .int
  | 2 => .int
  | 3 => .int
  | 4 => .int
  | 5 => .int
  | 6 => .int
  | 7 => .int
  | 8 => .long
  | 9 => .int
  | 10 => .int
  | 11 => .boolean
  | 12 => .int
  | 13 => .array .long
  | 14 => .int
  | 15 => .int
  | 16 => .array .long
  | 17 => .array .int
  | 18 => .int
  | 19 => .array .long
  | 20 => .array .int
  | 21 => .int
  | 22 => .int
  | 23 => .array .int
  | 24 => .array .int
  | 25 => .array .int
  | 26 => .int
  | 27 => .int
  | 28 => .array .int
  | 29 => .array .long
  | 30 => .array .int
  | 31 => .int
  | 32 => .int
  | 33 => .boolean
  | 34 => .boolean
  | 35 => .int
  | 36 => .array .boolean
  | 37 => .array .int
  | 38 => .array .int
  | 39 => .array .int
  | 40 => .array .long
  | 41 => .array .int
  | 42 => .array .int
  | 43 => .array .long
  | 44 => .array .int
  | 45 => .array .int
  | 46 => .array .int
  | 47 => .array .int
  | 48 => .array .int
  | 49 => .array .int
  | 50 => .array .int
  | 51 => .array .long
  | 52 => .array .int
  | 53 => .array .boolean
  | 54 => .array .int
  | 55 => .array .int
  | 56 => .array .int
  | 57 => .array .int
  | 58 => .array .long
  | 59 => .int
  | 60 => .array .boolean
  | 61 => .array .long
  | 62 => .array .long
  | 63 => .int
  | 64 => .int
  | 65 => .array .int
  | 66 => .int
  | 67 => .int
  | 68 => .int
  | 69 => .int
  | 70 => .int
  | 71 => .long
  | 72 => .array .int
  | 73 => .int
  | 74 => .array .int
  | 75 => .array .int
  | 76 => .array .int
  | 77 => .array .int
  | 78 => .array .int
  | 79 => .array .int
  | 80 => .array .int
  | 81 => .array .long
  | 82 => .array .long
  | 83 => .int
  | _ => .int
theorem nmX11 : ∀ a, a < 85 → ∀ b, b < 85 → a ≠ b → (TX11 a).2.1 ≠ (TX11 b).2.1 := by decide +kernel
theorem tyX11_ok : ∀ k, k < 85 → parseFieldDescriptor (TX11 k).2.2.1 = some (tyX11 k) := by decide +kernel
abbrev cX11_init : ByteArray := prog_13_method_1_code
def yX11_init : MethodName := ⟨RX11, "<init>", "()V"⟩
abbrev cX11_feed : ByteArray := prog_13_method_2_code
def yX11_feed : MethodName := ⟨RX11, "feed", "(IIIII)I"⟩
abbrev cX11_end : ByteArray := prog_13_method_3_code
def yX11_end : MethodName := ⟨RX11, "end", "(I)I"⟩
abbrev cX11_byteAt : ByteArray := prog_13_method_4_code
def yX11_byteAt : MethodName := ⟨RX11, "byteAt", "(I)I"⟩
abbrev cX11_isLetter : ByteArray := prog_13_method_5_code
def yX11_isLetter : MethodName := ⟨RX11, "isLetter", "(I)Z"⟩
abbrev cX11_isDigit : ByteArray := prog_13_method_6_code
def yX11_isDigit : MethodName := ⟨RX11, "isDigit", "(I)Z"⟩
abbrev cX11_named : ByteArray := prog_13_method_7_code
def yX11_named : MethodName := ⟨RX11, "named", "(IIIII)J"⟩
abbrev cX11_isSignByte : ByteArray := prog_13_method_8_code
def yX11_isSignByte : MethodName := ⟨RX11, "isSignByte", "(I)Z"⟩
abbrev cX11_advance : ByteArray := prog_13_method_9_code
def yX11_advance : MethodName := ⟨RX11, "advance", "()V"⟩
abbrev cX11_stops : ByteArray := prog_13_method_10_code
def yX11_stops : MethodName := ⟨RX11, "stops", "()V"⟩
abbrev cX11_tells : ByteArray := prog_13_method_11_code
def yX11_tells : MethodName := ⟨RX11, "tells", "(II)V"⟩
abbrev cX11_isSign : ByteArray := prog_13_method_12_code
def yX11_isSign : MethodName := ⟨RX11, "isSign", "(I)Z"⟩
abbrev cX11_takes : ByteArray := prog_13_method_13_code
def yX11_takes : MethodName := ⟨RX11, "takes", "(I)Z"⟩
abbrev cX11_must : ByteArray := prog_13_method_14_code
def yX11_must : MethodName := ⟨RX11, "must", "(I)V"⟩
abbrev cX11_isWord : ByteArray := prog_13_method_15_code
def yX11_isWord : MethodName := ⟨RX11, "isWord", "(I)Z"⟩
abbrev cX11_emit : ByteArray := prog_13_method_16_code
def yX11_emit : MethodName := ⟨RX11, "emit", "(IJI)V"⟩
abbrev cX11_yearOf : ByteArray := prog_13_method_17_code
def yX11_yearOf : MethodName := ⟨RX11, "yearOf", "(II)I"⟩
abbrev cX11_takesName : ByteArray := prog_13_method_18_code
def yX11_takesName : MethodName := ⟨RX11, "takesName", "()J"⟩
abbrev cX11_takesNumber : ByteArray := prog_13_method_19_code
def yX11_takesNumber : MethodName := ⟨RX11, "takesNumber", "()I"⟩
abbrev cX11_plainPart : ByteArray := prog_13_method_20_code
def yX11_plainPart : MethodName := ⟨RX11, "plainPart", "()V"⟩
abbrev cX11_plainProduct : ByteArray := prog_13_method_21_code
def yX11_plainProduct : MethodName := ⟨RX11, "plainProduct", "()V"⟩
abbrev cX11_plainSum : ByteArray := prog_13_method_22_code
def yX11_plainSum : MethodName := ⟨RX11, "plainSum", "()V"⟩
abbrev cX11_formula : ByteArray := prog_13_method_23_code
def yX11_formula : MethodName := ⟨RX11, "formula", "()V"⟩
abbrev cX11_compared : ByteArray := prog_13_method_24_code
def yX11_compared : MethodName := ⟨RX11, "compared", "()V"⟩
abbrev cX11_sum : ByteArray := prog_13_method_25_code
def yX11_sum : MethodName := ⟨RX11, "sum", "()V"⟩
abbrev cX11_product : ByteArray := prog_13_method_26_code
def yX11_product : MethodName := ⟨RX11, "product", "()V"⟩
abbrev cX11_signed : ByteArray := prog_13_method_27_code
def yX11_signed : MethodName := ⟨RX11, "signed", "()V"⟩
abbrev cX11_called : ByteArray := prog_13_method_28_code
def yX11_called : MethodName := ⟨RX11, "called", "(JI)V"⟩
abbrev cX11_atom : ByteArray := prog_13_method_29_code
def yX11_atom : MethodName := ⟨RX11, "atom", "()V"⟩
abbrev cX11_whole : ByteArray := prog_13_method_30_code
def yX11_whole : MethodName := ⟨RX11, "whole", "()V"⟩
abbrev cX11_mark : ByteArray := prog_13_method_31_code
def yX11_mark : MethodName := ⟨RX11, "mark", "(III)V"⟩
abbrev cX11_isTaken : ByteArray := prog_13_method_32_code
def yX11_isTaken : MethodName := ⟨RX11, "isTaken", "(J)Z"⟩
abbrev cX11_table : ByteArray := prog_13_method_33_code
def yX11_table : MethodName := ⟨RX11, "table", "()V"⟩
abbrev cX11_check : ByteArray := prog_13_method_34_code
def yX11_check : MethodName := ⟨RX11, "check", "()V"⟩
abbrev cX11_block : ByteArray := prog_13_method_35_code
def yX11_block : MethodName := ⟨RX11, "block", "()V"⟩
abbrev cX11_step : ByteArray := prog_13_method_36_code
def yX11_step : MethodName := ⟨RX11, "step", "()V"⟩
abbrev cX11_aConst : ByteArray := prog_13_method_37_code
def yX11_aConst : MethodName := ⟨RX11, "aConst", "()V"⟩
abbrev cX11_rule : ByteArray := prog_13_method_38_code
def yX11_rule : MethodName := ⟨RX11, "rule", "()V"⟩
abbrev cX11_reads : ByteArray := prog_13_method_39_code
def yX11_reads : MethodName := ⟨RX11, "reads", "()V"⟩
abbrev cX11_keeps : ByteArray := prog_13_method_40_code
def yX11_keeps : MethodName := ⟨RX11, "keeps", "(I)V"⟩
abbrev cX11_copies : ByteArray := prog_13_method_41_code
def yX11_copies : MethodName := ⟨RX11, "copies", "(I)V"⟩
abbrev cX11_isIn : ByteArray := prog_13_method_42_code
def yX11_isIn : MethodName := ⟨RX11, "isIn", "(II)Z"⟩
abbrev cX11_isYear : ByteArray := prog_13_method_43_code
def yX11_isYear : MethodName := ⟨RX11, "isYear", "(I)Z"⟩
abbrev cX11_sheet : ByteArray := prog_13_method_44_code
def yX11_sheet : MethodName := ⟨RX11, "sheet", "(I)I"⟩
abbrev cX11_fault : ByteArray := prog_13_method_45_code
def yX11_fault : MethodName := ⟨RX11, "fault", "(I)I"⟩
abbrev cX11_forget : ByteArray := prog_13_method_46_code
def yX11_forget : MethodName := ⟨RX11, "forget", "(I)Z"⟩
abbrev cX11_issue : ByteArray := prog_13_method_47_code
def yX11_issue : MethodName := ⟨RX11, "issue", "()I"⟩
abbrev cX11_state : ByteArray := prog_13_method_48_code
def yX11_state : MethodName := ⟨RX11, "state", "(II)I"⟩
abbrev cX11_leans : ByteArray := prog_13_method_49_code
def yX11_leans : MethodName := ⟨RX11, "leans", "(II)Z"⟩
abbrev cX11_constOf : ByteArray := prog_13_method_50_code
def yX11_constOf : MethodName := ⟨RX11, "constOf", "(IJ)I"⟩
abbrev cX11_isSmall : ByteArray := prog_13_method_51_code
def yX11_isSmall : MethodName := ⟨RX11, "isSmall", "(J)Z"⟩
abbrev cX11_comesOut : ByteArray := prog_13_method_52_code
def yX11_comesOut : MethodName := ⟨RX11, "comesOut", "(I)Z"⟩
abbrev cX11_worksConstants : ByteArray := prog_13_method_53_code
def yX11_worksConstants : MethodName := ⟨RX11, "worksConstants", "()V"⟩
abbrev cX11_constant : ByteArray := prog_13_method_54_code
def yX11_constant : MethodName := ⟨RX11, "constant", "(II)J"⟩
abbrev cX11_entry : ByteArray := prog_13_method_55_code
def yX11_entry : MethodName := ⟨RX11, "entry", "(III)J"⟩
abbrev cX11_needs : ByteArray := prog_13_method_56_code
def yX11_needs : MethodName := ⟨RX11, "needs", "(I)I"⟩
abbrev cX11_does : ByteArray := prog_13_method_57_code
def yX11_does : MethodName := ⟨RX11, "does", "(I)I"⟩
abbrev cX11_builds : ByteArray := prog_13_method_58_code
def yX11_builds : MethodName := ⟨RX11, "builds", "(III)I"⟩
abbrev cX11_tableOf : ByteArray := prog_13_method_59_code
def yX11_tableOf : MethodName := ⟨RX11, "tableOf", "(IJ)I"⟩
abbrev cX11_looks : ByteArray := prog_13_method_60_code
def yX11_looks : MethodName := ⟨RX11, "looks", "(IIJJ)I"⟩
abbrev cX11_acted : ByteArray := prog_13_method_61_code
def yX11_acted : MethodName := ⟨RX11, "acted", "(IJJ)J"⟩
abbrev cX11_told : ByteArray := prog_13_method_62_code
def yX11_told : MethodName := ⟨RX11, "told", "(II)J"⟩
abbrev cX11_works : ByteArray := prog_13_method_63_code
def yX11_works : MethodName := ⟨RX11, "works", "(III)I"⟩
abbrev cX11_need : ByteArray := prog_13_method_64_code
def yX11_need : MethodName := ⟨RX11, "need", "(I)I"⟩
abbrev cX11_started : ByteArray := prog_13_method_65_code
def yX11_started : MethodName := ⟨RX11, "started", "(I)I"⟩
abbrev cX11_voyage : ByteArray := prog_13_method_66_code
def yX11_voyage : MethodName := ⟨RX11, "voyage", "(II)I"⟩
abbrev cX11_lock : ByteArray := prog_13_method_67_code
def yX11_lock : MethodName := ⟨RX11, "lock", "(IIII)I"⟩
abbrev cX11_lined : ByteArray := prog_13_method_68_code
def yX11_lined : MethodName := ⟨RX11, "lined", "(I)I"⟩
abbrev cX11_bill : ByteArray := prog_13_method_69_code
def yX11_bill : MethodName := ⟨RX11, "bill", "(I)I"⟩
abbrev cX11_line : ByteArray := prog_13_method_70_code
def yX11_line : MethodName := ⟨RX11, "line", "(II)J"⟩
abbrev cX11_count : ByteArray := prog_13_method_71_code
def yX11_count : MethodName := ⟨RX11, "count", "(I)I"⟩
def RJ11 : String := "java/lang/Character"
def TJ11 : u_T := fun k => match k with
  | _ => ("", "", "", false)
def tyJ11 : Nat → FieldType := fun k => match k with
  | _ => .int
theorem nmJ11 : ∀ a, a < 0 → ∀ b, b < 0 → a ≠ b → (TJ11 a).2.1 ≠ (TJ11 b).2.1 := by decide +kernel
theorem tyJ11_ok : ∀ k, k < 0 → parseFieldDescriptor (TJ11 k).2.2.1 = some (tyJ11 k) := by decide +kernel
abbrev cJ11_isValidCodePoint_9a6ad : ByteArray := prog_14_method_11_code
def yJ11_isValidCodePoint_9a6ad : MethodName := ⟨RJ11, "isValidCodePoint", "(I)Z"⟩
abbrev cJ11_highSurrogate_5068e : ByteArray := prog_14_method_28_code
def yJ11_highSurrogate_5068e : MethodName := ⟨RJ11, "highSurrogate", "(I)C"⟩
abbrev cJ11_lowSurrogate_5068e : ByteArray := prog_14_method_29_code
def yJ11_lowSurrogate_5068e : MethodName := ⟨RJ11, "lowSurrogate", "(I)C"⟩
def RJx8e188 : String := "java/lang/Cloneable"
def TJx8e188 : u_T := fun k => match k with
  | _ => ("", "", "", false)
def tyJx8e188 : Nat → FieldType := fun k => match k with
  | _ => .int
theorem nmJx8e188 : ∀ a, a < 0 → ∀ b, b < 0 → a ≠ b → (TJx8e188 a).2.1 ≠ (TJx8e188 b).2.1 := by decide +kernel
theorem tyJx8e188_ok : ∀ k, k < 0 → parseFieldDescriptor (TJx8e188 k).2.2.1 = some (tyJx8e188 k) := by decide +kernel
def RJ9 : String := "java/lang/Math"
def TJ9 : u_T := fun k => match k with
  | _ => ("", "", "", false)
def tyJ9 : Nat → FieldType := fun k => match k with
  | _ => .int
theorem nmJ9 : ∀ a, a < 0 → ∀ b, b < 0 → a ≠ b → (TJ9 a).2.1 ≠ (TJ9 b).2.1 := by decide +kernel
theorem tyJ9_ok : ∀ k, k < 0 → parseFieldDescriptor (TJ9 k).2.2.1 = some (tyJ9 k) := by decide +kernel
abbrev cJ9_abs_067f4 : ByteArray := prog_16_method_61_code
def yJ9_abs_067f4 : MethodName := ⟨RJ9, "abs", "(J)J"⟩
abbrev cJ9_max_7cf53 : ByteArray := prog_16_method_65_code
def yJ9_max_7cf53 : MethodName := ⟨RJ9, "max", "(II)I"⟩
abbrev cJ9_min_7cf53 : ByteArray := prog_16_method_69_code
def yJ9_min_7cf53 : MethodName := ⟨RJ9, "min", "(II)I"⟩
def RJ0 : String := "java/lang/String"
def TJ0 : u_T := fun k => match k with
  | _ => ("", "", "", false)
def tyJ0 : Nat → FieldType := fun k => match k with
  | _ => .int
theorem nmJ0 : ∀ a, a < 0 → ∀ b, b < 0 → a ≠ b → (TJ0 a).2.1 ≠ (TJ0 b).2.1 := by decide +kernel
theorem tyJ0_ok : ∀ k, k < 0 → parseFieldDescriptor (TJ0 k).2.2.1 = some (tyJ0 k) := by decide +kernel
abbrev cJ0_length_8abf5 : ByteArray := prog_17_method_54_code
def yJ0_length_8abf5 : MethodName := ⟨RJ0, "length", "()I"⟩
abbrev cJ0_charAt_5068e : ByteArray := prog_17_method_56_code
def yJ0_charAt_5068e : MethodName := ⟨RJ0, "charAt", "(I)C"⟩
abbrev cJ0_indexOf_0f7a4 : ByteArray := prog_17_method_79_code
def yJ0_indexOf_0f7a4 : MethodName := ⟨RJ0, "indexOf", "(I)I"⟩
abbrev cJ0_indexOf_7cf53 : ByteArray := prog_17_method_80_code
def yJ0_indexOf_7cf53 : MethodName := ⟨RJ0, "indexOf", "(II)I"⟩
abbrev cJ0_coder_7d493 : ByteArray := prog_17_method_152_code
def yJ0_coder_7d493 : MethodName := ⟨RJ0, "coder", "()B"⟩
abbrev cJ0_isLatin1_aae02 : ByteArray := prog_17_method_154_code
def yJ0_isLatin1_aae02 : MethodName := ⟨RJ0, "isLatin1", "()Z"⟩
abbrev cJ0_checkIndex_df160 : ByteArray := prog_17_method_155_code
def yJ0_checkIndex_df160 : MethodName := ⟨RJ0, "checkIndex", "(II)V"⟩
abbrev cJ0_checkBoundsBeginEnd_23922 : ByteArray := prog_17_method_158_code
def yJ0_checkBoundsBeginEnd_23922 : MethodName := ⟨RJ0, "checkBoundsBeginEnd", "(III)V"⟩
def RJ1 : String := "java/lang/StringLatin1"
def TJ1 : u_T := fun k => match k with
  | _ => ("", "", "", false)
def tyJ1 : Nat → FieldType := fun k => match k with
  | _ => .int
theorem nmJ1 : ∀ a, a < 0 → ∀ b, b < 0 → a ≠ b → (TJ1 a).2.1 ≠ (TJ1 b).2.1 := by decide +kernel
theorem tyJ1_ok : ∀ k, k < 0 → parseFieldDescriptor (TJ1 k).2.2.1 = some (tyJ1 k) := by decide +kernel
abbrev cJ1_charAt_3b067 : ByteArray := prog_18_method_2_code
def yJ1_charAt_3b067 : MethodName := ⟨RJ1, "charAt", "([BI)C"⟩
abbrev cJ1_canEncode_9a6ad : ByteArray := prog_18_method_4_code
def yJ1_canEncode_9a6ad : MethodName := ⟨RJ1, "canEncode", "(I)Z"⟩
abbrev cJ1_indexOf_4cfef : ByteArray := prog_18_method_22_code
def yJ1_indexOf_4cfef : MethodName := ⟨RJ1, "indexOf", "([BIII)I"⟩
abbrev cJ1_indexOfChar_4cfef : ByteArray := prog_18_method_23_code
def yJ1_indexOfChar_4cfef : MethodName := ⟨RJ1, "indexOfChar", "([BIII)I"⟩
def RJ2 : String := "java/lang/StringUTF16"
def TJ2 : u_T := fun k => match k with
  | _ => ("", "", "", false)
def tyJ2 : Nat → FieldType := fun k => match k with
  | _ => .int
theorem nmJ2 : ∀ a, a < 0 → ∀ b, b < 0 → a ≠ b → (TJ2 a).2.1 ≠ (TJ2 b).2.1 := by decide +kernel
theorem tyJ2_ok : ∀ k, k < 0 → parseFieldDescriptor (TJ2 k).2.2.1 = some (tyJ2 k) := by decide +kernel
abbrev cJ2_getChar_3b067 : ByteArray := prog_19_method_5_code
def yJ2_getChar_3b067 : MethodName := ⟨RJ2, "getChar", "([BI)C"⟩
abbrev cJ2_length_9d52b : ByteArray := prog_19_method_6_code
def yJ2_length_9d52b : MethodName := ⟨RJ2, "length", "([B)I"⟩
abbrev cJ2_indexOf_4cfef : ByteArray := prog_19_method_40_code
def yJ2_indexOf_4cfef : MethodName := ⟨RJ2, "indexOf", "([BIII)I"⟩
abbrev cJ2_indexOfChar_4cfef : ByteArray := prog_19_method_47_code
def yJ2_indexOfChar_4cfef : MethodName := ⟨RJ2, "indexOfChar", "([BIII)I"⟩
abbrev cJ2_indexOfCharUnsafe_4cfef : ByteArray := prog_19_method_48_code
def yJ2_indexOfCharUnsafe_4cfef : MethodName := ⟨RJ2, "indexOfCharUnsafe", "([BIII)I"⟩
abbrev cJ2_indexOfSupplementary_4cfef : ByteArray := prog_19_method_49_code
def yJ2_indexOfSupplementary_4cfef : MethodName := ⟨RJ2, "indexOfSupplementary", "([BIII)I"⟩
abbrev cJ2_charAt_3b067 : ByteArray := prog_19_method_83_code
def yJ2_charAt_3b067 : MethodName := ⟨RJ2, "charAt", "([BI)C"⟩
abbrev cJ2_checkIndex_2214a : ByteArray := prog_19_method_91_code
def yJ2_checkIndex_2214a : MethodName := ⟨RJ2, "checkIndex", "(I[B)V"⟩
abbrev cJ2_checkBoundsBeginEnd_d044e : ByteArray := prog_19_method_93_code
def yJ2_checkBoundsBeginEnd_d044e : MethodName := ⟨RJ2, "checkBoundsBeginEnd", "(II[B)V"⟩
def RJ10 : String := "java/lang/System"
def TJ10 : u_T := fun k => match k with
  | _ => ("", "", "", false)
def tyJ10 : Nat → FieldType := fun k => match k with
  | _ => .int
theorem nmJ10 : ∀ a, a < 0 → ∀ b, b < 0 → a ≠ b → (TJ10 a).2.1 ≠ (TJ10 b).2.1 := by decide +kernel
theorem tyJ10_ok : ∀ k, k < 0 → parseFieldDescriptor (TJ10 k).2.2.1 = some (tyJ10 k) := by decide +kernel
def RJ7 : String := "java/util/Arrays"
def TJ7 : u_T := fun k => match k with
  | _ => ("", "", "", false)
def tyJ7 : Nat → FieldType := fun k => match k with
  | _ => .int
theorem nmJ7 : ∀ a, a < 0 → ∀ b, b < 0 → a ≠ b → (TJ7 a).2.1 ≠ (TJ7 b).2.1 := by decide +kernel
theorem tyJ7_ok : ∀ k, k < 0 → parseFieldDescriptor (TJ7 k).2.2.1 = some (tyJ7 k) := by decide +kernel
abbrev cJ7_fill_d0a16 : ByteArray := prog_21_method_101_code
def yJ7_fill_d0a16 : MethodName := ⟨RJ7, "fill", "([JJ)V"⟩
abbrev cJ7_fill_53178 : ByteArray := prog_21_method_103_code
def yJ7_fill_53178 : MethodName := ⟨RJ7, "fill", "([II)V"⟩
abbrev cJ7_copyOf_59c91 : ByteArray := prog_21_method_123_code
def yJ7_copyOf_59c91 : MethodName := ⟨RJ7, "copyOf", "([II)[I"⟩
abbrev cJ7_copyOf_c38d5 : ByteArray := prog_21_method_124_code
def yJ7_copyOf_c38d5 : MethodName := ⟨RJ7, "copyOf", "([JI)[J"⟩
def RJ3 : String := "jdk/internal/util/Preconditions"
def TJ3 : u_T := fun k => match k with
  | _ => ("", "", "", false)
def tyJ3 : Nat → FieldType := fun k => match k with
  | _ => .int
theorem nmJ3 : ∀ a, a < 0 → ∀ b, b < 0 → a ≠ b → (TJ3 a).2.1 ≠ (TJ3 b).2.1 := by decide +kernel
theorem tyJ3_ok : ∀ k, k < 0 → parseFieldDescriptor (TJ3 k).2.2.1 = some (tyJ3 k) := by decide +kernel
abbrev cJ3_checkIndex_8e157 : ByteArray := prog_22_method_11_code
def yJ3_checkIndex_8e157 : MethodName := ⟨RJ3, "checkIndex", "(IILjava/util/function/BiFunction;)I"⟩
abbrev cJ3_checkFromToIndex_8c36e : ByteArray := prog_22_method_12_code
def yJ3_checkFromToIndex_8c36e : MethodName := ⟨RJ3, "checkFromToIndex", "(IIILjava/util/function/BiFunction;)I"⟩
def RL : String := "TollAlmanacLaw"
abbrev cL_law : ByteArray := code
def yL_law : MethodName := ⟨RL, "law", "([I)Z"⟩
abbrev vwCl : List vw_C := [(RX0, TX0, 17), (RX1, TX1, 4), (RX2, TX2, 6), (RX3, TX3, 9), (RX4, TX4, 8), (RX5, TX5, 5), (RX6, TX6, 13), (RX7, TX7, 7), (RX8, TX8, 8), (RX9, TX9, 9), (RX10, TX10, 9), (RX11, TX11, 85)]

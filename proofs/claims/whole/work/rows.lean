section
-- ===== PART A: goes FIRST, ahead of the names: the tables' words, and 'selects' of the private methods out of them =====
/-- a private method of a class that the tables say can be made, by its rows of tables_1 -/
def lw_okq (q : MethodName × Nat) : Prop := (q.1.cls ≠ "java/lang/invoke/MethodHandle" ∧ q.1.cls ≠ "java/lang/invoke/VarHandle") ∧ Cond.instantiable q.1.cls q.2 ∈ tables_1 ∧ Cond.privateMethod q.1 ∈ tables_1 ∧ Cond.instanceMethod q.1 ∈ tables_1
theorem lw_p0 : lw_okq (⟨"java/lang/Throwable", "fillInStackTrace", "(I)Ljava/lang/Throwable;"⟩, 6) := ⟨⟨by decide +kernel, by decide +kernel⟩, List.mem_of_getElem? (i := 436) (by decide +kernel), List.mem_of_getElem? (i := 434) (by decide +kernel), List.mem_of_getElem? (i := 435) (by decide +kernel)⟩
theorem lw_p1 : lw_okq (⟨"AlarmForge$Reader", "readToken", "()V"⟩, 9) := ⟨⟨by decide +kernel, by decide +kernel⟩, List.mem_of_getElem? (i := 40) (by decide +kernel), List.mem_of_getElem? (i := 499) (by decide +kernel), List.mem_of_getElem? (i := 500) (by decide +kernel)⟩
theorem lw_p2 : lw_okq (⟨"AlarmForge$Reader", "readNumeral", "()V"⟩, 9) := ⟨⟨by decide +kernel, by decide +kernel⟩, List.mem_of_getElem? (i := 40) (by decide +kernel), List.mem_of_getElem? (i := 506) (by decide +kernel), List.mem_of_getElem? (i := 507) (by decide +kernel)⟩
theorem lw_p3 : lw_okq (⟨"AlarmForge$Reader", "readWord", "()V"⟩, 9) := ⟨⟨by decide +kernel, by decide +kernel⟩, List.mem_of_getElem? (i := 40) (by decide +kernel), List.mem_of_getElem? (i := 513) (by decide +kernel), List.mem_of_getElem? (i := 514) (by decide +kernel)⟩
theorem lw_p4 : lw_okq (⟨"AlarmForge$Reader", "kindOfWord", "()I"⟩, 9) := ⟨⟨by decide +kernel, by decide +kernel⟩, List.mem_of_getElem? (i := 40) (by decide +kernel), List.mem_of_getElem? (i := 517) (by decide +kernel), List.mem_of_getElem? (i := 518) (by decide +kernel)⟩
theorem lw_p5 : lw_okq (⟨"AlarmForge$Reader", "isWord", "(Ljava/lang/String;)Z"⟩, 9) := ⟨⟨by decide +kernel, by decide +kernel⟩, List.mem_of_getElem? (i := 40) (by decide +kernel), List.mem_of_getElem? (i := 522) (by decide +kernel), List.mem_of_getElem? (i := 523) (by decide +kernel)⟩
theorem lw_p6 : lw_okq (⟨"AlarmForge$Reader", "readSign", "()V"⟩, 9) := ⟨⟨by decide +kernel, by decide +kernel⟩, List.mem_of_getElem? (i := 40) (by decide +kernel), List.mem_of_getElem? (i := 578) (by decide +kernel), List.mem_of_getElem? (i := 579) (by decide +kernel)⟩
theorem lw_p7 : lw_okq (⟨"AlarmForge$Parser", "readStatements", "(II)LAlarmForge$Statement;"⟩, 4) := ⟨⟨by decide +kernel, by decide +kernel⟩, List.mem_of_getElem? (i := 34) (by decide +kernel), List.mem_of_getElem? (i := 642) (by decide +kernel), List.mem_of_getElem? (i := 643) (by decide +kernel)⟩
theorem lw_p8 : lw_okq (⟨"AlarmForge$Parser", "kindHere", "()I"⟩, 4) := ⟨⟨by decide +kernel, by decide +kernel⟩, List.mem_of_getElem? (i := 34) (by decide +kernel), List.mem_of_getElem? (i := 646) (by decide +kernel), List.mem_of_getElem? (i := 647) (by decide +kernel)⟩
theorem lw_p9 : lw_okq (⟨"AlarmForge$Parser", "readStatement", "(I)LAlarmForge$Statement;"⟩, 4) := ⟨⟨by decide +kernel, by decide +kernel⟩, List.mem_of_getElem? (i := 34) (by decide +kernel), List.mem_of_getElem? (i := 650) (by decide +kernel), List.mem_of_getElem? (i := 651) (by decide +kernel)⟩
theorem lw_p10 : lw_okq (⟨"AlarmForge$Parser", "need", "(Z)V"⟩, 4) := ⟨⟨by decide +kernel, by decide +kernel⟩, List.mem_of_getElem? (i := 34) (by decide +kernel), List.mem_of_getElem? (i := 661) (by decide +kernel), List.mem_of_getElem? (i := 662) (by decide +kernel)⟩
theorem lw_p11 : lw_okq (⟨"AlarmForge$Parser", "advance", "()V"⟩, 4) := ⟨⟨by decide +kernel, by decide +kernel⟩, List.mem_of_getElem? (i := 34) (by decide +kernel), List.mem_of_getElem? (i := 675) (by decide +kernel), List.mem_of_getElem? (i := 676) (by decide +kernel)⟩
theorem lw_p12 : lw_okq (⟨"AlarmForge$Parser", "readAssignment", "(LAlarmForge$Statement;)V"⟩, 4) := ⟨⟨by decide +kernel, by decide +kernel⟩, List.mem_of_getElem? (i := 34) (by decide +kernel), List.mem_of_getElem? (i := 679) (by decide +kernel), List.mem_of_getElem? (i := 680) (by decide +kernel)⟩
theorem lw_p13 : lw_okq (⟨"AlarmForge$Parser", "take", "(I)V"⟩, 4) := ⟨⟨by decide +kernel, by decide +kernel⟩, List.mem_of_getElem? (i := 34) (by decide +kernel), List.mem_of_getElem? (i := 683) (by decide +kernel), List.mem_of_getElem? (i := 684) (by decide +kernel)⟩
theorem lw_p14 : lw_okq (⟨"AlarmForge$Parser", "readExpr", "(I)I"⟩, 4) := ⟨⟨by decide +kernel, by decide +kernel⟩, List.mem_of_getElem? (i := 34) (by decide +kernel), List.mem_of_getElem? (i := 687) (by decide +kernel), List.mem_of_getElem? (i := 688) (by decide +kernel)⟩
theorem lw_p15 : lw_okq (⟨"AlarmForge$Parser", "readTerm", "(I)I"⟩, 4) := ⟨⟨by decide +kernel, by decide +kernel⟩, List.mem_of_getElem? (i := 34) (by decide +kernel), List.mem_of_getElem? (i := 691) (by decide +kernel), List.mem_of_getElem? (i := 692) (by decide +kernel)⟩
def lw_privs_1 : List (MethodName × Nat) := [(⟨"java/lang/Throwable", "fillInStackTrace", "(I)Ljava/lang/Throwable;"⟩, 6), (⟨"AlarmForge$Reader", "readToken", "()V"⟩, 9), (⟨"AlarmForge$Reader", "readNumeral", "()V"⟩, 9), (⟨"AlarmForge$Reader", "readWord", "()V"⟩, 9), (⟨"AlarmForge$Reader", "kindOfWord", "()I"⟩, 9), (⟨"AlarmForge$Reader", "isWord", "(Ljava/lang/String;)Z"⟩, 9), (⟨"AlarmForge$Reader", "readSign", "()V"⟩, 9), (⟨"AlarmForge$Parser", "readStatements", "(II)LAlarmForge$Statement;"⟩, 4), (⟨"AlarmForge$Parser", "kindHere", "()I"⟩, 4), (⟨"AlarmForge$Parser", "readStatement", "(I)LAlarmForge$Statement;"⟩, 4), (⟨"AlarmForge$Parser", "need", "(Z)V"⟩, 4), (⟨"AlarmForge$Parser", "advance", "()V"⟩, 4), (⟨"AlarmForge$Parser", "readAssignment", "(LAlarmForge$Statement;)V"⟩, 4), (⟨"AlarmForge$Parser", "take", "(I)V"⟩, 4), (⟨"AlarmForge$Parser", "readExpr", "(I)I"⟩, 4), (⟨"AlarmForge$Parser", "readTerm", "(I)I"⟩, 4)]
theorem lw_r1 : ∀ q ∈ lw_privs_1, lw_okq q := List.forall_mem_cons.mpr ⟨lw_p0, List.forall_mem_cons.mpr ⟨lw_p1, List.forall_mem_cons.mpr ⟨lw_p2, List.forall_mem_cons.mpr ⟨lw_p3, List.forall_mem_cons.mpr ⟨lw_p4, List.forall_mem_cons.mpr ⟨lw_p5, List.forall_mem_cons.mpr ⟨lw_p6, List.forall_mem_cons.mpr ⟨lw_p7, List.forall_mem_cons.mpr ⟨lw_p8, List.forall_mem_cons.mpr ⟨lw_p9, List.forall_mem_cons.mpr ⟨lw_p10, List.forall_mem_cons.mpr ⟨lw_p11, List.forall_mem_cons.mpr ⟨lw_p12, List.forall_mem_cons.mpr ⟨lw_p13, List.forall_mem_cons.mpr ⟨lw_p14, List.forall_mem_cons.mpr ⟨lw_p15, fun _ h => absurd h List.not_mem_nil⟩⟩⟩⟩⟩⟩⟩⟩⟩⟩⟩⟩⟩⟩⟩⟩
theorem lw_p16 : lw_okq (⟨"AlarmForge$Parser", "readFactor", "(I)I"⟩, 4) := ⟨⟨by decide +kernel, by decide +kernel⟩, List.mem_of_getElem? (i := 34) (by decide +kernel), List.mem_of_getElem? (i := 695) (by decide +kernel), List.mem_of_getElem? (i := 696) (by decide +kernel)⟩
theorem lw_p17 : lw_okq (⟨"AlarmForge$Parser", "readStore", "(LAlarmForge$Statement;)V"⟩, 4) := ⟨⟨by decide +kernel, by decide +kernel⟩, List.mem_of_getElem? (i := 34) (by decide +kernel), List.mem_of_getElem? (i := 710) (by decide +kernel), List.mem_of_getElem? (i := 711) (by decide +kernel)⟩
theorem lw_p18 : lw_okq (⟨"AlarmForge$Parser", "readCond", "(LAlarmForge$Statement;)V"⟩, 4) := ⟨⟨by decide +kernel, by decide +kernel⟩, List.mem_of_getElem? (i := 34) (by decide +kernel), List.mem_of_getElem? (i := 714) (by decide +kernel), List.mem_of_getElem? (i := 715) (by decide +kernel)⟩
theorem lw_p19 : lw_okq (⟨"AlarmForge$Parser", "readRest", "(LAlarmForge$Statement;I)V"⟩, 4) := ⟨⟨by decide +kernel, by decide +kernel⟩, List.mem_of_getElem? (i := 34) (by decide +kernel), List.mem_of_getElem? (i := 718) (by decide +kernel), List.mem_of_getElem? (i := 719) (by decide +kernel)⟩
theorem lw_p20 : lw_okq (⟨"AlarmForge$Parser", "readBlock", "(I)LAlarmForge$Statement;"⟩, 4) := ⟨⟨by decide +kernel, by decide +kernel⟩, List.mem_of_getElem? (i := 34) (by decide +kernel), List.mem_of_getElem? (i := 722) (by decide +kernel), List.mem_of_getElem? (i := 723) (by decide +kernel)⟩
theorem lw_p21 : lw_okq (⟨"AlarmForge$Runner", "begin", "()V"⟩, 11) := ⟨⟨by decide +kernel, by decide +kernel⟩, List.mem_of_getElem? (i := 195) (by decide +kernel), List.mem_of_getElem? (i := 759) (by decide +kernel), List.mem_of_getElem? (i := 760) (by decide +kernel)⟩
theorem lw_p22 : lw_okq (⟨"AlarmForge$Runner", "doStatements", "(LAlarmForge$Statement;I)Z"⟩, 11) := ⟨⟨by decide +kernel, by decide +kernel⟩, List.mem_of_getElem? (i := 195) (by decide +kernel), List.mem_of_getElem? (i := 763) (by decide +kernel), List.mem_of_getElem? (i := 764) (by decide +kernel)⟩
theorem lw_p23 : lw_okq (⟨"AlarmForge$Runner", "mayBegin", "()Z"⟩, 11) := ⟨⟨by decide +kernel, by decide +kernel⟩, List.mem_of_getElem? (i := 195) (by decide +kernel), List.mem_of_getElem? (i := 767) (by decide +kernel), List.mem_of_getElem? (i := 768) (by decide +kernel)⟩
theorem lw_p24 : lw_okq (⟨"AlarmForge$Runner", "doStatement", "(LAlarmForge$Statement;I)Z"⟩, 11) := ⟨⟨by decide +kernel, by decide +kernel⟩, List.mem_of_getElem? (i := 195) (by decide +kernel), List.mem_of_getElem? (i := 771) (by decide +kernel), List.mem_of_getElem? (i := 772) (by decide +kernel)⟩
theorem lw_p25 : lw_okq (⟨"AlarmForge$Runner", "workOut", "(III)I"⟩, 11) := ⟨⟨by decide +kernel, by decide +kernel⟩, List.mem_of_getElem? (i := 195) (by decide +kernel), List.mem_of_getElem? (i := 775) (by decide +kernel), List.mem_of_getElem? (i := 776) (by decide +kernel)⟩
theorem lw_p26 : lw_okq (⟨"AlarmForge$Runner", "doStep", "(III)I"⟩, 11) := ⟨⟨by decide +kernel, by decide +kernel⟩, List.mem_of_getElem? (i := 195) (by decide +kernel), List.mem_of_getElem? (i := 783) (by decide +kernel), List.mem_of_getElem? (i := 784) (by decide +kernel)⟩
theorem lw_p27 : lw_okq (⟨"AlarmForge$Runner", "fail", "(II)V"⟩, 11) := ⟨⟨by decide +kernel, by decide +kernel⟩, List.mem_of_getElem? (i := 195) (by decide +kernel), List.mem_of_getElem? (i := 787) (by decide +kernel), List.mem_of_getElem? (i := 788) (by decide +kernel)⟩
theorem lw_p28 : lw_okq (⟨"AlarmForge$Runner", "cellOf", "(III)I"⟩, 11) := ⟨⟨by decide +kernel, by decide +kernel⟩, List.mem_of_getElem? (i := 195) (by decide +kernel), List.mem_of_getElem? (i := 838) (by decide +kernel), List.mem_of_getElem? (i := 839) (by decide +kernel)⟩
theorem lw_p29 : lw_okq (⟨"AlarmForge$Runner", "intOf", "(JI)I"⟩, 11) := ⟨⟨by decide +kernel, by decide +kernel⟩, List.mem_of_getElem? (i := 195) (by decide +kernel), List.mem_of_getElem? (i := 842) (by decide +kernel), List.mem_of_getElem? (i := 843) (by decide +kernel)⟩
theorem lw_p30 : lw_okq (⟨"AlarmForge$Runner", "divide", "(IJJI)J"⟩, 11) := ⟨⟨by decide +kernel, by decide +kernel⟩, List.mem_of_getElem? (i := 195) (by decide +kernel), List.mem_of_getElem? (i := 848) (by decide +kernel), List.mem_of_getElem? (i := 849) (by decide +kernel)⟩
theorem lw_p31 : lw_okq (⟨"AlarmForge$Runner", "combine", "(IJJ)J"⟩, 11) := ⟨⟨by decide +kernel, by decide +kernel⟩, List.mem_of_getElem? (i := 195) (by decide +kernel), List.mem_of_getElem? (i := 852) (by decide +kernel), List.mem_of_getElem? (i := 853) (by decide +kernel)⟩
def lw_privs_2 : List (MethodName × Nat) := [(⟨"AlarmForge$Parser", "readFactor", "(I)I"⟩, 4), (⟨"AlarmForge$Parser", "readStore", "(LAlarmForge$Statement;)V"⟩, 4), (⟨"AlarmForge$Parser", "readCond", "(LAlarmForge$Statement;)V"⟩, 4), (⟨"AlarmForge$Parser", "readRest", "(LAlarmForge$Statement;I)V"⟩, 4), (⟨"AlarmForge$Parser", "readBlock", "(I)LAlarmForge$Statement;"⟩, 4), (⟨"AlarmForge$Runner", "begin", "()V"⟩, 11), (⟨"AlarmForge$Runner", "doStatements", "(LAlarmForge$Statement;I)Z"⟩, 11), (⟨"AlarmForge$Runner", "mayBegin", "()Z"⟩, 11), (⟨"AlarmForge$Runner", "doStatement", "(LAlarmForge$Statement;I)Z"⟩, 11), (⟨"AlarmForge$Runner", "workOut", "(III)I"⟩, 11), (⟨"AlarmForge$Runner", "doStep", "(III)I"⟩, 11), (⟨"AlarmForge$Runner", "fail", "(II)V"⟩, 11), (⟨"AlarmForge$Runner", "cellOf", "(III)I"⟩, 11), (⟨"AlarmForge$Runner", "intOf", "(JI)I"⟩, 11), (⟨"AlarmForge$Runner", "divide", "(IJJI)J"⟩, 11), (⟨"AlarmForge$Runner", "combine", "(IJJ)J"⟩, 11)]
theorem lw_r2 : ∀ q ∈ lw_privs_2, lw_okq q := List.forall_mem_cons.mpr ⟨lw_p16, List.forall_mem_cons.mpr ⟨lw_p17, List.forall_mem_cons.mpr ⟨lw_p18, List.forall_mem_cons.mpr ⟨lw_p19, List.forall_mem_cons.mpr ⟨lw_p20, List.forall_mem_cons.mpr ⟨lw_p21, List.forall_mem_cons.mpr ⟨lw_p22, List.forall_mem_cons.mpr ⟨lw_p23, List.forall_mem_cons.mpr ⟨lw_p24, List.forall_mem_cons.mpr ⟨lw_p25, List.forall_mem_cons.mpr ⟨lw_p26, List.forall_mem_cons.mpr ⟨lw_p27, List.forall_mem_cons.mpr ⟨lw_p28, List.forall_mem_cons.mpr ⟨lw_p29, List.forall_mem_cons.mpr ⟨lw_p30, List.forall_mem_cons.mpr ⟨lw_p31, fun _ h => absurd h List.not_mem_nil⟩⟩⟩⟩⟩⟩⟩⟩⟩⟩⟩⟩⟩⟩⟩⟩
theorem lw_p32 : lw_okq (⟨"AlarmForge$Runner", "assign", "(II)V"⟩, 11) := ⟨⟨by decide +kernel, by decide +kernel⟩, List.mem_of_getElem? (i := 195) (by decide +kernel), List.mem_of_getElem? (i := 856) (by decide +kernel), List.mem_of_getElem? (i := 857) (by decide +kernel)⟩
theorem lw_p33 : lw_okq (⟨"AlarmForge$Runner", "nextInput", "()I"⟩, 11) := ⟨⟨by decide +kernel, by decide +kernel⟩, List.mem_of_getElem? (i := 195) (by decide +kernel), List.mem_of_getElem? (i := 860) (by decide +kernel), List.mem_of_getElem? (i := 861) (by decide +kernel)⟩
theorem lw_p34 : lw_okq (⟨"AlarmForge$Runner", "store", "(LAlarmForge$Statement;)V"⟩, 11) := ⟨⟨by decide +kernel, by decide +kernel⟩, List.mem_of_getElem? (i := 195) (by decide +kernel), List.mem_of_getElem? (i := 864) (by decide +kernel), List.mem_of_getElem? (i := 865) (by decide +kernel)⟩
theorem lw_p35 : lw_okq (⟨"AlarmForge$Runner", "holds", "(LAlarmForge$Statement;)Z"⟩, 11) := ⟨⟨by decide +kernel, by decide +kernel⟩, List.mem_of_getElem? (i := 195) (by decide +kernel), List.mem_of_getElem? (i := 868) (by decide +kernel), List.mem_of_getElem? (i := 869) (by decide +kernel)⟩
theorem lw_p36 : lw_okq (⟨"AlarmForge$Runner", "doWhile", "(LAlarmForge$Statement;I)Z"⟩, 11) := ⟨⟨by decide +kernel, by decide +kernel⟩, List.mem_of_getElem? (i := 195) (by decide +kernel), List.mem_of_getElem? (i := 872) (by decide +kernel), List.mem_of_getElem? (i := 873) (by decide +kernel)⟩
theorem lw_p37 : lw_okq (⟨"AlarmForge$Analyser", "goStatements", "(LAlarmForge$Statement;LAlarmForge$State;I)V"⟩, 11) := ⟨⟨by decide +kernel, by decide +kernel⟩, List.mem_of_getElem? (i := 243) (by decide +kernel), List.mem_of_getElem? (i := 906) (by decide +kernel), List.mem_of_getElem? (i := 907) (by decide +kernel)⟩
theorem lw_p38 : lw_okq (⟨"AlarmForge$Analyser", "goStatement", "(LAlarmForge$Statement;LAlarmForge$State;I)V"⟩, 11) := ⟨⟨by decide +kernel, by decide +kernel⟩, List.mem_of_getElem? (i := 243) (by decide +kernel), List.mem_of_getElem? (i := 910) (by decide +kernel), List.mem_of_getElem? (i := 911) (by decide +kernel)⟩
theorem lw_p39 : lw_okq (⟨"AlarmForge$Analyser", "goAssignment", "(LAlarmForge$Statement;LAlarmForge$State;)V"⟩, 11) := ⟨⟨by decide +kernel, by decide +kernel⟩, List.mem_of_getElem? (i := 243) (by decide +kernel), List.mem_of_getElem? (i := 914) (by decide +kernel), List.mem_of_getElem? (i := 915) (by decide +kernel)⟩
theorem lw_p40 : lw_okq (⟨"AlarmForge$Analyser", "workOut", "(IIILAlarmForge$State;)Z"⟩, 11) := ⟨⟨by decide +kernel, by decide +kernel⟩, List.mem_of_getElem? (i := 243) (by decide +kernel), List.mem_of_getElem? (i := 918) (by decide +kernel), List.mem_of_getElem? (i := 919) (by decide +kernel)⟩
theorem lw_p41 : lw_okq (⟨"AlarmForge$Analyser", "doStep", "(ILAlarmForge$Value;LAlarmForge$Value;LAlarmForge$State;)V"⟩, 11) := ⟨⟨by decide +kernel, by decide +kernel⟩, List.mem_of_getElem? (i := 243) (by decide +kernel), List.mem_of_getElem? (i := 923) (by decide +kernel), List.mem_of_getElem? (i := 924) (by decide +kernel)⟩
theorem lw_p42 : lw_okq (⟨"AlarmForge$Analyser", "warnIf", "(ZII)V"⟩, 11) := ⟨⟨by decide +kernel, by decide +kernel⟩, List.mem_of_getElem? (i := 243) (by decide +kernel), List.mem_of_getElem? (i := 932) (by decide +kernel), List.mem_of_getElem? (i := 933) (by decide +kernel)⟩
theorem lw_p43 : lw_okq (⟨"AlarmForge$Value", "putTight", "()Z"⟩, 5) := ⟨⟨by decide +kernel, by decide +kernel⟩, List.mem_of_getElem? (i := 256) (by decide +kernel), List.mem_of_getElem? (i := 969) (by decide +kernel), List.mem_of_getElem? (i := 970) (by decide +kernel)⟩
theorem lw_p44 : lw_okq (⟨"AlarmForge$Value", "takeQuotients", "(JJJ)V"⟩, 5) := ⟨⟨by decide +kernel, by decide +kernel⟩, List.mem_of_getElem? (i := 256) (by decide +kernel), List.mem_of_getElem? (i := 996) (by decide +kernel), List.mem_of_getElem? (i := 997) (by decide +kernel)⟩
theorem lw_p45 : lw_okq (⟨"AlarmForge$Analyser", "goStore", "(LAlarmForge$Statement;LAlarmForge$State;)V"⟩, 11) := ⟨⟨by decide +kernel, by decide +kernel⟩, List.mem_of_getElem? (i := 243) (by decide +kernel), List.mem_of_getElem? (i := 1009) (by decide +kernel), List.mem_of_getElem? (i := 1010) (by decide +kernel)⟩
theorem lw_p46 : lw_okq (⟨"AlarmForge$Analyser", "goIf", "(LAlarmForge$Statement;LAlarmForge$State;I)V"⟩, 11) := ⟨⟨by decide +kernel, by decide +kernel⟩, List.mem_of_getElem? (i := 243) (by decide +kernel), List.mem_of_getElem? (i := 1013) (by decide +kernel), List.mem_of_getElem? (i := 1014) (by decide +kernel)⟩
theorem lw_p47 : lw_okq (⟨"AlarmForge$Analyser", "assume", "(LAlarmForge$Statement;LAlarmForge$State;Z)V"⟩, 11) := ⟨⟨by decide +kernel, by decide +kernel⟩, List.mem_of_getElem? (i := 243) (by decide +kernel), List.mem_of_getElem? (i := 1022) (by decide +kernel), List.mem_of_getElem? (i := 1023) (by decide +kernel)⟩
def lw_privs_3 : List (MethodName × Nat) := [(⟨"AlarmForge$Runner", "assign", "(II)V"⟩, 11), (⟨"AlarmForge$Runner", "nextInput", "()I"⟩, 11), (⟨"AlarmForge$Runner", "store", "(LAlarmForge$Statement;)V"⟩, 11), (⟨"AlarmForge$Runner", "holds", "(LAlarmForge$Statement;)Z"⟩, 11), (⟨"AlarmForge$Runner", "doWhile", "(LAlarmForge$Statement;I)Z"⟩, 11), (⟨"AlarmForge$Analyser", "goStatements", "(LAlarmForge$Statement;LAlarmForge$State;I)V"⟩, 11), (⟨"AlarmForge$Analyser", "goStatement", "(LAlarmForge$Statement;LAlarmForge$State;I)V"⟩, 11), (⟨"AlarmForge$Analyser", "goAssignment", "(LAlarmForge$Statement;LAlarmForge$State;)V"⟩, 11), (⟨"AlarmForge$Analyser", "workOut", "(IIILAlarmForge$State;)Z"⟩, 11), (⟨"AlarmForge$Analyser", "doStep", "(ILAlarmForge$Value;LAlarmForge$Value;LAlarmForge$State;)V"⟩, 11), (⟨"AlarmForge$Analyser", "warnIf", "(ZII)V"⟩, 11), (⟨"AlarmForge$Value", "putTight", "()Z"⟩, 5), (⟨"AlarmForge$Value", "takeQuotients", "(JJJ)V"⟩, 5), (⟨"AlarmForge$Analyser", "goStore", "(LAlarmForge$Statement;LAlarmForge$State;)V"⟩, 11), (⟨"AlarmForge$Analyser", "goIf", "(LAlarmForge$Statement;LAlarmForge$State;I)V"⟩, 11), (⟨"AlarmForge$Analyser", "assume", "(LAlarmForge$Statement;LAlarmForge$State;Z)V"⟩, 11)]
theorem lw_r3 : ∀ q ∈ lw_privs_3, lw_okq q := List.forall_mem_cons.mpr ⟨lw_p32, List.forall_mem_cons.mpr ⟨lw_p33, List.forall_mem_cons.mpr ⟨lw_p34, List.forall_mem_cons.mpr ⟨lw_p35, List.forall_mem_cons.mpr ⟨lw_p36, List.forall_mem_cons.mpr ⟨lw_p37, List.forall_mem_cons.mpr ⟨lw_p38, List.forall_mem_cons.mpr ⟨lw_p39, List.forall_mem_cons.mpr ⟨lw_p40, List.forall_mem_cons.mpr ⟨lw_p41, List.forall_mem_cons.mpr ⟨lw_p42, List.forall_mem_cons.mpr ⟨lw_p43, List.forall_mem_cons.mpr ⟨lw_p44, List.forall_mem_cons.mpr ⟨lw_p45, List.forall_mem_cons.mpr ⟨lw_p46, List.forall_mem_cons.mpr ⟨lw_p47, fun _ h => absurd h List.not_mem_nil⟩⟩⟩⟩⟩⟩⟩⟩⟩⟩⟩⟩⟩⟩⟩⟩
theorem lw_p48 : lw_okq (⟨"AlarmForge$Analyser", "compare", "(ILAlarmForge$Value;LAlarmForge$Value;)V"⟩, 11) := ⟨⟨by decide +kernel, by decide +kernel⟩, List.mem_of_getElem? (i := 243) (by decide +kernel), List.mem_of_getElem? (i := 1029) (by decide +kernel), List.mem_of_getElem? (i := 1030) (by decide +kernel)⟩
theorem lw_p49 : lw_okq (⟨"AlarmForge$Value", "meets", "(LAlarmForge$Value;)Z"⟩, 5) := ⟨⟨by decide +kernel, by decide +kernel⟩, List.mem_of_getElem? (i := 256) (by decide +kernel), List.mem_of_getElem? (i := 1037) (by decide +kernel), List.mem_of_getElem? (i := 1038) (by decide +kernel)⟩
theorem lw_p50 : lw_okq (⟨"AlarmForge$Analyser", "compareUnequal", "(LAlarmForge$Value;LAlarmForge$Value;)V"⟩, 11) := ⟨⟨by decide +kernel, by decide +kernel⟩, List.mem_of_getElem? (i := 243) (by decide +kernel), List.mem_of_getElem? (i := 1041) (by decide +kernel), List.mem_of_getElem? (i := 1042) (by decide +kernel)⟩
theorem lw_p51 : lw_okq (⟨"AlarmForge$Analyser", "compareOrder", "(LAlarmForge$Value;LAlarmForge$Value;I)V"⟩, 11) := ⟨⟨by decide +kernel, by decide +kernel⟩, List.mem_of_getElem? (i := 243) (by decide +kernel), List.mem_of_getElem? (i := 1049) (by decide +kernel), List.mem_of_getElem? (i := 1050) (by decide +kernel)⟩
theorem lw_p52 : lw_okq (⟨"AlarmForge$Analyser", "learn", "(IILAlarmForge$Value;LAlarmForge$State;)V"⟩, 11) := ⟨⟨by decide +kernel, by decide +kernel⟩, List.mem_of_getElem? (i := 243) (by decide +kernel), List.mem_of_getElem? (i := 1061) (by decide +kernel), List.mem_of_getElem? (i := 1062) (by decide +kernel)⟩
theorem lw_p53 : lw_okq (⟨"AlarmForge$State", "merge", "(LAlarmForge$State;Z)V"⟩, 3) := ⟨⟨by decide +kernel, by decide +kernel⟩, List.mem_of_getElem? (i := 249) (by decide +kernel), List.mem_of_getElem? (i := 1069) (by decide +kernel), List.mem_of_getElem? (i := 1070) (by decide +kernel)⟩
theorem lw_p54 : lw_okq (⟨"AlarmForge$Analyser", "goWhile", "(LAlarmForge$Statement;LAlarmForge$State;I)V"⟩, 11) := ⟨⟨by decide +kernel, by decide +kernel⟩, List.mem_of_getElem? (i := 243) (by decide +kernel), List.mem_of_getElem? (i := 1088) (by decide +kernel), List.mem_of_getElem? (i := 1089) (by decide +kernel)⟩
theorem lw_p55 : lw_okq (⟨"AlarmForge$Analyser", "settle", "(LAlarmForge$Statement;LAlarmForge$State;I)V"⟩, 11) := ⟨⟨by decide +kernel, by decide +kernel⟩, List.mem_of_getElem? (i := 243) (by decide +kernel), List.mem_of_getElem? (i := 1092) (by decide +kernel), List.mem_of_getElem? (i := 1093) (by decide +kernel)⟩
theorem lw_p56 : lw_okq (⟨"AlarmForge$Analyser", "goPass", "(LAlarmForge$Statement;LAlarmForge$State;I)V"⟩, 11) := ⟨⟨by decide +kernel, by decide +kernel⟩, List.mem_of_getElem? (i := 243) (by decide +kernel), List.mem_of_getElem? (i := 1096) (by decide +kernel), List.mem_of_getElem? (i := 1097) (by decide +kernel)⟩
theorem lw_p57 : lw_okq (⟨"AlarmForge$Analyser", "goAssert", "(LAlarmForge$Statement;LAlarmForge$State;I)V"⟩, 11) := ⟨⟨by decide +kernel, by decide +kernel⟩, List.mem_of_getElem? (i := 243) (by decide +kernel), List.mem_of_getElem? (i := 1117) (by decide +kernel), List.mem_of_getElem? (i := 1118) (by decide +kernel)⟩
theorem lw_p58 : lw_okq (⟨"AlarmForgeModel", "fail", "(I)I"⟩, 68) := ⟨⟨by decide +kernel, by decide +kernel⟩, List.mem_of_getElem? (i := 1154) (by decide +kernel), List.mem_of_getElem? (i := 1379) (by decide +kernel), List.mem_of_getElem? (i := 1380) (by decide +kernel)⟩
theorem lw_p59 : lw_okq (⟨"AlarmForgeModel", "read", "()V"⟩, 68) := ⟨⟨by decide +kernel, by decide +kernel⟩, List.mem_of_getElem? (i := 1154) (by decide +kernel), List.mem_of_getElem? (i := 1391) (by decide +kernel), List.mem_of_getElem? (i := 1392) (by decide +kernel)⟩
theorem lw_p60 : lw_okq (⟨"AlarmForgeModel", "charAt", "(I)I"⟩, 68) := ⟨⟨by decide +kernel, by decide +kernel⟩, List.mem_of_getElem? (i := 1154) (by decide +kernel), List.mem_of_getElem? (i := 1400) (by decide +kernel), List.mem_of_getElem? (i := 1401) (by decide +kernel)⟩
theorem lw_p61 : lw_okq (⟨"AlarmForgeModel", "word", "()V"⟩, 68) := ⟨⟨by decide +kernel, by decide +kernel⟩, List.mem_of_getElem? (i := 1154) (by decide +kernel), List.mem_of_getElem? (i := 1411) (by decide +kernel), List.mem_of_getElem? (i := 1412) (by decide +kernel)⟩
theorem lw_p62 : lw_okq (⟨"AlarmForgeModel", "isText", "(IJ)Z"⟩, 68) := ⟨⟨by decide +kernel, by decide +kernel⟩, List.mem_of_getElem? (i := 1154) (by decide +kernel), List.mem_of_getElem? (i := 1421) (by decide +kernel), List.mem_of_getElem? (i := 1422) (by decide +kernel)⟩
theorem lw_p63 : lw_okq (⟨"AlarmForgeModel", "is", "(I)Z"⟩, 68) := ⟨⟨by decide +kernel, by decide +kernel⟩, List.mem_of_getElem? (i := 1154) (by decide +kernel), List.mem_of_getElem? (i := 1433) (by decide +kernel), List.mem_of_getElem? (i := 1434) (by decide +kernel)⟩
def lw_privs_4 : List (MethodName × Nat) := [(⟨"AlarmForge$Analyser", "compare", "(ILAlarmForge$Value;LAlarmForge$Value;)V"⟩, 11), (⟨"AlarmForge$Value", "meets", "(LAlarmForge$Value;)Z"⟩, 5), (⟨"AlarmForge$Analyser", "compareUnequal", "(LAlarmForge$Value;LAlarmForge$Value;)V"⟩, 11), (⟨"AlarmForge$Analyser", "compareOrder", "(LAlarmForge$Value;LAlarmForge$Value;I)V"⟩, 11), (⟨"AlarmForge$Analyser", "learn", "(IILAlarmForge$Value;LAlarmForge$State;)V"⟩, 11), (⟨"AlarmForge$State", "merge", "(LAlarmForge$State;Z)V"⟩, 3), (⟨"AlarmForge$Analyser", "goWhile", "(LAlarmForge$Statement;LAlarmForge$State;I)V"⟩, 11), (⟨"AlarmForge$Analyser", "settle", "(LAlarmForge$Statement;LAlarmForge$State;I)V"⟩, 11), (⟨"AlarmForge$Analyser", "goPass", "(LAlarmForge$Statement;LAlarmForge$State;I)V"⟩, 11), (⟨"AlarmForge$Analyser", "goAssert", "(LAlarmForge$Statement;LAlarmForge$State;I)V"⟩, 11), (⟨"AlarmForgeModel", "fail", "(I)I"⟩, 68), (⟨"AlarmForgeModel", "read", "()V"⟩, 68), (⟨"AlarmForgeModel", "charAt", "(I)I"⟩, 68), (⟨"AlarmForgeModel", "word", "()V"⟩, 68), (⟨"AlarmForgeModel", "isText", "(IJ)Z"⟩, 68), (⟨"AlarmForgeModel", "is", "(I)Z"⟩, 68)]
theorem lw_r4 : ∀ q ∈ lw_privs_4, lw_okq q := List.forall_mem_cons.mpr ⟨lw_p48, List.forall_mem_cons.mpr ⟨lw_p49, List.forall_mem_cons.mpr ⟨lw_p50, List.forall_mem_cons.mpr ⟨lw_p51, List.forall_mem_cons.mpr ⟨lw_p52, List.forall_mem_cons.mpr ⟨lw_p53, List.forall_mem_cons.mpr ⟨lw_p54, List.forall_mem_cons.mpr ⟨lw_p55, List.forall_mem_cons.mpr ⟨lw_p56, List.forall_mem_cons.mpr ⟨lw_p57, List.forall_mem_cons.mpr ⟨lw_p58, List.forall_mem_cons.mpr ⟨lw_p59, List.forall_mem_cons.mpr ⟨lw_p60, List.forall_mem_cons.mpr ⟨lw_p61, List.forall_mem_cons.mpr ⟨lw_p62, List.forall_mem_cons.mpr ⟨lw_p63, fun _ h => absurd h List.not_mem_nil⟩⟩⟩⟩⟩⟩⟩⟩⟩⟩⟩⟩⟩⟩⟩⟩
theorem lw_p64 : lw_okq (⟨"AlarmForgeModel", "endBlock", "()V"⟩, 68) := ⟨⟨by decide +kernel, by decide +kernel⟩, List.mem_of_getElem? (i := 1154) (by decide +kernel), List.mem_of_getElem? (i := 1437) (by decide +kernel), List.mem_of_getElem? (i := 1438) (by decide +kernel)⟩
theorem lw_p65 : lw_okq (⟨"AlarmForgeModel", "wrong", "()V"⟩, 68) := ⟨⟨by decide +kernel, by decide +kernel⟩, List.mem_of_getElem? (i := 1154) (by decide +kernel), List.mem_of_getElem? (i := 1441) (by decide +kernel), List.mem_of_getElem? (i := 1442) (by decide +kernel)⟩
theorem lw_p66 : lw_okq (⟨"AlarmForgeModel", "openBlock", "(II)V"⟩, 68) := ⟨⟨by decide +kernel, by decide +kernel⟩, List.mem_of_getElem? (i := 1154) (by decide +kernel), List.mem_of_getElem? (i := 1445) (by decide +kernel), List.mem_of_getElem? (i := 1446) (by decide +kernel)⟩
theorem lw_p67 : lw_okq (⟨"AlarmForgeModel", "assignment", "()V"⟩, 68) := ⟨⟨by decide +kernel, by decide +kernel⟩, List.mem_of_getElem? (i := 1154) (by decide +kernel), List.mem_of_getElem? (i := 1449) (by decide +kernel), List.mem_of_getElem? (i := 1450) (by decide +kernel)⟩
theorem lw_p68 : lw_okq (⟨"AlarmForgeModel", "statement", "(I)I"⟩, 68) := ⟨⟨by decide +kernel, by decide +kernel⟩, List.mem_of_getElem? (i := 1154) (by decide +kernel), List.mem_of_getElem? (i := 1453) (by decide +kernel), List.mem_of_getElem? (i := 1454) (by decide +kernel)⟩
theorem lw_p69 : lw_okq (⟨"AlarmForgeModel", "expect", "(I)V"⟩, 68) := ⟨⟨by decide +kernel, by decide +kernel⟩, List.mem_of_getElem? (i := 1154) (by decide +kernel), List.mem_of_getElem? (i := 1457) (by decide +kernel), List.mem_of_getElem? (i := 1458) (by decide +kernel)⟩
theorem lw_p70 : lw_okq (⟨"AlarmForgeModel", "expression", "()I"⟩, 68) := ⟨⟨by decide +kernel, by decide +kernel⟩, List.mem_of_getElem? (i := 1154) (by decide +kernel), List.mem_of_getElem? (i := 1461) (by decide +kernel), List.mem_of_getElem? (i := 1462) (by decide +kernel)⟩
theorem lw_p71 : lw_okq (⟨"AlarmForgeModel", "want", "()Z"⟩, 68) := ⟨⟨by decide +kernel, by decide +kernel⟩, List.mem_of_getElem? (i := 1154) (by decide +kernel), List.mem_of_getElem? (i := 1465) (by decide +kernel), List.mem_of_getElem? (i := 1466) (by decide +kernel)⟩
theorem lw_p72 : lw_okq (⟨"AlarmForgeModel", "leaf", "(I)V"⟩, 68) := ⟨⟨by decide +kernel, by decide +kernel⟩, List.mem_of_getElem? (i := 1154) (by decide +kernel), List.mem_of_getElem? (i := 1469) (by decide +kernel), List.mem_of_getElem? (i := 1470) (by decide +kernel)⟩
theorem lw_p73 : lw_okq (⟨"AlarmForgeModel", "emit", "(III)V"⟩, 68) := ⟨⟨by decide +kernel, by decide +kernel⟩, List.mem_of_getElem? (i := 1154) (by decide +kernel), List.mem_of_getElem? (i := 1473) (by decide +kernel), List.mem_of_getElem? (i := 1474) (by decide +kernel)⟩
theorem lw_p74 : lw_okq (⟨"AlarmForgeModel", "opposites", "()V"⟩, 68) := ⟨⟨by decide +kernel, by decide +kernel⟩, List.mem_of_getElem? (i := 1154) (by decide +kernel), List.mem_of_getElem? (i := 1477) (by decide +kernel), List.mem_of_getElem? (i := 1478) (by decide +kernel)⟩
theorem lw_p75 : lw_okq (⟨"AlarmForgeModel", "push", "(III)V"⟩, 68) := ⟨⟨by decide +kernel, by decide +kernel⟩, List.mem_of_getElem? (i := 1154) (by decide +kernel), List.mem_of_getElem? (i := 1481) (by decide +kernel), List.mem_of_getElem? (i := 1482) (by decide +kernel)⟩
theorem lw_p76 : lw_okq (⟨"AlarmForgeModel", "reduce", "(I)V"⟩, 68) := ⟨⟨by decide +kernel, by decide +kernel⟩, List.mem_of_getElem? (i := 1154) (by decide +kernel), List.mem_of_getElem? (i := 1488) (by decide +kernel), List.mem_of_getElem? (i := 1489) (by decide +kernel)⟩
theorem lw_p77 : lw_okq (⟨"AlarmForgeModel", "bracket", "()I"⟩, 68) := ⟨⟨by decide +kernel, by decide +kernel⟩, List.mem_of_getElem? (i := 1154) (by decide +kernel), List.mem_of_getElem? (i := 1495) (by decide +kernel), List.mem_of_getElem? (i := 1496) (by decide +kernel)⟩
theorem lw_p78 : lw_okq (⟨"AlarmForgeModel", "close", "()V"⟩, 68) := ⟨⟨by decide +kernel, by decide +kernel⟩, List.mem_of_getElem? (i := 1154) (by decide +kernel), List.mem_of_getElem? (i := 1499) (by decide +kernel), List.mem_of_getElem? (i := 1500) (by decide +kernel)⟩
theorem lw_p79 : lw_okq (⟨"AlarmForgeModel", "storing", "()V"⟩, 68) := ⟨⟨by decide +kernel, by decide +kernel⟩, List.mem_of_getElem? (i := 1154) (by decide +kernel), List.mem_of_getElem? (i := 1503) (by decide +kernel), List.mem_of_getElem? (i := 1504) (by decide +kernel)⟩
def lw_privs_5 : List (MethodName × Nat) := [(⟨"AlarmForgeModel", "endBlock", "()V"⟩, 68), (⟨"AlarmForgeModel", "wrong", "()V"⟩, 68), (⟨"AlarmForgeModel", "openBlock", "(II)V"⟩, 68), (⟨"AlarmForgeModel", "assignment", "()V"⟩, 68), (⟨"AlarmForgeModel", "statement", "(I)I"⟩, 68), (⟨"AlarmForgeModel", "expect", "(I)V"⟩, 68), (⟨"AlarmForgeModel", "expression", "()I"⟩, 68), (⟨"AlarmForgeModel", "want", "()Z"⟩, 68), (⟨"AlarmForgeModel", "leaf", "(I)V"⟩, 68), (⟨"AlarmForgeModel", "emit", "(III)V"⟩, 68), (⟨"AlarmForgeModel", "opposites", "()V"⟩, 68), (⟨"AlarmForgeModel", "push", "(III)V"⟩, 68), (⟨"AlarmForgeModel", "reduce", "(I)V"⟩, 68), (⟨"AlarmForgeModel", "bracket", "()I"⟩, 68), (⟨"AlarmForgeModel", "close", "()V"⟩, 68), (⟨"AlarmForgeModel", "storing", "()V"⟩, 68)]
theorem lw_r5 : ∀ q ∈ lw_privs_5, lw_okq q := List.forall_mem_cons.mpr ⟨lw_p64, List.forall_mem_cons.mpr ⟨lw_p65, List.forall_mem_cons.mpr ⟨lw_p66, List.forall_mem_cons.mpr ⟨lw_p67, List.forall_mem_cons.mpr ⟨lw_p68, List.forall_mem_cons.mpr ⟨lw_p69, List.forall_mem_cons.mpr ⟨lw_p70, List.forall_mem_cons.mpr ⟨lw_p71, List.forall_mem_cons.mpr ⟨lw_p72, List.forall_mem_cons.mpr ⟨lw_p73, List.forall_mem_cons.mpr ⟨lw_p74, List.forall_mem_cons.mpr ⟨lw_p75, List.forall_mem_cons.mpr ⟨lw_p76, List.forall_mem_cons.mpr ⟨lw_p77, List.forall_mem_cons.mpr ⟨lw_p78, List.forall_mem_cons.mpr ⟨lw_p79, fun _ h => absurd h List.not_mem_nil⟩⟩⟩⟩⟩⟩⟩⟩⟩⟩⟩⟩⟩⟩⟩⟩
theorem lw_p80 : lw_okq (⟨"AlarmForgeModel", "byWord", "()V"⟩, 68) := ⟨⟨by decide +kernel, by decide +kernel⟩, List.mem_of_getElem? (i := 1154) (by decide +kernel), List.mem_of_getElem? (i := 1507) (by decide +kernel), List.mem_of_getElem? (i := 1508) (by decide +kernel)⟩
theorem lw_p81 : lw_okq (⟨"AlarmForgeModel", "condition", "(I)V"⟩, 68) := ⟨⟨by decide +kernel, by decide +kernel⟩, List.mem_of_getElem? (i := 1154) (by decide +kernel), List.mem_of_getElem? (i := 1511) (by decide +kernel), List.mem_of_getElem? (i := 1512) (by decide +kernel)⟩
theorem lw_p82 : lw_okq (⟨"AlarmForgeModel", "go", "(I)I"⟩, 68) := ⟨⟨by decide +kernel, by decide +kernel⟩, List.mem_of_getElem? (i := 1154) (by decide +kernel), List.mem_of_getElem? (i := 1537) (by decide +kernel), List.mem_of_getElem? (i := 1538) (by decide +kernel)⟩
theorem lw_p83 : lw_okq (⟨"AlarmForgeModel", "ask", "(I)I"⟩, 68) := ⟨⟨by decide +kernel, by decide +kernel⟩, List.mem_of_getElem? (i := 1154) (by decide +kernel), List.mem_of_getElem? (i := 1541) (by decide +kernel), List.mem_of_getElem? (i := 1542) (by decide +kernel)⟩
theorem lw_p84 : lw_okq (⟨"AlarmForgeModel", "work", "(II)Z"⟩, 68) := ⟨⟨by decide +kernel, by decide +kernel⟩, List.mem_of_getElem? (i := 1154) (by decide +kernel), List.mem_of_getElem? (i := 1545) (by decide +kernel), List.mem_of_getElem? (i := 1546) (by decide +kernel)⟩
theorem lw_p85 : lw_okq (⟨"AlarmForgeModel", "stop", "(II)Z"⟩, 68) := ⟨⟨by decide +kernel, by decide +kernel⟩, List.mem_of_getElem? (i := 1154) (by decide +kernel), List.mem_of_getElem? (i := 1549) (by decide +kernel), List.mem_of_getElem? (i := 1550) (by decide +kernel)⟩
theorem lw_p86 : lw_okq (⟨"AlarmForgeModel", "simple", "(I)Z"⟩, 68) := ⟨⟨by decide +kernel, by decide +kernel⟩, List.mem_of_getElem? (i := 1154) (by decide +kernel), List.mem_of_getElem? (i := 1559) (by decide +kernel), List.mem_of_getElem? (i := 1560) (by decide +kernel)⟩
theorem lw_p87 : lw_okq (⟨"AlarmForgeModel", "none", "(I)V"⟩, 68) := ⟨⟨by decide +kernel, by decide +kernel⟩, List.mem_of_getElem? (i := 1154) (by decide +kernel), List.mem_of_getElem? (i := 1578) (by decide +kernel), List.mem_of_getElem? (i := 1579) (by decide +kernel)⟩
theorem lw_p88 : lw_okq (⟨"AlarmForgeModel", "put4", "(IJJJJ)V"⟩, 68) := ⟨⟨by decide +kernel, by decide +kernel⟩, List.mem_of_getElem? (i := 1154) (by decide +kernel), List.mem_of_getElem? (i := 1583) (by decide +kernel), List.mem_of_getElem? (i := 1584) (by decide +kernel)⟩
theorem lw_p89 : lw_okq (⟨"AlarmForgeModel", "enter", "(I)I"⟩, 68) := ⟨⟨by decide +kernel, by decide +kernel⟩, List.mem_of_getElem? (i := 1154) (by decide +kernel), List.mem_of_getElem? (i := 1587) (by decide +kernel), List.mem_of_getElem? (i := 1588) (by decide +kernel)⟩
theorem lw_p90 : lw_okq (⟨"AlarmForgeModel", "copyState", "(II)V"⟩, 68) := ⟨⟨by decide +kernel, by decide +kernel⟩, List.mem_of_getElem? (i := 1154) (by decide +kernel), List.mem_of_getElem? (i := 1591) (by decide +kernel), List.mem_of_getElem? (i := 1592) (by decide +kernel)⟩
theorem lw_p91 : lw_okq (⟨"AlarmForgeModel", "copy", "(II)V"⟩, 68) := ⟨⟨by decide +kernel, by decide +kernel⟩, List.mem_of_getElem? (i := 1154) (by decide +kernel), List.mem_of_getElem? (i := 1595) (by decide +kernel), List.mem_of_getElem? (i := 1596) (by decide +kernel)⟩
theorem lw_p92 : lw_okq (⟨"AlarmForgeModel", "assume", "(IZ)V"⟩, 68) := ⟨⟨by decide +kernel, by decide +kernel⟩, List.mem_of_getElem? (i := 1154) (by decide +kernel), List.mem_of_getElem? (i := 1599) (by decide +kernel), List.mem_of_getElem? (i := 1600) (by decide +kernel)⟩
theorem lw_p93 : lw_okq (⟨"AlarmForgeModel", "look", "(III)Z"⟩, 68) := ⟨⟨by decide +kernel, by decide +kernel⟩, List.mem_of_getElem? (i := 1154) (by decide +kernel), List.mem_of_getElem? (i := 1603) (by decide +kernel), List.mem_of_getElem? (i := 1604) (by decide +kernel)⟩
theorem lw_p94 : lw_okq (⟨"AlarmForgeModel", "warn", "(II)V"⟩, 68) := ⟨⟨by decide +kernel, by decide +kernel⟩, List.mem_of_getElem? (i := 1154) (by decide +kernel), List.mem_of_getElem? (i := 1607) (by decide +kernel), List.mem_of_getElem? (i := 1608) (by decide +kernel)⟩
theorem lw_p95 : lw_okq (⟨"AlarmForgeModel", "isBeyond", "(I)Z"⟩, 68) := ⟨⟨by decide +kernel, by decide +kernel⟩, List.mem_of_getElem? (i := 1154) (by decide +kernel), List.mem_of_getElem? (i := 1611) (by decide +kernel), List.mem_of_getElem? (i := 1612) (by decide +kernel)⟩
def lw_privs_6 : List (MethodName × Nat) := [(⟨"AlarmForgeModel", "byWord", "()V"⟩, 68), (⟨"AlarmForgeModel", "condition", "(I)V"⟩, 68), (⟨"AlarmForgeModel", "go", "(I)I"⟩, 68), (⟨"AlarmForgeModel", "ask", "(I)I"⟩, 68), (⟨"AlarmForgeModel", "work", "(II)Z"⟩, 68), (⟨"AlarmForgeModel", "stop", "(II)Z"⟩, 68), (⟨"AlarmForgeModel", "simple", "(I)Z"⟩, 68), (⟨"AlarmForgeModel", "none", "(I)V"⟩, 68), (⟨"AlarmForgeModel", "put4", "(IJJJJ)V"⟩, 68), (⟨"AlarmForgeModel", "enter", "(I)I"⟩, 68), (⟨"AlarmForgeModel", "copyState", "(II)V"⟩, 68), (⟨"AlarmForgeModel", "copy", "(II)V"⟩, 68), (⟨"AlarmForgeModel", "assume", "(IZ)V"⟩, 68), (⟨"AlarmForgeModel", "look", "(III)Z"⟩, 68), (⟨"AlarmForgeModel", "warn", "(II)V"⟩, 68), (⟨"AlarmForgeModel", "isBeyond", "(I)Z"⟩, 68)]
theorem lw_r6 : ∀ q ∈ lw_privs_6, lw_okq q := List.forall_mem_cons.mpr ⟨lw_p80, List.forall_mem_cons.mpr ⟨lw_p81, List.forall_mem_cons.mpr ⟨lw_p82, List.forall_mem_cons.mpr ⟨lw_p83, List.forall_mem_cons.mpr ⟨lw_p84, List.forall_mem_cons.mpr ⟨lw_p85, List.forall_mem_cons.mpr ⟨lw_p86, List.forall_mem_cons.mpr ⟨lw_p87, List.forall_mem_cons.mpr ⟨lw_p88, List.forall_mem_cons.mpr ⟨lw_p89, List.forall_mem_cons.mpr ⟨lw_p90, List.forall_mem_cons.mpr ⟨lw_p91, List.forall_mem_cons.mpr ⟨lw_p92, List.forall_mem_cons.mpr ⟨lw_p93, List.forall_mem_cons.mpr ⟨lw_p94, List.forall_mem_cons.mpr ⟨lw_p95, fun _ h => absurd h List.not_mem_nil⟩⟩⟩⟩⟩⟩⟩⟩⟩⟩⟩⟩⟩⟩⟩⟩
theorem lw_p96 : lw_okq (⟨"AlarmForgeModel", "readCells", "(III)V"⟩, 68) := ⟨⟨by decide +kernel, by decide +kernel⟩, List.mem_of_getElem? (i := 1154) (by decide +kernel), List.mem_of_getElem? (i := 1615) (by decide +kernel), List.mem_of_getElem? (i := 1616) (by decide +kernel)⟩
theorem lw_p97 : lw_okq (⟨"AlarmForgeModel", "isOf", "(JI)Z"⟩, 68) := ⟨⟨by decide +kernel, by decide +kernel⟩, List.mem_of_getElem? (i := 1154) (by decide +kernel), List.mem_of_getElem? (i := 1619) (by decide +kernel), List.mem_of_getElem? (i := 1620) (by decide +kernel)⟩
theorem lw_p98 : lw_okq (⟨"AlarmForgeModel", "join", "(III)V"⟩, 68) := ⟨⟨by decide +kernel, by decide +kernel⟩, List.mem_of_getElem? (i := 1154) (by decide +kernel), List.mem_of_getElem? (i := 1626) (by decide +kernel), List.mem_of_getElem? (i := 1627) (by decide +kernel)⟩
theorem lw_p99 : lw_okq (⟨"AlarmForgeModel", "put", "(IJJJJ)V"⟩, 68) := ⟨⟨by decide +kernel, by decide +kernel⟩, List.mem_of_getElem? (i := 1154) (by decide +kernel), List.mem_of_getElem? (i := 1633) (by decide +kernel), List.mem_of_getElem? (i := 1634) (by decide +kernel)⟩
theorem lw_p100 : lw_okq (⟨"AlarmForgeModel", "sum", "(IIII)V"⟩, 68) := ⟨⟨by decide +kernel, by decide +kernel⟩, List.mem_of_getElem? (i := 1154) (by decide +kernel), List.mem_of_getElem? (i := 1638) (by decide +kernel), List.mem_of_getElem? (i := 1639) (by decide +kernel)⟩
theorem lw_p101 : lw_okq (⟨"AlarmForgeModel", "isWide", "(JJ)Z"⟩, 68) := ⟨⟨by decide +kernel, by decide +kernel⟩, List.mem_of_getElem? (i := 1154) (by decide +kernel), List.mem_of_getElem? (i := 1648) (by decide +kernel), List.mem_of_getElem? (i := 1649) (by decide +kernel)⟩
theorem lw_p102 : lw_okq (⟨"AlarmForgeModel", "quotient", "(IIII)V"⟩, 68) := ⟨⟨by decide +kernel, by decide +kernel⟩, List.mem_of_getElem? (i := 1154) (by decide +kernel), List.mem_of_getElem? (i := 1652) (by decide +kernel), List.mem_of_getElem? (i := 1653) (by decide +kernel)⟩
theorem lw_p103 : lw_okq (⟨"AlarmForgeModel", "meet", "(III)V"⟩, 68) := ⟨⟨by decide +kernel, by decide +kernel⟩, List.mem_of_getElem? (i := 1154) (by decide +kernel), List.mem_of_getElem? (i := 1656) (by decide +kernel), List.mem_of_getElem? (i := 1657) (by decide +kernel)⟩
theorem lw_p104 : lw_okq (⟨"AlarmForgeModel", "without", "(III)V"⟩, 68) := ⟨⟨by decide +kernel, by decide +kernel⟩, List.mem_of_getElem? (i := 1154) (by decide +kernel), List.mem_of_getElem? (i := 1660) (by decide +kernel), List.mem_of_getElem? (i := 1661) (by decide +kernel)⟩
theorem lw_p105 : lw_okq (⟨"AlarmForgeModel", "under", "(III)V"⟩, 68) := ⟨⟨by decide +kernel, by decide +kernel⟩, List.mem_of_getElem? (i := 1154) (by decide +kernel), List.mem_of_getElem? (i := 1664) (by decide +kernel), List.mem_of_getElem? (i := 1665) (by decide +kernel)⟩
theorem lw_p106 : lw_okq (⟨"AlarmForgeModel", "pass", "(I)V"⟩, 68) := ⟨⟨by decide +kernel, by decide +kernel⟩, List.mem_of_getElem? (i := 1154) (by decide +kernel), List.mem_of_getElem? (i := 1668) (by decide +kernel), List.mem_of_getElem? (i := 1669) (by decide +kernel)⟩
theorem lw_p107 : lw_okq (⟨"AlarmForgeModel", "all", "(I)V"⟩, 68) := ⟨⟨by decide +kernel, by decide +kernel⟩, List.mem_of_getElem? (i := 1154) (by decide +kernel), List.mem_of_getElem? (i := 1672) (by decide +kernel), List.mem_of_getElem? (i := 1673) (by decide +kernel)⟩
theorem lw_p108 : lw_okq (⟨"AlarmForgeModel", "store", "(I)V"⟩, 68) := ⟨⟨by decide +kernel, by decide +kernel⟩, List.mem_of_getElem? (i := 1154) (by decide +kernel), List.mem_of_getElem? (i := 1676) (by decide +kernel), List.mem_of_getElem? (i := 1677) (by decide +kernel)⟩
theorem lw_p109 : lw_okq (⟨"AlarmForgeModel", "endIf", "(II)I"⟩, 68) := ⟨⟨by decide +kernel, by decide +kernel⟩, List.mem_of_getElem? (i := 1154) (by decide +kernel), List.mem_of_getElem? (i := 1680) (by decide +kernel), List.mem_of_getElem? (i := 1681) (by decide +kernel)⟩
theorem lw_p110 : lw_okq (⟨"AlarmForgeModel", "joinState", "(IIIZ)V"⟩, 68) := ⟨⟨by decide +kernel, by decide +kernel⟩, List.mem_of_getElem? (i := 1154) (by decide +kernel), List.mem_of_getElem? (i := 1684) (by decide +kernel), List.mem_of_getElem? (i := 1685) (by decide +kernel)⟩
theorem lw_p111 : lw_okq (⟨"AlarmForgeModel", "widen", "(III)V"⟩, 68) := ⟨⟨by decide +kernel, by decide +kernel⟩, List.mem_of_getElem? (i := 1154) (by decide +kernel), List.mem_of_getElem? (i := 1688) (by decide +kernel), List.mem_of_getElem? (i := 1689) (by decide +kernel)⟩
def lw_privs_7 : List (MethodName × Nat) := [(⟨"AlarmForgeModel", "readCells", "(III)V"⟩, 68), (⟨"AlarmForgeModel", "isOf", "(JI)Z"⟩, 68), (⟨"AlarmForgeModel", "join", "(III)V"⟩, 68), (⟨"AlarmForgeModel", "put", "(IJJJJ)V"⟩, 68), (⟨"AlarmForgeModel", "sum", "(IIII)V"⟩, 68), (⟨"AlarmForgeModel", "isWide", "(JJ)Z"⟩, 68), (⟨"AlarmForgeModel", "quotient", "(IIII)V"⟩, 68), (⟨"AlarmForgeModel", "meet", "(III)V"⟩, 68), (⟨"AlarmForgeModel", "without", "(III)V"⟩, 68), (⟨"AlarmForgeModel", "under", "(III)V"⟩, 68), (⟨"AlarmForgeModel", "pass", "(I)V"⟩, 68), (⟨"AlarmForgeModel", "all", "(I)V"⟩, 68), (⟨"AlarmForgeModel", "store", "(I)V"⟩, 68), (⟨"AlarmForgeModel", "endIf", "(II)I"⟩, 68), (⟨"AlarmForgeModel", "joinState", "(IIIZ)V"⟩, 68), (⟨"AlarmForgeModel", "widen", "(III)V"⟩, 68)]
theorem lw_r7 : ∀ q ∈ lw_privs_7, lw_okq q := List.forall_mem_cons.mpr ⟨lw_p96, List.forall_mem_cons.mpr ⟨lw_p97, List.forall_mem_cons.mpr ⟨lw_p98, List.forall_mem_cons.mpr ⟨lw_p99, List.forall_mem_cons.mpr ⟨lw_p100, List.forall_mem_cons.mpr ⟨lw_p101, List.forall_mem_cons.mpr ⟨lw_p102, List.forall_mem_cons.mpr ⟨lw_p103, List.forall_mem_cons.mpr ⟨lw_p104, List.forall_mem_cons.mpr ⟨lw_p105, List.forall_mem_cons.mpr ⟨lw_p106, List.forall_mem_cons.mpr ⟨lw_p107, List.forall_mem_cons.mpr ⟨lw_p108, List.forall_mem_cons.mpr ⟨lw_p109, List.forall_mem_cons.mpr ⟨lw_p110, List.forall_mem_cons.mpr ⟨lw_p111, fun _ h => absurd h List.not_mem_nil⟩⟩⟩⟩⟩⟩⟩⟩⟩⟩⟩⟩⟩⟩⟩⟩
theorem lw_p112 : lw_okq (⟨"AlarmForgeModel", "endWhile", "(II)I"⟩, 68) := ⟨⟨by decide +kernel, by decide +kernel⟩, List.mem_of_getElem? (i := 1154) (by decide +kernel), List.mem_of_getElem? (i := 1701) (by decide +kernel), List.mem_of_getElem? (i := 1702) (by decide +kernel)⟩
theorem lw_p113 : lw_okq (⟨"AlarmForgeModel", "sameState", "(II)Z"⟩, 68) := ⟨⟨by decide +kernel, by decide +kernel⟩, List.mem_of_getElem? (i := 1154) (by decide +kernel), List.mem_of_getElem? (i := 1705) (by decide +kernel), List.mem_of_getElem? (i := 1706) (by decide +kernel)⟩
theorem lw_p114 : lw_okq (⟨"AlarmForgeModel", "same", "(II)Z"⟩, 68) := ⟨⟨by decide +kernel, by decide +kernel⟩, List.mem_of_getElem? (i := 1154) (by decide +kernel), List.mem_of_getElem? (i := 1709) (by decide +kernel), List.mem_of_getElem? (i := 1710) (by decide +kernel)⟩
theorem lw_p115 : lw_okq (⟨"AlarmForgeModel", "again", "(II)I"⟩, 68) := ⟨⟨by decide +kernel, by decide +kernel⟩, List.mem_of_getElem? (i := 1154) (by decide +kernel), List.mem_of_getElem? (i := 1713) (by decide +kernel), List.mem_of_getElem? (i := 1714) (by decide +kernel)⟩
theorem lw_p116 : lw_okq (⟨"AlarmForgeModel", "warnings", "()I"⟩, 68) := ⟨⟨by decide +kernel, by decide +kernel⟩, List.mem_of_getElem? (i := 1154) (by decide +kernel), List.mem_of_getElem? (i := 1717) (by decide +kernel), List.mem_of_getElem? (i := 1718) (by decide +kernel)⟩
def lw_privs_8 : List (MethodName × Nat) := [(⟨"AlarmForgeModel", "endWhile", "(II)I"⟩, 68), (⟨"AlarmForgeModel", "sameState", "(II)Z"⟩, 68), (⟨"AlarmForgeModel", "same", "(II)Z"⟩, 68), (⟨"AlarmForgeModel", "again", "(II)I"⟩, 68), (⟨"AlarmForgeModel", "warnings", "()I"⟩, 68)]
theorem lw_r8 : ∀ q ∈ lw_privs_8, lw_okq q := List.forall_mem_cons.mpr ⟨lw_p112, List.forall_mem_cons.mpr ⟨lw_p113, List.forall_mem_cons.mpr ⟨lw_p114, List.forall_mem_cons.mpr ⟨lw_p115, List.forall_mem_cons.mpr ⟨lw_p116, fun _ h => absurd h List.not_mem_nil⟩⟩⟩⟩⟩
def lw_privs : List (MethodName × Nat) := lw_privs_1 ++ (lw_privs_2 ++ (lw_privs_3 ++ (lw_privs_4 ++ (lw_privs_5 ++ (lw_privs_6 ++ (lw_privs_7 ++ (lw_privs_8)))))))
def lw_tbl : List Cond := k2_sels lw_privs ++ tables_1
theorem lw_privs_ok : ∀ q ∈ lw_privs, lw_okq q := by
  show ∀ q ∈ lw_privs_1 ++ (lw_privs_2 ++ (lw_privs_3 ++ (lw_privs_4 ++ (lw_privs_5 ++ (lw_privs_6 ++ (lw_privs_7 ++ (lw_privs_8))))))), lw_okq q
  exact List.forall_mem_append.mpr ⟨lw_r1, List.forall_mem_append.mpr ⟨lw_r2, List.forall_mem_append.mpr ⟨lw_r3, List.forall_mem_append.mpr ⟨lw_r4, List.forall_mem_append.mpr ⟨lw_r5, List.forall_mem_append.mpr ⟨lw_r6, List.forall_mem_append.mpr ⟨lw_r7, lw_r8⟩⟩⟩⟩⟩⟩⟩
-- ===== end of PART A; then your names; then what follows =====
end
section
/-! The world as ONE map: cells by their addresses; a method's contract speaks of the whole map. -/
/-- a cell: an array by the number of its type among wo_tys, an object by the number of its class -/
abbrev WE : Type := (Nat × vp_A) ⊕ (Nat × List Value)
abbrev WW : Type := Nat → Option WE
def wo_e (cA : Nat → ClassId) (e : WE) : va_E := match e with
  | .inl a => .inl (cA a.1, a.2)
  | .inr o => .inr o
def wo_f (cA : Nat → ClassId) (w : WW) (a : Nat) : va_E := match w a with
  | some e => wo_e cA e
  | none => .inr (0, [])
def wo_up (w : WW) (a : Nat) (e : WE) : WW := fun b => if b = a then some e else w b
def wo_B (base : Nat) : Nat → Prop := fun q => base ≤ q
theorem wo_up_self (w : WW) (a : Nat) (e : WE) : wo_up w a e a = some e := by simp [wo_up]
theorem wo_up_ne (w : WW) {a b : Nat} (e : WE) (h : b ≠ a) : wo_up w a e b = w b := by simp [wo_up, h]
theorem wo_up_up (w : WW) (a : Nat) (e e2 : WE) : wo_up (wo_up w a e) a e2 = wo_up w a e2 := by
  funext b
  by_cases h : b = a <;> simp [wo_up, h]
def wo_R (D : va_G) (cl : List vw_C) (cA : Nat → ClassId) (base : Nat) (w : WW) (H : Heap) : Prop :=
  ∃ L : List Nat, (∀ a : Nat, a ∈ L ↔ w a ≠ none) ∧ va_P D cl (va_pl L (wo_f cA w)) H ∧ va_D (wo_B base) (va_pl L (wo_f cA w))
theorem wo_f_up (cA : Nat → ClassId) (w : WW) (a : Nat) (e : WE) : wo_f cA (wo_up w a e) = va_up (wo_f cA w) a (wo_e cA e) := by
  funext b
  by_cases h : b = a
  · subst h; simp [wo_f, wo_up, va_up]
  · simp [wo_f, wo_up, va_up, h]
theorem wo_f_at {cA : Nat → ClassId} {w : WW} {a : Nat} {e : WE} (h : w a = some e) : wo_f cA w a = wo_e cA e := by simp [wo_f, h]
theorem wo_R.at {D : va_G} {cl : List vw_C} {cA : Nat → ClassId} {base : Nat} {w : WW} {H : Heap} (h : wo_R D cl cA base w H) {a : Nat} {e : WE} (ha : w a = some e) :
    ∃ (L : List Nat) (k : Nat), (∀ a : Nat, a ∈ L ↔ w a ≠ none) ∧ va_P D cl (va_pl L (wo_f cA w)) H ∧ va_D (wo_B base) (va_pl L (wo_f cA w)) ∧ (va_pl L (wo_f cA w))[k]? = some (a, wo_e cA e) := by
  obtain ⟨L, h1, h2, h3⟩ := h
  obtain ⟨k, hk⟩ := va_pl_get (X := []) (f := wo_f cA w) ((h1 a).mpr (by rw [ha]; exact fun z => nomatch z))
  rw [wo_f_at ha] at hk
  exact ⟨L, k, h1, h2, h3, hk⟩
theorem wo_R.upd {D : va_G} {cl : List vw_C} {cA : Nat → ClassId} {base : Nat} {w : WW} {H1 : Heap} {L : List Nat} {a k : Nat} {e0 e : WE} (hL : ∀ a : Nat, a ∈ L ↔ w a ≠ none) (hD : va_D (wo_B base) (va_pl L (wo_f cA w))) (ha : w a = some e0) (hk : (va_pl L (wo_f cA w))[k]? = some (a, wo_e cA e0))
    (hP1 : va_P D cl ((va_pl L (wo_f cA w)).set k (a, wo_e cA e)) H1) (hD1 : va_D (wo_B base) ((va_pl L (wo_f cA w)).set k (a, wo_e cA e))) : wo_R D cl cA base (wo_up w a e) H1 := by
  have hm : a ∈ L := (hL a).mpr (by rw [ha]; exact fun z => nomatch z)
  have he : (va_pl L (wo_f cA w)).set k (a, wo_e cA e) = va_pl L (wo_f cA (wo_up w a e)) := by
    rw [wo_f_up]
    have hk' : (([] : va_W) ++ va_pl L (wo_f cA w))[k]? = some (a, wo_f cA w a) := by rw [wo_f_at ha]; exact hk
    exact va_pl_set (X := []) hD hm hk'
  rw [he] at hP1 hD1
  refine ⟨L, fun b => ?_, hP1, hD1⟩
  by_cases hb : b = a
  · subst hb
    exact ⟨fun _ => by rw [wo_up_self]; exact (fun z => nomatch z), fun _ => hm⟩
  · rw [wo_up_ne w e hb]; exact hL b
/-- a cell of no world becomes one -/
theorem wo_R.push {D : va_G} {cl : List vw_C} {cA : Nat → ClassId} {base : Nat} {w : WW} {H1 : Heap} {L : List Nat} {q : Nat} {e : WE} (hL : ∀ a : Nat, a ∈ L ↔ w a ≠ none) (hq : w q = none)
    (hP1 : va_P D cl (va_pl L (wo_f cA w) ++ [(q, wo_e cA e)]) H1) (hD1 : va_D (wo_B base) (va_pl L (wo_f cA w) ++ [(q, wo_e cA e)])) : wo_R D cl cA base (wo_up w q e) H1 := by
  have hn : q ∉ L := fun z => (hL q).mp z hq
  rw [va_pl_push hn] at hP1 hD1
  rw [← wo_f_up] at hP1 hD1
  refine ⟨L ++ [q], fun b => ?_, hP1, hD1⟩
  by_cases hb : b = q
  · subst hb
    exact ⟨fun _ => by rw [wo_up_self]; exact (fun z => nomatch z), fun _ => List.mem_append_right _ List.mem_cons_self⟩
  · rw [wo_up_ne w e hb]
    constructor
    · intro hm
      rcases List.mem_append.mp hm with h | h
      · exact (hL b).mp h
      · exact absurd (List.mem_singleton.mp h) hb
    · exact fun hm => List.mem_append_left _ ((hL b).mpr hm)
/-! Reading and writing the map. -/
def gv (w : WW) (a ci k : Nat) : Option Value := match w a with
  | some (.inr o) => if o.1 = ci then o.2[k]? else none
  | _ => none
def gI (w : WW) (a ci k : Nat) : Option Int32 := match gv w a ci k with
  | some (.int x) => some x
  | _ => none
def gL (w : WW) (a ci k : Nat) : Option Int64 := match gv w a ci k with
  | some (.long x) => some x
  | _ => none
def gR (w : WW) (a ci k : Nat) : Option (Option Nat) := match gv w a ci k with
  | some (.ref x) => some (some x)
  | some .null => some none
  | _ => none
def pv (w : WW) (a ci k : Nat) (v : Value) : Option WW := match w a with
  | some (.inr o) => if o.1 = ci ∧ k < o.2.length then some (wo_up w a (.inr (ci, o.2.set k v))) else none
  | _ => none
def ga (w : WW) (a t : Nat) : Option vp_A := match w a with
  | some (.inl x) => if x.1 = t then some x.2 else none
  | _ => none
def rI (w : WW) (a t : Nat) (i : Int32) : Option Int32 := match ga w a t with
  | some (n, .inl f) => if ¬ (i < 0 ∨ n ≤ i.toNatClampNeg) then some (f i.toNatClampNeg) else none
  | _ => none
def rL (w : WW) (a t : Nat) (i : Int32) : Option Int64 := match ga w a t with
  | some (n, .inr (.inl f)) => if ¬ (i < 0 ∨ n ≤ i.toNatClampNeg) then some (f i.toNatClampNeg) else none
  | _ => none
def rR (w : WW) (a t : Nat) (i : Int32) : Option (Option Nat) := match ga w a t with
  | some (n, .inr (.inr (.inr (.inr f)))) => if ¬ (i < 0 ∨ n ≤ i.toNatClampNeg) then some (f i.toNatClampNeg) else none
  | _ => none
def sI (w : WW) (a t : Nat) (i x : Int32) : Option WW := match ga w a t with
  | some (n, .inl f) => if ¬ (i < 0 ∨ n ≤ i.toNatClampNeg) then some (wo_up w a (.inl (t, n, .inl (upd f i.toNatClampNeg x)))) else none
  | _ => none
def sL (w : WW) (a t : Nat) (i : Int32) (x : Int64) : Option WW := match ga w a t with
  | some (n, .inr (.inl f)) => if ¬ (i < 0 ∨ n ≤ i.toNatClampNeg) then some (wo_up w a (.inl (t, n, .inr (.inl (vp_updL f i.toNatClampNeg x))))) else none
  | _ => none
def al (w : WW) (a t : Nat) : Option Int32 := match ga w a t with
  | some x => some (Int32.ofNat x.1)
  | none => none
theorem gv_s {w : WW} {a ci k : Nat} {v : Value} (h : gv w a ci k = some v) : ∃ fs : List Value, w a = some (.inr (ci, fs)) ∧ fs[k]? = some v := by
  unfold gv at h
  split at h
  · rename_i o ho
    split at h
    · rename_i hc
      obtain ⟨c, fs⟩ := o
      cases hc
      exact ⟨fs, ho, h⟩
    · cases h
  · cases h
theorem gI_s {w : WW} {a ci k : Nat} {x : Int32} (h : gI w a ci k = some x) : gv w a ci k = some (.int x) := by
  unfold gI at h
  split at h
  · rename_i y hy; cases h; exact hy
  · cases h
theorem gL_s {w : WW} {a ci k : Nat} {x : Int64} (h : gL w a ci k = some x) : gv w a ci k = some (.long x) := by
  unfold gL at h
  split at h
  · rename_i y hy; cases h; exact hy
  · cases h
theorem gR_s {w : WW} {a ci k : Nat} {r : Option Nat} (h : gR w a ci k = some r) : gv w a ci k = some (va_rf r) := by
  unfold gR at h
  split at h
  · rename_i y hy; cases h; exact hy
  · rename_i hy; cases h; exact hy
  · cases h
theorem pv_s {w w' : WW} {a ci k : Nat} {v : Value} (h : pv w a ci k v = some w') : ∃ fs : List Value, w a = some (.inr (ci, fs)) ∧ k < fs.length ∧ w' = wo_up w a (.inr (ci, fs.set k v)) := by
  unfold pv at h
  split at h
  · rename_i o ho
    split at h
    · rename_i hc
      obtain ⟨c, fs⟩ := o
      obtain ⟨h1, h2⟩ := hc
      cases h1
      cases h
      exact ⟨fs, ho, h2, rfl⟩
    · cases h
  · cases h
theorem ga_s {w : WW} {a t : Nat} {x : vp_A} (h : ga w a t = some x) : w a = some (.inl (t, x)) := by
  unfold ga at h
  split at h
  · rename_i o ho
    split at h
    · rename_i hc
      obtain ⟨c, y⟩ := o
      cases hc
      cases h
      exact ho
    · cases h
  · cases h
theorem rI_s {w : WW} {a t : Nat} {i x : Int32} (h : rI w a t i = some x) : ∃ (n : Nat) (f : Nat → Int32), w a = some (.inl (t, n, .inl f)) ∧ vp_in i n ∧ x = f i.toNatClampNeg := by
  unfold rI at h
  split at h
  · rename_i n f hy
    split at h
    · rename_i hc; cases h; exact ⟨n, f, ga_s hy, hc, rfl⟩
    · cases h
  · cases h
theorem rL_s {w : WW} {a t : Nat} {i : Int32} {x : Int64} (h : rL w a t i = some x) : ∃ (n : Nat) (f : Nat → Int64), w a = some (.inl (t, n, .inr (.inl f))) ∧ vp_in i n ∧ x = f i.toNatClampNeg := by
  unfold rL at h
  split at h
  · rename_i n f hy
    split at h
    · rename_i hc; cases h; exact ⟨n, f, ga_s hy, hc, rfl⟩
    · cases h
  · cases h
theorem rR_s {w : WW} {a t : Nat} {i : Int32} {x : Option Nat} (h : rR w a t i = some x) : ∃ (n : Nat) (f : Nat → Option Nat), w a = some (.inl (t, n, .inr (.inr (.inr (.inr f))))) ∧ vp_in i n ∧ x = f i.toNatClampNeg := by
  unfold rR at h
  split at h
  · rename_i n f hy
    split at h
    · rename_i hc; cases h; exact ⟨n, f, ga_s hy, hc, rfl⟩
    · cases h
  · cases h
theorem sI_s {w w' : WW} {a t : Nat} {i x : Int32} (h : sI w a t i x = some w') : ∃ (n : Nat) (f : Nat → Int32), w a = some (.inl (t, n, .inl f)) ∧ vp_in i n ∧ w' = wo_up w a (.inl (t, n, .inl (upd f i.toNatClampNeg x))) := by
  unfold sI at h
  split at h
  · rename_i n f hy
    split at h
    · rename_i hc; cases h; exact ⟨n, f, ga_s hy, hc, rfl⟩
    · cases h
  · cases h
theorem sL_s {w w' : WW} {a t : Nat} {i : Int32} {x : Int64} (h : sL w a t i x = some w') : ∃ (n : Nat) (f : Nat → Int64), w a = some (.inl (t, n, .inr (.inl f))) ∧ vp_in i n ∧ w' = wo_up w a (.inl (t, n, .inr (.inl (vp_updL f i.toNatClampNeg x)))) := by
  unfold sL at h
  split at h
  · rename_i n f hy
    split at h
    · rename_i hc; cases h; exact ⟨n, f, ga_s hy, hc, rfl⟩
    · cases h
  · cases h
theorem al_s {w : WW} {a t : Nat} {x : Int32} (h : al w a t = some x) : ∃ y : vp_A, w a = some (.inl (t, y)) ∧ Int32.ofNat y.1 = x := by
  unfold al at h
  split at h
  · rename_i y hy; cases h; exact ⟨y, ga_s hy, rfl⟩
  · cases h
end
section
/-! Rows over the map: one for each instruction that reads or writes cells; starts, ends and calls of methods. -/
/-- the tables' words that stay good in every later state -/
def gt : List Cond := lw_tbl.filter goodWord
theorem gt_of {i : Nat} {w : Cond} (h : tables_1[i]? = some w) (hg : goodWord w = true) : w ∈ gt := List.mem_filter.mpr ⟨List.mem_append_right _ (List.mem_of_getElem? h), hg⟩
theorem gt_sel {i : Nat} {w : Cond} (h : (k2_sels lw_privs)[i]? = some w) (hg : goodWord w = true) : w ∈ gt := List.mem_filter.mpr ⟨List.mem_append_left _ (List.mem_of_getElem? h), hg⟩
theorem gt_good {w : Cond} (h : w ∈ gt) : goodWord w = true := (List.mem_filter.mp h).2
theorem gt_in {b : Cond} (hb : b ∈ gt) : GoodIn gt (b :: gt) := fun w hw => by
  rcases List.mem_cons.mp hw with h | h
  · rw [h]; exact ⟨hb, good_of_word (gt_good hb)⟩
  · exact ⟨h, good_of_word (gt_good h)⟩
theorem gt_cons {b : Cond} {ws : List Cond} (hb : b ∈ gt) (h : GoodIn gt ws) : GoodIn gt (b :: ws) := fun w hw => by
  rcases List.mem_cons.mp hw with h1 | h1
  · rw [h1]; exact ⟨hb, good_of_word (gt_good hb)⟩
  · exact h w h1
def wo_S (D : va_G) (cl : List vw_C) (cA : Nat → ClassId) (base : Nat) (s : State) (w : WW) (H : Heap) (locs : List Loc) : Prop := wo_R D cl cA base w H ∧ va_S (wo_B base) s.heap H locs ∧ base ≤ s.heap.size
def wo_Q (D : va_G) (cl : List vw_C) (cA : Nat → ClassId) (base : Nat) (ov : Option Value) (w' : WW) : Array Value → State → Outcome → State → Prop := fun _ st o t => o = .returned ov ∧ wo_R D cl cA base w' t.heap ∧ va_F (wo_B base) st t
def wo_P (D : va_G) (cl : List vw_C) (tys : List (ClassId × FieldType)) (cA : Nat → ClassId) (base : Nat) (av : List Value) (w : WW) : Array Value → State → Prop := va_Pc av (fun U => base ≤ U.heap.size ∧ wo_R D cl cA base w U.heap ∧ va_K D cl tys U)
/-- method y, called with av in the world w, returns ov and leaves w' -/
def mt (l : Launch) (D : va_G) (cl : List vw_C) (tys : List (ClassId × FieldType)) (cA : Nat → ClassId) (base : Nat) (y : MethodName) (ws : List Cond) (rm : Room) (av : List Value) (w : WW) (ov : Option Value) (w' : WW) (mc ms : Nat) : Prop :=
  Met l y ws rm (wo_P D cl tys cA base av w) (wo_Q D cl cA base ov w') mc ms (wo_B base)
theorem wo_blind {D : va_G} {cl : List vw_C} {tys : List (ClassId × FieldType)} {cA : Nat → ClassId} {base : Nat} {av : List Value} {w : WW} : FrameBlind (wo_P D cl tys cA base av w) := fun a U g mk h => by
  obtain ⟨h1, h2, h3, h4⟩ := h
  exact ⟨h1, h2, h3, va_K.moved (u := U) (U := U.calling g mk a) (Vm.Alike.refl U.vm) h4⟩
theorem rf_n (C : String) (r : Option Nat) : narrow (.object C) (va_rf r) = va_rf r := by cases r <;> rfl
theorem rf_f (C : String) (r : Option Nat) : fits (.object C) (va_rf r) = true := by cases r <;> rfl
theorem rf_nA (t : FieldType) (r : Option Nat) : narrow (.array t) (va_rf r) = va_rf r := by cases r <;> rfl
theorem rf_fA (t : FieldType) (r : Option Nat) : fits (.array t) (va_rf r) = true := by cases r <;> rfl
theorem z_n {x : Int32} (h : x = 0 ∨ x = 1) : narrow .boolean (.int x) = .int x := by rcases h with rfl | rfl <;> decide +kernel
theorem z_f {x : Int32} (h : x = 0 ∨ x = 1) : fits .boolean (.int x) = true := by rcases h with rfl | rfl <;> decide +kernel
section WOR
variable {p : Program} {l : Launch} {e : Env} {R : Room} {s : State} {m : MethodId} {args : Array Value} {below : List Frame} {meth : Method} {c : Code} {H : Heap} {locs : List Loc} {cells slots : Nat} {Q : State → Prop}
variable {D : va_G} {cl : List vw_C} {tys : List (ClassId × FieldType)} {cA : Nat → ClassId} {base : Nat} {w w' : WW} {cc : ByteArray} {pc : Nat} {ls : Array Slot} {rest : List Value} {a : Nat}
theorem wo_get (hexec : p.tables.exec = Jvm.exec) (hb : c.code = cc) {own ref C : String} {T : u_T} {N ci index : Nat} {Ts : List Cond} (hts : ∀ w ∈ Ts, w.before args s = true) (hin : ∀ w ∈ u_ws C T N, w ∈ Ts) (hown : s.vm.findClass own = some m.cls) (hK : va_K D cl tys s) (hW : wo_S D cl cA base s w H locs) (hc : cl[ci]? = some (C, T, N)) (k : Nat) (hk : k < N) (hlink : (Cond.fieldLink own index ref (T k).2.1 (T k).2.2.1).before args s = true) (hsame : ∀ x, s.fieldFound? (T k).1 (T k).2.1 (T k).2.2.1 = some x → s.fieldFound? ref (T k).2.1 (T k).2.2.1 = some x) {v : Value} (hv : gv w a ci k = some v) (hdg : decode cc pc = .ok (.getfield index, 3))
    (kk : W p l e R s m args below meth c H locs cells slots Q (F0 m (pc + 3) ls (v :: rest))) : W p l e R s m args below meth c H locs cells slots Q (F0 m pc ls (.ref a :: rest)) := by
  obtain ⟨fs, h1, h2⟩ := gv_s hv
  obtain ⟨L, q0, -, hP, -, he⟩ := hW.1.at h1
  exact va_get (D := D) hexec hb hts hin hown hK hP q0 he hc k hk hlink hsame h2 hdg kk
theorem wo_getN (hexec : p.tables.exec = Jvm.exec) (hb : c.code = cc) {own ref C host : String} {T : u_T} {N ci index : Nat} {Ts : List Cond} (hts : ∀ w ∈ Ts, w.before args s = true) (hin : ∀ w ∈ u_ws C T N, w ∈ Ts) (hown : s.vm.findClass own = some m.cls) (hK : va_K D cl tys s) (hW : wo_S D cl cA base s w H locs) (hc : cl[ci]? = some (C, T, N)) (k : Nat) (hk : k < N) (hlink : (Cond.fieldLinkNest own index ref (T k).2.1 (T k).2.2.1 host).before args s = true) (hsame : ∀ x, s.fieldFound? (T k).1 (T k).2.1 (T k).2.2.1 = some x → s.fieldFound? ref (T k).2.1 (T k).2.2.1 = some x) {v : Value} (hv : gv w a ci k = some v) (hdg : decode cc pc = .ok (.getfield index, 3))
    (kk : W p l e R s m args below meth c H locs cells slots Q (F0 m (pc + 3) ls (v :: rest))) : W p l e R s m args below meth c H locs cells slots Q (F0 m pc ls (.ref a :: rest)) := by
  obtain ⟨fs, h1, h2⟩ := gv_s hv
  obtain ⟨L, q0, -, hP, -, he⟩ := hW.1.at h1
  exact va_getN (D := D) hexec hb hts hin hown hK hP q0 he hc k hk hlink hsame h2 hdg kk
theorem wo_put (hexec : p.tables.exec = Jvm.exec) (hb : c.code = cc) {own ref C : String} {T : u_T} {N ci index : Nat} {Ts : List Cond} (hts : ∀ w ∈ Ts, w.before args s = true) (hin : ∀ w ∈ u_ws C T N, w ∈ Ts) (ty0 : Nat → FieldType) (hty : ∀ k, k < N → parseFieldDescriptor (T k).2.2.1 = some (ty0 k)) (hnm : ∀ a, a < N → ∀ b, b < N → a ≠ b → (T a).2.1 ≠ (T b).2.1) (hown : s.vm.findClass own = some m.cls) (hK : va_K D cl tys s) (hW : wo_S D cl cA base s w H locs) (hc : cl[ci]? = some (C, T, N)) (k : Nat) (hk : k < N) (hlink : (Cond.fieldLink own index ref (T k).2.1 (T k).2.2.1).before args s = true) (hsame : ∀ x, s.fieldFound? (T k).1 (T k).2.1 (T k).2.2.1 = some x → s.fieldFound? ref (T k).2.1 (T k).2.2.1 = some x) (hfin : (T k).2.2.2 = false) {v : Value} (hn : narrow (ty0 k) v = v) (hfit : fits (ty0 k) v = true) (hv : pv w a ci k v = some w')
    (hdg : decode cc pc = .ok (.putfield index, 3)) (kk : ∀ (H1 : Heap) (locs1 : List Loc), wo_S D cl cA base s w' H1 locs1 → W p l e R s m args below meth c H1 locs1 cells slots Q (F0 m (pc + 3) ls rest)) : W p l e R s m args below meth c H locs cells slots Q (F0 m pc ls (v :: .ref a :: rest)) := by
  obtain ⟨fs, h1, h2, rfl⟩ := pv_s hv
  obtain ⟨L, q0, hL, hP, hD, he⟩ := hW.1.at h1
  exact va_put (D := D) hexec hb hts hin ty0 hty hnm hown hK hP hD hW.2.1 q0 he hc k hk hlink hsame hfin (hty k hk) hn hfit h2 hdg (fun H1 locs1 hP1 hD1 hS1 => kk H1 locs1 ⟨wo_R.upd (e := .inr (ci, fs.set k v)) hL hD h1 he hP1 hD1, hS1, hW.2.2⟩)
theorem wo_putN (hexec : p.tables.exec = Jvm.exec) (hb : c.code = cc) {own ref C host : String} {T : u_T} {N ci index : Nat} {Ts : List Cond} (hts : ∀ w ∈ Ts, w.before args s = true) (hin : ∀ w ∈ u_ws C T N, w ∈ Ts) (ty0 : Nat → FieldType) (hty : ∀ k, k < N → parseFieldDescriptor (T k).2.2.1 = some (ty0 k)) (hnm : ∀ a, a < N → ∀ b, b < N → a ≠ b → (T a).2.1 ≠ (T b).2.1) (hown : s.vm.findClass own = some m.cls) (hK : va_K D cl tys s) (hW : wo_S D cl cA base s w H locs) (hc : cl[ci]? = some (C, T, N)) (k : Nat) (hk : k < N) (hlink : (Cond.fieldLinkNest own index ref (T k).2.1 (T k).2.2.1 host).before args s = true) (hsame : ∀ x, s.fieldFound? (T k).1 (T k).2.1 (T k).2.2.1 = some x → s.fieldFound? ref (T k).2.1 (T k).2.2.1 = some x) (hfin : (T k).2.2.2 = false) {v : Value} (hn : narrow (ty0 k) v = v) (hfit : fits (ty0 k) v = true) (hv : pv w a ci k v = some w')
    (hdg : decode cc pc = .ok (.putfield index, 3)) (kk : ∀ (H1 : Heap) (locs1 : List Loc), wo_S D cl cA base s w' H1 locs1 → W p l e R s m args below meth c H1 locs1 cells slots Q (F0 m (pc + 3) ls rest)) : W p l e R s m args below meth c H locs cells slots Q (F0 m pc ls (v :: .ref a :: rest)) := by
  obtain ⟨fs, h1, h2, rfl⟩ := pv_s hv
  obtain ⟨L, q0, hL, hP, hD, he⟩ := hW.1.at h1
  exact va_putN (D := D) hexec hb hts hin ty0 hty hnm hown hK hP hD hW.2.1 q0 he hc k hk hlink hsame hfin (hty k hk) hn hfit h2 hdg (fun H1 locs1 hP1 hD1 hS1 => kk H1 locs1 ⟨wo_R.upd (e := .inr (ci, fs.set k v)) hL hD h1 he hP1 hD1, hS1, hW.2.2⟩)
theorem wo_putF (hexec : p.tables.exec = Jvm.exec) (hb : c.code = cc) {own ref C : String} {T : u_T} {N ci index : Nat} {Ts : List Cond} (hts : ∀ w ∈ Ts, w.before args s = true) (hin : ∀ w ∈ u_ws C T N, w ∈ Ts) (ty0 : Nat → FieldType) (hty : ∀ k, k < N → parseFieldDescriptor (T k).2.2.1 = some (ty0 k)) (hnm : ∀ a, a < N → ∀ b, b < N → a ≠ b → (T a).2.1 ≠ (T b).2.1) (hown : s.vm.findClass own = some m.cls) (hK : va_K D cl tys s) (hW : wo_S D cl cA base s w H locs) (hc : cl[ci]? = some (C, T, N)) (k : Nat) (hk : k < N) (hlink : (Cond.fieldLink own index ref (T k).2.1 (T k).2.2.1).before args s = true) (hsame : ∀ x, s.fieldFound? (T k).1 (T k).2.1 (T k).2.2.1 = some x → s.fieldFound? ref (T k).2.1 (T k).2.2.1 = some x) (hfin : (T k).2.2.2 = true) (hin2 : meth.name = "<init>") (hdecl : (T k).1 = own) {v : Value} (hn : narrow (ty0 k) v = v) (hfit : fits (ty0 k) v = true) (hv : pv w a ci k v = some w')
    (hdg : decode cc pc = .ok (.putfield index, 3)) (kk : ∀ (H1 : Heap) (locs1 : List Loc), wo_S D cl cA base s w' H1 locs1 → W p l e R s m args below meth c H1 locs1 cells slots Q (F0 m (pc + 3) ls rest)) : W p l e R s m args below meth c H locs cells slots Q (F0 m pc ls (v :: .ref a :: rest)) := by
  obtain ⟨fs, h1, h2, rfl⟩ := pv_s hv
  obtain ⟨L, q0, hL, hP, hD, he⟩ := hW.1.at h1
  exact va_putF (D := D) hexec hb hts hin ty0 hty hnm hown hK hP hD hW.2.1 q0 he hc k hk hlink hsame hfin hin2 hdecl (hty k hk) hn hfit h2 hdg (fun H1 locs1 hP1 hD1 hS1 => kk H1 locs1 ⟨wo_R.upd (e := .inr (ci, fs.set k v)) hL hD h1 he hP1 hD1, hS1, hW.2.2⟩)
theorem wo_iald (hexec : p.tables.exec = Jvm.exec) (hb : c.code = cc) (hK : va_K D cl tys s) (hW : wo_S D cl cA base s w H locs) {t : Nat} (ht : tys[t]? = some (cA t, .int)) {i x : Int32} (hv : rI w a t i = some x) (hdg : decode cc pc = .ok (.iaload, 1))
    (kk : W p l e R s m args below meth c H locs cells slots Q (F0 m (pc + 1) ls (.int x :: rest))) : W p l e R s m args below meth c H locs cells slots Q (F0 m pc ls (.int i :: .ref a :: rest)) := by
  obtain ⟨n, f, h1, h2, rfl⟩ := rI_s hv
  obtain ⟨L, q0, -, hP, -, he⟩ := hW.1.at h1
  exact va_iald (D := D) hexec hb hK hP q0 t he ht h2 hdg kk
theorem wo_zald (hexec : p.tables.exec = Jvm.exec) (hb : c.code = cc) (hK : va_K D cl tys s) (hW : wo_S D cl cA base s w H locs) {t : Nat} (ht : tys[t]? = some (cA t, .boolean)) {i x : Int32} (hv : rI w a t i = some x) (hdg : decode cc pc = .ok (.baload, 1))
    (kk : W p l e R s m args below meth c H locs cells slots Q (F0 m (pc + 1) ls (.int x :: rest))) : W p l e R s m args below meth c H locs cells slots Q (F0 m pc ls (.int i :: .ref a :: rest)) := by
  obtain ⟨n, f, h1, h2, rfl⟩ := rI_s hv
  obtain ⟨L, q0, -, hP, -, he⟩ := hW.1.at h1
  exact va_zald (D := D) hexec hb hK hP q0 t he ht h2 hdg kk
theorem wo_cald (hexec : p.tables.exec = Jvm.exec) (hb : c.code = cc) (hK : va_K D cl tys s) (hW : wo_S D cl cA base s w H locs) {t : Nat} (ht : tys[t]? = some (cA t, .char)) {i x : Int32} (hv : rI w a t i = some x) (hdg : decode cc pc = .ok (.caload, 1))
    (kk : W p l e R s m args below meth c H locs cells slots Q (F0 m (pc + 1) ls (.int x :: rest))) : W p l e R s m args below meth c H locs cells slots Q (F0 m pc ls (.int i :: .ref a :: rest)) := by
  obtain ⟨n, f, h1, h2, rfl⟩ := rI_s hv
  obtain ⟨L, q0, -, hP, -, he⟩ := hW.1.at h1
  exact va_cald (D := D) hexec hb hK hP q0 t he ht h2 hdg kk
theorem wo_lald (hexec : p.tables.exec = Jvm.exec) (hb : c.code = cc) (hK : va_K D cl tys s) (hW : wo_S D cl cA base s w H locs) {t : Nat} (ht : tys[t]? = some (cA t, .long)) {i : Int32} {x : Int64} (hv : rL w a t i = some x) (hdg : decode cc pc = .ok (.laload, 1))
    (kk : W p l e R s m args below meth c H locs cells slots Q (F0 m (pc + 1) ls (.long x :: rest))) : W p l e R s m args below meth c H locs cells slots Q (F0 m pc ls (.int i :: .ref a :: rest)) := by
  obtain ⟨n, f, h1, h2, rfl⟩ := rL_s hv
  obtain ⟨L, q0, -, hP, -, he⟩ := hW.1.at h1
  exact va_lald (D := D) hexec hb hK hP q0 t he ht h2 hdg kk
theorem wo_aald (hexec : p.tables.exec = Jvm.exec) (hb : c.code = cc) (hK : va_K D cl tys s) (hW : wo_S D cl cA base s w H locs) {t : Nat} {C : String} (ht : tys[t]? = some (cA t, .object C)) {i : Int32} {x : Option Nat} (hv : rR w a t i = some x) (hdg : decode cc pc = .ok (.aaload, 1))
    (kk : W p l e R s m args below meth c H locs cells slots Q (F0 m (pc + 1) ls (va_rf x :: rest))) : W p l e R s m args below meth c H locs cells slots Q (F0 m pc ls (.int i :: .ref a :: rest)) := by
  obtain ⟨n, f, h1, h2, rfl⟩ := rR_s hv
  obtain ⟨L, q0, -, hP, -, he⟩ := hW.1.at h1
  exact va_aldq (D := D) hexec hb hK hP q0 t he ht h2 hdg kk
theorem wo_iast (hexec : p.tables.exec = Jvm.exec) (hb : c.code = cc) (hK : va_K D cl tys s) (hW : wo_S D cl cA base s w H locs) {t : Nat} (ht : tys[t]? = some (cA t, .int)) {i x : Int32} (hv : sI w a t i x = some w') (hdg : decode cc pc = .ok (.iastore, 1))
    (kk : ∀ (H1 : Heap) (locs1 : List Loc), wo_S D cl cA base s w' H1 locs1 → W p l e R s m args below meth c H1 locs1 cells slots Q (F0 m (pc + 1) ls rest)) : W p l e R s m args below meth c H locs cells slots Q (F0 m pc ls (.int x :: .int i :: .ref a :: rest)) := by
  obtain ⟨n, f, h1, h2, rfl⟩ := sI_s hv
  obtain ⟨L, q0, hL, hP, hD, he⟩ := hW.1.at h1
  exact va_iast (D := D) hexec hb hK hP hD hW.2.1 q0 t he ht h2 hdg (fun H1 locs1 hP1 hD1 hS1 => kk H1 locs1 ⟨wo_R.upd (e := .inl (t, n, .inl (upd f i.toNatClampNeg x))) hL hD h1 he hP1 hD1, hS1, hW.2.2⟩)
theorem wo_zast (hexec : p.tables.exec = Jvm.exec) (hb : c.code = cc) (hK : va_K D cl tys s) (hW : wo_S D cl cA base s w H locs) {t : Nat} (ht : tys[t]? = some (cA t, .boolean)) {i x : Int32} (hv : sI w a t i (vp_nar .boolean x) = some w') (hdg : decode cc pc = .ok (.bastore, 1))
    (kk : ∀ (H1 : Heap) (locs1 : List Loc), wo_S D cl cA base s w' H1 locs1 → W p l e R s m args below meth c H1 locs1 cells slots Q (F0 m (pc + 1) ls rest)) : W p l e R s m args below meth c H locs cells slots Q (F0 m pc ls (.int x :: .int i :: .ref a :: rest)) := by
  obtain ⟨n, f, h1, h2, rfl⟩ := sI_s hv
  obtain ⟨L, q0, hL, hP, hD, he⟩ := hW.1.at h1
  exact va_zast (D := D) hexec hb hK hP hD hW.2.1 q0 t he ht h2 hdg (fun H1 locs1 hP1 hD1 hS1 => kk H1 locs1 ⟨wo_R.upd (e := .inl (t, n, .inl (upd f i.toNatClampNeg (vp_nar .boolean x)))) hL hD h1 he hP1 hD1, hS1, hW.2.2⟩)
theorem wo_cast (hexec : p.tables.exec = Jvm.exec) (hb : c.code = cc) (hK : va_K D cl tys s) (hW : wo_S D cl cA base s w H locs) {t : Nat} (ht : tys[t]? = some (cA t, .char)) {i x : Int32} (hv : sI w a t i (vp_nar .char x) = some w') (hdg : decode cc pc = .ok (.castore, 1))
    (kk : ∀ (H1 : Heap) (locs1 : List Loc), wo_S D cl cA base s w' H1 locs1 → W p l e R s m args below meth c H1 locs1 cells slots Q (F0 m (pc + 1) ls rest)) : W p l e R s m args below meth c H locs cells slots Q (F0 m pc ls (.int x :: .int i :: .ref a :: rest)) := by
  obtain ⟨n, f, h1, h2, rfl⟩ := sI_s hv
  obtain ⟨L, q0, hL, hP, hD, he⟩ := hW.1.at h1
  exact va_cast (D := D) hexec hb hK hP hD hW.2.1 q0 t he ht h2 hdg (fun H1 locs1 hP1 hD1 hS1 => kk H1 locs1 ⟨wo_R.upd (e := .inl (t, n, .inl (upd f i.toNatClampNeg (vp_nar .char x)))) hL hD h1 he hP1 hD1, hS1, hW.2.2⟩)
theorem wo_last (hexec : p.tables.exec = Jvm.exec) (hb : c.code = cc) (hK : va_K D cl tys s) (hW : wo_S D cl cA base s w H locs) {t : Nat} (ht : tys[t]? = some (cA t, .long)) {i : Int32} {x : Int64} (hv : sL w a t i x = some w') (hdg : decode cc pc = .ok (.lastore, 1))
    (kk : ∀ (H1 : Heap) (locs1 : List Loc), wo_S D cl cA base s w' H1 locs1 → W p l e R s m args below meth c H1 locs1 cells slots Q (F0 m (pc + 1) ls rest)) : W p l e R s m args below meth c H locs cells slots Q (F0 m pc ls (.long x :: .int i :: .ref a :: rest)) := by
  obtain ⟨n, f, h1, h2, rfl⟩ := sL_s hv
  obtain ⟨L, q0, hL, hP, hD, he⟩ := hW.1.at h1
  exact va_last (D := D) hexec hb hK hP hD hW.2.1 q0 t he ht h2 hdg (fun H1 locs1 hP1 hD1 hS1 => kk H1 locs1 ⟨wo_R.upd (e := .inl (t, n, .inr (.inl (vp_updL f i.toNatClampNeg x)))) hL hD h1 he hP1 hD1, hS1, hW.2.2⟩)
theorem wo_alen (hexec : p.tables.exec = Jvm.exec) (hb : c.code = cc) (hK : va_K D cl tys s) (hW : wo_S D cl cA base s w H locs) {t : Nat} {ty : FieldType} (ht : tys[t]? = some (cA t, ty)) {x : Int32} (hv : al w a t = some x) (hdg : decode cc pc = .ok (.arraylength, 1))
    (kk : W p l e R s m args below meth c H locs cells slots Q (F0 m (pc + 1) ls (.int x :: rest))) : W p l e R s m args below meth c H locs cells slots Q (F0 m pc ls (.ref a :: rest)) := by
  obtain ⟨y, h1, h2⟩ := al_s hv
  obtain ⟨L, q0, -, hP, -, he⟩ := hW.1.at h1
  exact va_alen (D := D) hexec hb hK hP q0 t he ht h2 hdg kk
/-! ends -/
theorem wo_end (hW : wo_S D cl cA base s w H locs) {ov : Option Value} (t : State) (ht : t.heap = H) : wo_Q D cl cA base ov w args s (.returned ov) t := ⟨rfl, by rw [ht]; exact hW.1, hW.2.1.F ht⟩
theorem wo_iret (hexec : p.tables.exec = Jvm.exec) (hb : c.code = cc) (hr : meth.sig.returnType = some .int) (hlk : meth.locks = false) (hW : wo_S D cl cA base s w H locs) {v : Int32} (hdg : decode cc pc = .ok (.ireturn, 1)) : W p l e R s m args below meth c H locs cells slots (MQ below (wo_Q D cl cA base (some (.int v)) w) args s cells slots (wo_B base)) (F0 m pc ls [.int v]) :=
  W.iret hexec hb hr (fun t ht _ => wo_end hW t ht) hW.2.1.2.2 hdg hlk
theorem wo_zret (hexec : p.tables.exec = Jvm.exec) (hb : c.code = cc) (hr : meth.sig.returnType = some .boolean) (hlk : meth.locks = false) (hW : wo_S D cl cA base s w H locs) {v : Int32} (hz : v = 0 ∨ v = 1) (hdg : decode cc pc = .ok (.ireturn, 1)) : W p l e R s m args below meth c H locs cells slots (MQ below (wo_Q D cl cA base (some (.int v)) w) args s cells slots (wo_B base)) (F0 m pc ls [.int v]) :=
  W.zret hexec hb hr (z_n hz) (fun t ht _ => wo_end hW t ht) hW.2.1.2.2 hdg hlk
theorem wo_lret (hexec : p.tables.exec = Jvm.exec) (hb : c.code = cc) (hr : meth.sig.returnType = some .long) (hlk : meth.locks = false) (hW : wo_S D cl cA base s w H locs) {v : Int64} (hdg : decode cc pc = .ok (.lreturn, 1)) : W p l e R s m args below meth c H locs cells slots (MQ below (wo_Q D cl cA base (some (.long v)) w) args s cells slots (wo_B base)) (F0 m pc ls [.long v]) :=
  W.lret hexec hb hr (fun t ht _ => wo_end hW t ht) hW.2.1.2.2 hdg hlk
theorem wo_vret (hexec : p.tables.exec = Jvm.exec) (hb : c.code = cc) (hr : meth.sig.returnType = none) (hlk : meth.locks = false) (hW : wo_S D cl cA base s w H locs) (hdg : decode cc pc = .ok (.return_, 1)) : W p l e R s m args below meth c H locs cells slots (MQ below (wo_Q D cl cA base none w) args s cells slots (wo_B base)) (F0 m pc ls []) :=
  W.vret hexec hb hr (fun t ht _ => wo_end hW t ht) hW.2.1.2.2 hdg hlk
theorem wo_aret (hexec : p.tables.exec = Jvm.exec) (hb : c.code = cc) {C : String} (hr : meth.sig.returnType = some (.object C)) (hlk : meth.locks = false) (hW : wo_S D cl cA base s w H locs) {r : Option Nat} (hdg : decode cc pc = .ok (.areturn, 1)) : W p l e R s m args below meth c H locs cells slots (MQ below (wo_Q D cl cA base (some (va_rf r)) w) args s cells slots (wo_B base)) (F0 m pc ls [va_rf r]) :=
  W.aret hexec hb hr (Or.inl ⟨C, rfl⟩) (va_rf_or r) (fun t ht _ => wo_end hW t ht) hW.2.1.2.2 hdg hlk
end WOR
/-! a method's start -/
theorem mt_start {l : Launch} {D : va_G} {cl : List vw_C} {tys : List (ClassId × FieldType)} {cA : Nat → ClassId} {base : Nat} {y : MethodName} {ws' : List Cond} {rm : Room} {av : List Value} {w w' : WW} {ov : Option Value} {mc ms : Nat} {cc : ByteArray} {maxL : Nat} {ret : Option FieldType}
    (hy : plainName y.cls = true) (hn : (lg_sl av).length ≤ maxL)
    (body : ∀ (p : Program) (e : Env) (s : State) (m : MethodId) (below : List Frame) (meth : Method) (c : Code) (ls : Array Slot), p.tables.exec = Jvm.exec → c.code = cc → meth.sig.returnType = ret → c.maxLocals = maxL → s.vm.findClass y.cls = some m.cls → (∀ w ∈ ws', w.before av.toArray s = true) → meth.locks = false → meth.name = y.name → va_K D cl tys s → wo_S D cl cA base s w s.heap [] → lv_has ls maxL (lv_args 0 av) →
      W p l e rm s m av.toArray below meth c s.heap [] 0 0 (MQ below (wo_Q D cl cA base ov w') av.toArray s mc ms (wo_B base)) (F0 m 0 ls [])) :
    mt l D cl tys cA base y (Cond.code y cc maxL ret :: ws') rm av w ov w' mc ms := by
  refine Met.ofW (cc := cc) (maxL := maxL) (ret := ret) hy rfl ?_
  intro p e s m args below meth c s₁ B hml hv
  obtain ⟨rfl, h1, h2, h3⟩ := hv
  have hts := atoms_spec (ws := Cond.code y cc maxL ret :: ws') B.pre
  have hown : s.vm.findClass y.cls = some m.cls := findClass_of_methodNamed B.named
  have hnm : meth.name = y.name := (name_of_methodNamed B.named B.method).1
  have hl := lv_entry av (n := maxL) hn
  rw [lg_entry_eq]
  exact body p e s m below meth c _ B.exec B.bytes B.returns hml hown (fun w hw => hts w (List.mem_cons_of_mem _ hw)) B.notSynchronized hnm h3 ⟨h2, va_S.rf, h1⟩ hl
end
section
/-! Calls over the map: the callee's contract takes the whole world w to w'. -/
def kb (w : WW) (a ci : Nat) : Bool := match w a with
  | some (.inr o) => o.1 == ci
  | _ => false
theorem kb_s {w : WW} {a ci : Nat} (h : kb w a ci = true) : ∃ fs : List Value, w a = some (.inr (ci, fs)) := by
  unfold kb at h
  split at h
  · rename_i o ho
    obtain ⟨c, fs⟩ := o
    have hc : c = ci := by simpa using h
    subst hc
    exact ⟨fs, ho⟩
  · cases h
section WOC
variable {p : Program} {l : Launch} {e : Env} {R : Room} {s : State} {m : MethodId} {args : Array Value} {below : List Frame} {meth : Method} {c : Code} {H : Heap} {locs : List Loc} {cells slots : Nat} {Q : State → Prop}
variable {D : va_G} {cl : List vw_C} {tys : List (ClassId × FieldType)} {cA : Nat → ClassId} {base : Nat} {w w' : WW} {cc : ByteArray} {pc : Nat} {ls : Array Slot} {rest st0 : List Value}
theorem wo_after {ov : Option Value} {av : Array Value} {mc ms : Nat} (hr : va_Run p l e R s m args below meth c H locs cells slots mc ms (F0 m pc ls st0) rest (wo_Q D cl cA base ov w' av) (wo_B base)) (hW : wo_S D cl cA base s w H locs)
    (kk : ∀ (H1 : Heap) (locs1 : List Loc), wo_S D cl cA base s w' H1 locs1 → W p l e R s m args below meth c H1 locs1 (cells + mc) (slots + ms) Q (F0 m (pc + 3) ls (ov.toList ++ rest))) : W p l e R s m args below meth c H locs cells slots Q (F0 m pc ls st0) := by
  intro T hT X
  obtain ⟨v, st₀, t, T', L, h0, X', hL, e1, e2, ⟨hv, hR, hF1, hF2⟩, st⟩ := hr T hT X
  cases hv
  rw [h0] at hF1 hF2
  have hS : va_S (wo_B base) s.heap t.heap (locs ++ L) := by
    refine ⟨Nat.le_trans hW.2.1.1 hF1, fun q h1 h2 => ?_, fun q hq => ?_⟩
    · rw [hF2 q (Nat.lt_of_lt_of_le h1 hW.2.1.1) h2]
      exact hW.2.1.2.1 q h1 h2
    · rcases List.mem_append.mp hq with h | h
      · exact hW.2.1.2.2 q h
      · exact hL q h
  obtain ⟨t2, a1, b1⟩ := kk t.heap (locs ++ L) ⟨hR, hS, hW.2.2⟩ T' e1 X'
  exact ⟨t2, st t2 a1, b1⟩
theorem wo_pre (hK : va_K D cl tys s) (hW : wo_S D cl cA base s w H locs) {av : List Value} (U : State) (hU : U.heap = H) (hm : s.WarmedH U.vm) : wo_P D cl tys cA base av w av.toArray U :=
  ⟨rfl, by rw [hU]; exact Nat.le_trans hW.2.2 hW.2.1.1, by rw [hU]; exact hW.1, va_K.moved hm.alike hK⟩
theorem wo_callV {own C : String} {index nL maxL N ci b n : Nat} {T : u_T} {y : MethodName} {bytes : ByteArray} {ret : Option FieldType} {rm : Room} {As : List Value} {ov : Option Value}
    (hx : p.tables.exec = Jvm.exec) (hb : c.code = cc) (hml : c.maxLocals = nL) (hown : s.vm.findClass own = some m.cls) (hts : ∀ w ∈ gt, w.before args s = true) (hK : va_K D cl tys s) (hW : wo_S D cl cA base s w H locs)
    (hM : mt l D cl tys cA base y (Cond.code y bytes maxL ret :: gt) rm (.ref b :: As) w ov w' rm.cells rm.slots) (hkb : kb w b ci = true) (hc : cl[ci]? = some (C, T, N))
    (w1 : Cond.methodLink own index y ∈ gt) (w2 : Cond.instanceMethod y ∈ gt) (w3 : Cond.selects C y y ∈ gt) (w4 : Cond.initialized C ∈ gt) (w5 : Cond.code y bytes maxL ret ∈ gt)
    (hd : y.cls = C ∧ y.cls ≠ "java/lang/invoke/MethodHandle" ∧ y.cls ≠ "java/lang/invoke/VarHandle" ∧ (parseMethodDescriptor y.desc).map (fun d => d.parameters.length) = some n)
    (hR : rm.frames + 1 ≤ R.frames ∧ 8 + (maxL + 11) + rm.locals ≤ R.locals) (hf : cells + rm.cells ≤ R.cells ∧ slots + rm.slots ≤ R.slots) (hn : As.length = n) (hsz : ls.size = nL) (hst : st0 = As.reverse ++ .ref b :: rest) (hcat : (rest.map fun v => v.category).sum ≤ 8) (hdg : decode cc pc = .ok (.invokevirtual index, 3))
    (kk : ∀ (H1 : Heap) (locs1 : List Loc), wo_S D cl cA base s w' H1 locs1 → W p l e R s m args below meth c H1 locs1 (cells + rm.cells) (slots + rm.slots) Q (F0 m (pc + 3) ls (ov.toList ++ rest))) : W p l e R s m args below meth c H locs cells slots Q (F0 m pc ls st0) := by
  obtain ⟨fs, hfs⟩ := kb_s hkb
  obtain ⟨L, q0, -, hP, -, he⟩ := hW.1.at hfs
  have hT : GoodIn gt (wsV own index C y (Cond.code y bytes maxL ret :: gt)) := gt_cons w1 (gt_cons w2 (gt_cons w3 (gt_cons w4 (gt_in w5))))
  exact wo_after (va_runV (As := As) (rest := rest) ⟨hx, hb, hml, hown, hts⟩ hM (cwV n hts hT rfl rfl rfl hd hR) ⟨wo_blind, va_recv hK hP hc he, fun U hU hm => wo_pre hK hW U hU hm⟩ rfl hn hsz hst (lv_room hcat) hdg hf) hW kk
theorem wo_callS {own : String} {index nL maxL n : Nat} {y : MethodName} {bytes : ByteArray} {ret : Option FieldType} {rm : Room} {As : List Value} {ov : Option Value}
    (hx : p.tables.exec = Jvm.exec) (hb : c.code = cc) (hml : c.maxLocals = nL) (hown : s.vm.findClass own = some m.cls) (hts : ∀ w ∈ gt, w.before args s = true) (hK : va_K D cl tys s) (hW : wo_S D cl cA base s w H locs)
    (hM : mt l D cl tys cA base y (Cond.code y bytes maxL ret :: gt) rm As w ov w' rm.cells rm.slots)
    (w1 : Cond.methodLink own index y ∈ gt) (w2 : Cond.static y ∈ gt) (w3 : Cond.initialized y.cls ∈ gt) (w5 : Cond.code y bytes maxL ret ∈ gt)
    (hd : y.cls ≠ "java/lang/invoke/MethodHandle" ∧ y.cls ≠ "java/lang/invoke/VarHandle" ∧ (parseMethodDescriptor y.desc).map (fun d => d.parameters.length) = some n)
    (hR : rm.frames + 1 ≤ R.frames ∧ 8 + (maxL + 11) + rm.locals ≤ R.locals) (hf : cells + rm.cells ≤ R.cells ∧ slots + rm.slots ≤ R.slots) (hn : As.length = n) (hsz : ls.size = nL) (hst : st0 = As.reverse ++ rest) (hcat : (rest.map fun v => v.category).sum ≤ 8) (hdg : decode cc pc = .ok (.invokestatic index, 3))
    (kk : ∀ (H1 : Heap) (locs1 : List Loc), wo_S D cl cA base s w' H1 locs1 → W p l e R s m args below meth c H1 locs1 (cells + rm.cells) (slots + rm.slots) Q (F0 m (pc + 3) ls (ov.toList ++ rest))) : W p l e R s m args below meth c H locs cells slots Q (F0 m pc ls st0) := by
  have hT : GoodIn gt (va_wsS own index y (Cond.code y bytes maxL ret :: gt)) := gt_cons w1 (gt_cons w2 (gt_cons w3 (gt_in w5)))
  exact wo_after (va_runS (As := As) (rest := rest) ⟨hx, hb, hml, hown, hts⟩ hM (va_cwS n hts hT rfl rfl rfl hd hR) ⟨wo_blind, fun U hU hm => wo_pre hK hW U hU hm⟩ rfl hn hsz hst (lv_room hcat) hdg hf) hW kk
theorem wo_callI {own : String} {index nL maxL b n : Nat} {y : MethodName} {bytes : ByteArray} {rm : Room} {As : List Value}
    (hx : p.tables.exec = Jvm.exec) (hb : c.code = cc) (hml : c.maxLocals = nL) (hown : s.vm.findClass own = some m.cls) (hts : ∀ w ∈ gt, w.before args s = true) (hK : va_K D cl tys s) (hW : wo_S D cl cA base s w H locs)
    (hM : mt l D cl tys cA base y (Cond.code y bytes maxL none :: gt) rm (.ref b :: As) w none w' rm.cells rm.slots)
    (w1 : Cond.methodLink own index y ∈ gt) (w2 : Cond.instanceMethod y ∈ gt) (w3 : Cond.initialized y.cls ∈ gt) (w5 : Cond.code y bytes maxL none ∈ gt) (hy1 : y.name = "<init>")
    (hd : y.cls ≠ "java/lang/invoke/MethodHandle" ∧ y.cls ≠ "java/lang/invoke/VarHandle" ∧ (parseMethodDescriptor y.desc).map (fun d => d.parameters.length) = some n)
    (hR : rm.frames + 1 ≤ R.frames ∧ 8 + (maxL + 11) + rm.locals ≤ R.locals) (hf : cells + rm.cells ≤ R.cells ∧ slots + rm.slots ≤ R.slots) (hn : As.length = n) (hsz : ls.size = nL) (hst : st0 = As.reverse ++ .ref b :: rest) (hcat : (rest.map fun v => v.category).sum ≤ 8) (hdg : decode cc pc = .ok (.invokespecial index, 3))
    (kk : ∀ (H1 : Heap) (locs1 : List Loc), wo_S D cl cA base s w' H1 locs1 → W p l e R s m args below meth c H1 locs1 (cells + rm.cells) (slots + rm.slots) Q (F0 m (pc + 3) ls rest)) : W p l e R s m args below meth c H locs cells slots Q (F0 m pc ls st0) := by
  exact wo_after (ov := none) (va_runI (As := As) (rest := rest) ⟨hx, hb, hml, hown, hts⟩ hM (cwI n hts (gt_in w5) rfl rfl rfl (hts _ w3) (hts _ w1) (hts _ w2) hy1 hd hR) ⟨wo_blind, fun U hU hm => wo_pre hK hW U hU hm⟩ rfl hn hsz hst (lv_room hcat) hdg hf) hW kk
end WOC
end
section
theorem zz_a : (1 : Nat) + 1 = 2 := rfl
theorem i_vc : Claimed_1_1 ∧ Claimed_1_2 := sorry
end

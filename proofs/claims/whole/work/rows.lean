section
-- ===== PART A: goes FIRST, ahead of the names: the tables' words, and 'selects' of the private methods out of them =====
/-- a private method of a class that the tables say can be made, by its rows of tables_1 -/
def lw_okq (q : MethodName × Nat) : Prop := (q.1.cls ≠ "java/lang/invoke/MethodHandle" ∧ q.1.cls ≠ "java/lang/invoke/VarHandle") ∧ Cond.instantiable q.1.cls q.2 ∈ tables_1 ∧ Cond.privateMethod q.1 ∈ tables_1 ∧ Cond.instanceMethod q.1 ∈ tables_1
theorem lw_p0 : lw_okq (⟨"WhereFound$Register", "rowOf", "(I)LWhereFound$Sportsman;"⟩, 5) := ⟨⟨by decide +kernel, by decide +kernel⟩, List.mem_of_getElem? (i := 29) (by decide +kernel), List.mem_of_getElem? (i := 209) (by decide +kernel), List.mem_of_getElem? (i := 210) (by decide +kernel)⟩
theorem lw_p1 : lw_okq (⟨"WhereFound$Tape", "byteAt", "(I)I"⟩, 6) := ⟨⟨by decide +kernel, by decide +kernel⟩, List.mem_of_getElem? (i := 106) (by decide +kernel), List.mem_of_getElem? (i := 290) (by decide +kernel), List.mem_of_getElem? (i := 291) (by decide +kernel)⟩
theorem lw_p2 : lw_okq (⟨"WhereFound$Tape", "readWord", "()V"⟩, 6) := ⟨⟨by decide +kernel, by decide +kernel⟩, List.mem_of_getElem? (i := 106) (by decide +kernel), List.mem_of_getElem? (i := 300) (by decide +kernel), List.mem_of_getElem? (i := 301) (by decide +kernel)⟩
theorem lw_p3 : lw_okq (⟨"WhereFound$Tape", "readNumber", "()V"⟩, 6) := ⟨⟨by decide +kernel, by decide +kernel⟩, List.mem_of_getElem? (i := 106) (by decide +kernel), List.mem_of_getElem? (i := 307) (by decide +kernel), List.mem_of_getElem? (i := 308) (by decide +kernel)⟩
theorem lw_p4 : lw_okq (⟨"WhereFound$Text", "performOne", "(LWhereFound$Register;)Z"⟩, 4) := ⟨⟨by decide +kernel, by decide +kernel⟩, List.mem_of_getElem? (i := 136) (by decide +kernel), List.mem_of_getElem? (i := 311) (by decide +kernel), List.mem_of_getElem? (i := 312) (by decide +kernel)⟩
theorem lw_p5 : lw_okq (⟨"WhereFound$Text", "formOfWord", "()I"⟩, 4) := ⟨⟨by decide +kernel, by decide +kernel⟩, List.mem_of_getElem? (i := 136) (by decide +kernel), List.mem_of_getElem? (i := 315) (by decide +kernel), List.mem_of_getElem? (i := 316) (by decide +kernel)⟩
theorem lw_p6 : lw_okq (⟨"WhereFound$Text", "refuse", "(II)Z"⟩, 4) := ⟨⟨by decide +kernel, by decide +kernel⟩, List.mem_of_getElem? (i := 136) (by decide +kernel), List.mem_of_getElem? (i := 377) (by decide +kernel), List.mem_of_getElem? (i := 378) (by decide +kernel)⟩
theorem lw_p7 : lw_okq (⟨"WhereFound$Text", "readNumbers", "(LWhereFound$Register;I)Z"⟩, 4) := ⟨⟨by decide +kernel, by decide +kernel⟩, List.mem_of_getElem? (i := 136) (by decide +kernel), List.mem_of_getElem? (i := 381) (by decide +kernel), List.mem_of_getElem? (i := 382) (by decide +kernel)⟩
theorem lw_p8 : lw_okq (⟨"WhereFound$Text", "canBeNumber", "(LWhereFound$Register;III)Z"⟩, 4) := ⟨⟨by decide +kernel, by decide +kernel⟩, List.mem_of_getElem? (i := 136) (by decide +kernel), List.mem_of_getElem? (i := 387) (by decide +kernel), List.mem_of_getElem? (i := 388) (by decide +kernel)⟩
theorem lw_p9 : lw_okq (⟨"WhereFound$Text", "canBeOfFiling", "(II)Z"⟩, 4) := ⟨⟨by decide +kernel, by decide +kernel⟩, List.mem_of_getElem? (i := 136) (by decide +kernel), List.mem_of_getElem? (i := 412) (by decide +kernel), List.mem_of_getElem? (i := 413) (by decide +kernel)⟩
theorem lw_p10 : lw_okq (⟨"WhereFound$Text", "isFailure", "(LWhereFound$Register;I)Z"⟩, 4) := ⟨⟨by decide +kernel, by decide +kernel⟩, List.mem_of_getElem? (i := 136) (by decide +kernel), List.mem_of_getElem? (i := 428) (by decide +kernel), List.mem_of_getElem? (i := 429) (by decide +kernel)⟩
theorem lw_p11 : lw_okq (⟨"WhereFound$Text", "readOutcome", "()Z"⟩, 4) := ⟨⟨by decide +kernel, by decide +kernel⟩, List.mem_of_getElem? (i := 136) (by decide +kernel), List.mem_of_getElem? (i := 436) (by decide +kernel), List.mem_of_getElem? (i := 437) (by decide +kernel)⟩
theorem lw_p12 : lw_okq (⟨"WhereFound$Text", "doForm", "(LWhereFound$Register;I)Z"⟩, 4) := ⟨⟨by decide +kernel, by decide +kernel⟩, List.mem_of_getElem? (i := 136) (by decide +kernel), List.mem_of_getElem? (i := 442) (by decide +kernel), List.mem_of_getElem? (i := 443) (by decide +kernel)⟩
theorem lw_p13 : lw_okq (⟨"WhereFound$Register", "hoursTo", "(II)I"⟩, 5) := ⟨⟨by decide +kernel, by decide +kernel⟩, List.mem_of_getElem? (i := 29) (by decide +kernel), List.mem_of_getElem? (i := 469) (by decide +kernel), List.mem_of_getElem? (i := 470) (by decide +kernel)⟩
theorem lw_p14 : lw_okq (⟨"WhereFound$Register", "beginQuarter", "(I)I"⟩, 5) := ⟨⟨by decide +kernel, by decide +kernel⟩, List.mem_of_getElem? (i := 29) (by decide +kernel), List.mem_of_getElem? (i := 473) (by decide +kernel), List.mem_of_getElem? (i := 474) (by decide +kernel)⟩
theorem lw_p15 : lw_okq (⟨"WhereFound$Register", "mayStart", "(LWhereFound$Sportsman;II)Z"⟩, 5) := ⟨⟨by decide +kernel, by decide +kernel⟩, List.mem_of_getElem? (i := 29) (by decide +kernel), List.mem_of_getElem? (i := 492) (by decide +kernel), List.mem_of_getElem? (i := 493) (by decide +kernel)⟩
def lw_privs_1 : List (MethodName × Nat) := [(⟨"WhereFound$Register", "rowOf", "(I)LWhereFound$Sportsman;"⟩, 5), (⟨"WhereFound$Tape", "byteAt", "(I)I"⟩, 6), (⟨"WhereFound$Tape", "readWord", "()V"⟩, 6), (⟨"WhereFound$Tape", "readNumber", "()V"⟩, 6), (⟨"WhereFound$Text", "performOne", "(LWhereFound$Register;)Z"⟩, 4), (⟨"WhereFound$Text", "formOfWord", "()I"⟩, 4), (⟨"WhereFound$Text", "refuse", "(II)Z"⟩, 4), (⟨"WhereFound$Text", "readNumbers", "(LWhereFound$Register;I)Z"⟩, 4), (⟨"WhereFound$Text", "canBeNumber", "(LWhereFound$Register;III)Z"⟩, 4), (⟨"WhereFound$Text", "canBeOfFiling", "(II)Z"⟩, 4), (⟨"WhereFound$Text", "isFailure", "(LWhereFound$Register;I)Z"⟩, 4), (⟨"WhereFound$Text", "readOutcome", "()Z"⟩, 4), (⟨"WhereFound$Text", "doForm", "(LWhereFound$Register;I)Z"⟩, 4), (⟨"WhereFound$Register", "hoursTo", "(II)I"⟩, 5), (⟨"WhereFound$Register", "beginQuarter", "(I)I"⟩, 5), (⟨"WhereFound$Register", "mayStart", "(LWhereFound$Sportsman;II)Z"⟩, 5)]
theorem lw_r1 : ∀ q ∈ lw_privs_1, lw_okq q := List.forall_mem_cons.mpr ⟨lw_p0, List.forall_mem_cons.mpr ⟨lw_p1, List.forall_mem_cons.mpr ⟨lw_p2, List.forall_mem_cons.mpr ⟨lw_p3, List.forall_mem_cons.mpr ⟨lw_p4, List.forall_mem_cons.mpr ⟨lw_p5, List.forall_mem_cons.mpr ⟨lw_p6, List.forall_mem_cons.mpr ⟨lw_p7, List.forall_mem_cons.mpr ⟨lw_p8, List.forall_mem_cons.mpr ⟨lw_p9, List.forall_mem_cons.mpr ⟨lw_p10, List.forall_mem_cons.mpr ⟨lw_p11, List.forall_mem_cons.mpr ⟨lw_p12, List.forall_mem_cons.mpr ⟨lw_p13, List.forall_mem_cons.mpr ⟨lw_p14, List.forall_mem_cons.mpr ⟨lw_p15, fun _ h => absurd h List.not_mem_nil⟩⟩⟩⟩⟩⟩⟩⟩⟩⟩⟩⟩⟩⟩⟩⟩
theorem lw_p16 : lw_okq (⟨"WhereFound$Register", "noteLateChange", "(LWhereFound$Sportsman;)V"⟩, 5) := ⟨⟨by decide +kernel, by decide +kernel⟩, List.mem_of_getElem? (i := 29) (by decide +kernel), List.mem_of_getElem? (i := 505) (by decide +kernel), List.mem_of_getElem? (i := 506) (by decide +kernel)⟩
theorem lw_p17 : lw_okq (⟨"WhereFound$Tally", "isNoticed", "(I)Z"⟩, 10) := ⟨⟨by decide +kernel, by decide +kernel⟩, List.mem_of_getElem? (i := 67) (by decide +kernel), List.mem_of_getElem? (i := 585) (by decide +kernel), List.mem_of_getElem? (i := 586) (by decide +kernel)⟩
theorem lw_p18 : lw_okq (⟨"WhereFound", "weighAll", "()I"⟩, 7) := ⟨⟨by decide +kernel, by decide +kernel⟩, List.mem_of_getElem? (i := 21) (by decide +kernel), List.mem_of_getElem? (i := 619) (by decide +kernel), List.mem_of_getElem? (i := 620) (by decide +kernel)⟩
theorem lw_p19 : lw_okq (⟨"WhereFound", "weightOf", "(LWhereFound$Sportsman;)I"⟩, 7) := ⟨⟨by decide +kernel, by decide +kernel⟩, List.mem_of_getElem? (i := 21) (by decide +kernel), List.mem_of_getElem? (i := 623) (by decide +kernel), List.mem_of_getElem? (i := 624) (by decide +kernel)⟩
theorem lw_p20 : lw_okq (⟨"WhereFound", "pointsOf", "(LWhereFound$Sportsman;)I"⟩, 7) := ⟨⟨by decide +kernel, by decide +kernel⟩, List.mem_of_getElem? (i := 21) (by decide +kernel), List.mem_of_getElem? (i := 627) (by decide +kernel), List.mem_of_getElem? (i := 628) (by decide +kernel)⟩
theorem lw_p21 : lw_okq (⟨"WhereFound", "firstAbove", "(J)I"⟩, 7) := ⟨⟨by decide +kernel, by decide +kernel⟩, List.mem_of_getElem? (i := 21) (by decide +kernel), List.mem_of_getElem? (i := 635) (by decide +kernel), List.mem_of_getElem? (i := 636) (by decide +kernel)⟩
theorem lw_p22 : lw_okq (⟨"WhereFound", "hoursOfRound", "(I)I"⟩, 7) := ⟨⟨by decide +kernel, by decide +kernel⟩, List.mem_of_getElem? (i := 21) (by decide +kernel), List.mem_of_getElem? (i := 650) (by decide +kernel), List.mem_of_getElem? (i := 651) (by decide +kernel)⟩
theorem lw_p23 : lw_okq (⟨"WhereFound", "athletesOfRound", "(I)I"⟩, 7) := ⟨⟨by decide +kernel, by decide +kernel⟩, List.mem_of_getElem? (i := 21) (by decide +kernel), List.mem_of_getElem? (i := 668) (by decide +kernel), List.mem_of_getElem? (i := 669) (by decide +kernel)⟩
theorem lw_p24 : lw_okq (⟨"WhereFound", "violationsOf", "(LWhereFound$Sportsman;)I"⟩, 7) := ⟨⟨by decide +kernel, by decide +kernel⟩, List.mem_of_getElem? (i := 21) (by decide +kernel), List.mem_of_getElem? (i := 685) (by decide +kernel), List.mem_of_getElem? (i := 686) (by decide +kernel)⟩
theorem lw_p25 : lw_okq (⟨"java/lang/Throwable", "fillInStackTrace", "(I)Ljava/lang/Throwable;"⟩, 6) := ⟨⟨by decide +kernel, by decide +kernel⟩, List.mem_of_getElem? (i := 753) (by decide +kernel), List.mem_of_getElem? (i := 751) (by decide +kernel), List.mem_of_getElem? (i := 752) (by decide +kernel)⟩
theorem lw_p26 : lw_okq (⟨"WhereFoundModel", "comes", "(I)I"⟩, 18) := ⟨⟨by decide +kernel, by decide +kernel⟩, List.mem_of_getElem? (i := 783) (by decide +kernel), List.mem_of_getElem? (i := 855) (by decide +kernel), List.mem_of_getElem? (i := 856) (by decide +kernel)⟩
theorem lw_p27 : lw_okq (⟨"WhereFoundModel", "isBehind", "(II)Z"⟩, 18) := ⟨⟨by decide +kernel, by decide +kernel⟩, List.mem_of_getElem? (i := 783) (by decide +kernel), List.mem_of_getElem? (i := 870) (by decide +kernel), List.mem_of_getElem? (i := 871) (by decide +kernel)⟩
theorem lw_p28 : lw_okq (⟨"WhereFoundModel", "goesOn", "(II)I"⟩, 18) := ⟨⟨by decide +kernel, by decide +kernel⟩, List.mem_of_getElem? (i := 783) (by decide +kernel), List.mem_of_getElem? (i := 874) (by decide +kernel), List.mem_of_getElem? (i := 875) (by decide +kernel)⟩
theorem lw_p29 : lw_okq (⟨"WhereFoundModel", "holeOf", "(II)I"⟩, 18) := ⟨⟨by decide +kernel, by decide +kernel⟩, List.mem_of_getElem? (i := 783) (by decide +kernel), List.mem_of_getElem? (i := 878) (by decide +kernel), List.mem_of_getElem? (i := 879) (by decide +kernel)⟩
theorem lw_p30 : lw_okq (⟨"WhereFoundModel", "isFiled", "(II)Z"⟩, 18) := ⟨⟨by decide +kernel, by decide +kernel⟩, List.mem_of_getElem? (i := 783) (by decide +kernel), List.mem_of_getElem? (i := 882) (by decide +kernel), List.mem_of_getElem? (i := 883) (by decide +kernel)⟩
theorem lw_p31 : lw_okq (⟨"WhereFoundModel", "its", "(II)I"⟩, 18) := ⟨⟨by decide +kernel, by decide +kernel⟩, List.mem_of_getElem? (i := 783) (by decide +kernel), List.mem_of_getElem? (i := 886) (by decide +kernel), List.mem_of_getElem? (i := 887) (by decide +kernel)⟩
def lw_privs_2 : List (MethodName × Nat) := [(⟨"WhereFound$Register", "noteLateChange", "(LWhereFound$Sportsman;)V"⟩, 5), (⟨"WhereFound$Tally", "isNoticed", "(I)Z"⟩, 10), (⟨"WhereFound", "weighAll", "()I"⟩, 7), (⟨"WhereFound", "weightOf", "(LWhereFound$Sportsman;)I"⟩, 7), (⟨"WhereFound", "pointsOf", "(LWhereFound$Sportsman;)I"⟩, 7), (⟨"WhereFound", "firstAbove", "(J)I"⟩, 7), (⟨"WhereFound", "hoursOfRound", "(I)I"⟩, 7), (⟨"WhereFound", "athletesOfRound", "(I)I"⟩, 7), (⟨"WhereFound", "violationsOf", "(LWhereFound$Sportsman;)I"⟩, 7), (⟨"java/lang/Throwable", "fillInStackTrace", "(I)Ljava/lang/Throwable;"⟩, 6), (⟨"WhereFoundModel", "comes", "(I)I"⟩, 18), (⟨"WhereFoundModel", "isBehind", "(II)Z"⟩, 18), (⟨"WhereFoundModel", "goesOn", "(II)I"⟩, 18), (⟨"WhereFoundModel", "holeOf", "(II)I"⟩, 18), (⟨"WhereFoundModel", "isFiled", "(II)Z"⟩, 18), (⟨"WhereFoundModel", "its", "(II)I"⟩, 18)]
theorem lw_r2 : ∀ q ∈ lw_privs_2, lw_okq q := List.forall_mem_cons.mpr ⟨lw_p16, List.forall_mem_cons.mpr ⟨lw_p17, List.forall_mem_cons.mpr ⟨lw_p18, List.forall_mem_cons.mpr ⟨lw_p19, List.forall_mem_cons.mpr ⟨lw_p20, List.forall_mem_cons.mpr ⟨lw_p21, List.forall_mem_cons.mpr ⟨lw_p22, List.forall_mem_cons.mpr ⟨lw_p23, List.forall_mem_cons.mpr ⟨lw_p24, List.forall_mem_cons.mpr ⟨lw_p25, List.forall_mem_cons.mpr ⟨lw_p26, List.forall_mem_cons.mpr ⟨lw_p27, List.forall_mem_cons.mpr ⟨lw_p28, List.forall_mem_cons.mpr ⟨lw_p29, List.forall_mem_cons.mpr ⟨lw_p30, List.forall_mem_cons.mpr ⟨lw_p31, fun _ h => absurd h List.not_mem_nil⟩⟩⟩⟩⟩⟩⟩⟩⟩⟩⟩⟩⟩⟩⟩⟩
theorem lw_p32 : lw_okq (⟨"WhereFoundModel", "fails", "(III)Z"⟩, 18) := ⟨⟨by decide +kernel, by decide +kernel⟩, List.mem_of_getElem? (i := 783) (by decide +kernel), List.mem_of_getElem? (i := 890) (by decide +kernel), List.mem_of_getElem? (i := 891) (by decide +kernel)⟩
theorem lw_p33 : lw_okq (⟨"WhereFoundModel", "isAthlete", "(I)Z"⟩, 18) := ⟨⟨by decide +kernel, by decide +kernel⟩, List.mem_of_getElem? (i := 783) (by decide +kernel), List.mem_of_getElem? (i := 898) (by decide +kernel), List.mem_of_getElem? (i := 899) (by decide +kernel)⟩
theorem lw_p34 : lw_okq (⟨"WhereFoundModel", "mayFile", "(III)Z"⟩, 18) := ⟨⟨by decide +kernel, by decide +kernel⟩, List.mem_of_getElem? (i := 783) (by decide +kernel), List.mem_of_getElem? (i := 905) (by decide +kernel), List.mem_of_getElem? (i := 906) (by decide +kernel)⟩
theorem lw_p35 : lw_okq (⟨"WhereFoundModel", "hourOf", "(II)I"⟩, 18) := ⟨⟨by decide +kernel, by decide +kernel⟩, List.mem_of_getElem? (i := 783) (by decide +kernel), List.mem_of_getElem? (i := 909) (by decide +kernel), List.mem_of_getElem? (i := 910) (by decide +kernel)⟩
theorem lw_p36 : lw_okq (⟨"WhereFoundModel", "files", "(IIIII)I"⟩, 18) := ⟨⟨by decide +kernel, by decide +kernel⟩, List.mem_of_getElem? (i := 783) (by decide +kernel), List.mem_of_getElem? (i := 913) (by decide +kernel), List.mem_of_getElem? (i := 914) (by decide +kernel)⟩
theorem lw_p37 : lw_okq (⟨"WhereFoundModel", "isLate", "(I)V"⟩, 18) := ⟨⟨by decide +kernel, by decide +kernel⟩, List.mem_of_getElem? (i := 783) (by decide +kernel), List.mem_of_getElem? (i := 917) (by decide +kernel), List.mem_of_getElem? (i := 918) (by decide +kernel)⟩
theorem lw_p38 : lw_okq (⟨"WhereFoundModel", "tests", "(IIZ)I"⟩, 18) := ⟨⟨by decide +kernel, by decide +kernel⟩, List.mem_of_getElem? (i := 783) (by decide +kernel), List.mem_of_getElem? (i := 925) (by decide +kernel), List.mem_of_getElem? (i := 926) (by decide +kernel)⟩
theorem lw_p39 : lw_okq (⟨"WhereFoundModel", "placeOf", "(II)I"⟩, 18) := ⟨⟨by decide +kernel, by decide +kernel⟩, List.mem_of_getElem? (i := 783) (by decide +kernel), List.mem_of_getElem? (i := 929) (by decide +kernel), List.mem_of_getElem? (i := 930) (by decide +kernel)⟩
theorem lw_p40 : lw_okq (⟨"WhereFoundModel", "isFailure", "(II)Z"⟩, 18) := ⟨⟨by decide +kernel, by decide +kernel⟩, List.mem_of_getElem? (i := 783) (by decide +kernel), List.mem_of_getElem? (i := 937) (by decide +kernel), List.mem_of_getElem? (i := 938) (by decide +kernel)⟩
theorem lw_p41 : lw_okq (⟨"WhereFoundModel", "strikes", "(II)Z"⟩, 18) := ⟨⟨by decide +kernel, by decide +kernel⟩, List.mem_of_getElem? (i := 783) (by decide +kernel), List.mem_of_getElem? (i := 941) (by decide +kernel), List.mem_of_getElem? (i := 942) (by decide +kernel)⟩
theorem lw_p42 : lw_okq (⟨"WhereFoundModel", "four", "(I)V"⟩, 18) := ⟨⟨by decide +kernel, by decide +kernel⟩, List.mem_of_getElem? (i := 783) (by decide +kernel), List.mem_of_getElem? (i := 949) (by decide +kernel), List.mem_of_getElem? (i := 950) (by decide +kernel)⟩
theorem lw_p43 : lw_okq (⟨"WhereFoundModel", "readText", "()Z"⟩, 18) := ⟨⟨by decide +kernel, by decide +kernel⟩, List.mem_of_getElem? (i := 783) (by decide +kernel), List.mem_of_getElem? (i := 961) (by decide +kernel), List.mem_of_getElem? (i := 962) (by decide +kernel)⟩
theorem lw_p44 : lw_okq (⟨"WhereFoundModel", "here", "()I"⟩, 18) := ⟨⟨by decide +kernel, by decide +kernel⟩, List.mem_of_getElem? (i := 783) (by decide +kernel), List.mem_of_getElem? (i := 965) (by decide +kernel), List.mem_of_getElem? (i := 966) (by decide +kernel)⟩
theorem lw_p45 : lw_okq (⟨"WhereFoundModel", "readStatement", "()Z"⟩, 18) := ⟨⟨by decide +kernel, by decide +kernel⟩, List.mem_of_getElem? (i := 783) (by decide +kernel), List.mem_of_getElem? (i := 969) (by decide +kernel), List.mem_of_getElem? (i := 970) (by decide +kernel)⟩
theorem lw_p46 : lw_okq (⟨"WhereFoundModel", "wrong", "(II)Z"⟩, 18) := ⟨⟨by decide +kernel, by decide +kernel⟩, List.mem_of_getElem? (i := 783) (by decide +kernel), List.mem_of_getElem? (i := 973) (by decide +kernel), List.mem_of_getElem? (i := 974) (by decide +kernel)⟩
theorem lw_p47 : lw_okq (⟨"WhereFoundModel", "readWord", "()J"⟩, 18) := ⟨⟨by decide +kernel, by decide +kernel⟩, List.mem_of_getElem? (i := 783) (by decide +kernel), List.mem_of_getElem? (i := 977) (by decide +kernel), List.mem_of_getElem? (i := 978) (by decide +kernel)⟩
def lw_privs_3 : List (MethodName × Nat) := [(⟨"WhereFoundModel", "fails", "(III)Z"⟩, 18), (⟨"WhereFoundModel", "isAthlete", "(I)Z"⟩, 18), (⟨"WhereFoundModel", "mayFile", "(III)Z"⟩, 18), (⟨"WhereFoundModel", "hourOf", "(II)I"⟩, 18), (⟨"WhereFoundModel", "files", "(IIIII)I"⟩, 18), (⟨"WhereFoundModel", "isLate", "(I)V"⟩, 18), (⟨"WhereFoundModel", "tests", "(IIZ)I"⟩, 18), (⟨"WhereFoundModel", "placeOf", "(II)I"⟩, 18), (⟨"WhereFoundModel", "isFailure", "(II)Z"⟩, 18), (⟨"WhereFoundModel", "strikes", "(II)Z"⟩, 18), (⟨"WhereFoundModel", "four", "(I)V"⟩, 18), (⟨"WhereFoundModel", "readText", "()Z"⟩, 18), (⟨"WhereFoundModel", "here", "()I"⟩, 18), (⟨"WhereFoundModel", "readStatement", "()Z"⟩, 18), (⟨"WhereFoundModel", "wrong", "(II)Z"⟩, 18), (⟨"WhereFoundModel", "readWord", "()J"⟩, 18)]
theorem lw_r3 : ∀ q ∈ lw_privs_3, lw_okq q := List.forall_mem_cons.mpr ⟨lw_p32, List.forall_mem_cons.mpr ⟨lw_p33, List.forall_mem_cons.mpr ⟨lw_p34, List.forall_mem_cons.mpr ⟨lw_p35, List.forall_mem_cons.mpr ⟨lw_p36, List.forall_mem_cons.mpr ⟨lw_p37, List.forall_mem_cons.mpr ⟨lw_p38, List.forall_mem_cons.mpr ⟨lw_p39, List.forall_mem_cons.mpr ⟨lw_p40, List.forall_mem_cons.mpr ⟨lw_p41, List.forall_mem_cons.mpr ⟨lw_p42, List.forall_mem_cons.mpr ⟨lw_p43, List.forall_mem_cons.mpr ⟨lw_p44, List.forall_mem_cons.mpr ⟨lw_p45, List.forall_mem_cons.mpr ⟨lw_p46, List.forall_mem_cons.mpr ⟨lw_p47, fun _ h => absurd h List.not_mem_nil⟩⟩⟩⟩⟩⟩⟩⟩⟩⟩⟩⟩⟩⟩⟩⟩
theorem lw_p48 : lw_okq (⟨"WhereFoundModel", "readRest", "(JI)Z"⟩, 18) := ⟨⟨by decide +kernel, by decide +kernel⟩, List.mem_of_getElem? (i := 783) (by decide +kernel), List.mem_of_getElem? (i := 984) (by decide +kernel), List.mem_of_getElem? (i := 985) (by decide +kernel)⟩
theorem lw_p49 : lw_okq (⟨"WhereFoundModel", "number", "(III)Z"⟩, 18) := ⟨⟨by decide +kernel, by decide +kernel⟩, List.mem_of_getElem? (i := 783) (by decide +kernel), List.mem_of_getElem? (i := 989) (by decide +kernel), List.mem_of_getElem? (i := 990) (by decide +kernel)⟩
theorem lw_p50 : lw_okq (⟨"WhereFoundModel", "readFile", "()Z"⟩, 18) := ⟨⟨by decide +kernel, by decide +kernel⟩, List.mem_of_getElem? (i := 783) (by decide +kernel), List.mem_of_getElem? (i := 996) (by decide +kernel), List.mem_of_getElem? (i := 997) (by decide +kernel)⟩
theorem lw_p51 : lw_okq (⟨"WhereFoundModel", "who", "()Z"⟩, 18) := ⟨⟨by decide +kernel, by decide +kernel⟩, List.mem_of_getElem? (i := 783) (by decide +kernel), List.mem_of_getElem? (i := 1000) (by decide +kernel), List.mem_of_getElem? (i := 1001) (by decide +kernel)⟩
theorem lw_p52 : lw_okq (⟨"WhereFoundModel", "readTest", "()Z"⟩, 18) := ⟨⟨by decide +kernel, by decide +kernel⟩, List.mem_of_getElem? (i := 783) (by decide +kernel), List.mem_of_getElem? (i := 1005) (by decide +kernel), List.mem_of_getElem? (i := 1006) (by decide +kernel)⟩
theorem lw_p53 : lw_okq (⟨"WhereFoundModel", "does", "(J)Z"⟩, 18) := ⟨⟨by decide +kernel, by decide +kernel⟩, List.mem_of_getElem? (i := 783) (by decide +kernel), List.mem_of_getElem? (i := 1012) (by decide +kernel), List.mem_of_getElem? (i := 1013) (by decide +kernel)⟩
theorem lw_p54 : lw_okq (⟨"WhereFoundModel", "pointsNow", "(I)I"⟩, 18) := ⟨⟨by decide +kernel, by decide +kernel⟩, List.mem_of_getElem? (i := 783) (by decide +kernel), List.mem_of_getElem? (i := 1024) (by decide +kernel), List.mem_of_getElem? (i := 1025) (by decide +kernel)⟩
theorem lw_p55 : lw_okq (⟨"WhereFoundModel", "walks", "(I)V"⟩, 18) := ⟨⟨by decide +kernel, by decide +kernel⟩, List.mem_of_getElem? (i := 783) (by decide +kernel), List.mem_of_getElem? (i := 1028) (by decide +kernel), List.mem_of_getElem? (i := 1029) (by decide +kernel)⟩
theorem lw_p56 : lw_okq (⟨"WhereFoundModel", "walksBy", "(III)V"⟩, 18) := ⟨⟨by decide +kernel, by decide +kernel⟩, List.mem_of_getElem? (i := 783) (by decide +kernel), List.mem_of_getElem? (i := 1032) (by decide +kernel), List.mem_of_getElem? (i := 1033) (by decide +kernel)⟩
theorem lw_p57 : lw_okq (⟨"WhereFoundModel", "dayOf", "(II)I"⟩, 18) := ⟨⟨by decide +kernel, by decide +kernel⟩, List.mem_of_getElem? (i := 783) (by decide +kernel), List.mem_of_getElem? (i := 1036) (by decide +kernel), List.mem_of_getElem? (i := 1037) (by decide +kernel)⟩
theorem lw_p58 : lw_okq (⟨"WhereFoundModel", "openBehind", "(III)I"⟩, 18) := ⟨⟨by decide +kernel, by decide +kernel⟩, List.mem_of_getElem? (i := 783) (by decide +kernel), List.mem_of_getElem? (i := 1040) (by decide +kernel), List.mem_of_getElem? (i := 1041) (by decide +kernel)⟩
theorem lw_p59 : lw_okq (⟨"WhereFoundModel", "violationsOf", "(I)I"⟩, 18) := ⟨⟨by decide +kernel, by decide +kernel⟩, List.mem_of_getElem? (i := 783) (by decide +kernel), List.mem_of_getElem? (i := 1044) (by decide +kernel), List.mem_of_getElem? (i := 1045) (by decide +kernel)⟩
theorem lw_p60 : lw_okq (⟨"WhereFoundModel", "latesOf", "(I)I"⟩, 18) := ⟨⟨by decide +kernel, by decide +kernel⟩, List.mem_of_getElem? (i := 783) (by decide +kernel), List.mem_of_getElem? (i := 1048) (by decide +kernel), List.mem_of_getElem? (i := 1049) (by decide +kernel)⟩
theorem lw_p61 : lw_okq (⟨"WhereFoundModel", "weightOf", "(I)I"⟩, 18) := ⟨⟨by decide +kernel, by decide +kernel⟩, List.mem_of_getElem? (i := 783) (by decide +kernel), List.mem_of_getElem? (i := 1052) (by decide +kernel), List.mem_of_getElem? (i := 1053) (by decide +kernel)⟩
theorem lw_p62 : lw_okq (⟨"WhereFoundModel", "sumBut", "(I)I"⟩, 18) := ⟨⟨by decide +kernel, by decide +kernel⟩, List.mem_of_getElem? (i := 783) (by decide +kernel), List.mem_of_getElem? (i := 1086) (by decide +kernel), List.mem_of_getElem? (i := 1087) (by decide +kernel)⟩
theorem lw_p63 : lw_okq (⟨"WhereFoundModel", "bestPlace", "(II)I"⟩, 18) := ⟨⟨by decide +kernel, by decide +kernel⟩, List.mem_of_getElem? (i := 783) (by decide +kernel), List.mem_of_getElem? (i := 1101) (by decide +kernel), List.mem_of_getElem? (i := 1102) (by decide +kernel)⟩
def lw_privs_4 : List (MethodName × Nat) := [(⟨"WhereFoundModel", "readRest", "(JI)Z"⟩, 18), (⟨"WhereFoundModel", "number", "(III)Z"⟩, 18), (⟨"WhereFoundModel", "readFile", "()Z"⟩, 18), (⟨"WhereFoundModel", "who", "()Z"⟩, 18), (⟨"WhereFoundModel", "readTest", "()Z"⟩, 18), (⟨"WhereFoundModel", "does", "(J)Z"⟩, 18), (⟨"WhereFoundModel", "pointsNow", "(I)I"⟩, 18), (⟨"WhereFoundModel", "walks", "(I)V"⟩, 18), (⟨"WhereFoundModel", "walksBy", "(III)V"⟩, 18), (⟨"WhereFoundModel", "dayOf", "(II)I"⟩, 18), (⟨"WhereFoundModel", "openBehind", "(III)I"⟩, 18), (⟨"WhereFoundModel", "violationsOf", "(I)I"⟩, 18), (⟨"WhereFoundModel", "latesOf", "(I)I"⟩, 18), (⟨"WhereFoundModel", "weightOf", "(I)I"⟩, 18), (⟨"WhereFoundModel", "sumBut", "(I)I"⟩, 18), (⟨"WhereFoundModel", "bestPlace", "(II)I"⟩, 18)]
theorem lw_r4 : ∀ q ∈ lw_privs_4, lw_okq q := List.forall_mem_cons.mpr ⟨lw_p48, List.forall_mem_cons.mpr ⟨lw_p49, List.forall_mem_cons.mpr ⟨lw_p50, List.forall_mem_cons.mpr ⟨lw_p51, List.forall_mem_cons.mpr ⟨lw_p52, List.forall_mem_cons.mpr ⟨lw_p53, List.forall_mem_cons.mpr ⟨lw_p54, List.forall_mem_cons.mpr ⟨lw_p55, List.forall_mem_cons.mpr ⟨lw_p56, List.forall_mem_cons.mpr ⟨lw_p57, List.forall_mem_cons.mpr ⟨lw_p58, List.forall_mem_cons.mpr ⟨lw_p59, List.forall_mem_cons.mpr ⟨lw_p60, List.forall_mem_cons.mpr ⟨lw_p61, List.forall_mem_cons.mpr ⟨lw_p62, List.forall_mem_cons.mpr ⟨lw_p63, fun _ h => absurd h List.not_mem_nil⟩⟩⟩⟩⟩⟩⟩⟩⟩⟩⟩⟩⟩⟩⟩⟩
theorem lw_p64 : lw_okq (⟨"WhereFoundModel", "thereAt", "(III)I"⟩, 18) := ⟨⟨by decide +kernel, by decide +kernel⟩, List.mem_of_getElem? (i := 783) (by decide +kernel), List.mem_of_getElem? (i := 1105) (by decide +kernel), List.mem_of_getElem? (i := 1106) (by decide +kernel)⟩
theorem lw_p65 : lw_okq (⟨"WhereFoundModel", "isWorse", "(II)Z"⟩, 18) := ⟨⟨by decide +kernel, by decide +kernel⟩, List.mem_of_getElem? (i := 783) (by decide +kernel), List.mem_of_getElem? (i := 1132) (by decide +kernel), List.mem_of_getElem? (i := 1133) (by decide +kernel)⟩
def lw_privs_5 : List (MethodName × Nat) := [(⟨"WhereFoundModel", "thereAt", "(III)I"⟩, 18), (⟨"WhereFoundModel", "isWorse", "(II)Z"⟩, 18)]
theorem lw_r5 : ∀ q ∈ lw_privs_5, lw_okq q := List.forall_mem_cons.mpr ⟨lw_p64, List.forall_mem_cons.mpr ⟨lw_p65, fun _ h => absurd h List.not_mem_nil⟩⟩
def lw_privs : List (MethodName × Nat) := lw_privs_1 ++ (lw_privs_2 ++ (lw_privs_3 ++ (lw_privs_4 ++ (lw_privs_5))))
def lw_tbl : List Cond := k2_sels lw_privs ++ tables_1
theorem lw_privs_ok : ∀ q ∈ lw_privs, lw_okq q := by
  show ∀ q ∈ lw_privs_1 ++ (lw_privs_2 ++ (lw_privs_3 ++ (lw_privs_4 ++ (lw_privs_5)))), lw_okq q
  exact List.forall_mem_append.mpr ⟨lw_r1, List.forall_mem_append.mpr ⟨lw_r2, List.forall_mem_append.mpr ⟨lw_r3, List.forall_mem_append.mpr ⟨lw_r4, lw_r5⟩⟩⟩⟩
-- ===== end of PART A; then your names; then what follows =====
end
section
/-! ===== BEGIN words of one list among another's, by their places ===== -/
theorem goodIn_r {big : List Cond} (ws : List Cond) (ps : List Nat) (hp : ws = ps.filterMap (fun i => big[i]?)) (h : ws.all goodWord = true) : GoodIn big ws := by
  intro w hw
  have h1 := List.all_eq_true.mp h w hw
  rw [hp] at hw
  obtain ⟨i, -, hi⟩ := List.mem_filterMap.mp hw
  have hm : w ∈ big := by first | exact List.mem_of_getElem? hi | exact List.getElem?_mem hi
  exact ⟨hm, good_of_word h1⟩
theorem goodIn_app {big a b : List Cond} (ha : GoodIn big a) (hb : GoodIn big b) : GoodIn big (a ++ b) := fun w h => (List.mem_append.mp h).elim (ha w) (hb w)
theorem goodIn_ca {big a b : List Cond} {c : Cond} (ha : GoodIn big (c :: a)) (hb : GoodIn big b) : GoodIn big (c :: (a ++ b)) := fun w h => (List.mem_cons.mp h).elim (fun e => ha w (List.mem_cons.mpr (Or.inl e))) (fun h => (List.mem_append.mp h).elim (fun h => ha w (List.mem_cons.mpr (Or.inr h))) (hb w))
theorem goodIn_sub {big ws : List Cond} (hm : ∀ w ∈ ws, w ∈ big) (h : ws.all goodWord = true) : GoodIn big ws := fun w hw => ⟨hm w hw, good_of_word (List.all_eq_true.mp h w hw)⟩
/-! ===== END ===== -/

/-! ===== BEGIN exceptions that leave a method, and their catching by the caller (launches without stack traces) ===== -/
section VXA
/-! The laws vx_back, vx_callV, vx_callS, vx_callSW, vx_throw0, vx_throwS follow proofs of the library, with one case more: JvmDerived/Free/Laws.lean (Back.of_free), Shelf42/LK1.lean (callV, callS), Shelf/KitTraced.lean (throwNew0V, throwNewS). -/
/-- where a method has thrown q: the class by its name, the cell, what was written, the world -/
def vx_T (XC : String → State → State → Prop) (st : State) (q : Addr) (t : State) (mc ms : Nat) (free : Addr → Prop) : Prop :=
  ∃ (E : String) (ce : Cell) (L : List Loc), XC E st t ∧ t.heap[q]? = some ce ∧ ce.vm = .none ∧ st.vm.findClass E = some ce.cls ∧ st.WarmedH t.vm ∧ st.sameButNew ({ t with vm := st.vm } : State) L mc ms ∧ ∀ z ∈ L, free z.base
def vx_Q (Qc : Array Value → State → Outcome → State → Prop) (XC : String → State → State → Prop) (mc ms : Nat) (free : Addr → Prop) : Array Value → State → Outcome → State → Prop := fun a st o t =>
  (Qc a st o t ∧ ∃ L, FrameEnd st o t L mc ms ∧ ∀ q ∈ L, free q.base) ∨ ∃ q, o = .threw q ∧ vx_T XC st q t mc ms free
/-- a callee that returns or throws -/
def vx_Met (l : Launch) (y : MethodName) (ws : List Cond) (rm : Room) (Pc : Array Value → State → Prop) (Qc : Array Value → State → Outcome → State → Prop) (XC : String → State → State → Prop) (mc ms : Nat) (free : Addr → Prop) : Prop :=
  MetFree l y (headSpec ws rm) Pc (fun _ _ _ _ _ => True) (vx_Q Qc XC mc ms free)
def vx_Post (XC : String → State → State → Prop) (mc ms : Nat) (free : Addr → Prop) : Pt → Array Value → Addr → Pt → Prop := fun A a q B =>
  ∃ (g : JFrame) (mk : MethodId) (t : State) (L : List Loc) (E : String) (ce : Cell), B.U.heap = t.heap ∧ B.U.vm = t.vm ∧ XC E (A.U.calling g mk a) t ∧ t.heap[q]? = some ce ∧ ce.vm = .none ∧ A.U.vm.findClass E = some ce.cls ∧ B.locs = A.locs ++ L ∧ (∀ z ∈ L, free z.base) ∧ B.cells = A.cells + mc ∧ B.slots = A.slots + ms
def vx_Back (l : Launch) (R : Room) (p : Program) (e : Env) (below : List Frame) (s : State) (sargs : Array Value) (y : MethodName) (len W9 : Nat)
    (Pre : Pt → Array Value → Prop) (Post : Pt → Array Value → Option Value → Pt → Prop) (PostX : Pt → Array Value → Addr → Pt → Prop) : Prop :=
  ∀ (m : MethodId) (meth : Method) (c : Code) (A : Pt) (g : JFrame) (ig : Instr) (mk : MethodId) (a : Array Value),
    Stand p l e R s m sargs below meth c A.U A.locs A.cells A.slots → g.method = m → g.locals.size = c.maxLocals → decode c.code g.pc = .ok (ig, len) →
    2 * g.monitorRoom + (g.stack.map fun v => v.category).sum ≤ W9 → A.U.methodNamed? y = some mk → Pre A a →
    (∃ (v : Option Value) (B : Pt), Stand p l e R s m sargs below meth c B.U B.locs B.cells B.slots ∧ Post A a v B ∧
      Steps p.tables e below (doInvoke e (A.U.setTop g) [] mk a).1 (B.U.setTop { g with pc := g.pc + len, stack := v.toList ++ g.stack })) ∨
    (∃ (q : Addr) (B : Pt), Stand p l e R s m sargs below meth c B.U B.locs B.cells B.slots ∧ PostX A a q B ∧
      Steps p.tables e below (doInvoke e (A.U.setTop g) [] mk a).1 ((B.U.setTop g).pushFrame (.throwing q)))
section Payer
variable {l : Launch} {R : Room} {p : Program} {e : Env} {below : List Frame} {s : State} {sargs : Array Value} {y : MethodName} {len W9 : Nat}
theorem vx_back {ws : List Cond} {rm : Room} {Pc : Array Value → State → Prop} {Qc : Array Value → State → Outcome → State → Prop} {XC : String → State → State → Prop} {mc ms : Nat} {free : Addr → Prop} {bytes : ByteArray} {maxL : Nat} {ret : Option FieldType}
    (hM : vx_Met l y ws rm Pc Qc XC mc ms free) (hblind : FrameBlind Pc) (hrc : rm.cells = mc) (hrs : rm.slots = ms)
    (hframes : rm.frames + 1 ≤ R.frames) (hlocals : W9 + (maxL + 11) + rm.locals ≤ R.locals)
    (hws : ∀ w ∈ ws, ∀ a' U, s.WarmedH U.vm → w.before a' U = true) (hcode : Cond.code y bytes maxL ret ∈ ws) (hinit : ∀ a' U, s.WarmedH U.vm → (Cond.initialized y.cls).before a' U = true) :
    vx_Back l R p e below s sargs y len W9 (PreOf R mc ms Pc) (PostOf Qc mc ms free) (vx_Post XC mc ms free) := by
  intro m meth c A g ig mk a X hg hsize hdg hW hn hp
  have h1 : (headSpec ws rm).pre.before a A.U = true := atoms_intro fun w hw => hws w hw _ _ X.warmed
  have h2 : (Cond.code y bytes maxL ret).before a A.U = true := hws _ hcode _ _ X.warmed
  have h3 : (Cond.initialized y.cls).before a A.U = true := hinit _ _ X.warmed
  have h4 : A.cells + (headSpec ws rm).room.cells ≤ R.cells := by rw [show (headSpec ws rm).room.cells = mc from hrc]; exact hp.1
  have h5 : A.slots + (headSpec ws rm).room.slots ≤ R.slots := by rw [show (headSpec ws rm).room.slots = ms from hrs]; exact hp.2.1
  have hPc : Pc a (A.U.calling g mk a) := hblind _ _ _ _ hp.2.2
  obtain ⟨U, Ls, c0, s0⟩ := A
  dsimp only [Pt.U, Pt.locs, Pt.cells, Pt.slots] at h1 h2 h3 h4 h5 X hn hPc ⊢
  obtain ⟨methY, cY, hmY, hcY, -, hlY, -, -, -, -⟩ := Cond.code_spec hn h2
  obtain ⟨kY, hkY, -⟩ := className_of_methodNamed hn
  have hinitY : kY.init = .initialized := Cond.initialized_spec (findClass_of_methodNamed hn) hkY h3
  have h : At U g.method c below := by rw [hg]; exact X.here
  have hlocals9 : W9 + (maxL + 11) + (headSpec ws rm).room.locals ≤ R.locals := hlocals
  have happ : (headSpec ws rm).appliesLoose y e.platform (U.calling g mk a) = true :=
    Spec.appliesLoose_calling (g := g) h hdg hn hkY hinitY
      (X.room_calling (g := g) (R' := (headSpec ws rm).room) hsize hmY hcY hframes (by rw [hlY]; omega) h4 h5) h1
  obtain ⟨mid, hmid⟩ := h.above
  have hfr : (U.setTop g).frames = (.java g :: mid) ++ below := by rw [State.frames_setTop' g h.top, hmid]; rfl
  obtain ⟨o, s₂, hsteps, -, hend, hq⟩ := Steps.callFree hM p X.admits X.cas X.clock (acts := []) hfr happ hPc trivial
  have hq' : vx_Q Qc XC mc ms free a (U.calling g mk a) o s₂ := hq
  rw [State.frames_setTop' g h.top] at hend
  obtain ⟨g₀, hg0⟩ := Option.isSome_iff_exists.mp h.top
  obtain ⟨r, hr⟩ := State.topJava?_eq_some.mp hg0
  have hr' : (({ U with heap := s₂.heap, slotsUsed := s₂.slotsUsed } : State).setVm s₂.vm).frames = .java g₀ :: r := hr
  rcases hq' with ⟨hqc, L, hfe, hL⟩ | ⟨q, rfl, E, ce, L, hx, hce, hcv, hcl, hW₂, hsm, hL⟩
  · obtain ⟨⟨v, rfl⟩, hW₂, e2, q2, q3, q4, q5, q6⟩ := id hfe
    have e3 : s₂ = ({ (U.calling g mk a).setFrames s₂.frames with heap := s₂.heap, slotsUsed := s₂.slotsUsed } : State).setVm s₂.vm := by
      have : s₂ = ({ s₂ with vm := (U.calling g mk a).vm } : State).setVm s₂.vm := rfl
      rw [e2] at this
      exact this
    obtain ⟨c₂, i₂, len₂, hc₂, hd₂, hf₂⟩ := hend
    have hW' : U.WarmedH s₂.vm := hW₂
    have hcc : c₂ = c := by
      have h1 : s₂.code? g.method = U.code? g.method := by
        rw [State.code?_eq, State.code?_eq, hW'.alike.method?]
      exact Option.some.inj (hc₂.symm.trans (h1.trans h.code))
    subst hcc
    have hlen : len₂ = len := by rw [hdg] at hd₂; cases hd₂; rfl
    subst hlen
    have hs₂ : s₂ = (({ U with heap := s₂.heap, slotsUsed := s₂.slotsUsed } : State).setVm s₂.vm).setTop { g with pc := g.pc + len₂, stack := v.toList ++ g.stack } := by
      refine e3.trans ?_
      rw [hf₂, State.calling_eq h.top, State.setFrames_setFrames, State.setTop_of_frames _ hr', hr]
      rfl
    have hsame : U.sameButNew ({ U with heap := s₂.heap, slotsUsed := s₂.slotsUsed } : State) L mc ms := by
      refine ⟨?_, q2, q3, q4, q5, q6⟩
      obtain ⟨t, ht, -⟩ := State.frames_cons hr
      show ({ U with heap := s₂.heap, slotsUsed := s₂.slotsUsed } : State) = { U.setFrames U.frames with heap := s₂.heap, slotsUsed := s₂.slotsUsed }
      rw [State.setFrames_self ht]
    subst hg
    refine Or.inl ⟨v, ⟨(({ U with heap := s₂.heap, slotsUsed := s₂.slotsUsed } : State).setVm s₂.vm), Ls ++ L, c0 + mc, s0 + ms⟩,
      ⟨X.admits, X.cas, X.clock, X.frames, X.room, X.hears, X.method, X.code, (X.here.setHeapUsed s₂.heap s₂.slotsUsed).setVm hW'.alike, X.tail, State.WarmedH.trans X.warmed hW', X.limits, X.bytes, X.same.trans (hsame.setVm s.vm)⟩,
      ⟨g, mk, s₂, L, rfl, rfl, hqc, rfl, hL, rfl, rfl⟩, ?_⟩
    show Steps p.tables e below _ ((({ U with heap := s₂.heap, slotsUsed := s₂.slotsUsed } : State).setVm s₂.vm).setTop { g with pc := g.pc + len₂, stack := v.toList ++ g.stack })
    rw [← hs₂]
    exact hsteps
  · obtain ⟨e2, q2, q3, q4, q5, q6⟩ := id hsm
    have e3 : s₂ = ({ (U.calling g mk a).setFrames s₂.frames with heap := s₂.heap, slotsUsed := s₂.slotsUsed } : State).setVm s₂.vm := by
      have : s₂ = ({ s₂ with vm := (U.calling g mk a).vm } : State).setVm s₂.vm := rfl
      rw [e2] at this
      exact this
    have hf₂ : s₂.frames = .throwing q :: .java g :: U.frames.tail := hend
    have hW' : U.WarmedH s₂.vm := hW₂
    have hs₂ : s₂ = ((({ U with heap := s₂.heap, slotsUsed := s₂.slotsUsed } : State).setVm s₂.vm).setTop g).pushFrame (.throwing q) := by
      refine e3.trans ?_
      rw [hf₂, State.calling_eq h.top, State.setFrames_setFrames, State.pushFrame, State.frames_setTop _ hr', State.setTop_of_frames _ hr', State.setFrames_setFrames, hr]
      rfl
    have hsame : U.sameButNew ({ U with heap := s₂.heap, slotsUsed := s₂.slotsUsed } : State) L mc ms := by
      refine ⟨?_, q2, q3, q4, q5, q6⟩
      obtain ⟨t, ht, -⟩ := State.frames_cons hr
      show ({ U with heap := s₂.heap, slotsUsed := s₂.slotsUsed } : State) = { U.setFrames U.frames with heap := s₂.heap, slotsUsed := s₂.slotsUsed }
      rw [State.setFrames_self ht]
    subst hg
    refine Or.inr ⟨q, ⟨(({ U with heap := s₂.heap, slotsUsed := s₂.slotsUsed } : State).setVm s₂.vm), Ls ++ L, c0 + mc, s0 + ms⟩,
      ⟨X.admits, X.cas, X.clock, X.frames, X.room, X.hears, X.method, X.code, (X.here.setHeapUsed s₂.heap s₂.slotsUsed).setVm hW'.alike, X.tail, State.WarmedH.trans X.warmed hW', X.limits, X.bytes, X.same.trans (hsame.setVm s.vm)⟩,
      ⟨g, mk, s₂, L, E, ce, rfl, rfl, hx, hce, hcv, hcl, rfl, hL, rfl, rfl⟩, ?_⟩
    show Steps p.tables e below _ (((({ U with heap := s₂.heap, slotsUsed := s₂.slotsUsed } : State).setVm s₂.vm).setTop g).pushFrame (.throwing q))
    rw [← hs₂]
    exact hsteps
end Payer
section Calls
variable {p : Program} {l : Launch} {e : Env} {R : Room} {s : State} {m : MethodId} {args : Array Value} {below : List Frame} {meth : Method} {c : Code} {T : State} {locs : List Loc} {cells slots : Nat}
theorem vx_callV (X : Stand p l e R s m args below meth c T locs cells slots) (hexec : p.tables.exec = Jvm.exec) {own C : String} {index : Nat} {y : MethodName} {bytes : ByteArray} {maxL : Nat} {ret : Option FieldType}
    (hown : s.vm.findClass own = some m.cls) (hlink : (Cond.methodLink own index y).before args s = true) (hinst : (Cond.instanceMethod y).before args s = true) (hsel : (Cond.selects C y y).before args s = true)
    (hcode : (Cond.code y bytes maxL ret).before args s = true) (hy : y.cls ≠ "java/lang/invoke/MethodHandle" ∧ y.cls ≠ "java/lang/invoke/VarHandle")
    {W9 : Nat} {Pre : Pt → Array Value → Prop} {Post : Pt → Array Value → Option Value → Pt → Prop} {PostX : Pt → Array Value → Addr → Pt → Prop} (hK : vx_Back l R p e below s args y 3 W9 Pre Post PostX)
    {b : Addr} {cellB : Cell} (hcell : T.heap[b]? = some cellB) (hobj : cellB.vm.isStatics = false) (hcls : s.vm.findClass C = some cellB.cls)
    {g : JFrame} (hg : g.method = m) (hsize : g.locals.size = c.maxLocals) {argsL rest : List Value} (hlen : ∀ sig, parseMethodDescriptor y.desc = some sig → argsL.length = sig.parameters.length)
    (hstack : g.stack = argsL.reverse ++ .ref b :: rest) (hW : 2 * g.monitorRoom + (rest.map fun v => v.category).sum ≤ W9) (hdg : decode c.code g.pc = .ok (.invokevirtual index, 3))
    (hpre : ∀ vm₁, s.WarmedH vm₁ → Pre ⟨T.setVm vm₁, locs, cells, slots⟩ (Value.ref b :: argsL).toArray) :
    (∃ (v : Option Value) (vm₁ : Vm) (B : Pt), s.WarmedH vm₁ ∧ Stand p l e R s m args below meth c B.U B.locs B.cells B.slots ∧ Post ⟨T.setVm vm₁, locs, cells, slots⟩ (Value.ref b :: argsL).toArray v B ∧
      ∀ target, Steps p.tables e below (B.U.setTop { g with pc := g.pc + 3, stack := v.toList ++ rest }) target → Steps p.tables e below (T.setTop g) target) ∨
    (∃ (q : Addr) (vm₁ : Vm) (B : Pt), s.WarmedH vm₁ ∧ Stand p l e R s m args below meth c B.U B.locs B.cells B.slots ∧ PostX ⟨T.setVm vm₁, locs, cells, slots⟩ (Value.ref b :: argsL).toArray q B ∧
      Steps p.tables e below (T.setTop g) ((B.U.setTop { g with stack := rest }).pushFrame (.throwing q))) := by
  obtain ⟨mk, methM, hnamed, hmethM, hstM, habM⟩ := Cond.instanceMethod_spec hinst
  obtain ⟨methM', cM, hmethM', -, -, -, -, -, -, hsigM⟩ := Cond.code_spec hnamed hcode
  cases hmethM.symm.trans hmethM'
  obtain ⟨c2, r2, m2, q1, q2, q3, q4, kP, hkP, hkPi⟩ := Cond.selects_spec hsel
  cases hcls.symm.trans q1
  cases (State.methodFound?_of_named hnamed hy).symm.trans q2
  cases hnamed.symm.trans q3
  have hselP : selectMethod e.platform s.vm cellB.cls mk = .method mk := by rw [Launch.admits_selectMethod X.admits]; exact q4
  obtain ⟨vm₁, X₁, hstep₁⟩ := X.invokevirtual hexec hown hlink hnamed hmethM hstM hkP hkPi hy (a := b) (cell := cellB) hcell
    (fun z h => by rw [h] at hobj; cases hobj) hselP hmethM habM hkP hkPi (g := g) hg (argsL := argsL) (rest := rest) (hlen _ hsigM) hstack hdg
  rcases hK m meth c ⟨T.setVm vm₁, locs, cells, slots⟩ { g with stack := rest } (.invokevirtual index) mk (Value.ref b :: argsL).toArray X₁ hg hsize hdg hW (X₁.named hnamed) (hpre vm₁ X₁.warmed) with ⟨v, B, X', hpost, hsteps⟩ | ⟨q, B, X', hpost, hsteps⟩
  · exact Or.inl ⟨v, vm₁, B, X₁.warmed, X', hpost, fun target h => hstep₁ _ fun acts => by rw [doInvoke_state]; exact hsteps.trans h⟩
  · exact Or.inr ⟨q, vm₁, B, X₁.warmed, X', hpost, hstep₁ _ fun acts => by rw [doInvoke_state]; exact hsteps⟩
theorem vx_callS (X : Stand p l e R s m args below meth c T locs cells slots) (hexec : p.tables.exec = Jvm.exec) {own : String} {index : Nat} {y : MethodName} {bytes : ByteArray} {maxL : Nat} {ret : Option FieldType}
    (hown : s.vm.findClass own = some m.cls) (hlink : (Cond.methodLink own index y).before args s = true) (hstat : (Cond.static y).before args s = true) (hinit : (Cond.initialized y.cls).before args s = true)
    (hcode : (Cond.code y bytes maxL ret).before args s = true) (hy : y.cls ≠ "java/lang/invoke/MethodHandle" ∧ y.cls ≠ "java/lang/invoke/VarHandle")
    {W9 : Nat} {Pre : Pt → Array Value → Prop} {Post : Pt → Array Value → Option Value → Pt → Prop} {PostX : Pt → Array Value → Addr → Pt → Prop} (hK : vx_Back l R p e below s args y 3 W9 Pre Post PostX)
    {g : JFrame} (hg : g.method = m) (hsize : g.locals.size = c.maxLocals) {argsL rest : List Value} (hlen : ∀ sig, parseMethodDescriptor y.desc = some sig → argsL.length = sig.parameters.length)
    (hstack : g.stack = argsL.reverse ++ rest) (hW : 2 * g.monitorRoom + (rest.map fun v => v.category).sum ≤ W9) (hdg : decode c.code g.pc = .ok (.invokestatic index, 3))
    (hpre : ∀ vm₁, s.WarmedH vm₁ → Pre ⟨T.setVm vm₁, locs, cells, slots⟩ argsL.toArray) :
    (∃ (v : Option Value) (vm₁ : Vm) (B : Pt), s.WarmedH vm₁ ∧ Stand p l e R s m args below meth c B.U B.locs B.cells B.slots ∧ Post ⟨T.setVm vm₁, locs, cells, slots⟩ argsL.toArray v B ∧
      ∀ target, Steps p.tables e below (B.U.setTop { g with pc := g.pc + 3, stack := v.toList ++ rest }) target → Steps p.tables e below (T.setTop g) target) ∨
    (∃ (q : Addr) (vm₁ : Vm) (B : Pt), s.WarmedH vm₁ ∧ Stand p l e R s m args below meth c B.U B.locs B.cells B.slots ∧ PostX ⟨T.setVm vm₁, locs, cells, slots⟩ argsL.toArray q B ∧
      Steps p.tables e below (T.setTop g) ((B.U.setTop { g with stack := rest }).pushFrame (.throwing q))) := by
  obtain ⟨mk, hnamed⟩ := Cond.code_named hcode
  obtain ⟨methM, cM, hmethM, -, -, -, -, -, -, hsigM⟩ := Cond.code_spec hnamed hcode
  have hstatic : methM.isStatic = true := Cond.static_spec hnamed hmethM hstat
  obtain ⟨kP, hkP, -⟩ := className_of_methodNamed hnamed
  have hinitP : kP.init = .initialized := Cond.initialized_spec (findClass_of_methodNamed hnamed) hkP hinit
  obtain ⟨vm₁, X₁, hstep₁⟩ := X.invokestatic hexec hown hlink hnamed hmethM hstatic hkP hinitP hy (g := g) hg (argsL := argsL) (rest := rest) (hlen _ hsigM) hstack hdg
  rcases hK m meth c ⟨T.setVm vm₁, locs, cells, slots⟩ { g with stack := rest } (.invokestatic index) mk argsL.toArray X₁ hg hsize hdg hW (X₁.named hnamed) (hpre vm₁ X₁.warmed) with ⟨v, B, X', hpost, hsteps⟩ | ⟨q, B, X', hpost, hsteps⟩
  · exact Or.inl ⟨v, vm₁, B, X₁.warmed, X', hpost, fun target h => hstep₁ _ fun acts => by rw [doInvoke_state]; exact hsteps.trans h⟩
  · exact Or.inr ⟨q, vm₁, B, X₁.warmed, X', hpost, hstep₁ _ fun acts => by rw [doInvoke_state]; exact hsteps⟩
end Calls
theorem vx_cls {s : State} {T : State} {vm₁ : Vm} {E : String} {k : ClassId} (hW : s.WarmedH vm₁) (h : (T.setVm vm₁).vm.findClass E = some k) : s.vm.findClass E = some k := by
  have h1 : vm₁.findClass E = some k := h
  rw [hW.alike.findClass] at h1
  exact h1
/-- the method's frame g, with q thrown over it -/
def vx_W (p : Program) (l : Launch) (e : Env) (R : Room) (s : State) (m : MethodId) (args : Array Value) (below : List Frame) (meth : Method) (c : Code) (H : Heap) (locs : List Loc) (cells slots : Nat) (Q : State → Prop) (g : JFrame) (q : Addr) : Prop :=
  ∀ T : State, T.heap = H → Stand p l e R s m args below meth c T locs cells slots → ∃ t, Steps p.tables e below ((T.setTop g).pushFrame (.throwing q)) t ∧ Q t
def vx_Run (p : Program) (l : Launch) (e : Env) (R : Room) (s : State) (m : MethodId) (args : Array Value) (below : List Frame) (meth : Method) (c : Code) (H : Heap) (locs : List Loc) (cells slots mc ms : Nat) (g : JFrame) (rest : List Value) (Qa : State → Outcome → State → Prop) (XC : String → State → State → Prop) (free : Addr → Prop) : Prop :=
  ∀ T : State, T.heap = H → Stand p l e R s m args below meth c T locs cells slots →
    (∃ (v : Option Value) (st₀ t T' : State) (L : List Loc), st₀.heap = H ∧ Stand p l e R s m args below meth c T' (locs ++ L) (cells + mc) (slots + ms) ∧ (∀ q ∈ L, free q.base) ∧ T'.heap = t.heap ∧ T'.vm = t.vm ∧ Qa st₀ (.returned v) t ∧
      Goes p e below T g T' { g with pc := g.pc + 3, stack := v.toList ++ rest }) ∨
    (∃ (q : Addr) (st₀ t T' : State) (L : List Loc) (E : String) (ce : Cell), st₀.heap = H ∧ Stand p l e R s m args below meth c T' (locs ++ L) (cells + mc) (slots + ms) ∧ (∀ z ∈ L, free z.base) ∧ T'.heap = t.heap ∧ T'.vm = t.vm ∧ XC E st₀ t ∧ t.heap[q]? = some ce ∧ ce.vm = .none ∧ s.vm.findClass E = some ce.cls ∧
      Steps p.tables e below (T.setTop g) ((T'.setTop { g with stack := rest }).pushFrame (.throwing q)))
def vx_X {S : Type} (px : S → Prop) (B : String → S → State → Prop) (A : Nat → Prop) : String → State → State → Prop := fun E st t => ∃ u : S, px u ∧ B E u t ∧ va_F A st t
section Runs
variable {p : Program} {l : Launch} {e : Env} {R : Room} {s : State} {m : MethodId} {args : Array Value} {below : List Frame} {meth : Method} {c : Code} {H : Heap} {locs : List Loc} {cells slots : Nat}
variable {y : MethodName} {bytes cc : ByteArray} {maxL nL mc ms n index : Nat} {ret : Option FieldType} {ws : List Cond} {rm : Room} {Pc : Array Value → State → Prop} {Qc : Array Value → State → Outcome → State → Prop} {XC : String → State → State → Prop} {free : Addr → Prop} {Ts : List Cond} {own C : String} {b : Addr} {As rest : List Value} {g : JFrame}
theorem vx_callBack (cb : CallB R s args own index y bytes maxL ret ws rm mc ms n) (hM : vx_Met l y ws rm Pc Qc XC mc ms free) (hbl : FrameBlind Pc) : vx_Back l R p e below s args y 3 8 (PreOf R mc ms Pc) (PostOf Qc mc ms free) (vx_Post XC mc ms free) := by
  obtain ⟨hrc, hrs, hfr, hlo, hws, hcw, -, hini, -⟩ := cb
  exact vx_back (bytes := bytes) (maxL := maxL) (ret := ret) hM hbl hrc hrs hfr hlo hws hcw (fun a' U hW => word_at hW (Or.inl (by first | rfl | simp [Cond.onTables, Cond.keeps, Cond.steady])) hini)
theorem vx_runV (S : CallFix p m c cc nL s args Ts own) (hM : vx_Met l y ws rm Pc Qc XC mc ms free) (cw : CallW R s args own C index y bytes maxL ret ws rm mc ms n) (hp : PreV s H C b Pc As)
    (hg : g.method = m) (hn : As.length = n) (hsize : g.locals.size = nL) (hstack : g.stack = As.reverse ++ .ref b :: rest) (hW : 2 * g.monitorRoom + (rest.map fun v => v.category).sum ≤ 8) (hdg : decode cc g.pc = .ok (.invokevirtual index, 3)) (hf : cells + mc ≤ R.cells ∧ slots + ms ≤ R.slots) :
    vx_Run p l e R s m args below meth c H locs cells slots mc ms g rest (Qc (Value.ref b :: As).toArray) XC free := by
  have hK : vx_Back l R p e below s args y 3 8 (PreOf R mc ms Pc) (PostOf Qc mc ms free) (vx_Post XC mc ms free) := vx_callBack cw.1 hM hp.1
  obtain ⟨⟨-, -, -, -, -, -, hcode, -, hy, hlen, hl⟩, hin, hse⟩ := cw
  obtain ⟨hx, hb, hml, ho, -⟩ := S
  obtain ⟨-, ⟨cellB, hcB, hoB, hclB⟩, hPc⟩ := hp
  intro T hT X
  rcases vx_callV X hx (C := C) (bytes := bytes) (maxL := maxL) (ret := ret) ho hl hin hse hcode hy hK (by rw [hT]; exact hcB) hoB hclB hg (hsize.trans hml.symm) (argsL := As) (rest := rest) (fun sig h => hn.trans (hlen sig h)) hstack hW (by rw [hb]; exact hdg)
    (fun vm₁ hW₁ => ⟨hf.1, hf.2, hPc (T.setVm vm₁) hT hW₁⟩) with ⟨v, vm₁, ⟨U', l2, c2, s2⟩, hW₁, X', ⟨g', mk, t, L, e1, e2, hq, h1, hL, h2, h3⟩, st⟩ | ⟨q, vm₁, ⟨U', l2, c2, s2⟩, hW₁, X', ⟨g', mk, t, L, E, ce, e1, e2, hq, hce, hcv, hcl, h1, hL, h2, h3⟩, st⟩
  · dsimp only [Pt.U, Pt.locs, Pt.cells, Pt.slots] at X' e1 e2 h1 h2 h3 st
    subst h1; subst h2; subst h3
    exact Or.inl ⟨v, (T.setVm vm₁).calling g' mk (Value.ref b :: As).toArray, t, U', L, hT, X', hL, e1, e2, hq, st⟩
  · dsimp only [Pt.U, Pt.locs, Pt.cells, Pt.slots] at X' e1 e2 h1 h2 h3 st hcl
    subst h1; subst h2; subst h3
    exact Or.inr ⟨q, (T.setVm vm₁).calling g' mk (Value.ref b :: As).toArray, t, U', L, E, ce, hT, X', hL, e1, e2, hq, hce, hcv, vx_cls hW₁ hcl, st⟩
theorem vx_runS (S : CallFix p m c cc nL s args Ts own) (hM : vx_Met l y ws rm Pc Qc XC mc ms free) (cw : CallB R s args own index y bytes maxL ret ws rm mc ms n ∧ (Cond.static y).before args s = true) (hp : PreS s H Pc As)
    (hg : g.method = m) (hn : As.length = n) (hsize : g.locals.size = nL) (hstack : g.stack = As.reverse ++ rest) (hW : 2 * g.monitorRoom + (rest.map fun v => v.category).sum ≤ 8) (hdg : decode cc g.pc = .ok (.invokestatic index, 3)) (hf : cells + mc ≤ R.cells ∧ slots + ms ≤ R.slots) :
    vx_Run p l e R s m args below meth c H locs cells slots mc ms g rest (Qc As.toArray) XC free := by
  have hK : vx_Back l R p e below s args y 3 8 (PreOf R mc ms Pc) (PostOf Qc mc ms free) (vx_Post XC mc ms free) := vx_callBack cw.1 hM hp.1
  obtain ⟨⟨-, -, -, -, -, -, hcode, hini, hy, hlen, hl⟩, hstt⟩ := cw
  obtain ⟨hx, hb, hml, ho, -⟩ := S
  intro T hT X
  rcases vx_callS X hx (bytes := bytes) (maxL := maxL) (ret := ret) ho hl hstt hini hcode hy hK hg (hsize.trans hml.symm) (argsL := As) (rest := rest) (fun sig h => hn.trans (hlen sig h)) hstack hW (by rw [hb]; exact hdg)
    (fun vm₁ hW₁ => ⟨hf.1, hf.2, hp.2 (T.setVm vm₁) hT hW₁⟩) with ⟨v, vm₁, ⟨U', l2, c2, s2⟩, hW₁, X', ⟨g', mk, t, L, e1, e2, hq, h1, hL, h2, h3⟩, st⟩ | ⟨q, vm₁, ⟨U', l2, c2, s2⟩, hW₁, X', ⟨g', mk, t, L, E, ce, e1, e2, hq, hce, hcv, hcl, h1, hL, h2, h3⟩, st⟩
  · dsimp only [Pt.U, Pt.locs, Pt.cells, Pt.slots] at X' e1 e2 h1 h2 h3 st
    subst h1; subst h2; subst h3
    exact Or.inl ⟨v, (T.setVm vm₁).calling g' mk As.toArray, t, U', L, hT, X', hL, e1, e2, hq, st⟩
  · dsimp only [Pt.U, Pt.locs, Pt.cells, Pt.slots] at X' e1 e2 h1 h2 h3 st hcl
    subst h1; subst h2; subst h3
    exact Or.inr ⟨q, (T.setVm vm₁).calling g' mk As.toArray, t, U', L, E, ce, hT, X', hL, e1, e2, hq, hce, hcv, vx_cls hW₁ hcl, st⟩
end Runs
section Rows
variable {p : Program} {l : Launch} {e : Env} {R : Room} {s : State} {m : MethodId} {args : Array Value} {below : List Frame} {meth : Method} {c : Code} {H : Heap} {locs : List Loc} {cells slots : Nat} {Q : State → Prop}
variable {mc ms : Nat} {free : Addr → Prop} {A0 A1 : Nat → Prop} {H0 : Heap} {a : Array Value} {pc : Nat} {ls : Array Slot} {st0 rest : List Value}
theorem vx_keep {st₀ t T' : State} {L : List Loc} (h0 : st₀.heap = H) (e1 : T'.heap = t.heap) (hS : va_S A0 H0 H locs) (hA : ∀ q, q < H.size → A1 q → A0 q) (hf : ∀ q, free q → A0 q) (hL : ∀ q ∈ L, free q.base) (hF : va_F A1 st₀ t) :
    H.size ≤ T'.heap.size ∧ (∀ q : Nat, q < H.size → ¬ A1 q → T'.heap[q]? = H[q]?) ∧ va_S A0 H0 T'.heap (locs ++ L) := by
  obtain ⟨hz, hk⟩ := hF
  rw [h0] at hz hk
  exact ⟨by rw [e1]; exact hz, fun q h1 h2 => by rw [e1]; exact hk q h1 h2,
    ⟨Nat.le_trans hS.1 (by rw [e1]; exact hz), fun q h1 h2 => by rw [e1, hk q (Nat.lt_of_lt_of_le h1 hS.1) (fun z => h2 (hA q (Nat.lt_of_lt_of_le h1 hS.1) z))]; exact hS.2.1 q h1 h2, fun q hq => by
      rcases List.mem_append.mp hq with h | h
      · exact hS.2.2 q h
      · exact hf _ (hL q h)⟩⟩
theorem vx_calli {S SX : Type} {post : Int32 → S → Prop} {px : SX → Prop} {B : S → State → Prop} {BX : String → SX → State → Prop} {AX : Nat → Prop} (hr : vx_Run p l e R s m args below meth c H locs cells slots mc ms (F0 m pc ls st0) rest (va_Qi post B A1 a) (vx_X px BX AX) free) (hS : va_S A0 H0 H locs) (hA : ∀ q, q < H.size → A1 q → A0 q) (hf : ∀ q, free q → A0 q) (hAX : ∀ q, q < H.size → AX q → A0 q)
    (kx : ∀ (E : String) (ce : Cell) (q9 : Addr) (u : SX) (t : State) (H1 : Heap) (locs1 : List Loc), t.heap = H1 → s.vm.Alike t.vm → px u → BX E u t → H.size ≤ H1.size → (∀ q : Nat, q < H.size → ¬ AX q → H1[q]? = H[q]?) → va_S A0 H0 H1 locs1 → H1[q9]? = some ce → ce.vm = .none → s.vm.findClass E = some ce.cls → vx_W p l e R s m args below meth c H1 locs1 (cells + mc) (slots + ms) Q (F0 m pc ls rest) q9)
    (kk : ∀ (r : Int32) (u : S) (t : State) (H1 : Heap) (locs1 : List Loc), t.heap = H1 → s.vm.Alike t.vm → post r u → B u t → H.size ≤ H1.size → (∀ q : Nat, q < H.size → ¬ A1 q → H1[q]? = H[q]?) → va_S A0 H0 H1 locs1 → W p l e R s m args below meth c H1 locs1 (cells + mc) (slots + ms) Q (F0 m (pc + 3) ls (.int r :: rest))) : W p l e R s m args below meth c H locs cells slots Q (F0 m pc ls st0) := by
  intro T hT X
  rcases hr T hT X with ⟨v, st₀, t, T', L, h0, X', hL, e1, e2, ⟨⟨r, u, hv, hp, hb⟩, hF⟩, st⟩ | ⟨q, st₀, t, T', L, E, ce, h0, X', hL, e1, e2, ⟨u, hp, hb, hF⟩, hce, hcv, hcl, st⟩
  · cases hv
    obtain ⟨k1, k2, k3⟩ := vx_keep h0 e1 hS hA hf hL hF
    obtain ⟨t2, a1, b1⟩ := kk r u t T'.heap (locs ++ L) e1.symm (by rw [← e2]; exact X'.warmed.alike) hp hb k1 k2 k3 T' rfl X'
    exact ⟨t2, st t2 a1, b1⟩
  · obtain ⟨k1, k2, k3⟩ := vx_keep h0 e1 hS hAX hf hL hF
    obtain ⟨t2, a1, b1⟩ := kx E ce q u t T'.heap (locs ++ L) e1.symm (by rw [← e2]; exact X'.warmed.alike) hp hb k1 k2 k3 (by rw [e1]; exact hce) hcv hcl T' rfl X'
    exact ⟨t2, st.trans a1, b1⟩
theorem vx_calll {S SX : Type} {post : Int64 → S → Prop} {px : SX → Prop} {B : S → State → Prop} {BX : String → SX → State → Prop} {AX : Nat → Prop} (hr : vx_Run p l e R s m args below meth c H locs cells slots mc ms (F0 m pc ls st0) rest (va_Ql post B A1 a) (vx_X px BX AX) free) (hS : va_S A0 H0 H locs) (hA : ∀ q, q < H.size → A1 q → A0 q) (hf : ∀ q, free q → A0 q) (hAX : ∀ q, q < H.size → AX q → A0 q)
    (kx : ∀ (E : String) (ce : Cell) (q9 : Addr) (u : SX) (t : State) (H1 : Heap) (locs1 : List Loc), t.heap = H1 → s.vm.Alike t.vm → px u → BX E u t → H.size ≤ H1.size → (∀ q : Nat, q < H.size → ¬ AX q → H1[q]? = H[q]?) → va_S A0 H0 H1 locs1 → H1[q9]? = some ce → ce.vm = .none → s.vm.findClass E = some ce.cls → vx_W p l e R s m args below meth c H1 locs1 (cells + mc) (slots + ms) Q (F0 m pc ls rest) q9)
    (kk : ∀ (r : Int64) (u : S) (t : State) (H1 : Heap) (locs1 : List Loc), t.heap = H1 → s.vm.Alike t.vm → post r u → B u t → H.size ≤ H1.size → (∀ q : Nat, q < H.size → ¬ A1 q → H1[q]? = H[q]?) → va_S A0 H0 H1 locs1 → W p l e R s m args below meth c H1 locs1 (cells + mc) (slots + ms) Q (F0 m (pc + 3) ls (.long r :: rest))) : W p l e R s m args below meth c H locs cells slots Q (F0 m pc ls st0) := by
  intro T hT X
  rcases hr T hT X with ⟨v, st₀, t, T', L, h0, X', hL, e1, e2, ⟨⟨r, u, hv, hp, hb⟩, hF⟩, st⟩ | ⟨q, st₀, t, T', L, E, ce, h0, X', hL, e1, e2, ⟨u, hp, hb, hF⟩, hce, hcv, hcl, st⟩
  · cases hv
    obtain ⟨k1, k2, k3⟩ := vx_keep h0 e1 hS hA hf hL hF
    obtain ⟨t2, a1, b1⟩ := kk r u t T'.heap (locs ++ L) e1.symm (by rw [← e2]; exact X'.warmed.alike) hp hb k1 k2 k3 T' rfl X'
    exact ⟨t2, st t2 a1, b1⟩
  · obtain ⟨k1, k2, k3⟩ := vx_keep h0 e1 hS hAX hf hL hF
    obtain ⟨t2, a1, b1⟩ := kx E ce q u t T'.heap (locs ++ L) e1.symm (by rw [← e2]; exact X'.warmed.alike) hp hb k1 k2 k3 (by rw [e1]; exact hce) hcv hcl T' rfl X'
    exact ⟨t2, st.trans a1, b1⟩
theorem vx_callf {S SX : Type} {post : UInt32 → S → Prop} {px : SX → Prop} {B : S → State → Prop} {BX : String → SX → State → Prop} {AX : Nat → Prop} (hr : vx_Run p l e R s m args below meth c H locs cells slots mc ms (F0 m pc ls st0) rest (va_Qf post B A1 a) (vx_X px BX AX) free) (hS : va_S A0 H0 H locs) (hA : ∀ q, q < H.size → A1 q → A0 q) (hf : ∀ q, free q → A0 q) (hAX : ∀ q, q < H.size → AX q → A0 q)
    (kx : ∀ (E : String) (ce : Cell) (q9 : Addr) (u : SX) (t : State) (H1 : Heap) (locs1 : List Loc), t.heap = H1 → s.vm.Alike t.vm → px u → BX E u t → H.size ≤ H1.size → (∀ q : Nat, q < H.size → ¬ AX q → H1[q]? = H[q]?) → va_S A0 H0 H1 locs1 → H1[q9]? = some ce → ce.vm = .none → s.vm.findClass E = some ce.cls → vx_W p l e R s m args below meth c H1 locs1 (cells + mc) (slots + ms) Q (F0 m pc ls rest) q9)
    (kk : ∀ (r : UInt32) (u : S) (t : State) (H1 : Heap) (locs1 : List Loc), t.heap = H1 → s.vm.Alike t.vm → post r u → B u t → H.size ≤ H1.size → (∀ q : Nat, q < H.size → ¬ A1 q → H1[q]? = H[q]?) → va_S A0 H0 H1 locs1 → W p l e R s m args below meth c H1 locs1 (cells + mc) (slots + ms) Q (F0 m (pc + 3) ls (.float r :: rest))) : W p l e R s m args below meth c H locs cells slots Q (F0 m pc ls st0) := by
  intro T hT X
  rcases hr T hT X with ⟨v, st₀, t, T', L, h0, X', hL, e1, e2, ⟨⟨r, u, hv, hp, hb⟩, hF⟩, st⟩ | ⟨q, st₀, t, T', L, E, ce, h0, X', hL, e1, e2, ⟨u, hp, hb, hF⟩, hce, hcv, hcl, st⟩
  · cases hv
    obtain ⟨k1, k2, k3⟩ := vx_keep h0 e1 hS hA hf hL hF
    obtain ⟨t2, a1, b1⟩ := kk r u t T'.heap (locs ++ L) e1.symm (by rw [← e2]; exact X'.warmed.alike) hp hb k1 k2 k3 T' rfl X'
    exact ⟨t2, st t2 a1, b1⟩
  · obtain ⟨k1, k2, k3⟩ := vx_keep h0 e1 hS hAX hf hL hF
    obtain ⟨t2, a1, b1⟩ := kx E ce q u t T'.heap (locs ++ L) e1.symm (by rw [← e2]; exact X'.warmed.alike) hp hb k1 k2 k3 (by rw [e1]; exact hce) hcv hcl T' rfl X'
    exact ⟨t2, st.trans a1, b1⟩
theorem vx_calld {S SX : Type} {post : UInt64 → S → Prop} {px : SX → Prop} {B : S → State → Prop} {BX : String → SX → State → Prop} {AX : Nat → Prop} (hr : vx_Run p l e R s m args below meth c H locs cells slots mc ms (F0 m pc ls st0) rest (va_Qd post B A1 a) (vx_X px BX AX) free) (hS : va_S A0 H0 H locs) (hA : ∀ q, q < H.size → A1 q → A0 q) (hf : ∀ q, free q → A0 q) (hAX : ∀ q, q < H.size → AX q → A0 q)
    (kx : ∀ (E : String) (ce : Cell) (q9 : Addr) (u : SX) (t : State) (H1 : Heap) (locs1 : List Loc), t.heap = H1 → s.vm.Alike t.vm → px u → BX E u t → H.size ≤ H1.size → (∀ q : Nat, q < H.size → ¬ AX q → H1[q]? = H[q]?) → va_S A0 H0 H1 locs1 → H1[q9]? = some ce → ce.vm = .none → s.vm.findClass E = some ce.cls → vx_W p l e R s m args below meth c H1 locs1 (cells + mc) (slots + ms) Q (F0 m pc ls rest) q9)
    (kk : ∀ (r : UInt64) (u : S) (t : State) (H1 : Heap) (locs1 : List Loc), t.heap = H1 → s.vm.Alike t.vm → post r u → B u t → H.size ≤ H1.size → (∀ q : Nat, q < H.size → ¬ A1 q → H1[q]? = H[q]?) → va_S A0 H0 H1 locs1 → W p l e R s m args below meth c H1 locs1 (cells + mc) (slots + ms) Q (F0 m (pc + 3) ls (.double r :: rest))) : W p l e R s m args below meth c H locs cells slots Q (F0 m pc ls st0) := by
  intro T hT X
  rcases hr T hT X with ⟨v, st₀, t, T', L, h0, X', hL, e1, e2, ⟨⟨r, u, hv, hp, hb⟩, hF⟩, st⟩ | ⟨q, st₀, t, T', L, E, ce, h0, X', hL, e1, e2, ⟨u, hp, hb, hF⟩, hce, hcv, hcl, st⟩
  · cases hv
    obtain ⟨k1, k2, k3⟩ := vx_keep h0 e1 hS hA hf hL hF
    obtain ⟨t2, a1, b1⟩ := kk r u t T'.heap (locs ++ L) e1.symm (by rw [← e2]; exact X'.warmed.alike) hp hb k1 k2 k3 T' rfl X'
    exact ⟨t2, st t2 a1, b1⟩
  · obtain ⟨k1, k2, k3⟩ := vx_keep h0 e1 hS hAX hf hL hF
    obtain ⟨t2, a1, b1⟩ := kx E ce q u t T'.heap (locs ++ L) e1.symm (by rw [← e2]; exact X'.warmed.alike) hp hb k1 k2 k3 (by rw [e1]; exact hce) hcv hcl T' rfl X'
    exact ⟨t2, st.trans a1, b1⟩
theorem vx_callv {S SX : Type} {post : S → Prop} {px : SX → Prop} {B : S → State → Prop} {BX : String → SX → State → Prop} {AX : Nat → Prop} (hr : vx_Run p l e R s m args below meth c H locs cells slots mc ms (F0 m pc ls st0) rest (va_Qv post B A1 a) (vx_X px BX AX) free) (hS : va_S A0 H0 H locs) (hA : ∀ q, q < H.size → A1 q → A0 q) (hf : ∀ q, free q → A0 q) (hAX : ∀ q, q < H.size → AX q → A0 q)
    (kx : ∀ (E : String) (ce : Cell) (q9 : Addr) (u : SX) (t : State) (H1 : Heap) (locs1 : List Loc), t.heap = H1 → s.vm.Alike t.vm → px u → BX E u t → H.size ≤ H1.size → (∀ q : Nat, q < H.size → ¬ AX q → H1[q]? = H[q]?) → va_S A0 H0 H1 locs1 → H1[q9]? = some ce → ce.vm = .none → s.vm.findClass E = some ce.cls → vx_W p l e R s m args below meth c H1 locs1 (cells + mc) (slots + ms) Q (F0 m pc ls rest) q9)
    (kk : ∀ (u : S) (t : State) (H1 : Heap) (locs1 : List Loc), t.heap = H1 → s.vm.Alike t.vm → post u → B u t → H.size ≤ H1.size → (∀ q : Nat, q < H.size → ¬ A1 q → H1[q]? = H[q]?) → va_S A0 H0 H1 locs1 → W p l e R s m args below meth c H1 locs1 (cells + mc) (slots + ms) Q (F0 m (pc + 3) ls (rest))) : W p l e R s m args below meth c H locs cells slots Q (F0 m pc ls st0) := by
  intro T hT X
  rcases hr T hT X with ⟨v, st₀, t, T', L, h0, X', hL, e1, e2, ⟨⟨u, hv, hp, hb⟩, hF⟩, st⟩ | ⟨q, st₀, t, T', L, E, ce, h0, X', hL, e1, e2, ⟨u, hp, hb, hF⟩, hce, hcv, hcl, st⟩
  · cases hv
    obtain ⟨k1, k2, k3⟩ := vx_keep h0 e1 hS hA hf hL hF
    obtain ⟨t2, a1, b1⟩ := kk u t T'.heap (locs ++ L) e1.symm (by rw [← e2]; exact X'.warmed.alike) hp hb k1 k2 k3 T' rfl X'
    exact ⟨t2, st t2 a1, b1⟩
  · obtain ⟨k1, k2, k3⟩ := vx_keep h0 e1 hS hAX hf hL hF
    obtain ⟨t2, a1, b1⟩ := kx E ce q u t T'.heap (locs ++ L) e1.symm (by rw [← e2]; exact X'.warmed.alike) hp hb k1 k2 k3 (by rw [e1]; exact hce) hcv hcl T' rfl X'
    exact ⟨t2, st.trans a1, b1⟩
/-- caught by the row x of this method's table; the rows ahead don't take it -/
theorem vx_catch {own name : String} {E : String} {ce : Cell} {q : Addr} (hown : s.vm.findClass own = some m.cls) (pre : List ExceptionTableEntry) (x : ExceptionTableEntry) (suf : List ExceptionTableEntry) (hsplit : c.exceptionTable.toList = pre ++ x :: suf)
    (hpass : ∀ z ∈ pre, covers z pc = false ∨ (z.catchType ≠ 0 ∧ ∃ nm : String, (Cond.classLink own z.catchType nm).before args s = true ∧ va_Nc E nm s)) (hx : covers x pc = true) (h0 : x.catchType ≠ 0)
    (hlink : (Cond.classLink own x.catchType name).before args s = true) (hcast : (Cond.castable E name).before args s = true) (hcell : H[q]? = some ce) (hv : ce.vm = .none) (hcl : s.vm.findClass E = some ce.cls)
    (kk : W p l e R s m args below meth c H locs cells slots Q (F0 m x.handlerPc ls [.ref q])) : vx_W p l e R s m args below meth c H locs cells slots Q (F0 m pc ls rest) q := by
  intro T hT X
  have hpl : e.platform.magicAccessors = ({} : Platform).magicAccessors := by rw [X.admits.platform]
  obtain ⟨c3, c4, hc3, hc4, hasg⟩ := Cond.castable_spec hcast
  cases Option.some.inj (hc3.symm.trans hcl)
  obtain ⟨c5, hc5, hcl5⟩ := Cond.classLink_spec hown hlink e.platform hpl
  cases Option.some.inj (hc4.symm.trans hc5)
  obtain ⟨vm', X', st⟩ := X.thenCaughtThrough q (g := F0 m pc ls rest) rfl (Steps.refl _) (by rw [hT]; exact hcell) (by rw [hv]; rfl) (by obtain ⟨k9, h9, -⟩ := Vm.findClass_spec hcl; exact ⟨k9, h9⟩) pre x suf hsplit
    (fun z hz => by
      rcases hpass z hz with h | ⟨hz0, nm, hl1, hn1⟩
      · exact Or.inl h
      · obtain ⟨c6, hc6, hcl6⟩ := Cond.classLink_spec hown hl1 e.platform hpl
        obtain ⟨a8, b8, h1, h2, h3⟩ := hn1
        cases Option.some.inj (h1.symm.trans hcl)
        cases Option.some.inj (h2.symm.trans hc6)
        exact Or.inr ⟨hz0, _, hcl6, h3⟩) hx (Or.inr ⟨h0, c4, hcl5, hasg⟩)
  obtain ⟨t, a1, b1⟩ := kk (T.setVm vm') hT X'
  exact ⟨t, st.trans a1, b1⟩
end Rows
section Ends
variable {p : Program} {l : Launch} {e : Env} {R : Room} {s : State} {m : MethodId} {args : Array Value} {below : List Frame} {meth : Method} {c : Code} {H : Heap} {locs : List Loc} {cells slots : Nat} {Q : State → Prop}
variable {mc ms : Nat} {free : Addr → Prop} {A0 A1 : Nat → Prop} {H0 : Heap} {a : Array Value} {ls : Array Slot} {st0 rest : List Value}
variable {Qc : Array Value → State → Outcome → State → Prop} {XC : String → State → State → Prop}
/-- what a body that may throw owes at its end -/
def vx_MQ (below : List Frame) (Qc : Array Value → State → Outcome → State → Prop) (XC : String → State → State → Prop) (a : Array Value) (s : State) (mc ms : Nat) (free : Addr → Prop) : State → Prop := fun t =>
  ∃ o, t.status = .running ∧ Ended t below o ∧ vx_Q Qc XC mc ms free a s o t
theorem vx_ret {g : JFrame} {mc ms : Nat} (k : W p l e R s m args below meth c H locs cells slots (MQ below Qc args s mc ms free) g) : W p l e R s m args below meth c H locs cells slots (vx_MQ below Qc XC args s mc ms free) g := by
  intro T hT X
  obtain ⟨t, a1, o, b1, b2, b3, b4⟩ := k T hT X
  exact ⟨t, a1, o, b1, b2, Or.inl ⟨b3, b4⟩⟩
/-- not caught here: it goes on to the caller -/
theorem vx_widen {g : JFrame} {q : Addr} {k n : Nat} (h1 : cells ≤ k) (h2 : slots ≤ n) (kk : vx_W p l e R s m args below meth c H locs k n Q g q) : vx_W p l e R s m args below meth c H locs cells slots Q g q := fun T hT X => kk T hT (stand_widen X h1 h2)
theorem vx_out {pc : Nat} {E : String} {ce : Cell} {q : Addr} {mc ms : Nat} (hout : ∀ x ∈ c.exceptionTable.toList, covers x pc = false) (hlocks : meth.locks = false) (hcell : H[q]? = some ce) (hv : ce.vm = .none) (hcl : s.vm.findClass E = some ce.cls)
    (hx : ∀ t : State, t.heap = H → s.vm.Alike t.vm → XC E s t) (hf : ∀ z ∈ locs, free z.base) (hc : cells ≤ mc) (hs : slots ≤ ms) :
    vx_W p l e R s m args below meth c H locs cells slots (vx_MQ below Qc XC args s mc ms free) (F0 m pc ls rest) q := by
  intro T hT X
  obtain ⟨st1, hrun, hend, hW, hsm⟩ := X.leaveThrown q (g := F0 m pc ls rest) rfl rfl rfl hout hlocks
  have hcell9 : (T.setFrames (.throwing q :: below)).heap[q]? = some ce := by
    show T.heap[q]? = some ce
    rw [hT]; exact hcell
  exact ⟨_, st1, .threw q, hrun, hend, Or.inr ⟨q, rfl, E, ce, locs, hx _ hT hW.alike, hcell9, hv, hcl, hW, hsm.mono hc hs, hf⟩⟩
theorem vx_frame {U : State} {k n : Nat} (h : s.sameButNew ({ U with vm := s.vm } : State) locs k n) : s.heap.size ≤ U.heap.size ∧ ∀ q : Nat, q < s.heap.size → (∀ z ∈ locs, z.base ≠ q) → U.heap[q]? = s.heap[q]? := by
  obtain ⟨-, h2, -, -, -, h6⟩ := h
  refine ⟨h2, fun q hq hz => ?_⟩
  obtain ⟨c9, e1, e2, e3, e4⟩ := h6 q _ (Array.getElem?_eq_getElem hq)
  have hs : c9.slots = (s.heap[q]).slots := Array.ext_getElem? fun i => e4 i fun hm => hz _ hm rfl
  have h9 : c9 = s.heap[q] := by
    rw [hs] at e2
    exact e2
  have e5 : U.heap[q]? = some c9 := e1
  rw [e5, h9, Array.getElem?_eq_getElem hq]
/-- the words of a throw but the four that speak of the heap -/
def vx_no (w : Cond) : Bool := decide (w ≠ .isRef (.static Bundle.tN "UNASSIGNED_STACK" Bundle.steD)) && decide (w ≠ .isRef (.static Bundle.tN "SUPPRESSED_SENTINEL" Bundle.listD)) && decide (w ≠ .laysStatic Bundle.tN "UNASSIGNED_STACK" Bundle.steD) && decide (w ≠ .laysStatic Bundle.tN "SUPPRESSED_SENTINEL" Bundle.listD)
def vx_at0 (own : String) (ic : Nat) (X : String) (names : List String) : List Cond := (Bundle.ownAtoms0 own ic X names).filter vx_no
def vx_atS (own : String) (ic : Nat) (X : String) (names : List String) : List Cond := (Bundle.ownAtoms own ic X names).filter vx_no
/-- a word that the tables alone decide, or a good one -/
def vx_ot (w : Cond) : Bool := w.onTables || goodWord w
theorem vx_ot_at {args a' : Array Value} {s U : State} {w : Cond} (hW : s.WarmedH U.vm) (hvm : s.vm = U.vm) (hg : vx_ot w = true) (h : w.before args s = true) : w.before a' U = true := by
  simp only [vx_ot, Bool.or_eq_true] at hg
  rcases hg with hg | hg
  · exact va_tabs hg hvm h
  · exact word_at hW (good_of_word hg) h
/-- a list's words: the good ones out of the method's own list, the others by premises of their own -/
theorem vx_hat {args : Array Value} {s : State} {L B : List Cond} (h1 : ∀ w ∈ L.filter goodWord, w.before args s = true) (h2 : ∀ w ∈ L.filter (fun w => !goodWord w), w ∈ B) (h3 : ∀ w ∈ B, w.before args s = true) : ∀ w ∈ L, w.before args s = true := by
  intro w hw
  by_cases g : goodWord w = true
  · exact h1 w (List.mem_filter.mpr ⟨hw, g⟩)
  · refine h3 w (h2 w (List.mem_filter.mpr ⟨hw, ?_⟩))
    show (!goodWord w) = true
    cases hgw : goodWord w
    · rfl
    · exact absurd hgw g
theorem vx_c {args : Array Value} {s : State} {w : Cond} {B : List Cond} (h : w.before args s = true) (t : ∀ w ∈ B, w.before args s = true) : ∀ w' ∈ w :: B, w'.before args s = true := fun w' h' => (List.mem_cons.mp h').elim (fun e => by rw [e]; exact h) (t w')
theorem vx_n {args : Array Value} {s : State} : ∀ w ∈ ([] : List Cond), w.before args s = true := fun _ h => nomatch h
theorem vx_own {args : Array Value} {s : State} {L : List Cond} (h1 : ∀ w ∈ L.filter vx_no, w.before args s = true)
    (hU : (Cond.isRef (.static Bundle.tN "UNASSIGNED_STACK" Bundle.steD)).before args s = true) (hN : (Cond.isRef (.static Bundle.tN "SUPPRESSED_SENTINEL" Bundle.listD)).before args s = true)
    (lU : (Cond.laysStatic Bundle.tN "UNASSIGNED_STACK" Bundle.steD).before args s = true) (lN : (Cond.laysStatic Bundle.tN "SUPPRESSED_SENTINEL" Bundle.listD).before args s = true) : ∀ w ∈ L, w.before args s = true := by
  intro w hw
  by_cases e1 : w = .isRef (.static Bundle.tN "UNASSIGNED_STACK" Bundle.steD)
  · rw [e1]; exact hU
  · by_cases e2 : w = .isRef (.static Bundle.tN "SUPPRESSED_SENTINEL" Bundle.listD)
    · rw [e2]; exact hN
    · by_cases e3 : w = .laysStatic Bundle.tN "UNASSIGNED_STACK" Bundle.steD
      · rw [e3]; exact lU
      · by_cases e4 : w = .laysStatic Bundle.tN "SUPPRESSED_SENTINEL" Bundle.listD
        · rw [e4]; exact lN
        · exact h1 w (List.mem_filter.mpr ⟨hw, by unfold vx_no; rw [decide_eq_true e1, decide_eq_true e2, decide_eq_true e3, decide_eq_true e4]; rfl⟩)
/-- where a static field lies, its class's statics cell in H -/
def vx_L (C n d : String) (A : Nat → Prop) (U : State) (H : Heap) : Prop := ∃ (c : ClassId) (k : Class) (i : Nat) (f : Field) (a : Nat) (cell : Cell), U.vm.findClass C = some c ∧ U.fieldFound? C n d = some (c, k, i, f) ∧ f.isStatic = true ∧ k.statics = some a ∧ H[a]? = some cell ∧ cell.vm.isStatics = true ∧ cell.cls = c ∧ f.slot < cell.slots.size ∧ k.staticTypes[f.slot]? = some f.type ∧ ¬ A a
theorem vx_L.moved {C n d : String} {A : Nat → Prop} {u U : State} {H : Heap} (hvm : u.vm.Alike U.vm) (h : vx_L C n d A u H) : vx_L C n d A U H := by
  obtain ⟨c, k, i, f, a, cell, h1, h2, h3, h4, h5, h6, h7, h8, h9, h10⟩ := h
  obtain ⟨k', hi', he⟩ := State.fieldFound?_setVm hvm h2
  exact ⟨c, k', i, f, a, cell, by rw [hvm.findClass]; exact h1, hi', h3, by rw [he]; exact h4, h5, h6, h7, h8, by rw [he]; exact h9, h10⟩
theorem vx_L.kept {C n d : String} {A : Nat → Prop} {U : State} {H H1 : Heap} (h : vx_L C n d A U H) (hq : ∀ a : Nat, a < H.size → ¬ A a → H1[a]? = H[a]?) : vx_L C n d A U H1 := by
  obtain ⟨c, k, i, f, a, cell, h1, h2, h3, h4, h5, h6, h7, h8, h9, h10⟩ := h
  exact ⟨c, k, i, f, a, cell, h1, h2, h3, h4, by rw [hq a (Array.getElem?_eq_some_iff.mp h5).1 h10]; exact h5, h6, h7, h8, h9, h10⟩
theorem vx_L.narrow {C n d : String} {A B : Nat → Prop} {U : State} {H : Heap} (h : vx_L C n d A U H) (hAB : ∀ q, B q → A q) : vx_L C n d B U H := by
  obtain ⟨c, k, i, f, a, cell, h1, h2, h3, h4, h5, h6, h7, h8, h9, h10⟩ := h
  exact ⟨c, k, i, f, a, cell, h1, h2, h3, h4, h5, h6, h7, h8, h9, fun z => h10 (hAB _ z)⟩
theorem vx_L.word {C n d : String} {A : Nat → Prop} {s : State} {args : Array Value} (h : vx_L C n d A s s.heap) : (Cond.laysStatic C n d).before args s = true := by
  obtain ⟨c, k, i, f, a, cell, h1, h2, h3, h4, h5, h6, h7, h8, h9, -⟩ := h
  show (Cond.laysStatic C n d).holds args s none s [] = true
  exact Cond.laysStatic_of h1 h2 h3 h4 h5 h6 h7 h8 h9
/-- .. and what it holds: null or some reference -/
def vx_Zq (C n d : String) (A : Nat → Prop) (U : State) (H : Heap) : Prop := va_Zq C n d A U H ∧ vx_L C n d A U H
theorem vx_Zq.moved {C n d : String} {A : Nat → Prop} {u U : State} {H : Heap} (hvm : u.vm.Alike U.vm) (h : vx_Zq C n d A u H) : vx_Zq C n d A U H := ⟨va_Zq.moved hvm h.1, vx_L.moved hvm h.2⟩
theorem vx_Zq.kept {C n d : String} {A : Nat → Prop} {U : State} {H H1 : Heap} (h : vx_Zq C n d A U H) (hq : ∀ a : Nat, a < H.size → ¬ A a → H1[a]? = H[a]?) : vx_Zq C n d A U H1 := ⟨va_Zq.kept h.1 hq, vx_L.kept h.2 hq⟩
theorem vx_Zq.narrow {C n d : String} {A B : Nat → Prop} {U : State} {H : Heap} (h : vx_Zq C n d A U H) (hAB : ∀ q, B q → A q) : vx_Zq C n d B U H := ⟨va_Zq.narrow h.1 hAB, vx_L.narrow h.2 hAB⟩
theorem vx_Zqof {args : Array Value} {s : State} {C n d : String} {A : Nat → Prop} (hl : (Cond.laysStatic C n d).before args s = true) (hini : (Cond.initialized C).before args s = true) (h : (Cond.isRef (.static C n d)).before args s = true) (hA : ∀ a : Nat, a < s.heap.size → ¬ A a) : vx_Zq C n d A s s.heap := by
  refine ⟨va_Zqof hl hini h hA, ?_⟩
  obtain ⟨c, k, i, f, a, cell, h1, h2, h3, h4, h5, h6, h7, h8, h9⟩ := Cond.laysStatic_spec hl
  exact ⟨c, k, i, f, a, cell, h1, h2, h3, h4, h5, h6, h7, h8, h9, hA a (Array.getElem?_eq_some_iff.mp h5).1⟩
theorem vx_isRef {C n d : String} {v : Value} {A : Nat → Prop} {s : State} {args : Array Value} (h : va_Z C n d v A s s.heap) (hv : v.isRef = true) : (Cond.isRef (.static C n d)).before args s = true := by
  obtain ⟨cf, kf, fi, f, a, cell, h1, h2, h3, h4, h5, h6, h7, -⟩ := h
  have he : (Term.static C n d).eval args s none [] s = some v := by
    simp [Term.eval, State.fieldNamed?, h1, h2, h4, h5, h6, h7]
  simp only [Cond.before, Cond.holds, Cond.value, he]
  cases v <;> simp_all [Value.isRef]
theorem vx_isRefq {C n d : String} {A : Nat → Prop} {s : State} {args : Array Value} (h : va_Zq C n d A s s.heap) : (Cond.isRef (.static C n d)).before args s = true := by
  rcases h with h | ⟨t, h⟩
  · exact vx_isRef h rfl
  · exact vx_isRef h rfl
/-- the same frame, seen from here: as if the method were called anew in this heap -/
theorem vx_rebase {T : State} (X : Stand p l e R s m args below meth c T locs cells slots) {R' : Room} (hf : R'.frames ≤ R.frames) (hl : R'.locals ≤ R.locals) (hc : cells + R'.cells ≤ R.cells) (hs : slots + R'.slots ≤ R.slots) :
    Stand p l e R' ((T.setVm s.vm).setFrames (.invoking m args :: below)) m args below meth c T [] 0 0 := by
  have htop : (T.setVm s.vm).topJava?.isSome := X.here.top
  have hF : ((T.setVm s.vm).setFrames (.invoking m args :: below)).frames = .invoking m args :: below := State.frames_setFrames _ (State.cur_lt_of_top htop)
  obtain ⟨g₀, hg0⟩ := Option.isSome_iff_exists.mp htop
  obtain ⟨r, hr⟩ := State.topJava?_eq_some.mp hg0
  have hl9 : e.platform.stackLimits (T.setVm s.vm).me = e.platform.stackLimits s.me := X.limits
  have hb9 : (T.setVm s.vm).me.stackBytes = s.me.stackBytes := X.bytes
  refine ⟨X.admits, X.cas, X.clock, hF, ?_, X.hears, X.method, X.code, X.here, X.tail, X.warmed, ?_, ?_, ?_⟩
  · have h := X.room
    have hU : ((T.setVm s.vm).setFrames (.invoking m args :: below)).localsInUse = s.localsInUse := by
      rw [State.localsInUse_invoking hF (meth := meth) (c := c) X.method X.code, State.localsInUse_invoking X.frames X.method X.code]
    simp only [State.hasRoom, Bool.and_eq_true, decide_eq_true_eq] at h ⊢
    obtain ⟨⟨⟨⟨h1, h2, h3, h4, h5, h6⟩, h7⟩, h8⟩, h9⟩ := h
    rw [X.frames, List.length_cons] at h2 h3
    have q1 := X.heapSize
    have q2 := X.used
    simp only [hF, hU, List.length_cons, State.stackLimits_setFrames, State.stackBytes_setFrames, hl9, hb9]
    refine ⟨⟨⟨⟨by omega, by omega, by omega, by omega, by omega, h6⟩, ?_⟩, ?_⟩, X.book⟩
    · show T.heap.size + R'.cells ≤ e.platform.maxCells
      omega
    · show T.slotsUsed + R'.slots ≤ e.platform.maxSlots
      omega
  · rw [State.stackLimits_setFrames]; rfl
  · rw [State.stackBytes_setFrames]; rfl
  · refine ⟨?_, Nat.le_refl _, Nat.le_refl _, ?_, ?_, fun a c9 h9 => ⟨c9, h9, rfl, rfl, fun _ _ => rfl⟩⟩
    · obtain ⟨t, ht, -⟩ := State.frames_cons hr
      show T.setVm s.vm = { ((T.setVm s.vm).setFrames (.invoking m args :: below)).setFrames (T.setVm s.vm).frames with heap := T.heap, slotsUsed := T.slotsUsed }
      rw [State.setFrames_setFrames, State.setFrames_self ht]
      rfl
    · show T.slotsUsed = T.slotsUsed + ((T.heap.toList.drop T.heap.size).map (·.slots.size)).sum
      rw [List.drop_eq_nil_of_le (Nat.le_of_eq Array.length_toList)]
      rfl
    · show ((T.heap.toList.drop T.heap.size).map (·.slots.size)).sum ≤ 0
      rw [List.drop_eq_nil_of_le (Nat.le_of_eq Array.length_toList)]
      exact Nat.le_refl _
/-- 'throw new E()': new; dup; invokespecial; athrow -/
theorem vx_throw0 {cc : ByteArray} {pc : Nat} (hexec : p.tables.exec = Jvm.exec) (hb : c.code = cc) (hl : l.stackTraces = false) {own cls : String} {names : List String} {ik ic mc ms : Nat} {A : Nat → Prop}
    (hown : s.vm.findClass own = some m.cls) (hcls : Bundle.fit cls = true) (hnames : ∀ n ∈ names, Bundle.fit n = true)
    (hk : (Cond.classLink own ik cls).before args s = true) (hini : (Cond.initialized cls).before args s = true) (hat : ∀ w ∈ vx_at0 own ic cls names, w.before args s = true)
    (hgood : ∀ w ∈ Cond.classLink own ik cls :: Cond.initialized cls :: vx_at0 own ic cls names, vx_ot w = true)
    (hU : vx_Zq Bundle.tN "UNASSIGNED_STACK" Bundle.steD A s s.heap) (hN : vx_Zq Bundle.tN "SUPPRESSED_SENTINEL" Bundle.listD A s s.heap) (hS : va_S A s.heap H locs) (hsize : ls.size = c.maxLocals)
    (d0 : decode cc pc = .ok (.new ik, 3)) (d3 : decode cc (pc + 3) = .ok (.dup, 1)) (d4 : decode cc (pc + 4) = .ok (.invokespecial ic, 3)) (d7 : decode cc (pc + 7) = .ok (.athrow, 1))
    (hout : ∀ x ∈ c.exceptionTable.toList, covers x (pc + 7) = false)
    (hRframes : names.length + 3 < R.frames) (hRlocals : (rest.map fun v => v.category).sum + (13 * (names.length + 1) + 42) ≤ R.locals) (hRcells : cells + 1 ≤ R.cells) (hRslots : slots + 6 ≤ R.slots) (hlocks : meth.locks = false)
    (hx : ∀ t : State, s.vm.Alike t.vm → H.size ≤ t.heap.size → (∀ q : Nat, q < H.size → t.heap[q]? = H[q]?) → XC cls s t)
    (hf : ∀ z ∈ locs, free z.base) (hc : cells + 1 ≤ mc) (hs : slots + 6 ≤ ms) :
    W p l e R s m args below meth c H locs cells slots (vx_MQ below Qc XC args s mc ms free) (F0 m pc ls rest) := by
  intro T hT X
  have htr : e.platform.stackTraces = false := (show e.platform.stackTraces = l.stackTraces by rw [X.admits.platform]).trans hl
  have Y := vx_rebase X (R' := { frames := R.frames, locals := R.locals, cells := 1, slots := 6 }) (Nat.le_refl _) (Nat.le_refl _) hRcells hRslots
  obtain ⟨s', hA⟩ : ∃ z, z = (T.setVm s.vm).setFrames (.invoking m args :: below) := ⟨_, rfl⟩
  rw [← hA] at Y
  have hvm : s'.vm = s.vm := by rw [hA]; rfl
  have hhp : s'.heap = H := by rw [hA]; exact hT
  have hW0 : s.WarmedH s'.vm := by rw [hvm]; exact State.WarmedH.refl s
  have hat' : ∀ w ∈ vx_at0 own ic cls names, w.before args s' = true := fun w hw => vx_ot_at hW0 hvm.symm (hgood w (List.mem_cons_of_mem _ (List.mem_cons_of_mem _ hw))) (hat w hw)
  have hk' : (Cond.classLink own ik cls).before args s' = true := vx_ot_at hW0 hvm.symm (hgood _ List.mem_cons_self) hk
  have hini' : (Cond.initialized cls).before args s' = true := vx_ot_at hW0 hvm.symm (hgood _ (List.mem_cons_of_mem _ List.mem_cons_self)) hini
  have hU' : vx_Zq Bundle.tN "UNASSIGNED_STACK" Bundle.steD A s' s'.heap := by rw [hhp]; exact vx_Zq.moved hW0.alike (hU.kept hS.2.1)
  have hN' : vx_Zq Bundle.tN "SUPPRESSED_SENTINEL" Bundle.listD A s' s'.heap := by rw [hhp]; exact vx_Zq.moved hW0.alike (hN.kept hS.2.1)
  have h : ∀ w ∈ Bundle.ownAtoms0 own ic cls names, w.before args s' = true := vx_own hat' (vx_isRefq hU'.1) (vx_isRefq hN'.1) hU'.2.word hN'.2.word
  have hown' : s'.vm.findClass own = some m.cls := by rw [hvm]; exact hown
  have hins : (Cond.instantiable cls 6).before args s' = true := h _ (by simp [Bundle.ownAtoms0])
  obtain ⟨vm₁, cX, kX, hfX, hkX, -, -, X₁, st1⟩ := Y.newCold hexec (own := own) (C := cls) (index := ik) (n := 6) hown' hk' hins hini'
    (g := F0 m pc ls rest) rfl (by rw [hb]; exact d0) (Nat.le_refl _) (Nat.le_refl _)
  generalize hT1 : (T.setVm vm₁).pushCell { cls := cX, slots := kX.instanceTypes.map defaultValue, vm := .none } = T1 at X₁ st1
  have hcat : (Value.ref T.heap.size).category = 1 := rfl
  have hcellA : T1.heap[T.heap.size]? = some (freshCell cX kX) := by rw [← hT1]; exact State.heap_pushCell_size _ _
  have d3' : decode c.code (pc + 3) = .ok (.dup, 1) := by rw [hb]; exact d3
  obtain ⟨U, hsteps, hrun, hend, hW, hsame, ce, hce, hO⟩ := X₁.ctorThrow0 hexec htr (own := own) (cls := cls) (names := names) (ic := ic) hown' hcls hnames h (fun x hx => nomatch hx) hfX hkX hcellA (by rw [hhp, hT]; exact Nat.le_refl _)
    (g := { method := m, pc := pc + 4, locals := ls, stack := .ref T.heap.size :: .ref T.heap.size :: rest, locked := none }) rfl hsize rfl rfl (rest := rest) rfl
    (by rw [hb]; exact d4) (by rw [hb]; exact d7) hout hRframes (by simp only [List.map_cons, List.sum_cons, hcat]; omega) hlocks
  obtain ⟨f1, f2⟩ := vx_frame hsame
  rw [hhp] at f1 f2
  have hWs : s.WarmedH U.vm := State.WarmedH.trans hW0 hW
  have hcl : s.vm.findClass cls = some ce.cls := by
    have h9 := hO.cls
    rw [hvm] at h9
    exact h9
  have hall : s.sameButNew ({ U with vm := s.vm } : State) locs mc ms := by
    subst hA
    obtain ⟨e1, e2⟩ := hsame
    rw [State.setFrames_setFrames] at e1
    have h2 : (T.setVm s.vm).sameButNew ({ U with vm := s.vm } : State) [] (0 + 1) (0 + 6) := ⟨e1, e2⟩
    have h3 := X.same.trans h2
    rw [List.append_nil] at h3
    exact h3.mono hc hs
  refine ⟨U, ?_, .threw T.heap.size, hrun, hend, Or.inr ⟨T.heap.size, rfl, cls, ce, locs, hx U hWs.alike f1 (fun q hq => f2 q hq (fun z hz => nomatch hz)), hce, hO.vm, hcl, hWs, hall, hf⟩⟩
  refine st1 _ ?_
  show Steps p.tables e below (T1.setTop { method := m, pc := pc + 3, locals := ls, stack := .ref T.heap.size :: rest, locked := none }) _
  jvm_step X₁.here [X₁.here.top, hexec, d3', Value.category]
  exact hsteps
/-- 'throw new E("text")': new; dup; ldc; invokespecial; athrow -/
theorem vx_throwS {cc : ByteArray} {pc : Nat} (hexec : p.tables.exec = Jvm.exec) (hb : c.code = cc) (hl : l.stackTraces = false) {own cls text : String} {names : List String} {ik is ic mc ms sa : Nat} {A : Nat → Prop}
    (hown : s.vm.findClass own = some m.cls) (hcls : Bundle.fit cls = true) (hnames : ∀ n ∈ names, Bundle.fit n = true)
    (hk : (Cond.classLink own ik cls).before args s = true) (hini : (Cond.initialized cls).before args s = true) (hstr : vk_R own is text sa s) (hat : ∀ w ∈ vx_atS own ic cls names, w.before args s = true)
    (hgood : ∀ w ∈ Cond.classLink own ik cls :: Cond.initialized cls :: vx_atS own ic cls names, vx_ot w = true)
    (hU : vx_Zq Bundle.tN "UNASSIGNED_STACK" Bundle.steD A s s.heap) (hN : vx_Zq Bundle.tN "SUPPRESSED_SENTINEL" Bundle.listD A s s.heap) (hS : va_S A s.heap H locs) (hsize : ls.size = c.maxLocals)
    (d0 : decode cc pc = .ok (.new ik, 3)) (d3 : decode cc (pc + 3) = .ok (.dup, 1)) (d4 : decode cc (pc + 4) = .ok (.ldc is, 2)) (d6 : decode cc (pc + 6) = .ok (.invokespecial ic, 3)) (d9 : decode cc (pc + 9) = .ok (.athrow, 1))
    (hout : ∀ x ∈ c.exceptionTable.toList, covers x (pc + 9) = false)
    (hRframes : names.length + 3 < R.frames) (hRlocals : (rest.map fun v => v.category).sum + (13 * (names.length + 1) + 43) ≤ R.locals) (hRcells : cells + 1 ≤ R.cells) (hRslots : slots + 6 ≤ R.slots) (hlocks : meth.locks = false)
    (hx : ∀ t : State, s.vm.Alike t.vm → H.size ≤ t.heap.size → (∀ q : Nat, q < H.size → t.heap[q]? = H[q]?) → XC cls s t)
    (hf : ∀ z ∈ locs, free z.base) (hc : cells + 1 ≤ mc) (hs : slots + 6 ≤ ms) :
    W p l e R s m args below meth c H locs cells slots (vx_MQ below Qc XC args s mc ms free) (F0 m pc ls rest) := by
  intro T hT X
  have htr : e.platform.stackTraces = false := (show e.platform.stackTraces = l.stackTraces by rw [X.admits.platform]).trans hl
  have Y := vx_rebase X (R' := { frames := R.frames, locals := R.locals, cells := 1, slots := 6 }) (Nat.le_refl _) (Nat.le_refl _) hRcells hRslots
  obtain ⟨s', hA⟩ : ∃ z, z = (T.setVm s.vm).setFrames (.invoking m args :: below) := ⟨_, rfl⟩
  rw [← hA] at Y
  have hvm : s'.vm = s.vm := by rw [hA]; rfl
  have hhp : s'.heap = H := by rw [hA]; exact hT
  have hW0 : s.WarmedH s'.vm := by rw [hvm]; exact State.WarmedH.refl s
  have hat' : ∀ w ∈ vx_atS own ic cls names, w.before args s' = true := fun w hw => vx_ot_at hW0 hvm.symm (hgood w (List.mem_cons_of_mem _ (List.mem_cons_of_mem _ hw))) (hat w hw)
  have hk' : (Cond.classLink own ik cls).before args s' = true := vx_ot_at hW0 hvm.symm (hgood _ List.mem_cons_self) hk
  have hini' : (Cond.initialized cls).before args s' = true := vx_ot_at hW0 hvm.symm (hgood _ (List.mem_cons_of_mem _ List.mem_cons_self)) hini
  have hU' : vx_Zq Bundle.tN "UNASSIGNED_STACK" Bundle.steD A s' s'.heap := by rw [hhp]; exact vx_Zq.moved hW0.alike (hU.kept hS.2.1)
  have hN' : vx_Zq Bundle.tN "SUPPRESSED_SENTINEL" Bundle.listD A s' s'.heap := by rw [hhp]; exact vx_Zq.moved hW0.alike (hN.kept hS.2.1)
  have h : ∀ w ∈ Bundle.ownAtoms own ic cls names, w.before args s' = true := vx_own hat' (vx_isRefq hU'.1) (vx_isRefq hN'.1) hU'.2.word hN'.2.word
  have hown' : s'.vm.findClass own = some m.cls := by rw [hvm]; exact hown
  have hins : (Cond.instantiable cls 6).before args s' = true := h _ (by simp [Bundle.ownAtoms])
  obtain ⟨vm₁, cX, kX, hfX, hkX, -, -, X₁, st1⟩ := Y.newCold hexec (own := own) (C := cls) (index := ik) (n := 6) hown' hk' hins hini'
    (g := F0 m pc ls rest) rfl (by rw [hb]; exact d0) (Nat.le_refl _) (Nat.le_refl _)
  generalize hT1 : (T.setVm vm₁).pushCell { cls := cX, slots := kX.instanceTypes.map defaultValue, vm := .none } = T1 at X₁ st1
  have hcat : (Value.ref T.heap.size).category = 1 := rfl
  have hcellA : T1.heap[T.heap.size]? = some (freshCell cX kX) := by rw [← hT1]; exact State.heap_pushCell_size _ _
  have d3' : decode c.code (pc + 3) = .ok (.dup, 1) := by rw [hb]; exact d3
  have d4' : decode c.code (pc + 4) = .ok (.ldc is, 2) := by rw [hb]; exact d4
  have hstr' : vk_R own is text sa s' := vk_R.warm hW0 hstr
  obtain ⟨U, hsteps, hrun, hend, hW, hsame, ce, hce, hO⟩ := X₁.ctorThrowS hexec htr (own := own) (cls := cls) (names := names) (ic := ic) hown' hcls hnames h (fun x hx => nomatch hx) hfX hkX hcellA (by rw [hhp, hT]; exact Nat.le_refl _) (msg := .ref sa) rfl
    (g := { method := m, pc := pc + 6, locals := ls, stack := .ref sa :: .ref T.heap.size :: .ref T.heap.size :: rest, locked := none }) rfl hsize rfl rfl (rest := rest) rfl
    (by rw [hb]; exact d6) (by rw [hb]; exact d9) hout hRframes (by simp only [List.map_cons, List.sum_cons, hcat]; omega) hlocks
  obtain ⟨f1, f2⟩ := vx_frame hsame
  rw [hhp] at f1 f2
  have hWs : s.WarmedH U.vm := State.WarmedH.trans hW0 hW
  have hcl : s.vm.findClass cls = some ce.cls := by
    have h9 := hO.cls
    rw [hvm] at h9
    exact h9
  have hall : s.sameButNew ({ U with vm := s.vm } : State) locs mc ms := by
    subst hA
    obtain ⟨e1, e2⟩ := hsame
    rw [State.setFrames_setFrames] at e1
    have h2 : (T.setVm s.vm).sameButNew ({ U with vm := s.vm } : State) [] (0 + 1) (0 + 6) := ⟨e1, e2⟩
    have h3 := X.same.trans h2
    rw [List.append_nil] at h3
    exact h3.mono hc hs
  refine ⟨U, ?_, .threw T.heap.size, hrun, hend, Or.inr ⟨T.heap.size, rfl, cls, ce, locs, hx U hWs.alike f1 (fun q hq => f2 q hq (fun z hz => nomatch hz)), hce, hO.vm, hcl, hWs, hall, hf⟩⟩
  refine st1 _ ?_
  show Steps p.tables e below (T1.setTop { method := m, pc := pc + 3, locals := ls, stack := .ref T.heap.size :: rest, locked := none }) _
  jvm_step X₁.here [X₁.here.top, hexec, d3', Value.category]
  exact X₁.ldcString hexec (own := own) (text := text) (index := is) (a := sa) hown' hstr'.1 hstr'.2
    (g := { method := m, pc := pc + 4, locals := ls, stack := .ref T.heap.size :: .ref T.heap.size :: rest, locked := none }) rfl d4' _ hsteps
/-- 'throw new E("text")', the text by a wide index -/
theorem vx_throwSW {cc : ByteArray} {pc : Nat} (hexec : p.tables.exec = Jvm.exec) (hb : c.code = cc) (hl : l.stackTraces = false) {own cls text : String} {names : List String} {ik is ic mc ms sa : Nat} {A : Nat → Prop}
    (hown : s.vm.findClass own = some m.cls) (hcls : Bundle.fit cls = true) (hnames : ∀ n ∈ names, Bundle.fit n = true)
    (hk : (Cond.classLink own ik cls).before args s = true) (hini : (Cond.initialized cls).before args s = true) (hstr : vk_R own is text sa s) (hat : ∀ w ∈ vx_atS own ic cls names, w.before args s = true)
    (hgood : ∀ w ∈ Cond.classLink own ik cls :: Cond.initialized cls :: vx_atS own ic cls names, vx_ot w = true)
    (hU : vx_Zq Bundle.tN "UNASSIGNED_STACK" Bundle.steD A s s.heap) (hN : vx_Zq Bundle.tN "SUPPRESSED_SENTINEL" Bundle.listD A s s.heap) (hS : va_S A s.heap H locs) (hsize : ls.size = c.maxLocals)
    (d0 : decode cc pc = .ok (.new ik, 3)) (d3 : decode cc (pc + 3) = .ok (.dup, 1)) (d4 : decode cc (pc + 4) = .ok (.ldc_w is, 3)) (d7 : decode cc (pc + 7) = .ok (.invokespecial ic, 3)) (d10 : decode cc (pc + 10) = .ok (.athrow, 1))
    (hout : ∀ x ∈ c.exceptionTable.toList, covers x (pc + 10) = false)
    (hRframes : names.length + 3 < R.frames) (hRlocals : (rest.map fun v => v.category).sum + (13 * (names.length + 1) + 43) ≤ R.locals) (hRcells : cells + 1 ≤ R.cells) (hRslots : slots + 6 ≤ R.slots) (hlocks : meth.locks = false)
    (hx : ∀ t : State, s.vm.Alike t.vm → H.size ≤ t.heap.size → (∀ q : Nat, q < H.size → t.heap[q]? = H[q]?) → XC cls s t)
    (hf : ∀ z ∈ locs, free z.base) (hc : cells + 1 ≤ mc) (hs : slots + 6 ≤ ms) :
    W p l e R s m args below meth c H locs cells slots (vx_MQ below Qc XC args s mc ms free) (F0 m pc ls rest) := by
  intro T hT X
  have htr : e.platform.stackTraces = false := (show e.platform.stackTraces = l.stackTraces by rw [X.admits.platform]).trans hl
  have Y := vx_rebase X (R' := { frames := R.frames, locals := R.locals, cells := 1, slots := 6 }) (Nat.le_refl _) (Nat.le_refl _) hRcells hRslots
  obtain ⟨s', hA⟩ : ∃ z, z = (T.setVm s.vm).setFrames (.invoking m args :: below) := ⟨_, rfl⟩
  rw [← hA] at Y
  have hvm : s'.vm = s.vm := by rw [hA]; rfl
  have hhp : s'.heap = H := by rw [hA]; exact hT
  have hW0 : s.WarmedH s'.vm := by rw [hvm]; exact State.WarmedH.refl s
  have hat' : ∀ w ∈ vx_atS own ic cls names, w.before args s' = true := fun w hw => vx_ot_at hW0 hvm.symm (hgood w (List.mem_cons_of_mem _ (List.mem_cons_of_mem _ hw))) (hat w hw)
  have hk' : (Cond.classLink own ik cls).before args s' = true := vx_ot_at hW0 hvm.symm (hgood _ List.mem_cons_self) hk
  have hini' : (Cond.initialized cls).before args s' = true := vx_ot_at hW0 hvm.symm (hgood _ (List.mem_cons_of_mem _ List.mem_cons_self)) hini
  have hU' : vx_Zq Bundle.tN "UNASSIGNED_STACK" Bundle.steD A s' s'.heap := by rw [hhp]; exact vx_Zq.moved hW0.alike (hU.kept hS.2.1)
  have hN' : vx_Zq Bundle.tN "SUPPRESSED_SENTINEL" Bundle.listD A s' s'.heap := by rw [hhp]; exact vx_Zq.moved hW0.alike (hN.kept hS.2.1)
  have h : ∀ w ∈ Bundle.ownAtoms own ic cls names, w.before args s' = true := vx_own hat' (vx_isRefq hU'.1) (vx_isRefq hN'.1) hU'.2.word hN'.2.word
  have hown' : s'.vm.findClass own = some m.cls := by rw [hvm]; exact hown
  have hins : (Cond.instantiable cls 6).before args s' = true := h _ (by simp [Bundle.ownAtoms])
  obtain ⟨vm₁, cX, kX, hfX, hkX, -, -, X₁, st1⟩ := Y.newCold hexec (own := own) (C := cls) (index := ik) (n := 6) hown' hk' hins hini'
    (g := F0 m pc ls rest) rfl (by rw [hb]; exact d0) (Nat.le_refl _) (Nat.le_refl _)
  generalize hT1 : (T.setVm vm₁).pushCell { cls := cX, slots := kX.instanceTypes.map defaultValue, vm := .none } = T1 at X₁ st1
  have hcat : (Value.ref T.heap.size).category = 1 := rfl
  have hcellA : T1.heap[T.heap.size]? = some (freshCell cX kX) := by rw [← hT1]; exact State.heap_pushCell_size _ _
  have d3' : decode c.code (pc + 3) = .ok (.dup, 1) := by rw [hb]; exact d3
  have d4' : decode c.code (pc + 4) = .ok (.ldc_w is, 3) := by rw [hb]; exact d4
  have hstr' : vk_R own is text sa s' := vk_R.warm hW0 hstr
  obtain ⟨U, hsteps, hrun, hend, hW, hsame, ce, hce, hO⟩ := X₁.ctorThrowS hexec htr (own := own) (cls := cls) (names := names) (ic := ic) hown' hcls hnames h (fun x hx => nomatch hx) hfX hkX hcellA (by rw [hhp, hT]; exact Nat.le_refl _) (msg := .ref sa) rfl
    (g := { method := m, pc := pc + 7, locals := ls, stack := .ref sa :: .ref T.heap.size :: .ref T.heap.size :: rest, locked := none }) rfl hsize rfl rfl (rest := rest) rfl
    (by rw [hb]; exact d7) (by rw [hb]; exact d10) hout hRframes (by simp only [List.map_cons, List.sum_cons, hcat]; omega) hlocks
  obtain ⟨f1, f2⟩ := vx_frame hsame
  rw [hhp] at f1 f2
  have hWs : s.WarmedH U.vm := State.WarmedH.trans hW0 hW
  have hcl : s.vm.findClass cls = some ce.cls := by
    have h9 := hO.cls
    rw [hvm] at h9
    exact h9
  have hall : s.sameButNew ({ U with vm := s.vm } : State) locs mc ms := by
    subst hA
    obtain ⟨e1, e2⟩ := hsame
    rw [State.setFrames_setFrames] at e1
    have h2 : (T.setVm s.vm).sameButNew ({ U with vm := s.vm } : State) [] (0 + 1) (0 + 6) := ⟨e1, e2⟩
    have h3 := X.same.trans h2
    rw [List.append_nil] at h3
    exact h3.mono hc hs
  refine ⟨U, ?_, .threw T.heap.size, hrun, hend, Or.inr ⟨T.heap.size, rfl, cls, ce, locs, hx U hWs.alike f1 (fun q hq => f2 q hq (fun z hz => nomatch hz)), hce, hO.vm, hcl, hWs, hall, hf⟩⟩
  refine st1 _ ?_
  show Steps p.tables e below (T1.setTop { method := m, pc := pc + 3, locals := ls, stack := .ref T.heap.size :: rest, locked := none }) _
  jvm_step X₁.here [X₁.here.top, hexec, d3', Value.category]
  exact X₁.ldcStringW hexec (own := own) (text := text) (index := is) (a := sa) hown' hstr'.1 hstr'.2
    (g := { method := m, pc := pc + 4, locals := ls, stack := .ref T.heap.size :: .ref T.heap.size :: rest, locked := none }) rfl d4' _ hsteps
end Ends
section Bodies
variable {l : Launch}
theorem vx_ofW {y : MethodName} {ws ws' : List Cond} {rm : Room} {Pc : Array Value → State → Prop} {Qc : Array Value → State → Outcome → State → Prop} {XC : String → State → State → Prop} {mc ms : Nat} {free : Addr → Prop} {cc : ByteArray} {maxL : Nat} {ret : Option FieldType}
    (hy : plainName y.cls = true) (hw : ws = Cond.code y cc maxL ret :: ws')
    (body : ∀ p e s m args below meth c s₁, BodyLoose p l y (headSpec ws rm) cc maxL ret e s m args below meth c s₁ → c.maxLocals = maxL → (∀ x ∈ c.exceptionTable.toList, False) → Pc args s →
      W p l e (headSpec ws rm).room s m args below meth c s.heap [] 0 0 (vx_MQ below Qc XC args s mc ms free) (entryFrame m args maxL)) : vx_Met l y ws rm Pc Qc XC mc ms free := by
  refine MetFree.of_bodyS (code := cc) (maxLocals := maxL) (ret := ret) hy ?_ ?_
  · intro args s m h hn
    obtain ⟨meth, c, h1, h2, h3, h4, h5, h6, -, -⟩ := Cond.code_spec hn (atoms_spec (ws := ws) h _ (by rw [hw]; exact List.mem_cons_self))
    exact ⟨meth, c, h1, h2, h3, h4, h5, h6⟩
  · intro p e s m args below meth c s₁ B hml hP _
    have hh0 : s₁.heap = s.heap := by rw [B.state]; rfl
    have ht : ∀ x ∈ c.exceptionTable.toList, False := by
      obtain ⟨meth9, c9, h1, h2, -, -, -, -, h7, -⟩ := Cond.code_spec B.named (atoms_spec (ws := ws) B.pre _ (by rw [hw]; exact List.mem_cons_self))
      cases Option.some.inj (h1.symm.trans B.method)
      cases Option.some.inj (h2.symm.trans (Stand.of_body B).code)
      intro x hx
      rw [Array.isEmpty_iff.mp h7] at hx
      cases hx
    obtain ⟨t, a1, o, b1, b2, b3⟩ := body p e s m args below meth c s₁ B hml ht hP s₁ hh0 (Stand.of_body B)
    exact ⟨t, o, a1, b1, b2, b3⟩
/-- the table of a body with handlers -/
theorem vx_table {p : Program} {x y : MethodName} {S : Spec} {cc bytes : ByteArray} {maxL maxL' : Nat} {ret ret' : Option FieldType} {e : Env} {s s₁ : State} {m : MethodId} {args : Array Value} {below : List Frame} {meth : Method} {c : Code} {hh : List (Nat × Nat × Nat × Nat)}
    (B : BodyLoose p l y S cc maxL ret e s m args below meth c s₁) (h : (Cond.codeWith y bytes maxL' ret' hh).before args s = true) : c.exceptionTable.toList = tableOf hh := by
  obtain ⟨m9, meth9, c9, hn9, h1, h2, -, -, h6, -⟩ := Cond.codeWith_spec h
  cases Option.some.inj (hn9.symm.trans B.named)
  cases Option.some.inj (h1.symm.trans B.method)
  cases Option.some.inj (h2.symm.trans (Stand.of_body B).code)
  rw [← h6, table_eq]
end Bodies
end VXA
/-! ===== END ===== -/
/-! ===== BEGIN a static call of a method with an exception table ===== -/
section VXS
variable {p : Program} {l : Launch} {e : Env} {R : Room} {s : State} {m : MethodId} {args : Array Value} {below : List Frame} {meth : Method} {c : Code} {T : State} {H : Heap} {locs : List Loc} {cells slots : Nat}
abbrev vx_CSW (R : Room) (s : State) (args : Array Value) (own : String) (index : Nat) (y : MethodName) (bytes : ByteArray) (maxL : Nat) (ret : Option FieldType) (hh : List (Nat × Nat × Nat × Nat)) (ws : List Cond) (rm : Room) (mc ms n : Nat) : Prop :=
  (rm.cells = mc ∧ rm.slots = ms ∧ rm.frames + 1 ≤ R.frames ∧ 8 + (maxL + 11) + rm.locals ≤ R.locals ∧ (∀ w ∈ ws, ∀ (a' : Array Value) (U : State), s.WarmedH U.vm → w.before a' U = true) ∧ Cond.codeWith y bytes maxL ret hh ∈ ws) ∧
  (Cond.codeWith y bytes maxL ret hh).before args s = true ∧ (Cond.initialized y.cls).before args s = true ∧ (y.cls ≠ "java/lang/invoke/MethodHandle" ∧ y.cls ≠ "java/lang/invoke/VarHandle") ∧
  (∀ sig, parseMethodDescriptor y.desc = some sig → n = sig.parameters.length) ∧ (Cond.methodLink own index y).before args s = true ∧ (Cond.static y).before args s = true
theorem vx_cwSW {own : String} {index maxL mc ms : Nat} {y : MethodName} {bytes : ByteArray} {ret : Option FieldType} {hh : List (Nat × Nat × Nat × Nat)} {Ts ws ws' : List Cond} {rm : Room} (n : Nat) (ht : ∀ w ∈ Ts, w.before args s = true) (hT : GoodIn Ts (va_wsS own index y ws)) (hw : ws = Cond.codeWith y bytes maxL ret hh :: ws') (hrc : rm.cells = mc) (hrs : rm.slots = ms)
    (hd : y.cls ≠ "java/lang/invoke/MethodHandle" ∧ y.cls ≠ "java/lang/invoke/VarHandle" ∧ (parseMethodDescriptor y.desc).map (fun d => d.parameters.length) = some n) (hR : rm.frames + 1 ≤ R.frames ∧ 8 + (maxL + 11) + rm.locals ≤ R.locals) :
    vx_CSW R s args own index y bytes maxL ret hh ws rm mc ms n := by
  have ok : ∀ w ∈ va_wsS own index y ws, w.before args s = true := fun w h => ht w (hT w h).1
  have hG : GoodIn Ts ws := fun w h => hT w (by unfold va_wsS; exact List.mem_append_right _ h)
  have hc : Cond.codeWith y bytes maxL ret hh ∈ ws := by rw [hw]; exact List.mem_cons_self
  refine ⟨⟨hrc, hrs, hR.1, hR.2, pay_in ht hG, hc⟩, ht _ (hG _ hc).1, ok _ (by simp [va_wsS]), ⟨hd.1, hd.2.1⟩, fun sig h => ?_, ok _ (by simp [va_wsS]), ok _ (by simp [va_wsS])⟩
  have h2 := hd.2.2
  rw [h] at h2
  exact (Option.some.inj h2).symm
theorem vx_callSW (X : Stand p l e R s m args below meth c T locs cells slots) (hexec : p.tables.exec = Jvm.exec) {own : String} {index : Nat} {y : MethodName} {bytes : ByteArray} {maxL : Nat} {ret : Option FieldType} {hh : List (Nat × Nat × Nat × Nat)}
    (hown : s.vm.findClass own = some m.cls) (hlink : (Cond.methodLink own index y).before args s = true) (hstat : (Cond.static y).before args s = true) (hinit : (Cond.initialized y.cls).before args s = true)
    (hcode : (Cond.codeWith y bytes maxL ret hh).before args s = true) (hy : y.cls ≠ "java/lang/invoke/MethodHandle" ∧ y.cls ≠ "java/lang/invoke/VarHandle")
    {W9 : Nat} {Pre : Pt → Array Value → Prop} {Post : Pt → Array Value → Option Value → Pt → Prop} (hK : Back l R p e below s args y 3 W9 Pre Post)
    {g : JFrame} (hg : g.method = m) (hsize : g.locals.size = c.maxLocals) {argsL rest : List Value} (hlen : ∀ sig, parseMethodDescriptor y.desc = some sig → argsL.length = sig.parameters.length)
    (hstack : g.stack = argsL.reverse ++ rest) (hW : 2 * g.monitorRoom + (rest.map fun v => v.category).sum ≤ W9) (hdg : decode c.code g.pc = .ok (.invokestatic index, 3))
    (hpre : ∀ vm₁, s.WarmedH vm₁ → Pre ⟨T.setVm vm₁, locs, cells, slots⟩ argsL.toArray) :
    ∃ (v : Option Value) (vm₁ : Vm) (B : Pt), s.WarmedH vm₁ ∧ Stand p l e R s m args below meth c B.U B.locs B.cells B.slots ∧ Post ⟨T.setVm vm₁, locs, cells, slots⟩ argsL.toArray v B ∧
      ∀ target, Steps p.tables e below (B.U.setTop { g with pc := g.pc + 3, stack := v.toList ++ rest }) target → Steps p.tables e below (T.setTop g) target := by
  obtain ⟨mk, methM, cM, hnamed, hmethM, -, -, -, -, -, -, hsigM⟩ := Cond.codeWith_spec hcode
  have hstatic : methM.isStatic = true := Cond.static_spec hnamed hmethM hstat
  obtain ⟨kP, hkP, -⟩ := className_of_methodNamed hnamed
  have hinitP : kP.init = .initialized := Cond.initialized_spec (findClass_of_methodNamed hnamed) hkP hinit
  obtain ⟨vm₁, X₁, hstep₁⟩ := X.invokestatic hexec hown hlink hnamed hmethM hstatic hkP hinitP hy (g := g) hg (argsL := argsL) (rest := rest) (hlen _ hsigM) hstack hdg
  obtain ⟨v, B, X', hpost, hsteps⟩ := hK m meth c ⟨T.setVm vm₁, locs, cells, slots⟩ { g with stack := rest } (.invokestatic index) mk argsL.toArray X₁ hg hsize hdg hW (X₁.named hnamed) (hpre vm₁ X₁.warmed)
  exact ⟨v, vm₁, B, X₁.warmed, X', hpost, fun target h => hstep₁ _ fun acts => by rw [doInvoke_state]; exact hsteps.trans h⟩
theorem vx_runSW {y : MethodName} {bytes cc : ByteArray} {maxL nL mc ms n index : Nat} {ret : Option FieldType} {hh : List (Nat × Nat × Nat × Nat)} {ws : List Cond} {rm : Room} {Pc : Array Value → State → Prop} {Qc : Array Value → State → Outcome → State → Prop} {free : Addr → Prop} {Ts : List Cond} {own : String} {As rest : List Value} {g : JFrame}
    (S : CallFix p m c cc nL s args Ts own) (hM : Met l y ws rm Pc Qc mc ms free) (cw : vx_CSW R s args own index y bytes maxL ret hh ws rm mc ms n) (hp : PreS s H Pc As)
    (hg : g.method = m) (hn : As.length = n) (hsize : g.locals.size = nL) (hstack : g.stack = As.reverse ++ rest) (hW : 2 * g.monitorRoom + (rest.map fun v => v.category).sum ≤ 8) (hdg : decode cc g.pc = .ok (.invokestatic index, 3)) (hf : cells + mc ≤ R.cells ∧ slots + ms ≤ R.slots) :
    va_Run p l e R s m args below meth c H locs cells slots mc ms g rest (Qc As.toArray) (free) := by
  obtain ⟨⟨hrc, hrs, hfr, hlo, hws, hcw⟩, hcode, hini, hy, hlen, hl, hstt⟩ := cw
  have hK : Back l R p e below s args y 3 8 (PreOf R mc ms Pc) (PostOf Qc mc ms free) := va_backW (hh := hh) (bytes := bytes) (maxL := maxL) (ret := ret) hM hp.1 hrc hrs hfr hlo hws hcw (fun a' U hW => word_at hW (Or.inl (by first | rfl | simp [Cond.onTables, Cond.keeps, Cond.steady])) hini)
  obtain ⟨hx, hb, hml, ho, -⟩ := S
  intro T hT X
  obtain ⟨v, vm₁, ⟨U', l2, c2, s2⟩, hW₁, X', ⟨g', mk, t, L, e1, e2, hq, h1, hL, h2, h3⟩, st⟩ := vx_callSW X hx (hh := hh) (bytes := bytes) (maxL := maxL) (ret := ret) ho hl hstt hini hcode hy hK hg (hsize.trans hml.symm) (argsL := As) (rest := rest) (fun sig h => hn.trans (hlen sig h)) hstack hW (by rw [hb]; exact hdg)
    (fun vm₁ hW₁ => ⟨hf.1, hf.2, hp.2 (T.setVm vm₁) hT hW₁⟩)
  dsimp only [Pt.U, Pt.locs, Pt.cells, Pt.slots] at X' e1 e2 h1 h2 h3 st
  subst h1; subst h2; subst h3
  exact ⟨v, (T.setVm vm₁).calling g' mk As.toArray, t, U', L, hT, X', hL, e1, e2, hq, st⟩
/-- not caught here, past rows that name other classes: it goes on to the caller -/
theorem vx_outP {p : Program} {l : Launch} {e : Env} {R : Room} {s : State} {m : MethodId} {args : Array Value} {below : List Frame} {meth : Method} {c : Code} {H : Heap} {locs : List Loc} {cells slots : Nat} {free : Addr → Prop} {ls : Array Slot} {rest : List Value} {Qc : Array Value → State → Outcome → State → Prop} {XC : String → State → State → Prop}
    {pc : Nat} {own E : String} {ce : Cell} {q : Addr} {mc ms : Nat} (hown : s.vm.findClass own = some m.cls) (hlocks : meth.locks = false)
    (hpass : ∀ z ∈ c.exceptionTable.toList, covers z pc = false ∨ (z.catchType ≠ 0 ∧ ∃ nm : String, (Cond.classLink own z.catchType nm).before args s = true ∧ va_Nc E nm s)) (hcell : H[q]? = some ce) (hv : ce.vm = .none) (hcl : s.vm.findClass E = some ce.cls)
    (hx : ∀ t : State, t.heap = H → s.vm.Alike t.vm → XC E s t) (hf : ∀ z ∈ locs, free z.base) (hc : cells ≤ mc) (hs : slots ≤ ms) :
    vx_W p l e R s m args below meth c H locs cells slots (vx_MQ below Qc XC args s mc ms free) (F0 m pc ls rest) q := by
  intro T hT X
  have hpl : e.platform.magicAccessors = ({} : Platform).magicAccessors := by rw [X.admits.platform]
  obtain ⟨vm', hW', X', st⟩ := X.outThrough hlocks q (g := F0 m pc ls rest) rfl rfl rfl (cell := ce) (by rw [hT]; exact hcell) (by rw [hv]; rfl)
    (by obtain ⟨k9, h9, -⟩ := Vm.findClass_spec hcl; exact ⟨k9, h9⟩) (fun z hz => by
      rcases hpass z hz with h | ⟨hz0, nm, hl1, hn1⟩
      · exact Or.inl h
      · obtain ⟨c6, hc6, hcl6⟩ := Cond.classLink_spec hown hl1 e.platform hpl
        obtain ⟨a8, b8, h1, h2, h3⟩ := hn1
        cases Option.some.inj (h1.symm.trans hcl)
        cases Option.some.inj (h2.symm.trans hc6)
        exact Or.inr ⟨hz0, _, hcl6, h3⟩)
  obtain ⟨g₀, hfr⟩ := X'.frames_eq
  have hcell9 : ((T.setVm vm').setFrames (.throwing q :: below)).heap[q]? = some ce := by
    show T.heap[q]? = some ce
    rw [hT]; exact hcell
  have hend : Ended ((T.setVm vm').setFrames (.throwing q :: below)) below (.threw q) := State.frames_setFrames _ (State.cur_lt_of_frames hfr)
  refine ⟨(T.setVm vm').setFrames (.throwing q :: below), ?_, .threw q, X'.here.running, hend, Or.inr ⟨q, rfl, E, ce, locs, hx _ hT (X'.ends _).1.alike, hcell9, hv, hcl, (X'.ends _).1, (X'.ends _).2.mono hc hs, hf⟩⟩
  rw [X.pushThrowing_eq]
  exact st
/-- a thing of a world lies in the heap -/
theorem vx_lt {D : va_G} {cl : List vw_C} {ws : va_W} {H1 : Heap} (h : va_P D cl ws H1) {k : Nat} {q : Nat × va_E} (hk : ws[k]? = some q) : q.1 < H1.size := (h k q hk).lt
end VXS
/-! ===== END ===== -/
/-! ===== BEGIN methods with a table of their own: called by a name, returning or throwing ===== -/
section VXH
/-! vx_backW, vx_callVX, vx_callSX, vx_callVW, vx_runVW, vx_runVX, vx_runSX, vx_ofWH follow the same proofs as their sisters above (Free/Laws.lean, Shelf42/LK1.lean); vx_outP calls Shelf42/NT130.lean (outThrough). -/
section
variable {l : Launch} {R : Room} {p : Program} {e : Env} {below : List Frame} {s : State} {sargs : Array Value} {y : MethodName} {len W9 : Nat}
theorem vx_backW {ws : List Cond} {rm : Room} {Pc : Array Value → State → Prop} {Qc : Array Value → State → Outcome → State → Prop} {XC : String → State → State → Prop} {mc ms : Nat} {free : Addr → Prop} {bytes : ByteArray} {maxL : Nat} {ret : Option FieldType} {hh : List (Nat × Nat × Nat × Nat)}
    (hM : vx_Met l y ws rm Pc Qc XC mc ms free) (hblind : FrameBlind Pc) (hrc : rm.cells = mc) (hrs : rm.slots = ms)
    (hframes : rm.frames + 1 ≤ R.frames) (hlocals : W9 + (maxL + 11) + rm.locals ≤ R.locals)
    (hws : ∀ w ∈ ws, ∀ a' U, s.WarmedH U.vm → w.before a' U = true) (hcode : Cond.codeWith y bytes maxL ret hh ∈ ws) (hinit : ∀ a' U, s.WarmedH U.vm → (Cond.initialized y.cls).before a' U = true) :
    vx_Back l R p e below s sargs y len W9 (PreOf R mc ms Pc) (PostOf Qc mc ms free) (vx_Post XC mc ms free) := by
  intro m meth c A g ig mk a X hg hsize hdg hW hn hp
  have h1 : (headSpec ws rm).pre.before a A.U = true := atoms_intro fun w hw => hws w hw _ _ X.warmed
  have h2 : (Cond.codeWith y bytes maxL ret hh).before a A.U = true := hws _ hcode _ _ X.warmed
  have h3 : (Cond.initialized y.cls).before a A.U = true := hinit _ _ X.warmed
  have h4 : A.cells + (headSpec ws rm).room.cells ≤ R.cells := by rw [show (headSpec ws rm).room.cells = mc from hrc]; exact hp.1
  have h5 : A.slots + (headSpec ws rm).room.slots ≤ R.slots := by rw [show (headSpec ws rm).room.slots = ms from hrs]; exact hp.2.1
  have hPc : Pc a (A.U.calling g mk a) := hblind _ _ _ _ hp.2.2
  obtain ⟨U, Ls, c0, s0⟩ := A
  dsimp only [Pt.U, Pt.locs, Pt.cells, Pt.slots] at h1 h2 h3 h4 h5 X hn hPc ⊢
  obtain ⟨m9, methY, cY, hn9, hmY, hcY, -, hlY, -⟩ := Cond.codeWith_spec h2
  cases Option.some.inj (hn9.symm.trans hn)
  obtain ⟨kY, hkY, -⟩ := className_of_methodNamed hn
  have hinitY : kY.init = .initialized := Cond.initialized_spec (findClass_of_methodNamed hn) hkY h3
  have h : At U g.method c below := by rw [hg]; exact X.here
  have hlocals9 : W9 + (maxL + 11) + (headSpec ws rm).room.locals ≤ R.locals := hlocals
  have happ : (headSpec ws rm).appliesLoose y e.platform (U.calling g mk a) = true :=
    Spec.appliesLoose_calling (g := g) h hdg hn hkY hinitY
      (X.room_calling (g := g) (R' := (headSpec ws rm).room) hsize hmY hcY hframes (by rw [hlY]; omega) h4 h5) h1
  obtain ⟨mid, hmid⟩ := h.above
  have hfr : (U.setTop g).frames = (.java g :: mid) ++ below := by rw [State.frames_setTop' g h.top, hmid]; rfl
  obtain ⟨o, s₂, hsteps, -, hend, hq⟩ := Steps.callFree hM p X.admits X.cas X.clock (acts := []) hfr happ hPc trivial
  have hq' : vx_Q Qc XC mc ms free a (U.calling g mk a) o s₂ := hq
  rw [State.frames_setTop' g h.top] at hend
  obtain ⟨g₀, hg0⟩ := Option.isSome_iff_exists.mp h.top
  obtain ⟨r, hr⟩ := State.topJava?_eq_some.mp hg0
  have hr' : (({ U with heap := s₂.heap, slotsUsed := s₂.slotsUsed } : State).setVm s₂.vm).frames = .java g₀ :: r := hr
  rcases hq' with ⟨hqc, L, hfe, hL⟩ | ⟨q, rfl, E, ce, L, hx, hce, hcv, hcl, hW₂, hsm, hL⟩
  · obtain ⟨⟨v, rfl⟩, hW₂, e2, q2, q3, q4, q5, q6⟩ := id hfe
    have e3 : s₂ = ({ (U.calling g mk a).setFrames s₂.frames with heap := s₂.heap, slotsUsed := s₂.slotsUsed } : State).setVm s₂.vm := by
      have : s₂ = ({ s₂ with vm := (U.calling g mk a).vm } : State).setVm s₂.vm := rfl
      rw [e2] at this
      exact this
    obtain ⟨c₂, i₂, len₂, hc₂, hd₂, hf₂⟩ := hend
    have hW' : U.WarmedH s₂.vm := hW₂
    have hcc : c₂ = c := by
      have h1 : s₂.code? g.method = U.code? g.method := by
        rw [State.code?_eq, State.code?_eq, hW'.alike.method?]
      exact Option.some.inj (hc₂.symm.trans (h1.trans h.code))
    subst hcc
    have hlen : len₂ = len := by rw [hdg] at hd₂; cases hd₂; rfl
    subst hlen
    have hs₂ : s₂ = (({ U with heap := s₂.heap, slotsUsed := s₂.slotsUsed } : State).setVm s₂.vm).setTop { g with pc := g.pc + len₂, stack := v.toList ++ g.stack } := by
      refine e3.trans ?_
      rw [hf₂, State.calling_eq h.top, State.setFrames_setFrames, State.setTop_of_frames _ hr', hr]
      rfl
    have hsame : U.sameButNew ({ U with heap := s₂.heap, slotsUsed := s₂.slotsUsed } : State) L mc ms := by
      refine ⟨?_, q2, q3, q4, q5, q6⟩
      obtain ⟨t, ht, -⟩ := State.frames_cons hr
      show ({ U with heap := s₂.heap, slotsUsed := s₂.slotsUsed } : State) = { U.setFrames U.frames with heap := s₂.heap, slotsUsed := s₂.slotsUsed }
      rw [State.setFrames_self ht]
    subst hg
    refine Or.inl ⟨v, ⟨(({ U with heap := s₂.heap, slotsUsed := s₂.slotsUsed } : State).setVm s₂.vm), Ls ++ L, c0 + mc, s0 + ms⟩,
      ⟨X.admits, X.cas, X.clock, X.frames, X.room, X.hears, X.method, X.code, (X.here.setHeapUsed s₂.heap s₂.slotsUsed).setVm hW'.alike, X.tail, State.WarmedH.trans X.warmed hW', X.limits, X.bytes, X.same.trans (hsame.setVm s.vm)⟩,
      ⟨g, mk, s₂, L, rfl, rfl, hqc, rfl, hL, rfl, rfl⟩, ?_⟩
    show Steps p.tables e below _ ((({ U with heap := s₂.heap, slotsUsed := s₂.slotsUsed } : State).setVm s₂.vm).setTop { g with pc := g.pc + len₂, stack := v.toList ++ g.stack })
    rw [← hs₂]
    exact hsteps
  · obtain ⟨e2, q2, q3, q4, q5, q6⟩ := id hsm
    have e3 : s₂ = ({ (U.calling g mk a).setFrames s₂.frames with heap := s₂.heap, slotsUsed := s₂.slotsUsed } : State).setVm s₂.vm := by
      have : s₂ = ({ s₂ with vm := (U.calling g mk a).vm } : State).setVm s₂.vm := rfl
      rw [e2] at this
      exact this
    have hf₂ : s₂.frames = .throwing q :: .java g :: U.frames.tail := hend
    have hW' : U.WarmedH s₂.vm := hW₂
    have hs₂ : s₂ = ((({ U with heap := s₂.heap, slotsUsed := s₂.slotsUsed } : State).setVm s₂.vm).setTop g).pushFrame (.throwing q) := by
      refine e3.trans ?_
      rw [hf₂, State.calling_eq h.top, State.setFrames_setFrames, State.pushFrame, State.frames_setTop _ hr', State.setTop_of_frames _ hr', State.setFrames_setFrames, hr]
      rfl
    have hsame : U.sameButNew ({ U with heap := s₂.heap, slotsUsed := s₂.slotsUsed } : State) L mc ms := by
      refine ⟨?_, q2, q3, q4, q5, q6⟩
      obtain ⟨t, ht, -⟩ := State.frames_cons hr
      show ({ U with heap := s₂.heap, slotsUsed := s₂.slotsUsed } : State) = { U.setFrames U.frames with heap := s₂.heap, slotsUsed := s₂.slotsUsed }
      rw [State.setFrames_self ht]
    subst hg
    refine Or.inr ⟨q, ⟨(({ U with heap := s₂.heap, slotsUsed := s₂.slotsUsed } : State).setVm s₂.vm), Ls ++ L, c0 + mc, s0 + ms⟩,
      ⟨X.admits, X.cas, X.clock, X.frames, X.room, X.hears, X.method, X.code, (X.here.setHeapUsed s₂.heap s₂.slotsUsed).setVm hW'.alike, X.tail, State.WarmedH.trans X.warmed hW', X.limits, X.bytes, X.same.trans (hsame.setVm s.vm)⟩,
      ⟨g, mk, s₂, L, E, ce, rfl, rfl, hx, hce, hcv, hcl, rfl, hL, rfl, rfl⟩, ?_⟩
    show Steps p.tables e below _ (((({ U with heap := s₂.heap, slotsUsed := s₂.slotsUsed } : State).setVm s₂.vm).setTop g).pushFrame (.throwing q))
    rw [← hs₂]
    exact hsteps
end
variable {p : Program} {l : Launch} {e : Env} {R : Room} {s : State} {m : MethodId} {args : Array Value} {below : List Frame} {meth : Method} {c : Code} {T : State} {H : Heap} {locs : List Loc} {cells slots : Nat}
theorem vx_callVX (X : Stand p l e R s m args below meth c T locs cells slots) (hexec : p.tables.exec = Jvm.exec) {own C : String} {index : Nat} {y : MethodName} {bytes : ByteArray} {maxL : Nat} {ret : Option FieldType} {hh : List (Nat × Nat × Nat × Nat)}
    (hown : s.vm.findClass own = some m.cls) (hlink : (Cond.methodLink own index y).before args s = true) (hinst : (Cond.instanceMethod y).before args s = true) (hsel : (Cond.selects C y y).before args s = true)
    (hcode : (Cond.codeWith y bytes maxL ret hh).before args s = true) (hy : y.cls ≠ "java/lang/invoke/MethodHandle" ∧ y.cls ≠ "java/lang/invoke/VarHandle")
    {W9 : Nat} {Pre : Pt → Array Value → Prop} {Post : Pt → Array Value → Option Value → Pt → Prop} {PostX : Pt → Array Value → Addr → Pt → Prop} (hK : vx_Back l R p e below s args y 3 W9 Pre Post PostX)
    {b : Addr} {cellB : Cell} (hcell : T.heap[b]? = some cellB) (hobj : cellB.vm.isStatics = false) (hcls : s.vm.findClass C = some cellB.cls)
    {g : JFrame} (hg : g.method = m) (hsize : g.locals.size = c.maxLocals) {argsL rest : List Value} (hlen : ∀ sig, parseMethodDescriptor y.desc = some sig → argsL.length = sig.parameters.length)
    (hstack : g.stack = argsL.reverse ++ .ref b :: rest) (hW : 2 * g.monitorRoom + (rest.map fun v => v.category).sum ≤ W9) (hdg : decode c.code g.pc = .ok (.invokevirtual index, 3))
    (hpre : ∀ vm₁, s.WarmedH vm₁ → Pre ⟨T.setVm vm₁, locs, cells, slots⟩ (Value.ref b :: argsL).toArray) :
    (∃ (v : Option Value) (vm₁ : Vm) (B : Pt), s.WarmedH vm₁ ∧ Stand p l e R s m args below meth c B.U B.locs B.cells B.slots ∧ Post ⟨T.setVm vm₁, locs, cells, slots⟩ (Value.ref b :: argsL).toArray v B ∧
      ∀ target, Steps p.tables e below (B.U.setTop { g with pc := g.pc + 3, stack := v.toList ++ rest }) target → Steps p.tables e below (T.setTop g) target) ∨
    (∃ (q : Addr) (vm₁ : Vm) (B : Pt), s.WarmedH vm₁ ∧ Stand p l e R s m args below meth c B.U B.locs B.cells B.slots ∧ PostX ⟨T.setVm vm₁, locs, cells, slots⟩ (Value.ref b :: argsL).toArray q B ∧
      Steps p.tables e below (T.setTop g) ((B.U.setTop { g with stack := rest }).pushFrame (.throwing q))) := by
  obtain ⟨mk, methM, hnamed, hmethM, hstM, habM⟩ := Cond.instanceMethod_spec hinst
  obtain ⟨m8, methM', cM, hn8, hmethM', -, -, -, -, -, -, hsigM⟩ := Cond.codeWith_spec hcode
  cases Option.some.inj (hn8.symm.trans hnamed)
  cases hmethM.symm.trans hmethM'
  obtain ⟨c2, r2, m2, q1, q2, q3, q4, kP, hkP, hkPi⟩ := Cond.selects_spec hsel
  cases hcls.symm.trans q1
  cases (State.methodFound?_of_named hnamed hy).symm.trans q2
  cases hnamed.symm.trans q3
  have hselP : selectMethod e.platform s.vm cellB.cls mk = .method mk := by rw [Launch.admits_selectMethod X.admits]; exact q4
  obtain ⟨vm₁, X₁, hstep₁⟩ := X.invokevirtual hexec hown hlink hnamed hmethM hstM hkP hkPi hy (a := b) (cell := cellB) hcell
    (fun z h => by rw [h] at hobj; cases hobj) hselP hmethM habM hkP hkPi (g := g) hg (argsL := argsL) (rest := rest) (hlen _ hsigM) hstack hdg
  rcases hK m meth c ⟨T.setVm vm₁, locs, cells, slots⟩ { g with stack := rest } (.invokevirtual index) mk (Value.ref b :: argsL).toArray X₁ hg hsize hdg hW (X₁.named hnamed) (hpre vm₁ X₁.warmed) with ⟨v, B, X', hpost, hsteps⟩ | ⟨q, B, X', hpost, hsteps⟩
  · exact Or.inl ⟨v, vm₁, B, X₁.warmed, X', hpost, fun target h => hstep₁ _ fun acts => by rw [doInvoke_state]; exact hsteps.trans h⟩
  · exact Or.inr ⟨q, vm₁, B, X₁.warmed, X', hpost, hstep₁ _ fun acts => by rw [doInvoke_state]; exact hsteps⟩
theorem vx_callSX (X : Stand p l e R s m args below meth c T locs cells slots) (hexec : p.tables.exec = Jvm.exec) {own : String} {index : Nat} {y : MethodName} {bytes : ByteArray} {maxL : Nat} {ret : Option FieldType} {hh : List (Nat × Nat × Nat × Nat)}
    (hown : s.vm.findClass own = some m.cls) (hlink : (Cond.methodLink own index y).before args s = true) (hstat : (Cond.static y).before args s = true) (hinit : (Cond.initialized y.cls).before args s = true)
    (hcode : (Cond.codeWith y bytes maxL ret hh).before args s = true) (hy : y.cls ≠ "java/lang/invoke/MethodHandle" ∧ y.cls ≠ "java/lang/invoke/VarHandle")
    {W9 : Nat} {Pre : Pt → Array Value → Prop} {Post : Pt → Array Value → Option Value → Pt → Prop} {PostX : Pt → Array Value → Addr → Pt → Prop} (hK : vx_Back l R p e below s args y 3 W9 Pre Post PostX)
    {g : JFrame} (hg : g.method = m) (hsize : g.locals.size = c.maxLocals) {argsL rest : List Value} (hlen : ∀ sig, parseMethodDescriptor y.desc = some sig → argsL.length = sig.parameters.length)
    (hstack : g.stack = argsL.reverse ++ rest) (hW : 2 * g.monitorRoom + (rest.map fun v => v.category).sum ≤ W9) (hdg : decode c.code g.pc = .ok (.invokestatic index, 3))
    (hpre : ∀ vm₁, s.WarmedH vm₁ → Pre ⟨T.setVm vm₁, locs, cells, slots⟩ argsL.toArray) :
    (∃ (v : Option Value) (vm₁ : Vm) (B : Pt), s.WarmedH vm₁ ∧ Stand p l e R s m args below meth c B.U B.locs B.cells B.slots ∧ Post ⟨T.setVm vm₁, locs, cells, slots⟩ argsL.toArray v B ∧
      ∀ target, Steps p.tables e below (B.U.setTop { g with pc := g.pc + 3, stack := v.toList ++ rest }) target → Steps p.tables e below (T.setTop g) target) ∨
    (∃ (q : Addr) (vm₁ : Vm) (B : Pt), s.WarmedH vm₁ ∧ Stand p l e R s m args below meth c B.U B.locs B.cells B.slots ∧ PostX ⟨T.setVm vm₁, locs, cells, slots⟩ argsL.toArray q B ∧
      Steps p.tables e below (T.setTop g) ((B.U.setTop { g with stack := rest }).pushFrame (.throwing q))) := by
  obtain ⟨mk, methM, cM, hnamed, hmethM, -, -, -, -, -, -, hsigM⟩ := Cond.codeWith_spec hcode
  have hstatic : methM.isStatic = true := Cond.static_spec hnamed hmethM hstat
  obtain ⟨kP, hkP, -⟩ := className_of_methodNamed hnamed
  have hinitP : kP.init = .initialized := Cond.initialized_spec (findClass_of_methodNamed hnamed) hkP hinit
  obtain ⟨vm₁, X₁, hstep₁⟩ := X.invokestatic hexec hown hlink hnamed hmethM hstatic hkP hinitP hy (g := g) hg (argsL := argsL) (rest := rest) (hlen _ hsigM) hstack hdg
  rcases hK m meth c ⟨T.setVm vm₁, locs, cells, slots⟩ { g with stack := rest } (.invokestatic index) mk argsL.toArray X₁ hg hsize hdg hW (X₁.named hnamed) (hpre vm₁ X₁.warmed) with ⟨v, B, X', hpost, hsteps⟩ | ⟨q, B, X', hpost, hsteps⟩
  · exact Or.inl ⟨v, vm₁, B, X₁.warmed, X', hpost, fun target h => hstep₁ _ fun acts => by rw [doInvoke_state]; exact hsteps.trans h⟩
  · exact Or.inr ⟨q, vm₁, B, X₁.warmed, X', hpost, hstep₁ _ fun acts => by rw [doInvoke_state]; exact hsteps⟩
theorem vx_callVW (X : Stand p l e R s m args below meth c T locs cells slots) (hexec : p.tables.exec = Jvm.exec) {own C : String} {index : Nat} {y : MethodName} {bytes : ByteArray} {maxL : Nat} {ret : Option FieldType} {hh : List (Nat × Nat × Nat × Nat)}
    (hown : s.vm.findClass own = some m.cls) (hlink : (Cond.methodLink own index y).before args s = true) (hinst : (Cond.instanceMethod y).before args s = true) (hsel : (Cond.selects C y y).before args s = true)
    (hcode : (Cond.codeWith y bytes maxL ret hh).before args s = true) (hy : y.cls ≠ "java/lang/invoke/MethodHandle" ∧ y.cls ≠ "java/lang/invoke/VarHandle")
    {W9 : Nat} {Pre : Pt → Array Value → Prop} {Post : Pt → Array Value → Option Value → Pt → Prop} (hK : Back l R p e below s args y 3 W9 Pre Post)
    {b : Addr} {cellB : Cell} (hcell : T.heap[b]? = some cellB) (hobj : cellB.vm.isStatics = false) (hcls : s.vm.findClass C = some cellB.cls)
    {g : JFrame} (hg : g.method = m) (hsize : g.locals.size = c.maxLocals) {argsL rest : List Value} (hlen : ∀ sig, parseMethodDescriptor y.desc = some sig → argsL.length = sig.parameters.length)
    (hstack : g.stack = argsL.reverse ++ .ref b :: rest) (hW : 2 * g.monitorRoom + (rest.map fun v => v.category).sum ≤ W9) (hdg : decode c.code g.pc = .ok (.invokevirtual index, 3))
    (hpre : ∀ vm₁, s.WarmedH vm₁ → Pre ⟨T.setVm vm₁, locs, cells, slots⟩ (Value.ref b :: argsL).toArray) :
    ∃ (v : Option Value) (vm₁ : Vm) (B : Pt), s.WarmedH vm₁ ∧ Stand p l e R s m args below meth c B.U B.locs B.cells B.slots ∧ Post ⟨T.setVm vm₁, locs, cells, slots⟩ (Value.ref b :: argsL).toArray v B ∧
      ∀ target, Steps p.tables e below (B.U.setTop { g with pc := g.pc + 3, stack := v.toList ++ rest }) target → Steps p.tables e below (T.setTop g) target := by
  obtain ⟨mk, methM, hnamed, hmethM, hstM, habM⟩ := Cond.instanceMethod_spec hinst
  obtain ⟨m8, methM', cM, hn8, hmethM', -, -, -, -, -, -, hsigM⟩ := Cond.codeWith_spec hcode
  cases Option.some.inj (hn8.symm.trans hnamed)
  cases hmethM.symm.trans hmethM'
  obtain ⟨c2, r2, m2, q1, q2, q3, q4, kP, hkP, hkPi⟩ := Cond.selects_spec hsel
  cases hcls.symm.trans q1
  cases (State.methodFound?_of_named hnamed hy).symm.trans q2
  cases hnamed.symm.trans q3
  have hselP : selectMethod e.platform s.vm cellB.cls mk = .method mk := by rw [Launch.admits_selectMethod X.admits]; exact q4
  obtain ⟨vm₁, X₁, hstep₁⟩ := X.invokevirtual hexec hown hlink hnamed hmethM hstM hkP hkPi hy (a := b) (cell := cellB) hcell
    (fun z h => by rw [h] at hobj; cases hobj) hselP hmethM habM hkP hkPi (g := g) hg (argsL := argsL) (rest := rest) (hlen _ hsigM) hstack hdg
  obtain ⟨v, B, X', hpost, hsteps⟩ := hK m meth c ⟨T.setVm vm₁, locs, cells, slots⟩ { g with stack := rest } (.invokevirtual index) mk (Value.ref b :: argsL).toArray X₁ hg hsize hdg hW (X₁.named hnamed) (hpre vm₁ X₁.warmed)
  exact ⟨v, vm₁, B, X₁.warmed, X', hpost, fun target h => hstep₁ _ fun acts => by rw [doInvoke_state]; exact hsteps.trans h⟩
abbrev vx_CVW (R : Room) (s : State) (args : Array Value) (own C : String) (index : Nat) (y : MethodName) (bytes : ByteArray) (maxL : Nat) (ret : Option FieldType) (hh : List (Nat × Nat × Nat × Nat)) (ws : List Cond) (rm : Room) (mc ms n : Nat) : Prop :=
  (rm.cells = mc ∧ rm.slots = ms ∧ rm.frames + 1 ≤ R.frames ∧ 8 + (maxL + 11) + rm.locals ≤ R.locals ∧ (∀ w ∈ ws, ∀ (a' : Array Value) (U : State), s.WarmedH U.vm → w.before a' U = true) ∧ Cond.codeWith y bytes maxL ret hh ∈ ws) ∧
  (Cond.codeWith y bytes maxL ret hh).before args s = true ∧ (Cond.initialized y.cls).before args s = true ∧ (y.cls ≠ "java/lang/invoke/MethodHandle" ∧ y.cls ≠ "java/lang/invoke/VarHandle") ∧
  (∀ sig, parseMethodDescriptor y.desc = some sig → n = sig.parameters.length) ∧ (Cond.methodLink own index y).before args s = true ∧ (Cond.instanceMethod y).before args s = true ∧ (Cond.selects C y y).before args s = true
theorem vx_cwVW {own C : String} {index maxL mc ms : Nat} {y : MethodName} {bytes : ByteArray} {ret : Option FieldType} {hh : List (Nat × Nat × Nat × Nat)} {Ts ws ws' : List Cond} {rm : Room} (n : Nat) (ht : ∀ w ∈ Ts, w.before args s = true) (hT : GoodIn Ts (wsV own index C y ws)) (hw : ws = Cond.codeWith y bytes maxL ret hh :: ws') (hrc : rm.cells = mc) (hrs : rm.slots = ms)
    (hd : y.cls = C ∧ y.cls ≠ "java/lang/invoke/MethodHandle" ∧ y.cls ≠ "java/lang/invoke/VarHandle" ∧ (parseMethodDescriptor y.desc).map (fun d => d.parameters.length) = some n) (hR : rm.frames + 1 ≤ R.frames ∧ 8 + (maxL + 11) + rm.locals ≤ R.locals) :
    vx_CVW R s args own C index y bytes maxL ret hh ws rm mc ms n := by
  obtain ⟨hC, hd⟩ := hd
  subst hC
  have ok : ∀ w ∈ wsV own index y.cls y ws, w.before args s = true := fun w h => ht w (hT w h).1
  have hG : GoodIn Ts ws := fun w h => hT w (by unfold wsV; exact List.mem_append_right _ h)
  have hc : Cond.codeWith y bytes maxL ret hh ∈ ws := by rw [hw]; exact List.mem_cons_self
  refine ⟨⟨hrc, hrs, hR.1, hR.2, pay_in ht hG, hc⟩, ht _ (hG _ hc).1, ok _ (by simp [wsV]), ⟨hd.1, hd.2.1⟩, fun sig h => ?_, ok _ (by simp [wsV]), ok _ (by simp [wsV]), ok _ (by simp [wsV])⟩
  have h2 := hd.2.2
  rw [h] at h2
  exact (Option.some.inj h2).symm
theorem vx_runVW {y : MethodName} {bytes cc : ByteArray} {maxL nL mc ms n index : Nat} {ret : Option FieldType} {hh : List (Nat × Nat × Nat × Nat)} {ws : List Cond} {rm : Room} {Pc : Array Value → State → Prop} {Qc : Array Value → State → Outcome → State → Prop} {free : Addr → Prop} {Ts : List Cond} {own C : String} {b : Addr} {As rest : List Value} {g : JFrame}
    (S : CallFix p m c cc nL s args Ts own) (hM : Met l y ws rm Pc Qc mc ms free) (cw : vx_CVW R s args own C index y bytes maxL ret hh ws rm mc ms n) (hp : PreV s H C b Pc As)
    (hg : g.method = m) (hn : As.length = n) (hsize : g.locals.size = nL) (hstack : g.stack = As.reverse ++ .ref b :: rest) (hW : 2 * g.monitorRoom + (rest.map fun v => v.category).sum ≤ 8) (hdg : decode cc g.pc = .ok (.invokevirtual index, 3)) (hf : cells + mc ≤ R.cells ∧ slots + ms ≤ R.slots) :
    va_Run p l e R s m args below meth c H locs cells slots mc ms g rest (Qc (Value.ref b :: As).toArray) free := by
  obtain ⟨⟨hrc, hrs, hfr, hlo, hws, hcw⟩, hcode, hini, hy, hlen, hl, hin, hse⟩ := cw
  have hK : Back l R p e below s args y 3 8 (PreOf R mc ms Pc) (PostOf Qc mc ms free) := va_backW (hh := hh) (bytes := bytes) (maxL := maxL) (ret := ret) hM hp.1 hrc hrs hfr hlo hws hcw (fun a' U hW => word_at hW (Or.inl (by first | rfl | simp [Cond.onTables, Cond.keeps, Cond.steady])) hini)
  obtain ⟨hx, hb, hml, ho, -⟩ := S
  obtain ⟨-, ⟨cellB, hcB, hoB, hclB⟩, hPc⟩ := hp
  intro T hT X
  obtain ⟨v, vm₁, ⟨U', l2, c2, s2⟩, hW₁, X', ⟨g', mk, t, L, e1, e2, hq, h1, hL, h2, h3⟩, st⟩ := vx_callVW X hx (C := C) (hh := hh) (bytes := bytes) (maxL := maxL) (ret := ret) ho hl hin hse hcode hy hK (by rw [hT]; exact hcB) hoB hclB hg (hsize.trans hml.symm) (argsL := As) (rest := rest) (fun sig h => hn.trans (hlen sig h)) hstack hW (by rw [hb]; exact hdg)
    (fun vm₁ hW₁ => ⟨hf.1, hf.2, hPc (T.setVm vm₁) hT hW₁⟩)
  dsimp only [Pt.U, Pt.locs, Pt.cells, Pt.slots] at X' e1 e2 h1 h2 h3 st
  subst h1; subst h2; subst h3
  exact ⟨v, (T.setVm vm₁).calling g' mk (Value.ref b :: As).toArray, t, U', L, hT, X', hL, e1, e2, hq, st⟩
section
variable {y : MethodName} {bytes cc : ByteArray} {maxL nL mc ms n index : Nat} {ret : Option FieldType} {ws : List Cond} {rm : Room} {Pc : Array Value → State → Prop} {Qc : Array Value → State → Outcome → State → Prop} {XC : String → State → State → Prop} {free : Addr → Prop} {Ts : List Cond} {own C : String} {b : Addr} {As rest : List Value} {g : JFrame}
theorem vx_runVX {hh : List (Nat × Nat × Nat × Nat)} (S : CallFix p m c cc nL s args Ts own) (hM : vx_Met l y ws rm Pc Qc XC mc ms free) (cw : vx_CVW R s args own C index y bytes maxL ret hh ws rm mc ms n) (hp : PreV s H C b Pc As)
    (hg : g.method = m) (hn : As.length = n) (hsize : g.locals.size = nL) (hstack : g.stack = As.reverse ++ .ref b :: rest) (hW : 2 * g.monitorRoom + (rest.map fun v => v.category).sum ≤ 8) (hdg : decode cc g.pc = .ok (.invokevirtual index, 3)) (hf : cells + mc ≤ R.cells ∧ slots + ms ≤ R.slots) :
    vx_Run p l e R s m args below meth c H locs cells slots mc ms g rest (Qc (Value.ref b :: As).toArray) XC free := by
  obtain ⟨⟨hrc, hrs, hfr, hlo, hws, hcw⟩, hcode, hini, hy, hlen, hl, hin, hse⟩ := cw
  have hK : vx_Back l R p e below s args y 3 8 (PreOf R mc ms Pc) (PostOf Qc mc ms free) (vx_Post XC mc ms free) := vx_backW (hh := hh) (bytes := bytes) (maxL := maxL) (ret := ret) hM hp.1 hrc hrs hfr hlo hws hcw (fun a' U hW => word_at hW (Or.inl (by first | rfl | simp [Cond.onTables, Cond.keeps, Cond.steady])) hini)
  obtain ⟨hx, hb, hml, ho, -⟩ := S
  obtain ⟨-, ⟨cellB, hcB, hoB, hclB⟩, hPc⟩ := hp
  intro T hT X
  rcases vx_callVX X hx (C := C) (hh := hh) (bytes := bytes) (maxL := maxL) (ret := ret) ho hl hin hse hcode hy hK (by rw [hT]; exact hcB) hoB hclB hg (hsize.trans hml.symm) (argsL := As) (rest := rest) (fun sig h => hn.trans (hlen sig h)) hstack hW (by rw [hb]; exact hdg)
    (fun vm₁ hW₁ => ⟨hf.1, hf.2, hPc (T.setVm vm₁) hT hW₁⟩) with ⟨v, vm₁, ⟨U', l2, c2, s2⟩, hW₁, X', ⟨g', mk, t, L, e1, e2, hq, h1, hL, h2, h3⟩, st⟩ | ⟨q, vm₁, ⟨U', l2, c2, s2⟩, hW₁, X', ⟨g', mk, t, L, E, ce, e1, e2, hq, hce, hcv, hcl, h1, hL, h2, h3⟩, st⟩
  · dsimp only [Pt.U, Pt.locs, Pt.cells, Pt.slots] at X' e1 e2 h1 h2 h3 st
    subst h1; subst h2; subst h3
    exact Or.inl ⟨v, (T.setVm vm₁).calling g' mk (Value.ref b :: As).toArray, t, U', L, hT, X', hL, e1, e2, hq, st⟩
  · dsimp only [Pt.U, Pt.locs, Pt.cells, Pt.slots] at X' e1 e2 h1 h2 h3 st hcl
    subst h1; subst h2; subst h3
    exact Or.inr ⟨q, (T.setVm vm₁).calling g' mk (Value.ref b :: As).toArray, t, U', L, E, ce, hT, X', hL, e1, e2, hq, hce, hcv, vx_cls hW₁ hcl, st⟩
theorem vx_runSX {hh : List (Nat × Nat × Nat × Nat)} (S : CallFix p m c cc nL s args Ts own) (hM : vx_Met l y ws rm Pc Qc XC mc ms free) (cw : vx_CSW R s args own index y bytes maxL ret hh ws rm mc ms n) (hp : PreS s H Pc As)
    (hg : g.method = m) (hn : As.length = n) (hsize : g.locals.size = nL) (hstack : g.stack = As.reverse ++ rest) (hW : 2 * g.monitorRoom + (rest.map fun v => v.category).sum ≤ 8) (hdg : decode cc g.pc = .ok (.invokestatic index, 3)) (hf : cells + mc ≤ R.cells ∧ slots + ms ≤ R.slots) :
    vx_Run p l e R s m args below meth c H locs cells slots mc ms g rest (Qc As.toArray) XC free := by
  obtain ⟨⟨hrc, hrs, hfr, hlo, hws, hcw⟩, hcode, hini, hy, hlen, hl, hstt⟩ := cw
  have hK : vx_Back l R p e below s args y 3 8 (PreOf R mc ms Pc) (PostOf Qc mc ms free) (vx_Post XC mc ms free) := vx_backW (hh := hh) (bytes := bytes) (maxL := maxL) (ret := ret) hM hp.1 hrc hrs hfr hlo hws hcw (fun a' U hW => word_at hW (Or.inl (by first | rfl | simp [Cond.onTables, Cond.keeps, Cond.steady])) hini)
  obtain ⟨hx, hb, hml, ho, -⟩ := S
  intro T hT X
  rcases vx_callSX X hx (hh := hh) (bytes := bytes) (maxL := maxL) (ret := ret) ho hl hstt hini hcode hy hK hg (hsize.trans hml.symm) (argsL := As) (rest := rest) (fun sig h => hn.trans (hlen sig h)) hstack hW (by rw [hb]; exact hdg)
    (fun vm₁ hW₁ => ⟨hf.1, hf.2, hp.2 (T.setVm vm₁) hT hW₁⟩) with ⟨v, vm₁, ⟨U', l2, c2, s2⟩, hW₁, X', ⟨g', mk, t, L, e1, e2, hq, h1, hL, h2, h3⟩, st⟩ | ⟨q, vm₁, ⟨U', l2, c2, s2⟩, hW₁, X', ⟨g', mk, t, L, E, ce, e1, e2, hq, hce, hcv, hcl, h1, hL, h2, h3⟩, st⟩
  · dsimp only [Pt.U, Pt.locs, Pt.cells, Pt.slots] at X' e1 e2 h1 h2 h3 st
    subst h1; subst h2; subst h3
    exact Or.inl ⟨v, (T.setVm vm₁).calling g' mk As.toArray, t, U', L, hT, X', hL, e1, e2, hq, st⟩
  · dsimp only [Pt.U, Pt.locs, Pt.cells, Pt.slots] at X' e1 e2 h1 h2 h3 st hcl
    subst h1; subst h2; subst h3
    exact Or.inr ⟨q, (T.setVm vm₁).calling g' mk As.toArray, t, U', L, E, ce, hT, X', hL, e1, e2, hq, hce, hcv, vx_cls hW₁ hcl, st⟩
end
end VXH
theorem vx_ofWH {l : Launch} {y : MethodName} {ws ws' : List Cond} {rm : Room} {Pc : Array Value → State → Prop} {Qc : Array Value → State → Outcome → State → Prop} {XC : String → State → State → Prop} {mc ms : Nat} {free : Addr → Prop} {cc : ByteArray} {maxL : Nat} {ret : Option FieldType} {hh : List (Nat × Nat × Nat × Nat)}
    (hy : plainName y.cls = true) (hw : ws = Cond.codeWith y cc maxL ret hh :: ws')
    (body : ∀ p e s m args below meth c s₁, BodyLoose p l y (headSpec ws rm) cc maxL ret e s m args below meth c s₁ → c.maxLocals = maxL → Pc args s →
      W p l e (headSpec ws rm).room s m args below meth c s.heap [] 0 0 (vx_MQ below Qc XC args s mc ms free) (entryFrame m args maxL)) : vx_Met l y ws rm Pc Qc XC mc ms free := by
  refine MetFree.of_bodyS (code := cc) (maxLocals := maxL) (ret := ret) hy ?_ ?_
  · intro args s m h hn
    obtain ⟨m9, meth, c, hn9, h1, h2, h3, h4, -, h5, h6, -⟩ := Cond.codeWith_spec (atoms_spec (ws := ws) h _ (by rw [hw]; exact List.mem_cons_self))
    cases hn.symm.trans hn9
    exact ⟨meth, c, h1, h2, h3, h4, h5, h6⟩
  · intro p e s m args below meth c s₁ B hml hP _
    have hh0 : s₁.heap = s.heap := by rw [B.state]; rfl
    obtain ⟨t, a1, o, b1, b2, b3⟩ := body p e s m args below meth c s₁ B hml hP s₁ hh0 (Stand.of_body B)
    exact ⟨t, o, a1, b1, b2, b3⟩
/-! ===== END ===== -/
end
section
/-! ===== BEGIN printed: names, fields, word lists, decode rows ===== -/
def RX0 : String := "WhereFound$Register"
def TX0 : u_T := fun k => match k with
  | 0 => ("WhereFound$Register", "day", "I", false)
  | 1 => ("WhereFound$Register", "hour", "I", false)
  | 2 => ("WhereFound$Register", "athletes", "I", false)
  | 3 => ("WhereFound$Register", "settings", "[I", true)
  | _ => ("WhereFound$Register", "rows", "[LWhereFound$Sportsman;", true)
def tyX0 : Nat → FieldType := fun k => match k with
  | 0 => .int
  | 1 => .int
  | 2 => .int
  | 3 => .array .int
  | _ => .array (.object "WhereFound$Sportsman")
abbrev wsX00 : List Cond := u_ws RX0 TX0 5
theorem nmX0 : ∀ a, a < 5 → ∀ b, b < 5 → a ≠ b → (TX0 a).2.1 ≠ (TX0 b).2.1 := by decide +kernel
theorem tyX0_ok : ∀ k, k < 5 → parseFieldDescriptor (TX0 k).2.2.1 = some (tyX0 k) := by decide +kernel
abbrev cX0_init : ByteArray := prog_2_method_1_code
def yX0_init : MethodName := ⟨RX0, "<init>", "()V"⟩
abbrev cX0_find : ByteArray := prog_2_method_2_code
def yX0_find : MethodName := ⟨RX0, "find", "(I)LWhereFound$Sportsman;"⟩
abbrev cX0_rowOf : ByteArray := prog_2_method_3_code
def yX0_rowOf : MethodName := ⟨RX0, "rowOf", "(I)LWhereFound$Sportsman;"⟩
abbrev cX0_become : ByteArray := prog_2_method_4_code
def yX0_become : MethodName := ⟨RX0, "become", "(LWhereFound$Register;)V"⟩
abbrev cX0_settingOrNone : ByteArray := prog_2_method_5_code
def yX0_settingOrNone : MethodName := ⟨RX0, "settingOrNone", "(I)I"⟩
abbrev cX0_enter : ByteArray := prog_2_method_6_code
def yX0_enter : MethodName := ⟨RX0, "enter", "(I)I"⟩
abbrev cX0_change : ByteArray := prog_2_method_7_code
def yX0_change : MethodName := ⟨RX0, "change", "(II)Z"⟩
abbrev cX0_goOn : ByteArray := prog_2_method_8_code
def yX0_goOn : MethodName := ⟨RX0, "goOn", "(II)I"⟩
abbrev cX0_hoursTo : ByteArray := prog_2_method_9_code
def yX0_hoursTo : MethodName := ⟨RX0, "hoursTo", "(II)I"⟩
abbrev cX0_beginQuarter : ByteArray := prog_2_method_10_code
def yX0_beginQuarter : MethodName := ⟨RX0, "beginQuarter", "(I)I"⟩
abbrev cX0_enterSpan : ByteArray := prog_2_method_11_code
def yX0_enterSpan : MethodName := ⟨RX0, "enterSpan", "(IIIII)I"⟩
abbrev cX0_mayStart : ByteArray := prog_2_method_12_code
def yX0_mayStart : MethodName := ⟨RX0, "mayStart", "(LWhereFound$Sportsman;II)Z"⟩
abbrev cX0_noteLateChange : ByteArray := prog_2_method_13_code
def yX0_noteLateChange : MethodName := ⟨RX0, "noteLateChange", "(LWhereFound$Sportsman;)V"⟩
abbrev cX0_visit : ByteArray := prog_2_method_14_code
def yX0_visit : MethodName := ⟨RX0, "visit", "(IIZ)I"⟩
abbrev cX0_strike : ByteArray := prog_2_method_15_code
def yX0_strike : MethodName := ⟨RX0, "strike", "(II)Z"⟩
abbrev cX0_bitsOfThose : ByteArray := prog_2_method_16_code
def yX0_bitsOfThose : MethodName := ⟨RX0, "bitsOfThose", "(III)I"⟩
abbrev cX0_fullestPlace : ByteArray := prog_2_method_17_code
def yX0_fullestPlace : MethodName := ⟨RX0, "fullestPlace", "(II)I"⟩
def RX1 : String := "WhereFound$Sportsman"
def TX1 : u_T := fun k => match k with
  | 0 => ("WhereFound$Sportsman", "risk", "I", false)
  | 1 => ("WhereFound$Sportsman", "came", "I", false)
  | 2 => ("WhereFound$Sportsman", "late", "I", false)
  | 3 => ("WhereFound$Sportsman", "tests", "I", false)
  | 4 => ("WhereFound$Sportsman", "missed", "I", false)
  | 5 => ("WhereFound$Sportsman", "lastTest", "I", false)
  | 6 => ("WhereFound$Sportsman", "failures", "I", false)
  | 7 => ("WhereFound$Sportsman", "failureDay", "[I", true)
  | 8 => ("WhereFound$Sportsman", "failureKind", "[I", true)
  | 9 => ("WhereFound$Sportsman", "struck", "[I", true)
  | _ => ("WhereFound$Sportsman", "slots", "[I", true)
def tyX1 : Nat → FieldType := fun k => match k with
  | 0 => .int
  | 1 => .int
  | 2 => .int
  | 3 => .int
  | 4 => .int
  | 5 => .int
  | 6 => .int
  | 7 => .array .int
  | 8 => .array .int
  | 9 => .array .int
  | _ => .array .int
abbrev wsX10 : List Cond := u_ws RX1 TX1 11
theorem nmX1 : ∀ a, a < 11 → ∀ b, b < 11 → a ≠ b → (TX1 a).2.1 ≠ (TX1 b).2.1 := by decide +kernel
theorem tyX1_ok : ∀ k, k < 11 → parseFieldDescriptor (TX1 k).2.2.1 = some (tyX1 k) := by decide +kernel
abbrev cX1_init : ByteArray := prog_3_method_1_code
def yX1_init : MethodName := ⟨RX1, "<init>", "()V"⟩
abbrev cX1_slotOf : ByteArray := prog_3_method_2_code
def yX1_slotOf : MethodName := ⟨RX1, "slotOf", "(II)I"⟩
abbrev cX1_hourOf : ByteArray := prog_3_method_3_code
def yX1_hourOf : MethodName := ⟨RX1, "hourOf", "(I)I"⟩
abbrev cX1_placeOf : ByteArray := prog_3_method_4_code
def yX1_placeOf : MethodName := ⟨RX1, "placeOf", "(I)I"⟩
abbrev cX1_begin : ByteArray := prog_3_method_5_code
def yX1_begin : MethodName := ⟨RX1, "begin", "(II)V"⟩
abbrev cX1_become : ByteArray := prog_3_method_6_code
def yX1_become : MethodName := ⟨RX1, "become", "(LWhereFound$Sportsman;)V"⟩
abbrev cX1_hasFailure : ByteArray := prog_3_method_7_code
def yX1_hasFailure : MethodName := ⟨RX1, "hasFailure", "(I)Z"⟩
abbrev cX1_note : ByteArray := prog_3_method_8_code
def yX1_note : MethodName := ⟨RX1, "note", "(II)I"⟩
abbrev cX1_firstGap : ByteArray := prog_3_method_9_code
def yX1_firstGap : MethodName := ⟨RX1, "firstGap", "(I)I"⟩
def RX2 : String := "WhereFound$Tally"
def TX2 : u_T := fun k => match k with
  | 0 => ("WhereFound$Tally", "violations", "I", false)
  | 1 => ("WhereFound$Tally", "window", "I", false)
  | 2 => ("WhereFound$Tally", "limit", "I", false)
  | 3 => ("WhereFound$Tally", "notice", "I", false)
  | 4 => ("WhereFound$Tally", "size", "I", false)
  | 5 => ("WhereFound$Tally", "firstOpen", "I", false)
  | 6 => ("WhereFound$Tally", "lastCounting", "I", false)
  | 7 => ("WhereFound$Tally", "days", "[I", true)
  | 8 => ("WhereFound$Tally", "counting", "[Z", true)
  | _ => ("WhereFound$Tally", "violationDays", "[I", true)
def tyX2 : Nat → FieldType := fun k => match k with
  | 0 => .int
  | 1 => .int
  | 2 => .int
  | 3 => .int
  | 4 => .int
  | 5 => .int
  | 6 => .int
  | 7 => .array .int
  | 8 => .array .boolean
  | _ => .array .int
abbrev wsX20 : List Cond := u_ws RX2 TX2 10
theorem nmX2 : ∀ a, a < 10 → ∀ b, b < 10 → a ≠ b → (TX2 a).2.1 ≠ (TX2 b).2.1 := by decide +kernel
theorem tyX2_ok : ∀ k, k < 10 → parseFieldDescriptor (TX2 k).2.2.1 = some (tyX2 k) := by decide +kernel
abbrev cX2_init : ByteArray := prog_4_method_1_code
def yX2_init : MethodName := ⟨RX2, "<init>", "()V"⟩
abbrev cX2_goThrough : ByteArray := prog_4_method_2_code
def yX2_goThrough : MethodName := ⟨RX2, "goThrough", "(LWhereFound$Sportsman;[II)V"⟩
abbrev cX2_add : ByteArray := prog_4_method_3_code
def yX2_add : MethodName := ⟨RX2, "add", "(IZ)V"⟩
abbrev cX2_isNoticed : ByteArray := prog_4_method_4_code
def yX2_isNoticed : MethodName := ⟨RX2, "isNoticed", "(I)Z"⟩
abbrev cX2_doesCount : ByteArray := prog_4_method_5_code
def yX2_doesCount : MethodName := ⟨RX2, "doesCount", "(I)Z"⟩
abbrev cX2_isOpen : ByteArray := prog_4_method_6_code
def yX2_isOpen : MethodName := ⟨RX2, "isOpen", "(I)Z"⟩
abbrev cX2_pointsOn : ByteArray := prog_4_method_7_code
def yX2_pointsOn : MethodName := ⟨RX2, "pointsOn", "(I)I"⟩
abbrev cX2_dayOfOldestPoint : ByteArray := prog_4_method_8_code
def yX2_dayOfOldestPoint : MethodName := ⟨RX2, "dayOfOldestPoint", "(I)I"⟩
abbrev cX2_dayOfViolation : ByteArray := prog_4_method_9_code
def yX2_dayOfViolation : MethodName := ⟨RX2, "dayOfViolation", "(I)I"⟩
def RX3 : String := "WhereFound$Tape"
def TX3 : u_T := fun k => match k with
  | 0 => ("WhereFound$Tape", "size", "I", false)
  | 1 => ("WhereFound$Tape", "token", "I", false)
  | 2 => ("WhereFound$Tape", "first", "I", false)
  | 3 => ("WhereFound$Tape", "value", "I", false)
  | 4 => ("WhereFound$Tape", "next", "I", false)
  | _ => ("WhereFound$Tape", "bytes", "[B", true)
def tyX3 : Nat → FieldType := fun k => match k with
  | 0 => .int
  | 1 => .int
  | 2 => .int
  | 3 => .int
  | 4 => .int
  | _ => .array .byte
abbrev wsX30 : List Cond := u_ws RX3 TX3 6
theorem nmX3 : ∀ a, a < 6 → ∀ b, b < 6 → a ≠ b → (TX3 a).2.1 ≠ (TX3 b).2.1 := by decide +kernel
theorem tyX3_ok : ∀ k, k < 6 → parseFieldDescriptor (TX3 k).2.2.1 = some (tyX3 k) := by decide +kernel
abbrev cX3_init : ByteArray := prog_5_method_1_code
def yX3_init : MethodName := ⟨RX3, "<init>", "()V"⟩
abbrev cX3_hasRoomForFive : ByteArray := prog_5_method_2_code
def yX3_hasRoomForFive : MethodName := ⟨RX3, "hasRoomForFive", "()Z"⟩
abbrev cX3_put : ByteArray := prog_5_method_3_code
def yX3_put : MethodName := ⟨RX3, "put", "(I)V"⟩
abbrev cX3_rewind : ByteArray := prog_5_method_4_code
def yX3_rewind : MethodName := ⟨RX3, "rewind", "()V"⟩
abbrev cX3_readToken : ByteArray := prog_5_method_5_code
def yX3_readToken : MethodName := ⟨RX3, "readToken", "()V"⟩
abbrev cX3_readWord : ByteArray := prog_5_method_6_code
def yX3_readWord : MethodName := ⟨RX3, "readWord", "()V"⟩
abbrev cX3_readNumber : ByteArray := prog_5_method_7_code
def yX3_readNumber : MethodName := ⟨RX3, "readNumber", "()V"⟩
abbrev cX3_isWord : ByteArray := prog_5_method_8_code
def yX3_isWord : MethodName := ⟨RX3, "isWord", "(Ljava/lang/String;)Z"⟩
abbrev cX3_byteAt : ByteArray := prog_5_method_9_code
def yX3_byteAt : MethodName := ⟨RX3, "byteAt", "(I)I"⟩
abbrev cX3_isBlank : ByteArray := prog_5_method_10_code
def yX3_isBlank : MethodName := ⟨RX3, "isBlank", "(I)Z"⟩
abbrev cX3_isLetter : ByteArray := prog_5_method_11_code
def yX3_isLetter : MethodName := ⟨RX3, "isLetter", "(I)Z"⟩
abbrev cX3_isDigit : ByteArray := prog_5_method_12_code
def yX3_isDigit : MethodName := ⟨RX3, "isDigit", "(I)Z"⟩
def RX4 : String := "WhereFound$Text"
def TX4 : u_T := fun k => match k with
  | 0 => ("WhereFound$Text", "foundFault", "I", false)
  | 1 => ("WhereFound$Text", "tape", "LWhereFound$Tape;", true)
  | 2 => ("WhereFound$Text", "numbers", "[I", true)
  | _ => ("WhereFound$Text", "found", "Z", false)
def tyX4 : Nat → FieldType := fun k => match k with
  | 0 => .int
  | 1 => .object "WhereFound$Tape"
  | 2 => .array .int
  | _ => .boolean
abbrev wsX40 : List Cond := u_ws RX4 TX4 4
theorem nmX4 : ∀ a, a < 4 → ∀ b, b < 4 → a ≠ b → (TX4 a).2.1 ≠ (TX4 b).2.1 := by decide +kernel
theorem tyX4_ok : ∀ k, k < 4 → parseFieldDescriptor (TX4 k).2.2.1 = some (tyX4 k) := by decide +kernel
abbrev cX4_init : ByteArray := prog_6_method_1_code
def yX4_init : MethodName := ⟨RX4, "<init>", "(LWhereFound$Tape;)V"⟩
abbrev cX4_perform : ByteArray := prog_6_method_2_code
def yX4_perform : MethodName := ⟨RX4, "perform", "(LWhereFound$Register;)I"⟩
abbrev cX4_performOne : ByteArray := prog_6_method_3_code
def yX4_performOne : MethodName := ⟨RX4, "performOne", "(LWhereFound$Register;)Z"⟩
abbrev cX4_refuse : ByteArray := prog_6_method_4_code
def yX4_refuse : MethodName := ⟨RX4, "refuse", "(II)Z"⟩
abbrev cX4_formOfWord : ByteArray := prog_6_method_5_code
def yX4_formOfWord : MethodName := ⟨RX4, "formOfWord", "()I"⟩
abbrev cX4_readNumbers : ByteArray := prog_6_method_6_code
def yX4_readNumbers : MethodName := ⟨RX4, "readNumbers", "(LWhereFound$Register;I)Z"⟩
abbrev cX4_readOutcome : ByteArray := prog_6_method_7_code
def yX4_readOutcome : MethodName := ⟨RX4, "readOutcome", "()Z"⟩
abbrev cX4_canBeNumber : ByteArray := prog_6_method_8_code
def yX4_canBeNumber : MethodName := ⟨RX4, "canBeNumber", "(LWhereFound$Register;III)Z"⟩
abbrev cX4_canBeOfFiling : ByteArray := prog_6_method_9_code
def yX4_canBeOfFiling : MethodName := ⟨RX4, "canBeOfFiling", "(II)Z"⟩
abbrev cX4_isFailure : ByteArray := prog_6_method_10_code
def yX4_isFailure : MethodName := ⟨RX4, "isFailure", "(LWhereFound$Register;I)Z"⟩
abbrev cX4_doForm : ByteArray := prog_6_method_11_code
def yX4_doForm : MethodName := ⟨RX4, "doForm", "(LWhereFound$Register;I)Z"⟩
def RX5 : String := "WhereFound"
def TX5 : u_T := fun k => match k with
  | 0 => ("WhereFound", "live", "LWhereFound$Register;", false)
  | 1 => ("WhereFound", "kept", "LWhereFound$Register;", false)
  | 2 => ("WhereFound", "tally", "LWhereFound$Tally;", true)
  | 3 => ("WhereFound", "tape", "LWhereFound$Tape;", true)
  | 4 => ("WhereFound", "text", "LWhereFound$Text;", true)
  | 5 => ("WhereFound", "weights", "[I", true)
  | _ => ("WhereFound", "latestFault", "I", false)
def tyX5 : Nat → FieldType := fun k => match k with
  | 0 => .object "WhereFound$Register"
  | 1 => .object "WhereFound$Register"
  | 2 => .object "WhereFound$Tally"
  | 3 => .object "WhereFound$Tape"
  | 4 => .object "WhereFound$Text"
  | 5 => .array .int
  | _ => .int
abbrev wsX50 : List Cond := u_ws RX5 TX5 7
theorem nmX5 : ∀ a, a < 7 → ∀ b, b < 7 → a ≠ b → (TX5 a).2.1 ≠ (TX5 b).2.1 := by decide +kernel
theorem tyX5_ok : ∀ k, k < 7 → parseFieldDescriptor (TX5 k).2.2.1 = some (tyX5 k) := by decide +kernel
abbrev cX5_init : ByteArray := prog_1_method_1_code
def yX5_init : MethodName := ⟨RX5, "<init>", "()V"⟩
abbrev cX5_feed : ByteArray := prog_1_method_2_code
def yX5_feed : MethodName := ⟨RX5, "feed", "(IIIII)I"⟩
abbrev cX5_end : ByteArray := prog_1_method_3_code
def yX5_end : MethodName := ⟨RX5, "end", "(I)Z"⟩
abbrev cX5_tell : ByteArray := prog_1_method_4_code
def yX5_tell : MethodName := ⟨RX5, "tell", "()I"⟩
abbrev cX5_fault : ByteArray := prog_1_method_5_code
def yX5_fault : MethodName := ⟨RX5, "fault", "()I"⟩
abbrev cX5_athlete : ByteArray := prog_1_method_6_code
def yX5_athlete : MethodName := ⟨RX5, "athlete", "(I)I"⟩
abbrev cX5_set : ByteArray := prog_1_method_7_code
def yX5_set : MethodName := ⟨RX5, "set", "(II)Z"⟩
abbrev cX5_at : ByteArray := prog_1_method_8_code
def yX5_at : MethodName := ⟨RX5, "at", "(II)I"⟩
abbrev cX5_file : ByteArray := prog_1_method_9_code
def yX5_file : MethodName := ⟨RX5, "file", "(IIIII)I"⟩
abbrev cX5_test : ByteArray := prog_1_method_10_code
def yX5_test : MethodName := ⟨RX5, "test", "(IIZ)I"⟩
abbrev cX5_appeal : ByteArray := prog_1_method_11_code
def yX5_appeal : MethodName := ⟨RX5, "appeal", "(II)Z"⟩
abbrev cX5_count : ByteArray := prog_1_method_12_code
def yX5_count : MethodName := ⟨RX5, "count", "(I)I"⟩
abbrev cX5_of : ByteArray := prog_1_method_13_code
def yX5_of : MethodName := ⟨RX5, "of", "(II)I"⟩
abbrev cX5_filed : ByteArray := prog_1_method_14_code
def yX5_filed : MethodName := ⟨RX5, "filed", "(III)I"⟩
abbrev cX5_failure : ByteArray := prog_1_method_15_code
def yX5_failure : MethodName := ⟨RX5, "failure", "(III)I"⟩
abbrev cX5_violation : ByteArray := prog_1_method_16_code
def yX5_violation : MethodName := ⟨RX5, "violation", "(II)I"⟩
abbrev cX5_hole : ByteArray := prog_1_method_17_code
def yX5_hole : MethodName := ⟨RX5, "hole", "(II)I"⟩
abbrev cX5_lot : ByteArray := prog_1_method_18_code
def yX5_lot : MethodName := ⟨RX5, "lot", "(II)I"⟩
abbrev cX5_chance : ByteArray := prog_1_method_19_code
def yX5_chance : MethodName := ⟨RX5, "chance", "(IZ)I"⟩
abbrev cX5_round : ByteArray := prog_1_method_20_code
def yX5_round : MethodName := ⟨RX5, "round", "(III)I"⟩
abbrev cX5_there : ByteArray := prog_1_method_21_code
def yX5_there : MethodName := ⟨RX5, "there", "(III)I"⟩
abbrev cX5_danger : ByteArray := prog_1_method_22_code
def yX5_danger : MethodName := ⟨RX5, "danger", "(I)I"⟩
abbrev cX5_easier : ByteArray := prog_1_method_23_code
def yX5_easier : MethodName := ⟨RX5, "easier", "(I)I"⟩
abbrev cX5_without : ByteArray := prog_1_method_24_code
def yX5_without : MethodName := ⟨RX5, "without", "(II)I"⟩
abbrev cX5_worst : ByteArray := prog_1_method_25_code
def yX5_worst : MethodName := ⟨RX5, "worst", "()I"⟩
abbrev cX5_pointsOf : ByteArray := prog_1_method_26_code
def yX5_pointsOf : MethodName := ⟨RX5, "pointsOf", "(LWhereFound$Sportsman;)I"⟩
abbrev cX5_violationsOf : ByteArray := prog_1_method_27_code
def yX5_violationsOf : MethodName := ⟨RX5, "violationsOf", "(LWhereFound$Sportsman;)I"⟩
abbrev cX5_weightOf : ByteArray := prog_1_method_28_code
def yX5_weightOf : MethodName := ⟨RX5, "weightOf", "(LWhereFound$Sportsman;)I"⟩
abbrev cX5_weighAll : ByteArray := prog_1_method_29_code
def yX5_weighAll : MethodName := ⟨RX5, "weighAll", "()I"⟩
abbrev cX5_firstAbove : ByteArray := prog_1_method_30_code
def yX5_firstAbove : MethodName := ⟨RX5, "firstAbove", "(J)I"⟩
abbrev cX5_greatestDivisor : ByteArray := prog_1_method_31_code
def yX5_greatestDivisor : MethodName := ⟨RX5, "greatestDivisor", "(II)I"⟩
abbrev cX5_hoursOfRound : ByteArray := prog_1_method_32_code
def yX5_hoursOfRound : MethodName := ⟨RX5, "hoursOfRound", "(I)I"⟩
abbrev cX5_athletesOfRound : ByteArray := prog_1_method_33_code
def yX5_athletesOfRound : MethodName := ⟨RX5, "athletesOfRound", "(I)I"⟩
abbrev cX5_canBeRisk : ByteArray := prog_1_method_34_code
def yX5_canBeRisk : MethodName := ⟨RX5, "canBeRisk", "(I)Z"⟩
abbrev cX5_isSetting : ByteArray := prog_1_method_35_code
def yX5_isSetting : MethodName := ⟨RX5, "isSetting", "(I)Z"⟩
abbrev cX5_canBeSetting : ByteArray := prog_1_method_36_code
def yX5_canBeSetting : MethodName := ⟨RX5, "canBeSetting", "(II)Z"⟩
abbrev cX5_canBeDay : ByteArray := prog_1_method_37_code
def yX5_canBeDay : MethodName := ⟨RX5, "canBeDay", "(I)Z"⟩
abbrev cX5_canBeHour : ByteArray := prog_1_method_38_code
def yX5_canBeHour : MethodName := ⟨RX5, "canBeHour", "(I)Z"⟩
abbrev cX5_canBeFiledDay : ByteArray := prog_1_method_39_code
def yX5_canBeFiledDay : MethodName := ⟨RX5, "canBeFiledDay", "(I)Z"⟩
abbrev cX5_canBeSpan : ByteArray := prog_1_method_40_code
def yX5_canBeSpan : MethodName := ⟨RX5, "canBeSpan", "(II)Z"⟩
abbrev cX5_canBeFiledHour : ByteArray := prog_1_method_41_code
def yX5_canBeFiledHour : MethodName := ⟨RX5, "canBeFiledHour", "(I)Z"⟩
abbrev cX5_canBePlace : ByteArray := prog_1_method_42_code
def yX5_canBePlace : MethodName := ⟨RX5, "canBePlace", "(I)Z"⟩
def RX6 : String := "WhereFoundModel"
def TX6 : u_T := fun k => match k with
  | 0 => ("WhereFoundModel", "raised", "I", false)
  | 1 => ("WhereFoundModel", "w", "[I", true)
  | 2 => ("WhereFoundModel", "back", "[I", true)
  | 3 => ("WhereFoundModel", "lowest", "[I", true)
  | 4 => ("WhereFoundModel", "highest", "[I", true)
  | 5 => ("WhereFoundModel", "tape", "[I", true)
  | 6 => ("WhereFoundModel", "taped", "I", false)
  | 7 => ("WhereFoundModel", "fault", "I", false)
  | 8 => ("WhereFoundModel", "spot", "I", false)
  | 9 => ("WhereFoundModel", "wrong", "I", false)
  | 10 => ("WhereFoundModel", "value", "I", false)
  | 11 => ("WhereFoundModel", "place", "I", false)
  | 12 => ("WhereFoundModel", "statements", "I", false)
  | 13 => ("WhereFoundModel", "read", "[I", true)
  | 14 => ("WhereFoundModel", "counts", "[Z", true)
  | 15 => ("WhereFoundModel", "isOpen", "[Z", true)
  | 16 => ("WhereFoundModel", "violated", "[I", true)
  | _ => ("WhereFoundModel", "violations", "I", false)
def tyX6 : Nat → FieldType := fun k => match k with
  | 0 => .int
  | 1 => .array .int
  | 2 => .array .int
  | 3 => .array .int
  | 4 => .array .int
  | 5 => .array .int
  | 6 => .int
  | 7 => .int
  | 8 => .int
  | 9 => .int
  | 10 => .int
  | 11 => .int
  | 12 => .int
  | 13 => .array .int
  | 14 => .array .boolean
  | 15 => .array .boolean
  | 16 => .array .int
  | _ => .int
abbrev wsX60 : List Cond := u_ws RX6 TX6 18
theorem nmX6 : ∀ a, a < 18 → ∀ b, b < 18 → a ≠ b → (TX6 a).2.1 ≠ (TX6 b).2.1 := by decide +kernel
theorem tyX6_ok : ∀ k, k < 18 → parseFieldDescriptor (TX6 k).2.2.1 = some (tyX6 k) := by decide +kernel
abbrev cX6_init : ByteArray := prog_8_method_1_code
def yX6_init : MethodName := ⟨RX6, "<init>", "()V"⟩
abbrev cX6_thrown : ByteArray := prog_8_method_2_code
def yX6_thrown : MethodName := ⟨RX6, "thrown", "()I"⟩
abbrev cX6_in : ByteArray := prog_8_method_3_code
def yX6_in : MethodName := ⟨RX6, "in", "(III)Z"⟩
abbrev cX6_isAthlete : ByteArray := prog_8_method_4_code
def yX6_isAthlete : MethodName := ⟨RX6, "isAthlete", "(I)Z"⟩
abbrev cX6_cell : ByteArray := prog_8_method_5_code
def yX6_cell : MethodName := ⟨RX6, "cell", "(II)I"⟩
abbrev cX6_its : ByteArray := prog_8_method_6_code
def yX6_its : MethodName := ⟨RX6, "its", "(II)I"⟩
abbrev cX6_fails : ByteArray := prog_8_method_7_code
def yX6_fails : MethodName := ⟨RX6, "fails", "(III)Z"⟩
abbrev cX6_comes : ByteArray := prog_8_method_8_code
def yX6_comes : MethodName := ⟨RX6, "comes", "(I)I"⟩
abbrev cX6_isBehind : ByteArray := prog_8_method_9_code
def yX6_isBehind : MethodName := ⟨RX6, "isBehind", "(II)Z"⟩
abbrev cX6_isFiled : ByteArray := prog_8_method_10_code
def yX6_isFiled : MethodName := ⟨RX6, "isFiled", "(II)Z"⟩
abbrev cX6_holeOf : ByteArray := prog_8_method_11_code
def yX6_holeOf : MethodName := ⟨RX6, "holeOf", "(II)I"⟩
abbrev cX6_goesOn : ByteArray := prog_8_method_12_code
def yX6_goesOn : MethodName := ⟨RX6, "goesOn", "(II)I"⟩
abbrev cX6_hourOf : ByteArray := prog_8_method_13_code
def yX6_hourOf : MethodName := ⟨RX6, "hourOf", "(II)I"⟩
abbrev cX6_placeOf : ByteArray := prog_8_method_14_code
def yX6_placeOf : MethodName := ⟨RX6, "placeOf", "(II)I"⟩
abbrev cX6_mayFile : ByteArray := prog_8_method_15_code
def yX6_mayFile : MethodName := ⟨RX6, "mayFile", "(III)Z"⟩
abbrev cX6_isLate : ByteArray := prog_8_method_16_code
def yX6_isLate : MethodName := ⟨RX6, "isLate", "(I)V"⟩
abbrev cX6_files : ByteArray := prog_8_method_17_code
def yX6_files : MethodName := ⟨RX6, "files", "(IIIII)I"⟩
abbrev cX6_tests : ByteArray := prog_8_method_18_code
def yX6_tests : MethodName := ⟨RX6, "tests", "(IIZ)I"⟩
abbrev cX6_isFailure : ByteArray := prog_8_method_19_code
def yX6_isFailure : MethodName := ⟨RX6, "isFailure", "(II)Z"⟩
abbrev cX6_strikes : ByteArray := prog_8_method_20_code
def yX6_strikes : MethodName := ⟨RX6, "strikes", "(II)Z"⟩
abbrev cX6_athlete : ByteArray := prog_8_method_21_code
def yX6_athlete : MethodName := ⟨RX6, "athlete", "(I)I"⟩
abbrev cX6_set : ByteArray := prog_8_method_22_code
def yX6_set : MethodName := ⟨RX6, "set", "(II)Z"⟩
abbrev cX6_at : ByteArray := prog_8_method_23_code
def yX6_at : MethodName := ⟨RX6, "at", "(II)I"⟩
abbrev cX6_canFile : ByteArray := prog_8_method_24_code
def yX6_canFile : MethodName := ⟨RX6, "canFile", "(IIII)Z"⟩
abbrev cX6_file : ByteArray := prog_8_method_25_code
def yX6_file : MethodName := ⟨RX6, "file", "(IIIII)I"⟩
abbrev cX6_test : ByteArray := prog_8_method_26_code
def yX6_test : MethodName := ⟨RX6, "test", "(IIZ)I"⟩
abbrev cX6_appeal : ByteArray := prog_8_method_27_code
def yX6_appeal : MethodName := ⟨RX6, "appeal", "(II)Z"⟩
abbrev cX6_four : ByteArray := prog_8_method_28_code
def yX6_four : MethodName := ⟨RX6, "four", "(I)V"⟩
abbrev cX6_feed : ByteArray := prog_8_method_29_code
def yX6_feed : MethodName := ⟨RX6, "feed", "(IIIII)I"⟩
abbrev cX6_end : ByteArray := prog_8_method_30_code
def yX6_end : MethodName := ⟨RX6, "end", "(I)Z"⟩
abbrev cX6_here : ByteArray := prog_8_method_31_code
def yX6_here : MethodName := ⟨RX6, "here", "()I"⟩
abbrev cX6_wrong : ByteArray := prog_8_method_32_code
def yX6_wrong : MethodName := ⟨RX6, "wrong", "(II)Z"⟩
abbrev cX6_readWord : ByteArray := prog_8_method_33_code
def yX6_readWord : MethodName := ⟨RX6, "readWord", "()J"⟩
abbrev cX6_number : ByteArray := prog_8_method_34_code
def yX6_number : MethodName := ⟨RX6, "number", "(III)Z"⟩
abbrev cX6_who : ByteArray := prog_8_method_35_code
def yX6_who : MethodName := ⟨RX6, "who", "()Z"⟩
abbrev cX6_readFile : ByteArray := prog_8_method_36_code
def yX6_readFile : MethodName := ⟨RX6, "readFile", "()Z"⟩
abbrev cX6_readTest : ByteArray := prog_8_method_37_code
def yX6_readTest : MethodName := ⟨RX6, "readTest", "()Z"⟩
abbrev cX6_readRest : ByteArray := prog_8_method_38_code
def yX6_readRest : MethodName := ⟨RX6, "readRest", "(JI)Z"⟩
abbrev cX6_does : ByteArray := prog_8_method_39_code
def yX6_does : MethodName := ⟨RX6, "does", "(J)Z"⟩
abbrev cX6_readStatement : ByteArray := prog_8_method_40_code
def yX6_readStatement : MethodName := ⟨RX6, "readStatement", "()Z"⟩
abbrev cX6_readText : ByteArray := prog_8_method_41_code
def yX6_readText : MethodName := ⟨RX6, "readText", "()Z"⟩
abbrev cX6_tell : ByteArray := prog_8_method_42_code
def yX6_tell : MethodName := ⟨RX6, "tell", "()I"⟩
abbrev cX6_fault : ByteArray := prog_8_method_43_code
def yX6_fault : MethodName := ⟨RX6, "fault", "()I"⟩
abbrev cX6_dayOf : ByteArray := prog_8_method_44_code
def yX6_dayOf : MethodName := ⟨RX6, "dayOf", "(II)I"⟩
abbrev cX6_openBehind : ByteArray := prog_8_method_45_code
def yX6_openBehind : MethodName := ⟨RX6, "openBehind", "(III)I"⟩
abbrev cX6_walksBy : ByteArray := prog_8_method_46_code
def yX6_walksBy : MethodName := ⟨RX6, "walksBy", "(III)V"⟩
abbrev cX6_walks : ByteArray := prog_8_method_47_code
def yX6_walks : MethodName := ⟨RX6, "walks", "(I)V"⟩
abbrev cX6_pointsNow : ByteArray := prog_8_method_48_code
def yX6_pointsNow : MethodName := ⟨RX6, "pointsNow", "(I)I"⟩
abbrev cX6_weightOf : ByteArray := prog_8_method_49_code
def yX6_weightOf : MethodName := ⟨RX6, "weightOf", "(I)I"⟩
abbrev cX6_latesOf : ByteArray := prog_8_method_50_code
def yX6_latesOf : MethodName := ⟨RX6, "latesOf", "(I)I"⟩
abbrev cX6_violationsOf : ByteArray := prog_8_method_51_code
def yX6_violationsOf : MethodName := ⟨RX6, "violationsOf", "(I)I"⟩
abbrev cX6_of : ByteArray := prog_8_method_52_code
def yX6_of : MethodName := ⟨RX6, "of", "(II)I"⟩
abbrev cX6_count : ByteArray := prog_8_method_53_code
def yX6_count : MethodName := ⟨RX6, "count", "(I)I"⟩
abbrev cX6_isDay : ByteArray := prog_8_method_54_code
def yX6_isDay : MethodName := ⟨RX6, "isDay", "(I)Z"⟩
abbrev cX6_filed : ByteArray := prog_8_method_55_code
def yX6_filed : MethodName := ⟨RX6, "filed", "(III)I"⟩
abbrev cX6_failure : ByteArray := prog_8_method_56_code
def yX6_failure : MethodName := ⟨RX6, "failure", "(III)I"⟩
abbrev cX6_violation : ByteArray := prog_8_method_57_code
def yX6_violation : MethodName := ⟨RX6, "violation", "(II)I"⟩
abbrev cX6_hole : ByteArray := prog_8_method_58_code
def yX6_hole : MethodName := ⟨RX6, "hole", "(II)I"⟩
abbrev cX6_sumBut : ByteArray := prog_8_method_59_code
def yX6_sumBut : MethodName := ⟨RX6, "sumBut", "(I)I"⟩
abbrev cX6_lot : ByteArray := prog_8_method_60_code
def yX6_lot : MethodName := ⟨RX6, "lot", "(II)I"⟩
abbrev cX6_divisor : ByteArray := prog_8_method_61_code
def yX6_divisor : MethodName := ⟨RX6, "divisor", "(II)I"⟩
abbrev cX6_chance : ByteArray := prog_8_method_62_code
def yX6_chance : MethodName := ⟨RX6, "chance", "(IZ)I"⟩
abbrev cX6_thereAt : ByteArray := prog_8_method_63_code
def yX6_thereAt : MethodName := ⟨RX6, "thereAt", "(III)I"⟩
abbrev cX6_bits : ByteArray := prog_8_method_64_code
def yX6_bits : MethodName := ⟨RX6, "bits", "(I)I"⟩
abbrev cX6_bestPlace : ByteArray := prog_8_method_65_code
def yX6_bestPlace : MethodName := ⟨RX6, "bestPlace", "(II)I"⟩
abbrev cX6_round : ByteArray := prog_8_method_66_code
def yX6_round : MethodName := ⟨RX6, "round", "(III)I"⟩
abbrev cX6_there : ByteArray := prog_8_method_67_code
def yX6_there : MethodName := ⟨RX6, "there", "(III)I"⟩
abbrev cX6_danger : ByteArray := prog_8_method_68_code
def yX6_danger : MethodName := ⟨RX6, "danger", "(I)I"⟩
abbrev cX6_easier : ByteArray := prog_8_method_69_code
def yX6_easier : MethodName := ⟨RX6, "easier", "(I)I"⟩
abbrev cX6_without : ByteArray := prog_8_method_70_code
def yX6_without : MethodName := ⟨RX6, "without", "(II)I"⟩
abbrev cX6_isWorse : ByteArray := prog_8_method_71_code
def yX6_isWorse : MethodName := ⟨RX6, "isWorse", "(II)Z"⟩
abbrev cX6_worst : ByteArray := prog_8_method_72_code
def yX6_worst : MethodName := ⟨RX6, "worst", "()I"⟩
def RJx145de : String := "java/io/Serializable"
def TJx145de : u_T := fun k => match k with
  | _ => ("", "", "", false)
def tyJx145de : Nat → FieldType := fun k => match k with
  | _ => .int
abbrev wsJx145de0 : List Cond := u_ws RJx145de TJx145de 0
theorem nmJx145de : ∀ a, a < 0 → ∀ b, b < 0 → a ≠ b → (TJx145de a).2.1 ≠ (TJx145de b).2.1 := by decide +kernel
theorem tyJx145de_ok : ∀ k, k < 0 → parseFieldDescriptor (TJx145de k).2.2.1 = some (tyJx145de k) := by decide +kernel
def RJx9f9b0 : String := "java/lang/CharSequence"
def TJx9f9b0 : u_T := fun k => match k with
  | _ => ("", "", "", false)
def tyJx9f9b0 : Nat → FieldType := fun k => match k with
  | _ => .int
abbrev wsJx9f9b00 : List Cond := u_ws RJx9f9b0 TJx9f9b0 0
theorem nmJx9f9b0 : ∀ a, a < 0 → ∀ b, b < 0 → a ≠ b → (TJx9f9b0 a).2.1 ≠ (TJx9f9b0 b).2.1 := by decide +kernel
theorem tyJx9f9b0_ok : ∀ k, k < 0 → parseFieldDescriptor (TJx9f9b0 k).2.2.1 = some (tyJx9f9b0 k) := by decide +kernel
def RJx8e188 : String := "java/lang/Cloneable"
def TJx8e188 : u_T := fun k => match k with
  | _ => ("", "", "", false)
def tyJx8e188 : Nat → FieldType := fun k => match k with
  | _ => .int
abbrev wsJx8e1880 : List Cond := u_ws RJx8e188 TJx8e188 0
theorem nmJx8e188 : ∀ a, a < 0 → ∀ b, b < 0 → a ≠ b → (TJx8e188 a).2.1 ≠ (TJx8e188 b).2.1 := by decide +kernel
theorem tyJx8e188_ok : ∀ k, k < 0 → parseFieldDescriptor (TJx8e188 k).2.2.1 = some (tyJx8e188 k) := by decide +kernel
def RJxb160c : String := "java/lang/Comparable"
def TJxb160c : u_T := fun k => match k with
  | _ => ("", "", "", false)
def tyJxb160c : Nat → FieldType := fun k => match k with
  | _ => .int
abbrev wsJxb160c0 : List Cond := u_ws RJxb160c TJxb160c 0
theorem nmJxb160c : ∀ a, a < 0 → ∀ b, b < 0 → a ≠ b → (TJxb160c a).2.1 ≠ (TJxb160c b).2.1 := by decide +kernel
theorem tyJxb160c_ok : ∀ k, k < 0 → parseFieldDescriptor (TJxb160c k).2.2.1 = some (tyJxb160c k) := by decide +kernel
def RJ6 : String := "java/lang/Integer"
def TJ6 : u_T := fun k => match k with
  | _ => ("", "", "", false)
def tyJ6 : Nat → FieldType := fun k => match k with
  | _ => .int
abbrev wsJ60 : List Cond := u_ws RJ6 TJ6 0
theorem nmJ6 : ∀ a, a < 0 → ∀ b, b < 0 → a ≠ b → (TJ6 a).2.1 ≠ (TJ6 b).2.1 := by decide +kernel
theorem tyJ6_ok : ∀ k, k < 0 → parseFieldDescriptor (TJ6 k).2.2.1 = some (tyJ6 k) := by decide +kernel
abbrev cJ6_compare_7cf53 : ByteArray := prog_14_method_40_code
def yJ6_compare_7cf53 : MethodName := ⟨RJ6, "compare", "(II)I"⟩
abbrev cJ6_bitCount_0f7a4 : ByteArray := prog_14_method_49_code
def yJ6_bitCount_0f7a4 : MethodName := ⟨RJ6, "bitCount", "(I)I"⟩
def RJ9 : String := "java/lang/Math"
def TJ9 : u_T := fun k => match k with
  | _ => ("", "", "", false)
def tyJ9 : Nat → FieldType := fun k => match k with
  | _ => .int
abbrev wsJ90 : List Cond := u_ws RJ9 TJ9 0
theorem nmJ9 : ∀ a, a < 0 → ∀ b, b < 0 → a ≠ b → (TJ9 a).2.1 ≠ (TJ9 b).2.1 := by decide +kernel
theorem tyJ9_ok : ∀ k, k < 0 → parseFieldDescriptor (TJ9 k).2.2.1 = some (tyJ9 k) := by decide +kernel
abbrev cJ9_min_7cf53 : ByteArray := prog_15_method_69_code
def yJ9_min_7cf53 : MethodName := ⟨RJ9, "min", "(II)I"⟩
def RJ0 : String := "java/lang/String"
def TJ0 : u_T := fun k => match k with
  | _ => ("", "", "", false)
def tyJ0 : Nat → FieldType := fun k => match k with
  | _ => .int
abbrev wsJ00 : List Cond := u_ws RJ0 TJ0 0
theorem nmJ0 : ∀ a, a < 0 → ∀ b, b < 0 → a ≠ b → (TJ0 a).2.1 ≠ (TJ0 b).2.1 := by decide +kernel
theorem tyJ0_ok : ∀ k, k < 0 → parseFieldDescriptor (TJ0 k).2.2.1 = some (tyJ0 k) := by decide +kernel
abbrev cJ0_length_8abf5 : ByteArray := prog_17_method_54_code
def yJ0_length_8abf5 : MethodName := ⟨RJ0, "length", "()I"⟩
abbrev cJ0_charAt_5068e : ByteArray := prog_17_method_56_code
def yJ0_charAt_5068e : MethodName := ⟨RJ0, "charAt", "(I)C"⟩
abbrev cJ0_coder_7d493 : ByteArray := prog_17_method_152_code
def yJ0_coder_7d493 : MethodName := ⟨RJ0, "coder", "()B"⟩
abbrev cJ0_isLatin1_aae02 : ByteArray := prog_17_method_154_code
def yJ0_isLatin1_aae02 : MethodName := ⟨RJ0, "isLatin1", "()Z"⟩
abbrev cJ0_checkIndex_df160 : ByteArray := prog_17_method_155_code
def yJ0_checkIndex_df160 : MethodName := ⟨RJ0, "checkIndex", "(II)V"⟩
def RJ1 : String := "java/lang/StringLatin1"
def TJ1 : u_T := fun k => match k with
  | _ => ("", "", "", false)
def tyJ1 : Nat → FieldType := fun k => match k with
  | _ => .int
abbrev wsJ10 : List Cond := u_ws RJ1 TJ1 0
theorem nmJ1 : ∀ a, a < 0 → ∀ b, b < 0 → a ≠ b → (TJ1 a).2.1 ≠ (TJ1 b).2.1 := by decide +kernel
theorem tyJ1_ok : ∀ k, k < 0 → parseFieldDescriptor (TJ1 k).2.2.1 = some (tyJ1 k) := by decide +kernel
abbrev cJ1_charAt_3b067 : ByteArray := prog_18_method_2_code
def yJ1_charAt_3b067 : MethodName := ⟨RJ1, "charAt", "([BI)C"⟩
def RJ2 : String := "java/lang/StringUTF16"
def TJ2 : u_T := fun k => match k with
  | _ => ("", "", "", false)
def tyJ2 : Nat → FieldType := fun k => match k with
  | _ => .int
abbrev wsJ20 : List Cond := u_ws RJ2 TJ2 0
theorem nmJ2 : ∀ a, a < 0 → ∀ b, b < 0 → a ≠ b → (TJ2 a).2.1 ≠ (TJ2 b).2.1 := by decide +kernel
theorem tyJ2_ok : ∀ k, k < 0 → parseFieldDescriptor (TJ2 k).2.2.1 = some (tyJ2 k) := by decide +kernel
abbrev cJ2_getChar_3b067 : ByteArray := prog_19_method_5_code
def yJ2_getChar_3b067 : MethodName := ⟨RJ2, "getChar", "([BI)C"⟩
abbrev cJ2_length_9d52b : ByteArray := prog_19_method_6_code
def yJ2_length_9d52b : MethodName := ⟨RJ2, "length", "([B)I"⟩
abbrev cJ2_charAt_3b067 : ByteArray := prog_19_method_83_code
def yJ2_charAt_3b067 : MethodName := ⟨RJ2, "charAt", "([BI)C"⟩
abbrev cJ2_checkIndex_2214a : ByteArray := prog_19_method_91_code
def yJ2_checkIndex_2214a : MethodName := ⟨RJ2, "checkIndex", "(I[B)V"⟩
def RJ10 : String := "java/lang/System"
def TJ10 : u_T := fun k => match k with
  | _ => ("", "", "", false)
def tyJ10 : Nat → FieldType := fun k => match k with
  | _ => .int
abbrev wsJ100 : List Cond := u_ws RJ10 TJ10 0
theorem nmJ10 : ∀ a, a < 0 → ∀ b, b < 0 → a ≠ b → (TJ10 a).2.1 ≠ (TJ10 b).2.1 := by decide +kernel
theorem tyJ10_ok : ∀ k, k < 0 → parseFieldDescriptor (TJ10 k).2.2.1 = some (tyJ10 k) := by decide +kernel
def RJxfd54e : String := "java/lang/constant/Constable"
def TJxfd54e : u_T := fun k => match k with
  | _ => ("", "", "", false)
def tyJxfd54e : Nat → FieldType := fun k => match k with
  | _ => .int
abbrev wsJxfd54e0 : List Cond := u_ws RJxfd54e TJxfd54e 0
theorem nmJxfd54e : ∀ a, a < 0 → ∀ b, b < 0 → a ≠ b → (TJxfd54e a).2.1 ≠ (TJxfd54e b).2.1 := by decide +kernel
theorem tyJxfd54e_ok : ∀ k, k < 0 → parseFieldDescriptor (TJxfd54e k).2.2.1 = some (tyJxfd54e k) := by decide +kernel
def RJx3cf43 : String := "java/lang/constant/ConstantDesc"
def TJx3cf43 : u_T := fun k => match k with
  | _ => ("", "", "", false)
def tyJx3cf43 : Nat → FieldType := fun k => match k with
  | _ => .int
abbrev wsJx3cf430 : List Cond := u_ws RJx3cf43 TJx3cf43 0
theorem nmJx3cf43 : ∀ a, a < 0 → ∀ b, b < 0 → a ≠ b → (TJx3cf43 a).2.1 ≠ (TJx3cf43 b).2.1 := by decide +kernel
theorem tyJx3cf43_ok : ∀ k, k < 0 → parseFieldDescriptor (TJx3cf43 k).2.2.1 = some (tyJx3cf43 k) := by decide +kernel
def RJ7 : String := "java/util/Arrays"
def TJ7 : u_T := fun k => match k with
  | _ => ("", "", "", false)
def tyJ7 : Nat → FieldType := fun k => match k with
  | _ => .int
abbrev wsJ70 : List Cond := u_ws RJ7 TJ7 0
theorem nmJ7 : ∀ a, a < 0 → ∀ b, b < 0 → a ≠ b → (TJ7 a).2.1 ≠ (TJ7 b).2.1 := by decide +kernel
theorem tyJ7_ok : ∀ k, k < 0 → parseFieldDescriptor (TJ7 k).2.2.1 = some (tyJ7 k) := by decide +kernel
abbrev cJ7_fill_53178 : ByteArray := prog_24_method_103_code
def yJ7_fill_53178 : MethodName := ⟨RJ7, "fill", "([II)V"⟩
def RJ3 : String := "jdk/internal/util/Preconditions"
def TJ3 : u_T := fun k => match k with
  | _ => ("", "", "", false)
def tyJ3 : Nat → FieldType := fun k => match k with
  | _ => .int
abbrev wsJ30 : List Cond := u_ws RJ3 TJ3 0
theorem nmJ3 : ∀ a, a < 0 → ∀ b, b < 0 → a ≠ b → (TJ3 a).2.1 ≠ (TJ3 b).2.1 := by decide +kernel
theorem tyJ3_ok : ∀ k, k < 0 → parseFieldDescriptor (TJ3 k).2.2.1 = some (tyJ3 k) := by decide +kernel
abbrev cJ3_checkIndex_8e157 : ByteArray := prog_26_method_11_code
def yJ3_checkIndex_8e157 : MethodName := ⟨RJ3, "checkIndex", "(IILjava/util/function/BiFunction;)I"⟩
def RL : String := "WhereFoundLaw"
abbrev cL_of : ByteArray := method_3_code
def yL_of : MethodName := ⟨RL, "of", "(LWhereFound;II[J)I"⟩
abbrev cL_law : ByteArray := code
def yL_law : MethodName := ⟨RL, "law", "([I)Z"⟩
abbrev vwCl : List vw_C := [(RX0, TX0, 5), (RX1, TX1, 11), (RX2, TX2, 10), (RX3, TX3, 6), (RX4, TX4, 4), (RX5, TX5, 7), (RX6, TX6, 18)]
end
section
theorem dX0_init_0 : decode cX0_init 0 = .ok (.aload_n 0, 1) := by decide +kernel
theorem dX0_init_1 : decode cX0_init 1 = .ok (.invokespecial 3, 3) := by decide +kernel
theorem dX0_init_4 : decode cX0_init 4 = .ok (.aload_n 0, 1) := by decide +kernel
theorem dX0_init_5 : decode cX0_init 5 = .ok (.getstatic 9, 3) := by decide +kernel
theorem dX0_init_8 : decode cX0_init 8 = .ok (.invokevirtual 13, 3) := by decide +kernel
theorem dX0_init_11 : decode cX0_init 11 = .ok (.checkcast 14, 3) := by decide +kernel
theorem dX0_init_14 : decode cX0_init 14 = .ok (.putfield 18, 3) := by decide +kernel
theorem dX0_init_17 : decode cX0_init 17 = .ok (.aload_n 0, 1) := by decide +kernel
theorem dX0_init_18 : decode cX0_init 18 = .ok (.bipush 6, 2) := by decide +kernel
theorem dX0_init_20 : decode cX0_init 20 = .ok (.anewarray 23, 3) := by decide +kernel
theorem dX0_init_23 : decode cX0_init 23 = .ok (.putfield 25, 3) := by decide +kernel
theorem dX0_init_26 : decode cX0_init 26 = .ok (.return_, 1) := by decide +kernel
theorem dX0_find_0 : decode cX0_find 0 = .ok (.iload_n 1, 1) := by decide +kernel
theorem dX0_find_1 : decode cX0_find 1 = .ok (.ifCond .lt 17, 3) := by decide +kernel
theorem dX0_find_4 : decode cX0_find 4 = .ok (.iload_n 1, 1) := by decide +kernel
theorem dX0_find_5 : decode cX0_find 5 = .ok (.aload_n 0, 1) := by decide +kernel
theorem dX0_find_6 : decode cX0_find 6 = .ok (.getfield 29, 3) := by decide +kernel
theorem dX0_find_9 : decode cX0_find 9 = .ok (.if_icmp .ge 9, 3) := by decide +kernel
theorem dX0_find_12 : decode cX0_find 12 = .ok (.iload_n 1, 1) := by decide +kernel
theorem dX0_find_13 : decode cX0_find 13 = .ok (.bipush 6, 2) := by decide +kernel
theorem dX0_find_15 : decode cX0_find 15 = .ok (.if_icmp .lt 5, 3) := by decide +kernel
theorem dX0_find_18 : decode cX0_find 18 = .ok (.aconst_null, 1) := by decide +kernel
theorem dX0_find_19 : decode cX0_find 19 = .ok (.areturn, 1) := by decide +kernel
theorem dX0_find_20 : decode cX0_find 20 = .ok (.aload_n 0, 1) := by decide +kernel
theorem dX0_find_21 : decode cX0_find 21 = .ok (.getfield 25, 3) := by decide +kernel
theorem dX0_find_24 : decode cX0_find 24 = .ok (.iload_n 1, 1) := by decide +kernel
theorem dX0_find_25 : decode cX0_find 25 = .ok (.aaload, 1) := by decide +kernel
theorem dX0_find_26 : decode cX0_find 26 = .ok (.areturn, 1) := by decide +kernel
theorem dX0_rowOf_0 : decode cX0_rowOf 0 = .ok (.aload_n 0, 1) := by decide +kernel
theorem dX0_rowOf_1 : decode cX0_rowOf 1 = .ok (.getfield 25, 3) := by decide +kernel
theorem dX0_rowOf_4 : decode cX0_rowOf 4 = .ok (.iload_n 1, 1) := by decide +kernel
theorem dX0_rowOf_5 : decode cX0_rowOf 5 = .ok (.aaload, 1) := by decide +kernel
theorem dX0_rowOf_6 : decode cX0_rowOf 6 = .ok (.astore_n 2, 1) := by decide +kernel
theorem dX0_rowOf_7 : decode cX0_rowOf 7 = .ok (.aload_n 2, 1) := by decide +kernel
theorem dX0_rowOf_8 : decode cX0_rowOf 8 = .ok (.ifnull 5, 3) := by decide +kernel
theorem dX0_rowOf_11 : decode cX0_rowOf 11 = .ok (.aload_n 2, 1) := by decide +kernel
theorem dX0_rowOf_12 : decode cX0_rowOf 12 = .ok (.areturn, 1) := by decide +kernel
theorem dX0_rowOf_13 : decode cX0_rowOf 13 = .ok (.new 23, 3) := by decide +kernel
theorem dX0_rowOf_16 : decode cX0_rowOf 16 = .ok (.dup, 1) := by decide +kernel
theorem dX0_rowOf_17 : decode cX0_rowOf 17 = .ok (.invokespecial 33, 3) := by decide +kernel
theorem dX0_rowOf_20 : decode cX0_rowOf 20 = .ok (.astore_n 3, 1) := by decide +kernel
theorem dX0_rowOf_21 : decode cX0_rowOf 21 = .ok (.aload_n 0, 1) := by decide +kernel
theorem dX0_rowOf_22 : decode cX0_rowOf 22 = .ok (.getfield 25, 3) := by decide +kernel
theorem dX0_rowOf_25 : decode cX0_rowOf 25 = .ok (.iload_n 1, 1) := by decide +kernel
theorem dX0_rowOf_26 : decode cX0_rowOf 26 = .ok (.aload_n 3, 1) := by decide +kernel
theorem dX0_rowOf_27 : decode cX0_rowOf 27 = .ok (.aastore, 1) := by decide +kernel
theorem dX0_rowOf_28 : decode cX0_rowOf 28 = .ok (.aload_n 3, 1) := by decide +kernel
theorem dX0_rowOf_29 : decode cX0_rowOf 29 = .ok (.areturn, 1) := by decide +kernel
theorem dX0_become_0 : decode cX0_become 0 = .ok (.aload_n 0, 1) := by decide +kernel
theorem dX0_become_1 : decode cX0_become 1 = .ok (.aload_n 1, 1) := by decide +kernel
theorem dX0_become_2 : decode cX0_become 2 = .ok (.getfield 34, 3) := by decide +kernel
theorem dX0_become_5 : decode cX0_become 5 = .ok (.putfield 34, 3) := by decide +kernel
theorem dX0_become_8 : decode cX0_become 8 = .ok (.aload_n 0, 1) := by decide +kernel
theorem dX0_become_9 : decode cX0_become 9 = .ok (.aload_n 1, 1) := by decide +kernel
theorem dX0_become_10 : decode cX0_become 10 = .ok (.getfield 37, 3) := by decide +kernel
theorem dX0_become_13 : decode cX0_become 13 = .ok (.putfield 37, 3) := by decide +kernel
theorem dX0_become_16 : decode cX0_become 16 = .ok (.aload_n 0, 1) := by decide +kernel
theorem dX0_become_17 : decode cX0_become 17 = .ok (.aload_n 1, 1) := by decide +kernel
theorem dX0_become_18 : decode cX0_become 18 = .ok (.getfield 29, 3) := by decide +kernel
theorem dX0_become_21 : decode cX0_become 21 = .ok (.putfield 29, 3) := by decide +kernel
theorem dX0_become_24 : decode cX0_become 24 = .ok (.aload_n 1, 1) := by decide +kernel
theorem dX0_become_25 : decode cX0_become 25 = .ok (.getfield 18, 3) := by decide +kernel
theorem dX0_become_28 : decode cX0_become 28 = .ok (.iconst 0, 1) := by decide +kernel
theorem dX0_become_29 : decode cX0_become 29 = .ok (.aload_n 0, 1) := by decide +kernel
theorem dX0_become_30 : decode cX0_become 30 = .ok (.getfield 18, 3) := by decide +kernel
theorem dX0_become_33 : decode cX0_become 33 = .ok (.iconst 0, 1) := by decide +kernel
theorem dX0_become_34 : decode cX0_become 34 = .ok (.bipush 6, 2) := by decide +kernel
theorem dX0_become_36 : decode cX0_become 36 = .ok (.invokestatic 40, 3) := by decide +kernel
theorem dX0_become_39 : decode cX0_become 39 = .ok (.iconst 0, 1) := by decide +kernel
theorem dX0_become_40 : decode cX0_become 40 = .ok (.istore_n 2, 1) := by decide +kernel
theorem dX0_become_41 : decode cX0_become 41 = .ok (.iload_n 2, 1) := by decide +kernel
theorem dX0_become_42 : decode cX0_become 42 = .ok (.bipush 6, 2) := by decide +kernel
theorem dX0_become_44 : decode cX0_become 44 = .ok (.if_icmp .ge 28, 3) := by decide +kernel
theorem dX0_become_47 : decode cX0_become 47 = .ok (.aload_n 1, 1) := by decide +kernel
theorem dX0_become_48 : decode cX0_become 48 = .ok (.iload_n 2, 1) := by decide +kernel
theorem dX0_become_49 : decode cX0_become 49 = .ok (.invokevirtual 46, 3) := by decide +kernel
theorem dX0_become_52 : decode cX0_become 52 = .ok (.astore_n 3, 1) := by decide +kernel
theorem dX0_become_53 : decode cX0_become 53 = .ok (.aload_n 3, 1) := by decide +kernel
theorem dX0_become_54 : decode cX0_become 54 = .ok (.ifnull 12, 3) := by decide +kernel
theorem dX0_become_57 : decode cX0_become 57 = .ok (.aload_n 0, 1) := by decide +kernel
theorem dX0_become_58 : decode cX0_become 58 = .ok (.iload_n 2, 1) := by decide +kernel
theorem dX0_become_59 : decode cX0_become 59 = .ok (.invokevirtual 50, 3) := by decide +kernel
theorem dX0_become_62 : decode cX0_become 62 = .ok (.aload_n 3, 1) := by decide +kernel
theorem dX0_become_63 : decode cX0_become 63 = .ok (.invokevirtual 53, 3) := by decide +kernel
theorem dX0_become_66 : decode cX0_become 66 = .ok (.iinc 2 1, 3) := by decide +kernel
theorem dX0_become_69 : decode cX0_become 69 = .ok (.goto (-28), 3) := by decide +kernel
theorem dX0_become_72 : decode cX0_become 72 = .ok (.return_, 1) := by decide +kernel
theorem dX0_settingOrNone_0 : decode cX0_settingOrNone 0 = .ok (.iload_n 1, 1) := by decide +kernel
theorem dX0_settingOrNone_1 : decode cX0_settingOrNone 1 = .ok (.invokestatic 57, 3) := by decide +kernel
theorem dX0_settingOrNone_4 : decode cX0_settingOrNone 4 = .ok (.ifCond .eq 12, 3) := by decide +kernel
theorem dX0_settingOrNone_7 : decode cX0_settingOrNone 7 = .ok (.aload_n 0, 1) := by decide +kernel
theorem dX0_settingOrNone_8 : decode cX0_settingOrNone 8 = .ok (.getfield 18, 3) := by decide +kernel
theorem dX0_settingOrNone_11 : decode cX0_settingOrNone 11 = .ok (.iload_n 1, 1) := by decide +kernel
theorem dX0_settingOrNone_12 : decode cX0_settingOrNone 12 = .ok (.iaload, 1) := by decide +kernel
theorem dX0_settingOrNone_13 : decode cX0_settingOrNone 13 = .ok (.goto 4, 3) := by decide +kernel
theorem dX0_settingOrNone_16 : decode cX0_settingOrNone 16 = .ok (.iconst (-1), 1) := by decide +kernel
theorem dX0_settingOrNone_17 : decode cX0_settingOrNone 17 = .ok (.ireturn, 1) := by decide +kernel
theorem dX0_enter_0 : decode cX0_enter 0 = .ok (.iload_n 1, 1) := by decide +kernel
theorem dX0_enter_1 : decode cX0_enter 1 = .ok (.invokestatic 61, 3) := by decide +kernel
theorem dX0_enter_4 : decode cX0_enter 4 = .ok (.ifCond .ne 5, 3) := by decide +kernel
theorem dX0_enter_7 : decode cX0_enter 7 = .ok (.iconst (-1), 1) := by decide +kernel
theorem dX0_enter_8 : decode cX0_enter 8 = .ok (.ireturn, 1) := by decide +kernel
theorem dX0_enter_9 : decode cX0_enter 9 = .ok (.aload_n 0, 1) := by decide +kernel
theorem dX0_enter_10 : decode cX0_enter 10 = .ok (.getfield 29, 3) := by decide +kernel
theorem dX0_enter_13 : decode cX0_enter 13 = .ok (.ifCond .lt 12, 3) := by decide +kernel
theorem dX0_enter_16 : decode cX0_enter 16 = .ok (.aload_n 0, 1) := by decide +kernel
theorem dX0_enter_17 : decode cX0_enter 17 = .ok (.getfield 29, 3) := by decide +kernel
theorem dX0_enter_20 : decode cX0_enter 20 = .ok (.bipush 6, 2) := by decide +kernel
theorem dX0_enter_22 : decode cX0_enter 22 = .ok (.if_icmp .lt 6, 3) := by decide +kernel
theorem dX0_enter_25 : decode cX0_enter 25 = .ok (.bipush (-2), 2) := by decide +kernel
theorem dX0_enter_27 : decode cX0_enter 27 = .ok (.ireturn, 1) := by decide +kernel
theorem dX0_enter_28 : decode cX0_enter 28 = .ok (.aload_n 0, 1) := by decide +kernel
theorem dX0_enter_29 : decode cX0_enter 29 = .ok (.aload_n 0, 1) := by decide +kernel
theorem dX0_enter_30 : decode cX0_enter 30 = .ok (.getfield 29, 3) := by decide +kernel
theorem dX0_enter_33 : decode cX0_enter 33 = .ok (.invokevirtual 50, 3) := by decide +kernel
theorem dX0_enter_36 : decode cX0_enter 36 = .ok (.iload_n 1, 1) := by decide +kernel
theorem dX0_enter_37 : decode cX0_enter 37 = .ok (.aload_n 0, 1) := by decide +kernel
theorem dX0_enter_38 : decode cX0_enter 38 = .ok (.getfield 34, 3) := by decide +kernel
theorem dX0_enter_41 : decode cX0_enter 41 = .ok (.invokevirtual 64, 3) := by decide +kernel
theorem dX0_enter_44 : decode cX0_enter 44 = .ok (.aload_n 0, 1) := by decide +kernel
theorem dX0_enter_45 : decode cX0_enter 45 = .ok (.dup, 1) := by decide +kernel
theorem dX0_enter_46 : decode cX0_enter 46 = .ok (.getfield 29, 3) := by decide +kernel
theorem dX0_enter_49 : decode cX0_enter 49 = .ok (.iconst 1, 1) := by decide +kernel
theorem dX0_enter_50 : decode cX0_enter 50 = .ok (.iadd, 1) := by decide +kernel
theorem dX0_enter_51 : decode cX0_enter 51 = .ok (.putfield 29, 3) := by decide +kernel
theorem dX0_enter_54 : decode cX0_enter 54 = .ok (.aload_n 0, 1) := by decide +kernel
theorem dX0_enter_55 : decode cX0_enter 55 = .ok (.getfield 29, 3) := by decide +kernel
theorem dX0_enter_58 : decode cX0_enter 58 = .ok (.iconst 1, 1) := by decide +kernel
theorem dX0_enter_59 : decode cX0_enter 59 = .ok (.isub, 1) := by decide +kernel
theorem dX0_enter_60 : decode cX0_enter 60 = .ok (.ireturn, 1) := by decide +kernel
theorem dX0_change_0 : decode cX0_change 0 = .ok (.iload_n 1, 1) := by decide +kernel
theorem dX0_change_1 : decode cX0_change 1 = .ok (.iload_n 2, 1) := by decide +kernel
theorem dX0_change_2 : decode cX0_change 2 = .ok (.invokestatic 68, 3) := by decide +kernel
theorem dX0_change_5 : decode cX0_change 5 = .ok (.ifCond .eq 13, 3) := by decide +kernel
theorem dX0_change_8 : decode cX0_change 8 = .ok (.aload_n 0, 1) := by decide +kernel
theorem dX0_change_9 : decode cX0_change 9 = .ok (.getfield 18, 3) := by decide +kernel
theorem dX0_change_12 : decode cX0_change 12 = .ok (.iload_n 1, 1) := by decide +kernel
theorem dX0_change_13 : decode cX0_change 13 = .ok (.iaload, 1) := by decide +kernel
theorem dX0_change_14 : decode cX0_change 14 = .ok (.iload_n 2, 1) := by decide +kernel
theorem dX0_change_15 : decode cX0_change 15 = .ok (.if_icmp .ne 5, 3) := by decide +kernel
theorem dX0_change_18 : decode cX0_change 18 = .ok (.iconst 0, 1) := by decide +kernel
theorem dX0_change_19 : decode cX0_change 19 = .ok (.ireturn, 1) := by decide +kernel
theorem dX0_change_20 : decode cX0_change 20 = .ok (.aload_n 0, 1) := by decide +kernel
theorem dX0_change_21 : decode cX0_change 21 = .ok (.getfield 18, 3) := by decide +kernel
theorem dX0_change_24 : decode cX0_change 24 = .ok (.iload_n 1, 1) := by decide +kernel
theorem dX0_change_25 : decode cX0_change 25 = .ok (.iload_n 2, 1) := by decide +kernel
theorem dX0_change_26 : decode cX0_change 26 = .ok (.iastore, 1) := by decide +kernel
theorem dX0_change_27 : decode cX0_change 27 = .ok (.iconst 1, 1) := by decide +kernel
theorem dX0_change_28 : decode cX0_change 28 = .ok (.ireturn, 1) := by decide +kernel
theorem dX0_goOn_0 : decode cX0_goOn 0 = .ok (.iload_n 1, 1) := by decide +kernel
theorem dX0_goOn_1 : decode cX0_goOn 1 = .ok (.invokestatic 72, 3) := by decide +kernel
theorem dX0_goOn_4 : decode cX0_goOn 4 = .ok (.ifCond .eq 10, 3) := by decide +kernel
theorem dX0_goOn_7 : decode cX0_goOn 7 = .ok (.iload_n 2, 1) := by decide +kernel
theorem dX0_goOn_8 : decode cX0_goOn 8 = .ok (.invokestatic 75, 3) := by decide +kernel
theorem dX0_goOn_11 : decode cX0_goOn 11 = .ok (.ifCond .ne 5, 3) := by decide +kernel
theorem dX0_goOn_14 : decode cX0_goOn 14 = .ok (.iconst (-1), 1) := by decide +kernel
theorem dX0_goOn_15 : decode cX0_goOn 15 = .ok (.ireturn, 1) := by decide +kernel
theorem dX0_goOn_16 : decode cX0_goOn 16 = .ok (.aload_n 0, 1) := by decide +kernel
theorem dX0_goOn_17 : decode cX0_goOn 17 = .ok (.iload_n 1, 1) := by decide +kernel
theorem dX0_goOn_18 : decode cX0_goOn 18 = .ok (.iload_n 2, 1) := by decide +kernel
theorem dX0_goOn_19 : decode cX0_goOn 19 = .ok (.invokevirtual 78, 3) := by decide +kernel
theorem dX0_goOn_22 : decode cX0_goOn 22 = .ok (.ifCond .gt 5, 3) := by decide +kernel
theorem dX0_goOn_25 : decode cX0_goOn 25 = .ok (.iconst (-1), 1) := by decide +kernel
theorem dX0_goOn_26 : decode cX0_goOn 26 = .ok (.ireturn, 1) := by decide +kernel
theorem dX0_goOn_27 : decode cX0_goOn 27 = .ok (.iconst 0, 1) := by decide +kernel
theorem dX0_goOn_28 : decode cX0_goOn 28 = .ok (.istore_n 3, 1) := by decide +kernel
theorem dX0_goOn_29 : decode cX0_goOn 29 = .ok (.iload_n 1, 1) := by decide +kernel
theorem dX0_goOn_30 : decode cX0_goOn 30 = .ok (.bipush 30, 2) := by decide +kernel
theorem dX0_goOn_32 : decode cX0_goOn 32 = .ok (.idiv, 1) := by decide +kernel
theorem dX0_goOn_33 : decode cX0_goOn 33 = .ok (.istore 4, 2) := by decide +kernel
theorem dX0_goOn_35 : decode cX0_goOn 35 = .ok (.aload_n 0, 1) := by decide +kernel
theorem dX0_goOn_36 : decode cX0_goOn 36 = .ok (.getfield 34, 3) := by decide +kernel
theorem dX0_goOn_39 : decode cX0_goOn 39 = .ok (.bipush 30, 2) := by decide +kernel
theorem dX0_goOn_41 : decode cX0_goOn 41 = .ok (.idiv, 1) := by decide +kernel
theorem dX0_goOn_42 : decode cX0_goOn 42 = .ok (.iconst 1, 1) := by decide +kernel
theorem dX0_goOn_43 : decode cX0_goOn 43 = .ok (.iadd, 1) := by decide +kernel
theorem dX0_goOn_44 : decode cX0_goOn 44 = .ok (.istore 5, 2) := by decide +kernel
theorem dX0_goOn_46 : decode cX0_goOn 46 = .ok (.iload 5, 2) := by decide +kernel
theorem dX0_goOn_48 : decode cX0_goOn 48 = .ok (.iload 4, 2) := by decide +kernel
theorem dX0_goOn_50 : decode cX0_goOn 50 = .ok (.if_icmp .gt 18, 3) := by decide +kernel
theorem dX0_goOn_53 : decode cX0_goOn 53 = .ok (.iload_n 3, 1) := by decide +kernel
theorem dX0_goOn_54 : decode cX0_goOn 54 = .ok (.aload_n 0, 1) := by decide +kernel
theorem dX0_goOn_55 : decode cX0_goOn 55 = .ok (.iload 5, 2) := by decide +kernel
theorem dX0_goOn_57 : decode cX0_goOn 57 = .ok (.invokevirtual 82, 3) := by decide +kernel
theorem dX0_goOn_60 : decode cX0_goOn 60 = .ok (.iadd, 1) := by decide +kernel
theorem dX0_goOn_61 : decode cX0_goOn 61 = .ok (.istore_n 3, 1) := by decide +kernel
theorem dX0_goOn_62 : decode cX0_goOn 62 = .ok (.iinc 5 1, 3) := by decide +kernel
theorem dX0_goOn_65 : decode cX0_goOn 65 = .ok (.goto (-19), 3) := by decide +kernel
theorem dX0_goOn_68 : decode cX0_goOn 68 = .ok (.aload_n 0, 1) := by decide +kernel
theorem dX0_goOn_69 : decode cX0_goOn 69 = .ok (.iload_n 1, 1) := by decide +kernel
theorem dX0_goOn_70 : decode cX0_goOn 70 = .ok (.putfield 34, 3) := by decide +kernel
theorem dX0_goOn_73 : decode cX0_goOn 73 = .ok (.aload_n 0, 1) := by decide +kernel
theorem dX0_goOn_74 : decode cX0_goOn 74 = .ok (.iload_n 2, 1) := by decide +kernel
theorem dX0_goOn_75 : decode cX0_goOn 75 = .ok (.putfield 37, 3) := by decide +kernel
theorem dX0_goOn_78 : decode cX0_goOn 78 = .ok (.iload_n 3, 1) := by decide +kernel
theorem dX0_goOn_79 : decode cX0_goOn 79 = .ok (.ireturn, 1) := by decide +kernel
theorem dX0_hoursTo_0 : decode cX0_hoursTo 0 = .ok (.iload_n 1, 1) := by decide +kernel
theorem dX0_hoursTo_1 : decode cX0_hoursTo 1 = .ok (.aload_n 0, 1) := by decide +kernel
theorem dX0_hoursTo_2 : decode cX0_hoursTo 2 = .ok (.getfield 34, 3) := by decide +kernel
theorem dX0_hoursTo_5 : decode cX0_hoursTo 5 = .ok (.isub, 1) := by decide +kernel
theorem dX0_hoursTo_6 : decode cX0_hoursTo 6 = .ok (.bipush 24, 2) := by decide +kernel
theorem dX0_hoursTo_8 : decode cX0_hoursTo 8 = .ok (.imul, 1) := by decide +kernel
theorem dX0_hoursTo_9 : decode cX0_hoursTo 9 = .ok (.iload_n 2, 1) := by decide +kernel
theorem dX0_hoursTo_10 : decode cX0_hoursTo 10 = .ok (.iadd, 1) := by decide +kernel
theorem dX0_hoursTo_11 : decode cX0_hoursTo 11 = .ok (.aload_n 0, 1) := by decide +kernel
theorem dX0_hoursTo_12 : decode cX0_hoursTo 12 = .ok (.getfield 37, 3) := by decide +kernel
theorem dX0_hoursTo_15 : decode cX0_hoursTo 15 = .ok (.isub, 1) := by decide +kernel
theorem dX0_hoursTo_16 : decode cX0_hoursTo 16 = .ok (.ireturn, 1) := by decide +kernel
theorem dX0_beginQuarter_0 : decode cX0_beginQuarter 0 = .ok (.iconst 0, 1) := by decide +kernel
theorem dX0_beginQuarter_1 : decode cX0_beginQuarter 1 = .ok (.istore_n 2, 1) := by decide +kernel
theorem dX0_beginQuarter_2 : decode cX0_beginQuarter 2 = .ok (.iconst 0, 1) := by decide +kernel
theorem dX0_beginQuarter_3 : decode cX0_beginQuarter 3 = .ok (.istore_n 3, 1) := by decide +kernel
theorem dX0_beginQuarter_4 : decode cX0_beginQuarter 4 = .ok (.iload_n 3, 1) := by decide +kernel
theorem dX0_beginQuarter_5 : decode cX0_beginQuarter 5 = .ok (.aload_n 0, 1) := by decide +kernel
theorem dX0_beginQuarter_6 : decode cX0_beginQuarter 6 = .ok (.getfield 29, 3) := by decide +kernel
theorem dX0_beginQuarter_9 : decode cX0_beginQuarter 9 = .ok (.if_icmp .ge 50, 3) := by decide +kernel
theorem dX0_beginQuarter_12 : decode cX0_beginQuarter 12 = .ok (.aload_n 0, 1) := by decide +kernel
theorem dX0_beginQuarter_13 : decode cX0_beginQuarter 13 = .ok (.iload_n 3, 1) := by decide +kernel
theorem dX0_beginQuarter_14 : decode cX0_beginQuarter 14 = .ok (.invokevirtual 46, 3) := by decide +kernel
theorem dX0_beginQuarter_17 : decode cX0_beginQuarter 17 = .ok (.astore 4, 2) := by decide +kernel
theorem dX0_beginQuarter_19 : decode cX0_beginQuarter 19 = .ok (.aload 4, 2) := by decide +kernel
theorem dX0_beginQuarter_21 : decode cX0_beginQuarter 21 = .ok (.ifnull 32, 3) := by decide +kernel
theorem dX0_beginQuarter_24 : decode cX0_beginQuarter 24 = .ok (.aload 4, 2) := by decide +kernel
theorem dX0_beginQuarter_26 : decode cX0_beginQuarter 26 = .ok (.iconst 0, 1) := by decide +kernel
theorem dX0_beginQuarter_27 : decode cX0_beginQuarter 27 = .ok (.putfield 86, 3) := by decide +kernel
theorem dX0_beginQuarter_30 : decode cX0_beginQuarter 30 = .ok (.aload 4, 2) := by decide +kernel
theorem dX0_beginQuarter_32 : decode cX0_beginQuarter 32 = .ok (.iload_n 1, 1) := by decide +kernel
theorem dX0_beginQuarter_33 : decode cX0_beginQuarter 33 = .ok (.invokevirtual 89, 3) := by decide +kernel
theorem dX0_beginQuarter_36 : decode cX0_beginQuarter 36 = .ok (.iconst (-1), 1) := by decide +kernel
theorem dX0_beginQuarter_37 : decode cX0_beginQuarter 37 = .ok (.if_icmp .eq 16, 3) := by decide +kernel
theorem dX0_beginQuarter_40 : decode cX0_beginQuarter 40 = .ok (.iload_n 2, 1) := by decide +kernel
theorem dX0_beginQuarter_41 : decode cX0_beginQuarter 41 = .ok (.aload 4, 2) := by decide +kernel
theorem dX0_beginQuarter_43 : decode cX0_beginQuarter 43 = .ok (.iload_n 1, 1) := by decide +kernel
theorem dX0_beginQuarter_44 : decode cX0_beginQuarter 44 = .ok (.bipush 30, 2) := by decide +kernel
theorem dX0_beginQuarter_46 : decode cX0_beginQuarter 46 = .ok (.imul, 1) := by decide +kernel
theorem dX0_beginQuarter_47 : decode cX0_beginQuarter 47 = .ok (.iconst 0, 1) := by decide +kernel
theorem dX0_beginQuarter_48 : decode cX0_beginQuarter 48 = .ok (.invokevirtual 92, 3) := by decide +kernel
theorem dX0_beginQuarter_51 : decode cX0_beginQuarter 51 = .ok (.iadd, 1) := by decide +kernel
theorem dX0_beginQuarter_52 : decode cX0_beginQuarter 52 = .ok (.istore_n 2, 1) := by decide +kernel
theorem dX0_beginQuarter_53 : decode cX0_beginQuarter 53 = .ok (.iinc 3 1, 3) := by decide +kernel
theorem dX0_beginQuarter_56 : decode cX0_beginQuarter 56 = .ok (.goto (-52), 3) := by decide +kernel
theorem dX0_beginQuarter_59 : decode cX0_beginQuarter 59 = .ok (.iload_n 2, 1) := by decide +kernel
theorem dX0_beginQuarter_60 : decode cX0_beginQuarter 60 = .ok (.ireturn, 1) := by decide +kernel
theorem dX0_enterSpan_0 : decode cX0_enterSpan 0 = .ok (.aload_n 0, 1) := by decide +kernel
theorem dX0_enterSpan_1 : decode cX0_enterSpan 1 = .ok (.iload_n 1, 1) := by decide +kernel
theorem dX0_enterSpan_2 : decode cX0_enterSpan 2 = .ok (.invokevirtual 46, 3) := by decide +kernel
theorem dX0_enterSpan_5 : decode cX0_enterSpan 5 = .ok (.astore 6, 2) := by decide +kernel
theorem dX0_enterSpan_7 : decode cX0_enterSpan 7 = .ok (.aload 6, 2) := by decide +kernel
theorem dX0_enterSpan_9 : decode cX0_enterSpan 9 = .ok (.ifnull 11, 3) := by decide +kernel
theorem dX0_enterSpan_12 : decode cX0_enterSpan 12 = .ok (.iload_n 2, 1) := by decide +kernel
theorem dX0_enterSpan_13 : decode cX0_enterSpan 13 = .ok (.iload_n 3, 1) := by decide +kernel
theorem dX0_enterSpan_14 : decode cX0_enterSpan 14 = .ok (.invokestatic 95, 3) := by decide +kernel
theorem dX0_enterSpan_17 : decode cX0_enterSpan 17 = .ok (.ifCond .ne 5, 3) := by decide +kernel
theorem dX0_enterSpan_20 : decode cX0_enterSpan 20 = .ok (.iconst (-1), 1) := by decide +kernel
theorem dX0_enterSpan_21 : decode cX0_enterSpan 21 = .ok (.ireturn, 1) := by decide +kernel
theorem dX0_enterSpan_22 : decode cX0_enterSpan 22 = .ok (.iload 4, 2) := by decide +kernel
theorem dX0_enterSpan_24 : decode cX0_enterSpan 24 = .ok (.invokestatic 98, 3) := by decide +kernel
theorem dX0_enterSpan_27 : decode cX0_enterSpan 27 = .ok (.ifCond .eq 23, 3) := by decide +kernel
theorem dX0_enterSpan_30 : decode cX0_enterSpan 30 = .ok (.iload 5, 2) := by decide +kernel
theorem dX0_enterSpan_32 : decode cX0_enterSpan 32 = .ok (.invokestatic 101, 3) := by decide +kernel
theorem dX0_enterSpan_35 : decode cX0_enterSpan 35 = .ok (.ifCond .eq 15, 3) := by decide +kernel
theorem dX0_enterSpan_38 : decode cX0_enterSpan 38 = .ok (.aload_n 0, 1) := by decide +kernel
theorem dX0_enterSpan_39 : decode cX0_enterSpan 39 = .ok (.aload 6, 2) := by decide +kernel
theorem dX0_enterSpan_41 : decode cX0_enterSpan 41 = .ok (.iload_n 2, 1) := by decide +kernel
theorem dX0_enterSpan_42 : decode cX0_enterSpan 42 = .ok (.iload 4, 2) := by decide +kernel
theorem dX0_enterSpan_44 : decode cX0_enterSpan 44 = .ok (.invokevirtual 104, 3) := by decide +kernel
theorem dX0_enterSpan_47 : decode cX0_enterSpan 47 = .ok (.ifCond .ne 5, 3) := by decide +kernel
theorem dX0_enterSpan_50 : decode cX0_enterSpan 50 = .ok (.iconst (-1), 1) := by decide +kernel
theorem dX0_enterSpan_51 : decode cX0_enterSpan 51 = .ok (.ireturn, 1) := by decide +kernel
theorem dX0_enterSpan_52 : decode cX0_enterSpan 52 = .ok (.iload 4, 2) := by decide +kernel
theorem dX0_enterSpan_54 : decode cX0_enterSpan 54 = .ok (.iload 5, 2) := by decide +kernel
theorem dX0_enterSpan_56 : decode cX0_enterSpan 56 = .ok (.invokestatic 108, 3) := by decide +kernel
theorem dX0_enterSpan_59 : decode cX0_enterSpan 59 = .ok (.istore 7, 2) := by decide +kernel
theorem dX0_enterSpan_61 : decode cX0_enterSpan 61 = .ok (.iconst 0, 1) := by decide +kernel
theorem dX0_enterSpan_62 : decode cX0_enterSpan 62 = .ok (.istore 8, 2) := by decide +kernel
theorem dX0_enterSpan_64 : decode cX0_enterSpan 64 = .ok (.iload_n 2, 1) := by decide +kernel
theorem dX0_enterSpan_65 : decode cX0_enterSpan 65 = .ok (.istore 9, 2) := by decide +kernel
theorem dX0_enterSpan_67 : decode cX0_enterSpan 67 = .ok (.iload 9, 2) := by decide +kernel
theorem dX0_enterSpan_69 : decode cX0_enterSpan 69 = .ok (.iload_n 3, 1) := by decide +kernel
theorem dX0_enterSpan_70 : decode cX0_enterSpan 70 = .ok (.if_icmp .gt 79, 3) := by decide +kernel
theorem dX0_enterSpan_73 : decode cX0_enterSpan 73 = .ok (.aload 6, 2) := by decide +kernel
theorem dX0_enterSpan_75 : decode cX0_enterSpan 75 = .ok (.getfield 111, 3) := by decide +kernel
theorem dX0_enterSpan_78 : decode cX0_enterSpan 78 = .ok (.iload 9, 2) := by decide +kernel
theorem dX0_enterSpan_80 : decode cX0_enterSpan 80 = .ok (.iaload, 1) := by decide +kernel
theorem dX0_enterSpan_81 : decode cX0_enterSpan 81 = .ok (.istore 10, 2) := by decide +kernel
theorem dX0_enterSpan_83 : decode cX0_enterSpan 83 = .ok (.aload 6, 2) := by decide +kernel
theorem dX0_enterSpan_85 : decode cX0_enterSpan 85 = .ok (.getfield 111, 3) := by decide +kernel
theorem dX0_enterSpan_88 : decode cX0_enterSpan 88 = .ok (.iload 9, 2) := by decide +kernel
theorem dX0_enterSpan_90 : decode cX0_enterSpan 90 = .ok (.iload 7, 2) := by decide +kernel
theorem dX0_enterSpan_92 : decode cX0_enterSpan 92 = .ok (.iastore, 1) := by decide +kernel
theorem dX0_enterSpan_93 : decode cX0_enterSpan 93 = .ok (.iload 10, 2) := by decide +kernel
theorem dX0_enterSpan_95 : decode cX0_enterSpan 95 = .ok (.ifCond .eq 48, 3) := by decide +kernel
theorem dX0_enterSpan_98 : decode cX0_enterSpan 98 = .ok (.iload 10, 2) := by decide +kernel
theorem dX0_enterSpan_100 : decode cX0_enterSpan 100 = .ok (.iload 7, 2) := by decide +kernel
theorem dX0_enterSpan_102 : decode cX0_enterSpan 102 = .ok (.if_icmp .eq 41, 3) := by decide +kernel
theorem dX0_enterSpan_105 : decode cX0_enterSpan 105 = .ok (.iinc 8 1, 3) := by decide +kernel
theorem dX0_enterSpan_108 : decode cX0_enterSpan 108 = .ok (.iload 10, 2) := by decide +kernel
theorem dX0_enterSpan_110 : decode cX0_enterSpan 110 = .ok (.invokestatic 114, 3) := by decide +kernel
theorem dX0_enterSpan_113 : decode cX0_enterSpan 113 = .ok (.iload 4, 2) := by decide +kernel
theorem dX0_enterSpan_115 : decode cX0_enterSpan 115 = .ok (.invokestatic 117, 3) := by decide +kernel
theorem dX0_enterSpan_118 : decode cX0_enterSpan 118 = .ok (.istore 11, 2) := by decide +kernel
theorem dX0_enterSpan_120 : decode cX0_enterSpan 120 = .ok (.aload_n 0, 1) := by decide +kernel
theorem dX0_enterSpan_121 : decode cX0_enterSpan 121 = .ok (.iload 9, 2) := by decide +kernel
theorem dX0_enterSpan_123 : decode cX0_enterSpan 123 = .ok (.iload 11, 2) := by decide +kernel
theorem dX0_enterSpan_125 : decode cX0_enterSpan 125 = .ok (.invokevirtual 78, 3) := by decide +kernel
theorem dX0_enterSpan_128 : decode cX0_enterSpan 128 = .ok (.aload_n 0, 1) := by decide +kernel
theorem dX0_enterSpan_129 : decode cX0_enterSpan 129 = .ok (.getfield 18, 3) := by decide +kernel
theorem dX0_enterSpan_132 : decode cX0_enterSpan 132 = .ok (.iconst 3, 1) := by decide +kernel
theorem dX0_enterSpan_133 : decode cX0_enterSpan 133 = .ok (.iaload, 1) := by decide +kernel
theorem dX0_enterSpan_134 : decode cX0_enterSpan 134 = .ok (.if_icmp .ge 9, 3) := by decide +kernel
theorem dX0_enterSpan_137 : decode cX0_enterSpan 137 = .ok (.aload_n 0, 1) := by decide +kernel
theorem dX0_enterSpan_138 : decode cX0_enterSpan 138 = .ok (.aload 6, 2) := by decide +kernel
theorem dX0_enterSpan_140 : decode cX0_enterSpan 140 = .ok (.invokevirtual 122, 3) := by decide +kernel
theorem dX0_enterSpan_143 : decode cX0_enterSpan 143 = .ok (.iinc 9 1, 3) := by decide +kernel
theorem dX0_enterSpan_146 : decode cX0_enterSpan 146 = .ok (.goto (-79), 3) := by decide +kernel
theorem dX0_enterSpan_149 : decode cX0_enterSpan 149 = .ok (.iload 8, 2) := by decide +kernel
theorem dX0_enterSpan_151 : decode cX0_enterSpan 151 = .ok (.ireturn, 1) := by decide +kernel
theorem dX0_mayStart_0 : decode cX0_mayStart 0 = .ok (.iload_n 2, 1) := by decide +kernel
theorem dX0_mayStart_1 : decode cX0_mayStart 1 = .ok (.aload_n 0, 1) := by decide +kernel
theorem dX0_mayStart_2 : decode cX0_mayStart 2 = .ok (.getfield 34, 3) := by decide +kernel
theorem dX0_mayStart_5 : decode cX0_mayStart 5 = .ok (.if_icmp .eq 17, 3) := by decide +kernel
theorem dX0_mayStart_8 : decode cX0_mayStart 8 = .ok (.iload_n 2, 1) := by decide +kernel
theorem dX0_mayStart_9 : decode cX0_mayStart 9 = .ok (.aload_n 0, 1) := by decide +kernel
theorem dX0_mayStart_10 : decode cX0_mayStart 10 = .ok (.getfield 34, 3) := by decide +kernel
theorem dX0_mayStart_13 : decode cX0_mayStart 13 = .ok (.if_icmp .le 7, 3) := by decide +kernel
theorem dX0_mayStart_16 : decode cX0_mayStart 16 = .ok (.iconst 1, 1) := by decide +kernel
theorem dX0_mayStart_17 : decode cX0_mayStart 17 = .ok (.goto 4, 3) := by decide +kernel
theorem dX0_mayStart_20 : decode cX0_mayStart 20 = .ok (.iconst 0, 1) := by decide +kernel
theorem dX0_mayStart_21 : decode cX0_mayStart 21 = .ok (.ireturn, 1) := by decide +kernel
theorem dX0_mayStart_22 : decode cX0_mayStart 22 = .ok (.aload_n 1, 1) := by decide +kernel
theorem dX0_mayStart_23 : decode cX0_mayStart 23 = .ok (.getfield 111, 3) := by decide +kernel
theorem dX0_mayStart_26 : decode cX0_mayStart 26 = .ok (.iload_n 2, 1) := by decide +kernel
theorem dX0_mayStart_27 : decode cX0_mayStart 27 = .ok (.iaload, 1) := by decide +kernel
theorem dX0_mayStart_28 : decode cX0_mayStart 28 = .ok (.istore 4, 2) := by decide +kernel
theorem dX0_mayStart_30 : decode cX0_mayStart 30 = .ok (.iload_n 3, 1) := by decide +kernel
theorem dX0_mayStart_31 : decode cX0_mayStart 31 = .ok (.aload_n 0, 1) := by decide +kernel
theorem dX0_mayStart_32 : decode cX0_mayStart 32 = .ok (.getfield 37, 3) := by decide +kernel
theorem dX0_mayStart_35 : decode cX0_mayStart 35 = .ok (.if_icmp .le 24, 3) := by decide +kernel
theorem dX0_mayStart_38 : decode cX0_mayStart 38 = .ok (.iload 4, 2) := by decide +kernel
theorem dX0_mayStart_40 : decode cX0_mayStart 40 = .ok (.ifCond .eq 15, 3) := by decide +kernel
theorem dX0_mayStart_43 : decode cX0_mayStart 43 = .ok (.iload 4, 2) := by decide +kernel
theorem dX0_mayStart_45 : decode cX0_mayStart 45 = .ok (.invokestatic 114, 3) := by decide +kernel
theorem dX0_mayStart_48 : decode cX0_mayStart 48 = .ok (.aload_n 0, 1) := by decide +kernel
theorem dX0_mayStart_49 : decode cX0_mayStart 49 = .ok (.getfield 37, 3) := by decide +kernel
theorem dX0_mayStart_52 : decode cX0_mayStart 52 = .ok (.if_icmp .le 7, 3) := by decide +kernel
theorem dX0_mayStart_55 : decode cX0_mayStart 55 = .ok (.iconst 1, 1) := by decide +kernel
theorem dX0_mayStart_56 : decode cX0_mayStart 56 = .ok (.goto 4, 3) := by decide +kernel
theorem dX0_mayStart_59 : decode cX0_mayStart 59 = .ok (.iconst 0, 1) := by decide +kernel
theorem dX0_mayStart_60 : decode cX0_mayStart 60 = .ok (.ireturn, 1) := by decide +kernel
theorem dX0_noteLateChange_0 : decode cX0_noteLateChange 0 = .ok (.aload_n 1, 1) := by decide +kernel
theorem dX0_noteLateChange_1 : decode cX0_noteLateChange 1 = .ok (.dup, 1) := by decide +kernel
theorem dX0_noteLateChange_2 : decode cX0_noteLateChange 2 = .ok (.getfield 86, 3) := by decide +kernel
theorem dX0_noteLateChange_5 : decode cX0_noteLateChange 5 = .ok (.iconst 1, 1) := by decide +kernel
theorem dX0_noteLateChange_6 : decode cX0_noteLateChange 6 = .ok (.iadd, 1) := by decide +kernel
theorem dX0_noteLateChange_7 : decode cX0_noteLateChange 7 = .ok (.putfield 86, 3) := by decide +kernel
theorem dX0_noteLateChange_10 : decode cX0_noteLateChange 10 = .ok (.aload_n 1, 1) := by decide +kernel
theorem dX0_noteLateChange_11 : decode cX0_noteLateChange 11 = .ok (.getfield 86, 3) := by decide +kernel
theorem dX0_noteLateChange_14 : decode cX0_noteLateChange 14 = .ok (.aload_n 0, 1) := by decide +kernel
theorem dX0_noteLateChange_15 : decode cX0_noteLateChange 15 = .ok (.getfield 18, 3) := by decide +kernel
theorem dX0_noteLateChange_18 : decode cX0_noteLateChange 18 = .ok (.iconst 4, 1) := by decide +kernel
theorem dX0_noteLateChange_19 : decode cX0_noteLateChange 19 = .ok (.iaload, 1) := by decide +kernel
theorem dX0_noteLateChange_20 : decode cX0_noteLateChange 20 = .ok (.if_icmp .le 13, 3) := by decide +kernel
theorem dX0_noteLateChange_23 : decode cX0_noteLateChange 23 = .ok (.aload_n 1, 1) := by decide +kernel
theorem dX0_noteLateChange_24 : decode cX0_noteLateChange 24 = .ok (.aload_n 0, 1) := by decide +kernel
theorem dX0_noteLateChange_25 : decode cX0_noteLateChange 25 = .ok (.getfield 34, 3) := by decide +kernel
theorem dX0_noteLateChange_28 : decode cX0_noteLateChange 28 = .ok (.iconst 1, 1) := by decide +kernel
theorem dX0_noteLateChange_29 : decode cX0_noteLateChange 29 = .ok (.invokevirtual 92, 3) := by decide +kernel
theorem dX0_noteLateChange_32 : decode cX0_noteLateChange 32 = .ok (.pop, 1) := by decide +kernel
theorem dX0_noteLateChange_33 : decode cX0_noteLateChange 33 = .ok (.return_, 1) := by decide +kernel
theorem dX0_visit_0 : decode cX0_visit 0 = .ok (.aload_n 0, 1) := by decide +kernel
theorem dX0_visit_1 : decode cX0_visit 1 = .ok (.iload_n 1, 1) := by decide +kernel
theorem dX0_visit_2 : decode cX0_visit 2 = .ok (.invokevirtual 46, 3) := by decide +kernel
theorem dX0_visit_5 : decode cX0_visit 5 = .ok (.astore 4, 2) := by decide +kernel
theorem dX0_visit_7 : decode cX0_visit 7 = .ok (.aload 4, 2) := by decide +kernel
theorem dX0_visit_9 : decode cX0_visit 9 = .ok (.ifnull 10, 3) := by decide +kernel
theorem dX0_visit_12 : decode cX0_visit 12 = .ok (.iload_n 2, 1) := by decide +kernel
theorem dX0_visit_13 : decode cX0_visit 13 = .ok (.invokestatic 101, 3) := by decide +kernel
theorem dX0_visit_16 : decode cX0_visit 16 = .ok (.ifCond .ne 5, 3) := by decide +kernel
theorem dX0_visit_19 : decode cX0_visit 19 = .ok (.iconst (-1), 1) := by decide +kernel
theorem dX0_visit_20 : decode cX0_visit 20 = .ok (.ireturn, 1) := by decide +kernel
theorem dX0_visit_21 : decode cX0_visit 21 = .ok (.aload 4, 2) := by decide +kernel
theorem dX0_visit_23 : decode cX0_visit 23 = .ok (.dup, 1) := by decide +kernel
theorem dX0_visit_24 : decode cX0_visit 24 = .ok (.getfield 125, 3) := by decide +kernel
theorem dX0_visit_27 : decode cX0_visit 27 = .ok (.iconst 1, 1) := by decide +kernel
theorem dX0_visit_28 : decode cX0_visit 28 = .ok (.iadd, 1) := by decide +kernel
theorem dX0_visit_29 : decode cX0_visit 29 = .ok (.putfield 125, 3) := by decide +kernel
theorem dX0_visit_32 : decode cX0_visit 32 = .ok (.aload 4, 2) := by decide +kernel
theorem dX0_visit_34 : decode cX0_visit 34 = .ok (.aload_n 0, 1) := by decide +kernel
theorem dX0_visit_35 : decode cX0_visit 35 = .ok (.getfield 34, 3) := by decide +kernel
theorem dX0_visit_38 : decode cX0_visit 38 = .ok (.putfield 128, 3) := by decide +kernel
theorem dX0_visit_41 : decode cX0_visit 41 = .ok (.iload_n 3, 1) := by decide +kernel
theorem dX0_visit_42 : decode cX0_visit 42 = .ok (.ifCond .eq 5, 3) := by decide +kernel
theorem dX0_visit_45 : decode cX0_visit 45 = .ok (.iconst 0, 1) := by decide +kernel
theorem dX0_visit_46 : decode cX0_visit 46 = .ok (.ireturn, 1) := by decide +kernel
theorem dX0_visit_47 : decode cX0_visit 47 = .ok (.aload_n 0, 1) := by decide +kernel
theorem dX0_visit_48 : decode cX0_visit 48 = .ok (.getfield 34, 3) := by decide +kernel
theorem dX0_visit_51 : decode cX0_visit 51 = .ok (.invokestatic 131, 3) := by decide +kernel
theorem dX0_visit_54 : decode cX0_visit 54 = .ok (.ifCond .eq 24, 3) := by decide +kernel
theorem dX0_visit_57 : decode cX0_visit 57 = .ok (.aload 4, 2) := by decide +kernel
theorem dX0_visit_59 : decode cX0_visit 59 = .ok (.getfield 111, 3) := by decide +kernel
theorem dX0_visit_62 : decode cX0_visit 62 = .ok (.aload_n 0, 1) := by decide +kernel
theorem dX0_visit_63 : decode cX0_visit 63 = .ok (.getfield 34, 3) := by decide +kernel
theorem dX0_visit_66 : decode cX0_visit 66 = .ok (.iaload, 1) := by decide +kernel
theorem dX0_visit_67 : decode cX0_visit 67 = .ok (.aload_n 0, 1) := by decide +kernel
theorem dX0_visit_68 : decode cX0_visit 68 = .ok (.getfield 37, 3) := by decide +kernel
theorem dX0_visit_71 : decode cX0_visit 71 = .ok (.iload_n 2, 1) := by decide +kernel
theorem dX0_visit_72 : decode cX0_visit 72 = .ok (.invokestatic 108, 3) := by decide +kernel
theorem dX0_visit_75 : decode cX0_visit 75 = .ok (.if_icmp .eq 5, 3) := by decide +kernel
theorem dX0_visit_78 : decode cX0_visit 78 = .ok (.iconst 2, 1) := by decide +kernel
theorem dX0_visit_79 : decode cX0_visit 79 = .ok (.ireturn, 1) := by decide +kernel
theorem dX0_visit_80 : decode cX0_visit 80 = .ok (.aload 4, 2) := by decide +kernel
theorem dX0_visit_82 : decode cX0_visit 82 = .ok (.dup, 1) := by decide +kernel
theorem dX0_visit_83 : decode cX0_visit 83 = .ok (.getfield 134, 3) := by decide +kernel
theorem dX0_visit_86 : decode cX0_visit 86 = .ok (.iconst 1, 1) := by decide +kernel
theorem dX0_visit_87 : decode cX0_visit 87 = .ok (.iadd, 1) := by decide +kernel
theorem dX0_visit_88 : decode cX0_visit 88 = .ok (.putfield 134, 3) := by decide +kernel
theorem dX0_visit_91 : decode cX0_visit 91 = .ok (.aload 4, 2) := by decide +kernel
theorem dX0_visit_93 : decode cX0_visit 93 = .ok (.aload_n 0, 1) := by decide +kernel
theorem dX0_visit_94 : decode cX0_visit 94 = .ok (.getfield 34, 3) := by decide +kernel
theorem dX0_visit_97 : decode cX0_visit 97 = .ok (.iconst 2, 1) := by decide +kernel
theorem dX0_visit_98 : decode cX0_visit 98 = .ok (.invokevirtual 92, 3) := by decide +kernel
theorem dX0_visit_101 : decode cX0_visit 101 = .ok (.pop, 1) := by decide +kernel
theorem dX0_visit_102 : decode cX0_visit 102 = .ok (.iconst 1, 1) := by decide +kernel
theorem dX0_visit_103 : decode cX0_visit 103 = .ok (.ireturn, 1) := by decide +kernel
theorem dX0_strike_0 : decode cX0_strike 0 = .ok (.aload_n 0, 1) := by decide +kernel
theorem dX0_strike_1 : decode cX0_strike 1 = .ok (.iload_n 1, 1) := by decide +kernel
theorem dX0_strike_2 : decode cX0_strike 2 = .ok (.invokevirtual 46, 3) := by decide +kernel
theorem dX0_strike_5 : decode cX0_strike 5 = .ok (.astore_n 3, 1) := by decide +kernel
theorem dX0_strike_6 : decode cX0_strike 6 = .ok (.aload_n 3, 1) := by decide +kernel
theorem dX0_strike_7 : decode cX0_strike 7 = .ok (.ifnull 21, 3) := by decide +kernel
theorem dX0_strike_10 : decode cX0_strike 10 = .ok (.aload_n 3, 1) := by decide +kernel
theorem dX0_strike_11 : decode cX0_strike 11 = .ok (.iload_n 2, 1) := by decide +kernel
theorem dX0_strike_12 : decode cX0_strike 12 = .ok (.invokevirtual 137, 3) := by decide +kernel
theorem dX0_strike_15 : decode cX0_strike 15 = .ok (.ifCond .eq 13, 3) := by decide +kernel
theorem dX0_strike_18 : decode cX0_strike 18 = .ok (.aload_n 3, 1) := by decide +kernel
theorem dX0_strike_19 : decode cX0_strike 19 = .ok (.getfield 140, 3) := by decide +kernel
theorem dX0_strike_22 : decode cX0_strike 22 = .ok (.iload_n 2, 1) := by decide +kernel
theorem dX0_strike_23 : decode cX0_strike 23 = .ok (.iaload, 1) := by decide +kernel
theorem dX0_strike_24 : decode cX0_strike 24 = .ok (.iconst 1, 1) := by decide +kernel
theorem dX0_strike_25 : decode cX0_strike 25 = .ok (.if_icmp .ne 5, 3) := by decide +kernel
theorem dX0_strike_28 : decode cX0_strike 28 = .ok (.iconst 0, 1) := by decide +kernel
theorem dX0_strike_29 : decode cX0_strike 29 = .ok (.ireturn, 1) := by decide +kernel
theorem dX0_strike_30 : decode cX0_strike 30 = .ok (.aload_n 0, 1) := by decide +kernel
theorem dX0_strike_31 : decode cX0_strike 31 = .ok (.getfield 34, 3) := by decide +kernel
theorem dX0_strike_34 : decode cX0_strike 34 = .ok (.aload_n 3, 1) := by decide +kernel
theorem dX0_strike_35 : decode cX0_strike 35 = .ok (.getfield 143, 3) := by decide +kernel
theorem dX0_strike_38 : decode cX0_strike 38 = .ok (.iload_n 2, 1) := by decide +kernel
theorem dX0_strike_39 : decode cX0_strike 39 = .ok (.iaload, 1) := by decide +kernel
theorem dX0_strike_40 : decode cX0_strike 40 = .ok (.aload_n 0, 1) := by decide +kernel
theorem dX0_strike_41 : decode cX0_strike 41 = .ok (.getfield 18, 3) := by decide +kernel
theorem dX0_strike_44 : decode cX0_strike 44 = .ok (.iconst 5, 1) := by decide +kernel
theorem dX0_strike_45 : decode cX0_strike 45 = .ok (.iaload, 1) := by decide +kernel
theorem dX0_strike_46 : decode cX0_strike 46 = .ok (.iadd, 1) := by decide +kernel
theorem dX0_strike_47 : decode cX0_strike 47 = .ok (.if_icmp .le 5, 3) := by decide +kernel
theorem dX0_strike_50 : decode cX0_strike 50 = .ok (.iconst 0, 1) := by decide +kernel
theorem dX0_strike_51 : decode cX0_strike 51 = .ok (.ireturn, 1) := by decide +kernel
theorem dX0_strike_52 : decode cX0_strike 52 = .ok (.aload_n 3, 1) := by decide +kernel
theorem dX0_strike_53 : decode cX0_strike 53 = .ok (.getfield 140, 3) := by decide +kernel
theorem dX0_strike_56 : decode cX0_strike 56 = .ok (.iload_n 2, 1) := by decide +kernel
theorem dX0_strike_57 : decode cX0_strike 57 = .ok (.iconst 1, 1) := by decide +kernel
theorem dX0_strike_58 : decode cX0_strike 58 = .ok (.iastore, 1) := by decide +kernel
theorem dX0_strike_59 : decode cX0_strike 59 = .ok (.iconst 1, 1) := by decide +kernel
theorem dX0_strike_60 : decode cX0_strike 60 = .ok (.ireturn, 1) := by decide +kernel
theorem dX0_bitsOfThose_0 : decode cX0_bitsOfThose 0 = .ok (.iload_n 1, 1) := by decide +kernel
theorem dX0_bitsOfThose_1 : decode cX0_bitsOfThose 1 = .ok (.invokestatic 131, 3) := by decide +kernel
theorem dX0_bitsOfThose_4 : decode cX0_bitsOfThose 4 = .ok (.ifCond .ne 5, 3) := by decide +kernel
theorem dX0_bitsOfThose_7 : decode cX0_bitsOfThose 7 = .ok (.iconst 0, 1) := by decide +kernel
theorem dX0_bitsOfThose_8 : decode cX0_bitsOfThose 8 = .ok (.ireturn, 1) := by decide +kernel
theorem dX0_bitsOfThose_9 : decode cX0_bitsOfThose 9 = .ok (.iload_n 2, 1) := by decide +kernel
theorem dX0_bitsOfThose_10 : decode cX0_bitsOfThose 10 = .ok (.iload_n 3, 1) := by decide +kernel
theorem dX0_bitsOfThose_11 : decode cX0_bitsOfThose 11 = .ok (.invokestatic 108, 3) := by decide +kernel
theorem dX0_bitsOfThose_14 : decode cX0_bitsOfThose 14 = .ok (.istore 4, 2) := by decide +kernel
theorem dX0_bitsOfThose_16 : decode cX0_bitsOfThose 16 = .ok (.iconst 0, 1) := by decide +kernel
theorem dX0_bitsOfThose_17 : decode cX0_bitsOfThose 17 = .ok (.istore 5, 2) := by decide +kernel
theorem dX0_bitsOfThose_19 : decode cX0_bitsOfThose 19 = .ok (.iconst 0, 1) := by decide +kernel
theorem dX0_bitsOfThose_20 : decode cX0_bitsOfThose 20 = .ok (.istore 6, 2) := by decide +kernel
theorem dX0_bitsOfThose_22 : decode cX0_bitsOfThose 22 = .ok (.iload 6, 2) := by decide +kernel
theorem dX0_bitsOfThose_24 : decode cX0_bitsOfThose 24 = .ok (.aload_n 0, 1) := by decide +kernel
theorem dX0_bitsOfThose_25 : decode cX0_bitsOfThose 25 = .ok (.getfield 29, 3) := by decide +kernel
theorem dX0_bitsOfThose_28 : decode cX0_bitsOfThose 28 = .ok (.if_icmp .ge 43, 3) := by decide +kernel
theorem dX0_bitsOfThose_31 : decode cX0_bitsOfThose 31 = .ok (.aload_n 0, 1) := by decide +kernel
theorem dX0_bitsOfThose_32 : decode cX0_bitsOfThose 32 = .ok (.iload 6, 2) := by decide +kernel
theorem dX0_bitsOfThose_34 : decode cX0_bitsOfThose 34 = .ok (.invokevirtual 46, 3) := by decide +kernel
theorem dX0_bitsOfThose_37 : decode cX0_bitsOfThose 37 = .ok (.astore 7, 2) := by decide +kernel
theorem dX0_bitsOfThose_39 : decode cX0_bitsOfThose 39 = .ok (.aload 7, 2) := by decide +kernel
theorem dX0_bitsOfThose_41 : decode cX0_bitsOfThose 41 = .ok (.ifnull 24, 3) := by decide +kernel
theorem dX0_bitsOfThose_44 : decode cX0_bitsOfThose 44 = .ok (.aload 7, 2) := by decide +kernel
theorem dX0_bitsOfThose_46 : decode cX0_bitsOfThose 46 = .ok (.getfield 111, 3) := by decide +kernel
theorem dX0_bitsOfThose_49 : decode cX0_bitsOfThose 49 = .ok (.iload_n 1, 1) := by decide +kernel
theorem dX0_bitsOfThose_50 : decode cX0_bitsOfThose 50 = .ok (.iaload, 1) := by decide +kernel
theorem dX0_bitsOfThose_51 : decode cX0_bitsOfThose 51 = .ok (.iload 4, 2) := by decide +kernel
theorem dX0_bitsOfThose_53 : decode cX0_bitsOfThose 53 = .ok (.if_icmp .ne 12, 3) := by decide +kernel
theorem dX0_bitsOfThose_56 : decode cX0_bitsOfThose 56 = .ok (.iload 5, 2) := by decide +kernel
theorem dX0_bitsOfThose_58 : decode cX0_bitsOfThose 58 = .ok (.iconst 1, 1) := by decide +kernel
theorem dX0_bitsOfThose_59 : decode cX0_bitsOfThose 59 = .ok (.iload 6, 2) := by decide +kernel
theorem dX0_bitsOfThose_61 : decode cX0_bitsOfThose 61 = .ok (.ishl, 1) := by decide +kernel
theorem dX0_bitsOfThose_62 : decode cX0_bitsOfThose 62 = .ok (.ior, 1) := by decide +kernel
theorem dX0_bitsOfThose_63 : decode cX0_bitsOfThose 63 = .ok (.istore 5, 2) := by decide +kernel
theorem dX0_bitsOfThose_65 : decode cX0_bitsOfThose 65 = .ok (.iinc 6 1, 3) := by decide +kernel
theorem dX0_bitsOfThose_68 : decode cX0_bitsOfThose 68 = .ok (.goto (-46), 3) := by decide +kernel
theorem dX0_bitsOfThose_71 : decode cX0_bitsOfThose 71 = .ok (.iload 5, 2) := by decide +kernel
theorem dX0_bitsOfThose_73 : decode cX0_bitsOfThose 73 = .ok (.ireturn, 1) := by decide +kernel
theorem dX0_fullestPlace_0 : decode cX0_fullestPlace 0 = .ok (.iconst (-1), 1) := by decide +kernel
theorem dX0_fullestPlace_1 : decode cX0_fullestPlace 1 = .ok (.istore_n 3, 1) := by decide +kernel
theorem dX0_fullestPlace_2 : decode cX0_fullestPlace 2 = .ok (.iconst 0, 1) := by decide +kernel
theorem dX0_fullestPlace_3 : decode cX0_fullestPlace 3 = .ok (.istore 4, 2) := by decide +kernel
theorem dX0_fullestPlace_5 : decode cX0_fullestPlace 5 = .ok (.iconst 0, 1) := by decide +kernel
theorem dX0_fullestPlace_6 : decode cX0_fullestPlace 6 = .ok (.istore 5, 2) := by decide +kernel
theorem dX0_fullestPlace_8 : decode cX0_fullestPlace 8 = .ok (.iload 5, 2) := by decide +kernel
theorem dX0_fullestPlace_10 : decode cX0_fullestPlace 10 = .ok (.bipush 10, 2) := by decide +kernel
theorem dX0_fullestPlace_12 : decode cX0_fullestPlace 12 = .ok (.if_icmp .ge 36, 3) := by decide +kernel
theorem dX0_fullestPlace_15 : decode cX0_fullestPlace 15 = .ok (.aload_n 0, 1) := by decide +kernel
theorem dX0_fullestPlace_16 : decode cX0_fullestPlace 16 = .ok (.iload_n 1, 1) := by decide +kernel
theorem dX0_fullestPlace_17 : decode cX0_fullestPlace 17 = .ok (.iload_n 2, 1) := by decide +kernel
theorem dX0_fullestPlace_18 : decode cX0_fullestPlace 18 = .ok (.iload 5, 2) := by decide +kernel
theorem dX0_fullestPlace_20 : decode cX0_fullestPlace 20 = .ok (.invokevirtual 146, 3) := by decide +kernel
theorem dX0_fullestPlace_23 : decode cX0_fullestPlace 23 = .ok (.invokestatic 150, 3) := by decide +kernel
theorem dX0_fullestPlace_26 : decode cX0_fullestPlace 26 = .ok (.istore 6, 2) := by decide +kernel
theorem dX0_fullestPlace_28 : decode cX0_fullestPlace 28 = .ok (.iload 6, 2) := by decide +kernel
theorem dX0_fullestPlace_30 : decode cX0_fullestPlace 30 = .ok (.iload 4, 2) := by decide +kernel
theorem dX0_fullestPlace_32 : decode cX0_fullestPlace 32 = .ok (.if_icmp .le 10, 3) := by decide +kernel
theorem dX0_fullestPlace_35 : decode cX0_fullestPlace 35 = .ok (.iload 6, 2) := by decide +kernel
theorem dX0_fullestPlace_37 : decode cX0_fullestPlace 37 = .ok (.istore 4, 2) := by decide +kernel
theorem dX0_fullestPlace_39 : decode cX0_fullestPlace 39 = .ok (.iload 5, 2) := by decide +kernel
theorem dX0_fullestPlace_41 : decode cX0_fullestPlace 41 = .ok (.istore_n 3, 1) := by decide +kernel
theorem dX0_fullestPlace_42 : decode cX0_fullestPlace 42 = .ok (.iinc 5 1, 3) := by decide +kernel
theorem dX0_fullestPlace_45 : decode cX0_fullestPlace 45 = .ok (.goto (-37), 3) := by decide +kernel
theorem dX0_fullestPlace_48 : decode cX0_fullestPlace 48 = .ok (.iload_n 3, 1) := by decide +kernel
theorem dX0_fullestPlace_49 : decode cX0_fullestPlace 49 = .ok (.ireturn, 1) := by decide +kernel
theorem dX1_init_0 : decode cX1_init 0 = .ok (.aload_n 0, 1) := by decide +kernel
theorem dX1_init_1 : decode cX1_init 1 = .ok (.invokespecial 3, 3) := by decide +kernel
theorem dX1_init_4 : decode cX1_init 4 = .ok (.aload_n 0, 1) := by decide +kernel
theorem dX1_init_5 : decode cX1_init 5 = .ok (.bipush 60, 2) := by decide +kernel
theorem dX1_init_7 : decode cX1_init 7 = .ok (.newarray .int, 2) := by decide +kernel
theorem dX1_init_9 : decode cX1_init 9 = .ok (.putfield 9, 3) := by decide +kernel
theorem dX1_init_12 : decode cX1_init 12 = .ok (.aload_n 0, 1) := by decide +kernel
theorem dX1_init_13 : decode cX1_init 13 = .ok (.bipush 60, 2) := by decide +kernel
theorem dX1_init_15 : decode cX1_init 15 = .ok (.newarray .int, 2) := by decide +kernel
theorem dX1_init_17 : decode cX1_init 17 = .ok (.putfield 15, 3) := by decide +kernel
theorem dX1_init_20 : decode cX1_init 20 = .ok (.aload_n 0, 1) := by decide +kernel
theorem dX1_init_21 : decode cX1_init 21 = .ok (.bipush 60, 2) := by decide +kernel
theorem dX1_init_23 : decode cX1_init 23 = .ok (.newarray .int, 2) := by decide +kernel
theorem dX1_init_25 : decode cX1_init 25 = .ok (.putfield 18, 3) := by decide +kernel
theorem dX1_init_28 : decode cX1_init 28 = .ok (.aload_n 0, 1) := by decide +kernel
theorem dX1_init_29 : decode cX1_init 29 = .ok (.sipush 1100, 3) := by decide +kernel
theorem dX1_init_32 : decode cX1_init 32 = .ok (.newarray .int, 2) := by decide +kernel
theorem dX1_init_34 : decode cX1_init 34 = .ok (.putfield 21, 3) := by decide +kernel
theorem dX1_init_37 : decode cX1_init 37 = .ok (.return_, 1) := by decide +kernel
theorem dX1_slotOf_0 : decode cX1_slotOf 0 = .ok (.iconst 1, 1) := by decide +kernel
theorem dX1_slotOf_1 : decode cX1_slotOf 1 = .ok (.iload_n 0, 1) := by decide +kernel
theorem dX1_slotOf_2 : decode cX1_slotOf 2 = .ok (.bipush 10, 2) := by decide +kernel
theorem dX1_slotOf_4 : decode cX1_slotOf 4 = .ok (.imul, 1) := by decide +kernel
theorem dX1_slotOf_5 : decode cX1_slotOf 5 = .ok (.iadd, 1) := by decide +kernel
theorem dX1_slotOf_6 : decode cX1_slotOf 6 = .ok (.iload_n 1, 1) := by decide +kernel
theorem dX1_slotOf_7 : decode cX1_slotOf 7 = .ok (.iadd, 1) := by decide +kernel
theorem dX1_slotOf_8 : decode cX1_slotOf 8 = .ok (.ireturn, 1) := by decide +kernel
theorem dX1_hourOf_0 : decode cX1_hourOf 0 = .ok (.iload_n 0, 1) := by decide +kernel
theorem dX1_hourOf_1 : decode cX1_hourOf 1 = .ok (.iconst 1, 1) := by decide +kernel
theorem dX1_hourOf_2 : decode cX1_hourOf 2 = .ok (.isub, 1) := by decide +kernel
theorem dX1_hourOf_3 : decode cX1_hourOf 3 = .ok (.bipush 10, 2) := by decide +kernel
theorem dX1_hourOf_5 : decode cX1_hourOf 5 = .ok (.idiv, 1) := by decide +kernel
theorem dX1_hourOf_6 : decode cX1_hourOf 6 = .ok (.ireturn, 1) := by decide +kernel
theorem dX1_placeOf_0 : decode cX1_placeOf 0 = .ok (.iload_n 0, 1) := by decide +kernel
theorem dX1_placeOf_1 : decode cX1_placeOf 1 = .ok (.iconst 1, 1) := by decide +kernel
theorem dX1_placeOf_2 : decode cX1_placeOf 2 = .ok (.isub, 1) := by decide +kernel
theorem dX1_placeOf_3 : decode cX1_placeOf 3 = .ok (.bipush 10, 2) := by decide +kernel
theorem dX1_placeOf_5 : decode cX1_placeOf 5 = .ok (.irem, 1) := by decide +kernel
theorem dX1_placeOf_6 : decode cX1_placeOf 6 = .ok (.ireturn, 1) := by decide +kernel
theorem dX1_begin_0 : decode cX1_begin 0 = .ok (.aload_n 0, 1) := by decide +kernel
theorem dX1_begin_1 : decode cX1_begin 1 = .ok (.iload_n 1, 1) := by decide +kernel
theorem dX1_begin_2 : decode cX1_begin 2 = .ok (.putfield 24, 3) := by decide +kernel
theorem dX1_begin_5 : decode cX1_begin 5 = .ok (.aload_n 0, 1) := by decide +kernel
theorem dX1_begin_6 : decode cX1_begin 6 = .ok (.iload_n 2, 1) := by decide +kernel
theorem dX1_begin_7 : decode cX1_begin 7 = .ok (.putfield 28, 3) := by decide +kernel
theorem dX1_begin_10 : decode cX1_begin 10 = .ok (.aload_n 0, 1) := by decide +kernel
theorem dX1_begin_11 : decode cX1_begin 11 = .ok (.iconst 0, 1) := by decide +kernel
theorem dX1_begin_12 : decode cX1_begin 12 = .ok (.putfield 31, 3) := by decide +kernel
theorem dX1_begin_15 : decode cX1_begin 15 = .ok (.aload_n 0, 1) := by decide +kernel
theorem dX1_begin_16 : decode cX1_begin 16 = .ok (.iconst 0, 1) := by decide +kernel
theorem dX1_begin_17 : decode cX1_begin 17 = .ok (.putfield 34, 3) := by decide +kernel
theorem dX1_begin_20 : decode cX1_begin 20 = .ok (.aload_n 0, 1) := by decide +kernel
theorem dX1_begin_21 : decode cX1_begin 21 = .ok (.iconst 0, 1) := by decide +kernel
theorem dX1_begin_22 : decode cX1_begin 22 = .ok (.putfield 37, 3) := by decide +kernel
theorem dX1_begin_25 : decode cX1_begin 25 = .ok (.aload_n 0, 1) := by decide +kernel
theorem dX1_begin_26 : decode cX1_begin 26 = .ok (.iconst (-1), 1) := by decide +kernel
theorem dX1_begin_27 : decode cX1_begin 27 = .ok (.putfield 40, 3) := by decide +kernel
theorem dX1_begin_30 : decode cX1_begin 30 = .ok (.aload_n 0, 1) := by decide +kernel
theorem dX1_begin_31 : decode cX1_begin 31 = .ok (.iconst 0, 1) := by decide +kernel
theorem dX1_begin_32 : decode cX1_begin 32 = .ok (.putfield 43, 3) := by decide +kernel
theorem dX1_begin_35 : decode cX1_begin 35 = .ok (.aload_n 0, 1) := by decide +kernel
theorem dX1_begin_36 : decode cX1_begin 36 = .ok (.getfield 21, 3) := by decide +kernel
theorem dX1_begin_39 : decode cX1_begin 39 = .ok (.iconst 0, 1) := by decide +kernel
theorem dX1_begin_40 : decode cX1_begin 40 = .ok (.invokestatic 46, 3) := by decide +kernel
theorem dX1_begin_43 : decode cX1_begin 43 = .ok (.return_, 1) := by decide +kernel
theorem dX1_become_0 : decode cX1_become 0 = .ok (.aload_n 0, 1) := by decide +kernel
theorem dX1_become_1 : decode cX1_become 1 = .ok (.aload_n 1, 1) := by decide +kernel
theorem dX1_become_2 : decode cX1_become 2 = .ok (.getfield 24, 3) := by decide +kernel
theorem dX1_become_5 : decode cX1_become 5 = .ok (.putfield 24, 3) := by decide +kernel
theorem dX1_become_8 : decode cX1_become 8 = .ok (.aload_n 0, 1) := by decide +kernel
theorem dX1_become_9 : decode cX1_become 9 = .ok (.aload_n 1, 1) := by decide +kernel
theorem dX1_become_10 : decode cX1_become 10 = .ok (.getfield 28, 3) := by decide +kernel
theorem dX1_become_13 : decode cX1_become 13 = .ok (.putfield 28, 3) := by decide +kernel
theorem dX1_become_16 : decode cX1_become 16 = .ok (.aload_n 0, 1) := by decide +kernel
theorem dX1_become_17 : decode cX1_become 17 = .ok (.aload_n 1, 1) := by decide +kernel
theorem dX1_become_18 : decode cX1_become 18 = .ok (.getfield 31, 3) := by decide +kernel
theorem dX1_become_21 : decode cX1_become 21 = .ok (.putfield 31, 3) := by decide +kernel
theorem dX1_become_24 : decode cX1_become 24 = .ok (.aload_n 0, 1) := by decide +kernel
theorem dX1_become_25 : decode cX1_become 25 = .ok (.aload_n 1, 1) := by decide +kernel
theorem dX1_become_26 : decode cX1_become 26 = .ok (.getfield 34, 3) := by decide +kernel
theorem dX1_become_29 : decode cX1_become 29 = .ok (.putfield 34, 3) := by decide +kernel
theorem dX1_become_32 : decode cX1_become 32 = .ok (.aload_n 0, 1) := by decide +kernel
theorem dX1_become_33 : decode cX1_become 33 = .ok (.aload_n 1, 1) := by decide +kernel
theorem dX1_become_34 : decode cX1_become 34 = .ok (.getfield 37, 3) := by decide +kernel
theorem dX1_become_37 : decode cX1_become 37 = .ok (.putfield 37, 3) := by decide +kernel
theorem dX1_become_40 : decode cX1_become 40 = .ok (.aload_n 0, 1) := by decide +kernel
theorem dX1_become_41 : decode cX1_become 41 = .ok (.aload_n 1, 1) := by decide +kernel
theorem dX1_become_42 : decode cX1_become 42 = .ok (.getfield 40, 3) := by decide +kernel
theorem dX1_become_45 : decode cX1_become 45 = .ok (.putfield 40, 3) := by decide +kernel
theorem dX1_become_48 : decode cX1_become 48 = .ok (.aload_n 0, 1) := by decide +kernel
theorem dX1_become_49 : decode cX1_become 49 = .ok (.aload_n 1, 1) := by decide +kernel
theorem dX1_become_50 : decode cX1_become 50 = .ok (.getfield 43, 3) := by decide +kernel
theorem dX1_become_53 : decode cX1_become 53 = .ok (.putfield 43, 3) := by decide +kernel
theorem dX1_become_56 : decode cX1_become 56 = .ok (.aload_n 1, 1) := by decide +kernel
theorem dX1_become_57 : decode cX1_become 57 = .ok (.getfield 9, 3) := by decide +kernel
theorem dX1_become_60 : decode cX1_become 60 = .ok (.iconst 0, 1) := by decide +kernel
theorem dX1_become_61 : decode cX1_become 61 = .ok (.aload_n 0, 1) := by decide +kernel
theorem dX1_become_62 : decode cX1_become 62 = .ok (.getfield 9, 3) := by decide +kernel
theorem dX1_become_65 : decode cX1_become 65 = .ok (.iconst 0, 1) := by decide +kernel
theorem dX1_become_66 : decode cX1_become 66 = .ok (.bipush 60, 2) := by decide +kernel
theorem dX1_become_68 : decode cX1_become 68 = .ok (.invokestatic 52, 3) := by decide +kernel
theorem dX1_become_71 : decode cX1_become 71 = .ok (.aload_n 1, 1) := by decide +kernel
theorem dX1_become_72 : decode cX1_become 72 = .ok (.getfield 15, 3) := by decide +kernel
theorem dX1_become_75 : decode cX1_become 75 = .ok (.iconst 0, 1) := by decide +kernel
theorem dX1_become_76 : decode cX1_become 76 = .ok (.aload_n 0, 1) := by decide +kernel
theorem dX1_become_77 : decode cX1_become 77 = .ok (.getfield 15, 3) := by decide +kernel
theorem dX1_become_80 : decode cX1_become 80 = .ok (.iconst 0, 1) := by decide +kernel
theorem dX1_become_81 : decode cX1_become 81 = .ok (.bipush 60, 2) := by decide +kernel
theorem dX1_become_83 : decode cX1_become 83 = .ok (.invokestatic 52, 3) := by decide +kernel
theorem dX1_become_86 : decode cX1_become 86 = .ok (.aload_n 1, 1) := by decide +kernel
theorem dX1_become_87 : decode cX1_become 87 = .ok (.getfield 18, 3) := by decide +kernel
theorem dX1_become_90 : decode cX1_become 90 = .ok (.iconst 0, 1) := by decide +kernel
theorem dX1_become_91 : decode cX1_become 91 = .ok (.aload_n 0, 1) := by decide +kernel
theorem dX1_become_92 : decode cX1_become 92 = .ok (.getfield 18, 3) := by decide +kernel
theorem dX1_become_95 : decode cX1_become 95 = .ok (.iconst 0, 1) := by decide +kernel
theorem dX1_become_96 : decode cX1_become 96 = .ok (.bipush 60, 2) := by decide +kernel
theorem dX1_become_98 : decode cX1_become 98 = .ok (.invokestatic 52, 3) := by decide +kernel
theorem dX1_become_101 : decode cX1_become 101 = .ok (.aload_n 1, 1) := by decide +kernel
theorem dX1_become_102 : decode cX1_become 102 = .ok (.getfield 21, 3) := by decide +kernel
theorem dX1_become_105 : decode cX1_become 105 = .ok (.iconst 0, 1) := by decide +kernel
theorem dX1_become_106 : decode cX1_become 106 = .ok (.aload_n 0, 1) := by decide +kernel
theorem dX1_become_107 : decode cX1_become 107 = .ok (.getfield 21, 3) := by decide +kernel
theorem dX1_become_110 : decode cX1_become 110 = .ok (.iconst 0, 1) := by decide +kernel
theorem dX1_become_111 : decode cX1_become 111 = .ok (.sipush 1100, 3) := by decide +kernel
theorem dX1_become_114 : decode cX1_become 114 = .ok (.invokestatic 52, 3) := by decide +kernel
theorem dX1_become_117 : decode cX1_become 117 = .ok (.return_, 1) := by decide +kernel
theorem dX1_hasFailure_0 : decode cX1_hasFailure 0 = .ok (.iload_n 1, 1) := by decide +kernel
theorem dX1_hasFailure_1 : decode cX1_hasFailure 1 = .ok (.ifCond .lt 21, 3) := by decide +kernel
theorem dX1_hasFailure_4 : decode cX1_hasFailure 4 = .ok (.iload_n 1, 1) := by decide +kernel
theorem dX1_hasFailure_5 : decode cX1_hasFailure 5 = .ok (.aload_n 0, 1) := by decide +kernel
theorem dX1_hasFailure_6 : decode cX1_hasFailure 6 = .ok (.getfield 43, 3) := by decide +kernel
theorem dX1_hasFailure_9 : decode cX1_hasFailure 9 = .ok (.if_icmp .ge 13, 3) := by decide +kernel
theorem dX1_hasFailure_12 : decode cX1_hasFailure 12 = .ok (.iload_n 1, 1) := by decide +kernel
theorem dX1_hasFailure_13 : decode cX1_hasFailure 13 = .ok (.bipush 60, 2) := by decide +kernel
theorem dX1_hasFailure_15 : decode cX1_hasFailure 15 = .ok (.if_icmp .ge 7, 3) := by decide +kernel
theorem dX1_hasFailure_18 : decode cX1_hasFailure 18 = .ok (.iconst 1, 1) := by decide +kernel
theorem dX1_hasFailure_19 : decode cX1_hasFailure 19 = .ok (.goto 4, 3) := by decide +kernel
theorem dX1_hasFailure_22 : decode cX1_hasFailure 22 = .ok (.iconst 0, 1) := by decide +kernel
theorem dX1_hasFailure_23 : decode cX1_hasFailure 23 = .ok (.ireturn, 1) := by decide +kernel
theorem dX1_note_0 : decode cX1_note 0 = .ok (.aload_n 0, 1) := by decide +kernel
theorem dX1_note_1 : decode cX1_note 1 = .ok (.getfield 43, 3) := by decide +kernel
theorem dX1_note_4 : decode cX1_note 4 = .ok (.ifCond .lt 12, 3) := by decide +kernel
theorem dX1_note_7 : decode cX1_note 7 = .ok (.aload_n 0, 1) := by decide +kernel
theorem dX1_note_8 : decode cX1_note 8 = .ok (.getfield 43, 3) := by decide +kernel
theorem dX1_note_11 : decode cX1_note 11 = .ok (.bipush 60, 2) := by decide +kernel
theorem dX1_note_13 : decode cX1_note 13 = .ok (.if_icmp .lt 5, 3) := by decide +kernel
theorem dX1_note_16 : decode cX1_note 16 = .ok (.iconst 0, 1) := by decide +kernel
theorem dX1_note_17 : decode cX1_note 17 = .ok (.ireturn, 1) := by decide +kernel
theorem dX1_note_18 : decode cX1_note 18 = .ok (.aload_n 0, 1) := by decide +kernel
theorem dX1_note_19 : decode cX1_note 19 = .ok (.getfield 9, 3) := by decide +kernel
theorem dX1_note_22 : decode cX1_note 22 = .ok (.aload_n 0, 1) := by decide +kernel
theorem dX1_note_23 : decode cX1_note 23 = .ok (.getfield 43, 3) := by decide +kernel
theorem dX1_note_26 : decode cX1_note 26 = .ok (.iload_n 1, 1) := by decide +kernel
theorem dX1_note_27 : decode cX1_note 27 = .ok (.iastore, 1) := by decide +kernel
theorem dX1_note_28 : decode cX1_note 28 = .ok (.aload_n 0, 1) := by decide +kernel
theorem dX1_note_29 : decode cX1_note 29 = .ok (.getfield 15, 3) := by decide +kernel
theorem dX1_note_32 : decode cX1_note 32 = .ok (.aload_n 0, 1) := by decide +kernel
theorem dX1_note_33 : decode cX1_note 33 = .ok (.getfield 43, 3) := by decide +kernel
theorem dX1_note_36 : decode cX1_note 36 = .ok (.iload_n 2, 1) := by decide +kernel
theorem dX1_note_37 : decode cX1_note 37 = .ok (.iastore, 1) := by decide +kernel
theorem dX1_note_38 : decode cX1_note 38 = .ok (.aload_n 0, 1) := by decide +kernel
theorem dX1_note_39 : decode cX1_note 39 = .ok (.getfield 18, 3) := by decide +kernel
theorem dX1_note_42 : decode cX1_note 42 = .ok (.aload_n 0, 1) := by decide +kernel
theorem dX1_note_43 : decode cX1_note 43 = .ok (.getfield 43, 3) := by decide +kernel
theorem dX1_note_46 : decode cX1_note 46 = .ok (.iconst 0, 1) := by decide +kernel
theorem dX1_note_47 : decode cX1_note 47 = .ok (.iastore, 1) := by decide +kernel
theorem dX1_note_48 : decode cX1_note 48 = .ok (.aload_n 0, 1) := by decide +kernel
theorem dX1_note_49 : decode cX1_note 49 = .ok (.dup, 1) := by decide +kernel
theorem dX1_note_50 : decode cX1_note 50 = .ok (.getfield 43, 3) := by decide +kernel
theorem dX1_note_53 : decode cX1_note 53 = .ok (.iconst 1, 1) := by decide +kernel
theorem dX1_note_54 : decode cX1_note 54 = .ok (.iadd, 1) := by decide +kernel
theorem dX1_note_55 : decode cX1_note 55 = .ok (.putfield 43, 3) := by decide +kernel
theorem dX1_note_58 : decode cX1_note 58 = .ok (.iconst 1, 1) := by decide +kernel
theorem dX1_note_59 : decode cX1_note 59 = .ok (.ireturn, 1) := by decide +kernel
theorem dX1_firstGap_0 : decode cX1_firstGap 0 = .ok (.iload_n 1, 1) := by decide +kernel
theorem dX1_firstGap_1 : decode cX1_firstGap 1 = .ok (.ifCond .lt 9, 3) := by decide +kernel
theorem dX1_firstGap_4 : decode cX1_firstGap 4 = .ok (.iload_n 1, 1) := by decide +kernel
theorem dX1_firstGap_5 : decode cX1_firstGap 5 = .ok (.bipush 35, 2) := by decide +kernel
theorem dX1_firstGap_7 : decode cX1_firstGap 7 = .ok (.if_icmp .le 5, 3) := by decide +kernel
theorem dX1_firstGap_10 : decode cX1_firstGap 10 = .ok (.iconst (-1), 1) := by decide +kernel
theorem dX1_firstGap_11 : decode cX1_firstGap 11 = .ok (.ireturn, 1) := by decide +kernel
theorem dX1_firstGap_12 : decode cX1_firstGap 12 = .ok (.iload_n 1, 1) := by decide +kernel
theorem dX1_firstGap_13 : decode cX1_firstGap 13 = .ok (.bipush 30, 2) := by decide +kernel
theorem dX1_firstGap_15 : decode cX1_firstGap 15 = .ok (.imul, 1) := by decide +kernel
theorem dX1_firstGap_16 : decode cX1_firstGap 16 = .ok (.istore_n 2, 1) := by decide +kernel
theorem dX1_firstGap_17 : decode cX1_firstGap 17 = .ok (.iload_n 2, 1) := by decide +kernel
theorem dX1_firstGap_18 : decode cX1_firstGap 18 = .ok (.istore_n 3, 1) := by decide +kernel
theorem dX1_firstGap_19 : decode cX1_firstGap 19 = .ok (.iload_n 3, 1) := by decide +kernel
theorem dX1_firstGap_20 : decode cX1_firstGap 20 = .ok (.iload_n 2, 1) := by decide +kernel
theorem dX1_firstGap_21 : decode cX1_firstGap 21 = .ok (.bipush 30, 2) := by decide +kernel
theorem dX1_firstGap_23 : decode cX1_firstGap 23 = .ok (.iadd, 1) := by decide +kernel
theorem dX1_firstGap_24 : decode cX1_firstGap 24 = .ok (.if_icmp .ge 27, 3) := by decide +kernel
theorem dX1_firstGap_27 : decode cX1_firstGap 27 = .ok (.iload_n 3, 1) := by decide +kernel
theorem dX1_firstGap_28 : decode cX1_firstGap 28 = .ok (.sipush 1100, 3) := by decide +kernel
theorem dX1_firstGap_31 : decode cX1_firstGap 31 = .ok (.if_icmp .ge 20, 3) := by decide +kernel
theorem dX1_firstGap_34 : decode cX1_firstGap 34 = .ok (.aload_n 0, 1) := by decide +kernel
theorem dX1_firstGap_35 : decode cX1_firstGap 35 = .ok (.getfield 21, 3) := by decide +kernel
theorem dX1_firstGap_38 : decode cX1_firstGap 38 = .ok (.iload_n 3, 1) := by decide +kernel
theorem dX1_firstGap_39 : decode cX1_firstGap 39 = .ok (.iaload, 1) := by decide +kernel
theorem dX1_firstGap_40 : decode cX1_firstGap 40 = .ok (.ifCond .ne 5, 3) := by decide +kernel
theorem dX1_firstGap_43 : decode cX1_firstGap 43 = .ok (.iload_n 3, 1) := by decide +kernel
theorem dX1_firstGap_44 : decode cX1_firstGap 44 = .ok (.ireturn, 1) := by decide +kernel
theorem dX1_firstGap_45 : decode cX1_firstGap 45 = .ok (.iinc 3 1, 3) := by decide +kernel
theorem dX1_firstGap_48 : decode cX1_firstGap 48 = .ok (.goto (-29), 3) := by decide +kernel
theorem dX1_firstGap_51 : decode cX1_firstGap 51 = .ok (.iconst (-1), 1) := by decide +kernel
theorem dX1_firstGap_52 : decode cX1_firstGap 52 = .ok (.ireturn, 1) := by decide +kernel
theorem dX2_init_0 : decode cX2_init 0 = .ok (.aload_n 0, 1) := by decide +kernel
theorem dX2_init_1 : decode cX2_init 1 = .ok (.invokespecial 3, 3) := by decide +kernel
theorem dX2_init_4 : decode cX2_init 4 = .ok (.aload_n 0, 1) := by decide +kernel
theorem dX2_init_5 : decode cX2_init 5 = .ok (.bipush 61, 2) := by decide +kernel
theorem dX2_init_7 : decode cX2_init 7 = .ok (.newarray .int, 2) := by decide +kernel
theorem dX2_init_9 : decode cX2_init 9 = .ok (.putfield 11, 3) := by decide +kernel
theorem dX2_init_12 : decode cX2_init 12 = .ok (.aload_n 0, 1) := by decide +kernel
theorem dX2_init_13 : decode cX2_init 13 = .ok (.bipush 61, 2) := by decide +kernel
theorem dX2_init_15 : decode cX2_init 15 = .ok (.newarray .boolean, 2) := by decide +kernel
theorem dX2_init_17 : decode cX2_init 17 = .ok (.putfield 15, 3) := by decide +kernel
theorem dX2_init_20 : decode cX2_init 20 = .ok (.aload_n 0, 1) := by decide +kernel
theorem dX2_init_21 : decode cX2_init 21 = .ok (.bipush 61, 2) := by decide +kernel
theorem dX2_init_23 : decode cX2_init 23 = .ok (.newarray .int, 2) := by decide +kernel
theorem dX2_init_25 : decode cX2_init 25 = .ok (.putfield 19, 3) := by decide +kernel
theorem dX2_init_28 : decode cX2_init 28 = .ok (.return_, 1) := by decide +kernel
theorem dX2_goThrough_0 : decode cX2_goThrough 0 = .ok (.aload_n 0, 1) := by decide +kernel
theorem dX2_goThrough_1 : decode cX2_goThrough 1 = .ok (.aload_n 2, 1) := by decide +kernel
theorem dX2_goThrough_2 : decode cX2_goThrough 2 = .ok (.iconst 0, 1) := by decide +kernel
theorem dX2_goThrough_3 : decode cX2_goThrough 3 = .ok (.iaload, 1) := by decide +kernel
theorem dX2_goThrough_4 : decode cX2_goThrough 4 = .ok (.putfield 22, 3) := by decide +kernel
theorem dX2_goThrough_7 : decode cX2_goThrough 7 = .ok (.aload_n 0, 1) := by decide +kernel
theorem dX2_goThrough_8 : decode cX2_goThrough 8 = .ok (.aload_n 2, 1) := by decide +kernel
theorem dX2_goThrough_9 : decode cX2_goThrough 9 = .ok (.iconst 1, 1) := by decide +kernel
theorem dX2_goThrough_10 : decode cX2_goThrough 10 = .ok (.iaload, 1) := by decide +kernel
theorem dX2_goThrough_11 : decode cX2_goThrough 11 = .ok (.putfield 26, 3) := by decide +kernel
theorem dX2_goThrough_14 : decode cX2_goThrough 14 = .ok (.aload_n 0, 1) := by decide +kernel
theorem dX2_goThrough_15 : decode cX2_goThrough 15 = .ok (.aload_n 2, 1) := by decide +kernel
theorem dX2_goThrough_16 : decode cX2_goThrough 16 = .ok (.iconst 2, 1) := by decide +kernel
theorem dX2_goThrough_17 : decode cX2_goThrough 17 = .ok (.iaload, 1) := by decide +kernel
theorem dX2_goThrough_18 : decode cX2_goThrough 18 = .ok (.putfield 29, 3) := by decide +kernel
theorem dX2_goThrough_21 : decode cX2_goThrough 21 = .ok (.aload_n 0, 1) := by decide +kernel
theorem dX2_goThrough_22 : decode cX2_goThrough 22 = .ok (.iconst 0, 1) := by decide +kernel
theorem dX2_goThrough_23 : decode cX2_goThrough 23 = .ok (.putfield 32, 3) := by decide +kernel
theorem dX2_goThrough_26 : decode cX2_goThrough 26 = .ok (.aload_n 0, 1) := by decide +kernel
theorem dX2_goThrough_27 : decode cX2_goThrough 27 = .ok (.iconst 0, 1) := by decide +kernel
theorem dX2_goThrough_28 : decode cX2_goThrough 28 = .ok (.putfield 35, 3) := by decide +kernel
theorem dX2_goThrough_31 : decode cX2_goThrough 31 = .ok (.aload_n 0, 1) := by decide +kernel
theorem dX2_goThrough_32 : decode cX2_goThrough 32 = .ok (.iconst 0, 1) := by decide +kernel
theorem dX2_goThrough_33 : decode cX2_goThrough 33 = .ok (.putfield 38, 3) := by decide +kernel
theorem dX2_goThrough_36 : decode cX2_goThrough 36 = .ok (.aload_n 0, 1) := by decide +kernel
theorem dX2_goThrough_37 : decode cX2_goThrough 37 = .ok (.iconst (-1), 1) := by decide +kernel
theorem dX2_goThrough_38 : decode cX2_goThrough 38 = .ok (.putfield 41, 3) := by decide +kernel
theorem dX2_goThrough_41 : decode cX2_goThrough 41 = .ok (.iconst 0, 1) := by decide +kernel
theorem dX2_goThrough_42 : decode cX2_goThrough 42 = .ok (.istore 4, 2) := by decide +kernel
theorem dX2_goThrough_44 : decode cX2_goThrough 44 = .ok (.iload 4, 2) := by decide +kernel
theorem dX2_goThrough_46 : decode cX2_goThrough 46 = .ok (.aload_n 1, 1) := by decide +kernel
theorem dX2_goThrough_47 : decode cX2_goThrough 47 = .ok (.getfield 44, 3) := by decide +kernel
theorem dX2_goThrough_50 : decode cX2_goThrough 50 = .ok (.if_icmp .ge 49, 3) := by decide +kernel
theorem dX2_goThrough_53 : decode cX2_goThrough 53 = .ok (.iload 4, 2) := by decide +kernel
theorem dX2_goThrough_55 : decode cX2_goThrough 55 = .ok (.bipush 60, 2) := by decide +kernel
theorem dX2_goThrough_57 : decode cX2_goThrough 57 = .ok (.if_icmp .ge 42, 3) := by decide +kernel
theorem dX2_goThrough_60 : decode cX2_goThrough 60 = .ok (.aload_n 0, 1) := by decide +kernel
theorem dX2_goThrough_61 : decode cX2_goThrough 61 = .ok (.aload_n 1, 1) := by decide +kernel
theorem dX2_goThrough_62 : decode cX2_goThrough 62 = .ok (.getfield 49, 3) := by decide +kernel
theorem dX2_goThrough_65 : decode cX2_goThrough 65 = .ok (.iload 4, 2) := by decide +kernel
theorem dX2_goThrough_67 : decode cX2_goThrough 67 = .ok (.iaload, 1) := by decide +kernel
theorem dX2_goThrough_68 : decode cX2_goThrough 68 = .ok (.aload_n 1, 1) := by decide +kernel
theorem dX2_goThrough_69 : decode cX2_goThrough 69 = .ok (.getfield 52, 3) := by decide +kernel
theorem dX2_goThrough_72 : decode cX2_goThrough 72 = .ok (.iload 4, 2) := by decide +kernel
theorem dX2_goThrough_74 : decode cX2_goThrough 74 = .ok (.iaload, 1) := by decide +kernel
theorem dX2_goThrough_75 : decode cX2_goThrough 75 = .ok (.iconst 1, 1) := by decide +kernel
theorem dX2_goThrough_76 : decode cX2_goThrough 76 = .ok (.if_icmp .eq 9, 3) := by decide +kernel
theorem dX2_goThrough_79 : decode cX2_goThrough 79 = .ok (.iload 4, 2) := by decide +kernel
theorem dX2_goThrough_81 : decode cX2_goThrough 81 = .ok (.iload_n 3, 1) := by decide +kernel
theorem dX2_goThrough_82 : decode cX2_goThrough 82 = .ok (.if_icmp .ne 7, 3) := by decide +kernel
theorem dX2_goThrough_85 : decode cX2_goThrough 85 = .ok (.iconst 1, 1) := by decide +kernel
theorem dX2_goThrough_86 : decode cX2_goThrough 86 = .ok (.goto 4, 3) := by decide +kernel
theorem dX2_goThrough_89 : decode cX2_goThrough 89 = .ok (.iconst 0, 1) := by decide +kernel
theorem dX2_goThrough_90 : decode cX2_goThrough 90 = .ok (.invokevirtual 55, 3) := by decide +kernel
theorem dX2_goThrough_93 : decode cX2_goThrough 93 = .ok (.iinc 4 1, 3) := by decide +kernel
theorem dX2_goThrough_96 : decode cX2_goThrough 96 = .ok (.goto (-52), 3) := by decide +kernel
theorem dX2_goThrough_99 : decode cX2_goThrough 99 = .ok (.return_, 1) := by decide +kernel
theorem dX2_add_0 : decode cX2_add 0 = .ok (.aload_n 0, 1) := by decide +kernel
theorem dX2_add_1 : decode cX2_add 1 = .ok (.getfield 35, 3) := by decide +kernel
theorem dX2_add_4 : decode cX2_add 4 = .ok (.istore_n 3, 1) := by decide +kernel
theorem dX2_add_5 : decode cX2_add 5 = .ok (.iload_n 3, 1) := by decide +kernel
theorem dX2_add_6 : decode cX2_add 6 = .ok (.bipush 61, 2) := by decide +kernel
theorem dX2_add_8 : decode cX2_add 8 = .ok (.if_icmp .lt 4, 3) := by decide +kernel
theorem dX2_add_11 : decode cX2_add 11 = .ok (.return_, 1) := by decide +kernel
theorem dX2_add_12 : decode cX2_add 12 = .ok (.aload_n 0, 1) := by decide +kernel
theorem dX2_add_13 : decode cX2_add 13 = .ok (.dup, 1) := by decide +kernel
theorem dX2_add_14 : decode cX2_add 14 = .ok (.getfield 35, 3) := by decide +kernel
theorem dX2_add_17 : decode cX2_add 17 = .ok (.iconst 1, 1) := by decide +kernel
theorem dX2_add_18 : decode cX2_add 18 = .ok (.iadd, 1) := by decide +kernel
theorem dX2_add_19 : decode cX2_add 19 = .ok (.putfield 35, 3) := by decide +kernel
theorem dX2_add_22 : decode cX2_add 22 = .ok (.aload_n 0, 1) := by decide +kernel
theorem dX2_add_23 : decode cX2_add 23 = .ok (.getfield 11, 3) := by decide +kernel
theorem dX2_add_26 : decode cX2_add 26 = .ok (.iload_n 3, 1) := by decide +kernel
theorem dX2_add_27 : decode cX2_add 27 = .ok (.iload_n 1, 1) := by decide +kernel
theorem dX2_add_28 : decode cX2_add 28 = .ok (.iastore, 1) := by decide +kernel
theorem dX2_add_29 : decode cX2_add 29 = .ok (.aload_n 0, 1) := by decide +kernel
theorem dX2_add_30 : decode cX2_add 30 = .ok (.getfield 15, 3) := by decide +kernel
theorem dX2_add_33 : decode cX2_add 33 = .ok (.iload_n 3, 1) := by decide +kernel
theorem dX2_add_34 : decode cX2_add 34 = .ok (.iload_n 2, 1) := by decide +kernel
theorem dX2_add_35 : decode cX2_add 35 = .ok (.ifCond .ne 15, 3) := by decide +kernel
theorem dX2_add_38 : decode cX2_add 38 = .ok (.aload_n 0, 1) := by decide +kernel
theorem dX2_add_39 : decode cX2_add 39 = .ok (.iload_n 1, 1) := by decide +kernel
theorem dX2_add_40 : decode cX2_add 40 = .ok (.invokevirtual 59, 3) := by decide +kernel
theorem dX2_add_43 : decode cX2_add 43 = .ok (.ifCond .eq 7, 3) := by decide +kernel
theorem dX2_add_46 : decode cX2_add 46 = .ok (.iconst 1, 1) := by decide +kernel
theorem dX2_add_47 : decode cX2_add 47 = .ok (.goto 4, 3) := by decide +kernel
theorem dX2_add_50 : decode cX2_add 50 = .ok (.iconst 0, 1) := by decide +kernel
theorem dX2_add_51 : decode cX2_add 51 = .ok (.bastore, 1) := by decide +kernel
theorem dX2_add_52 : decode cX2_add 52 = .ok (.aload_n 0, 1) := by decide +kernel
theorem dX2_add_53 : decode cX2_add 53 = .ok (.getfield 15, 3) := by decide +kernel
theorem dX2_add_56 : decode cX2_add 56 = .ok (.iload_n 3, 1) := by decide +kernel
theorem dX2_add_57 : decode cX2_add 57 = .ok (.baload, 1) := by decide +kernel
theorem dX2_add_58 : decode cX2_add 58 = .ok (.ifCond .ne 4, 3) := by decide +kernel
theorem dX2_add_61 : decode cX2_add 61 = .ok (.return_, 1) := by decide +kernel
theorem dX2_add_62 : decode cX2_add 62 = .ok (.aload_n 0, 1) := by decide +kernel
theorem dX2_add_63 : decode cX2_add 63 = .ok (.iload_n 3, 1) := by decide +kernel
theorem dX2_add_64 : decode cX2_add 64 = .ok (.putfield 41, 3) := by decide +kernel
theorem dX2_add_67 : decode cX2_add 67 = .ok (.aload_n 0, 1) := by decide +kernel
theorem dX2_add_68 : decode cX2_add 68 = .ok (.iload_n 1, 1) := by decide +kernel
theorem dX2_add_69 : decode cX2_add 69 = .ok (.invokevirtual 63, 3) := by decide +kernel
theorem dX2_add_72 : decode cX2_add 72 = .ok (.aload_n 0, 1) := by decide +kernel
theorem dX2_add_73 : decode cX2_add 73 = .ok (.getfield 26, 3) := by decide +kernel
theorem dX2_add_76 : decode cX2_add 76 = .ok (.if_icmp .lt 40, 3) := by decide +kernel
theorem dX2_add_79 : decode cX2_add 79 = .ok (.aload_n 0, 1) := by decide +kernel
theorem dX2_add_80 : decode cX2_add 80 = .ok (.getfield 32, 3) := by decide +kernel
theorem dX2_add_83 : decode cX2_add 83 = .ok (.bipush 61, 2) := by decide +kernel
theorem dX2_add_85 : decode cX2_add 85 = .ok (.if_icmp .ge 31, 3) := by decide +kernel
theorem dX2_add_88 : decode cX2_add 88 = .ok (.aload_n 0, 1) := by decide +kernel
theorem dX2_add_89 : decode cX2_add 89 = .ok (.getfield 19, 3) := by decide +kernel
theorem dX2_add_92 : decode cX2_add 92 = .ok (.aload_n 0, 1) := by decide +kernel
theorem dX2_add_93 : decode cX2_add 93 = .ok (.getfield 32, 3) := by decide +kernel
theorem dX2_add_96 : decode cX2_add 96 = .ok (.iload_n 1, 1) := by decide +kernel
theorem dX2_add_97 : decode cX2_add 97 = .ok (.iastore, 1) := by decide +kernel
theorem dX2_add_98 : decode cX2_add 98 = .ok (.aload_n 0, 1) := by decide +kernel
theorem dX2_add_99 : decode cX2_add 99 = .ok (.dup, 1) := by decide +kernel
theorem dX2_add_100 : decode cX2_add 100 = .ok (.getfield 32, 3) := by decide +kernel
theorem dX2_add_103 : decode cX2_add 103 = .ok (.iconst 1, 1) := by decide +kernel
theorem dX2_add_104 : decode cX2_add 104 = .ok (.iadd, 1) := by decide +kernel
theorem dX2_add_105 : decode cX2_add 105 = .ok (.putfield 32, 3) := by decide +kernel
theorem dX2_add_108 : decode cX2_add 108 = .ok (.aload_n 0, 1) := by decide +kernel
theorem dX2_add_109 : decode cX2_add 109 = .ok (.aload_n 0, 1) := by decide +kernel
theorem dX2_add_110 : decode cX2_add 110 = .ok (.getfield 35, 3) := by decide +kernel
theorem dX2_add_113 : decode cX2_add 113 = .ok (.putfield 38, 3) := by decide +kernel
theorem dX2_add_116 : decode cX2_add 116 = .ok (.return_, 1) := by decide +kernel
theorem dX2_isNoticed_0 : decode cX2_isNoticed 0 = .ok (.aload_n 0, 1) := by decide +kernel
theorem dX2_isNoticed_1 : decode cX2_isNoticed 1 = .ok (.getfield 41, 3) := by decide +kernel
theorem dX2_isNoticed_4 : decode cX2_isNoticed 4 = .ok (.iconst (-1), 1) := by decide +kernel
theorem dX2_isNoticed_5 : decode cX2_isNoticed 5 = .ok (.if_icmp .eq 21, 3) := by decide +kernel
theorem dX2_isNoticed_8 : decode cX2_isNoticed 8 = .ok (.iload_n 1, 1) := by decide +kernel
theorem dX2_isNoticed_9 : decode cX2_isNoticed 9 = .ok (.aload_n 0, 1) := by decide +kernel
theorem dX2_isNoticed_10 : decode cX2_isNoticed 10 = .ok (.getfield 11, 3) := by decide +kernel
theorem dX2_isNoticed_13 : decode cX2_isNoticed 13 = .ok (.aload_n 0, 1) := by decide +kernel
theorem dX2_isNoticed_14 : decode cX2_isNoticed 14 = .ok (.getfield 41, 3) := by decide +kernel
theorem dX2_isNoticed_17 : decode cX2_isNoticed 17 = .ok (.iaload, 1) := by decide +kernel
theorem dX2_isNoticed_18 : decode cX2_isNoticed 18 = .ok (.isub, 1) := by decide +kernel
theorem dX2_isNoticed_19 : decode cX2_isNoticed 19 = .ok (.aload_n 0, 1) := by decide +kernel
theorem dX2_isNoticed_20 : decode cX2_isNoticed 20 = .ok (.getfield 29, 3) := by decide +kernel
theorem dX2_isNoticed_23 : decode cX2_isNoticed 23 = .ok (.if_icmp .lt 7, 3) := by decide +kernel
theorem dX2_isNoticed_26 : decode cX2_isNoticed 26 = .ok (.iconst 1, 1) := by decide +kernel
theorem dX2_isNoticed_27 : decode cX2_isNoticed 27 = .ok (.goto 4, 3) := by decide +kernel
theorem dX2_isNoticed_30 : decode cX2_isNoticed 30 = .ok (.iconst 0, 1) := by decide +kernel
theorem dX2_isNoticed_31 : decode cX2_isNoticed 31 = .ok (.ireturn, 1) := by decide +kernel
theorem dX2_doesCount_0 : decode cX2_doesCount 0 = .ok (.iload_n 1, 1) := by decide +kernel
theorem dX2_doesCount_1 : decode cX2_doesCount 1 = .ok (.ifCond .lt 24, 3) := by decide +kernel
theorem dX2_doesCount_4 : decode cX2_doesCount 4 = .ok (.iload_n 1, 1) := by decide +kernel
theorem dX2_doesCount_5 : decode cX2_doesCount 5 = .ok (.aload_n 0, 1) := by decide +kernel
theorem dX2_doesCount_6 : decode cX2_doesCount 6 = .ok (.getfield 35, 3) := by decide +kernel
theorem dX2_doesCount_9 : decode cX2_doesCount 9 = .ok (.if_icmp .ge 16, 3) := by decide +kernel
theorem dX2_doesCount_12 : decode cX2_doesCount 12 = .ok (.aload_n 0, 1) := by decide +kernel
theorem dX2_doesCount_13 : decode cX2_doesCount 13 = .ok (.getfield 15, 3) := by decide +kernel
theorem dX2_doesCount_16 : decode cX2_doesCount 16 = .ok (.iload_n 1, 1) := by decide +kernel
theorem dX2_doesCount_17 : decode cX2_doesCount 17 = .ok (.baload, 1) := by decide +kernel
theorem dX2_doesCount_18 : decode cX2_doesCount 18 = .ok (.ifCond .eq 7, 3) := by decide +kernel
theorem dX2_doesCount_21 : decode cX2_doesCount 21 = .ok (.iconst 1, 1) := by decide +kernel
theorem dX2_doesCount_22 : decode cX2_doesCount 22 = .ok (.goto 4, 3) := by decide +kernel
theorem dX2_doesCount_25 : decode cX2_doesCount 25 = .ok (.iconst 0, 1) := by decide +kernel
theorem dX2_doesCount_26 : decode cX2_doesCount 26 = .ok (.ireturn, 1) := by decide +kernel
theorem dX2_isOpen_0 : decode cX2_isOpen 0 = .ok (.iload_n 1, 1) := by decide +kernel
theorem dX2_isOpen_1 : decode cX2_isOpen 1 = .ok (.aload_n 0, 1) := by decide +kernel
theorem dX2_isOpen_2 : decode cX2_isOpen 2 = .ok (.getfield 38, 3) := by decide +kernel
theorem dX2_isOpen_5 : decode cX2_isOpen 5 = .ok (.if_icmp .lt 15, 3) := by decide +kernel
theorem dX2_isOpen_8 : decode cX2_isOpen 8 = .ok (.aload_n 0, 1) := by decide +kernel
theorem dX2_isOpen_9 : decode cX2_isOpen 9 = .ok (.iload_n 1, 1) := by decide +kernel
theorem dX2_isOpen_10 : decode cX2_isOpen 10 = .ok (.invokevirtual 67, 3) := by decide +kernel
theorem dX2_isOpen_13 : decode cX2_isOpen 13 = .ok (.ifCond .eq 7, 3) := by decide +kernel
theorem dX2_isOpen_16 : decode cX2_isOpen 16 = .ok (.iconst 1, 1) := by decide +kernel
theorem dX2_isOpen_17 : decode cX2_isOpen 17 = .ok (.goto 4, 3) := by decide +kernel
theorem dX2_isOpen_20 : decode cX2_isOpen 20 = .ok (.iconst 0, 1) := by decide +kernel
theorem dX2_isOpen_21 : decode cX2_isOpen 21 = .ok (.ireturn, 1) := by decide +kernel
theorem dX2_pointsOn_0 : decode cX2_pointsOn 0 = .ok (.iconst 0, 1) := by decide +kernel
theorem dX2_pointsOn_1 : decode cX2_pointsOn 1 = .ok (.istore_n 2, 1) := by decide +kernel
theorem dX2_pointsOn_2 : decode cX2_pointsOn 2 = .ok (.aload_n 0, 1) := by decide +kernel
theorem dX2_pointsOn_3 : decode cX2_pointsOn 3 = .ok (.getfield 38, 3) := by decide +kernel
theorem dX2_pointsOn_6 : decode cX2_pointsOn 6 = .ok (.istore_n 3, 1) := by decide +kernel
theorem dX2_pointsOn_7 : decode cX2_pointsOn 7 = .ok (.iload_n 3, 1) := by decide +kernel
theorem dX2_pointsOn_8 : decode cX2_pointsOn 8 = .ok (.aload_n 0, 1) := by decide +kernel
theorem dX2_pointsOn_9 : decode cX2_pointsOn 9 = .ok (.getfield 35, 3) := by decide +kernel
theorem dX2_pointsOn_12 : decode cX2_pointsOn 12 = .ok (.if_icmp .ge 36, 3) := by decide +kernel
theorem dX2_pointsOn_15 : decode cX2_pointsOn 15 = .ok (.aload_n 0, 1) := by decide +kernel
theorem dX2_pointsOn_16 : decode cX2_pointsOn 16 = .ok (.getfield 15, 3) := by decide +kernel
theorem dX2_pointsOn_19 : decode cX2_pointsOn 19 = .ok (.iload_n 3, 1) := by decide +kernel
theorem dX2_pointsOn_20 : decode cX2_pointsOn 20 = .ok (.baload, 1) := by decide +kernel
theorem dX2_pointsOn_21 : decode cX2_pointsOn 21 = .ok (.ifCond .eq 21, 3) := by decide +kernel
theorem dX2_pointsOn_24 : decode cX2_pointsOn 24 = .ok (.aload_n 0, 1) := by decide +kernel
theorem dX2_pointsOn_25 : decode cX2_pointsOn 25 = .ok (.getfield 11, 3) := by decide +kernel
theorem dX2_pointsOn_28 : decode cX2_pointsOn 28 = .ok (.iload_n 3, 1) := by decide +kernel
theorem dX2_pointsOn_29 : decode cX2_pointsOn 29 = .ok (.iaload, 1) := by decide +kernel
theorem dX2_pointsOn_30 : decode cX2_pointsOn 30 = .ok (.iload_n 1, 1) := by decide +kernel
theorem dX2_pointsOn_31 : decode cX2_pointsOn 31 = .ok (.aload_n 0, 1) := by decide +kernel
theorem dX2_pointsOn_32 : decode cX2_pointsOn 32 = .ok (.getfield 22, 3) := by decide +kernel
theorem dX2_pointsOn_35 : decode cX2_pointsOn 35 = .ok (.isub, 1) := by decide +kernel
theorem dX2_pointsOn_36 : decode cX2_pointsOn 36 = .ok (.if_icmp .le 6, 3) := by decide +kernel
theorem dX2_pointsOn_39 : decode cX2_pointsOn 39 = .ok (.iinc 2 1, 3) := by decide +kernel
theorem dX2_pointsOn_42 : decode cX2_pointsOn 42 = .ok (.iinc 3 1, 3) := by decide +kernel
theorem dX2_pointsOn_45 : decode cX2_pointsOn 45 = .ok (.goto (-38), 3) := by decide +kernel
theorem dX2_pointsOn_48 : decode cX2_pointsOn 48 = .ok (.iload_n 2, 1) := by decide +kernel
theorem dX2_pointsOn_49 : decode cX2_pointsOn 49 = .ok (.ireturn, 1) := by decide +kernel
theorem dX2_dayOfOldestPoint_0 : decode cX2_dayOfOldestPoint 0 = .ok (.aload_n 0, 1) := by decide +kernel
theorem dX2_dayOfOldestPoint_1 : decode cX2_dayOfOldestPoint 1 = .ok (.getfield 38, 3) := by decide +kernel
theorem dX2_dayOfOldestPoint_4 : decode cX2_dayOfOldestPoint 4 = .ok (.istore_n 2, 1) := by decide +kernel
theorem dX2_dayOfOldestPoint_5 : decode cX2_dayOfOldestPoint 5 = .ok (.iload_n 2, 1) := by decide +kernel
theorem dX2_dayOfOldestPoint_6 : decode cX2_dayOfOldestPoint 6 = .ok (.aload_n 0, 1) := by decide +kernel
theorem dX2_dayOfOldestPoint_7 : decode cX2_dayOfOldestPoint 7 = .ok (.getfield 35, 3) := by decide +kernel
theorem dX2_dayOfOldestPoint_10 : decode cX2_dayOfOldestPoint 10 = .ok (.if_icmp .ge 40, 3) := by decide +kernel
theorem dX2_dayOfOldestPoint_13 : decode cX2_dayOfOldestPoint 13 = .ok (.aload_n 0, 1) := by decide +kernel
theorem dX2_dayOfOldestPoint_14 : decode cX2_dayOfOldestPoint 14 = .ok (.getfield 15, 3) := by decide +kernel
theorem dX2_dayOfOldestPoint_17 : decode cX2_dayOfOldestPoint 17 = .ok (.iload_n 2, 1) := by decide +kernel
theorem dX2_dayOfOldestPoint_18 : decode cX2_dayOfOldestPoint 18 = .ok (.baload, 1) := by decide +kernel
theorem dX2_dayOfOldestPoint_19 : decode cX2_dayOfOldestPoint 19 = .ok (.ifCond .eq 25, 3) := by decide +kernel
theorem dX2_dayOfOldestPoint_22 : decode cX2_dayOfOldestPoint 22 = .ok (.aload_n 0, 1) := by decide +kernel
theorem dX2_dayOfOldestPoint_23 : decode cX2_dayOfOldestPoint 23 = .ok (.getfield 11, 3) := by decide +kernel
theorem dX2_dayOfOldestPoint_26 : decode cX2_dayOfOldestPoint 26 = .ok (.iload_n 2, 1) := by decide +kernel
theorem dX2_dayOfOldestPoint_27 : decode cX2_dayOfOldestPoint 27 = .ok (.iaload, 1) := by decide +kernel
theorem dX2_dayOfOldestPoint_28 : decode cX2_dayOfOldestPoint 28 = .ok (.iload_n 1, 1) := by decide +kernel
theorem dX2_dayOfOldestPoint_29 : decode cX2_dayOfOldestPoint 29 = .ok (.aload_n 0, 1) := by decide +kernel
theorem dX2_dayOfOldestPoint_30 : decode cX2_dayOfOldestPoint 30 = .ok (.getfield 22, 3) := by decide +kernel
theorem dX2_dayOfOldestPoint_33 : decode cX2_dayOfOldestPoint 33 = .ok (.isub, 1) := by decide +kernel
theorem dX2_dayOfOldestPoint_34 : decode cX2_dayOfOldestPoint 34 = .ok (.if_icmp .le 10, 3) := by decide +kernel
theorem dX2_dayOfOldestPoint_37 : decode cX2_dayOfOldestPoint 37 = .ok (.aload_n 0, 1) := by decide +kernel
theorem dX2_dayOfOldestPoint_38 : decode cX2_dayOfOldestPoint 38 = .ok (.getfield 11, 3) := by decide +kernel
theorem dX2_dayOfOldestPoint_41 : decode cX2_dayOfOldestPoint 41 = .ok (.iload_n 2, 1) := by decide +kernel
theorem dX2_dayOfOldestPoint_42 : decode cX2_dayOfOldestPoint 42 = .ok (.iaload, 1) := by decide +kernel
theorem dX2_dayOfOldestPoint_43 : decode cX2_dayOfOldestPoint 43 = .ok (.ireturn, 1) := by decide +kernel
theorem dX2_dayOfOldestPoint_44 : decode cX2_dayOfOldestPoint 44 = .ok (.iinc 2 1, 3) := by decide +kernel
theorem dX2_dayOfOldestPoint_47 : decode cX2_dayOfOldestPoint 47 = .ok (.goto (-42), 3) := by decide +kernel
theorem dX2_dayOfOldestPoint_50 : decode cX2_dayOfOldestPoint 50 = .ok (.iconst (-1), 1) := by decide +kernel
theorem dX2_dayOfOldestPoint_51 : decode cX2_dayOfOldestPoint 51 = .ok (.ireturn, 1) := by decide +kernel
theorem dX2_dayOfViolation_0 : decode cX2_dayOfViolation 0 = .ok (.iload_n 1, 1) := by decide +kernel
theorem dX2_dayOfViolation_1 : decode cX2_dayOfViolation 1 = .ok (.ifCond .lt 20, 3) := by decide +kernel
theorem dX2_dayOfViolation_4 : decode cX2_dayOfViolation 4 = .ok (.iload_n 1, 1) := by decide +kernel
theorem dX2_dayOfViolation_5 : decode cX2_dayOfViolation 5 = .ok (.aload_n 0, 1) := by decide +kernel
theorem dX2_dayOfViolation_6 : decode cX2_dayOfViolation 6 = .ok (.getfield 32, 3) := by decide +kernel
theorem dX2_dayOfViolation_9 : decode cX2_dayOfViolation 9 = .ok (.if_icmp .ge 12, 3) := by decide +kernel
theorem dX2_dayOfViolation_12 : decode cX2_dayOfViolation 12 = .ok (.aload_n 0, 1) := by decide +kernel
theorem dX2_dayOfViolation_13 : decode cX2_dayOfViolation 13 = .ok (.getfield 19, 3) := by decide +kernel
theorem dX2_dayOfViolation_16 : decode cX2_dayOfViolation 16 = .ok (.iload_n 1, 1) := by decide +kernel
theorem dX2_dayOfViolation_17 : decode cX2_dayOfViolation 17 = .ok (.iaload, 1) := by decide +kernel
theorem dX2_dayOfViolation_18 : decode cX2_dayOfViolation 18 = .ok (.goto 4, 3) := by decide +kernel
theorem dX2_dayOfViolation_21 : decode cX2_dayOfViolation 21 = .ok (.iconst (-1), 1) := by decide +kernel
theorem dX2_dayOfViolation_22 : decode cX2_dayOfViolation 22 = .ok (.ireturn, 1) := by decide +kernel
theorem dX3_init_0 : decode cX3_init 0 = .ok (.aload_n 0, 1) := by decide +kernel
theorem dX3_init_1 : decode cX3_init 1 = .ok (.invokespecial 3, 3) := by decide +kernel
theorem dX3_init_4 : decode cX3_init 4 = .ok (.aload_n 0, 1) := by decide +kernel
theorem dX3_init_5 : decode cX3_init 5 = .ok (.sipush 400, 3) := by decide +kernel
theorem dX3_init_8 : decode cX3_init 8 = .ok (.newarray .byte, 2) := by decide +kernel
theorem dX3_init_10 : decode cX3_init 10 = .ok (.putfield 11, 3) := by decide +kernel
theorem dX3_init_13 : decode cX3_init 13 = .ok (.return_, 1) := by decide +kernel
theorem dX3_hasRoomForFive_0 : decode cX3_hasRoomForFive 0 = .ok (.aload_n 0, 1) := by decide +kernel
theorem dX3_hasRoomForFive_1 : decode cX3_hasRoomForFive 1 = .ok (.getfield 15, 3) := by decide +kernel
theorem dX3_hasRoomForFive_4 : decode cX3_hasRoomForFive 4 = .ok (.bipush 20, 2) := by decide +kernel
theorem dX3_hasRoomForFive_6 : decode cX3_hasRoomForFive 6 = .ok (.iadd, 1) := by decide +kernel
theorem dX3_hasRoomForFive_7 : decode cX3_hasRoomForFive 7 = .ok (.sipush 400, 3) := by decide +kernel
theorem dX3_hasRoomForFive_10 : decode cX3_hasRoomForFive 10 = .ok (.if_icmp .gt 7, 3) := by decide +kernel
theorem dX3_hasRoomForFive_13 : decode cX3_hasRoomForFive 13 = .ok (.iconst 1, 1) := by decide +kernel
theorem dX3_hasRoomForFive_14 : decode cX3_hasRoomForFive 14 = .ok (.goto 4, 3) := by decide +kernel
theorem dX3_hasRoomForFive_17 : decode cX3_hasRoomForFive 17 = .ok (.iconst 0, 1) := by decide +kernel
theorem dX3_hasRoomForFive_18 : decode cX3_hasRoomForFive 18 = .ok (.ireturn, 1) := by decide +kernel
theorem dX3_put_0 : decode cX3_put 0 = .ok (.bipush 24, 2) := by decide +kernel
theorem dX3_put_2 : decode cX3_put 2 = .ok (.istore_n 2, 1) := by decide +kernel
theorem dX3_put_3 : decode cX3_put 3 = .ok (.iload_n 2, 1) := by decide +kernel
theorem dX3_put_4 : decode cX3_put 4 = .ok (.ifCond .lt 49, 3) := by decide +kernel
theorem dX3_put_7 : decode cX3_put 7 = .ok (.aload_n 0, 1) := by decide +kernel
theorem dX3_put_8 : decode cX3_put 8 = .ok (.getfield 15, 3) := by decide +kernel
theorem dX3_put_11 : decode cX3_put 11 = .ok (.ifCond .lt 36, 3) := by decide +kernel
theorem dX3_put_14 : decode cX3_put 14 = .ok (.aload_n 0, 1) := by decide +kernel
theorem dX3_put_15 : decode cX3_put 15 = .ok (.getfield 15, 3) := by decide +kernel
theorem dX3_put_18 : decode cX3_put 18 = .ok (.sipush 400, 3) := by decide +kernel
theorem dX3_put_21 : decode cX3_put 21 = .ok (.if_icmp .ge 26, 3) := by decide +kernel
theorem dX3_put_24 : decode cX3_put 24 = .ok (.aload_n 0, 1) := by decide +kernel
theorem dX3_put_25 : decode cX3_put 25 = .ok (.getfield 11, 3) := by decide +kernel
theorem dX3_put_28 : decode cX3_put 28 = .ok (.aload_n 0, 1) := by decide +kernel
theorem dX3_put_29 : decode cX3_put 29 = .ok (.getfield 15, 3) := by decide +kernel
theorem dX3_put_32 : decode cX3_put 32 = .ok (.iload_n 1, 1) := by decide +kernel
theorem dX3_put_33 : decode cX3_put 33 = .ok (.iload_n 2, 1) := by decide +kernel
theorem dX3_put_34 : decode cX3_put 34 = .ok (.ishr, 1) := by decide +kernel
theorem dX3_put_35 : decode cX3_put 35 = .ok (.i2b, 1) := by decide +kernel
theorem dX3_put_36 : decode cX3_put 36 = .ok (.bastore, 1) := by decide +kernel
theorem dX3_put_37 : decode cX3_put 37 = .ok (.aload_n 0, 1) := by decide +kernel
theorem dX3_put_38 : decode cX3_put 38 = .ok (.dup, 1) := by decide +kernel
theorem dX3_put_39 : decode cX3_put 39 = .ok (.getfield 15, 3) := by decide +kernel
theorem dX3_put_42 : decode cX3_put 42 = .ok (.iconst 1, 1) := by decide +kernel
theorem dX3_put_43 : decode cX3_put 43 = .ok (.iadd, 1) := by decide +kernel
theorem dX3_put_44 : decode cX3_put 44 = .ok (.putfield 15, 3) := by decide +kernel
theorem dX3_put_47 : decode cX3_put 47 = .ok (.iinc 2 (-8), 3) := by decide +kernel
theorem dX3_put_50 : decode cX3_put 50 = .ok (.goto (-47), 3) := by decide +kernel
theorem dX3_put_53 : decode cX3_put 53 = .ok (.return_, 1) := by decide +kernel
theorem dX3_rewind_0 : decode cX3_rewind 0 = .ok (.aload_n 0, 1) := by decide +kernel
theorem dX3_rewind_1 : decode cX3_rewind 1 = .ok (.iconst 0, 1) := by decide +kernel
theorem dX3_rewind_2 : decode cX3_rewind 2 = .ok (.putfield 19, 3) := by decide +kernel
theorem dX3_rewind_5 : decode cX3_rewind 5 = .ok (.return_, 1) := by decide +kernel
theorem dX3_readToken_0 : decode cX3_readToken 0 = .ok (.aload_n 0, 1) := by decide +kernel
theorem dX3_readToken_1 : decode cX3_readToken 1 = .ok (.getfield 19, 3) := by decide +kernel
theorem dX3_readToken_4 : decode cX3_readToken 4 = .ok (.aload_n 0, 1) := by decide +kernel
theorem dX3_readToken_5 : decode cX3_readToken 5 = .ok (.getfield 15, 3) := by decide +kernel
theorem dX3_readToken_8 : decode cX3_readToken 8 = .ok (.if_icmp .ge 30, 3) := by decide +kernel
theorem dX3_readToken_11 : decode cX3_readToken 11 = .ok (.aload_n 0, 1) := by decide +kernel
theorem dX3_readToken_12 : decode cX3_readToken 12 = .ok (.aload_n 0, 1) := by decide +kernel
theorem dX3_readToken_13 : decode cX3_readToken 13 = .ok (.getfield 19, 3) := by decide +kernel
theorem dX3_readToken_16 : decode cX3_readToken 16 = .ok (.invokevirtual 22, 3) := by decide +kernel
theorem dX3_readToken_19 : decode cX3_readToken 19 = .ok (.invokestatic 26, 3) := by decide +kernel
theorem dX3_readToken_22 : decode cX3_readToken 22 = .ok (.ifCond .eq 16, 3) := by decide +kernel
theorem dX3_readToken_25 : decode cX3_readToken 25 = .ok (.aload_n 0, 1) := by decide +kernel
theorem dX3_readToken_26 : decode cX3_readToken 26 = .ok (.dup, 1) := by decide +kernel
theorem dX3_readToken_27 : decode cX3_readToken 27 = .ok (.getfield 19, 3) := by decide +kernel
theorem dX3_readToken_30 : decode cX3_readToken 30 = .ok (.iconst 1, 1) := by decide +kernel
theorem dX3_readToken_31 : decode cX3_readToken 31 = .ok (.iadd, 1) := by decide +kernel
theorem dX3_readToken_32 : decode cX3_readToken 32 = .ok (.putfield 19, 3) := by decide +kernel
theorem dX3_readToken_35 : decode cX3_readToken 35 = .ok (.goto (-35), 3) := by decide +kernel
theorem dX3_readToken_38 : decode cX3_readToken 38 = .ok (.aload_n 0, 1) := by decide +kernel
theorem dX3_readToken_39 : decode cX3_readToken 39 = .ok (.aload_n 0, 1) := by decide +kernel
theorem dX3_readToken_40 : decode cX3_readToken 40 = .ok (.getfield 19, 3) := by decide +kernel
theorem dX3_readToken_43 : decode cX3_readToken 43 = .ok (.putfield 30, 3) := by decide +kernel
theorem dX3_readToken_46 : decode cX3_readToken 46 = .ok (.aload_n 0, 1) := by decide +kernel
theorem dX3_readToken_47 : decode cX3_readToken 47 = .ok (.aload_n 0, 1) := by decide +kernel
theorem dX3_readToken_48 : decode cX3_readToken 48 = .ok (.getfield 19, 3) := by decide +kernel
theorem dX3_readToken_51 : decode cX3_readToken 51 = .ok (.invokevirtual 22, 3) := by decide +kernel
theorem dX3_readToken_54 : decode cX3_readToken 54 = .ok (.istore_n 1, 1) := by decide +kernel
theorem dX3_readToken_55 : decode cX3_readToken 55 = .ok (.iload_n 1, 1) := by decide +kernel
theorem dX3_readToken_56 : decode cX3_readToken 56 = .ok (.iconst (-1), 1) := by decide +kernel
theorem dX3_readToken_57 : decode cX3_readToken 57 = .ok (.if_icmp .ne 11, 3) := by decide +kernel
theorem dX3_readToken_60 : decode cX3_readToken 60 = .ok (.aload_n 0, 1) := by decide +kernel
theorem dX3_readToken_61 : decode cX3_readToken 61 = .ok (.iconst 0, 1) := by decide +kernel
theorem dX3_readToken_62 : decode cX3_readToken 62 = .ok (.putfield 33, 3) := by decide +kernel
theorem dX3_readToken_65 : decode cX3_readToken 65 = .ok (.goto 56, 3) := by decide +kernel
theorem dX3_readToken_68 : decode cX3_readToken 68 = .ok (.iload_n 1, 1) := by decide +kernel
theorem dX3_readToken_69 : decode cX3_readToken 69 = .ok (.invokestatic 36, 3) := by decide +kernel
theorem dX3_readToken_72 : decode cX3_readToken 72 = .ok (.ifCond .eq 10, 3) := by decide +kernel
theorem dX3_readToken_75 : decode cX3_readToken 75 = .ok (.aload_n 0, 1) := by decide +kernel
theorem dX3_readToken_76 : decode cX3_readToken 76 = .ok (.invokevirtual 39, 3) := by decide +kernel
theorem dX3_readToken_79 : decode cX3_readToken 79 = .ok (.goto 42, 3) := by decide +kernel
theorem dX3_readToken_82 : decode cX3_readToken 82 = .ok (.iload_n 1, 1) := by decide +kernel
theorem dX3_readToken_83 : decode cX3_readToken 83 = .ok (.invokestatic 42, 3) := by decide +kernel
theorem dX3_readToken_86 : decode cX3_readToken 86 = .ok (.ifCond .eq 10, 3) := by decide +kernel
theorem dX3_readToken_89 : decode cX3_readToken 89 = .ok (.aload_n 0, 1) := by decide +kernel
theorem dX3_readToken_90 : decode cX3_readToken 90 = .ok (.invokevirtual 45, 3) := by decide +kernel
theorem dX3_readToken_93 : decode cX3_readToken 93 = .ok (.goto 28, 3) := by decide +kernel
theorem dX3_readToken_96 : decode cX3_readToken 96 = .ok (.aload_n 0, 1) := by decide +kernel
theorem dX3_readToken_97 : decode cX3_readToken 97 = .ok (.iload_n 1, 1) := by decide +kernel
theorem dX3_readToken_98 : decode cX3_readToken 98 = .ok (.bipush 59, 2) := by decide +kernel
theorem dX3_readToken_100 : decode cX3_readToken 100 = .ok (.if_icmp .ne 7, 3) := by decide +kernel
theorem dX3_readToken_103 : decode cX3_readToken 103 = .ok (.iconst 3, 1) := by decide +kernel
theorem dX3_readToken_104 : decode cX3_readToken 104 = .ok (.goto 4, 3) := by decide +kernel
theorem dX3_readToken_107 : decode cX3_readToken 107 = .ok (.iconst 4, 1) := by decide +kernel
theorem dX3_readToken_108 : decode cX3_readToken 108 = .ok (.putfield 33, 3) := by decide +kernel
theorem dX3_readToken_111 : decode cX3_readToken 111 = .ok (.aload_n 0, 1) := by decide +kernel
theorem dX3_readToken_112 : decode cX3_readToken 112 = .ok (.dup, 1) := by decide +kernel
theorem dX3_readToken_113 : decode cX3_readToken 113 = .ok (.getfield 19, 3) := by decide +kernel
theorem dX3_readToken_116 : decode cX3_readToken 116 = .ok (.iconst 1, 1) := by decide +kernel
theorem dX3_readToken_117 : decode cX3_readToken 117 = .ok (.iadd, 1) := by decide +kernel
theorem dX3_readToken_118 : decode cX3_readToken 118 = .ok (.putfield 19, 3) := by decide +kernel
theorem dX3_readToken_121 : decode cX3_readToken 121 = .ok (.return_, 1) := by decide +kernel
theorem dX3_readWord_0 : decode cX3_readWord 0 = .ok (.aload_n 0, 1) := by decide +kernel
theorem dX3_readWord_1 : decode cX3_readWord 1 = .ok (.iconst 1, 1) := by decide +kernel
theorem dX3_readWord_2 : decode cX3_readWord 2 = .ok (.putfield 33, 3) := by decide +kernel
theorem dX3_readWord_5 : decode cX3_readWord 5 = .ok (.aload_n 0, 1) := by decide +kernel
theorem dX3_readWord_6 : decode cX3_readWord 6 = .ok (.getfield 19, 3) := by decide +kernel
theorem dX3_readWord_9 : decode cX3_readWord 9 = .ok (.aload_n 0, 1) := by decide +kernel
theorem dX3_readWord_10 : decode cX3_readWord 10 = .ok (.getfield 15, 3) := by decide +kernel
theorem dX3_readWord_13 : decode cX3_readWord 13 = .ok (.if_icmp .ge 30, 3) := by decide +kernel
theorem dX3_readWord_16 : decode cX3_readWord 16 = .ok (.aload_n 0, 1) := by decide +kernel
theorem dX3_readWord_17 : decode cX3_readWord 17 = .ok (.aload_n 0, 1) := by decide +kernel
theorem dX3_readWord_18 : decode cX3_readWord 18 = .ok (.getfield 19, 3) := by decide +kernel
theorem dX3_readWord_21 : decode cX3_readWord 21 = .ok (.invokevirtual 22, 3) := by decide +kernel
theorem dX3_readWord_24 : decode cX3_readWord 24 = .ok (.invokestatic 36, 3) := by decide +kernel
theorem dX3_readWord_27 : decode cX3_readWord 27 = .ok (.ifCond .eq 16, 3) := by decide +kernel
theorem dX3_readWord_30 : decode cX3_readWord 30 = .ok (.aload_n 0, 1) := by decide +kernel
theorem dX3_readWord_31 : decode cX3_readWord 31 = .ok (.dup, 1) := by decide +kernel
theorem dX3_readWord_32 : decode cX3_readWord 32 = .ok (.getfield 19, 3) := by decide +kernel
theorem dX3_readWord_35 : decode cX3_readWord 35 = .ok (.iconst 1, 1) := by decide +kernel
theorem dX3_readWord_36 : decode cX3_readWord 36 = .ok (.iadd, 1) := by decide +kernel
theorem dX3_readWord_37 : decode cX3_readWord 37 = .ok (.putfield 19, 3) := by decide +kernel
theorem dX3_readWord_40 : decode cX3_readWord 40 = .ok (.goto (-35), 3) := by decide +kernel
theorem dX3_readWord_43 : decode cX3_readWord 43 = .ok (.return_, 1) := by decide +kernel
theorem dX3_readNumber_0 : decode cX3_readNumber 0 = .ok (.aload_n 0, 1) := by decide +kernel
theorem dX3_readNumber_1 : decode cX3_readNumber 1 = .ok (.iconst 0, 1) := by decide +kernel
theorem dX3_readNumber_2 : decode cX3_readNumber 2 = .ok (.putfield 48, 3) := by decide +kernel
theorem dX3_readNumber_5 : decode cX3_readNumber 5 = .ok (.aload_n 0, 1) := by decide +kernel
theorem dX3_readNumber_6 : decode cX3_readNumber 6 = .ok (.getfield 19, 3) := by decide +kernel
theorem dX3_readNumber_9 : decode cX3_readNumber 9 = .ok (.aload_n 0, 1) := by decide +kernel
theorem dX3_readNumber_10 : decode cX3_readNumber 10 = .ok (.getfield 15, 3) := by decide +kernel
theorem dX3_readNumber_13 : decode cX3_readNumber 13 = .ok (.if_icmp .ge 66, 3) := by decide +kernel
theorem dX3_readNumber_16 : decode cX3_readNumber 16 = .ok (.aload_n 0, 1) := by decide +kernel
theorem dX3_readNumber_17 : decode cX3_readNumber 17 = .ok (.aload_n 0, 1) := by decide +kernel
theorem dX3_readNumber_18 : decode cX3_readNumber 18 = .ok (.getfield 19, 3) := by decide +kernel
theorem dX3_readNumber_21 : decode cX3_readNumber 21 = .ok (.invokevirtual 22, 3) := by decide +kernel
theorem dX3_readNumber_24 : decode cX3_readNumber 24 = .ok (.invokestatic 42, 3) := by decide +kernel
theorem dX3_readNumber_27 : decode cX3_readNumber 27 = .ok (.ifCond .eq 52, 3) := by decide +kernel
theorem dX3_readNumber_30 : decode cX3_readNumber 30 = .ok (.aload_n 0, 1) := by decide +kernel
theorem dX3_readNumber_31 : decode cX3_readNumber 31 = .ok (.getfield 19, 3) := by decide +kernel
theorem dX3_readNumber_34 : decode cX3_readNumber 34 = .ok (.aload_n 0, 1) := by decide +kernel
theorem dX3_readNumber_35 : decode cX3_readNumber 35 = .ok (.getfield 30, 3) := by decide +kernel
theorem dX3_readNumber_38 : decode cX3_readNumber 38 = .ok (.isub, 1) := by decide +kernel
theorem dX3_readNumber_39 : decode cX3_readNumber 39 = .ok (.iconst 4, 1) := by decide +kernel
theorem dX3_readNumber_40 : decode cX3_readNumber 40 = .ok (.if_icmp .ge 26, 3) := by decide +kernel
theorem dX3_readNumber_43 : decode cX3_readNumber 43 = .ok (.aload_n 0, 1) := by decide +kernel
theorem dX3_readNumber_44 : decode cX3_readNumber 44 = .ok (.aload_n 0, 1) := by decide +kernel
theorem dX3_readNumber_45 : decode cX3_readNumber 45 = .ok (.getfield 48, 3) := by decide +kernel
theorem dX3_readNumber_48 : decode cX3_readNumber 48 = .ok (.bipush 10, 2) := by decide +kernel
theorem dX3_readNumber_50 : decode cX3_readNumber 50 = .ok (.imul, 1) := by decide +kernel
theorem dX3_readNumber_51 : decode cX3_readNumber 51 = .ok (.aload_n 0, 1) := by decide +kernel
theorem dX3_readNumber_52 : decode cX3_readNumber 52 = .ok (.aload_n 0, 1) := by decide +kernel
theorem dX3_readNumber_53 : decode cX3_readNumber 53 = .ok (.getfield 19, 3) := by decide +kernel
theorem dX3_readNumber_56 : decode cX3_readNumber 56 = .ok (.invokevirtual 22, 3) := by decide +kernel
theorem dX3_readNumber_59 : decode cX3_readNumber 59 = .ok (.iadd, 1) := by decide +kernel
theorem dX3_readNumber_60 : decode cX3_readNumber 60 = .ok (.bipush 48, 2) := by decide +kernel
theorem dX3_readNumber_62 : decode cX3_readNumber 62 = .ok (.isub, 1) := by decide +kernel
theorem dX3_readNumber_63 : decode cX3_readNumber 63 = .ok (.putfield 48, 3) := by decide +kernel
theorem dX3_readNumber_66 : decode cX3_readNumber 66 = .ok (.aload_n 0, 1) := by decide +kernel
theorem dX3_readNumber_67 : decode cX3_readNumber 67 = .ok (.dup, 1) := by decide +kernel
theorem dX3_readNumber_68 : decode cX3_readNumber 68 = .ok (.getfield 19, 3) := by decide +kernel
theorem dX3_readNumber_71 : decode cX3_readNumber 71 = .ok (.iconst 1, 1) := by decide +kernel
theorem dX3_readNumber_72 : decode cX3_readNumber 72 = .ok (.iadd, 1) := by decide +kernel
theorem dX3_readNumber_73 : decode cX3_readNumber 73 = .ok (.putfield 19, 3) := by decide +kernel
theorem dX3_readNumber_76 : decode cX3_readNumber 76 = .ok (.goto (-71), 3) := by decide +kernel
theorem dX3_readNumber_79 : decode cX3_readNumber 79 = .ok (.aload_n 0, 1) := by decide +kernel
theorem dX3_readNumber_80 : decode cX3_readNumber 80 = .ok (.aload_n 0, 1) := by decide +kernel
theorem dX3_readNumber_81 : decode cX3_readNumber 81 = .ok (.getfield 19, 3) := by decide +kernel
theorem dX3_readNumber_84 : decode cX3_readNumber 84 = .ok (.aload_n 0, 1) := by decide +kernel
theorem dX3_readNumber_85 : decode cX3_readNumber 85 = .ok (.getfield 30, 3) := by decide +kernel
theorem dX3_readNumber_88 : decode cX3_readNumber 88 = .ok (.isub, 1) := by decide +kernel
theorem dX3_readNumber_89 : decode cX3_readNumber 89 = .ok (.iconst 4, 1) := by decide +kernel
theorem dX3_readNumber_90 : decode cX3_readNumber 90 = .ok (.if_icmp .le 7, 3) := by decide +kernel
theorem dX3_readNumber_93 : decode cX3_readNumber 93 = .ok (.iconst 4, 1) := by decide +kernel
theorem dX3_readNumber_94 : decode cX3_readNumber 94 = .ok (.goto 4, 3) := by decide +kernel
theorem dX3_readNumber_97 : decode cX3_readNumber 97 = .ok (.iconst 2, 1) := by decide +kernel
theorem dX3_readNumber_98 : decode cX3_readNumber 98 = .ok (.putfield 33, 3) := by decide +kernel
theorem dX3_readNumber_101 : decode cX3_readNumber 101 = .ok (.return_, 1) := by decide +kernel
theorem dX3_isWord_0 : decode cX3_isWord 0 = .ok (.aload_n 0, 1) := by decide +kernel
theorem dX3_isWord_1 : decode cX3_isWord 1 = .ok (.getfield 33, 3) := by decide +kernel
theorem dX3_isWord_4 : decode cX3_isWord 4 = .ok (.iconst 1, 1) := by decide +kernel
theorem dX3_isWord_5 : decode cX3_isWord 5 = .ok (.if_icmp .ne 19, 3) := by decide +kernel
theorem dX3_isWord_8 : decode cX3_isWord 8 = .ok (.aload_n 0, 1) := by decide +kernel
theorem dX3_isWord_9 : decode cX3_isWord 9 = .ok (.getfield 19, 3) := by decide +kernel
theorem dX3_isWord_12 : decode cX3_isWord 12 = .ok (.aload_n 0, 1) := by decide +kernel
theorem dX3_isWord_13 : decode cX3_isWord 13 = .ok (.getfield 30, 3) := by decide +kernel
theorem dX3_isWord_16 : decode cX3_isWord 16 = .ok (.isub, 1) := by decide +kernel
theorem dX3_isWord_17 : decode cX3_isWord 17 = .ok (.aload_n 1, 1) := by decide +kernel
theorem dX3_isWord_18 : decode cX3_isWord 18 = .ok (.invokevirtual 51, 3) := by decide +kernel
theorem dX3_isWord_21 : decode cX3_isWord 21 = .ok (.if_icmp .eq 5, 3) := by decide +kernel
theorem dX3_isWord_24 : decode cX3_isWord 24 = .ok (.iconst 0, 1) := by decide +kernel
theorem dX3_isWord_25 : decode cX3_isWord 25 = .ok (.ireturn, 1) := by decide +kernel
theorem dX3_isWord_26 : decode cX3_isWord 26 = .ok (.iconst 0, 1) := by decide +kernel
theorem dX3_isWord_27 : decode cX3_isWord 27 = .ok (.istore_n 2, 1) := by decide +kernel
theorem dX3_isWord_28 : decode cX3_isWord 28 = .ok (.iload_n 2, 1) := by decide +kernel
theorem dX3_isWord_29 : decode cX3_isWord 29 = .ok (.aload_n 1, 1) := by decide +kernel
theorem dX3_isWord_30 : decode cX3_isWord 30 = .ok (.invokevirtual 51, 3) := by decide +kernel
theorem dX3_isWord_33 : decode cX3_isWord 33 = .ok (.if_icmp .ge 29, 3) := by decide +kernel
theorem dX3_isWord_36 : decode cX3_isWord 36 = .ok (.aload_n 0, 1) := by decide +kernel
theorem dX3_isWord_37 : decode cX3_isWord 37 = .ok (.aload_n 0, 1) := by decide +kernel
theorem dX3_isWord_38 : decode cX3_isWord 38 = .ok (.getfield 30, 3) := by decide +kernel
theorem dX3_isWord_41 : decode cX3_isWord 41 = .ok (.iload_n 2, 1) := by decide +kernel
theorem dX3_isWord_42 : decode cX3_isWord 42 = .ok (.iadd, 1) := by decide +kernel
theorem dX3_isWord_43 : decode cX3_isWord 43 = .ok (.invokevirtual 22, 3) := by decide +kernel
theorem dX3_isWord_46 : decode cX3_isWord 46 = .ok (.aload_n 1, 1) := by decide +kernel
theorem dX3_isWord_47 : decode cX3_isWord 47 = .ok (.iload_n 2, 1) := by decide +kernel
theorem dX3_isWord_48 : decode cX3_isWord 48 = .ok (.invokevirtual 57, 3) := by decide +kernel
theorem dX3_isWord_51 : decode cX3_isWord 51 = .ok (.if_icmp .eq 5, 3) := by decide +kernel
theorem dX3_isWord_54 : decode cX3_isWord 54 = .ok (.iconst 0, 1) := by decide +kernel
theorem dX3_isWord_55 : decode cX3_isWord 55 = .ok (.ireturn, 1) := by decide +kernel
theorem dX3_isWord_56 : decode cX3_isWord 56 = .ok (.iinc 2 1, 3) := by decide +kernel
theorem dX3_isWord_59 : decode cX3_isWord 59 = .ok (.goto (-31), 3) := by decide +kernel
theorem dX3_isWord_62 : decode cX3_isWord 62 = .ok (.iconst 1, 1) := by decide +kernel
theorem dX3_isWord_63 : decode cX3_isWord 63 = .ok (.ireturn, 1) := by decide +kernel
theorem dX3_byteAt_0 : decode cX3_byteAt 0 = .ok (.iload_n 1, 1) := by decide +kernel
theorem dX3_byteAt_1 : decode cX3_byteAt 1 = .ok (.ifCond .lt 31, 3) := by decide +kernel
theorem dX3_byteAt_4 : decode cX3_byteAt 4 = .ok (.iload_n 1, 1) := by decide +kernel
theorem dX3_byteAt_5 : decode cX3_byteAt 5 = .ok (.aload_n 0, 1) := by decide +kernel
theorem dX3_byteAt_6 : decode cX3_byteAt 6 = .ok (.getfield 15, 3) := by decide +kernel
theorem dX3_byteAt_9 : decode cX3_byteAt 9 = .ok (.if_icmp .ge 23, 3) := by decide +kernel
theorem dX3_byteAt_12 : decode cX3_byteAt 12 = .ok (.iload_n 1, 1) := by decide +kernel
theorem dX3_byteAt_13 : decode cX3_byteAt 13 = .ok (.sipush 400, 3) := by decide +kernel
theorem dX3_byteAt_16 : decode cX3_byteAt 16 = .ok (.if_icmp .ge 16, 3) := by decide +kernel
theorem dX3_byteAt_19 : decode cX3_byteAt 19 = .ok (.aload_n 0, 1) := by decide +kernel
theorem dX3_byteAt_20 : decode cX3_byteAt 20 = .ok (.getfield 11, 3) := by decide +kernel
theorem dX3_byteAt_23 : decode cX3_byteAt 23 = .ok (.iload_n 1, 1) := by decide +kernel
theorem dX3_byteAt_24 : decode cX3_byteAt 24 = .ok (.baload, 1) := by decide +kernel
theorem dX3_byteAt_25 : decode cX3_byteAt 25 = .ok (.sipush 255, 3) := by decide +kernel
theorem dX3_byteAt_28 : decode cX3_byteAt 28 = .ok (.iand, 1) := by decide +kernel
theorem dX3_byteAt_29 : decode cX3_byteAt 29 = .ok (.goto 4, 3) := by decide +kernel
theorem dX3_byteAt_32 : decode cX3_byteAt 32 = .ok (.iconst (-1), 1) := by decide +kernel
theorem dX3_byteAt_33 : decode cX3_byteAt 33 = .ok (.ireturn, 1) := by decide +kernel
theorem dX3_isBlank_0 : decode cX3_isBlank 0 = .ok (.iload_n 0, 1) := by decide +kernel
theorem dX3_isBlank_1 : decode cX3_isBlank 1 = .ok (.bipush 32, 2) := by decide +kernel
theorem dX3_isBlank_3 : decode cX3_isBlank 3 = .ok (.if_icmp .eq 9, 3) := by decide +kernel
theorem dX3_isBlank_6 : decode cX3_isBlank 6 = .ok (.iload_n 0, 1) := by decide +kernel
theorem dX3_isBlank_7 : decode cX3_isBlank 7 = .ok (.bipush 10, 2) := by decide +kernel
theorem dX3_isBlank_9 : decode cX3_isBlank 9 = .ok (.if_icmp .ne 7, 3) := by decide +kernel
theorem dX3_isBlank_12 : decode cX3_isBlank 12 = .ok (.iconst 1, 1) := by decide +kernel
theorem dX3_isBlank_13 : decode cX3_isBlank 13 = .ok (.goto 4, 3) := by decide +kernel
theorem dX3_isBlank_16 : decode cX3_isBlank 16 = .ok (.iconst 0, 1) := by decide +kernel
theorem dX3_isBlank_17 : decode cX3_isBlank 17 = .ok (.ireturn, 1) := by decide +kernel
theorem dX3_isLetter_0 : decode cX3_isLetter 0 = .ok (.iload_n 0, 1) := by decide +kernel
theorem dX3_isLetter_1 : decode cX3_isLetter 1 = .ok (.bipush 97, 2) := by decide +kernel
theorem dX3_isLetter_3 : decode cX3_isLetter 3 = .ok (.if_icmp .lt 13, 3) := by decide +kernel
theorem dX3_isLetter_6 : decode cX3_isLetter 6 = .ok (.iload_n 0, 1) := by decide +kernel
theorem dX3_isLetter_7 : decode cX3_isLetter 7 = .ok (.bipush 122, 2) := by decide +kernel
theorem dX3_isLetter_9 : decode cX3_isLetter 9 = .ok (.if_icmp .gt 7, 3) := by decide +kernel
theorem dX3_isLetter_12 : decode cX3_isLetter 12 = .ok (.iconst 1, 1) := by decide +kernel
theorem dX3_isLetter_13 : decode cX3_isLetter 13 = .ok (.goto 4, 3) := by decide +kernel
theorem dX3_isLetter_16 : decode cX3_isLetter 16 = .ok (.iconst 0, 1) := by decide +kernel
theorem dX3_isLetter_17 : decode cX3_isLetter 17 = .ok (.ireturn, 1) := by decide +kernel
theorem dX3_isDigit_0 : decode cX3_isDigit 0 = .ok (.iload_n 0, 1) := by decide +kernel
theorem dX3_isDigit_1 : decode cX3_isDigit 1 = .ok (.bipush 48, 2) := by decide +kernel
theorem dX3_isDigit_3 : decode cX3_isDigit 3 = .ok (.if_icmp .lt 13, 3) := by decide +kernel
theorem dX3_isDigit_6 : decode cX3_isDigit 6 = .ok (.iload_n 0, 1) := by decide +kernel
theorem dX3_isDigit_7 : decode cX3_isDigit 7 = .ok (.bipush 57, 2) := by decide +kernel
theorem dX3_isDigit_9 : decode cX3_isDigit 9 = .ok (.if_icmp .gt 7, 3) := by decide +kernel
theorem dX3_isDigit_12 : decode cX3_isDigit 12 = .ok (.iconst 1, 1) := by decide +kernel
theorem dX3_isDigit_13 : decode cX3_isDigit 13 = .ok (.goto 4, 3) := by decide +kernel
theorem dX3_isDigit_16 : decode cX3_isDigit 16 = .ok (.iconst 0, 1) := by decide +kernel
theorem dX3_isDigit_17 : decode cX3_isDigit 17 = .ok (.ireturn, 1) := by decide +kernel
theorem dX4_init_0 : decode cX4_init 0 = .ok (.aload_n 0, 1) := by decide +kernel
theorem dX4_init_1 : decode cX4_init 1 = .ok (.invokespecial 3, 3) := by decide +kernel
theorem dX4_init_4 : decode cX4_init 4 = .ok (.aload_n 0, 1) := by decide +kernel
theorem dX4_init_5 : decode cX4_init 5 = .ok (.iconst 5, 1) := by decide +kernel
theorem dX4_init_6 : decode cX4_init 6 = .ok (.newarray .int, 2) := by decide +kernel
theorem dX4_init_8 : decode cX4_init 8 = .ok (.putfield 11, 3) := by decide +kernel
theorem dX4_init_11 : decode cX4_init 11 = .ok (.aload_n 0, 1) := by decide +kernel
theorem dX4_init_12 : decode cX4_init 12 = .ok (.aload_n 1, 1) := by decide +kernel
theorem dX4_init_13 : decode cX4_init 13 = .ok (.putfield 15, 3) := by decide +kernel
theorem dX4_init_16 : decode cX4_init 16 = .ok (.return_, 1) := by decide +kernel
theorem dX4_perform_0 : decode cX4_perform 0 = .ok (.aload_n 0, 1) := by decide +kernel
theorem dX4_perform_1 : decode cX4_perform 1 = .ok (.iconst 0, 1) := by decide +kernel
theorem dX4_perform_2 : decode cX4_perform 2 = .ok (.putfield 19, 3) := by decide +kernel
theorem dX4_perform_5 : decode cX4_perform 5 = .ok (.aload_n 0, 1) := by decide +kernel
theorem dX4_perform_6 : decode cX4_perform 6 = .ok (.getfield 15, 3) := by decide +kernel
theorem dX4_perform_9 : decode cX4_perform 9 = .ok (.invokevirtual 23, 3) := by decide +kernel
theorem dX4_perform_12 : decode cX4_perform 12 = .ok (.iconst 0, 1) := by decide +kernel
theorem dX4_perform_13 : decode cX4_perform 13 = .ok (.istore_n 2, 1) := by decide +kernel
theorem dX4_perform_14 : decode cX4_perform 14 = .ok (.iload_n 2, 1) := by decide +kernel
theorem dX4_perform_15 : decode cX4_perform 15 = .ok (.sipush 400, 3) := by decide +kernel
theorem dX4_perform_18 : decode cX4_perform 18 = .ok (.if_icmp .gt 36, 3) := by decide +kernel
theorem dX4_perform_21 : decode cX4_perform 21 = .ok (.aload_n 0, 1) := by decide +kernel
theorem dX4_perform_22 : decode cX4_perform 22 = .ok (.getfield 15, 3) := by decide +kernel
theorem dX4_perform_25 : decode cX4_perform 25 = .ok (.invokevirtual 28, 3) := by decide +kernel
theorem dX4_perform_28 : decode cX4_perform 28 = .ok (.aload_n 0, 1) := by decide +kernel
theorem dX4_perform_29 : decode cX4_perform 29 = .ok (.getfield 15, 3) := by decide +kernel
theorem dX4_perform_32 : decode cX4_perform 32 = .ok (.getfield 31, 3) := by decide +kernel
theorem dX4_perform_35 : decode cX4_perform 35 = .ok (.ifCond .eq 11, 3) := by decide +kernel
theorem dX4_perform_38 : decode cX4_perform 38 = .ok (.aload_n 0, 1) := by decide +kernel
theorem dX4_perform_39 : decode cX4_perform 39 = .ok (.aload_n 1, 1) := by decide +kernel
theorem dX4_perform_40 : decode cX4_perform 40 = .ok (.invokevirtual 34, 3) := by decide +kernel
theorem dX4_perform_43 : decode cX4_perform 43 = .ok (.ifCond .ne 5, 3) := by decide +kernel
theorem dX4_perform_46 : decode cX4_perform 46 = .ok (.iload_n 2, 1) := by decide +kernel
theorem dX4_perform_47 : decode cX4_perform 47 = .ok (.ireturn, 1) := by decide +kernel
theorem dX4_perform_48 : decode cX4_perform 48 = .ok (.iinc 2 1, 3) := by decide +kernel
theorem dX4_perform_51 : decode cX4_perform 51 = .ok (.goto (-37), 3) := by decide +kernel
theorem dX4_perform_54 : decode cX4_perform 54 = .ok (.iconst (-1), 1) := by decide +kernel
theorem dX4_perform_55 : decode cX4_perform 55 = .ok (.ireturn, 1) := by decide +kernel
theorem dX4_performOne_0 : decode cX4_performOne 0 = .ok (.aload_n 0, 1) := by decide +kernel
theorem dX4_performOne_1 : decode cX4_performOne 1 = .ok (.getfield 15, 3) := by decide +kernel
theorem dX4_performOne_4 : decode cX4_performOne 4 = .ok (.getfield 38, 3) := by decide +kernel
theorem dX4_performOne_7 : decode cX4_performOne 7 = .ok (.istore_n 2, 1) := by decide +kernel
theorem dX4_performOne_8 : decode cX4_performOne 8 = .ok (.aload_n 0, 1) := by decide +kernel
theorem dX4_performOne_9 : decode cX4_performOne 9 = .ok (.invokevirtual 41, 3) := by decide +kernel
theorem dX4_performOne_12 : decode cX4_performOne 12 = .ok (.istore_n 3, 1) := by decide +kernel
theorem dX4_performOne_13 : decode cX4_performOne 13 = .ok (.iload_n 3, 1) := by decide +kernel
theorem dX4_performOne_14 : decode cX4_performOne 14 = .ok (.ifCond .lt 9, 3) := by decide +kernel
theorem dX4_performOne_17 : decode cX4_performOne 17 = .ok (.iload_n 3, 1) := by decide +kernel
theorem dX4_performOne_18 : decode cX4_performOne 18 = .ok (.bipush 6, 2) := by decide +kernel
theorem dX4_performOne_20 : decode cX4_performOne 20 = .ok (.if_icmp .lt 10, 3) := by decide +kernel
theorem dX4_performOne_23 : decode cX4_performOne 23 = .ok (.aload_n 0, 1) := by decide +kernel
theorem dX4_performOne_24 : decode cX4_performOne 24 = .ok (.iconst 1, 1) := by decide +kernel
theorem dX4_performOne_25 : decode cX4_performOne 25 = .ok (.iload_n 2, 1) := by decide +kernel
theorem dX4_performOne_26 : decode cX4_performOne 26 = .ok (.invokevirtual 45, 3) := by decide +kernel
theorem dX4_performOne_29 : decode cX4_performOne 29 = .ok (.ireturn, 1) := by decide +kernel
theorem dX4_performOne_30 : decode cX4_performOne 30 = .ok (.aload_n 0, 1) := by decide +kernel
theorem dX4_performOne_31 : decode cX4_performOne 31 = .ok (.aload_n 1, 1) := by decide +kernel
theorem dX4_performOne_32 : decode cX4_performOne 32 = .ok (.iload_n 3, 1) := by decide +kernel
theorem dX4_performOne_33 : decode cX4_performOne 33 = .ok (.invokevirtual 49, 3) := by decide +kernel
theorem dX4_performOne_36 : decode cX4_performOne 36 = .ok (.ifCond .ne 5, 3) := by decide +kernel
theorem dX4_performOne_39 : decode cX4_performOne 39 = .ok (.iconst 0, 1) := by decide +kernel
theorem dX4_performOne_40 : decode cX4_performOne 40 = .ok (.ireturn, 1) := by decide +kernel
theorem dX4_performOne_41 : decode cX4_performOne 41 = .ok (.iload_n 3, 1) := by decide +kernel
theorem dX4_performOne_42 : decode cX4_performOne 42 = .ok (.iconst 4, 1) := by decide +kernel
theorem dX4_performOne_43 : decode cX4_performOne 43 = .ok (.if_icmp .ne 12, 3) := by decide +kernel
theorem dX4_performOne_46 : decode cX4_performOne 46 = .ok (.aload_n 0, 1) := by decide +kernel
theorem dX4_performOne_47 : decode cX4_performOne 47 = .ok (.invokevirtual 53, 3) := by decide +kernel
theorem dX4_performOne_50 : decode cX4_performOne 50 = .ok (.ifCond .ne 5, 3) := by decide +kernel
theorem dX4_performOne_53 : decode cX4_performOne 53 = .ok (.iconst 0, 1) := by decide +kernel
theorem dX4_performOne_54 : decode cX4_performOne 54 = .ok (.ireturn, 1) := by decide +kernel
theorem dX4_performOne_55 : decode cX4_performOne 55 = .ok (.aload_n 0, 1) := by decide +kernel
theorem dX4_performOne_56 : decode cX4_performOne 56 = .ok (.getfield 15, 3) := by decide +kernel
theorem dX4_performOne_59 : decode cX4_performOne 59 = .ok (.invokevirtual 28, 3) := by decide +kernel
theorem dX4_performOne_62 : decode cX4_performOne 62 = .ok (.aload_n 0, 1) := by decide +kernel
theorem dX4_performOne_63 : decode cX4_performOne 63 = .ok (.getfield 15, 3) := by decide +kernel
theorem dX4_performOne_66 : decode cX4_performOne 66 = .ok (.getfield 31, 3) := by decide +kernel
theorem dX4_performOne_69 : decode cX4_performOne 69 = .ok (.iconst 3, 1) := by decide +kernel
theorem dX4_performOne_70 : decode cX4_performOne 70 = .ok (.if_icmp .eq 16, 3) := by decide +kernel
theorem dX4_performOne_73 : decode cX4_performOne 73 = .ok (.aload_n 0, 1) := by decide +kernel
theorem dX4_performOne_74 : decode cX4_performOne 74 = .ok (.iconst 1, 1) := by decide +kernel
theorem dX4_performOne_75 : decode cX4_performOne 75 = .ok (.aload_n 0, 1) := by decide +kernel
theorem dX4_performOne_76 : decode cX4_performOne 76 = .ok (.getfield 15, 3) := by decide +kernel
theorem dX4_performOne_79 : decode cX4_performOne 79 = .ok (.getfield 38, 3) := by decide +kernel
theorem dX4_performOne_82 : decode cX4_performOne 82 = .ok (.invokevirtual 45, 3) := by decide +kernel
theorem dX4_performOne_85 : decode cX4_performOne 85 = .ok (.ireturn, 1) := by decide +kernel
theorem dX4_performOne_86 : decode cX4_performOne 86 = .ok (.aload_n 0, 1) := by decide +kernel
theorem dX4_performOne_87 : decode cX4_performOne 87 = .ok (.aload_n 1, 1) := by decide +kernel
theorem dX4_performOne_88 : decode cX4_performOne 88 = .ok (.iload_n 3, 1) := by decide +kernel
theorem dX4_performOne_89 : decode cX4_performOne 89 = .ok (.invokevirtual 57, 3) := by decide +kernel
theorem dX4_performOne_92 : decode cX4_performOne 92 = .ok (.ifCond .ne 12, 3) := by decide +kernel
theorem dX4_performOne_95 : decode cX4_performOne 95 = .ok (.aload_n 0, 1) := by decide +kernel
theorem dX4_performOne_96 : decode cX4_performOne 96 = .ok (.iconst 3, 1) := by decide +kernel
theorem dX4_performOne_97 : decode cX4_performOne 97 = .ok (.iload_n 2, 1) := by decide +kernel
theorem dX4_performOne_98 : decode cX4_performOne 98 = .ok (.invokevirtual 45, 3) := by decide +kernel
theorem dX4_performOne_101 : decode cX4_performOne 101 = .ok (.ifCond .eq 7, 3) := by decide +kernel
theorem dX4_performOne_104 : decode cX4_performOne 104 = .ok (.iconst 1, 1) := by decide +kernel
theorem dX4_performOne_105 : decode cX4_performOne 105 = .ok (.goto 4, 3) := by decide +kernel
theorem dX4_performOne_108 : decode cX4_performOne 108 = .ok (.iconst 0, 1) := by decide +kernel
theorem dX4_performOne_109 : decode cX4_performOne 109 = .ok (.ireturn, 1) := by decide +kernel
theorem dX4_refuse_0 : decode cX4_refuse 0 = .ok (.aload_n 0, 1) := by decide +kernel
theorem dX4_refuse_1 : decode cX4_refuse 1 = .ok (.iload_n 1, 1) := by decide +kernel
theorem dX4_refuse_2 : decode cX4_refuse 2 = .ok (.bipush 8, 2) := by decide +kernel
theorem dX4_refuse_4 : decode cX4_refuse 4 = .ok (.iload_n 2, 1) := by decide +kernel
theorem dX4_refuse_5 : decode cX4_refuse 5 = .ok (.imul, 1) := by decide +kernel
theorem dX4_refuse_6 : decode cX4_refuse 6 = .ok (.iadd, 1) := by decide +kernel
theorem dX4_refuse_7 : decode cX4_refuse 7 = .ok (.putfield 19, 3) := by decide +kernel
theorem dX4_refuse_10 : decode cX4_refuse 10 = .ok (.iconst 0, 1) := by decide +kernel
theorem dX4_refuse_11 : decode cX4_refuse 11 = .ok (.ireturn, 1) := by decide +kernel
theorem dX4_formOfWord_0 : decode cX4_formOfWord 0 = .ok (.aload_n 0, 1) := by decide +kernel
theorem dX4_formOfWord_1 : decode cX4_formOfWord 1 = .ok (.getfield 15, 3) := by decide +kernel
theorem dX4_formOfWord_4 : decode cX4_formOfWord 4 = .ok (.ldc 60, 2) := by decide +kernel
theorem dX4_formOfWord_6 : decode cX4_formOfWord 6 = .ok (.invokevirtual 62, 3) := by decide +kernel
theorem dX4_formOfWord_9 : decode cX4_formOfWord 9 = .ok (.ifCond .eq 5, 3) := by decide +kernel
theorem dX4_formOfWord_12 : decode cX4_formOfWord 12 = .ok (.iconst 0, 1) := by decide +kernel
theorem dX4_formOfWord_13 : decode cX4_formOfWord 13 = .ok (.ireturn, 1) := by decide +kernel
theorem dX4_formOfWord_14 : decode cX4_formOfWord 14 = .ok (.aload_n 0, 1) := by decide +kernel
theorem dX4_formOfWord_15 : decode cX4_formOfWord 15 = .ok (.getfield 15, 3) := by decide +kernel
theorem dX4_formOfWord_18 : decode cX4_formOfWord 18 = .ok (.ldc 66, 2) := by decide +kernel
theorem dX4_formOfWord_20 : decode cX4_formOfWord 20 = .ok (.invokevirtual 62, 3) := by decide +kernel
theorem dX4_formOfWord_23 : decode cX4_formOfWord 23 = .ok (.ifCond .eq 5, 3) := by decide +kernel
theorem dX4_formOfWord_26 : decode cX4_formOfWord 26 = .ok (.iconst 1, 1) := by decide +kernel
theorem dX4_formOfWord_27 : decode cX4_formOfWord 27 = .ok (.ireturn, 1) := by decide +kernel
theorem dX4_formOfWord_28 : decode cX4_formOfWord 28 = .ok (.aload_n 0, 1) := by decide +kernel
theorem dX4_formOfWord_29 : decode cX4_formOfWord 29 = .ok (.getfield 15, 3) := by decide +kernel
theorem dX4_formOfWord_32 : decode cX4_formOfWord 32 = .ok (.ldc 68, 2) := by decide +kernel
theorem dX4_formOfWord_34 : decode cX4_formOfWord 34 = .ok (.invokevirtual 62, 3) := by decide +kernel
theorem dX4_formOfWord_37 : decode cX4_formOfWord 37 = .ok (.ifCond .eq 5, 3) := by decide +kernel
theorem dX4_formOfWord_40 : decode cX4_formOfWord 40 = .ok (.iconst 2, 1) := by decide +kernel
theorem dX4_formOfWord_41 : decode cX4_formOfWord 41 = .ok (.ireturn, 1) := by decide +kernel
theorem dX4_formOfWord_42 : decode cX4_formOfWord 42 = .ok (.aload_n 0, 1) := by decide +kernel
theorem dX4_formOfWord_43 : decode cX4_formOfWord 43 = .ok (.getfield 15, 3) := by decide +kernel
theorem dX4_formOfWord_46 : decode cX4_formOfWord 46 = .ok (.ldc 70, 2) := by decide +kernel
theorem dX4_formOfWord_48 : decode cX4_formOfWord 48 = .ok (.invokevirtual 62, 3) := by decide +kernel
theorem dX4_formOfWord_51 : decode cX4_formOfWord 51 = .ok (.ifCond .eq 5, 3) := by decide +kernel
theorem dX4_formOfWord_54 : decode cX4_formOfWord 54 = .ok (.iconst 3, 1) := by decide +kernel
theorem dX4_formOfWord_55 : decode cX4_formOfWord 55 = .ok (.ireturn, 1) := by decide +kernel
theorem dX4_formOfWord_56 : decode cX4_formOfWord 56 = .ok (.aload_n 0, 1) := by decide +kernel
theorem dX4_formOfWord_57 : decode cX4_formOfWord 57 = .ok (.getfield 15, 3) := by decide +kernel
theorem dX4_formOfWord_60 : decode cX4_formOfWord 60 = .ok (.ldc 72, 2) := by decide +kernel
theorem dX4_formOfWord_62 : decode cX4_formOfWord 62 = .ok (.invokevirtual 62, 3) := by decide +kernel
theorem dX4_formOfWord_65 : decode cX4_formOfWord 65 = .ok (.ifCond .eq 5, 3) := by decide +kernel
theorem dX4_formOfWord_68 : decode cX4_formOfWord 68 = .ok (.iconst 4, 1) := by decide +kernel
theorem dX4_formOfWord_69 : decode cX4_formOfWord 69 = .ok (.ireturn, 1) := by decide +kernel
theorem dX4_formOfWord_70 : decode cX4_formOfWord 70 = .ok (.aload_n 0, 1) := by decide +kernel
theorem dX4_formOfWord_71 : decode cX4_formOfWord 71 = .ok (.getfield 15, 3) := by decide +kernel
theorem dX4_formOfWord_74 : decode cX4_formOfWord 74 = .ok (.ldc 74, 2) := by decide +kernel
theorem dX4_formOfWord_76 : decode cX4_formOfWord 76 = .ok (.invokevirtual 62, 3) := by decide +kernel
theorem dX4_formOfWord_79 : decode cX4_formOfWord 79 = .ok (.ifCond .eq 7, 3) := by decide +kernel
theorem dX4_formOfWord_82 : decode cX4_formOfWord 82 = .ok (.iconst 5, 1) := by decide +kernel
theorem dX4_formOfWord_83 : decode cX4_formOfWord 83 = .ok (.goto 4, 3) := by decide +kernel
theorem dX4_formOfWord_86 : decode cX4_formOfWord 86 = .ok (.iconst (-1), 1) := by decide +kernel
theorem dX4_formOfWord_87 : decode cX4_formOfWord 87 = .ok (.ireturn, 1) := by decide +kernel
theorem dX4_readNumbers_0 : decode cX4_readNumbers 0 = .ok (.getstatic 76, 3) := by decide +kernel
theorem dX4_readNumbers_3 : decode cX4_readNumbers 3 = .ok (.iload_n 2, 1) := by decide +kernel
theorem dX4_readNumbers_4 : decode cX4_readNumbers 4 = .ok (.iaload, 1) := by decide +kernel
theorem dX4_readNumbers_5 : decode cX4_readNumbers 5 = .ok (.istore_n 3, 1) := by decide +kernel
theorem dX4_readNumbers_6 : decode cX4_readNumbers 6 = .ok (.iconst 0, 1) := by decide +kernel
theorem dX4_readNumbers_7 : decode cX4_readNumbers 7 = .ok (.istore 4, 2) := by decide +kernel
theorem dX4_readNumbers_9 : decode cX4_readNumbers 9 = .ok (.iload 4, 2) := by decide +kernel
theorem dX4_readNumbers_11 : decode cX4_readNumbers 11 = .ok (.iload_n 3, 1) := by decide +kernel
theorem dX4_readNumbers_12 : decode cX4_readNumbers 12 = .ok (.if_icmp .ge 91, 3) := by decide +kernel
theorem dX4_readNumbers_15 : decode cX4_readNumbers 15 = .ok (.iload 4, 2) := by decide +kernel
theorem dX4_readNumbers_17 : decode cX4_readNumbers 17 = .ok (.iconst 5, 1) := by decide +kernel
theorem dX4_readNumbers_18 : decode cX4_readNumbers 18 = .ok (.if_icmp .ge 85, 3) := by decide +kernel
theorem dX4_readNumbers_21 : decode cX4_readNumbers 21 = .ok (.aload_n 0, 1) := by decide +kernel
theorem dX4_readNumbers_22 : decode cX4_readNumbers 22 = .ok (.getfield 15, 3) := by decide +kernel
theorem dX4_readNumbers_25 : decode cX4_readNumbers 25 = .ok (.invokevirtual 28, 3) := by decide +kernel
theorem dX4_readNumbers_28 : decode cX4_readNumbers 28 = .ok (.aload_n 0, 1) := by decide +kernel
theorem dX4_readNumbers_29 : decode cX4_readNumbers 29 = .ok (.getfield 15, 3) := by decide +kernel
theorem dX4_readNumbers_32 : decode cX4_readNumbers 32 = .ok (.getfield 31, 3) := by decide +kernel
theorem dX4_readNumbers_35 : decode cX4_readNumbers 35 = .ok (.iconst 2, 1) := by decide +kernel
theorem dX4_readNumbers_36 : decode cX4_readNumbers 36 = .ok (.if_icmp .eq 16, 3) := by decide +kernel
theorem dX4_readNumbers_39 : decode cX4_readNumbers 39 = .ok (.aload_n 0, 1) := by decide +kernel
theorem dX4_readNumbers_40 : decode cX4_readNumbers 40 = .ok (.iconst 1, 1) := by decide +kernel
theorem dX4_readNumbers_41 : decode cX4_readNumbers 41 = .ok (.aload_n 0, 1) := by decide +kernel
theorem dX4_readNumbers_42 : decode cX4_readNumbers 42 = .ok (.getfield 15, 3) := by decide +kernel
theorem dX4_readNumbers_45 : decode cX4_readNumbers 45 = .ok (.getfield 38, 3) := by decide +kernel
theorem dX4_readNumbers_48 : decode cX4_readNumbers 48 = .ok (.invokevirtual 45, 3) := by decide +kernel
theorem dX4_readNumbers_51 : decode cX4_readNumbers 51 = .ok (.ireturn, 1) := by decide +kernel
theorem dX4_readNumbers_52 : decode cX4_readNumbers 52 = .ok (.aload_n 0, 1) := by decide +kernel
theorem dX4_readNumbers_53 : decode cX4_readNumbers 53 = .ok (.aload_n 1, 1) := by decide +kernel
theorem dX4_readNumbers_54 : decode cX4_readNumbers 54 = .ok (.iload_n 2, 1) := by decide +kernel
theorem dX4_readNumbers_55 : decode cX4_readNumbers 55 = .ok (.iload 4, 2) := by decide +kernel
theorem dX4_readNumbers_57 : decode cX4_readNumbers 57 = .ok (.aload_n 0, 1) := by decide +kernel
theorem dX4_readNumbers_58 : decode cX4_readNumbers 58 = .ok (.getfield 15, 3) := by decide +kernel
theorem dX4_readNumbers_61 : decode cX4_readNumbers 61 = .ok (.getfield 79, 3) := by decide +kernel
theorem dX4_readNumbers_64 : decode cX4_readNumbers 64 = .ok (.invokevirtual 82, 3) := by decide +kernel
theorem dX4_readNumbers_67 : decode cX4_readNumbers 67 = .ok (.ifCond .ne 16, 3) := by decide +kernel
theorem dX4_readNumbers_70 : decode cX4_readNumbers 70 = .ok (.aload_n 0, 1) := by decide +kernel
theorem dX4_readNumbers_71 : decode cX4_readNumbers 71 = .ok (.iconst 2, 1) := by decide +kernel
theorem dX4_readNumbers_72 : decode cX4_readNumbers 72 = .ok (.aload_n 0, 1) := by decide +kernel
theorem dX4_readNumbers_73 : decode cX4_readNumbers 73 = .ok (.getfield 15, 3) := by decide +kernel
theorem dX4_readNumbers_76 : decode cX4_readNumbers 76 = .ok (.getfield 38, 3) := by decide +kernel
theorem dX4_readNumbers_79 : decode cX4_readNumbers 79 = .ok (.invokevirtual 45, 3) := by decide +kernel
theorem dX4_readNumbers_82 : decode cX4_readNumbers 82 = .ok (.ireturn, 1) := by decide +kernel
theorem dX4_readNumbers_83 : decode cX4_readNumbers 83 = .ok (.aload_n 0, 1) := by decide +kernel
theorem dX4_readNumbers_84 : decode cX4_readNumbers 84 = .ok (.getfield 11, 3) := by decide +kernel
theorem dX4_readNumbers_87 : decode cX4_readNumbers 87 = .ok (.iload 4, 2) := by decide +kernel
theorem dX4_readNumbers_89 : decode cX4_readNumbers 89 = .ok (.aload_n 0, 1) := by decide +kernel
theorem dX4_readNumbers_90 : decode cX4_readNumbers 90 = .ok (.getfield 15, 3) := by decide +kernel
theorem dX4_readNumbers_93 : decode cX4_readNumbers 93 = .ok (.getfield 79, 3) := by decide +kernel
theorem dX4_readNumbers_96 : decode cX4_readNumbers 96 = .ok (.iastore, 1) := by decide +kernel
theorem dX4_readNumbers_97 : decode cX4_readNumbers 97 = .ok (.iinc 4 1, 3) := by decide +kernel
theorem dX4_readNumbers_100 : decode cX4_readNumbers 100 = .ok (.goto (-91), 3) := by decide +kernel
theorem dX4_readNumbers_103 : decode cX4_readNumbers 103 = .ok (.iconst 1, 1) := by decide +kernel
theorem dX4_readNumbers_104 : decode cX4_readNumbers 104 = .ok (.ireturn, 1) := by decide +kernel
theorem dX4_readOutcome_0 : decode cX4_readOutcome 0 = .ok (.aload_n 0, 1) := by decide +kernel
theorem dX4_readOutcome_1 : decode cX4_readOutcome 1 = .ok (.getfield 15, 3) := by decide +kernel
theorem dX4_readOutcome_4 : decode cX4_readOutcome 4 = .ok (.invokevirtual 28, 3) := by decide +kernel
theorem dX4_readOutcome_7 : decode cX4_readOutcome 7 = .ok (.aload_n 0, 1) := by decide +kernel
theorem dX4_readOutcome_8 : decode cX4_readOutcome 8 = .ok (.aload_n 0, 1) := by decide +kernel
theorem dX4_readOutcome_9 : decode cX4_readOutcome 9 = .ok (.getfield 15, 3) := by decide +kernel
theorem dX4_readOutcome_12 : decode cX4_readOutcome 12 = .ok (.ldc 86, 2) := by decide +kernel
theorem dX4_readOutcome_14 : decode cX4_readOutcome 14 = .ok (.invokevirtual 62, 3) := by decide +kernel
theorem dX4_readOutcome_17 : decode cX4_readOutcome 17 = .ok (.putfield 88, 3) := by decide +kernel
theorem dX4_readOutcome_20 : decode cX4_readOutcome 20 = .ok (.aload_n 0, 1) := by decide +kernel
theorem dX4_readOutcome_21 : decode cX4_readOutcome 21 = .ok (.getfield 88, 3) := by decide +kernel
theorem dX4_readOutcome_24 : decode cX4_readOutcome 24 = .ok (.ifCond .ne 30, 3) := by decide +kernel
theorem dX4_readOutcome_27 : decode cX4_readOutcome 27 = .ok (.aload_n 0, 1) := by decide +kernel
theorem dX4_readOutcome_28 : decode cX4_readOutcome 28 = .ok (.getfield 15, 3) := by decide +kernel
theorem dX4_readOutcome_31 : decode cX4_readOutcome 31 = .ok (.ldc 91, 2) := by decide +kernel
theorem dX4_readOutcome_33 : decode cX4_readOutcome 33 = .ok (.invokevirtual 62, 3) := by decide +kernel
theorem dX4_readOutcome_36 : decode cX4_readOutcome 36 = .ok (.ifCond .ne 18, 3) := by decide +kernel
theorem dX4_readOutcome_39 : decode cX4_readOutcome 39 = .ok (.aload_n 0, 1) := by decide +kernel
theorem dX4_readOutcome_40 : decode cX4_readOutcome 40 = .ok (.iconst 1, 1) := by decide +kernel
theorem dX4_readOutcome_41 : decode cX4_readOutcome 41 = .ok (.aload_n 0, 1) := by decide +kernel
theorem dX4_readOutcome_42 : decode cX4_readOutcome 42 = .ok (.getfield 15, 3) := by decide +kernel
theorem dX4_readOutcome_45 : decode cX4_readOutcome 45 = .ok (.getfield 38, 3) := by decide +kernel
theorem dX4_readOutcome_48 : decode cX4_readOutcome 48 = .ok (.invokevirtual 45, 3) := by decide +kernel
theorem dX4_readOutcome_51 : decode cX4_readOutcome 51 = .ok (.ifCond .eq 7, 3) := by decide +kernel
theorem dX4_readOutcome_54 : decode cX4_readOutcome 54 = .ok (.iconst 1, 1) := by decide +kernel
theorem dX4_readOutcome_55 : decode cX4_readOutcome 55 = .ok (.goto 4, 3) := by decide +kernel
theorem dX4_readOutcome_58 : decode cX4_readOutcome 58 = .ok (.iconst 0, 1) := by decide +kernel
theorem dX4_readOutcome_59 : decode cX4_readOutcome 59 = .ok (.ireturn, 1) := by decide +kernel
theorem dX4_canBeNumber_0 : decode cX4_canBeNumber 0 = .ok (.iload_n 2, 1) := by decide +kernel
theorem dX4_canBeNumber_1 : decode cX4_canBeNumber 1 = .ok (.tableswitch 139 0 4 #[35, 41, 65, 83, 112], 35) := by decide +kernel
theorem dX4_canBeNumber_36 : decode cX4_canBeNumber 36 = .ok (.iload 4, 2) := by decide +kernel
theorem dX4_canBeNumber_38 : decode cX4_canBeNumber 38 = .ok (.invokestatic 93, 3) := by decide +kernel
theorem dX4_canBeNumber_41 : decode cX4_canBeNumber 41 = .ok (.ireturn, 1) := by decide +kernel
theorem dX4_canBeNumber_42 : decode cX4_canBeNumber 42 = .ok (.iload_n 3, 1) := by decide +kernel
theorem dX4_canBeNumber_43 : decode cX4_canBeNumber 43 = .ok (.ifCond .ne 11, 3) := by decide +kernel
theorem dX4_canBeNumber_46 : decode cX4_canBeNumber 46 = .ok (.iload 4, 2) := by decide +kernel
theorem dX4_canBeNumber_48 : decode cX4_canBeNumber 48 = .ok (.invokestatic 97, 3) := by decide +kernel
theorem dX4_canBeNumber_51 : decode cX4_canBeNumber 51 = .ok (.goto 14, 3) := by decide +kernel
theorem dX4_canBeNumber_54 : decode cX4_canBeNumber 54 = .ok (.aload_n 0, 1) := by decide +kernel
theorem dX4_canBeNumber_55 : decode cX4_canBeNumber 55 = .ok (.getfield 11, 3) := by decide +kernel
theorem dX4_canBeNumber_58 : decode cX4_canBeNumber 58 = .ok (.iconst 0, 1) := by decide +kernel
theorem dX4_canBeNumber_59 : decode cX4_canBeNumber 59 = .ok (.iaload, 1) := by decide +kernel
theorem dX4_canBeNumber_60 : decode cX4_canBeNumber 60 = .ok (.iload 4, 2) := by decide +kernel
theorem dX4_canBeNumber_62 : decode cX4_canBeNumber 62 = .ok (.invokestatic 100, 3) := by decide +kernel
theorem dX4_canBeNumber_65 : decode cX4_canBeNumber 65 = .ok (.ireturn, 1) := by decide +kernel
theorem dX4_canBeNumber_66 : decode cX4_canBeNumber 66 = .ok (.iload_n 3, 1) := by decide +kernel
theorem dX4_canBeNumber_67 : decode cX4_canBeNumber 67 = .ok (.ifCond .ne 11, 3) := by decide +kernel
theorem dX4_canBeNumber_70 : decode cX4_canBeNumber 70 = .ok (.iload 4, 2) := by decide +kernel
theorem dX4_canBeNumber_72 : decode cX4_canBeNumber 72 = .ok (.invokestatic 103, 3) := by decide +kernel
theorem dX4_canBeNumber_75 : decode cX4_canBeNumber 75 = .ok (.goto 8, 3) := by decide +kernel
theorem dX4_canBeNumber_78 : decode cX4_canBeNumber 78 = .ok (.iload 4, 2) := by decide +kernel
theorem dX4_canBeNumber_80 : decode cX4_canBeNumber 80 = .ok (.invokestatic 106, 3) := by decide +kernel
theorem dX4_canBeNumber_83 : decode cX4_canBeNumber 83 = .ok (.ireturn, 1) := by decide +kernel
theorem dX4_canBeNumber_84 : decode cX4_canBeNumber 84 = .ok (.iload_n 3, 1) := by decide +kernel
theorem dX4_canBeNumber_85 : decode cX4_canBeNumber 85 = .ok (.ifCond .ne 20, 3) := by decide +kernel
theorem dX4_canBeNumber_88 : decode cX4_canBeNumber 88 = .ok (.aload_n 1, 1) := by decide +kernel
theorem dX4_canBeNumber_89 : decode cX4_canBeNumber 89 = .ok (.iload 4, 2) := by decide +kernel
theorem dX4_canBeNumber_91 : decode cX4_canBeNumber 91 = .ok (.invokevirtual 109, 3) := by decide +kernel
theorem dX4_canBeNumber_94 : decode cX4_canBeNumber 94 = .ok (.ifnull 7, 3) := by decide +kernel
theorem dX4_canBeNumber_97 : decode cX4_canBeNumber 97 = .ok (.iconst 1, 1) := by decide +kernel
theorem dX4_canBeNumber_98 : decode cX4_canBeNumber 98 = .ok (.goto 14, 3) := by decide +kernel
theorem dX4_canBeNumber_101 : decode cX4_canBeNumber 101 = .ok (.iconst 0, 1) := by decide +kernel
theorem dX4_canBeNumber_102 : decode cX4_canBeNumber 102 = .ok (.goto 10, 3) := by decide +kernel
theorem dX4_canBeNumber_105 : decode cX4_canBeNumber 105 = .ok (.aload_n 0, 1) := by decide +kernel
theorem dX4_canBeNumber_106 : decode cX4_canBeNumber 106 = .ok (.iload_n 3, 1) := by decide +kernel
theorem dX4_canBeNumber_107 : decode cX4_canBeNumber 107 = .ok (.iload 4, 2) := by decide +kernel
theorem dX4_canBeNumber_109 : decode cX4_canBeNumber 109 = .ok (.invokevirtual 115, 3) := by decide +kernel
theorem dX4_canBeNumber_112 : decode cX4_canBeNumber 112 = .ok (.ireturn, 1) := by decide +kernel
theorem dX4_canBeNumber_113 : decode cX4_canBeNumber 113 = .ok (.iload_n 3, 1) := by decide +kernel
theorem dX4_canBeNumber_114 : decode cX4_canBeNumber 114 = .ok (.ifCond .ne 20, 3) := by decide +kernel
theorem dX4_canBeNumber_117 : decode cX4_canBeNumber 117 = .ok (.aload_n 1, 1) := by decide +kernel
theorem dX4_canBeNumber_118 : decode cX4_canBeNumber 118 = .ok (.iload 4, 2) := by decide +kernel
theorem dX4_canBeNumber_120 : decode cX4_canBeNumber 120 = .ok (.invokevirtual 109, 3) := by decide +kernel
theorem dX4_canBeNumber_123 : decode cX4_canBeNumber 123 = .ok (.ifnull 7, 3) := by decide +kernel
theorem dX4_canBeNumber_126 : decode cX4_canBeNumber 126 = .ok (.iconst 1, 1) := by decide +kernel
theorem dX4_canBeNumber_127 : decode cX4_canBeNumber 127 = .ok (.goto 12, 3) := by decide +kernel
theorem dX4_canBeNumber_130 : decode cX4_canBeNumber 130 = .ok (.iconst 0, 1) := by decide +kernel
theorem dX4_canBeNumber_131 : decode cX4_canBeNumber 131 = .ok (.goto 8, 3) := by decide +kernel
theorem dX4_canBeNumber_134 : decode cX4_canBeNumber 134 = .ok (.iload 4, 2) := by decide +kernel
theorem dX4_canBeNumber_136 : decode cX4_canBeNumber 136 = .ok (.invokestatic 118, 3) := by decide +kernel
theorem dX4_canBeNumber_139 : decode cX4_canBeNumber 139 = .ok (.ireturn, 1) := by decide +kernel
theorem dX4_canBeNumber_140 : decode cX4_canBeNumber 140 = .ok (.iload_n 3, 1) := by decide +kernel
theorem dX4_canBeNumber_141 : decode cX4_canBeNumber 141 = .ok (.ifCond .ne 20, 3) := by decide +kernel
theorem dX4_canBeNumber_144 : decode cX4_canBeNumber 144 = .ok (.aload_n 1, 1) := by decide +kernel
theorem dX4_canBeNumber_145 : decode cX4_canBeNumber 145 = .ok (.iload 4, 2) := by decide +kernel
theorem dX4_canBeNumber_147 : decode cX4_canBeNumber 147 = .ok (.invokevirtual 109, 3) := by decide +kernel
theorem dX4_canBeNumber_150 : decode cX4_canBeNumber 150 = .ok (.ifnull 7, 3) := by decide +kernel
theorem dX4_canBeNumber_153 : decode cX4_canBeNumber 153 = .ok (.iconst 1, 1) := by decide +kernel
theorem dX4_canBeNumber_154 : decode cX4_canBeNumber 154 = .ok (.goto 14, 3) := by decide +kernel
theorem dX4_canBeNumber_157 : decode cX4_canBeNumber 157 = .ok (.iconst 0, 1) := by decide +kernel
theorem dX4_canBeNumber_158 : decode cX4_canBeNumber 158 = .ok (.goto 10, 3) := by decide +kernel
theorem dX4_canBeNumber_161 : decode cX4_canBeNumber 161 = .ok (.aload_n 0, 1) := by decide +kernel
theorem dX4_canBeNumber_162 : decode cX4_canBeNumber 162 = .ok (.aload_n 1, 1) := by decide +kernel
theorem dX4_canBeNumber_163 : decode cX4_canBeNumber 163 = .ok (.iload 4, 2) := by decide +kernel
theorem dX4_canBeNumber_165 : decode cX4_canBeNumber 165 = .ok (.invokevirtual 121, 3) := by decide +kernel
theorem dX4_canBeNumber_168 : decode cX4_canBeNumber 168 = .ok (.ireturn, 1) := by decide +kernel
theorem dX4_canBeOfFiling_0 : decode cX4_canBeOfFiling 0 = .ok (.iload_n 1, 1) := by decide +kernel
theorem dX4_canBeOfFiling_1 : decode cX4_canBeOfFiling 1 = .ok (.tableswitch 48 1 3 #[27, 32, 43], 27) := by decide +kernel
theorem dX4_canBeOfFiling_28 : decode cX4_canBeOfFiling 28 = .ok (.iload_n 2, 1) := by decide +kernel
theorem dX4_canBeOfFiling_29 : decode cX4_canBeOfFiling 29 = .ok (.invokestatic 124, 3) := by decide +kernel
theorem dX4_canBeOfFiling_32 : decode cX4_canBeOfFiling 32 = .ok (.ireturn, 1) := by decide +kernel
theorem dX4_canBeOfFiling_33 : decode cX4_canBeOfFiling 33 = .ok (.aload_n 0, 1) := by decide +kernel
theorem dX4_canBeOfFiling_34 : decode cX4_canBeOfFiling 34 = .ok (.getfield 11, 3) := by decide +kernel
theorem dX4_canBeOfFiling_37 : decode cX4_canBeOfFiling 37 = .ok (.iconst 1, 1) := by decide +kernel
theorem dX4_canBeOfFiling_38 : decode cX4_canBeOfFiling 38 = .ok (.iaload, 1) := by decide +kernel
theorem dX4_canBeOfFiling_39 : decode cX4_canBeOfFiling 39 = .ok (.iload_n 2, 1) := by decide +kernel
theorem dX4_canBeOfFiling_40 : decode cX4_canBeOfFiling 40 = .ok (.invokestatic 127, 3) := by decide +kernel
theorem dX4_canBeOfFiling_43 : decode cX4_canBeOfFiling 43 = .ok (.ireturn, 1) := by decide +kernel
theorem dX4_canBeOfFiling_44 : decode cX4_canBeOfFiling 44 = .ok (.iload_n 2, 1) := by decide +kernel
theorem dX4_canBeOfFiling_45 : decode cX4_canBeOfFiling 45 = .ok (.invokestatic 130, 3) := by decide +kernel
theorem dX4_canBeOfFiling_48 : decode cX4_canBeOfFiling 48 = .ok (.ireturn, 1) := by decide +kernel
theorem dX4_canBeOfFiling_49 : decode cX4_canBeOfFiling 49 = .ok (.iload_n 2, 1) := by decide +kernel
theorem dX4_canBeOfFiling_50 : decode cX4_canBeOfFiling 50 = .ok (.invokestatic 118, 3) := by decide +kernel
theorem dX4_canBeOfFiling_53 : decode cX4_canBeOfFiling 53 = .ok (.ireturn, 1) := by decide +kernel
theorem dX4_isFailure_0 : decode cX4_isFailure 0 = .ok (.aload_n 1, 1) := by decide +kernel
theorem dX4_isFailure_1 : decode cX4_isFailure 1 = .ok (.aload_n 0, 1) := by decide +kernel
theorem dX4_isFailure_2 : decode cX4_isFailure 2 = .ok (.getfield 11, 3) := by decide +kernel
theorem dX4_isFailure_5 : decode cX4_isFailure 5 = .ok (.iconst 0, 1) := by decide +kernel
theorem dX4_isFailure_6 : decode cX4_isFailure 6 = .ok (.iaload, 1) := by decide +kernel
theorem dX4_isFailure_7 : decode cX4_isFailure 7 = .ok (.invokevirtual 109, 3) := by decide +kernel
theorem dX4_isFailure_10 : decode cX4_isFailure 10 = .ok (.astore_n 3, 1) := by decide +kernel
theorem dX4_isFailure_11 : decode cX4_isFailure 11 = .ok (.aload_n 3, 1) := by decide +kernel
theorem dX4_isFailure_12 : decode cX4_isFailure 12 = .ok (.ifnull 15, 3) := by decide +kernel
theorem dX4_isFailure_15 : decode cX4_isFailure 15 = .ok (.aload_n 3, 1) := by decide +kernel
theorem dX4_isFailure_16 : decode cX4_isFailure 16 = .ok (.iload_n 2, 1) := by decide +kernel
theorem dX4_isFailure_17 : decode cX4_isFailure 17 = .ok (.invokevirtual 133, 3) := by decide +kernel
theorem dX4_isFailure_20 : decode cX4_isFailure 20 = .ok (.ifCond .eq 7, 3) := by decide +kernel
theorem dX4_isFailure_23 : decode cX4_isFailure 23 = .ok (.iconst 1, 1) := by decide +kernel
theorem dX4_isFailure_24 : decode cX4_isFailure 24 = .ok (.goto 4, 3) := by decide +kernel
theorem dX4_isFailure_27 : decode cX4_isFailure 27 = .ok (.iconst 0, 1) := by decide +kernel
theorem dX4_isFailure_28 : decode cX4_isFailure 28 = .ok (.ireturn, 1) := by decide +kernel
theorem dX4_doForm_0 : decode cX4_doForm 0 = .ok (.iload_n 2, 1) := by decide +kernel
theorem dX4_doForm_1 : decode cX4_doForm 1 = .ok (.tableswitch 173 0 4 #[35, 54, 73, 99, 143], 35) := by decide +kernel
theorem dX4_doForm_36 : decode cX4_doForm 36 = .ok (.aload_n 1, 1) := by decide +kernel
theorem dX4_doForm_37 : decode cX4_doForm 37 = .ok (.aload_n 0, 1) := by decide +kernel
theorem dX4_doForm_38 : decode cX4_doForm 38 = .ok (.getfield 11, 3) := by decide +kernel
theorem dX4_doForm_41 : decode cX4_doForm 41 = .ok (.iconst 0, 1) := by decide +kernel
theorem dX4_doForm_42 : decode cX4_doForm 42 = .ok (.iaload, 1) := by decide +kernel
theorem dX4_doForm_43 : decode cX4_doForm 43 = .ok (.invokevirtual 138, 3) := by decide +kernel
theorem dX4_doForm_46 : decode cX4_doForm 46 = .ok (.ifCond .lt 7, 3) := by decide +kernel
theorem dX4_doForm_49 : decode cX4_doForm 49 = .ok (.iconst 1, 1) := by decide +kernel
theorem dX4_doForm_50 : decode cX4_doForm 50 = .ok (.goto 4, 3) := by decide +kernel
theorem dX4_doForm_53 : decode cX4_doForm 53 = .ok (.iconst 0, 1) := by decide +kernel
theorem dX4_doForm_54 : decode cX4_doForm 54 = .ok (.ireturn, 1) := by decide +kernel
theorem dX4_doForm_55 : decode cX4_doForm 55 = .ok (.aload_n 1, 1) := by decide +kernel
theorem dX4_doForm_56 : decode cX4_doForm 56 = .ok (.aload_n 0, 1) := by decide +kernel
theorem dX4_doForm_57 : decode cX4_doForm 57 = .ok (.getfield 11, 3) := by decide +kernel
theorem dX4_doForm_60 : decode cX4_doForm 60 = .ok (.iconst 0, 1) := by decide +kernel
theorem dX4_doForm_61 : decode cX4_doForm 61 = .ok (.iaload, 1) := by decide +kernel
theorem dX4_doForm_62 : decode cX4_doForm 62 = .ok (.aload_n 0, 1) := by decide +kernel
theorem dX4_doForm_63 : decode cX4_doForm 63 = .ok (.getfield 11, 3) := by decide +kernel
theorem dX4_doForm_66 : decode cX4_doForm 66 = .ok (.iconst 1, 1) := by decide +kernel
theorem dX4_doForm_67 : decode cX4_doForm 67 = .ok (.iaload, 1) := by decide +kernel
theorem dX4_doForm_68 : decode cX4_doForm 68 = .ok (.invokevirtual 142, 3) := by decide +kernel
theorem dX4_doForm_71 : decode cX4_doForm 71 = .ok (.pop, 1) := by decide +kernel
theorem dX4_doForm_72 : decode cX4_doForm 72 = .ok (.iconst 1, 1) := by decide +kernel
theorem dX4_doForm_73 : decode cX4_doForm 73 = .ok (.ireturn, 1) := by decide +kernel
theorem dX4_doForm_74 : decode cX4_doForm 74 = .ok (.aload_n 1, 1) := by decide +kernel
theorem dX4_doForm_75 : decode cX4_doForm 75 = .ok (.aload_n 0, 1) := by decide +kernel
theorem dX4_doForm_76 : decode cX4_doForm 76 = .ok (.getfield 11, 3) := by decide +kernel
theorem dX4_doForm_79 : decode cX4_doForm 79 = .ok (.iconst 0, 1) := by decide +kernel
theorem dX4_doForm_80 : decode cX4_doForm 80 = .ok (.iaload, 1) := by decide +kernel
theorem dX4_doForm_81 : decode cX4_doForm 81 = .ok (.aload_n 0, 1) := by decide +kernel
theorem dX4_doForm_82 : decode cX4_doForm 82 = .ok (.getfield 11, 3) := by decide +kernel
theorem dX4_doForm_85 : decode cX4_doForm 85 = .ok (.iconst 1, 1) := by decide +kernel
theorem dX4_doForm_86 : decode cX4_doForm 86 = .ok (.iaload, 1) := by decide +kernel
theorem dX4_doForm_87 : decode cX4_doForm 87 = .ok (.invokevirtual 145, 3) := by decide +kernel
theorem dX4_doForm_90 : decode cX4_doForm 90 = .ok (.iconst (-1), 1) := by decide +kernel
theorem dX4_doForm_91 : decode cX4_doForm 91 = .ok (.if_icmp .eq 7, 3) := by decide +kernel
theorem dX4_doForm_94 : decode cX4_doForm 94 = .ok (.iconst 1, 1) := by decide +kernel
theorem dX4_doForm_95 : decode cX4_doForm 95 = .ok (.goto 4, 3) := by decide +kernel
theorem dX4_doForm_98 : decode cX4_doForm 98 = .ok (.iconst 0, 1) := by decide +kernel
theorem dX4_doForm_99 : decode cX4_doForm 99 = .ok (.ireturn, 1) := by decide +kernel
theorem dX4_doForm_100 : decode cX4_doForm 100 = .ok (.aload_n 1, 1) := by decide +kernel
theorem dX4_doForm_101 : decode cX4_doForm 101 = .ok (.aload_n 0, 1) := by decide +kernel
theorem dX4_doForm_102 : decode cX4_doForm 102 = .ok (.getfield 11, 3) := by decide +kernel
theorem dX4_doForm_105 : decode cX4_doForm 105 = .ok (.iconst 0, 1) := by decide +kernel
theorem dX4_doForm_106 : decode cX4_doForm 106 = .ok (.iaload, 1) := by decide +kernel
theorem dX4_doForm_107 : decode cX4_doForm 107 = .ok (.aload_n 0, 1) := by decide +kernel
theorem dX4_doForm_108 : decode cX4_doForm 108 = .ok (.getfield 11, 3) := by decide +kernel
theorem dX4_doForm_111 : decode cX4_doForm 111 = .ok (.iconst 1, 1) := by decide +kernel
theorem dX4_doForm_112 : decode cX4_doForm 112 = .ok (.iaload, 1) := by decide +kernel
theorem dX4_doForm_113 : decode cX4_doForm 113 = .ok (.aload_n 0, 1) := by decide +kernel
theorem dX4_doForm_114 : decode cX4_doForm 114 = .ok (.getfield 11, 3) := by decide +kernel
theorem dX4_doForm_117 : decode cX4_doForm 117 = .ok (.iconst 2, 1) := by decide +kernel
theorem dX4_doForm_118 : decode cX4_doForm 118 = .ok (.iaload, 1) := by decide +kernel
theorem dX4_doForm_119 : decode cX4_doForm 119 = .ok (.aload_n 0, 1) := by decide +kernel
theorem dX4_doForm_120 : decode cX4_doForm 120 = .ok (.getfield 11, 3) := by decide +kernel
theorem dX4_doForm_123 : decode cX4_doForm 123 = .ok (.iconst 3, 1) := by decide +kernel
theorem dX4_doForm_124 : decode cX4_doForm 124 = .ok (.iaload, 1) := by decide +kernel
theorem dX4_doForm_125 : decode cX4_doForm 125 = .ok (.aload_n 0, 1) := by decide +kernel
theorem dX4_doForm_126 : decode cX4_doForm 126 = .ok (.getfield 11, 3) := by decide +kernel
theorem dX4_doForm_129 : decode cX4_doForm 129 = .ok (.iconst 4, 1) := by decide +kernel
theorem dX4_doForm_130 : decode cX4_doForm 130 = .ok (.iaload, 1) := by decide +kernel
theorem dX4_doForm_131 : decode cX4_doForm 131 = .ok (.invokevirtual 149, 3) := by decide +kernel
theorem dX4_doForm_134 : decode cX4_doForm 134 = .ok (.iconst (-1), 1) := by decide +kernel
theorem dX4_doForm_135 : decode cX4_doForm 135 = .ok (.if_icmp .eq 7, 3) := by decide +kernel
theorem dX4_doForm_138 : decode cX4_doForm 138 = .ok (.iconst 1, 1) := by decide +kernel
theorem dX4_doForm_139 : decode cX4_doForm 139 = .ok (.goto 4, 3) := by decide +kernel
theorem dX4_doForm_142 : decode cX4_doForm 142 = .ok (.iconst 0, 1) := by decide +kernel
theorem dX4_doForm_143 : decode cX4_doForm 143 = .ok (.ireturn, 1) := by decide +kernel
theorem dX4_doForm_144 : decode cX4_doForm 144 = .ok (.aload_n 1, 1) := by decide +kernel
theorem dX4_doForm_145 : decode cX4_doForm 145 = .ok (.aload_n 0, 1) := by decide +kernel
theorem dX4_doForm_146 : decode cX4_doForm 146 = .ok (.getfield 11, 3) := by decide +kernel
theorem dX4_doForm_149 : decode cX4_doForm 149 = .ok (.iconst 0, 1) := by decide +kernel
theorem dX4_doForm_150 : decode cX4_doForm 150 = .ok (.iaload, 1) := by decide +kernel
theorem dX4_doForm_151 : decode cX4_doForm 151 = .ok (.aload_n 0, 1) := by decide +kernel
theorem dX4_doForm_152 : decode cX4_doForm 152 = .ok (.getfield 11, 3) := by decide +kernel
theorem dX4_doForm_155 : decode cX4_doForm 155 = .ok (.iconst 1, 1) := by decide +kernel
theorem dX4_doForm_156 : decode cX4_doForm 156 = .ok (.iaload, 1) := by decide +kernel
theorem dX4_doForm_157 : decode cX4_doForm 157 = .ok (.aload_n 0, 1) := by decide +kernel
theorem dX4_doForm_158 : decode cX4_doForm 158 = .ok (.getfield 88, 3) := by decide +kernel
theorem dX4_doForm_161 : decode cX4_doForm 161 = .ok (.invokevirtual 153, 3) := by decide +kernel
theorem dX4_doForm_164 : decode cX4_doForm 164 = .ok (.iconst (-1), 1) := by decide +kernel
theorem dX4_doForm_165 : decode cX4_doForm 165 = .ok (.if_icmp .eq 7, 3) := by decide +kernel
theorem dX4_doForm_168 : decode cX4_doForm 168 = .ok (.iconst 1, 1) := by decide +kernel
theorem dX4_doForm_169 : decode cX4_doForm 169 = .ok (.goto 4, 3) := by decide +kernel
theorem dX4_doForm_172 : decode cX4_doForm 172 = .ok (.iconst 0, 1) := by decide +kernel
theorem dX4_doForm_173 : decode cX4_doForm 173 = .ok (.ireturn, 1) := by decide +kernel
theorem dX4_doForm_174 : decode cX4_doForm 174 = .ok (.aload_n 1, 1) := by decide +kernel
theorem dX4_doForm_175 : decode cX4_doForm 175 = .ok (.aload_n 0, 1) := by decide +kernel
theorem dX4_doForm_176 : decode cX4_doForm 176 = .ok (.getfield 11, 3) := by decide +kernel
theorem dX4_doForm_179 : decode cX4_doForm 179 = .ok (.iconst 0, 1) := by decide +kernel
theorem dX4_doForm_180 : decode cX4_doForm 180 = .ok (.iaload, 1) := by decide +kernel
theorem dX4_doForm_181 : decode cX4_doForm 181 = .ok (.aload_n 0, 1) := by decide +kernel
theorem dX4_doForm_182 : decode cX4_doForm 182 = .ok (.getfield 11, 3) := by decide +kernel
theorem dX4_doForm_185 : decode cX4_doForm 185 = .ok (.iconst 1, 1) := by decide +kernel
theorem dX4_doForm_186 : decode cX4_doForm 186 = .ok (.iaload, 1) := by decide +kernel
theorem dX4_doForm_187 : decode cX4_doForm 187 = .ok (.invokevirtual 157, 3) := by decide +kernel
theorem dX4_doForm_190 : decode cX4_doForm 190 = .ok (.ireturn, 1) := by decide +kernel
theorem dX5_init_0 : decode cX5_init 0 = .ok (.aload_n 0, 1) := by decide +kernel
theorem dX5_init_1 : decode cX5_init 1 = .ok (.invokespecial 1, 3) := by decide +kernel
theorem dX5_init_4 : decode cX5_init 4 = .ok (.aload_n 0, 1) := by decide +kernel
end
section
theorem dX5_init_5 : decode cX5_init 5 = .ok (.new 7, 3) := by decide +kernel
theorem dX5_init_8 : decode cX5_init 8 = .ok (.dup, 1) := by decide +kernel
theorem dX5_init_9 : decode cX5_init 9 = .ok (.invokespecial 9, 3) := by decide +kernel
theorem dX5_init_12 : decode cX5_init 12 = .ok (.putfield 10, 3) := by decide +kernel
theorem dX5_init_15 : decode cX5_init 15 = .ok (.aload_n 0, 1) := by decide +kernel
theorem dX5_init_16 : decode cX5_init 16 = .ok (.new 7, 3) := by decide +kernel
theorem dX5_init_19 : decode cX5_init 19 = .ok (.dup, 1) := by decide +kernel
theorem dX5_init_20 : decode cX5_init 20 = .ok (.invokespecial 9, 3) := by decide +kernel
theorem dX5_init_23 : decode cX5_init 23 = .ok (.putfield 16, 3) := by decide +kernel
theorem dX5_init_26 : decode cX5_init 26 = .ok (.aload_n 0, 1) := by decide +kernel
theorem dX5_init_27 : decode cX5_init 27 = .ok (.new 19, 3) := by decide +kernel
theorem dX5_init_30 : decode cX5_init 30 = .ok (.dup, 1) := by decide +kernel
theorem dX5_init_31 : decode cX5_init 31 = .ok (.invokespecial 21, 3) := by decide +kernel
theorem dX5_init_34 : decode cX5_init 34 = .ok (.putfield 22, 3) := by decide +kernel
theorem dX5_init_37 : decode cX5_init 37 = .ok (.aload_n 0, 1) := by decide +kernel
theorem dX5_init_38 : decode cX5_init 38 = .ok (.new 26, 3) := by decide +kernel
theorem dX5_init_41 : decode cX5_init 41 = .ok (.dup, 1) := by decide +kernel
theorem dX5_init_42 : decode cX5_init 42 = .ok (.invokespecial 28, 3) := by decide +kernel
theorem dX5_init_45 : decode cX5_init 45 = .ok (.putfield 29, 3) := by decide +kernel
theorem dX5_init_48 : decode cX5_init 48 = .ok (.aload_n 0, 1) := by decide +kernel
theorem dX5_init_49 : decode cX5_init 49 = .ok (.new 33, 3) := by decide +kernel
theorem dX5_init_52 : decode cX5_init 52 = .ok (.dup, 1) := by decide +kernel
theorem dX5_init_53 : decode cX5_init 53 = .ok (.aload_n 0, 1) := by decide +kernel
theorem dX5_init_54 : decode cX5_init 54 = .ok (.getfield 29, 3) := by decide +kernel
theorem dX5_init_57 : decode cX5_init 57 = .ok (.invokespecial 35, 3) := by decide +kernel
theorem dX5_init_60 : decode cX5_init 60 = .ok (.putfield 38, 3) := by decide +kernel
theorem dX5_init_63 : decode cX5_init 63 = .ok (.aload_n 0, 1) := by decide +kernel
theorem dX5_init_64 : decode cX5_init 64 = .ok (.bipush 6, 2) := by decide +kernel
theorem dX5_init_66 : decode cX5_init 66 = .ok (.newarray .int, 2) := by decide +kernel
theorem dX5_init_68 : decode cX5_init 68 = .ok (.putfield 42, 3) := by decide +kernel
theorem dX5_init_71 : decode cX5_init 71 = .ok (.aload_n 0, 1) := by decide +kernel
theorem dX5_init_72 : decode cX5_init 72 = .ok (.iconst 0, 1) := by decide +kernel
theorem dX5_init_73 : decode cX5_init 73 = .ok (.putfield 46, 3) := by decide +kernel
theorem dX5_init_76 : decode cX5_init 76 = .ok (.return_, 1) := by decide +kernel
theorem dX5_feed_0 : decode cX5_feed 0 = .ok (.aload_n 0, 1) := by decide +kernel
theorem dX5_feed_1 : decode cX5_feed 1 = .ok (.getfield 29, 3) := by decide +kernel
theorem dX5_feed_4 : decode cX5_feed 4 = .ok (.invokevirtual 50, 3) := by decide +kernel
theorem dX5_feed_7 : decode cX5_feed 7 = .ok (.ifCond .ne 5, 3) := by decide +kernel
theorem dX5_feed_10 : decode cX5_feed 10 = .ok (.iconst (-1), 1) := by decide +kernel
theorem dX5_feed_11 : decode cX5_feed 11 = .ok (.ireturn, 1) := by decide +kernel
theorem dX5_feed_12 : decode cX5_feed 12 = .ok (.aload_n 0, 1) := by decide +kernel
theorem dX5_feed_13 : decode cX5_feed 13 = .ok (.getfield 29, 3) := by decide +kernel
theorem dX5_feed_16 : decode cX5_feed 16 = .ok (.iload_n 1, 1) := by decide +kernel
theorem dX5_feed_17 : decode cX5_feed 17 = .ok (.invokevirtual 54, 3) := by decide +kernel
theorem dX5_feed_20 : decode cX5_feed 20 = .ok (.aload_n 0, 1) := by decide +kernel
theorem dX5_feed_21 : decode cX5_feed 21 = .ok (.getfield 29, 3) := by decide +kernel
theorem dX5_feed_24 : decode cX5_feed 24 = .ok (.iload_n 2, 1) := by decide +kernel
theorem dX5_feed_25 : decode cX5_feed 25 = .ok (.invokevirtual 54, 3) := by decide +kernel
theorem dX5_feed_28 : decode cX5_feed 28 = .ok (.aload_n 0, 1) := by decide +kernel
theorem dX5_feed_29 : decode cX5_feed 29 = .ok (.getfield 29, 3) := by decide +kernel
theorem dX5_feed_32 : decode cX5_feed 32 = .ok (.iload_n 3, 1) := by decide +kernel
theorem dX5_feed_33 : decode cX5_feed 33 = .ok (.invokevirtual 54, 3) := by decide +kernel
theorem dX5_feed_36 : decode cX5_feed 36 = .ok (.aload_n 0, 1) := by decide +kernel
theorem dX5_feed_37 : decode cX5_feed 37 = .ok (.getfield 29, 3) := by decide +kernel
theorem dX5_feed_40 : decode cX5_feed 40 = .ok (.iload 4, 2) := by decide +kernel
theorem dX5_feed_42 : decode cX5_feed 42 = .ok (.invokevirtual 54, 3) := by decide +kernel
theorem dX5_feed_45 : decode cX5_feed 45 = .ok (.aload_n 0, 1) := by decide +kernel
theorem dX5_feed_46 : decode cX5_feed 46 = .ok (.getfield 29, 3) := by decide +kernel
theorem dX5_feed_49 : decode cX5_feed 49 = .ok (.iload 5, 2) := by decide +kernel
theorem dX5_feed_51 : decode cX5_feed 51 = .ok (.invokevirtual 54, 3) := by decide +kernel
theorem dX5_feed_54 : decode cX5_feed 54 = .ok (.aload_n 0, 1) := by decide +kernel
theorem dX5_feed_55 : decode cX5_feed 55 = .ok (.getfield 29, 3) := by decide +kernel
theorem dX5_feed_58 : decode cX5_feed 58 = .ok (.getfield 58, 3) := by decide +kernel
theorem dX5_feed_61 : decode cX5_feed 61 = .ok (.ireturn, 1) := by decide +kernel
theorem dX5_end_0 : decode cX5_end 0 = .ok (.iload_n 1, 1) := by decide +kernel
theorem dX5_end_1 : decode cX5_end 1 = .ok (.ifCond .lt 14, 3) := by decide +kernel
theorem dX5_end_4 : decode cX5_end 4 = .ok (.iload_n 1, 1) := by decide +kernel
theorem dX5_end_5 : decode cX5_end 5 = .ok (.aload_n 0, 1) := by decide +kernel
theorem dX5_end_6 : decode cX5_end 6 = .ok (.getfield 29, 3) := by decide +kernel
theorem dX5_end_9 : decode cX5_end 9 = .ok (.getfield 58, 3) := by decide +kernel
theorem dX5_end_12 : decode cX5_end 12 = .ok (.if_icmp .le 5, 3) := by decide +kernel
theorem dX5_end_15 : decode cX5_end 15 = .ok (.iconst 0, 1) := by decide +kernel
theorem dX5_end_16 : decode cX5_end 16 = .ok (.ireturn, 1) := by decide +kernel
theorem dX5_end_17 : decode cX5_end 17 = .ok (.aload_n 0, 1) := by decide +kernel
theorem dX5_end_18 : decode cX5_end 18 = .ok (.getfield 29, 3) := by decide +kernel
theorem dX5_end_21 : decode cX5_end 21 = .ok (.iload_n 1, 1) := by decide +kernel
theorem dX5_end_22 : decode cX5_end 22 = .ok (.putfield 58, 3) := by decide +kernel
theorem dX5_end_25 : decode cX5_end 25 = .ok (.iconst 1, 1) := by decide +kernel
theorem dX5_end_26 : decode cX5_end 26 = .ok (.ireturn, 1) := by decide +kernel
theorem dX5_tell_0 : decode cX5_tell 0 = .ok (.aload_n 0, 1) := by decide +kernel
theorem dX5_tell_1 : decode cX5_tell 1 = .ok (.getfield 16, 3) := by decide +kernel
theorem dX5_tell_4 : decode cX5_tell 4 = .ok (.aload_n 0, 1) := by decide +kernel
theorem dX5_tell_5 : decode cX5_tell 5 = .ok (.getfield 10, 3) := by decide +kernel
theorem dX5_tell_8 : decode cX5_tell 8 = .ok (.invokevirtual 61, 3) := by decide +kernel
theorem dX5_tell_11 : decode cX5_tell 11 = .ok (.aload_n 0, 1) := by decide +kernel
theorem dX5_tell_12 : decode cX5_tell 12 = .ok (.getfield 38, 3) := by decide +kernel
theorem dX5_tell_15 : decode cX5_tell 15 = .ok (.aload_n 0, 1) := by decide +kernel
theorem dX5_tell_16 : decode cX5_tell 16 = .ok (.getfield 10, 3) := by decide +kernel
theorem dX5_tell_19 : decode cX5_tell 19 = .ok (.invokevirtual 65, 3) := by decide +kernel
theorem dX5_tell_22 : decode cX5_tell 22 = .ok (.istore_n 1, 1) := by decide +kernel
theorem dX5_tell_23 : decode cX5_tell 23 = .ok (.aload_n 0, 1) := by decide +kernel
theorem dX5_tell_24 : decode cX5_tell 24 = .ok (.getfield 29, 3) := by decide +kernel
theorem dX5_tell_27 : decode cX5_tell 27 = .ok (.iconst 0, 1) := by decide +kernel
theorem dX5_tell_28 : decode cX5_tell 28 = .ok (.putfield 58, 3) := by decide +kernel
theorem dX5_tell_31 : decode cX5_tell 31 = .ok (.aload_n 0, 1) := by decide +kernel
theorem dX5_tell_32 : decode cX5_tell 32 = .ok (.aload_n 0, 1) := by decide +kernel
theorem dX5_tell_33 : decode cX5_tell 33 = .ok (.getfield 38, 3) := by decide +kernel
theorem dX5_tell_36 : decode cX5_tell 36 = .ok (.getfield 69, 3) := by decide +kernel
theorem dX5_tell_39 : decode cX5_tell 39 = .ok (.putfield 46, 3) := by decide +kernel
theorem dX5_tell_42 : decode cX5_tell 42 = .ok (.aload_n 0, 1) := by decide +kernel
theorem dX5_tell_43 : decode cX5_tell 43 = .ok (.getfield 46, 3) := by decide +kernel
theorem dX5_tell_46 : decode cX5_tell 46 = .ok (.ifCond .ne 5, 3) := by decide +kernel
theorem dX5_tell_49 : decode cX5_tell 49 = .ok (.iload_n 1, 1) := by decide +kernel
theorem dX5_tell_50 : decode cX5_tell 50 = .ok (.ireturn, 1) := by decide +kernel
theorem dX5_tell_51 : decode cX5_tell 51 = .ok (.aload_n 0, 1) := by decide +kernel
theorem dX5_tell_52 : decode cX5_tell 52 = .ok (.getfield 10, 3) := by decide +kernel
theorem dX5_tell_55 : decode cX5_tell 55 = .ok (.astore_n 2, 1) := by decide +kernel
theorem dX5_tell_56 : decode cX5_tell 56 = .ok (.aload_n 0, 1) := by decide +kernel
theorem dX5_tell_57 : decode cX5_tell 57 = .ok (.aload_n 0, 1) := by decide +kernel
theorem dX5_tell_58 : decode cX5_tell 58 = .ok (.getfield 16, 3) := by decide +kernel
theorem dX5_tell_61 : decode cX5_tell 61 = .ok (.putfield 10, 3) := by decide +kernel
theorem dX5_tell_64 : decode cX5_tell 64 = .ok (.aload_n 0, 1) := by decide +kernel
theorem dX5_tell_65 : decode cX5_tell 65 = .ok (.aload_n 2, 1) := by decide +kernel
theorem dX5_tell_66 : decode cX5_tell 66 = .ok (.putfield 16, 3) := by decide +kernel
theorem dX5_tell_69 : decode cX5_tell 69 = .ok (.iconst (-1), 1) := by decide +kernel
theorem dX5_tell_70 : decode cX5_tell 70 = .ok (.ireturn, 1) := by decide +kernel
theorem dX5_fault_0 : decode cX5_fault 0 = .ok (.aload_n 0, 1) := by decide +kernel
theorem dX5_fault_1 : decode cX5_fault 1 = .ok (.getfield 46, 3) := by decide +kernel
theorem dX5_fault_4 : decode cX5_fault 4 = .ok (.ireturn, 1) := by decide +kernel
theorem dX5_athlete_0 : decode cX5_athlete 0 = .ok (.aload_n 0, 1) := by decide +kernel
theorem dX5_athlete_1 : decode cX5_athlete 1 = .ok (.getfield 10, 3) := by decide +kernel
theorem dX5_athlete_4 : decode cX5_athlete 4 = .ok (.iload_n 1, 1) := by decide +kernel
theorem dX5_athlete_5 : decode cX5_athlete 5 = .ok (.invokevirtual 72, 3) := by decide +kernel
theorem dX5_athlete_8 : decode cX5_athlete 8 = .ok (.ireturn, 1) := by decide +kernel
theorem dX5_set_0 : decode cX5_set 0 = .ok (.aload_n 0, 1) := by decide +kernel
theorem dX5_set_1 : decode cX5_set 1 = .ok (.getfield 10, 3) := by decide +kernel
theorem dX5_set_4 : decode cX5_set 4 = .ok (.iload_n 1, 1) := by decide +kernel
theorem dX5_set_5 : decode cX5_set 5 = .ok (.iload_n 2, 1) := by decide +kernel
theorem dX5_set_6 : decode cX5_set 6 = .ok (.invokevirtual 76, 3) := by decide +kernel
theorem dX5_set_9 : decode cX5_set 9 = .ok (.ireturn, 1) := by decide +kernel
theorem dX5_at_0 : decode cX5_at 0 = .ok (.aload_n 0, 1) := by decide +kernel
theorem dX5_at_1 : decode cX5_at 1 = .ok (.getfield 10, 3) := by decide +kernel
theorem dX5_at_4 : decode cX5_at 4 = .ok (.iload_n 1, 1) := by decide +kernel
theorem dX5_at_5 : decode cX5_at 5 = .ok (.iload_n 2, 1) := by decide +kernel
theorem dX5_at_6 : decode cX5_at 6 = .ok (.invokevirtual 80, 3) := by decide +kernel
theorem dX5_at_9 : decode cX5_at 9 = .ok (.ireturn, 1) := by decide +kernel
theorem dX5_file_0 : decode cX5_file 0 = .ok (.aload_n 0, 1) := by decide +kernel
theorem dX5_file_1 : decode cX5_file 1 = .ok (.getfield 10, 3) := by decide +kernel
theorem dX5_file_4 : decode cX5_file 4 = .ok (.iload_n 1, 1) := by decide +kernel
theorem dX5_file_5 : decode cX5_file 5 = .ok (.iload_n 2, 1) := by decide +kernel
theorem dX5_file_6 : decode cX5_file 6 = .ok (.iload_n 3, 1) := by decide +kernel
theorem dX5_file_7 : decode cX5_file 7 = .ok (.iload 4, 2) := by decide +kernel
theorem dX5_file_9 : decode cX5_file 9 = .ok (.iload 5, 2) := by decide +kernel
theorem dX5_file_11 : decode cX5_file 11 = .ok (.invokevirtual 84, 3) := by decide +kernel
theorem dX5_file_14 : decode cX5_file 14 = .ok (.ireturn, 1) := by decide +kernel
theorem dX5_test_0 : decode cX5_test 0 = .ok (.aload_n 0, 1) := by decide +kernel
theorem dX5_test_1 : decode cX5_test 1 = .ok (.getfield 10, 3) := by decide +kernel
theorem dX5_test_4 : decode cX5_test 4 = .ok (.iload_n 1, 1) := by decide +kernel
theorem dX5_test_5 : decode cX5_test 5 = .ok (.iload_n 2, 1) := by decide +kernel
theorem dX5_test_6 : decode cX5_test 6 = .ok (.iload_n 3, 1) := by decide +kernel
theorem dX5_test_7 : decode cX5_test 7 = .ok (.invokevirtual 88, 3) := by decide +kernel
theorem dX5_test_10 : decode cX5_test 10 = .ok (.ireturn, 1) := by decide +kernel
theorem dX5_appeal_0 : decode cX5_appeal 0 = .ok (.aload_n 0, 1) := by decide +kernel
theorem dX5_appeal_1 : decode cX5_appeal 1 = .ok (.getfield 10, 3) := by decide +kernel
theorem dX5_appeal_4 : decode cX5_appeal 4 = .ok (.iload_n 1, 1) := by decide +kernel
theorem dX5_appeal_5 : decode cX5_appeal 5 = .ok (.iload_n 2, 1) := by decide +kernel
theorem dX5_appeal_6 : decode cX5_appeal 6 = .ok (.invokevirtual 92, 3) := by decide +kernel
theorem dX5_appeal_9 : decode cX5_appeal 9 = .ok (.ireturn, 1) := by decide +kernel
theorem dX5_count_0 : decode cX5_count 0 = .ok (.iload_n 1, 1) := by decide +kernel
theorem dX5_count_1 : decode cX5_count 1 = .ok (.tableswitch 63 0 3 #[31, 39, 47, 55], 31) := by decide +kernel
theorem dX5_count_32 : decode cX5_count 32 = .ok (.aload_n 0, 1) := by decide +kernel
theorem dX5_count_33 : decode cX5_count 33 = .ok (.getfield 10, 3) := by decide +kernel
theorem dX5_count_36 : decode cX5_count 36 = .ok (.getfield 95, 3) := by decide +kernel
theorem dX5_count_39 : decode cX5_count 39 = .ok (.ireturn, 1) := by decide +kernel
theorem dX5_count_40 : decode cX5_count 40 = .ok (.aload_n 0, 1) := by decide +kernel
theorem dX5_count_41 : decode cX5_count 41 = .ok (.getfield 10, 3) := by decide +kernel
theorem dX5_count_44 : decode cX5_count 44 = .ok (.getfield 98, 3) := by decide +kernel
theorem dX5_count_47 : decode cX5_count 47 = .ok (.ireturn, 1) := by decide +kernel
theorem dX5_count_48 : decode cX5_count 48 = .ok (.aload_n 0, 1) := by decide +kernel
theorem dX5_count_49 : decode cX5_count 49 = .ok (.getfield 10, 3) := by decide +kernel
theorem dX5_count_52 : decode cX5_count 52 = .ok (.getfield 101, 3) := by decide +kernel
theorem dX5_count_55 : decode cX5_count 55 = .ok (.ireturn, 1) := by decide +kernel
theorem dX5_count_56 : decode cX5_count 56 = .ok (.aload_n 0, 1) := by decide +kernel
theorem dX5_count_57 : decode cX5_count 57 = .ok (.getfield 29, 3) := by decide +kernel
theorem dX5_count_60 : decode cX5_count 60 = .ok (.getfield 58, 3) := by decide +kernel
theorem dX5_count_63 : decode cX5_count 63 = .ok (.ireturn, 1) := by decide +kernel
theorem dX5_count_64 : decode cX5_count 64 = .ok (.aload_n 0, 1) := by decide +kernel
theorem dX5_count_65 : decode cX5_count 65 = .ok (.getfield 10, 3) := by decide +kernel
theorem dX5_count_68 : decode cX5_count 68 = .ok (.iload_n 1, 1) := by decide +kernel
theorem dX5_count_69 : decode cX5_count 69 = .ok (.bipush 10, 2) := by decide +kernel
theorem dX5_count_71 : decode cX5_count 71 = .ok (.if_icmp .ge 7, 3) := by decide +kernel
theorem dX5_count_74 : decode cX5_count 74 = .ok (.iconst (-1), 1) := by decide +kernel
theorem dX5_count_75 : decode cX5_count 75 = .ok (.goto 7, 3) := by decide +kernel
theorem dX5_count_78 : decode cX5_count 78 = .ok (.iload_n 1, 1) := by decide +kernel
theorem dX5_count_79 : decode cX5_count 79 = .ok (.bipush 10, 2) := by decide +kernel
theorem dX5_count_81 : decode cX5_count 81 = .ok (.isub, 1) := by decide +kernel
theorem dX5_count_82 : decode cX5_count 82 = .ok (.invokevirtual 104, 3) := by decide +kernel
theorem dX5_count_85 : decode cX5_count 85 = .ok (.ireturn, 1) := by decide +kernel
theorem dX5_of_0 : decode cX5_of 0 = .ok (.aload_n 0, 1) := by decide +kernel
theorem dX5_of_1 : decode cX5_of 1 = .ok (.getfield 10, 3) := by decide +kernel
theorem dX5_of_4 : decode cX5_of 4 = .ok (.iload_n 1, 1) := by decide +kernel
theorem dX5_of_5 : decode cX5_of 5 = .ok (.invokevirtual 107, 3) := by decide +kernel
theorem dX5_of_8 : decode cX5_of 8 = .ok (.astore_n 3, 1) := by decide +kernel
theorem dX5_of_9 : decode cX5_of 9 = .ok (.aload_n 3, 1) := by decide +kernel
theorem dX5_of_10 : decode cX5_of 10 = .ok (.ifnonnull 13, 3) := by decide +kernel
theorem dX5_of_13 : decode cX5_of 13 = .ok (.new 111, 3) := by decide +kernel
theorem dX5_of_16 : decode cX5_of 16 = .ok (.dup, 1) := by decide +kernel
theorem dX5_of_17 : decode cX5_of 17 = .ok (.ldc 113, 2) := by decide +kernel
theorem dX5_of_19 : decode cX5_of 19 = .ok (.invokespecial 115, 3) := by decide +kernel
theorem dX5_of_22 : decode cX5_of 22 = .ok (.athrow, 1) := by decide +kernel
theorem dX5_of_23 : decode cX5_of 23 = .ok (.iload_n 2, 1) := by decide +kernel
theorem dX5_of_24 : decode cX5_of 24 = .ok (.tableswitch 109 0 9 #[56, 61, 67, 72, 78, 83, 88, 93, 98, 104], 56) := by decide +kernel
theorem dX5_of_80 : decode cX5_of 80 = .ok (.aload_n 3, 1) := by decide +kernel
theorem dX5_of_81 : decode cX5_of 81 = .ok (.getfield 118, 3) := by decide +kernel
theorem dX5_of_84 : decode cX5_of 84 = .ok (.ireturn, 1) := by decide +kernel
theorem dX5_of_85 : decode cX5_of 85 = .ok (.aload_n 0, 1) := by decide +kernel
theorem dX5_of_86 : decode cX5_of 86 = .ok (.aload_n 3, 1) := by decide +kernel
theorem dX5_of_87 : decode cX5_of 87 = .ok (.invokevirtual 123, 3) := by decide +kernel
theorem dX5_of_90 : decode cX5_of 90 = .ok (.ireturn, 1) := by decide +kernel
theorem dX5_of_91 : decode cX5_of 91 = .ok (.aload_n 3, 1) := by decide +kernel
theorem dX5_of_92 : decode cX5_of 92 = .ok (.getfield 127, 3) := by decide +kernel
theorem dX5_of_95 : decode cX5_of 95 = .ok (.ireturn, 1) := by decide +kernel
theorem dX5_of_96 : decode cX5_of 96 = .ok (.aload_n 0, 1) := by decide +kernel
theorem dX5_of_97 : decode cX5_of 97 = .ok (.aload_n 3, 1) := by decide +kernel
theorem dX5_of_98 : decode cX5_of 98 = .ok (.invokevirtual 130, 3) := by decide +kernel
theorem dX5_of_101 : decode cX5_of 101 = .ok (.ireturn, 1) := by decide +kernel
theorem dX5_of_102 : decode cX5_of 102 = .ok (.aload_n 3, 1) := by decide +kernel
theorem dX5_of_103 : decode cX5_of 103 = .ok (.getfield 133, 3) := by decide +kernel
theorem dX5_of_106 : decode cX5_of 106 = .ok (.ireturn, 1) := by decide +kernel
theorem dX5_of_107 : decode cX5_of 107 = .ok (.aload_n 3, 1) := by decide +kernel
theorem dX5_of_108 : decode cX5_of 108 = .ok (.getfield 136, 3) := by decide +kernel
theorem dX5_of_111 : decode cX5_of 111 = .ok (.ireturn, 1) := by decide +kernel
theorem dX5_of_112 : decode cX5_of 112 = .ok (.aload_n 3, 1) := by decide +kernel
theorem dX5_of_113 : decode cX5_of 113 = .ok (.getfield 139, 3) := by decide +kernel
theorem dX5_of_116 : decode cX5_of 116 = .ok (.ireturn, 1) := by decide +kernel
theorem dX5_of_117 : decode cX5_of 117 = .ok (.aload_n 3, 1) := by decide +kernel
theorem dX5_of_118 : decode cX5_of 118 = .ok (.getfield 142, 3) := by decide +kernel
theorem dX5_of_121 : decode cX5_of 121 = .ok (.ireturn, 1) := by decide +kernel
theorem dX5_of_122 : decode cX5_of 122 = .ok (.aload_n 0, 1) := by decide +kernel
theorem dX5_of_123 : decode cX5_of 123 = .ok (.aload_n 3, 1) := by decide +kernel
theorem dX5_of_124 : decode cX5_of 124 = .ok (.invokevirtual 145, 3) := by decide +kernel
theorem dX5_of_127 : decode cX5_of 127 = .ok (.ireturn, 1) := by decide +kernel
theorem dX5_of_128 : decode cX5_of 128 = .ok (.aload_n 3, 1) := by decide +kernel
theorem dX5_of_129 : decode cX5_of 129 = .ok (.getfield 148, 3) := by decide +kernel
theorem dX5_of_132 : decode cX5_of 132 = .ok (.ireturn, 1) := by decide +kernel
theorem dX5_of_133 : decode cX5_of 133 = .ok (.new 111, 3) := by decide +kernel
theorem dX5_of_136 : decode cX5_of 136 = .ok (.dup, 1) := by decide +kernel
theorem dX5_of_137 : decode cX5_of 137 = .ok (.ldc 151, 2) := by decide +kernel
theorem dX5_of_139 : decode cX5_of 139 = .ok (.invokespecial 115, 3) := by decide +kernel
theorem dX5_of_142 : decode cX5_of 142 = .ok (.athrow, 1) := by decide +kernel
theorem dX5_filed_0 : decode cX5_filed 0 = .ok (.aload_n 0, 1) := by decide +kernel
theorem dX5_filed_1 : decode cX5_filed 1 = .ok (.getfield 10, 3) := by decide +kernel
theorem dX5_filed_4 : decode cX5_filed 4 = .ok (.iload_n 1, 1) := by decide +kernel
theorem dX5_filed_5 : decode cX5_filed 5 = .ok (.invokevirtual 107, 3) := by decide +kernel
theorem dX5_filed_8 : decode cX5_filed 8 = .ok (.astore 4, 2) := by decide +kernel
theorem dX5_filed_10 : decode cX5_filed 10 = .ok (.aload 4, 2) := by decide +kernel
theorem dX5_filed_12 : decode cX5_filed 12 = .ok (.ifnull 10, 3) := by decide +kernel
theorem dX5_filed_15 : decode cX5_filed 15 = .ok (.iload_n 2, 1) := by decide +kernel
theorem dX5_filed_16 : decode cX5_filed 16 = .ok (.invokestatic 153, 3) := by decide +kernel
theorem dX5_filed_19 : decode cX5_filed 19 = .ok (.ifCond .ne 5, 3) := by decide +kernel
theorem dX5_filed_22 : decode cX5_filed 22 = .ok (.iconst (-1), 1) := by decide +kernel
theorem dX5_filed_23 : decode cX5_filed 23 = .ok (.ireturn, 1) := by decide +kernel
theorem dX5_filed_24 : decode cX5_filed 24 = .ok (.aload 4, 2) := by decide +kernel
theorem dX5_filed_26 : decode cX5_filed 26 = .ok (.getfield 157, 3) := by decide +kernel
theorem dX5_filed_29 : decode cX5_filed 29 = .ok (.iload_n 2, 1) := by decide +kernel
theorem dX5_filed_30 : decode cX5_filed 30 = .ok (.iaload, 1) := by decide +kernel
theorem dX5_filed_31 : decode cX5_filed 31 = .ok (.istore 5, 2) := by decide +kernel
theorem dX5_filed_33 : decode cX5_filed 33 = .ok (.iload 5, 2) := by decide +kernel
theorem dX5_filed_35 : decode cX5_filed 35 = .ok (.ifCond .ne 5, 3) := by decide +kernel
theorem dX5_filed_38 : decode cX5_filed 38 = .ok (.iconst (-1), 1) := by decide +kernel
theorem dX5_filed_39 : decode cX5_filed 39 = .ok (.ireturn, 1) := by decide +kernel
theorem dX5_filed_40 : decode cX5_filed 40 = .ok (.iload_n 3, 1) := by decide +kernel
theorem dX5_filed_41 : decode cX5_filed 41 = .ok (.lookupswitch 39 #[(0, 27), (1, 33)], 27) := by decide +kernel
theorem dX5_filed_68 : decode cX5_filed 68 = .ok (.iload 5, 2) := by decide +kernel
theorem dX5_filed_70 : decode cX5_filed 70 = .ok (.invokestatic 160, 3) := by decide +kernel
theorem dX5_filed_73 : decode cX5_filed 73 = .ok (.ireturn, 1) := by decide +kernel
theorem dX5_filed_74 : decode cX5_filed 74 = .ok (.iload 5, 2) := by decide +kernel
theorem dX5_filed_76 : decode cX5_filed 76 = .ok (.invokestatic 163, 3) := by decide +kernel
theorem dX5_filed_79 : decode cX5_filed 79 = .ok (.ireturn, 1) := by decide +kernel
theorem dX5_filed_80 : decode cX5_filed 80 = .ok (.iconst (-1), 1) := by decide +kernel
theorem dX5_filed_81 : decode cX5_filed 81 = .ok (.ireturn, 1) := by decide +kernel
theorem dX5_failure_0 : decode cX5_failure 0 = .ok (.aload_n 0, 1) := by decide +kernel
theorem dX5_failure_1 : decode cX5_failure 1 = .ok (.getfield 10, 3) := by decide +kernel
theorem dX5_failure_4 : decode cX5_failure 4 = .ok (.iload_n 1, 1) := by decide +kernel
theorem dX5_failure_5 : decode cX5_failure 5 = .ok (.invokevirtual 107, 3) := by decide +kernel
theorem dX5_failure_8 : decode cX5_failure 8 = .ok (.astore 4, 2) := by decide +kernel
theorem dX5_failure_10 : decode cX5_failure 10 = .ok (.aload 4, 2) := by decide +kernel
theorem dX5_failure_12 : decode cX5_failure 12 = .ok (.ifnull 12, 3) := by decide +kernel
theorem dX5_failure_15 : decode cX5_failure 15 = .ok (.aload 4, 2) := by decide +kernel
theorem dX5_failure_17 : decode cX5_failure 17 = .ok (.iload_n 2, 1) := by decide +kernel
theorem dX5_failure_18 : decode cX5_failure 18 = .ok (.invokevirtual 166, 3) := by decide +kernel
theorem dX5_failure_21 : decode cX5_failure 21 = .ok (.ifCond .ne 5, 3) := by decide +kernel
theorem dX5_failure_24 : decode cX5_failure 24 = .ok (.iconst (-1), 1) := by decide +kernel
theorem dX5_failure_25 : decode cX5_failure 25 = .ok (.ireturn, 1) := by decide +kernel
theorem dX5_failure_26 : decode cX5_failure 26 = .ok (.aload_n 0, 1) := by decide +kernel
theorem dX5_failure_27 : decode cX5_failure 27 = .ok (.getfield 22, 3) := by decide +kernel
theorem dX5_failure_30 : decode cX5_failure 30 = .ok (.aload 4, 2) := by decide +kernel
theorem dX5_failure_32 : decode cX5_failure 32 = .ok (.aload_n 0, 1) := by decide +kernel
theorem dX5_failure_33 : decode cX5_failure 33 = .ok (.getfield 10, 3) := by decide +kernel
theorem dX5_failure_36 : decode cX5_failure 36 = .ok (.getfield 169, 3) := by decide +kernel
theorem dX5_failure_39 : decode cX5_failure 39 = .ok (.iconst (-1), 1) := by decide +kernel
theorem dX5_failure_40 : decode cX5_failure 40 = .ok (.invokevirtual 172, 3) := by decide +kernel
theorem dX5_failure_43 : decode cX5_failure 43 = .ok (.iload_n 3, 1) := by decide +kernel
theorem dX5_failure_44 : decode cX5_failure 44 = .ok (.tableswitch 94 0 4 #[36, 44, 52, 60, 77], 36) := by decide +kernel
theorem dX5_failure_80 : decode cX5_failure 80 = .ok (.aload 4, 2) := by decide +kernel
theorem dX5_failure_82 : decode cX5_failure 82 = .ok (.getfield 176, 3) := by decide +kernel
theorem dX5_failure_85 : decode cX5_failure 85 = .ok (.iload_n 2, 1) := by decide +kernel
theorem dX5_failure_86 : decode cX5_failure 86 = .ok (.iaload, 1) := by decide +kernel
theorem dX5_failure_87 : decode cX5_failure 87 = .ok (.ireturn, 1) := by decide +kernel
theorem dX5_failure_88 : decode cX5_failure 88 = .ok (.aload 4, 2) := by decide +kernel
theorem dX5_failure_90 : decode cX5_failure 90 = .ok (.getfield 179, 3) := by decide +kernel
theorem dX5_failure_93 : decode cX5_failure 93 = .ok (.iload_n 2, 1) := by decide +kernel
theorem dX5_failure_94 : decode cX5_failure 94 = .ok (.iaload, 1) := by decide +kernel
theorem dX5_failure_95 : decode cX5_failure 95 = .ok (.ireturn, 1) := by decide +kernel
theorem dX5_failure_96 : decode cX5_failure 96 = .ok (.aload 4, 2) := by decide +kernel
theorem dX5_failure_98 : decode cX5_failure 98 = .ok (.getfield 182, 3) := by decide +kernel
theorem dX5_failure_101 : decode cX5_failure 101 = .ok (.iload_n 2, 1) := by decide +kernel
theorem dX5_failure_102 : decode cX5_failure 102 = .ok (.iaload, 1) := by decide +kernel
theorem dX5_failure_103 : decode cX5_failure 103 = .ok (.ireturn, 1) := by decide +kernel
theorem dX5_failure_104 : decode cX5_failure 104 = .ok (.aload_n 0, 1) := by decide +kernel
theorem dX5_failure_105 : decode cX5_failure 105 = .ok (.getfield 22, 3) := by decide +kernel
theorem dX5_failure_108 : decode cX5_failure 108 = .ok (.iload_n 2, 1) := by decide +kernel
theorem dX5_failure_109 : decode cX5_failure 109 = .ok (.invokevirtual 185, 3) := by decide +kernel
theorem dX5_failure_112 : decode cX5_failure 112 = .ok (.ifCond .eq 7, 3) := by decide +kernel
theorem dX5_failure_115 : decode cX5_failure 115 = .ok (.iconst 1, 1) := by decide +kernel
theorem dX5_failure_116 : decode cX5_failure 116 = .ok (.goto 4, 3) := by decide +kernel
theorem dX5_failure_119 : decode cX5_failure 119 = .ok (.iconst 0, 1) := by decide +kernel
theorem dX5_failure_120 : decode cX5_failure 120 = .ok (.ireturn, 1) := by decide +kernel
theorem dX5_failure_121 : decode cX5_failure 121 = .ok (.aload_n 0, 1) := by decide +kernel
theorem dX5_failure_122 : decode cX5_failure 122 = .ok (.getfield 22, 3) := by decide +kernel
theorem dX5_failure_125 : decode cX5_failure 125 = .ok (.iload_n 2, 1) := by decide +kernel
theorem dX5_failure_126 : decode cX5_failure 126 = .ok (.invokevirtual 188, 3) := by decide +kernel
theorem dX5_failure_129 : decode cX5_failure 129 = .ok (.ifCond .eq 7, 3) := by decide +kernel
theorem dX5_failure_132 : decode cX5_failure 132 = .ok (.iconst 1, 1) := by decide +kernel
theorem dX5_failure_133 : decode cX5_failure 133 = .ok (.goto 4, 3) := by decide +kernel
theorem dX5_failure_136 : decode cX5_failure 136 = .ok (.iconst 0, 1) := by decide +kernel
theorem dX5_failure_137 : decode cX5_failure 137 = .ok (.ireturn, 1) := by decide +kernel
theorem dX5_failure_138 : decode cX5_failure 138 = .ok (.iconst (-1), 1) := by decide +kernel
theorem dX5_failure_139 : decode cX5_failure 139 = .ok (.ireturn, 1) := by decide +kernel
theorem dX5_violation_0 : decode cX5_violation 0 = .ok (.aload_n 0, 1) := by decide +kernel
theorem dX5_violation_1 : decode cX5_violation 1 = .ok (.getfield 10, 3) := by decide +kernel
theorem dX5_violation_4 : decode cX5_violation 4 = .ok (.iload_n 1, 1) := by decide +kernel
theorem dX5_violation_5 : decode cX5_violation 5 = .ok (.invokevirtual 107, 3) := by decide +kernel
theorem dX5_violation_8 : decode cX5_violation 8 = .ok (.astore_n 3, 1) := by decide +kernel
theorem dX5_violation_9 : decode cX5_violation 9 = .ok (.aload_n 3, 1) := by decide +kernel
theorem dX5_violation_10 : decode cX5_violation 10 = .ok (.ifnonnull 5, 3) := by decide +kernel
theorem dX5_violation_13 : decode cX5_violation 13 = .ok (.iconst (-1), 1) := by decide +kernel
theorem dX5_violation_14 : decode cX5_violation 14 = .ok (.ireturn, 1) := by decide +kernel
theorem dX5_violation_15 : decode cX5_violation 15 = .ok (.aload_n 0, 1) := by decide +kernel
theorem dX5_violation_16 : decode cX5_violation 16 = .ok (.getfield 22, 3) := by decide +kernel
theorem dX5_violation_19 : decode cX5_violation 19 = .ok (.aload_n 3, 1) := by decide +kernel
theorem dX5_violation_20 : decode cX5_violation 20 = .ok (.aload_n 0, 1) := by decide +kernel
theorem dX5_violation_21 : decode cX5_violation 21 = .ok (.getfield 10, 3) := by decide +kernel
theorem dX5_violation_24 : decode cX5_violation 24 = .ok (.getfield 169, 3) := by decide +kernel
theorem dX5_violation_27 : decode cX5_violation 27 = .ok (.iconst (-1), 1) := by decide +kernel
theorem dX5_violation_28 : decode cX5_violation 28 = .ok (.invokevirtual 172, 3) := by decide +kernel
theorem dX5_violation_31 : decode cX5_violation 31 = .ok (.aload_n 0, 1) := by decide +kernel
theorem dX5_violation_32 : decode cX5_violation 32 = .ok (.getfield 22, 3) := by decide +kernel
theorem dX5_violation_35 : decode cX5_violation 35 = .ok (.iload_n 2, 1) := by decide +kernel
theorem dX5_violation_36 : decode cX5_violation 36 = .ok (.invokevirtual 191, 3) := by decide +kernel
theorem dX5_violation_39 : decode cX5_violation 39 = .ok (.ireturn, 1) := by decide +kernel
theorem dX5_hole_0 : decode cX5_hole 0 = .ok (.aload_n 0, 1) := by decide +kernel
theorem dX5_hole_1 : decode cX5_hole 1 = .ok (.getfield 10, 3) := by decide +kernel
theorem dX5_hole_4 : decode cX5_hole 4 = .ok (.iload_n 1, 1) := by decide +kernel
theorem dX5_hole_5 : decode cX5_hole 5 = .ok (.invokevirtual 107, 3) := by decide +kernel
theorem dX5_hole_8 : decode cX5_hole 8 = .ok (.astore_n 3, 1) := by decide +kernel
theorem dX5_hole_9 : decode cX5_hole 9 = .ok (.aload_n 3, 1) := by decide +kernel
theorem dX5_hole_10 : decode cX5_hole 10 = .ok (.ifnonnull 7, 3) := by decide +kernel
theorem dX5_hole_13 : decode cX5_hole 13 = .ok (.iconst (-1), 1) := by decide +kernel
theorem dX5_hole_14 : decode cX5_hole 14 = .ok (.goto 8, 3) := by decide +kernel
theorem dX5_hole_17 : decode cX5_hole 17 = .ok (.aload_n 3, 1) := by decide +kernel
theorem dX5_hole_18 : decode cX5_hole 18 = .ok (.iload_n 2, 1) := by decide +kernel
theorem dX5_hole_19 : decode cX5_hole 19 = .ok (.invokevirtual 194, 3) := by decide +kernel
theorem dX5_hole_22 : decode cX5_hole 22 = .ok (.ireturn, 1) := by decide +kernel
theorem dX5_lot_0 : decode cX5_lot 0 = .ok (.iload_n 1, 1) := by decide +kernel
theorem dX5_lot_1 : decode cX5_lot 1 = .ok (.ifCond .lt 19, 3) := by decide +kernel
theorem dX5_lot_4 : decode cX5_lot 4 = .ok (.iload_n 2, 1) := by decide +kernel
theorem dX5_lot_5 : decode cX5_lot 5 = .ok (.iconst 1, 1) := by decide +kernel
theorem dX5_lot_6 : decode cX5_lot 6 = .ok (.if_icmp .lt 14, 3) := by decide +kernel
theorem dX5_lot_9 : decode cX5_lot 9 = .ok (.iload_n 2, 1) := by decide +kernel
theorem dX5_lot_10 : decode cX5_lot 10 = .ok (.aload_n 0, 1) := by decide +kernel
theorem dX5_lot_11 : decode cX5_lot 11 = .ok (.getfield 10, 3) := by decide +kernel
theorem dX5_lot_14 : decode cX5_lot 14 = .ok (.getfield 95, 3) := by decide +kernel
theorem dX5_lot_17 : decode cX5_lot 17 = .ok (.if_icmp .le 5, 3) := by decide +kernel
theorem dX5_lot_20 : decode cX5_lot 20 = .ok (.iconst (-1), 1) := by decide +kernel
theorem dX5_lot_21 : decode cX5_lot 21 = .ok (.ireturn, 1) := by decide +kernel
theorem dX5_lot_22 : decode cX5_lot 22 = .ok (.aload_n 0, 1) := by decide +kernel
theorem dX5_lot_23 : decode cX5_lot 23 = .ok (.invokevirtual 197, 3) := by decide +kernel
theorem dX5_lot_26 : decode cX5_lot 26 = .ok (.i2l, 1) := by decide +kernel
theorem dX5_lot_27 : decode cX5_lot 27 = .ok (.lstore_n 3, 1) := by decide +kernel
theorem dX5_lot_28 : decode cX5_lot 28 = .ok (.iload_n 1, 1) := by decide +kernel
theorem dX5_lot_29 : decode cX5_lot 29 = .ok (.i2l, 1) := by decide +kernel
theorem dX5_lot_30 : decode cX5_lot 30 = .ok (.lstore 5, 2) := by decide +kernel
theorem dX5_lot_32 : decode cX5_lot 32 = .ok (.iconst 0, 1) := by decide +kernel
theorem dX5_lot_33 : decode cX5_lot 33 = .ok (.istore 7, 2) := by decide +kernel
theorem dX5_lot_35 : decode cX5_lot 35 = .ok (.iconst 0, 1) := by decide +kernel
theorem dX5_lot_36 : decode cX5_lot 36 = .ok (.istore 8, 2) := by decide +kernel
theorem dX5_lot_38 : decode cX5_lot 38 = .ok (.iload 8, 2) := by decide +kernel
theorem dX5_lot_40 : decode cX5_lot 40 = .ok (.iload_n 2, 1) := by decide +kernel
theorem dX5_lot_41 : decode cX5_lot 41 = .ok (.if_icmp .ge 78, 3) := by decide +kernel
theorem dX5_lot_44 : decode cX5_lot 44 = .ok (.lload_n 3, 1) := by decide +kernel
theorem dX5_lot_45 : decode cX5_lot 45 = .ok (.lconst 0, 1) := by decide +kernel
theorem dX5_lot_46 : decode cX5_lot 46 = .ok (.lcmp, 1) := by decide +kernel
theorem dX5_lot_47 : decode cX5_lot 47 = .ok (.ifCond .le 72, 3) := by decide +kernel
theorem dX5_lot_50 : decode cX5_lot 50 = .ok (.ldc2_w 201, 3) := by decide +kernel
theorem dX5_lot_53 : decode cX5_lot 53 = .ok (.lload 5, 2) := by decide +kernel
theorem dX5_lot_55 : decode cX5_lot 55 = .ok (.lmul, 1) := by decide +kernel
theorem dX5_lot_56 : decode cX5_lot 56 = .ok (.ldc2_w 203, 3) := by decide +kernel
theorem dX5_lot_59 : decode cX5_lot 59 = .ok (.ladd, 1) := by decide +kernel
theorem dX5_lot_60 : decode cX5_lot 60 = .ok (.ldc2_w 205, 3) := by decide +kernel
theorem dX5_lot_63 : decode cX5_lot 63 = .ok (.lrem, 1) := by decide +kernel
theorem dX5_lot_64 : decode cX5_lot 64 = .ok (.lstore 5, 2) := by decide +kernel
theorem dX5_lot_66 : decode cX5_lot 66 = .ok (.aload_n 0, 1) := by decide +kernel
theorem dX5_lot_67 : decode cX5_lot 67 = .ok (.lload 5, 2) := by decide +kernel
theorem dX5_lot_69 : decode cX5_lot 69 = .ok (.lload_n 3, 1) := by decide +kernel
theorem dX5_lot_70 : decode cX5_lot 70 = .ok (.lrem, 1) := by decide +kernel
theorem dX5_lot_71 : decode cX5_lot 71 = .ok (.invokevirtual 207, 3) := by decide +kernel
theorem dX5_lot_74 : decode cX5_lot 74 = .ok (.istore 9, 2) := by decide +kernel
theorem dX5_lot_76 : decode cX5_lot 76 = .ok (.iload 9, 2) := by decide +kernel
theorem dX5_lot_78 : decode cX5_lot 78 = .ok (.iconst (-1), 1) := by decide +kernel
theorem dX5_lot_79 : decode cX5_lot 79 = .ok (.if_icmp .ne 5, 3) := by decide +kernel
theorem dX5_lot_82 : decode cX5_lot 82 = .ok (.iconst (-1), 1) := by decide +kernel
theorem dX5_lot_83 : decode cX5_lot 83 = .ok (.ireturn, 1) := by decide +kernel
theorem dX5_lot_84 : decode cX5_lot 84 = .ok (.lload_n 3, 1) := by decide +kernel
theorem dX5_lot_85 : decode cX5_lot 85 = .ok (.aload_n 0, 1) := by decide +kernel
theorem dX5_lot_86 : decode cX5_lot 86 = .ok (.getfield 42, 3) := by decide +kernel
theorem dX5_lot_89 : decode cX5_lot 89 = .ok (.iload 9, 2) := by decide +kernel
theorem dX5_lot_91 : decode cX5_lot 91 = .ok (.iaload, 1) := by decide +kernel
theorem dX5_lot_92 : decode cX5_lot 92 = .ok (.i2l, 1) := by decide +kernel
theorem dX5_lot_93 : decode cX5_lot 93 = .ok (.lsub, 1) := by decide +kernel
theorem dX5_lot_94 : decode cX5_lot 94 = .ok (.lstore_n 3, 1) := by decide +kernel
theorem dX5_lot_95 : decode cX5_lot 95 = .ok (.aload_n 0, 1) := by decide +kernel
theorem dX5_lot_96 : decode cX5_lot 96 = .ok (.getfield 42, 3) := by decide +kernel
theorem dX5_lot_99 : decode cX5_lot 99 = .ok (.iload 9, 2) := by decide +kernel
theorem dX5_lot_101 : decode cX5_lot 101 = .ok (.iconst 0, 1) := by decide +kernel
theorem dX5_lot_102 : decode cX5_lot 102 = .ok (.iastore, 1) := by decide +kernel
theorem dX5_lot_103 : decode cX5_lot 103 = .ok (.iload 7, 2) := by decide +kernel
theorem dX5_lot_105 : decode cX5_lot 105 = .ok (.bipush 10, 2) := by decide +kernel
theorem dX5_lot_107 : decode cX5_lot 107 = .ok (.imul, 1) := by decide +kernel
theorem dX5_lot_108 : decode cX5_lot 108 = .ok (.iload 9, 2) := by decide +kernel
theorem dX5_lot_110 : decode cX5_lot 110 = .ok (.iadd, 1) := by decide +kernel
theorem dX5_lot_111 : decode cX5_lot 111 = .ok (.istore 7, 2) := by decide +kernel
theorem dX5_lot_113 : decode cX5_lot 113 = .ok (.iinc 8 1, 3) := by decide +kernel
theorem dX5_lot_116 : decode cX5_lot 116 = .ok (.goto (-78), 3) := by decide +kernel
theorem dX5_lot_119 : decode cX5_lot 119 = .ok (.iload 7, 2) := by decide +kernel
theorem dX5_lot_121 : decode cX5_lot 121 = .ok (.ireturn, 1) := by decide +kernel
theorem dX5_chance_0 : decode cX5_chance 0 = .ok (.iload_n 1, 1) := by decide +kernel
theorem dX5_chance_1 : decode cX5_chance 1 = .ok (.ifCond .lt 20, 3) := by decide +kernel
theorem dX5_chance_4 : decode cX5_chance 4 = .ok (.iload_n 1, 1) := by decide +kernel
theorem dX5_chance_5 : decode cX5_chance 5 = .ok (.aload_n 0, 1) := by decide +kernel
theorem dX5_chance_6 : decode cX5_chance 6 = .ok (.getfield 10, 3) := by decide +kernel
theorem dX5_chance_9 : decode cX5_chance 9 = .ok (.getfield 95, 3) := by decide +kernel
theorem dX5_chance_12 : decode cX5_chance 12 = .ok (.if_icmp .ge 9, 3) := by decide +kernel
theorem dX5_chance_15 : decode cX5_chance 15 = .ok (.iload_n 1, 1) := by decide +kernel
theorem dX5_chance_16 : decode cX5_chance 16 = .ok (.bipush 6, 2) := by decide +kernel
theorem dX5_chance_18 : decode cX5_chance 18 = .ok (.if_icmp .lt 5, 3) := by decide +kernel
theorem dX5_chance_21 : decode cX5_chance 21 = .ok (.iconst (-1), 1) := by decide +kernel
theorem dX5_chance_22 : decode cX5_chance 22 = .ok (.ireturn, 1) := by decide +kernel
theorem dX5_chance_23 : decode cX5_chance 23 = .ok (.aload_n 0, 1) := by decide +kernel
theorem dX5_chance_24 : decode cX5_chance 24 = .ok (.invokevirtual 197, 3) := by decide +kernel
theorem dX5_chance_27 : decode cX5_chance 27 = .ok (.istore_n 3, 1) := by decide +kernel
theorem dX5_chance_28 : decode cX5_chance 28 = .ok (.aload_n 0, 1) := by decide +kernel
theorem dX5_chance_29 : decode cX5_chance 29 = .ok (.getfield 42, 3) := by decide +kernel
theorem dX5_chance_32 : decode cX5_chance 32 = .ok (.iload_n 1, 1) := by decide +kernel
theorem dX5_chance_33 : decode cX5_chance 33 = .ok (.iaload, 1) := by decide +kernel
theorem dX5_chance_34 : decode cX5_chance 34 = .ok (.istore 4, 2) := by decide +kernel
theorem dX5_chance_36 : decode cX5_chance 36 = .ok (.iload 4, 2) := by decide +kernel
theorem dX5_chance_38 : decode cX5_chance 38 = .ok (.iload_n 3, 1) := by decide +kernel
theorem dX5_chance_39 : decode cX5_chance 39 = .ok (.invokestatic 211, 3) := by decide +kernel
theorem dX5_chance_42 : decode cX5_chance 42 = .ok (.istore 5, 2) := by decide +kernel
theorem dX5_chance_44 : decode cX5_chance 44 = .ok (.iload 5, 2) := by decide +kernel
theorem dX5_chance_46 : decode cX5_chance 46 = .ok (.iconst 1, 1) := by decide +kernel
theorem dX5_chance_47 : decode cX5_chance 47 = .ok (.if_icmp .ge 5, 3) := by decide +kernel
theorem dX5_chance_50 : decode cX5_chance 50 = .ok (.iconst (-1), 1) := by decide +kernel
theorem dX5_chance_51 : decode cX5_chance 51 = .ok (.ireturn, 1) := by decide +kernel
theorem dX5_chance_52 : decode cX5_chance 52 = .ok (.iload_n 2, 1) := by decide +kernel
theorem dX5_chance_53 : decode cX5_chance 53 = .ok (.ifCond .eq 7, 3) := by decide +kernel
theorem dX5_chance_56 : decode cX5_chance 56 = .ok (.iload_n 3, 1) := by decide +kernel
theorem dX5_chance_57 : decode cX5_chance 57 = .ok (.goto 5, 3) := by decide +kernel
theorem dX5_chance_60 : decode cX5_chance 60 = .ok (.iload 4, 2) := by decide +kernel
theorem dX5_chance_62 : decode cX5_chance 62 = .ok (.iload 5, 2) := by decide +kernel
theorem dX5_chance_64 : decode cX5_chance 64 = .ok (.idiv, 1) := by decide +kernel
theorem dX5_chance_65 : decode cX5_chance 65 = .ok (.ireturn, 1) := by decide +kernel
theorem dX5_round_0 : decode cX5_round 0 = .ok (.iload_n 1, 1) := by decide +kernel
theorem dX5_round_1 : decode cX5_round 1 = .ok (.invokestatic 153, 3) := by decide +kernel
theorem dX5_round_4 : decode cX5_round 4 = .ok (.ifCond .eq 12, 3) := by decide +kernel
theorem dX5_round_7 : decode cX5_round 7 = .ok (.iload_n 3, 1) := by decide +kernel
theorem dX5_round_8 : decode cX5_round 8 = .ok (.ifCond .lt 8, 3) := by decide +kernel
theorem dX5_round_11 : decode cX5_round 11 = .ok (.iload_n 3, 1) := by decide +kernel
theorem dX5_round_12 : decode cX5_round 12 = .ok (.iconst 1, 1) := by decide +kernel
theorem dX5_round_13 : decode cX5_round 13 = .ok (.if_icmp .le 5, 3) := by decide +kernel
theorem dX5_round_16 : decode cX5_round 16 = .ok (.iconst (-1), 1) := by decide +kernel
theorem dX5_round_17 : decode cX5_round 17 = .ok (.ireturn, 1) := by decide +kernel
theorem dX5_round_18 : decode cX5_round 18 = .ok (.iload_n 2, 1) := by decide +kernel
theorem dX5_round_19 : decode cX5_round 19 = .ok (.iconst (-1), 1) := by decide +kernel
theorem dX5_round_20 : decode cX5_round 20 = .ok (.if_icmp .ne 21, 3) := by decide +kernel
theorem dX5_round_23 : decode cX5_round 23 = .ok (.iload_n 3, 1) := by decide +kernel
theorem dX5_round_24 : decode cX5_round 24 = .ok (.ifCond .ne 11, 3) := by decide +kernel
theorem dX5_round_27 : decode cX5_round 27 = .ok (.aload_n 0, 1) := by decide +kernel
theorem dX5_round_28 : decode cX5_round 28 = .ok (.iload_n 1, 1) := by decide +kernel
theorem dX5_round_29 : decode cX5_round 29 = .ok (.invokevirtual 214, 3) := by decide +kernel
theorem dX5_round_32 : decode cX5_round 32 = .ok (.goto 8, 3) := by decide +kernel
theorem dX5_round_35 : decode cX5_round 35 = .ok (.aload_n 0, 1) := by decide +kernel
theorem dX5_round_36 : decode cX5_round 36 = .ok (.iload_n 1, 1) := by decide +kernel
theorem dX5_round_37 : decode cX5_round 37 = .ok (.invokevirtual 217, 3) := by decide +kernel
theorem dX5_round_40 : decode cX5_round 40 = .ok (.ireturn, 1) := by decide +kernel
theorem dX5_round_41 : decode cX5_round 41 = .ok (.iload_n 2, 1) := by decide +kernel
theorem dX5_round_42 : decode cX5_round 42 = .ok (.invokestatic 220, 3) := by decide +kernel
theorem dX5_round_45 : decode cX5_round 45 = .ok (.ifCond .ne 5, 3) := by decide +kernel
theorem dX5_round_48 : decode cX5_round 48 = .ok (.iconst (-1), 1) := by decide +kernel
theorem dX5_round_49 : decode cX5_round 49 = .ok (.ireturn, 1) := by decide +kernel
theorem dX5_round_50 : decode cX5_round 50 = .ok (.aload_n 0, 1) := by decide +kernel
theorem dX5_round_51 : decode cX5_round 51 = .ok (.getfield 10, 3) := by decide +kernel
theorem dX5_round_54 : decode cX5_round 54 = .ok (.iload_n 1, 1) := by decide +kernel
theorem dX5_round_55 : decode cX5_round 55 = .ok (.iload_n 2, 1) := by decide +kernel
theorem dX5_round_56 : decode cX5_round 56 = .ok (.invokevirtual 223, 3) := by decide +kernel
theorem dX5_round_59 : decode cX5_round 59 = .ok (.istore 4, 2) := by decide +kernel
theorem dX5_round_61 : decode cX5_round 61 = .ok (.iload 4, 2) := by decide +kernel
theorem dX5_round_63 : decode cX5_round 63 = .ok (.iconst (-1), 1) := by decide +kernel
theorem dX5_round_64 : decode cX5_round 64 = .ok (.if_icmp .ne 5, 3) := by decide +kernel
theorem dX5_round_67 : decode cX5_round 67 = .ok (.iconst (-1), 1) := by decide +kernel
theorem dX5_round_68 : decode cX5_round 68 = .ok (.ireturn, 1) := by decide +kernel
theorem dX5_round_69 : decode cX5_round 69 = .ok (.iload_n 3, 1) := by decide +kernel
theorem dX5_round_70 : decode cX5_round 70 = .ok (.ifCond .ne 8, 3) := by decide +kernel
theorem dX5_round_73 : decode cX5_round 73 = .ok (.iload 4, 2) := by decide +kernel
theorem dX5_round_75 : decode cX5_round 75 = .ok (.goto 14, 3) := by decide +kernel
theorem dX5_round_78 : decode cX5_round 78 = .ok (.aload_n 0, 1) := by decide +kernel
theorem dX5_round_79 : decode cX5_round 79 = .ok (.getfield 10, 3) := by decide +kernel
theorem dX5_round_82 : decode cX5_round 82 = .ok (.iload_n 1, 1) := by decide +kernel
theorem dX5_round_83 : decode cX5_round 83 = .ok (.iload_n 2, 1) := by decide +kernel
theorem dX5_round_84 : decode cX5_round 84 = .ok (.iload 4, 2) := by decide +kernel
theorem dX5_round_86 : decode cX5_round 86 = .ok (.invokevirtual 226, 3) := by decide +kernel
theorem dX5_round_89 : decode cX5_round 89 = .ok (.ireturn, 1) := by decide +kernel
theorem dX5_there_0 : decode cX5_there 0 = .ok (.iload_n 1, 1) := by decide +kernel
theorem dX5_there_1 : decode cX5_there 1 = .ok (.invokestatic 153, 3) := by decide +kernel
theorem dX5_there_4 : decode cX5_there 4 = .ok (.ifCond .eq 17, 3) := by decide +kernel
theorem dX5_there_7 : decode cX5_there 7 = .ok (.iload_n 2, 1) := by decide +kernel
theorem dX5_there_8 : decode cX5_there 8 = .ok (.invokestatic 230, 3) := by decide +kernel
theorem dX5_there_11 : decode cX5_there 11 = .ok (.ifCond .eq 10, 3) := by decide +kernel
theorem dX5_there_14 : decode cX5_there 14 = .ok (.iload_n 3, 1) := by decide +kernel
theorem dX5_there_15 : decode cX5_there 15 = .ok (.invokestatic 233, 3) := by decide +kernel
theorem dX5_there_18 : decode cX5_there 18 = .ok (.ifCond .ne 5, 3) := by decide +kernel
theorem dX5_there_21 : decode cX5_there 21 = .ok (.iconst (-1), 1) := by decide +kernel
theorem dX5_there_22 : decode cX5_there 22 = .ok (.ireturn, 1) := by decide +kernel
theorem dX5_there_23 : decode cX5_there 23 = .ok (.aload_n 0, 1) := by decide +kernel
theorem dX5_there_24 : decode cX5_there 24 = .ok (.getfield 10, 3) := by decide +kernel
theorem dX5_there_27 : decode cX5_there 27 = .ok (.iload_n 1, 1) := by decide +kernel
theorem dX5_there_28 : decode cX5_there 28 = .ok (.iload_n 2, 1) := by decide +kernel
theorem dX5_there_29 : decode cX5_there 29 = .ok (.iload_n 3, 1) := by decide +kernel
theorem dX5_there_30 : decode cX5_there 30 = .ok (.invokevirtual 226, 3) := by decide +kernel
theorem dX5_there_33 : decode cX5_there 33 = .ok (.ireturn, 1) := by decide +kernel
theorem dX5_danger_0 : decode cX5_danger 0 = .ok (.aload_n 0, 1) := by decide +kernel
theorem dX5_danger_1 : decode cX5_danger 1 = .ok (.getfield 10, 3) := by decide +kernel
theorem dX5_danger_4 : decode cX5_danger 4 = .ok (.iload_n 1, 1) := by decide +kernel
theorem dX5_danger_5 : decode cX5_danger 5 = .ok (.invokevirtual 107, 3) := by decide +kernel
theorem dX5_danger_8 : decode cX5_danger 8 = .ok (.astore_n 2, 1) := by decide +kernel
theorem dX5_danger_9 : decode cX5_danger 9 = .ok (.aload_n 2, 1) := by decide +kernel
theorem dX5_danger_10 : decode cX5_danger 10 = .ok (.ifnonnull 5, 3) := by decide +kernel
theorem dX5_danger_13 : decode cX5_danger 13 = .ok (.iconst (-1), 1) := by decide +kernel
theorem dX5_danger_14 : decode cX5_danger 14 = .ok (.ireturn, 1) := by decide +kernel
theorem dX5_danger_15 : decode cX5_danger 15 = .ok (.aload_n 0, 1) := by decide +kernel
theorem dX5_danger_16 : decode cX5_danger 16 = .ok (.aload_n 2, 1) := by decide +kernel
theorem dX5_danger_17 : decode cX5_danger 17 = .ok (.invokevirtual 130, 3) := by decide +kernel
theorem dX5_danger_20 : decode cX5_danger 20 = .ok (.istore_n 3, 1) := by decide +kernel
theorem dX5_danger_21 : decode cX5_danger 21 = .ok (.aload_n 0, 1) := by decide +kernel
theorem dX5_danger_22 : decode cX5_danger 22 = .ok (.getfield 22, 3) := by decide +kernel
theorem dX5_danger_25 : decode cX5_danger 25 = .ok (.aload_n 0, 1) := by decide +kernel
theorem dX5_danger_26 : decode cX5_danger 26 = .ok (.getfield 10, 3) := by decide +kernel
theorem dX5_danger_29 : decode cX5_danger 29 = .ok (.getfield 98, 3) := by decide +kernel
theorem dX5_danger_32 : decode cX5_danger 32 = .ok (.iconst 0, 1) := by decide +kernel
theorem dX5_danger_33 : decode cX5_danger 33 = .ok (.invokevirtual 236, 3) := by decide +kernel
theorem dX5_danger_36 : decode cX5_danger 36 = .ok (.aload_n 0, 1) := by decide +kernel
theorem dX5_danger_37 : decode cX5_danger 37 = .ok (.getfield 22, 3) := by decide +kernel
theorem dX5_danger_40 : decode cX5_danger 40 = .ok (.getfield 240, 3) := by decide +kernel
theorem dX5_danger_43 : decode cX5_danger 43 = .ok (.iload_n 3, 1) := by decide +kernel
theorem dX5_danger_44 : decode cX5_danger 44 = .ok (.if_icmp .le 7, 3) := by decide +kernel
theorem dX5_danger_47 : decode cX5_danger 47 = .ok (.iconst 1, 1) := by decide +kernel
theorem dX5_danger_48 : decode cX5_danger 48 = .ok (.goto 4, 3) := by decide +kernel
theorem dX5_danger_51 : decode cX5_danger 51 = .ok (.iconst 0, 1) := by decide +kernel
theorem dX5_danger_52 : decode cX5_danger 52 = .ok (.ireturn, 1) := by decide +kernel
theorem dX5_easier_0 : decode cX5_easier 0 = .ok (.aload_n 0, 1) := by decide +kernel
theorem dX5_easier_1 : decode cX5_easier 1 = .ok (.getfield 10, 3) := by decide +kernel
theorem dX5_easier_4 : decode cX5_easier 4 = .ok (.iload_n 1, 1) := by decide +kernel
theorem dX5_easier_5 : decode cX5_easier 5 = .ok (.invokevirtual 107, 3) := by decide +kernel
theorem dX5_easier_8 : decode cX5_easier 8 = .ok (.astore_n 2, 1) := by decide +kernel
theorem dX5_easier_9 : decode cX5_easier 9 = .ok (.aload_n 2, 1) := by decide +kernel
theorem dX5_easier_10 : decode cX5_easier 10 = .ok (.ifnonnull 5, 3) := by decide +kernel
theorem dX5_easier_13 : decode cX5_easier 13 = .ok (.iconst (-1), 1) := by decide +kernel
theorem dX5_easier_14 : decode cX5_easier 14 = .ok (.ireturn, 1) := by decide +kernel
theorem dX5_easier_15 : decode cX5_easier 15 = .ok (.aload_n 0, 1) := by decide +kernel
theorem dX5_easier_16 : decode cX5_easier 16 = .ok (.getfield 22, 3) := by decide +kernel
theorem dX5_easier_19 : decode cX5_easier 19 = .ok (.aload_n 2, 1) := by decide +kernel
theorem dX5_easier_20 : decode cX5_easier 20 = .ok (.aload_n 0, 1) := by decide +kernel
theorem dX5_easier_21 : decode cX5_easier 21 = .ok (.getfield 10, 3) := by decide +kernel
theorem dX5_easier_24 : decode cX5_easier 24 = .ok (.getfield 169, 3) := by decide +kernel
theorem dX5_easier_27 : decode cX5_easier 27 = .ok (.iconst (-1), 1) := by decide +kernel
theorem dX5_easier_28 : decode cX5_easier 28 = .ok (.invokevirtual 172, 3) := by decide +kernel
theorem dX5_easier_31 : decode cX5_easier 31 = .ok (.aload_n 0, 1) := by decide +kernel
theorem dX5_easier_32 : decode cX5_easier 32 = .ok (.getfield 22, 3) := by decide +kernel
theorem dX5_easier_35 : decode cX5_easier 35 = .ok (.aload_n 0, 1) := by decide +kernel
theorem dX5_easier_36 : decode cX5_easier 36 = .ok (.getfield 10, 3) := by decide +kernel
theorem dX5_easier_39 : decode cX5_easier 39 = .ok (.getfield 98, 3) := by decide +kernel
theorem dX5_easier_42 : decode cX5_easier 42 = .ok (.invokevirtual 243, 3) := by decide +kernel
theorem dX5_easier_45 : decode cX5_easier 45 = .ok (.istore_n 3, 1) := by decide +kernel
theorem dX5_easier_46 : decode cX5_easier 46 = .ok (.iload_n 3, 1) := by decide +kernel
theorem dX5_easier_47 : decode cX5_easier 47 = .ok (.iconst (-1), 1) := by decide +kernel
theorem dX5_easier_48 : decode cX5_easier 48 = .ok (.if_icmp .ne 7, 3) := by decide +kernel
theorem dX5_easier_51 : decode cX5_easier 51 = .ok (.iconst (-1), 1) := by decide +kernel
theorem dX5_easier_52 : decode cX5_easier 52 = .ok (.goto 14, 3) := by decide +kernel
theorem dX5_easier_55 : decode cX5_easier 55 = .ok (.iload_n 3, 1) := by decide +kernel
theorem dX5_easier_56 : decode cX5_easier 56 = .ok (.aload_n 0, 1) := by decide +kernel
theorem dX5_easier_57 : decode cX5_easier 57 = .ok (.getfield 10, 3) := by decide +kernel
theorem dX5_easier_60 : decode cX5_easier 60 = .ok (.getfield 169, 3) := by decide +kernel
theorem dX5_easier_63 : decode cX5_easier 63 = .ok (.iconst 0, 1) := by decide +kernel
theorem dX5_easier_64 : decode cX5_easier 64 = .ok (.iaload, 1) := by decide +kernel
theorem dX5_easier_65 : decode cX5_easier 65 = .ok (.iadd, 1) := by decide +kernel
theorem dX5_easier_66 : decode cX5_easier 66 = .ok (.ireturn, 1) := by decide +kernel
theorem dX5_without_0 : decode cX5_without 0 = .ok (.aload_n 0, 1) := by decide +kernel
theorem dX5_without_1 : decode cX5_without 1 = .ok (.getfield 10, 3) := by decide +kernel
theorem dX5_without_4 : decode cX5_without 4 = .ok (.iload_n 1, 1) := by decide +kernel
theorem dX5_without_5 : decode cX5_without 5 = .ok (.invokevirtual 107, 3) := by decide +kernel
theorem dX5_without_8 : decode cX5_without 8 = .ok (.astore_n 3, 1) := by decide +kernel
theorem dX5_without_9 : decode cX5_without 9 = .ok (.aload_n 3, 1) := by decide +kernel
theorem dX5_without_10 : decode cX5_without 10 = .ok (.ifnull 11, 3) := by decide +kernel
theorem dX5_without_13 : decode cX5_without 13 = .ok (.aload_n 3, 1) := by decide +kernel
theorem dX5_without_14 : decode cX5_without 14 = .ok (.iload_n 2, 1) := by decide +kernel
theorem dX5_without_15 : decode cX5_without 15 = .ok (.invokevirtual 166, 3) := by decide +kernel
theorem dX5_without_18 : decode cX5_without 18 = .ok (.ifCond .ne 5, 3) := by decide +kernel
theorem dX5_without_21 : decode cX5_without 21 = .ok (.iconst (-1), 1) := by decide +kernel
theorem dX5_without_22 : decode cX5_without 22 = .ok (.ireturn, 1) := by decide +kernel
theorem dX5_without_23 : decode cX5_without 23 = .ok (.aload_n 0, 1) := by decide +kernel
theorem dX5_without_24 : decode cX5_without 24 = .ok (.getfield 22, 3) := by decide +kernel
theorem dX5_without_27 : decode cX5_without 27 = .ok (.aload_n 3, 1) := by decide +kernel
theorem dX5_without_28 : decode cX5_without 28 = .ok (.aload_n 0, 1) := by decide +kernel
theorem dX5_without_29 : decode cX5_without 29 = .ok (.getfield 10, 3) := by decide +kernel
theorem dX5_without_32 : decode cX5_without 32 = .ok (.getfield 169, 3) := by decide +kernel
theorem dX5_without_35 : decode cX5_without 35 = .ok (.iload_n 2, 1) := by decide +kernel
theorem dX5_without_36 : decode cX5_without 36 = .ok (.invokevirtual 172, 3) := by decide +kernel
theorem dX5_without_39 : decode cX5_without 39 = .ok (.aload_n 0, 1) := by decide +kernel
theorem dX5_without_40 : decode cX5_without 40 = .ok (.getfield 22, 3) := by decide +kernel
theorem dX5_without_43 : decode cX5_without 43 = .ok (.getfield 240, 3) := by decide +kernel
theorem dX5_without_46 : decode cX5_without 46 = .ok (.ireturn, 1) := by decide +kernel
theorem dX5_worst_0 : decode cX5_worst 0 = .ok (.iconst (-1), 1) := by decide +kernel
theorem dX5_worst_1 : decode cX5_worst 1 = .ok (.istore_n 1, 1) := by decide +kernel
theorem dX5_worst_2 : decode cX5_worst 2 = .ok (.iconst 0, 1) := by decide +kernel
theorem dX5_worst_3 : decode cX5_worst 3 = .ok (.istore_n 2, 1) := by decide +kernel
theorem dX5_worst_4 : decode cX5_worst 4 = .ok (.iconst 0, 1) := by decide +kernel
theorem dX5_worst_5 : decode cX5_worst 5 = .ok (.istore_n 3, 1) := by decide +kernel
theorem dX5_worst_6 : decode cX5_worst 6 = .ok (.iconst 0, 1) := by decide +kernel
theorem dX5_worst_7 : decode cX5_worst 7 = .ok (.istore 4, 2) := by decide +kernel
theorem dX5_worst_9 : decode cX5_worst 9 = .ok (.iconst 0, 1) := by decide +kernel
theorem dX5_worst_10 : decode cX5_worst 10 = .ok (.istore 5, 2) := by decide +kernel
theorem dX5_worst_12 : decode cX5_worst 12 = .ok (.iload 5, 2) := by decide +kernel
theorem dX5_worst_14 : decode cX5_worst 14 = .ok (.aload_n 0, 1) := by decide +kernel
theorem dX5_worst_15 : decode cX5_worst 15 = .ok (.getfield 10, 3) := by decide +kernel
theorem dX5_worst_18 : decode cX5_worst 18 = .ok (.getfield 95, 3) := by decide +kernel
theorem dX5_worst_21 : decode cX5_worst 21 = .ok (.if_icmp .ge 107, 3) := by decide +kernel
theorem dX5_worst_24 : decode cX5_worst 24 = .ok (.aload_n 0, 1) := by decide +kernel
theorem dX5_worst_25 : decode cX5_worst 25 = .ok (.getfield 10, 3) := by decide +kernel
theorem dX5_worst_28 : decode cX5_worst 28 = .ok (.iload 5, 2) := by decide +kernel
theorem dX5_worst_30 : decode cX5_worst 30 = .ok (.invokevirtual 107, 3) := by decide +kernel
theorem dX5_worst_33 : decode cX5_worst 33 = .ok (.astore 6, 2) := by decide +kernel
theorem dX5_worst_35 : decode cX5_worst 35 = .ok (.aload 6, 2) := by decide +kernel
theorem dX5_worst_37 : decode cX5_worst 37 = .ok (.ifnonnull 5, 3) := by decide +kernel
theorem dX5_worst_40 : decode cX5_worst 40 = .ok (.iconst (-1), 1) := by decide +kernel
theorem dX5_worst_41 : decode cX5_worst 41 = .ok (.ireturn, 1) := by decide +kernel
theorem dX5_worst_42 : decode cX5_worst 42 = .ok (.aload_n 0, 1) := by decide +kernel
theorem dX5_worst_43 : decode cX5_worst 43 = .ok (.aload 6, 2) := by decide +kernel
theorem dX5_worst_45 : decode cX5_worst 45 = .ok (.invokevirtual 130, 3) := by decide +kernel
theorem dX5_worst_48 : decode cX5_worst 48 = .ok (.istore 7, 2) := by decide +kernel
theorem dX5_worst_50 : decode cX5_worst 50 = .ok (.aload_n 0, 1) := by decide +kernel
theorem dX5_worst_51 : decode cX5_worst 51 = .ok (.aload 6, 2) := by decide +kernel
theorem dX5_worst_53 : decode cX5_worst 53 = .ok (.invokevirtual 123, 3) := by decide +kernel
theorem dX5_worst_56 : decode cX5_worst 56 = .ok (.istore 8, 2) := by decide +kernel
theorem dX5_worst_58 : decode cX5_worst 58 = .ok (.iload 7, 2) := by decide +kernel
theorem dX5_worst_60 : decode cX5_worst 60 = .ok (.iload_n 2, 1) := by decide +kernel
theorem dX5_worst_61 : decode cX5_worst 61 = .ok (.invokestatic 246, 3) := by decide +kernel
theorem dX5_worst_64 : decode cX5_worst 64 = .ok (.istore 9, 2) := by decide +kernel
theorem dX5_worst_66 : decode cX5_worst 66 = .ok (.iload 9, 2) := by decide +kernel
theorem dX5_worst_68 : decode cX5_worst 68 = .ok (.ifCond .ne 11, 3) := by decide +kernel
theorem dX5_worst_71 : decode cX5_worst 71 = .ok (.iload 8, 2) := by decide +kernel
theorem dX5_worst_73 : decode cX5_worst 73 = .ok (.iload_n 3, 1) := by decide +kernel
theorem dX5_worst_74 : decode cX5_worst 74 = .ok (.invokestatic 246, 3) := by decide +kernel
theorem dX5_worst_77 : decode cX5_worst 77 = .ok (.istore 9, 2) := by decide +kernel
theorem dX5_worst_79 : decode cX5_worst 79 = .ok (.iload 9, 2) := by decide +kernel
theorem dX5_worst_81 : decode cX5_worst 81 = .ok (.ifCond .ne 15, 3) := by decide +kernel
theorem dX5_worst_84 : decode cX5_worst 84 = .ok (.aload 6, 2) := by decide +kernel
theorem dX5_worst_86 : decode cX5_worst 86 = .ok (.getfield 127, 3) := by decide +kernel
theorem dX5_worst_89 : decode cX5_worst 89 = .ok (.iload 4, 2) := by decide +kernel
theorem dX5_worst_91 : decode cX5_worst 91 = .ok (.invokestatic 246, 3) := by decide +kernel
theorem dX5_worst_94 : decode cX5_worst 94 = .ok (.istore 9, 2) := by decide +kernel
theorem dX5_worst_96 : decode cX5_worst 96 = .ok (.iload_n 1, 1) := by decide +kernel
theorem dX5_worst_97 : decode cX5_worst 97 = .ok (.iconst (-1), 1) := by decide +kernel
theorem dX5_worst_98 : decode cX5_worst 98 = .ok (.if_icmp .eq 8, 3) := by decide +kernel
theorem dX5_worst_101 : decode cX5_worst 101 = .ok (.iload 9, 2) := by decide +kernel
theorem dX5_worst_103 : decode cX5_worst 103 = .ok (.ifCond .le 19, 3) := by decide +kernel
theorem dX5_worst_106 : decode cX5_worst 106 = .ok (.iload 5, 2) := by decide +kernel
theorem dX5_worst_108 : decode cX5_worst 108 = .ok (.istore_n 1, 1) := by decide +kernel
theorem dX5_worst_109 : decode cX5_worst 109 = .ok (.iload 7, 2) := by decide +kernel
theorem dX5_worst_111 : decode cX5_worst 111 = .ok (.istore_n 2, 1) := by decide +kernel
theorem dX5_worst_112 : decode cX5_worst 112 = .ok (.iload 8, 2) := by decide +kernel
theorem dX5_worst_114 : decode cX5_worst 114 = .ok (.istore_n 3, 1) := by decide +kernel
theorem dX5_worst_115 : decode cX5_worst 115 = .ok (.aload 6, 2) := by decide +kernel
theorem dX5_worst_117 : decode cX5_worst 117 = .ok (.getfield 127, 3) := by decide +kernel
theorem dX5_worst_120 : decode cX5_worst 120 = .ok (.istore 4, 2) := by decide +kernel
theorem dX5_worst_122 : decode cX5_worst 122 = .ok (.iinc 5 1, 3) := by decide +kernel
theorem dX5_worst_125 : decode cX5_worst 125 = .ok (.goto (-113), 3) := by decide +kernel
theorem dX5_worst_128 : decode cX5_worst 128 = .ok (.iload_n 1, 1) := by decide +kernel
theorem dX5_worst_129 : decode cX5_worst 129 = .ok (.ireturn, 1) := by decide +kernel
theorem dX5_pointsOf_0 : decode cX5_pointsOf 0 = .ok (.aload_n 0, 1) := by decide +kernel
theorem dX5_pointsOf_1 : decode cX5_pointsOf 1 = .ok (.getfield 22, 3) := by decide +kernel
theorem dX5_pointsOf_4 : decode cX5_pointsOf 4 = .ok (.aload_n 1, 1) := by decide +kernel
theorem dX5_pointsOf_5 : decode cX5_pointsOf 5 = .ok (.aload_n 0, 1) := by decide +kernel
theorem dX5_pointsOf_6 : decode cX5_pointsOf 6 = .ok (.getfield 10, 3) := by decide +kernel
theorem dX5_pointsOf_9 : decode cX5_pointsOf 9 = .ok (.getfield 169, 3) := by decide +kernel
theorem dX5_pointsOf_12 : decode cX5_pointsOf 12 = .ok (.iconst (-1), 1) := by decide +kernel
theorem dX5_pointsOf_13 : decode cX5_pointsOf 13 = .ok (.invokevirtual 172, 3) := by decide +kernel
theorem dX5_pointsOf_16 : decode cX5_pointsOf 16 = .ok (.aload_n 0, 1) := by decide +kernel
theorem dX5_pointsOf_17 : decode cX5_pointsOf 17 = .ok (.getfield 22, 3) := by decide +kernel
theorem dX5_pointsOf_20 : decode cX5_pointsOf 20 = .ok (.aload_n 0, 1) := by decide +kernel
theorem dX5_pointsOf_21 : decode cX5_pointsOf 21 = .ok (.getfield 10, 3) := by decide +kernel
theorem dX5_pointsOf_24 : decode cX5_pointsOf 24 = .ok (.getfield 98, 3) := by decide +kernel
theorem dX5_pointsOf_27 : decode cX5_pointsOf 27 = .ok (.invokevirtual 251, 3) := by decide +kernel
theorem dX5_pointsOf_30 : decode cX5_pointsOf 30 = .ok (.ireturn, 1) := by decide +kernel
theorem dX5_violationsOf_0 : decode cX5_violationsOf 0 = .ok (.aload_n 0, 1) := by decide +kernel
theorem dX5_violationsOf_1 : decode cX5_violationsOf 1 = .ok (.getfield 22, 3) := by decide +kernel
theorem dX5_violationsOf_4 : decode cX5_violationsOf 4 = .ok (.aload_n 1, 1) := by decide +kernel
theorem dX5_violationsOf_5 : decode cX5_violationsOf 5 = .ok (.aload_n 0, 1) := by decide +kernel
theorem dX5_violationsOf_6 : decode cX5_violationsOf 6 = .ok (.getfield 10, 3) := by decide +kernel
theorem dX5_violationsOf_9 : decode cX5_violationsOf 9 = .ok (.getfield 169, 3) := by decide +kernel
theorem dX5_violationsOf_12 : decode cX5_violationsOf 12 = .ok (.iconst (-1), 1) := by decide +kernel
theorem dX5_violationsOf_13 : decode cX5_violationsOf 13 = .ok (.invokevirtual 172, 3) := by decide +kernel
theorem dX5_violationsOf_16 : decode cX5_violationsOf 16 = .ok (.aload_n 0, 1) := by decide +kernel
theorem dX5_violationsOf_17 : decode cX5_violationsOf 17 = .ok (.getfield 22, 3) := by decide +kernel
theorem dX5_violationsOf_20 : decode cX5_violationsOf 20 = .ok (.getfield 240, 3) := by decide +kernel
theorem dX5_violationsOf_23 : decode cX5_violationsOf 23 = .ok (.ireturn, 1) := by decide +kernel
theorem dX5_weightOf_0 : decode cX5_weightOf 0 = .ok (.aload_n 1, 1) := by decide +kernel
theorem dX5_weightOf_1 : decode cX5_weightOf 1 = .ok (.getfield 142, 3) := by decide +kernel
theorem dX5_weightOf_4 : decode cX5_weightOf 4 = .ok (.iconst (-1), 1) := by decide +kernel
theorem dX5_weightOf_5 : decode cX5_weightOf 5 = .ok (.if_icmp .ne 10, 3) := by decide +kernel
theorem dX5_weightOf_8 : decode cX5_weightOf 8 = .ok (.aload_n 1, 1) := by decide +kernel
theorem dX5_weightOf_9 : decode cX5_weightOf 9 = .ok (.getfield 148, 3) := by decide +kernel
theorem dX5_weightOf_12 : decode cX5_weightOf 12 = .ok (.goto 7, 3) := by decide +kernel
theorem dX5_weightOf_15 : decode cX5_weightOf 15 = .ok (.aload_n 1, 1) := by decide +kernel
theorem dX5_weightOf_16 : decode cX5_weightOf 16 = .ok (.getfield 142, 3) := by decide +kernel
theorem dX5_weightOf_19 : decode cX5_weightOf 19 = .ok (.istore_n 2, 1) := by decide +kernel
theorem dX5_weightOf_20 : decode cX5_weightOf 20 = .ok (.aload_n 1, 1) := by decide +kernel
theorem dX5_weightOf_21 : decode cX5_weightOf 21 = .ok (.getfield 118, 3) := by decide +kernel
theorem dX5_weightOf_24 : decode cX5_weightOf 24 = .ok (.iconst 1, 1) := by decide +kernel
theorem dX5_weightOf_25 : decode cX5_weightOf 25 = .ok (.aload_n 0, 1) := by decide +kernel
theorem dX5_weightOf_26 : decode cX5_weightOf 26 = .ok (.getfield 10, 3) := by decide +kernel
theorem dX5_weightOf_29 : decode cX5_weightOf 29 = .ok (.getfield 98, 3) := by decide +kernel
theorem dX5_weightOf_32 : decode cX5_weightOf 32 = .ok (.iadd, 1) := by decide +kernel
theorem dX5_weightOf_33 : decode cX5_weightOf 33 = .ok (.iload_n 2, 1) := by decide +kernel
theorem dX5_weightOf_34 : decode cX5_weightOf 34 = .ok (.isub, 1) := by decide +kernel
theorem dX5_weightOf_35 : decode cX5_weightOf 35 = .ok (.imul, 1) := by decide +kernel
theorem dX5_weightOf_36 : decode cX5_weightOf 36 = .ok (.iconst 1, 1) := by decide +kernel
theorem dX5_weightOf_37 : decode cX5_weightOf 37 = .ok (.aload_n 0, 1) := by decide +kernel
theorem dX5_weightOf_38 : decode cX5_weightOf 38 = .ok (.aload_n 1, 1) := by decide +kernel
theorem dX5_weightOf_39 : decode cX5_weightOf 39 = .ok (.invokevirtual 123, 3) := by decide +kernel
theorem dX5_weightOf_42 : decode cX5_weightOf 42 = .ok (.iadd, 1) := by decide +kernel
theorem dX5_weightOf_43 : decode cX5_weightOf 43 = .ok (.imul, 1) := by decide +kernel
theorem dX5_weightOf_44 : decode cX5_weightOf 44 = .ok (.ireturn, 1) := by decide +kernel
theorem dX5_weighAll_0 : decode cX5_weighAll 0 = .ok (.iconst 0, 1) := by decide +kernel
theorem dX5_weighAll_1 : decode cX5_weighAll 1 = .ok (.istore_n 1, 1) := by decide +kernel
theorem dX5_weighAll_2 : decode cX5_weighAll 2 = .ok (.iconst 0, 1) := by decide +kernel
theorem dX5_weighAll_3 : decode cX5_weighAll 3 = .ok (.istore_n 2, 1) := by decide +kernel
theorem dX5_weighAll_4 : decode cX5_weighAll 4 = .ok (.iload_n 2, 1) := by decide +kernel
theorem dX5_weighAll_5 : decode cX5_weighAll 5 = .ok (.bipush 6, 2) := by decide +kernel
theorem dX5_weighAll_7 : decode cX5_weighAll 7 = .ok (.if_icmp .ge 46, 3) := by decide +kernel
theorem dX5_weighAll_10 : decode cX5_weighAll 10 = .ok (.aload_n 0, 1) := by decide +kernel
theorem dX5_weighAll_11 : decode cX5_weighAll 11 = .ok (.getfield 10, 3) := by decide +kernel
theorem dX5_weighAll_14 : decode cX5_weighAll 14 = .ok (.iload_n 2, 1) := by decide +kernel
theorem dX5_weighAll_15 : decode cX5_weighAll 15 = .ok (.invokevirtual 107, 3) := by decide +kernel
theorem dX5_weighAll_18 : decode cX5_weighAll 18 = .ok (.astore_n 3, 1) := by decide +kernel
theorem dX5_weighAll_19 : decode cX5_weighAll 19 = .ok (.aload_n 0, 1) := by decide +kernel
theorem dX5_weighAll_20 : decode cX5_weighAll 20 = .ok (.getfield 42, 3) := by decide +kernel
theorem dX5_weighAll_23 : decode cX5_weighAll 23 = .ok (.iload_n 2, 1) := by decide +kernel
theorem dX5_weighAll_24 : decode cX5_weighAll 24 = .ok (.aload_n 3, 1) := by decide +kernel
theorem dX5_weighAll_25 : decode cX5_weighAll 25 = .ok (.ifnonnull 7, 3) := by decide +kernel
theorem dX5_weighAll_28 : decode cX5_weighAll 28 = .ok (.iconst 0, 1) := by decide +kernel
theorem dX5_weighAll_29 : decode cX5_weighAll 29 = .ok (.goto 8, 3) := by decide +kernel
theorem dX5_weighAll_32 : decode cX5_weighAll 32 = .ok (.aload_n 0, 1) := by decide +kernel
theorem dX5_weighAll_33 : decode cX5_weighAll 33 = .ok (.aload_n 3, 1) := by decide +kernel
theorem dX5_weighAll_34 : decode cX5_weighAll 34 = .ok (.invokevirtual 145, 3) := by decide +kernel
theorem dX5_weighAll_37 : decode cX5_weighAll 37 = .ok (.iastore, 1) := by decide +kernel
theorem dX5_weighAll_38 : decode cX5_weighAll 38 = .ok (.iload_n 1, 1) := by decide +kernel
theorem dX5_weighAll_39 : decode cX5_weighAll 39 = .ok (.aload_n 0, 1) := by decide +kernel
theorem dX5_weighAll_40 : decode cX5_weighAll 40 = .ok (.getfield 42, 3) := by decide +kernel
theorem dX5_weighAll_43 : decode cX5_weighAll 43 = .ok (.iload_n 2, 1) := by decide +kernel
theorem dX5_weighAll_44 : decode cX5_weighAll 44 = .ok (.iaload, 1) := by decide +kernel
theorem dX5_weighAll_45 : decode cX5_weighAll 45 = .ok (.iadd, 1) := by decide +kernel
theorem dX5_weighAll_46 : decode cX5_weighAll 46 = .ok (.istore_n 1, 1) := by decide +kernel
theorem dX5_weighAll_47 : decode cX5_weighAll 47 = .ok (.iinc 2 1, 3) := by decide +kernel
theorem dX5_weighAll_50 : decode cX5_weighAll 50 = .ok (.goto (-46), 3) := by decide +kernel
theorem dX5_weighAll_53 : decode cX5_weighAll 53 = .ok (.iload_n 1, 1) := by decide +kernel
theorem dX5_weighAll_54 : decode cX5_weighAll 54 = .ok (.ireturn, 1) := by decide +kernel
theorem dX5_firstAbove_0 : decode cX5_firstAbove 0 = .ok (.lconst 0, 1) := by decide +kernel
theorem dX5_firstAbove_1 : decode cX5_firstAbove 1 = .ok (.lstore_n 3, 1) := by decide +kernel
theorem dX5_firstAbove_2 : decode cX5_firstAbove 2 = .ok (.iconst 0, 1) := by decide +kernel
theorem dX5_firstAbove_3 : decode cX5_firstAbove 3 = .ok (.istore 5, 2) := by decide +kernel
theorem dX5_firstAbove_5 : decode cX5_firstAbove 5 = .ok (.iload 5, 2) := by decide +kernel
theorem dX5_firstAbove_7 : decode cX5_firstAbove 7 = .ok (.bipush 6, 2) := by decide +kernel
theorem dX5_firstAbove_9 : decode cX5_firstAbove 9 = .ok (.if_icmp .ge 29, 3) := by decide +kernel
theorem dX5_firstAbove_12 : decode cX5_firstAbove 12 = .ok (.lload_n 3, 1) := by decide +kernel
theorem dX5_firstAbove_13 : decode cX5_firstAbove 13 = .ok (.aload_n 0, 1) := by decide +kernel
theorem dX5_firstAbove_14 : decode cX5_firstAbove 14 = .ok (.getfield 42, 3) := by decide +kernel
theorem dX5_firstAbove_17 : decode cX5_firstAbove 17 = .ok (.iload 5, 2) := by decide +kernel
theorem dX5_firstAbove_19 : decode cX5_firstAbove 19 = .ok (.iaload, 1) := by decide +kernel
theorem dX5_firstAbove_20 : decode cX5_firstAbove 20 = .ok (.i2l, 1) := by decide +kernel
theorem dX5_firstAbove_21 : decode cX5_firstAbove 21 = .ok (.ladd, 1) := by decide +kernel
theorem dX5_firstAbove_22 : decode cX5_firstAbove 22 = .ok (.lstore_n 3, 1) := by decide +kernel
theorem dX5_firstAbove_23 : decode cX5_firstAbove 23 = .ok (.lload_n 3, 1) := by decide +kernel
theorem dX5_firstAbove_24 : decode cX5_firstAbove 24 = .ok (.lload_n 1, 1) := by decide +kernel
theorem dX5_firstAbove_25 : decode cX5_firstAbove 25 = .ok (.lcmp, 1) := by decide +kernel
theorem dX5_firstAbove_26 : decode cX5_firstAbove 26 = .ok (.ifCond .le 6, 3) := by decide +kernel
theorem dX5_firstAbove_29 : decode cX5_firstAbove 29 = .ok (.iload 5, 2) := by decide +kernel
theorem dX5_firstAbove_31 : decode cX5_firstAbove 31 = .ok (.ireturn, 1) := by decide +kernel
theorem dX5_firstAbove_32 : decode cX5_firstAbove 32 = .ok (.iinc 5 1, 3) := by decide +kernel
theorem dX5_firstAbove_35 : decode cX5_firstAbove 35 = .ok (.goto (-30), 3) := by decide +kernel
theorem dX5_firstAbove_38 : decode cX5_firstAbove 38 = .ok (.iconst (-1), 1) := by decide +kernel
theorem dX5_firstAbove_39 : decode cX5_firstAbove 39 = .ok (.ireturn, 1) := by decide +kernel
theorem dX5_greatestDivisor_0 : decode cX5_greatestDivisor 0 = .ok (.iload_n 0, 1) := by decide +kernel
theorem dX5_greatestDivisor_1 : decode cX5_greatestDivisor 1 = .ok (.istore_n 2, 1) := by decide +kernel
theorem dX5_greatestDivisor_2 : decode cX5_greatestDivisor 2 = .ok (.iload_n 1, 1) := by decide +kernel
theorem dX5_greatestDivisor_3 : decode cX5_greatestDivisor 3 = .ok (.istore_n 3, 1) := by decide +kernel
theorem dX5_greatestDivisor_4 : decode cX5_greatestDivisor 4 = .ok (.iconst 0, 1) := by decide +kernel
theorem dX5_greatestDivisor_5 : decode cX5_greatestDivisor 5 = .ok (.istore 4, 2) := by decide +kernel
theorem dX5_greatestDivisor_7 : decode cX5_greatestDivisor 7 = .ok (.iload 4, 2) := by decide +kernel
theorem dX5_greatestDivisor_9 : decode cX5_greatestDivisor 9 = .ok (.bipush 64, 2) := by decide +kernel
theorem dX5_greatestDivisor_11 : decode cX5_greatestDivisor 11 = .ok (.if_icmp .ge 23, 3) := by decide +kernel
theorem dX5_greatestDivisor_14 : decode cX5_greatestDivisor 14 = .ok (.iload_n 3, 1) := by decide +kernel
theorem dX5_greatestDivisor_15 : decode cX5_greatestDivisor 15 = .ok (.ifCond .eq 19, 3) := by decide +kernel
theorem dX5_greatestDivisor_18 : decode cX5_greatestDivisor 18 = .ok (.iload_n 2, 1) := by decide +kernel
theorem dX5_greatestDivisor_19 : decode cX5_greatestDivisor 19 = .ok (.iload_n 3, 1) := by decide +kernel
theorem dX5_greatestDivisor_20 : decode cX5_greatestDivisor 20 = .ok (.irem, 1) := by decide +kernel
theorem dX5_greatestDivisor_21 : decode cX5_greatestDivisor 21 = .ok (.istore 5, 2) := by decide +kernel
theorem dX5_greatestDivisor_23 : decode cX5_greatestDivisor 23 = .ok (.iload_n 3, 1) := by decide +kernel
theorem dX5_greatestDivisor_24 : decode cX5_greatestDivisor 24 = .ok (.istore_n 2, 1) := by decide +kernel
theorem dX5_greatestDivisor_25 : decode cX5_greatestDivisor 25 = .ok (.iload 5, 2) := by decide +kernel
theorem dX5_greatestDivisor_27 : decode cX5_greatestDivisor 27 = .ok (.istore_n 3, 1) := by decide +kernel
theorem dX5_greatestDivisor_28 : decode cX5_greatestDivisor 28 = .ok (.iinc 4 1, 3) := by decide +kernel
theorem dX5_greatestDivisor_31 : decode cX5_greatestDivisor 31 = .ok (.goto (-24), 3) := by decide +kernel
theorem dX5_greatestDivisor_34 : decode cX5_greatestDivisor 34 = .ok (.iload_n 2, 1) := by decide +kernel
theorem dX5_greatestDivisor_35 : decode cX5_greatestDivisor 35 = .ok (.ireturn, 1) := by decide +kernel
theorem dX5_hoursOfRound_0 : decode cX5_hoursOfRound 0 = .ok (.iconst 0, 1) := by decide +kernel
theorem dX5_hoursOfRound_1 : decode cX5_hoursOfRound 1 = .ok (.istore_n 2, 1) := by decide +kernel
theorem dX5_hoursOfRound_2 : decode cX5_hoursOfRound 2 = .ok (.iconst 5, 1) := by decide +kernel
theorem dX5_hoursOfRound_3 : decode cX5_hoursOfRound 3 = .ok (.istore_n 3, 1) := by decide +kernel
theorem dX5_hoursOfRound_4 : decode cX5_hoursOfRound 4 = .ok (.iload_n 3, 1) := by decide +kernel
theorem dX5_hoursOfRound_5 : decode cX5_hoursOfRound 5 = .ok (.bipush 22, 2) := by decide +kernel
theorem dX5_hoursOfRound_7 : decode cX5_hoursOfRound 7 = .ok (.if_icmp .gt 25, 3) := by decide +kernel
theorem dX5_hoursOfRound_10 : decode cX5_hoursOfRound 10 = .ok (.aload_n 0, 1) := by decide +kernel
theorem dX5_hoursOfRound_11 : decode cX5_hoursOfRound 11 = .ok (.getfield 10, 3) := by decide +kernel
theorem dX5_hoursOfRound_14 : decode cX5_hoursOfRound 14 = .ok (.iload_n 1, 1) := by decide +kernel
theorem dX5_hoursOfRound_15 : decode cX5_hoursOfRound 15 = .ok (.iload_n 3, 1) := by decide +kernel
theorem dX5_hoursOfRound_16 : decode cX5_hoursOfRound 16 = .ok (.invokevirtual 223, 3) := by decide +kernel
theorem dX5_hoursOfRound_19 : decode cX5_hoursOfRound 19 = .ok (.iconst (-1), 1) := by decide +kernel
theorem dX5_hoursOfRound_20 : decode cX5_hoursOfRound 20 = .ok (.if_icmp .eq 6, 3) := by decide +kernel
theorem dX5_hoursOfRound_23 : decode cX5_hoursOfRound 23 = .ok (.iinc 2 1, 3) := by decide +kernel
theorem dX5_hoursOfRound_26 : decode cX5_hoursOfRound 26 = .ok (.iinc 3 1, 3) := by decide +kernel
theorem dX5_hoursOfRound_29 : decode cX5_hoursOfRound 29 = .ok (.goto (-25), 3) := by decide +kernel
theorem dX5_hoursOfRound_32 : decode cX5_hoursOfRound 32 = .ok (.iload_n 2, 1) := by decide +kernel
theorem dX5_hoursOfRound_33 : decode cX5_hoursOfRound 33 = .ok (.ireturn, 1) := by decide +kernel
theorem dX5_athletesOfRound_0 : decode cX5_athletesOfRound 0 = .ok (.iconst 0, 1) := by decide +kernel
theorem dX5_athletesOfRound_1 : decode cX5_athletesOfRound 1 = .ok (.istore_n 2, 1) := by decide +kernel
theorem dX5_athletesOfRound_2 : decode cX5_athletesOfRound 2 = .ok (.iconst 5, 1) := by decide +kernel
theorem dX5_athletesOfRound_3 : decode cX5_athletesOfRound 3 = .ok (.istore_n 3, 1) := by decide +kernel
theorem dX5_athletesOfRound_4 : decode cX5_athletesOfRound 4 = .ok (.iload_n 3, 1) := by decide +kernel
theorem dX5_athletesOfRound_5 : decode cX5_athletesOfRound 5 = .ok (.bipush 22, 2) := by decide +kernel
theorem dX5_athletesOfRound_7 : decode cX5_athletesOfRound 7 = .ok (.if_icmp .gt 43, 3) := by decide +kernel
theorem dX5_athletesOfRound_10 : decode cX5_athletesOfRound 10 = .ok (.aload_n 0, 1) := by decide +kernel
theorem dX5_athletesOfRound_11 : decode cX5_athletesOfRound 11 = .ok (.getfield 10, 3) := by decide +kernel
theorem dX5_athletesOfRound_14 : decode cX5_athletesOfRound 14 = .ok (.iload_n 1, 1) := by decide +kernel
theorem dX5_athletesOfRound_15 : decode cX5_athletesOfRound 15 = .ok (.iload_n 3, 1) := by decide +kernel
theorem dX5_athletesOfRound_16 : decode cX5_athletesOfRound 16 = .ok (.invokevirtual 223, 3) := by decide +kernel
theorem dX5_athletesOfRound_19 : decode cX5_athletesOfRound 19 = .ok (.istore 4, 2) := by decide +kernel
theorem dX5_athletesOfRound_21 : decode cX5_athletesOfRound 21 = .ok (.iload 4, 2) := by decide +kernel
theorem dX5_athletesOfRound_23 : decode cX5_athletesOfRound 23 = .ok (.iconst (-1), 1) := by decide +kernel
theorem dX5_athletesOfRound_24 : decode cX5_athletesOfRound 24 = .ok (.if_icmp .eq 20, 3) := by decide +kernel
theorem dX5_athletesOfRound_27 : decode cX5_athletesOfRound 27 = .ok (.iload_n 2, 1) := by decide +kernel
theorem dX5_athletesOfRound_28 : decode cX5_athletesOfRound 28 = .ok (.aload_n 0, 1) := by decide +kernel
theorem dX5_athletesOfRound_29 : decode cX5_athletesOfRound 29 = .ok (.getfield 10, 3) := by decide +kernel
theorem dX5_athletesOfRound_32 : decode cX5_athletesOfRound 32 = .ok (.iload_n 1, 1) := by decide +kernel
theorem dX5_athletesOfRound_33 : decode cX5_athletesOfRound 33 = .ok (.iload_n 3, 1) := by decide +kernel
theorem dX5_athletesOfRound_34 : decode cX5_athletesOfRound 34 = .ok (.iload 4, 2) := by decide +kernel
theorem dX5_athletesOfRound_36 : decode cX5_athletesOfRound 36 = .ok (.invokevirtual 226, 3) := by decide +kernel
theorem dX5_athletesOfRound_39 : decode cX5_athletesOfRound 39 = .ok (.invokestatic 254, 3) := by decide +kernel
theorem dX5_athletesOfRound_42 : decode cX5_athletesOfRound 42 = .ok (.iadd, 1) := by decide +kernel
theorem dX5_athletesOfRound_43 : decode cX5_athletesOfRound 43 = .ok (.istore_n 2, 1) := by decide +kernel
theorem dX5_athletesOfRound_44 : decode cX5_athletesOfRound 44 = .ok (.iinc 3 1, 3) := by decide +kernel
theorem dX5_athletesOfRound_47 : decode cX5_athletesOfRound 47 = .ok (.goto (-43), 3) := by decide +kernel
theorem dX5_athletesOfRound_50 : decode cX5_athletesOfRound 50 = .ok (.iload_n 2, 1) := by decide +kernel
theorem dX5_athletesOfRound_51 : decode cX5_athletesOfRound 51 = .ok (.ireturn, 1) := by decide +kernel
theorem dX5_canBeRisk_0 : decode cX5_canBeRisk 0 = .ok (.iload_n 0, 1) := by decide +kernel
theorem dX5_canBeRisk_1 : decode cX5_canBeRisk 1 = .ok (.iconst 1, 1) := by decide +kernel
theorem dX5_canBeRisk_2 : decode cX5_canBeRisk 2 = .ok (.if_icmp .lt 13, 3) := by decide +kernel
theorem dX5_canBeRisk_5 : decode cX5_canBeRisk 5 = .ok (.iload_n 0, 1) := by decide +kernel
theorem dX5_canBeRisk_6 : decode cX5_canBeRisk 6 = .ok (.bipush 9, 2) := by decide +kernel
theorem dX5_canBeRisk_8 : decode cX5_canBeRisk 8 = .ok (.if_icmp .gt 7, 3) := by decide +kernel
theorem dX5_canBeRisk_11 : decode cX5_canBeRisk 11 = .ok (.iconst 1, 1) := by decide +kernel
theorem dX5_canBeRisk_12 : decode cX5_canBeRisk 12 = .ok (.goto 4, 3) := by decide +kernel
theorem dX5_canBeRisk_15 : decode cX5_canBeRisk 15 = .ok (.iconst 0, 1) := by decide +kernel
theorem dX5_canBeRisk_16 : decode cX5_canBeRisk 16 = .ok (.ireturn, 1) := by decide +kernel
theorem dX5_isSetting_0 : decode cX5_isSetting 0 = .ok (.iload_n 0, 1) := by decide +kernel
theorem dX5_isSetting_1 : decode cX5_isSetting 1 = .ok (.ifCond .lt 13, 3) := by decide +kernel
theorem dX5_isSetting_4 : decode cX5_isSetting 4 = .ok (.iload_n 0, 1) := by decide +kernel
theorem dX5_isSetting_5 : decode cX5_isSetting 5 = .ok (.bipush 6, 2) := by decide +kernel
theorem dX5_isSetting_7 : decode cX5_isSetting 7 = .ok (.if_icmp .ge 7, 3) := by decide +kernel
theorem dX5_isSetting_10 : decode cX5_isSetting 10 = .ok (.iconst 1, 1) := by decide +kernel
theorem dX5_isSetting_11 : decode cX5_isSetting 11 = .ok (.goto 4, 3) := by decide +kernel
theorem dX5_isSetting_14 : decode cX5_isSetting 14 = .ok (.iconst 0, 1) := by decide +kernel
theorem dX5_isSetting_15 : decode cX5_isSetting 15 = .ok (.ireturn, 1) := by decide +kernel
theorem dX5_canBeSetting_0 : decode cX5_canBeSetting 0 = .ok (.iload_n 0, 1) := by decide +kernel
theorem dX5_canBeSetting_1 : decode cX5_canBeSetting 1 = .ok (.invokestatic 257, 3) := by decide +kernel
theorem dX5_canBeSetting_4 : decode cX5_canBeSetting 4 = .ok (.ifCond .eq 25, 3) := by decide +kernel
theorem dX5_canBeSetting_7 : decode cX5_canBeSetting 7 = .ok (.iload_n 1, 1) := by decide +kernel
theorem dX5_canBeSetting_8 : decode cX5_canBeSetting 8 = .ok (.getstatic 260, 3) := by decide +kernel
theorem dX5_canBeSetting_11 : decode cX5_canBeSetting 11 = .ok (.iload_n 0, 1) := by decide +kernel
theorem dX5_canBeSetting_12 : decode cX5_canBeSetting 12 = .ok (.iaload, 1) := by decide +kernel
theorem dX5_canBeSetting_13 : decode cX5_canBeSetting 13 = .ok (.if_icmp .lt 16, 3) := by decide +kernel
theorem dX5_canBeSetting_16 : decode cX5_canBeSetting 16 = .ok (.iload_n 1, 1) := by decide +kernel
theorem dX5_canBeSetting_17 : decode cX5_canBeSetting 17 = .ok (.getstatic 263, 3) := by decide +kernel
theorem dX5_canBeSetting_20 : decode cX5_canBeSetting 20 = .ok (.iload_n 0, 1) := by decide +kernel
theorem dX5_canBeSetting_21 : decode cX5_canBeSetting 21 = .ok (.iaload, 1) := by decide +kernel
theorem dX5_canBeSetting_22 : decode cX5_canBeSetting 22 = .ok (.if_icmp .gt 7, 3) := by decide +kernel
theorem dX5_canBeSetting_25 : decode cX5_canBeSetting 25 = .ok (.iconst 1, 1) := by decide +kernel
theorem dX5_canBeSetting_26 : decode cX5_canBeSetting 26 = .ok (.goto 4, 3) := by decide +kernel
theorem dX5_canBeSetting_29 : decode cX5_canBeSetting 29 = .ok (.iconst 0, 1) := by decide +kernel
theorem dX5_canBeSetting_30 : decode cX5_canBeSetting 30 = .ok (.ireturn, 1) := by decide +kernel
theorem dX5_canBeDay_0 : decode cX5_canBeDay 0 = .ok (.iload_n 0, 1) := by decide +kernel
theorem dX5_canBeDay_1 : decode cX5_canBeDay 1 = .ok (.ifCond .lt 14, 3) := by decide +kernel
theorem dX5_canBeDay_4 : decode cX5_canBeDay 4 = .ok (.iload_n 0, 1) := by decide +kernel
theorem dX5_canBeDay_5 : decode cX5_canBeDay 5 = .ok (.sipush 999, 3) := by decide +kernel
theorem dX5_canBeDay_8 : decode cX5_canBeDay 8 = .ok (.if_icmp .gt 7, 3) := by decide +kernel
theorem dX5_canBeDay_11 : decode cX5_canBeDay 11 = .ok (.iconst 1, 1) := by decide +kernel
theorem dX5_canBeDay_12 : decode cX5_canBeDay 12 = .ok (.goto 4, 3) := by decide +kernel
theorem dX5_canBeDay_15 : decode cX5_canBeDay 15 = .ok (.iconst 0, 1) := by decide +kernel
theorem dX5_canBeDay_16 : decode cX5_canBeDay 16 = .ok (.ireturn, 1) := by decide +kernel
theorem dX5_canBeHour_0 : decode cX5_canBeHour 0 = .ok (.iload_n 0, 1) := by decide +kernel
theorem dX5_canBeHour_1 : decode cX5_canBeHour 1 = .ok (.ifCond .lt 13, 3) := by decide +kernel
theorem dX5_canBeHour_4 : decode cX5_canBeHour 4 = .ok (.iload_n 0, 1) := by decide +kernel
theorem dX5_canBeHour_5 : decode cX5_canBeHour 5 = .ok (.bipush 24, 2) := by decide +kernel
theorem dX5_canBeHour_7 : decode cX5_canBeHour 7 = .ok (.if_icmp .ge 7, 3) := by decide +kernel
theorem dX5_canBeHour_10 : decode cX5_canBeHour 10 = .ok (.iconst 1, 1) := by decide +kernel
theorem dX5_canBeHour_11 : decode cX5_canBeHour 11 = .ok (.goto 4, 3) := by decide +kernel
theorem dX5_canBeHour_14 : decode cX5_canBeHour 14 = .ok (.iconst 0, 1) := by decide +kernel
theorem dX5_canBeHour_15 : decode cX5_canBeHour 15 = .ok (.ireturn, 1) := by decide +kernel
theorem dX5_canBeFiledDay_0 : decode cX5_canBeFiledDay 0 = .ok (.iload_n 0, 1) := by decide +kernel
theorem dX5_canBeFiledDay_1 : decode cX5_canBeFiledDay 1 = .ok (.ifCond .lt 14, 3) := by decide +kernel
theorem dX5_canBeFiledDay_4 : decode cX5_canBeFiledDay 4 = .ok (.iload_n 0, 1) := by decide +kernel
theorem dX5_canBeFiledDay_5 : decode cX5_canBeFiledDay 5 = .ok (.sipush 1100, 3) := by decide +kernel
theorem dX5_canBeFiledDay_8 : decode cX5_canBeFiledDay 8 = .ok (.if_icmp .ge 7, 3) := by decide +kernel
theorem dX5_canBeFiledDay_11 : decode cX5_canBeFiledDay 11 = .ok (.iconst 1, 1) := by decide +kernel
theorem dX5_canBeFiledDay_12 : decode cX5_canBeFiledDay 12 = .ok (.goto 4, 3) := by decide +kernel
theorem dX5_canBeFiledDay_15 : decode cX5_canBeFiledDay 15 = .ok (.iconst 0, 1) := by decide +kernel
theorem dX5_canBeFiledDay_16 : decode cX5_canBeFiledDay 16 = .ok (.ireturn, 1) := by decide +kernel
theorem dX5_canBeSpan_0 : decode cX5_canBeSpan 0 = .ok (.iload_n 0, 1) := by decide +kernel
theorem dX5_canBeSpan_1 : decode cX5_canBeSpan 1 = .ok (.ifCond .lt 27, 3) := by decide +kernel
theorem dX5_canBeSpan_4 : decode cX5_canBeSpan 4 = .ok (.iload_n 1, 1) := by decide +kernel
theorem dX5_canBeSpan_5 : decode cX5_canBeSpan 5 = .ok (.iload_n 0, 1) := by decide +kernel
theorem dX5_canBeSpan_6 : decode cX5_canBeSpan 6 = .ok (.if_icmp .lt 22, 3) := by decide +kernel
theorem dX5_canBeSpan_9 : decode cX5_canBeSpan 9 = .ok (.iload_n 1, 1) := by decide +kernel
theorem dX5_canBeSpan_10 : decode cX5_canBeSpan 10 = .ok (.sipush 1100, 3) := by decide +kernel
theorem dX5_canBeSpan_13 : decode cX5_canBeSpan 13 = .ok (.if_icmp .ge 15, 3) := by decide +kernel
theorem dX5_canBeSpan_16 : decode cX5_canBeSpan 16 = .ok (.iload_n 1, 1) := by decide +kernel
theorem dX5_canBeSpan_17 : decode cX5_canBeSpan 17 = .ok (.iload_n 0, 1) := by decide +kernel
theorem dX5_canBeSpan_18 : decode cX5_canBeSpan 18 = .ok (.isub, 1) := by decide +kernel
theorem dX5_canBeSpan_19 : decode cX5_canBeSpan 19 = .ok (.bipush 60, 2) := by decide +kernel
theorem dX5_canBeSpan_21 : decode cX5_canBeSpan 21 = .ok (.if_icmp .ge 7, 3) := by decide +kernel
theorem dX5_canBeSpan_24 : decode cX5_canBeSpan 24 = .ok (.iconst 1, 1) := by decide +kernel
theorem dX5_canBeSpan_25 : decode cX5_canBeSpan 25 = .ok (.goto 4, 3) := by decide +kernel
theorem dX5_canBeSpan_28 : decode cX5_canBeSpan 28 = .ok (.iconst 0, 1) := by decide +kernel
theorem dX5_canBeSpan_29 : decode cX5_canBeSpan 29 = .ok (.ireturn, 1) := by decide +kernel
theorem dX5_canBeFiledHour_0 : decode cX5_canBeFiledHour 0 = .ok (.iload_n 0, 1) := by decide +kernel
theorem dX5_canBeFiledHour_1 : decode cX5_canBeFiledHour 1 = .ok (.iconst 5, 1) := by decide +kernel
theorem dX5_canBeFiledHour_2 : decode cX5_canBeFiledHour 2 = .ok (.if_icmp .lt 13, 3) := by decide +kernel
theorem dX5_canBeFiledHour_5 : decode cX5_canBeFiledHour 5 = .ok (.iload_n 0, 1) := by decide +kernel
theorem dX5_canBeFiledHour_6 : decode cX5_canBeFiledHour 6 = .ok (.bipush 22, 2) := by decide +kernel
theorem dX5_canBeFiledHour_8 : decode cX5_canBeFiledHour 8 = .ok (.if_icmp .gt 7, 3) := by decide +kernel
theorem dX5_canBeFiledHour_11 : decode cX5_canBeFiledHour 11 = .ok (.iconst 1, 1) := by decide +kernel
theorem dX5_canBeFiledHour_12 : decode cX5_canBeFiledHour 12 = .ok (.goto 4, 3) := by decide +kernel
theorem dX5_canBeFiledHour_15 : decode cX5_canBeFiledHour 15 = .ok (.iconst 0, 1) := by decide +kernel
theorem dX5_canBeFiledHour_16 : decode cX5_canBeFiledHour 16 = .ok (.ireturn, 1) := by decide +kernel
theorem dX5_canBePlace_0 : decode cX5_canBePlace 0 = .ok (.iload_n 0, 1) := by decide +kernel
theorem dX5_canBePlace_1 : decode cX5_canBePlace 1 = .ok (.ifCond .lt 13, 3) := by decide +kernel
theorem dX5_canBePlace_4 : decode cX5_canBePlace 4 = .ok (.iload_n 0, 1) := by decide +kernel
theorem dX5_canBePlace_5 : decode cX5_canBePlace 5 = .ok (.bipush 10, 2) := by decide +kernel
theorem dX5_canBePlace_7 : decode cX5_canBePlace 7 = .ok (.if_icmp .ge 7, 3) := by decide +kernel
theorem dX5_canBePlace_10 : decode cX5_canBePlace 10 = .ok (.iconst 1, 1) := by decide +kernel
theorem dX5_canBePlace_11 : decode cX5_canBePlace 11 = .ok (.goto 4, 3) := by decide +kernel
theorem dX5_canBePlace_14 : decode cX5_canBePlace 14 = .ok (.iconst 0, 1) := by decide +kernel
theorem dX5_canBePlace_15 : decode cX5_canBePlace 15 = .ok (.ireturn, 1) := by decide +kernel
theorem dX6_init_0 : decode cX6_init 0 = .ok (.aload_n 0, 1) := by decide +kernel
theorem dX6_init_1 : decode cX6_init 1 = .ok (.invokespecial 1, 3) := by decide +kernel
theorem dX6_init_4 : decode cX6_init 4 = .ok (.aload_n 0, 1) := by decide +kernel
theorem dX6_init_5 : decode cX6_init 5 = .ok (.sipush 7737, 3) := by decide +kernel
theorem dX6_init_8 : decode cX6_init 8 = .ok (.newarray .int, 2) := by decide +kernel
theorem dX6_init_10 : decode cX6_init 10 = .ok (.putfield 7, 3) := by decide +kernel
theorem dX6_init_13 : decode cX6_init 13 = .ok (.aload_n 0, 1) := by decide +kernel
theorem dX6_init_14 : decode cX6_init 14 = .ok (.sipush 7737, 3) := by decide +kernel
theorem dX6_init_17 : decode cX6_init 17 = .ok (.newarray .int, 2) := by decide +kernel
theorem dX6_init_19 : decode cX6_init 19 = .ok (.putfield 13, 3) := by decide +kernel
theorem dX6_init_22 : decode cX6_init 22 = .ok (.aload_n 0, 1) := by decide +kernel
theorem dX6_init_23 : decode cX6_init 23 = .ok (.bipush 6, 2) := by decide +kernel
theorem dX6_init_25 : decode cX6_init 25 = .ok (.newarray .int, 2) := by decide +kernel
theorem dX6_init_27 : decode cX6_init 27 = .ok (.dup, 1) := by decide +kernel
theorem dX6_init_28 : decode cX6_init 28 = .ok (.iconst 0, 1) := by decide +kernel
theorem dX6_init_29 : decode cX6_init 29 = .ok (.iconst 1, 1) := by decide +kernel
theorem dX6_init_30 : decode cX6_init 30 = .ok (.iastore, 1) := by decide +kernel
theorem dX6_init_31 : decode cX6_init 31 = .ok (.dup, 1) := by decide +kernel
theorem dX6_init_32 : decode cX6_init 32 = .ok (.iconst 1, 1) := by decide +kernel
theorem dX6_init_33 : decode cX6_init 33 = .ok (.iconst 2, 1) := by decide +kernel
theorem dX6_init_34 : decode cX6_init 34 = .ok (.iastore, 1) := by decide +kernel
theorem dX6_init_35 : decode cX6_init 35 = .ok (.dup, 1) := by decide +kernel
theorem dX6_init_36 : decode cX6_init 36 = .ok (.iconst 2, 1) := by decide +kernel
theorem dX6_init_37 : decode cX6_init 37 = .ok (.iconst 0, 1) := by decide +kernel
theorem dX6_init_38 : decode cX6_init 38 = .ok (.iastore, 1) := by decide +kernel
theorem dX6_init_39 : decode cX6_init 39 = .ok (.dup, 1) := by decide +kernel
theorem dX6_init_40 : decode cX6_init 40 = .ok (.iconst 3, 1) := by decide +kernel
theorem dX6_init_41 : decode cX6_init 41 = .ok (.iconst 0, 1) := by decide +kernel
theorem dX6_init_42 : decode cX6_init 42 = .ok (.iastore, 1) := by decide +kernel
theorem dX6_init_43 : decode cX6_init 43 = .ok (.dup, 1) := by decide +kernel
theorem dX6_init_44 : decode cX6_init 44 = .ok (.iconst 4, 1) := by decide +kernel
theorem dX6_init_45 : decode cX6_init 45 = .ok (.iconst 0, 1) := by decide +kernel
theorem dX6_init_46 : decode cX6_init 46 = .ok (.iastore, 1) := by decide +kernel
theorem dX6_init_47 : decode cX6_init 47 = .ok (.dup, 1) := by decide +kernel
theorem dX6_init_48 : decode cX6_init 48 = .ok (.iconst 5, 1) := by decide +kernel
theorem dX6_init_49 : decode cX6_init 49 = .ok (.iconst 1, 1) := by decide +kernel
theorem dX6_init_50 : decode cX6_init 50 = .ok (.iastore, 1) := by decide +kernel
theorem dX6_init_51 : decode cX6_init 51 = .ok (.putfield 16, 3) := by decide +kernel
theorem dX6_init_54 : decode cX6_init 54 = .ok (.aload_n 0, 1) := by decide +kernel
theorem dX6_init_55 : decode cX6_init 55 = .ok (.bipush 6, 2) := by decide +kernel
theorem dX6_init_57 : decode cX6_init 57 = .ok (.newarray .int, 2) := by decide +kernel
theorem dX6_init_59 : decode cX6_init 59 = .ok (.dup, 1) := by decide +kernel
theorem dX6_init_60 : decode cX6_init 60 = .ok (.iconst 0, 1) := by decide +kernel
theorem dX6_init_61 : decode cX6_init 61 = .ok (.sipush 400, 3) := by decide +kernel
theorem dX6_init_64 : decode cX6_init 64 = .ok (.iastore, 1) := by decide +kernel
theorem dX6_init_65 : decode cX6_init 65 = .ok (.dup, 1) := by decide +kernel
theorem dX6_init_66 : decode cX6_init 66 = .ok (.iconst 1, 1) := by decide +kernel
theorem dX6_init_67 : decode cX6_init 67 = .ok (.iconst 5, 1) := by decide +kernel
theorem dX6_init_68 : decode cX6_init 68 = .ok (.iastore, 1) := by decide +kernel
theorem dX6_init_69 : decode cX6_init 69 = .ok (.dup, 1) := by decide +kernel
theorem dX6_init_70 : decode cX6_init 70 = .ok (.iconst 2, 1) := by decide +kernel
theorem dX6_init_71 : decode cX6_init 71 = .ok (.bipush 30, 2) := by decide +kernel
theorem dX6_init_73 : decode cX6_init 73 = .ok (.iastore, 1) := by decide +kernel
theorem dX6_init_74 : decode cX6_init 74 = .ok (.dup, 1) := by decide +kernel
theorem dX6_init_75 : decode cX6_init 75 = .ok (.iconst 3, 1) := by decide +kernel
theorem dX6_init_76 : decode cX6_init 76 = .ok (.bipush 48, 2) := by decide +kernel
theorem dX6_init_78 : decode cX6_init 78 = .ok (.iastore, 1) := by decide +kernel
theorem dX6_init_79 : decode cX6_init 79 = .ok (.dup, 1) := by decide +kernel
theorem dX6_init_80 : decode cX6_init 80 = .ok (.iconst 4, 1) := by decide +kernel
theorem dX6_init_81 : decode cX6_init 81 = .ok (.bipush 9, 2) := by decide +kernel
theorem dX6_init_83 : decode cX6_init 83 = .ok (.iastore, 1) := by decide +kernel
theorem dX6_init_84 : decode cX6_init 84 = .ok (.dup, 1) := by decide +kernel
theorem dX6_init_85 : decode cX6_init 85 = .ok (.iconst 5, 1) := by decide +kernel
theorem dX6_init_86 : decode cX6_init 86 = .ok (.bipush 60, 2) := by decide +kernel
theorem dX6_init_88 : decode cX6_init 88 = .ok (.iastore, 1) := by decide +kernel
theorem dX6_init_89 : decode cX6_init 89 = .ok (.putfield 19, 3) := by decide +kernel
theorem dX6_init_92 : decode cX6_init 92 = .ok (.aload_n 0, 1) := by decide +kernel
theorem dX6_init_93 : decode cX6_init 93 = .ok (.sipush 400, 3) := by decide +kernel
theorem dX6_init_96 : decode cX6_init 96 = .ok (.newarray .int, 2) := by decide +kernel
theorem dX6_init_98 : decode cX6_init 98 = .ok (.putfield 22, 3) := by decide +kernel
theorem dX6_init_101 : decode cX6_init 101 = .ok (.aload_n 0, 1) := by decide +kernel
theorem dX6_init_102 : decode cX6_init 102 = .ok (.bipush 6, 2) := by decide +kernel
theorem dX6_init_104 : decode cX6_init 104 = .ok (.newarray .int, 2) := by decide +kernel
theorem dX6_init_106 : decode cX6_init 106 = .ok (.putfield 25, 3) := by decide +kernel
theorem dX6_init_109 : decode cX6_init 109 = .ok (.aload_n 0, 1) := by decide +kernel
theorem dX6_init_110 : decode cX6_init 110 = .ok (.bipush 61, 2) := by decide +kernel
theorem dX6_init_112 : decode cX6_init 112 = .ok (.newarray .boolean, 2) := by decide +kernel
theorem dX6_init_114 : decode cX6_init 114 = .ok (.putfield 28, 3) := by decide +kernel
theorem dX6_init_117 : decode cX6_init 117 = .ok (.aload_n 0, 1) := by decide +kernel
theorem dX6_init_118 : decode cX6_init 118 = .ok (.bipush 61, 2) := by decide +kernel
theorem dX6_init_120 : decode cX6_init 120 = .ok (.newarray .boolean, 2) := by decide +kernel
theorem dX6_init_122 : decode cX6_init 122 = .ok (.putfield 32, 3) := by decide +kernel
theorem dX6_init_125 : decode cX6_init 125 = .ok (.aload_n 0, 1) := by decide +kernel
theorem dX6_init_126 : decode cX6_init 126 = .ok (.bipush 61, 2) := by decide +kernel
theorem dX6_init_128 : decode cX6_init 128 = .ok (.newarray .int, 2) := by decide +kernel
theorem dX6_init_130 : decode cX6_init 130 = .ok (.putfield 35, 3) := by decide +kernel
theorem dX6_init_133 : decode cX6_init 133 = .ok (.aload_n 0, 1) := by decide +kernel
theorem dX6_init_134 : decode cX6_init 134 = .ok (.getfield 7, 3) := by decide +kernel
theorem dX6_init_137 : decode cX6_init 137 = .ok (.iconst 3, 1) := by decide +kernel
theorem dX6_init_138 : decode cX6_init 138 = .ok (.bipush 120, 2) := by decide +kernel
theorem dX6_init_140 : decode cX6_init 140 = .ok (.iastore, 1) := by decide +kernel
theorem dX6_init_141 : decode cX6_init 141 = .ok (.aload_n 0, 1) := by decide +kernel
theorem dX6_init_142 : decode cX6_init 142 = .ok (.getfield 7, 3) := by decide +kernel
theorem dX6_init_145 : decode cX6_init 145 = .ok (.iconst 4, 1) := by decide +kernel
theorem dX6_init_146 : decode cX6_init 146 = .ok (.iconst 3, 1) := by decide +kernel
theorem dX6_init_147 : decode cX6_init 147 = .ok (.iastore, 1) := by decide +kernel
theorem dX6_init_148 : decode cX6_init 148 = .ok (.aload_n 0, 1) := by decide +kernel
theorem dX6_init_149 : decode cX6_init 149 = .ok (.getfield 7, 3) := by decide +kernel
theorem dX6_init_152 : decode cX6_init 152 = .ok (.iconst 5, 1) := by decide +kernel
theorem dX6_init_153 : decode cX6_init 153 = .ok (.iconst 3, 1) := by decide +kernel
theorem dX6_init_154 : decode cX6_init 154 = .ok (.iastore, 1) := by decide +kernel
theorem dX6_init_155 : decode cX6_init 155 = .ok (.aload_n 0, 1) := by decide +kernel
theorem dX6_init_156 : decode cX6_init 156 = .ok (.getfield 7, 3) := by decide +kernel
theorem dX6_init_159 : decode cX6_init 159 = .ok (.bipush 6, 2) := by decide +kernel
theorem dX6_init_161 : decode cX6_init 161 = .ok (.bipush 24, 2) := by decide +kernel
theorem dX6_init_163 : decode cX6_init 163 = .ok (.iastore, 1) := by decide +kernel
theorem dX6_init_164 : decode cX6_init 164 = .ok (.aload_n 0, 1) := by decide +kernel
theorem dX6_init_165 : decode cX6_init 165 = .ok (.getfield 7, 3) := by decide +kernel
theorem dX6_init_168 : decode cX6_init 168 = .ok (.bipush 7, 2) := by decide +kernel
theorem dX6_init_170 : decode cX6_init 170 = .ok (.iconst 2, 1) := by decide +kernel
theorem dX6_init_171 : decode cX6_init 171 = .ok (.iastore, 1) := by decide +kernel
theorem dX6_init_172 : decode cX6_init 172 = .ok (.aload_n 0, 1) := by decide +kernel
theorem dX6_init_173 : decode cX6_init 173 = .ok (.getfield 7, 3) := by decide +kernel
theorem dX6_init_176 : decode cX6_init 176 = .ok (.bipush 8, 2) := by decide +kernel
theorem dX6_init_178 : decode cX6_init 178 = .ok (.bipush 14, 2) := by decide +kernel
theorem dX6_init_180 : decode cX6_init 180 = .ok (.iastore, 1) := by decide +kernel
theorem dX6_init_181 : decode cX6_init 181 = .ok (.return_, 1) := by decide +kernel
theorem dX6_thrown_0 : decode cX6_thrown 0 = .ok (.aload_n 0, 1) := by decide +kernel
theorem dX6_thrown_1 : decode cX6_thrown 1 = .ok (.getfield 38, 3) := by decide +kernel
theorem dX6_thrown_4 : decode cX6_thrown 4 = .ok (.ireturn, 1) := by decide +kernel
theorem dX6_in_0 : decode cX6_in 0 = .ok (.iload_n 0, 1) := by decide +kernel
theorem dX6_in_1 : decode cX6_in 1 = .ok (.iload_n 1, 1) := by decide +kernel
theorem dX6_in_2 : decode cX6_in 2 = .ok (.if_icmp .lt 12, 3) := by decide +kernel
theorem dX6_in_5 : decode cX6_in 5 = .ok (.iload_n 0, 1) := by decide +kernel
theorem dX6_in_6 : decode cX6_in 6 = .ok (.iload_n 2, 1) := by decide +kernel
theorem dX6_in_7 : decode cX6_in 7 = .ok (.if_icmp .gt 7, 3) := by decide +kernel
theorem dX6_in_10 : decode cX6_in 10 = .ok (.iconst 1, 1) := by decide +kernel
theorem dX6_in_11 : decode cX6_in 11 = .ok (.goto 4, 3) := by decide +kernel
theorem dX6_in_14 : decode cX6_in 14 = .ok (.iconst 0, 1) := by decide +kernel
theorem dX6_in_15 : decode cX6_in 15 = .ok (.ireturn, 1) := by decide +kernel
theorem dX6_isAthlete_0 : decode cX6_isAthlete 0 = .ok (.iload_n 1, 1) := by decide +kernel
theorem dX6_isAthlete_1 : decode cX6_isAthlete 1 = .ok (.iconst 0, 1) := by decide +kernel
theorem dX6_isAthlete_2 : decode cX6_isAthlete 2 = .ok (.aload_n 0, 1) := by decide +kernel
theorem dX6_isAthlete_3 : decode cX6_isAthlete 3 = .ok (.getfield 7, 3) := by decide +kernel
theorem dX6_isAthlete_6 : decode cX6_isAthlete 6 = .ok (.iconst 2, 1) := by decide +kernel
theorem dX6_isAthlete_7 : decode cX6_isAthlete 7 = .ok (.iaload, 1) := by decide +kernel
theorem dX6_isAthlete_8 : decode cX6_isAthlete 8 = .ok (.iconst 1, 1) := by decide +kernel
theorem dX6_isAthlete_9 : decode cX6_isAthlete 9 = .ok (.isub, 1) := by decide +kernel
theorem dX6_isAthlete_10 : decode cX6_isAthlete 10 = .ok (.invokestatic 42, 3) := by decide +kernel
theorem dX6_isAthlete_13 : decode cX6_isAthlete 13 = .ok (.ireturn, 1) := by decide +kernel
theorem dX6_cell_0 : decode cX6_cell 0 = .ok (.bipush 9, 2) := by decide +kernel
theorem dX6_cell_2 : decode cX6_cell 2 = .ok (.sipush 1288, 3) := by decide +kernel
theorem dX6_cell_5 : decode cX6_cell 5 = .ok (.iload_n 0, 1) := by decide +kernel
theorem dX6_cell_6 : decode cX6_cell 6 = .ok (.imul, 1) := by decide +kernel
theorem dX6_cell_7 : decode cX6_cell 7 = .ok (.iadd, 1) := by decide +kernel
theorem dX6_cell_8 : decode cX6_cell 8 = .ok (.iload_n 1, 1) := by decide +kernel
theorem dX6_cell_9 : decode cX6_cell 9 = .ok (.iadd, 1) := by decide +kernel
theorem dX6_cell_10 : decode cX6_cell 10 = .ok (.ireturn, 1) := by decide +kernel
theorem dX6_its_0 : decode cX6_its 0 = .ok (.aload_n 0, 1) := by decide +kernel
theorem dX6_its_1 : decode cX6_its 1 = .ok (.getfield 7, 3) := by decide +kernel
theorem dX6_its_4 : decode cX6_its 4 = .ok (.iload_n 1, 1) := by decide +kernel
theorem dX6_its_5 : decode cX6_its 5 = .ok (.iload_n 2, 1) := by decide +kernel
theorem dX6_its_6 : decode cX6_its 6 = .ok (.invokestatic 46, 3) := by decide +kernel
theorem dX6_its_9 : decode cX6_its 9 = .ok (.iaload, 1) := by decide +kernel
theorem dX6_its_10 : decode cX6_its 10 = .ok (.ireturn, 1) := by decide +kernel
theorem dX6_fails_0 : decode cX6_fails 0 = .ok (.aload_n 0, 1) := by decide +kernel
theorem dX6_fails_1 : decode cX6_fails 1 = .ok (.iload_n 1, 1) := by decide +kernel
theorem dX6_fails_2 : decode cX6_fails 2 = .ok (.bipush 7, 2) := by decide +kernel
theorem dX6_fails_4 : decode cX6_fails 4 = .ok (.invokevirtual 50, 3) := by decide +kernel
theorem dX6_fails_7 : decode cX6_fails 7 = .ok (.istore 4, 2) := by decide +kernel
theorem dX6_fails_9 : decode cX6_fails 9 = .ok (.iload 4, 2) := by decide +kernel
theorem dX6_fails_11 : decode cX6_fails 11 = .ok (.bipush 60, 2) := by decide +kernel
theorem dX6_fails_13 : decode cX6_fails 13 = .ok (.if_icmp .ne 5, 3) := by decide +kernel
theorem dX6_fails_16 : decode cX6_fails 16 = .ok (.iconst 0, 1) := by decide +kernel
theorem dX6_fails_17 : decode cX6_fails 17 = .ok (.ireturn, 1) := by decide +kernel
theorem dX6_fails_18 : decode cX6_fails 18 = .ok (.aload_n 0, 1) := by decide +kernel
theorem dX6_fails_19 : decode cX6_fails 19 = .ok (.getfield 7, 3) := by decide +kernel
theorem dX6_fails_22 : decode cX6_fails 22 = .ok (.iload_n 1, 1) := by decide +kernel
theorem dX6_fails_23 : decode cX6_fails 23 = .ok (.bipush 8, 2) := by decide +kernel
theorem dX6_fails_25 : decode cX6_fails 25 = .ok (.iconst 3, 1) := by decide +kernel
theorem dX6_fails_26 : decode cX6_fails 26 = .ok (.iload 4, 2) := by decide +kernel
theorem dX6_fails_28 : decode cX6_fails 28 = .ok (.imul, 1) := by decide +kernel
theorem dX6_fails_29 : decode cX6_fails 29 = .ok (.iadd, 1) := by decide +kernel
theorem dX6_fails_30 : decode cX6_fails 30 = .ok (.invokestatic 46, 3) := by decide +kernel
theorem dX6_fails_33 : decode cX6_fails 33 = .ok (.iload_n 2, 1) := by decide +kernel
theorem dX6_fails_34 : decode cX6_fails 34 = .ok (.iastore, 1) := by decide +kernel
theorem dX6_fails_35 : decode cX6_fails 35 = .ok (.aload_n 0, 1) := by decide +kernel
theorem dX6_fails_36 : decode cX6_fails 36 = .ok (.getfield 7, 3) := by decide +kernel
theorem dX6_fails_39 : decode cX6_fails 39 = .ok (.iload_n 1, 1) := by decide +kernel
theorem dX6_fails_40 : decode cX6_fails 40 = .ok (.bipush 8, 2) := by decide +kernel
theorem dX6_fails_42 : decode cX6_fails 42 = .ok (.iconst 3, 1) := by decide +kernel
theorem dX6_fails_43 : decode cX6_fails 43 = .ok (.iload 4, 2) := by decide +kernel
theorem dX6_fails_45 : decode cX6_fails 45 = .ok (.imul, 1) := by decide +kernel
theorem dX6_fails_46 : decode cX6_fails 46 = .ok (.iadd, 1) := by decide +kernel
theorem dX6_fails_47 : decode cX6_fails 47 = .ok (.iconst 1, 1) := by decide +kernel
theorem dX6_fails_48 : decode cX6_fails 48 = .ok (.iadd, 1) := by decide +kernel
theorem dX6_fails_49 : decode cX6_fails 49 = .ok (.invokestatic 46, 3) := by decide +kernel
theorem dX6_fails_52 : decode cX6_fails 52 = .ok (.iload_n 3, 1) := by decide +kernel
theorem dX6_fails_53 : decode cX6_fails 53 = .ok (.iastore, 1) := by decide +kernel
theorem dX6_fails_54 : decode cX6_fails 54 = .ok (.aload_n 0, 1) := by decide +kernel
theorem dX6_fails_55 : decode cX6_fails 55 = .ok (.getfield 7, 3) := by decide +kernel
theorem dX6_fails_58 : decode cX6_fails 58 = .ok (.iload_n 1, 1) := by decide +kernel
theorem dX6_fails_59 : decode cX6_fails 59 = .ok (.bipush 8, 2) := by decide +kernel
theorem dX6_fails_61 : decode cX6_fails 61 = .ok (.iconst 3, 1) := by decide +kernel
theorem dX6_fails_62 : decode cX6_fails 62 = .ok (.iload 4, 2) := by decide +kernel
theorem dX6_fails_64 : decode cX6_fails 64 = .ok (.imul, 1) := by decide +kernel
theorem dX6_fails_65 : decode cX6_fails 65 = .ok (.iadd, 1) := by decide +kernel
theorem dX6_fails_66 : decode cX6_fails 66 = .ok (.iconst 2, 1) := by decide +kernel
theorem dX6_fails_67 : decode cX6_fails 67 = .ok (.iadd, 1) := by decide +kernel
theorem dX6_fails_68 : decode cX6_fails 68 = .ok (.invokestatic 46, 3) := by decide +kernel
theorem dX6_fails_71 : decode cX6_fails 71 = .ok (.iconst 0, 1) := by decide +kernel
theorem dX6_fails_72 : decode cX6_fails 72 = .ok (.iastore, 1) := by decide +kernel
theorem dX6_fails_73 : decode cX6_fails 73 = .ok (.aload_n 0, 1) := by decide +kernel
theorem dX6_fails_74 : decode cX6_fails 74 = .ok (.getfield 7, 3) := by decide +kernel
theorem dX6_fails_77 : decode cX6_fails 77 = .ok (.iload_n 1, 1) := by decide +kernel
theorem dX6_fails_78 : decode cX6_fails 78 = .ok (.bipush 7, 2) := by decide +kernel
theorem dX6_fails_80 : decode cX6_fails 80 = .ok (.invokestatic 46, 3) := by decide +kernel
theorem dX6_fails_83 : decode cX6_fails 83 = .ok (.dup2, 1) := by decide +kernel
theorem dX6_fails_84 : decode cX6_fails 84 = .ok (.iaload, 1) := by decide +kernel
theorem dX6_fails_85 : decode cX6_fails 85 = .ok (.iconst 1, 1) := by decide +kernel
theorem dX6_fails_86 : decode cX6_fails 86 = .ok (.iadd, 1) := by decide +kernel
theorem dX6_fails_87 : decode cX6_fails 87 = .ok (.iastore, 1) := by decide +kernel
theorem dX6_fails_88 : decode cX6_fails 88 = .ok (.iconst 1, 1) := by decide +kernel
theorem dX6_fails_89 : decode cX6_fails 89 = .ok (.ireturn, 1) := by decide +kernel
theorem dX6_comes_0 : decode cX6_comes 0 = .ok (.aload_n 0, 1) := by decide +kernel
theorem dX6_comes_1 : decode cX6_comes 1 = .ok (.getfield 7, 3) := by decide +kernel
theorem dX6_comes_4 : decode cX6_comes 4 = .ok (.iconst 2, 1) := by decide +kernel
theorem dX6_comes_5 : decode cX6_comes 5 = .ok (.iaload, 1) := by decide +kernel
theorem dX6_comes_6 : decode cX6_comes 6 = .ok (.istore_n 2, 1) := by decide +kernel
theorem dX6_comes_7 : decode cX6_comes 7 = .ok (.iconst 0, 1) := by decide +kernel
theorem dX6_comes_8 : decode cX6_comes 8 = .ok (.istore_n 3, 1) := by decide +kernel
theorem dX6_comes_9 : decode cX6_comes 9 = .ok (.iload_n 3, 1) := by decide +kernel
theorem dX6_comes_10 : decode cX6_comes 10 = .ok (.sipush 1288, 3) := by decide +kernel
theorem dX6_comes_13 : decode cX6_comes 13 = .ok (.if_icmp .ge 20, 3) := by decide +kernel
theorem dX6_comes_16 : decode cX6_comes 16 = .ok (.aload_n 0, 1) := by decide +kernel
theorem dX6_comes_17 : decode cX6_comes 17 = .ok (.getfield 7, 3) := by decide +kernel
theorem dX6_comes_20 : decode cX6_comes 20 = .ok (.iload_n 2, 1) := by decide +kernel
theorem dX6_comes_21 : decode cX6_comes 21 = .ok (.iload_n 3, 1) := by decide +kernel
theorem dX6_comes_22 : decode cX6_comes 22 = .ok (.invokestatic 46, 3) := by decide +kernel
theorem dX6_comes_25 : decode cX6_comes 25 = .ok (.iconst 0, 1) := by decide +kernel
theorem dX6_comes_26 : decode cX6_comes 26 = .ok (.iastore, 1) := by decide +kernel
theorem dX6_comes_27 : decode cX6_comes 27 = .ok (.iinc 3 1, 3) := by decide +kernel
theorem dX6_comes_30 : decode cX6_comes 30 = .ok (.goto (-21), 3) := by decide +kernel
theorem dX6_comes_33 : decode cX6_comes 33 = .ok (.aload_n 0, 1) := by decide +kernel
theorem dX6_comes_34 : decode cX6_comes 34 = .ok (.getfield 7, 3) := by decide +kernel
theorem dX6_comes_37 : decode cX6_comes 37 = .ok (.iload_n 2, 1) := by decide +kernel
theorem dX6_comes_38 : decode cX6_comes 38 = .ok (.iconst 0, 1) := by decide +kernel
theorem dX6_comes_39 : decode cX6_comes 39 = .ok (.invokestatic 46, 3) := by decide +kernel
theorem dX6_comes_42 : decode cX6_comes 42 = .ok (.iload_n 1, 1) := by decide +kernel
theorem dX6_comes_43 : decode cX6_comes 43 = .ok (.iastore, 1) := by decide +kernel
theorem dX6_comes_44 : decode cX6_comes 44 = .ok (.aload_n 0, 1) := by decide +kernel
theorem dX6_comes_45 : decode cX6_comes 45 = .ok (.getfield 7, 3) := by decide +kernel
theorem dX6_comes_48 : decode cX6_comes 48 = .ok (.iload_n 2, 1) := by decide +kernel
theorem dX6_comes_49 : decode cX6_comes 49 = .ok (.iconst 1, 1) := by decide +kernel
theorem dX6_comes_50 : decode cX6_comes 50 = .ok (.invokestatic 46, 3) := by decide +kernel
theorem dX6_comes_53 : decode cX6_comes 53 = .ok (.aload_n 0, 1) := by decide +kernel
theorem dX6_comes_54 : decode cX6_comes 54 = .ok (.getfield 7, 3) := by decide +kernel
theorem dX6_comes_57 : decode cX6_comes 57 = .ok (.iconst 0, 1) := by decide +kernel
theorem dX6_comes_58 : decode cX6_comes 58 = .ok (.iaload, 1) := by decide +kernel
theorem dX6_comes_59 : decode cX6_comes 59 = .ok (.iastore, 1) := by decide +kernel
theorem dX6_comes_60 : decode cX6_comes 60 = .ok (.aload_n 0, 1) := by decide +kernel
theorem dX6_comes_61 : decode cX6_comes 61 = .ok (.getfield 7, 3) := by decide +kernel
theorem dX6_comes_64 : decode cX6_comes 64 = .ok (.iload_n 2, 1) := by decide +kernel
theorem dX6_comes_65 : decode cX6_comes 65 = .ok (.iconst 4, 1) := by decide +kernel
theorem dX6_comes_66 : decode cX6_comes 66 = .ok (.invokestatic 46, 3) := by decide +kernel
theorem dX6_comes_69 : decode cX6_comes 69 = .ok (.iconst (-1), 1) := by decide +kernel
theorem dX6_comes_70 : decode cX6_comes 70 = .ok (.iastore, 1) := by decide +kernel
theorem dX6_comes_71 : decode cX6_comes 71 = .ok (.aload_n 0, 1) := by decide +kernel
theorem dX6_comes_72 : decode cX6_comes 72 = .ok (.getfield 7, 3) := by decide +kernel
theorem dX6_comes_75 : decode cX6_comes 75 = .ok (.iload_n 2, 1) := by decide +kernel
theorem dX6_comes_76 : decode cX6_comes 76 = .ok (.bipush 6, 2) := by decide +kernel
theorem dX6_comes_78 : decode cX6_comes 78 = .ok (.invokestatic 46, 3) := by decide +kernel
theorem dX6_comes_81 : decode cX6_comes 81 = .ok (.iconst (-1), 1) := by decide +kernel
theorem dX6_comes_82 : decode cX6_comes 82 = .ok (.iastore, 1) := by decide +kernel
theorem dX6_comes_83 : decode cX6_comes 83 = .ok (.aload_n 0, 1) := by decide +kernel
theorem dX6_comes_84 : decode cX6_comes 84 = .ok (.getfield 7, 3) := by decide +kernel
theorem dX6_comes_87 : decode cX6_comes 87 = .ok (.iconst 2, 1) := by decide +kernel
theorem dX6_comes_88 : decode cX6_comes 88 = .ok (.dup2, 1) := by decide +kernel
theorem dX6_comes_89 : decode cX6_comes 89 = .ok (.iaload, 1) := by decide +kernel
theorem dX6_comes_90 : decode cX6_comes 90 = .ok (.iconst 1, 1) := by decide +kernel
theorem dX6_comes_91 : decode cX6_comes 91 = .ok (.iadd, 1) := by decide +kernel
theorem dX6_comes_92 : decode cX6_comes 92 = .ok (.iastore, 1) := by decide +kernel
theorem dX6_comes_93 : decode cX6_comes 93 = .ok (.iload_n 2, 1) := by decide +kernel
theorem dX6_comes_94 : decode cX6_comes 94 = .ok (.ireturn, 1) := by decide +kernel
theorem dX6_isBehind_0 : decode cX6_isBehind 0 = .ok (.iload_n 1, 1) := by decide +kernel
theorem dX6_isBehind_1 : decode cX6_isBehind 1 = .ok (.aload_n 0, 1) := by decide +kernel
theorem dX6_isBehind_2 : decode cX6_isBehind 2 = .ok (.getfield 7, 3) := by decide +kernel
theorem dX6_isBehind_5 : decode cX6_isBehind 5 = .ok (.iconst 0, 1) := by decide +kernel
theorem dX6_isBehind_6 : decode cX6_isBehind 6 = .ok (.iaload, 1) := by decide +kernel
theorem dX6_isBehind_7 : decode cX6_isBehind 7 = .ok (.if_icmp .gt 23, 3) := by decide +kernel
theorem dX6_isBehind_10 : decode cX6_isBehind 10 = .ok (.iload_n 1, 1) := by decide +kernel
theorem dX6_isBehind_11 : decode cX6_isBehind 11 = .ok (.aload_n 0, 1) := by decide +kernel
theorem dX6_isBehind_12 : decode cX6_isBehind 12 = .ok (.getfield 7, 3) := by decide +kernel
theorem dX6_isBehind_15 : decode cX6_isBehind 15 = .ok (.iconst 0, 1) := by decide +kernel
theorem dX6_isBehind_16 : decode cX6_isBehind 16 = .ok (.iaload, 1) := by decide +kernel
theorem dX6_isBehind_17 : decode cX6_isBehind 17 = .ok (.if_icmp .ne 17, 3) := by decide +kernel
theorem dX6_isBehind_20 : decode cX6_isBehind 20 = .ok (.iload_n 2, 1) := by decide +kernel
theorem dX6_isBehind_21 : decode cX6_isBehind 21 = .ok (.aload_n 0, 1) := by decide +kernel
theorem dX6_isBehind_22 : decode cX6_isBehind 22 = .ok (.getfield 7, 3) := by decide +kernel
theorem dX6_isBehind_25 : decode cX6_isBehind 25 = .ok (.iconst 1, 1) := by decide +kernel
theorem dX6_isBehind_26 : decode cX6_isBehind 26 = .ok (.iaload, 1) := by decide +kernel
theorem dX6_isBehind_27 : decode cX6_isBehind 27 = .ok (.if_icmp .le 7, 3) := by decide +kernel
theorem dX6_isBehind_30 : decode cX6_isBehind 30 = .ok (.iconst 1, 1) := by decide +kernel
theorem dX6_isBehind_31 : decode cX6_isBehind 31 = .ok (.goto 4, 3) := by decide +kernel
theorem dX6_isBehind_34 : decode cX6_isBehind 34 = .ok (.iconst 0, 1) := by decide +kernel
theorem dX6_isBehind_35 : decode cX6_isBehind 35 = .ok (.ireturn, 1) := by decide +kernel
theorem dX6_isFiled_0 : decode cX6_isFiled 0 = .ok (.aload_n 0, 1) := by decide +kernel
theorem dX6_isFiled_1 : decode cX6_isFiled 1 = .ok (.iload_n 1, 1) := by decide +kernel
theorem dX6_isFiled_2 : decode cX6_isFiled 2 = .ok (.sipush 188, 3) := by decide +kernel
theorem dX6_isFiled_5 : decode cX6_isFiled 5 = .ok (.iload_n 2, 1) := by decide +kernel
theorem dX6_isFiled_6 : decode cX6_isFiled 6 = .ok (.iadd, 1) := by decide +kernel
theorem dX6_isFiled_7 : decode cX6_isFiled 7 = .ok (.invokevirtual 50, 3) := by decide +kernel
theorem dX6_isFiled_10 : decode cX6_isFiled 10 = .ok (.ifCond .le 7, 3) := by decide +kernel
theorem dX6_isFiled_13 : decode cX6_isFiled 13 = .ok (.iconst 1, 1) := by decide +kernel
theorem dX6_isFiled_14 : decode cX6_isFiled 14 = .ok (.goto 4, 3) := by decide +kernel
theorem dX6_isFiled_17 : decode cX6_isFiled 17 = .ok (.iconst 0, 1) := by decide +kernel
theorem dX6_isFiled_18 : decode cX6_isFiled 18 = .ok (.ireturn, 1) := by decide +kernel
theorem dX6_holeOf_0 : decode cX6_holeOf 0 = .ok (.bipush 30, 2) := by decide +kernel
theorem dX6_holeOf_2 : decode cX6_holeOf 2 = .ok (.iload_n 2, 1) := by decide +kernel
theorem dX6_holeOf_3 : decode cX6_holeOf 3 = .ok (.imul, 1) := by decide +kernel
theorem dX6_holeOf_4 : decode cX6_holeOf 4 = .ok (.istore_n 3, 1) := by decide +kernel
theorem dX6_holeOf_5 : decode cX6_holeOf 5 = .ok (.iload_n 3, 1) := by decide +kernel
theorem dX6_holeOf_6 : decode cX6_holeOf 6 = .ok (.bipush 30, 2) := by decide +kernel
theorem dX6_holeOf_8 : decode cX6_holeOf 8 = .ok (.iload_n 2, 1) := by decide +kernel
theorem dX6_holeOf_9 : decode cX6_holeOf 9 = .ok (.imul, 1) := by decide +kernel
theorem dX6_holeOf_10 : decode cX6_holeOf 10 = .ok (.bipush 30, 2) := by decide +kernel
theorem dX6_holeOf_12 : decode cX6_holeOf 12 = .ok (.iadd, 1) := by decide +kernel
theorem dX6_holeOf_13 : decode cX6_holeOf 13 = .ok (.if_icmp .ge 20, 3) := by decide +kernel
theorem dX6_holeOf_16 : decode cX6_holeOf 16 = .ok (.aload_n 0, 1) := by decide +kernel
theorem dX6_holeOf_17 : decode cX6_holeOf 17 = .ok (.iload_n 1, 1) := by decide +kernel
theorem dX6_holeOf_18 : decode cX6_holeOf 18 = .ok (.iload_n 3, 1) := by decide +kernel
theorem dX6_holeOf_19 : decode cX6_holeOf 19 = .ok (.invokevirtual 53, 3) := by decide +kernel
theorem dX6_holeOf_22 : decode cX6_holeOf 22 = .ok (.ifCond .ne 5, 3) := by decide +kernel
theorem dX6_holeOf_25 : decode cX6_holeOf 25 = .ok (.iload_n 3, 1) := by decide +kernel
theorem dX6_holeOf_26 : decode cX6_holeOf 26 = .ok (.ireturn, 1) := by decide +kernel
theorem dX6_holeOf_27 : decode cX6_holeOf 27 = .ok (.iinc 3 1, 3) := by decide +kernel
theorem dX6_holeOf_30 : decode cX6_holeOf 30 = .ok (.goto (-25), 3) := by decide +kernel
theorem dX6_holeOf_33 : decode cX6_holeOf 33 = .ok (.iconst (-1), 1) := by decide +kernel
theorem dX6_holeOf_34 : decode cX6_holeOf 34 = .ok (.ireturn, 1) := by decide +kernel
theorem dX6_goesOn_0 : decode cX6_goesOn 0 = .ok (.iconst 0, 1) := by decide +kernel
theorem dX6_goesOn_1 : decode cX6_goesOn 1 = .ok (.istore_n 3, 1) := by decide +kernel
theorem dX6_goesOn_2 : decode cX6_goesOn 2 = .ok (.aload_n 0, 1) := by decide +kernel
theorem dX6_goesOn_3 : decode cX6_goesOn 3 = .ok (.getfield 7, 3) := by decide +kernel
theorem dX6_goesOn_6 : decode cX6_goesOn 6 = .ok (.iconst 0, 1) := by decide +kernel
theorem dX6_goesOn_7 : decode cX6_goesOn 7 = .ok (.iaload, 1) := by decide +kernel
theorem dX6_goesOn_8 : decode cX6_goesOn 8 = .ok (.bipush 30, 2) := by decide +kernel
theorem dX6_goesOn_10 : decode cX6_goesOn 10 = .ok (.idiv, 1) := by decide +kernel
theorem dX6_goesOn_11 : decode cX6_goesOn 11 = .ok (.iconst 1, 1) := by decide +kernel
theorem dX6_goesOn_12 : decode cX6_goesOn 12 = .ok (.iadd, 1) := by decide +kernel
theorem dX6_goesOn_13 : decode cX6_goesOn 13 = .ok (.istore 4, 2) := by decide +kernel
theorem dX6_goesOn_15 : decode cX6_goesOn 15 = .ok (.iload 4, 2) := by decide +kernel
theorem dX6_goesOn_17 : decode cX6_goesOn 17 = .ok (.iload_n 1, 1) := by decide +kernel
theorem dX6_goesOn_18 : decode cX6_goesOn 18 = .ok (.bipush 30, 2) := by decide +kernel
theorem dX6_goesOn_20 : decode cX6_goesOn 20 = .ok (.idiv, 1) := by decide +kernel
theorem dX6_goesOn_21 : decode cX6_goesOn 21 = .ok (.if_icmp .gt 64, 3) := by decide +kernel
theorem dX6_goesOn_24 : decode cX6_goesOn 24 = .ok (.iconst 0, 1) := by decide +kernel
theorem dX6_goesOn_25 : decode cX6_goesOn 25 = .ok (.istore 5, 2) := by decide +kernel
theorem dX6_goesOn_27 : decode cX6_goesOn 27 = .ok (.iload 5, 2) := by decide +kernel
theorem dX6_goesOn_29 : decode cX6_goesOn 29 = .ok (.aload_n 0, 1) := by decide +kernel
theorem dX6_goesOn_30 : decode cX6_goesOn 30 = .ok (.getfield 7, 3) := by decide +kernel
theorem dX6_goesOn_33 : decode cX6_goesOn 33 = .ok (.iconst 2, 1) := by decide +kernel
theorem dX6_goesOn_34 : decode cX6_goesOn 34 = .ok (.iaload, 1) := by decide +kernel
theorem dX6_goesOn_35 : decode cX6_goesOn 35 = .ok (.if_icmp .ge 44, 3) := by decide +kernel
theorem dX6_goesOn_38 : decode cX6_goesOn 38 = .ok (.iload_n 3, 1) := by decide +kernel
theorem dX6_goesOn_39 : decode cX6_goesOn 39 = .ok (.aload_n 0, 1) := by decide +kernel
theorem dX6_goesOn_40 : decode cX6_goesOn 40 = .ok (.iload 5, 2) := by decide +kernel
theorem dX6_goesOn_42 : decode cX6_goesOn 42 = .ok (.iload 4, 2) := by decide +kernel
theorem dX6_goesOn_44 : decode cX6_goesOn 44 = .ok (.invokevirtual 57, 3) := by decide +kernel
theorem dX6_goesOn_47 : decode cX6_goesOn 47 = .ok (.iconst (-1), 1) := by decide +kernel
theorem dX6_goesOn_48 : decode cX6_goesOn 48 = .ok (.if_icmp .eq 22, 3) := by decide +kernel
theorem dX6_goesOn_51 : decode cX6_goesOn 51 = .ok (.aload_n 0, 1) := by decide +kernel
theorem dX6_goesOn_52 : decode cX6_goesOn 52 = .ok (.iload 5, 2) := by decide +kernel
theorem dX6_goesOn_54 : decode cX6_goesOn 54 = .ok (.bipush 30, 2) := by decide +kernel
theorem dX6_goesOn_56 : decode cX6_goesOn 56 = .ok (.iload 4, 2) := by decide +kernel
theorem dX6_goesOn_58 : decode cX6_goesOn 58 = .ok (.imul, 1) := by decide +kernel
theorem dX6_goesOn_59 : decode cX6_goesOn 59 = .ok (.iconst 0, 1) := by decide +kernel
theorem dX6_goesOn_60 : decode cX6_goesOn 60 = .ok (.invokevirtual 60, 3) := by decide +kernel
theorem dX6_goesOn_63 : decode cX6_goesOn 63 = .ok (.ifCond .eq 7, 3) := by decide +kernel
theorem dX6_goesOn_66 : decode cX6_goesOn 66 = .ok (.iconst 1, 1) := by decide +kernel
theorem dX6_goesOn_67 : decode cX6_goesOn 67 = .ok (.goto 4, 3) := by decide +kernel
theorem dX6_goesOn_70 : decode cX6_goesOn 70 = .ok (.iconst 0, 1) := by decide +kernel
theorem dX6_goesOn_71 : decode cX6_goesOn 71 = .ok (.iadd, 1) := by decide +kernel
theorem dX6_goesOn_72 : decode cX6_goesOn 72 = .ok (.istore_n 3, 1) := by decide +kernel
theorem dX6_goesOn_73 : decode cX6_goesOn 73 = .ok (.iinc 5 1, 3) := by decide +kernel
theorem dX6_goesOn_76 : decode cX6_goesOn 76 = .ok (.goto (-49), 3) := by decide +kernel
theorem dX6_goesOn_79 : decode cX6_goesOn 79 = .ok (.iinc 4 1, 3) := by decide +kernel
theorem dX6_goesOn_82 : decode cX6_goesOn 82 = .ok (.goto (-67), 3) := by decide +kernel
theorem dX6_goesOn_85 : decode cX6_goesOn 85 = .ok (.aload_n 0, 1) := by decide +kernel
theorem dX6_goesOn_86 : decode cX6_goesOn 86 = .ok (.getfield 7, 3) := by decide +kernel
theorem dX6_goesOn_89 : decode cX6_goesOn 89 = .ok (.iconst 0, 1) := by decide +kernel
theorem dX6_goesOn_90 : decode cX6_goesOn 90 = .ok (.iload_n 1, 1) := by decide +kernel
theorem dX6_goesOn_91 : decode cX6_goesOn 91 = .ok (.iastore, 1) := by decide +kernel
theorem dX6_goesOn_92 : decode cX6_goesOn 92 = .ok (.aload_n 0, 1) := by decide +kernel
theorem dX6_goesOn_93 : decode cX6_goesOn 93 = .ok (.getfield 7, 3) := by decide +kernel
theorem dX6_goesOn_96 : decode cX6_goesOn 96 = .ok (.iconst 1, 1) := by decide +kernel
theorem dX6_goesOn_97 : decode cX6_goesOn 97 = .ok (.iload_n 2, 1) := by decide +kernel
theorem dX6_goesOn_98 : decode cX6_goesOn 98 = .ok (.iastore, 1) := by decide +kernel
theorem dX6_goesOn_99 : decode cX6_goesOn 99 = .ok (.iload_n 3, 1) := by decide +kernel
theorem dX6_goesOn_100 : decode cX6_goesOn 100 = .ok (.ireturn, 1) := by decide +kernel
theorem dX6_hourOf_0 : decode cX6_hourOf 0 = .ok (.aload_n 0, 1) := by decide +kernel
theorem dX6_hourOf_1 : decode cX6_hourOf 1 = .ok (.iload_n 1, 1) := by decide +kernel
theorem dX6_hourOf_2 : decode cX6_hourOf 2 = .ok (.sipush 188, 3) := by decide +kernel
theorem dX6_hourOf_5 : decode cX6_hourOf 5 = .ok (.iload_n 2, 1) := by decide +kernel
theorem dX6_hourOf_6 : decode cX6_hourOf 6 = .ok (.iadd, 1) := by decide +kernel
theorem dX6_hourOf_7 : decode cX6_hourOf 7 = .ok (.invokevirtual 50, 3) := by decide +kernel
theorem dX6_hourOf_10 : decode cX6_hourOf 10 = .ok (.iconst 1, 1) := by decide +kernel
theorem dX6_hourOf_11 : decode cX6_hourOf 11 = .ok (.isub, 1) := by decide +kernel
theorem dX6_hourOf_12 : decode cX6_hourOf 12 = .ok (.bipush 10, 2) := by decide +kernel
theorem dX6_hourOf_14 : decode cX6_hourOf 14 = .ok (.idiv, 1) := by decide +kernel
theorem dX6_hourOf_15 : decode cX6_hourOf 15 = .ok (.ireturn, 1) := by decide +kernel
theorem dX6_placeOf_0 : decode cX6_placeOf 0 = .ok (.aload_n 0, 1) := by decide +kernel
theorem dX6_placeOf_1 : decode cX6_placeOf 1 = .ok (.iload_n 1, 1) := by decide +kernel
theorem dX6_placeOf_2 : decode cX6_placeOf 2 = .ok (.sipush 188, 3) := by decide +kernel
theorem dX6_placeOf_5 : decode cX6_placeOf 5 = .ok (.iload_n 2, 1) := by decide +kernel
theorem dX6_placeOf_6 : decode cX6_placeOf 6 = .ok (.iadd, 1) := by decide +kernel
theorem dX6_placeOf_7 : decode cX6_placeOf 7 = .ok (.invokevirtual 50, 3) := by decide +kernel
theorem dX6_placeOf_10 : decode cX6_placeOf 10 = .ok (.iconst 1, 1) := by decide +kernel
theorem dX6_placeOf_11 : decode cX6_placeOf 11 = .ok (.isub, 1) := by decide +kernel
theorem dX6_placeOf_12 : decode cX6_placeOf 12 = .ok (.bipush 10, 2) := by decide +kernel
theorem dX6_placeOf_14 : decode cX6_placeOf 14 = .ok (.irem, 1) := by decide +kernel
theorem dX6_placeOf_15 : decode cX6_placeOf 15 = .ok (.ireturn, 1) := by decide +kernel
theorem dX6_mayFile_0 : decode cX6_mayFile 0 = .ok (.iload_n 2, 1) := by decide +kernel
theorem dX6_mayFile_1 : decode cX6_mayFile 1 = .ok (.aload_n 0, 1) := by decide +kernel
theorem dX6_mayFile_2 : decode cX6_mayFile 2 = .ok (.getfield 7, 3) := by decide +kernel
theorem dX6_mayFile_5 : decode cX6_mayFile 5 = .ok (.iconst 0, 1) := by decide +kernel
theorem dX6_mayFile_6 : decode cX6_mayFile 6 = .ok (.iaload, 1) := by decide +kernel
theorem dX6_mayFile_7 : decode cX6_mayFile 7 = .ok (.if_icmp .eq 19, 3) := by decide +kernel
theorem dX6_mayFile_10 : decode cX6_mayFile 10 = .ok (.iload_n 2, 1) := by decide +kernel
theorem dX6_mayFile_11 : decode cX6_mayFile 11 = .ok (.aload_n 0, 1) := by decide +kernel
theorem dX6_mayFile_12 : decode cX6_mayFile 12 = .ok (.getfield 7, 3) := by decide +kernel
theorem dX6_mayFile_15 : decode cX6_mayFile 15 = .ok (.iconst 0, 1) := by decide +kernel
theorem dX6_mayFile_16 : decode cX6_mayFile 16 = .ok (.iaload, 1) := by decide +kernel
theorem dX6_mayFile_17 : decode cX6_mayFile 17 = .ok (.if_icmp .le 7, 3) := by decide +kernel
theorem dX6_mayFile_20 : decode cX6_mayFile 20 = .ok (.iconst 1, 1) := by decide +kernel
theorem dX6_mayFile_21 : decode cX6_mayFile 21 = .ok (.goto 4, 3) := by decide +kernel
theorem dX6_mayFile_24 : decode cX6_mayFile 24 = .ok (.iconst 0, 1) := by decide +kernel
theorem dX6_mayFile_25 : decode cX6_mayFile 25 = .ok (.ireturn, 1) := by decide +kernel
theorem dX6_mayFile_26 : decode cX6_mayFile 26 = .ok (.iload_n 3, 1) := by decide +kernel
theorem dX6_mayFile_27 : decode cX6_mayFile 27 = .ok (.aload_n 0, 1) := by decide +kernel
theorem dX6_mayFile_28 : decode cX6_mayFile 28 = .ok (.getfield 7, 3) := by decide +kernel
theorem dX6_mayFile_31 : decode cX6_mayFile 31 = .ok (.iconst 1, 1) := by decide +kernel
theorem dX6_mayFile_32 : decode cX6_mayFile 32 = .ok (.iaload, 1) := by decide +kernel
theorem dX6_mayFile_33 : decode cX6_mayFile 33 = .ok (.if_icmp .le 31, 3) := by decide +kernel
theorem dX6_mayFile_36 : decode cX6_mayFile 36 = .ok (.aload_n 0, 1) := by decide +kernel
theorem dX6_mayFile_37 : decode cX6_mayFile 37 = .ok (.iload_n 1, 1) := by decide +kernel
theorem dX6_mayFile_38 : decode cX6_mayFile 38 = .ok (.iload_n 2, 1) := by decide +kernel
theorem dX6_mayFile_39 : decode cX6_mayFile 39 = .ok (.invokevirtual 53, 3) := by decide +kernel
theorem dX6_mayFile_42 : decode cX6_mayFile 42 = .ok (.ifCond .eq 18, 3) := by decide +kernel
theorem dX6_mayFile_45 : decode cX6_mayFile 45 = .ok (.aload_n 0, 1) := by decide +kernel
theorem dX6_mayFile_46 : decode cX6_mayFile 46 = .ok (.iload_n 1, 1) := by decide +kernel
theorem dX6_mayFile_47 : decode cX6_mayFile 47 = .ok (.iload_n 2, 1) := by decide +kernel
theorem dX6_mayFile_48 : decode cX6_mayFile 48 = .ok (.invokevirtual 63, 3) := by decide +kernel
theorem dX6_mayFile_51 : decode cX6_mayFile 51 = .ok (.aload_n 0, 1) := by decide +kernel
theorem dX6_mayFile_52 : decode cX6_mayFile 52 = .ok (.getfield 7, 3) := by decide +kernel
theorem dX6_mayFile_55 : decode cX6_mayFile 55 = .ok (.iconst 1, 1) := by decide +kernel
theorem dX6_mayFile_56 : decode cX6_mayFile 56 = .ok (.iaload, 1) := by decide +kernel
theorem dX6_mayFile_57 : decode cX6_mayFile 57 = .ok (.if_icmp .le 7, 3) := by decide +kernel
theorem dX6_mayFile_60 : decode cX6_mayFile 60 = .ok (.iconst 1, 1) := by decide +kernel
theorem dX6_mayFile_61 : decode cX6_mayFile 61 = .ok (.goto 4, 3) := by decide +kernel
theorem dX6_mayFile_64 : decode cX6_mayFile 64 = .ok (.iconst 0, 1) := by decide +kernel
theorem dX6_mayFile_65 : decode cX6_mayFile 65 = .ok (.ireturn, 1) := by decide +kernel
theorem dX6_isLate_0 : decode cX6_isLate 0 = .ok (.aload_n 0, 1) := by decide +kernel
theorem dX6_isLate_1 : decode cX6_isLate 1 = .ok (.getfield 7, 3) := by decide +kernel
theorem dX6_isLate_4 : decode cX6_isLate 4 = .ok (.iconst 0, 1) := by decide +kernel
theorem dX6_isLate_5 : decode cX6_isLate 5 = .ok (.iaload, 1) := by decide +kernel
theorem dX6_isLate_6 : decode cX6_isLate 6 = .ok (.bipush 30, 2) := by decide +kernel
theorem dX6_isLate_8 : decode cX6_isLate 8 = .ok (.idiv, 1) := by decide +kernel
theorem dX6_isLate_9 : decode cX6_isLate 9 = .ok (.istore_n 2, 1) := by decide +kernel
theorem dX6_isLate_10 : decode cX6_isLate 10 = .ok (.aload_n 0, 1) := by decide +kernel
theorem dX6_isLate_11 : decode cX6_isLate 11 = .ok (.iload_n 1, 1) := by decide +kernel
theorem dX6_isLate_12 : decode cX6_isLate 12 = .ok (.bipush 6, 2) := by decide +kernel
theorem dX6_isLate_14 : decode cX6_isLate 14 = .ok (.invokevirtual 50, 3) := by decide +kernel
theorem dX6_isLate_17 : decode cX6_isLate 17 = .ok (.iload_n 2, 1) := by decide +kernel
theorem dX6_isLate_18 : decode cX6_isLate 18 = .ok (.if_icmp .eq 26, 3) := by decide +kernel
theorem dX6_isLate_21 : decode cX6_isLate 21 = .ok (.aload_n 0, 1) := by decide +kernel
theorem dX6_isLate_22 : decode cX6_isLate 22 = .ok (.getfield 7, 3) := by decide +kernel
theorem dX6_isLate_25 : decode cX6_isLate 25 = .ok (.iload_n 1, 1) := by decide +kernel
theorem dX6_isLate_26 : decode cX6_isLate 26 = .ok (.bipush 6, 2) := by decide +kernel
theorem dX6_isLate_28 : decode cX6_isLate 28 = .ok (.invokestatic 46, 3) := by decide +kernel
theorem dX6_isLate_31 : decode cX6_isLate 31 = .ok (.iload_n 2, 1) := by decide +kernel
theorem dX6_isLate_32 : decode cX6_isLate 32 = .ok (.iastore, 1) := by decide +kernel
theorem dX6_isLate_33 : decode cX6_isLate 33 = .ok (.aload_n 0, 1) := by decide +kernel
theorem dX6_isLate_34 : decode cX6_isLate 34 = .ok (.getfield 7, 3) := by decide +kernel
theorem dX6_isLate_37 : decode cX6_isLate 37 = .ok (.iload_n 1, 1) := by decide +kernel
theorem dX6_isLate_38 : decode cX6_isLate 38 = .ok (.iconst 5, 1) := by decide +kernel
theorem dX6_isLate_39 : decode cX6_isLate 39 = .ok (.invokestatic 46, 3) := by decide +kernel
theorem dX6_isLate_42 : decode cX6_isLate 42 = .ok (.iconst 0, 1) := by decide +kernel
theorem dX6_isLate_43 : decode cX6_isLate 43 = .ok (.iastore, 1) := by decide +kernel
theorem dX6_isLate_44 : decode cX6_isLate 44 = .ok (.aload_n 0, 1) := by decide +kernel
theorem dX6_isLate_45 : decode cX6_isLate 45 = .ok (.getfield 7, 3) := by decide +kernel
theorem dX6_isLate_48 : decode cX6_isLate 48 = .ok (.iload_n 1, 1) := by decide +kernel
theorem dX6_isLate_49 : decode cX6_isLate 49 = .ok (.iconst 5, 1) := by decide +kernel
theorem dX6_isLate_50 : decode cX6_isLate 50 = .ok (.invokestatic 46, 3) := by decide +kernel
theorem dX6_isLate_53 : decode cX6_isLate 53 = .ok (.dup2, 1) := by decide +kernel
theorem dX6_isLate_54 : decode cX6_isLate 54 = .ok (.iaload, 1) := by decide +kernel
theorem dX6_isLate_55 : decode cX6_isLate 55 = .ok (.iconst 1, 1) := by decide +kernel
theorem dX6_isLate_56 : decode cX6_isLate 56 = .ok (.iadd, 1) := by decide +kernel
theorem dX6_isLate_57 : decode cX6_isLate 57 = .ok (.iastore, 1) := by decide +kernel
theorem dX6_isLate_58 : decode cX6_isLate 58 = .ok (.aload_n 0, 1) := by decide +kernel
theorem dX6_isLate_59 : decode cX6_isLate 59 = .ok (.iload_n 1, 1) := by decide +kernel
theorem dX6_isLate_60 : decode cX6_isLate 60 = .ok (.iconst 5, 1) := by decide +kernel
theorem dX6_isLate_61 : decode cX6_isLate 61 = .ok (.invokevirtual 50, 3) := by decide +kernel
theorem dX6_isLate_64 : decode cX6_isLate 64 = .ok (.aload_n 0, 1) := by decide +kernel
theorem dX6_isLate_65 : decode cX6_isLate 65 = .ok (.getfield 7, 3) := by decide +kernel
theorem dX6_isLate_68 : decode cX6_isLate 68 = .ok (.bipush 7, 2) := by decide +kernel
theorem dX6_isLate_70 : decode cX6_isLate 70 = .ok (.iaload, 1) := by decide +kernel
theorem dX6_isLate_71 : decode cX6_isLate 71 = .ok (.if_icmp .le 16, 3) := by decide +kernel
theorem dX6_isLate_74 : decode cX6_isLate 74 = .ok (.aload_n 0, 1) := by decide +kernel
theorem dX6_isLate_75 : decode cX6_isLate 75 = .ok (.iload_n 1, 1) := by decide +kernel
theorem dX6_isLate_76 : decode cX6_isLate 76 = .ok (.aload_n 0, 1) := by decide +kernel
theorem dX6_isLate_77 : decode cX6_isLate 77 = .ok (.getfield 7, 3) := by decide +kernel
theorem dX6_isLate_80 : decode cX6_isLate 80 = .ok (.iconst 0, 1) := by decide +kernel
theorem dX6_isLate_81 : decode cX6_isLate 81 = .ok (.iaload, 1) := by decide +kernel
theorem dX6_isLate_82 : decode cX6_isLate 82 = .ok (.iconst 1, 1) := by decide +kernel
theorem dX6_isLate_83 : decode cX6_isLate 83 = .ok (.invokevirtual 60, 3) := by decide +kernel
theorem dX6_isLate_86 : decode cX6_isLate 86 = .ok (.pop, 1) := by decide +kernel
theorem dX6_isLate_87 : decode cX6_isLate 87 = .ok (.return_, 1) := by decide +kernel
theorem dX6_files_0 : decode cX6_files 0 = .ok (.iconst 0, 1) := by decide +kernel
theorem dX6_files_1 : decode cX6_files 1 = .ok (.istore 6, 2) := by decide +kernel
theorem dX6_files_3 : decode cX6_files 3 = .ok (.bipush 10, 2) := by decide +kernel
theorem dX6_files_5 : decode cX6_files 5 = .ok (.iload 4, 2) := by decide +kernel
theorem dX6_files_7 : decode cX6_files 7 = .ok (.imul, 1) := by decide +kernel
theorem dX6_files_8 : decode cX6_files 8 = .ok (.iload 5, 2) := by decide +kernel
theorem dX6_files_10 : decode cX6_files 10 = .ok (.iadd, 1) := by decide +kernel
theorem dX6_files_11 : decode cX6_files 11 = .ok (.iconst 1, 1) := by decide +kernel
theorem dX6_files_12 : decode cX6_files 12 = .ok (.iadd, 1) := by decide +kernel
theorem dX6_files_13 : decode cX6_files 13 = .ok (.istore 7, 2) := by decide +kernel
theorem dX6_files_15 : decode cX6_files 15 = .ok (.iload_n 2, 1) := by decide +kernel
theorem dX6_files_16 : decode cX6_files 16 = .ok (.istore 8, 2) := by decide +kernel
theorem dX6_files_18 : decode cX6_files 18 = .ok (.iload 8, 2) := by decide +kernel
theorem dX6_files_20 : decode cX6_files 20 = .ok (.iload_n 3, 1) := by decide +kernel
theorem dX6_files_21 : decode cX6_files 21 = .ok (.if_icmp .gt 117, 3) := by decide +kernel
theorem dX6_files_24 : decode cX6_files 24 = .ok (.aload_n 0, 1) := by decide +kernel
theorem dX6_files_25 : decode cX6_files 25 = .ok (.iload_n 1, 1) := by decide +kernel
theorem dX6_files_26 : decode cX6_files 26 = .ok (.iload 8, 2) := by decide +kernel
theorem dX6_files_28 : decode cX6_files 28 = .ok (.invokevirtual 53, 3) := by decide +kernel
theorem dX6_files_31 : decode cX6_files 31 = .ok (.ifCond .eq 84, 3) := by decide +kernel
theorem dX6_files_34 : decode cX6_files 34 = .ok (.aload_n 0, 1) := by decide +kernel
theorem dX6_files_35 : decode cX6_files 35 = .ok (.iload_n 1, 1) := by decide +kernel
theorem dX6_files_36 : decode cX6_files 36 = .ok (.sipush 188, 3) := by decide +kernel
theorem dX6_files_39 : decode cX6_files 39 = .ok (.iload 8, 2) := by decide +kernel
theorem dX6_files_41 : decode cX6_files 41 = .ok (.iadd, 1) := by decide +kernel
theorem dX6_files_42 : decode cX6_files 42 = .ok (.invokevirtual 50, 3) := by decide +kernel
theorem dX6_files_45 : decode cX6_files 45 = .ok (.iload 7, 2) := by decide +kernel
theorem dX6_files_47 : decode cX6_files 47 = .ok (.if_icmp .eq 68, 3) := by decide +kernel
theorem dX6_files_50 : decode cX6_files 50 = .ok (.iinc 6 1, 3) := by decide +kernel
theorem dX6_files_53 : decode cX6_files 53 = .ok (.aload_n 0, 1) := by decide +kernel
theorem dX6_files_54 : decode cX6_files 54 = .ok (.iload_n 1, 1) := by decide +kernel
theorem dX6_files_55 : decode cX6_files 55 = .ok (.iload 8, 2) := by decide +kernel
theorem dX6_files_57 : decode cX6_files 57 = .ok (.invokevirtual 63, 3) := by decide +kernel
theorem dX6_files_60 : decode cX6_files 60 = .ok (.istore 9, 2) := by decide +kernel
theorem dX6_files_62 : decode cX6_files 62 = .ok (.iload 9, 2) := by decide +kernel
theorem dX6_files_64 : decode cX6_files 64 = .ok (.iload 4, 2) := by decide +kernel
theorem dX6_files_66 : decode cX6_files 66 = .ok (.if_icmp .ge 8, 3) := by decide +kernel
theorem dX6_files_69 : decode cX6_files 69 = .ok (.iload 9, 2) := by decide +kernel
theorem dX6_files_71 : decode cX6_files 71 = .ok (.goto 5, 3) := by decide +kernel
theorem dX6_files_74 : decode cX6_files 74 = .ok (.iload 4, 2) := by decide +kernel
theorem dX6_files_76 : decode cX6_files 76 = .ok (.istore 10, 2) := by decide +kernel
theorem dX6_files_78 : decode cX6_files 78 = .ok (.bipush 24, 2) := by decide +kernel
theorem dX6_files_80 : decode cX6_files 80 = .ok (.iload 8, 2) := by decide +kernel
theorem dX6_files_82 : decode cX6_files 82 = .ok (.aload_n 0, 1) := by decide +kernel
theorem dX6_files_83 : decode cX6_files 83 = .ok (.getfield 7, 3) := by decide +kernel
theorem dX6_files_86 : decode cX6_files 86 = .ok (.iconst 0, 1) := by decide +kernel
theorem dX6_files_87 : decode cX6_files 87 = .ok (.iaload, 1) := by decide +kernel
theorem dX6_files_88 : decode cX6_files 88 = .ok (.isub, 1) := by decide +kernel
theorem dX6_files_89 : decode cX6_files 89 = .ok (.imul, 1) := by decide +kernel
theorem dX6_files_90 : decode cX6_files 90 = .ok (.iload 10, 2) := by decide +kernel
theorem dX6_files_92 : decode cX6_files 92 = .ok (.iadd, 1) := by decide +kernel
theorem dX6_files_93 : decode cX6_files 93 = .ok (.aload_n 0, 1) := by decide +kernel
theorem dX6_files_94 : decode cX6_files 94 = .ok (.getfield 7, 3) := by decide +kernel
theorem dX6_files_97 : decode cX6_files 97 = .ok (.iconst 1, 1) := by decide +kernel
theorem dX6_files_98 : decode cX6_files 98 = .ok (.iaload, 1) := by decide +kernel
theorem dX6_files_99 : decode cX6_files 99 = .ok (.isub, 1) := by decide +kernel
theorem dX6_files_100 : decode cX6_files 100 = .ok (.aload_n 0, 1) := by decide +kernel
theorem dX6_files_101 : decode cX6_files 101 = .ok (.getfield 7, 3) := by decide +kernel
theorem dX6_files_104 : decode cX6_files 104 = .ok (.bipush 6, 2) := by decide +kernel
theorem dX6_files_106 : decode cX6_files 106 = .ok (.iaload, 1) := by decide +kernel
theorem dX6_files_107 : decode cX6_files 107 = .ok (.if_icmp .ge 8, 3) := by decide +kernel
theorem dX6_files_110 : decode cX6_files 110 = .ok (.aload_n 0, 1) := by decide +kernel
theorem dX6_files_111 : decode cX6_files 111 = .ok (.iload_n 1, 1) := by decide +kernel
theorem dX6_files_112 : decode cX6_files 112 = .ok (.invokevirtual 66, 3) := by decide +kernel
theorem dX6_files_115 : decode cX6_files 115 = .ok (.aload_n 0, 1) := by decide +kernel
theorem dX6_files_116 : decode cX6_files 116 = .ok (.getfield 7, 3) := by decide +kernel
theorem dX6_files_119 : decode cX6_files 119 = .ok (.iload_n 1, 1) := by decide +kernel
theorem dX6_files_120 : decode cX6_files 120 = .ok (.sipush 188, 3) := by decide +kernel
theorem dX6_files_123 : decode cX6_files 123 = .ok (.iload 8, 2) := by decide +kernel
theorem dX6_files_125 : decode cX6_files 125 = .ok (.iadd, 1) := by decide +kernel
theorem dX6_files_126 : decode cX6_files 126 = .ok (.invokestatic 46, 3) := by decide +kernel
theorem dX6_files_129 : decode cX6_files 129 = .ok (.iload 7, 2) := by decide +kernel
theorem dX6_files_131 : decode cX6_files 131 = .ok (.iastore, 1) := by decide +kernel
theorem dX6_files_132 : decode cX6_files 132 = .ok (.iinc 8 1, 3) := by decide +kernel
theorem dX6_files_135 : decode cX6_files 135 = .ok (.goto (-117), 3) := by decide +kernel
theorem dX6_files_138 : decode cX6_files 138 = .ok (.iload 6, 2) := by decide +kernel
theorem dX6_files_140 : decode cX6_files 140 = .ok (.ireturn, 1) := by decide +kernel
theorem dX6_tests_0 : decode cX6_tests 0 = .ok (.aload_n 0, 1) := by decide +kernel
theorem dX6_tests_1 : decode cX6_tests 1 = .ok (.iload_n 1, 1) := by decide +kernel
theorem dX6_tests_2 : decode cX6_tests 2 = .ok (.aload_n 0, 1) := by decide +kernel
theorem dX6_tests_3 : decode cX6_tests 3 = .ok (.getfield 7, 3) := by decide +kernel
theorem dX6_tests_6 : decode cX6_tests 6 = .ok (.iconst 0, 1) := by decide +kernel
theorem dX6_tests_7 : decode cX6_tests 7 = .ok (.iaload, 1) := by decide +kernel
theorem dX6_tests_8 : decode cX6_tests 8 = .ok (.invokevirtual 53, 3) := by decide +kernel
theorem dX6_tests_11 : decode cX6_tests 11 = .ok (.ifCond .eq 42, 3) := by decide +kernel
theorem dX6_tests_14 : decode cX6_tests 14 = .ok (.aload_n 0, 1) := by decide +kernel
theorem dX6_tests_15 : decode cX6_tests 15 = .ok (.iload_n 1, 1) := by decide +kernel
theorem dX6_tests_16 : decode cX6_tests 16 = .ok (.aload_n 0, 1) := by decide +kernel
theorem dX6_tests_17 : decode cX6_tests 17 = .ok (.getfield 7, 3) := by decide +kernel
theorem dX6_tests_20 : decode cX6_tests 20 = .ok (.iconst 0, 1) := by decide +kernel
theorem dX6_tests_21 : decode cX6_tests 21 = .ok (.iaload, 1) := by decide +kernel
theorem dX6_tests_22 : decode cX6_tests 22 = .ok (.invokevirtual 70, 3) := by decide +kernel
theorem dX6_tests_25 : decode cX6_tests 25 = .ok (.iload_n 2, 1) := by decide +kernel
theorem dX6_tests_26 : decode cX6_tests 26 = .ok (.if_icmp .ne 27, 3) := by decide +kernel
theorem dX6_tests_29 : decode cX6_tests 29 = .ok (.aload_n 0, 1) := by decide +kernel
theorem dX6_tests_30 : decode cX6_tests 30 = .ok (.iload_n 1, 1) := by decide +kernel
theorem dX6_tests_31 : decode cX6_tests 31 = .ok (.aload_n 0, 1) := by decide +kernel
theorem dX6_tests_32 : decode cX6_tests 32 = .ok (.getfield 7, 3) := by decide +kernel
theorem dX6_tests_35 : decode cX6_tests 35 = .ok (.iconst 0, 1) := by decide +kernel
theorem dX6_tests_36 : decode cX6_tests 36 = .ok (.iaload, 1) := by decide +kernel
theorem dX6_tests_37 : decode cX6_tests 37 = .ok (.invokevirtual 63, 3) := by decide +kernel
theorem dX6_tests_40 : decode cX6_tests 40 = .ok (.aload_n 0, 1) := by decide +kernel
theorem dX6_tests_41 : decode cX6_tests 41 = .ok (.getfield 7, 3) := by decide +kernel
theorem dX6_tests_44 : decode cX6_tests 44 = .ok (.iconst 1, 1) := by decide +kernel
theorem dX6_tests_45 : decode cX6_tests 45 = .ok (.iaload, 1) := by decide +kernel
theorem dX6_tests_46 : decode cX6_tests 46 = .ok (.if_icmp .ne 7, 3) := by decide +kernel
theorem dX6_tests_49 : decode cX6_tests 49 = .ok (.iconst 1, 1) := by decide +kernel
theorem dX6_tests_50 : decode cX6_tests 50 = .ok (.goto 4, 3) := by decide +kernel
theorem dX6_tests_53 : decode cX6_tests 53 = .ok (.iconst 0, 1) := by decide +kernel
theorem dX6_tests_54 : decode cX6_tests 54 = .ok (.istore 4, 2) := by decide +kernel
theorem dX6_tests_56 : decode cX6_tests 56 = .ok (.aload_n 0, 1) := by decide +kernel
theorem dX6_tests_57 : decode cX6_tests 57 = .ok (.getfield 7, 3) := by decide +kernel
theorem dX6_tests_60 : decode cX6_tests 60 = .ok (.iload_n 1, 1) := by decide +kernel
theorem dX6_tests_61 : decode cX6_tests 61 = .ok (.iconst 2, 1) := by decide +kernel
theorem dX6_tests_62 : decode cX6_tests 62 = .ok (.invokestatic 46, 3) := by decide +kernel
theorem dX6_tests_65 : decode cX6_tests 65 = .ok (.dup2, 1) := by decide +kernel
theorem dX6_tests_66 : decode cX6_tests 66 = .ok (.iaload, 1) := by decide +kernel
theorem dX6_tests_67 : decode cX6_tests 67 = .ok (.iconst 1, 1) := by decide +kernel
theorem dX6_tests_68 : decode cX6_tests 68 = .ok (.iadd, 1) := by decide +kernel
theorem dX6_tests_69 : decode cX6_tests 69 = .ok (.iastore, 1) := by decide +kernel
theorem dX6_tests_70 : decode cX6_tests 70 = .ok (.aload_n 0, 1) := by decide +kernel
theorem dX6_tests_71 : decode cX6_tests 71 = .ok (.getfield 7, 3) := by decide +kernel
theorem dX6_tests_74 : decode cX6_tests 74 = .ok (.iload_n 1, 1) := by decide +kernel
theorem dX6_tests_75 : decode cX6_tests 75 = .ok (.iconst 4, 1) := by decide +kernel
theorem dX6_tests_76 : decode cX6_tests 76 = .ok (.invokestatic 46, 3) := by decide +kernel
theorem dX6_tests_79 : decode cX6_tests 79 = .ok (.aload_n 0, 1) := by decide +kernel
theorem dX6_tests_80 : decode cX6_tests 80 = .ok (.getfield 7, 3) := by decide +kernel
theorem dX6_tests_83 : decode cX6_tests 83 = .ok (.iconst 0, 1) := by decide +kernel
theorem dX6_tests_84 : decode cX6_tests 84 = .ok (.iaload, 1) := by decide +kernel
theorem dX6_tests_85 : decode cX6_tests 85 = .ok (.iastore, 1) := by decide +kernel
theorem dX6_tests_86 : decode cX6_tests 86 = .ok (.iload_n 3, 1) := by decide +kernel
theorem dX6_tests_87 : decode cX6_tests 87 = .ok (.ifCond .eq 5, 3) := by decide +kernel
theorem dX6_tests_90 : decode cX6_tests 90 = .ok (.iconst 0, 1) := by decide +kernel
theorem dX6_tests_91 : decode cX6_tests 91 = .ok (.ireturn, 1) := by decide +kernel
theorem dX6_tests_92 : decode cX6_tests 92 = .ok (.iload 4, 2) := by decide +kernel
theorem dX6_tests_94 : decode cX6_tests 94 = .ok (.ifCond .ne 5, 3) := by decide +kernel
theorem dX6_tests_97 : decode cX6_tests 97 = .ok (.iconst 2, 1) := by decide +kernel
theorem dX6_tests_98 : decode cX6_tests 98 = .ok (.ireturn, 1) := by decide +kernel
theorem dX6_tests_99 : decode cX6_tests 99 = .ok (.aload_n 0, 1) := by decide +kernel
theorem dX6_tests_100 : decode cX6_tests 100 = .ok (.getfield 7, 3) := by decide +kernel
theorem dX6_tests_103 : decode cX6_tests 103 = .ok (.iload_n 1, 1) := by decide +kernel
theorem dX6_tests_104 : decode cX6_tests 104 = .ok (.iconst 3, 1) := by decide +kernel
theorem dX6_tests_105 : decode cX6_tests 105 = .ok (.invokestatic 46, 3) := by decide +kernel
theorem dX6_tests_108 : decode cX6_tests 108 = .ok (.dup2, 1) := by decide +kernel
theorem dX6_tests_109 : decode cX6_tests 109 = .ok (.iaload, 1) := by decide +kernel
theorem dX6_tests_110 : decode cX6_tests 110 = .ok (.iconst 1, 1) := by decide +kernel
theorem dX6_tests_111 : decode cX6_tests 111 = .ok (.iadd, 1) := by decide +kernel
theorem dX6_tests_112 : decode cX6_tests 112 = .ok (.iastore, 1) := by decide +kernel
theorem dX6_tests_113 : decode cX6_tests 113 = .ok (.aload_n 0, 1) := by decide +kernel
theorem dX6_tests_114 : decode cX6_tests 114 = .ok (.iload_n 1, 1) := by decide +kernel
theorem dX6_tests_115 : decode cX6_tests 115 = .ok (.aload_n 0, 1) := by decide +kernel
theorem dX6_tests_116 : decode cX6_tests 116 = .ok (.getfield 7, 3) := by decide +kernel
theorem dX6_tests_119 : decode cX6_tests 119 = .ok (.iconst 0, 1) := by decide +kernel
theorem dX6_tests_120 : decode cX6_tests 120 = .ok (.iaload, 1) := by decide +kernel
theorem dX6_tests_121 : decode cX6_tests 121 = .ok (.iconst 2, 1) := by decide +kernel
theorem dX6_tests_122 : decode cX6_tests 122 = .ok (.invokevirtual 60, 3) := by decide +kernel
theorem dX6_tests_125 : decode cX6_tests 125 = .ok (.pop, 1) := by decide +kernel
theorem dX6_tests_126 : decode cX6_tests 126 = .ok (.iconst 1, 1) := by decide +kernel
theorem dX6_tests_127 : decode cX6_tests 127 = .ok (.ireturn, 1) := by decide +kernel
theorem dX6_isFailure_0 : decode cX6_isFailure 0 = .ok (.aload_n 0, 1) := by decide +kernel
theorem dX6_isFailure_1 : decode cX6_isFailure 1 = .ok (.iload_n 1, 1) := by decide +kernel
theorem dX6_isFailure_2 : decode cX6_isFailure 2 = .ok (.invokevirtual 73, 3) := by decide +kernel
theorem dX6_isFailure_5 : decode cX6_isFailure 5 = .ok (.ifCond .eq 24, 3) := by decide +kernel
theorem dX6_isFailure_8 : decode cX6_isFailure 8 = .ok (.iload_n 2, 1) := by decide +kernel
theorem dX6_isFailure_9 : decode cX6_isFailure 9 = .ok (.iconst 0, 1) := by decide +kernel
theorem dX6_isFailure_10 : decode cX6_isFailure 10 = .ok (.aload_n 0, 1) := by decide +kernel
theorem dX6_isFailure_11 : decode cX6_isFailure 11 = .ok (.iload_n 1, 1) := by decide +kernel
theorem dX6_isFailure_12 : decode cX6_isFailure 12 = .ok (.bipush 7, 2) := by decide +kernel
theorem dX6_isFailure_14 : decode cX6_isFailure 14 = .ok (.invokevirtual 50, 3) := by decide +kernel
theorem dX6_isFailure_17 : decode cX6_isFailure 17 = .ok (.iconst 1, 1) := by decide +kernel
theorem dX6_isFailure_18 : decode cX6_isFailure 18 = .ok (.isub, 1) := by decide +kernel
theorem dX6_isFailure_19 : decode cX6_isFailure 19 = .ok (.invokestatic 42, 3) := by decide +kernel
theorem dX6_isFailure_22 : decode cX6_isFailure 22 = .ok (.ifCond .eq 7, 3) := by decide +kernel
theorem dX6_isFailure_25 : decode cX6_isFailure 25 = .ok (.iconst 1, 1) := by decide +kernel
theorem dX6_isFailure_26 : decode cX6_isFailure 26 = .ok (.goto 4, 3) := by decide +kernel
theorem dX6_isFailure_29 : decode cX6_isFailure 29 = .ok (.iconst 0, 1) := by decide +kernel
theorem dX6_isFailure_30 : decode cX6_isFailure 30 = .ok (.ireturn, 1) := by decide +kernel
theorem dX6_strikes_0 : decode cX6_strikes 0 = .ok (.aload_n 0, 1) := by decide +kernel
theorem dX6_strikes_1 : decode cX6_strikes 1 = .ok (.getfield 7, 3) := by decide +kernel
theorem dX6_strikes_4 : decode cX6_strikes 4 = .ok (.iload_n 1, 1) := by decide +kernel
theorem dX6_strikes_5 : decode cX6_strikes 5 = .ok (.bipush 8, 2) := by decide +kernel
theorem dX6_strikes_7 : decode cX6_strikes 7 = .ok (.iconst 3, 1) := by decide +kernel
theorem dX6_strikes_8 : decode cX6_strikes 8 = .ok (.iload_n 2, 1) := by decide +kernel
theorem dX6_strikes_9 : decode cX6_strikes 9 = .ok (.imul, 1) := by decide +kernel
theorem dX6_strikes_10 : decode cX6_strikes 10 = .ok (.iadd, 1) := by decide +kernel
theorem dX6_strikes_11 : decode cX6_strikes 11 = .ok (.iconst 2, 1) := by decide +kernel
theorem dX6_strikes_12 : decode cX6_strikes 12 = .ok (.iadd, 1) := by decide +kernel
theorem dX6_strikes_13 : decode cX6_strikes 13 = .ok (.invokestatic 46, 3) := by decide +kernel
theorem dX6_strikes_16 : decode cX6_strikes 16 = .ok (.iaload, 1) := by decide +kernel
theorem dX6_strikes_17 : decode cX6_strikes 17 = .ok (.iconst 1, 1) := by decide +kernel
theorem dX6_strikes_18 : decode cX6_strikes 18 = .ok (.if_icmp .eq 35, 3) := by decide +kernel
theorem dX6_strikes_21 : decode cX6_strikes 21 = .ok (.aload_n 0, 1) := by decide +kernel
theorem dX6_strikes_22 : decode cX6_strikes 22 = .ok (.getfield 7, 3) := by decide +kernel
theorem dX6_strikes_25 : decode cX6_strikes 25 = .ok (.iconst 0, 1) := by decide +kernel
theorem dX6_strikes_26 : decode cX6_strikes 26 = .ok (.iaload, 1) := by decide +kernel
theorem dX6_strikes_27 : decode cX6_strikes 27 = .ok (.aload_n 0, 1) := by decide +kernel
theorem dX6_strikes_28 : decode cX6_strikes 28 = .ok (.getfield 7, 3) := by decide +kernel
theorem dX6_strikes_31 : decode cX6_strikes 31 = .ok (.iload_n 1, 1) := by decide +kernel
theorem dX6_strikes_32 : decode cX6_strikes 32 = .ok (.bipush 8, 2) := by decide +kernel
theorem dX6_strikes_34 : decode cX6_strikes 34 = .ok (.iconst 3, 1) := by decide +kernel
theorem dX6_strikes_35 : decode cX6_strikes 35 = .ok (.iload_n 2, 1) := by decide +kernel
theorem dX6_strikes_36 : decode cX6_strikes 36 = .ok (.imul, 1) := by decide +kernel
theorem dX6_strikes_37 : decode cX6_strikes 37 = .ok (.iadd, 1) := by decide +kernel
theorem dX6_strikes_38 : decode cX6_strikes 38 = .ok (.invokestatic 46, 3) := by decide +kernel
theorem dX6_strikes_41 : decode cX6_strikes 41 = .ok (.iaload, 1) := by decide +kernel
theorem dX6_strikes_42 : decode cX6_strikes 42 = .ok (.aload_n 0, 1) := by decide +kernel
theorem dX6_strikes_43 : decode cX6_strikes 43 = .ok (.getfield 7, 3) := by decide +kernel
theorem dX6_strikes_46 : decode cX6_strikes 46 = .ok (.bipush 8, 2) := by decide +kernel
theorem dX6_strikes_48 : decode cX6_strikes 48 = .ok (.iaload, 1) := by decide +kernel
theorem dX6_strikes_49 : decode cX6_strikes 49 = .ok (.iadd, 1) := by decide +kernel
end
section
theorem dX6_strikes_50 : decode cX6_strikes 50 = .ok (.if_icmp .le 5, 3) := by decide +kernel
theorem dX6_strikes_53 : decode cX6_strikes 53 = .ok (.iconst 0, 1) := by decide +kernel
theorem dX6_strikes_54 : decode cX6_strikes 54 = .ok (.ireturn, 1) := by decide +kernel
theorem dX6_strikes_55 : decode cX6_strikes 55 = .ok (.aload_n 0, 1) := by decide +kernel
theorem dX6_strikes_56 : decode cX6_strikes 56 = .ok (.getfield 7, 3) := by decide +kernel
theorem dX6_strikes_59 : decode cX6_strikes 59 = .ok (.iload_n 1, 1) := by decide +kernel
theorem dX6_strikes_60 : decode cX6_strikes 60 = .ok (.bipush 8, 2) := by decide +kernel
theorem dX6_strikes_62 : decode cX6_strikes 62 = .ok (.iconst 3, 1) := by decide +kernel
theorem dX6_strikes_63 : decode cX6_strikes 63 = .ok (.iload_n 2, 1) := by decide +kernel
theorem dX6_strikes_64 : decode cX6_strikes 64 = .ok (.imul, 1) := by decide +kernel
theorem dX6_strikes_65 : decode cX6_strikes 65 = .ok (.iadd, 1) := by decide +kernel
theorem dX6_strikes_66 : decode cX6_strikes 66 = .ok (.iconst 2, 1) := by decide +kernel
theorem dX6_strikes_67 : decode cX6_strikes 67 = .ok (.iadd, 1) := by decide +kernel
theorem dX6_strikes_68 : decode cX6_strikes 68 = .ok (.invokestatic 46, 3) := by decide +kernel
theorem dX6_strikes_71 : decode cX6_strikes 71 = .ok (.iconst 1, 1) := by decide +kernel
theorem dX6_strikes_72 : decode cX6_strikes 72 = .ok (.iastore, 1) := by decide +kernel
theorem dX6_strikes_73 : decode cX6_strikes 73 = .ok (.iconst 1, 1) := by decide +kernel
theorem dX6_strikes_74 : decode cX6_strikes 74 = .ok (.ireturn, 1) := by decide +kernel
theorem dX6_athlete_0 : decode cX6_athlete 0 = .ok (.aload_n 0, 1) := by decide +kernel
theorem dX6_athlete_1 : decode cX6_athlete 1 = .ok (.iconst 0, 1) := by decide +kernel
theorem dX6_athlete_2 : decode cX6_athlete 2 = .ok (.putfield 38, 3) := by decide +kernel
theorem dX6_athlete_5 : decode cX6_athlete 5 = .ok (.iload_n 1, 1) := by decide +kernel
theorem dX6_athlete_6 : decode cX6_athlete 6 = .ok (.iconst 1, 1) := by decide +kernel
theorem dX6_athlete_7 : decode cX6_athlete 7 = .ok (.bipush 9, 2) := by decide +kernel
theorem dX6_athlete_9 : decode cX6_athlete 9 = .ok (.invokestatic 42, 3) := by decide +kernel
theorem dX6_athlete_12 : decode cX6_athlete 12 = .ok (.ifCond .ne 7, 3) := by decide +kernel
theorem dX6_athlete_15 : decode cX6_athlete 15 = .ok (.iconst (-1), 1) := by decide +kernel
theorem dX6_athlete_16 : decode cX6_athlete 16 = .ok (.goto 24, 3) := by decide +kernel
theorem dX6_athlete_19 : decode cX6_athlete 19 = .ok (.aload_n 0, 1) := by decide +kernel
theorem dX6_athlete_20 : decode cX6_athlete 20 = .ok (.getfield 7, 3) := by decide +kernel
theorem dX6_athlete_23 : decode cX6_athlete 23 = .ok (.iconst 2, 1) := by decide +kernel
theorem dX6_athlete_24 : decode cX6_athlete 24 = .ok (.iaload, 1) := by decide +kernel
theorem dX6_athlete_25 : decode cX6_athlete 25 = .ok (.bipush 6, 2) := by decide +kernel
theorem dX6_athlete_27 : decode cX6_athlete 27 = .ok (.if_icmp .ne 8, 3) := by decide +kernel
theorem dX6_athlete_30 : decode cX6_athlete 30 = .ok (.bipush (-2), 2) := by decide +kernel
theorem dX6_athlete_32 : decode cX6_athlete 32 = .ok (.goto 8, 3) := by decide +kernel
theorem dX6_athlete_35 : decode cX6_athlete 35 = .ok (.aload_n 0, 1) := by decide +kernel
theorem dX6_athlete_36 : decode cX6_athlete 36 = .ok (.iload_n 1, 1) := by decide +kernel
theorem dX6_athlete_37 : decode cX6_athlete 37 = .ok (.invokevirtual 77, 3) := by decide +kernel
theorem dX6_athlete_40 : decode cX6_athlete 40 = .ok (.ireturn, 1) := by decide +kernel
theorem dX6_set_0 : decode cX6_set 0 = .ok (.aload_n 0, 1) := by decide +kernel
theorem dX6_set_1 : decode cX6_set 1 = .ok (.iconst 0, 1) := by decide +kernel
theorem dX6_set_2 : decode cX6_set 2 = .ok (.putfield 38, 3) := by decide +kernel
theorem dX6_set_5 : decode cX6_set 5 = .ok (.iload_n 1, 1) := by decide +kernel
theorem dX6_set_6 : decode cX6_set 6 = .ok (.iconst 0, 1) := by decide +kernel
theorem dX6_set_7 : decode cX6_set 7 = .ok (.iconst 5, 1) := by decide +kernel
theorem dX6_set_8 : decode cX6_set 8 = .ok (.invokestatic 42, 3) := by decide +kernel
theorem dX6_set_11 : decode cX6_set 11 = .ok (.ifCond .eq 34, 3) := by decide +kernel
theorem dX6_set_14 : decode cX6_set 14 = .ok (.iload_n 2, 1) := by decide +kernel
theorem dX6_set_15 : decode cX6_set 15 = .ok (.aload_n 0, 1) := by decide +kernel
theorem dX6_set_16 : decode cX6_set 16 = .ok (.getfield 16, 3) := by decide +kernel
theorem dX6_set_19 : decode cX6_set 19 = .ok (.iload_n 1, 1) := by decide +kernel
theorem dX6_set_20 : decode cX6_set 20 = .ok (.iaload, 1) := by decide +kernel
theorem dX6_set_21 : decode cX6_set 21 = .ok (.aload_n 0, 1) := by decide +kernel
theorem dX6_set_22 : decode cX6_set 22 = .ok (.getfield 19, 3) := by decide +kernel
theorem dX6_set_25 : decode cX6_set 25 = .ok (.iload_n 1, 1) := by decide +kernel
theorem dX6_set_26 : decode cX6_set 26 = .ok (.iaload, 1) := by decide +kernel
theorem dX6_set_27 : decode cX6_set 27 = .ok (.invokestatic 42, 3) := by decide +kernel
theorem dX6_set_30 : decode cX6_set 30 = .ok (.ifCond .eq 15, 3) := by decide +kernel
theorem dX6_set_33 : decode cX6_set 33 = .ok (.aload_n 0, 1) := by decide +kernel
theorem dX6_set_34 : decode cX6_set 34 = .ok (.getfield 7, 3) := by decide +kernel
theorem dX6_set_37 : decode cX6_set 37 = .ok (.iconst 3, 1) := by decide +kernel
theorem dX6_set_38 : decode cX6_set 38 = .ok (.iload_n 1, 1) := by decide +kernel
theorem dX6_set_39 : decode cX6_set 39 = .ok (.iadd, 1) := by decide +kernel
theorem dX6_set_40 : decode cX6_set 40 = .ok (.iaload, 1) := by decide +kernel
theorem dX6_set_41 : decode cX6_set 41 = .ok (.iload_n 2, 1) := by decide +kernel
theorem dX6_set_42 : decode cX6_set 42 = .ok (.if_icmp .ne 5, 3) := by decide +kernel
theorem dX6_set_45 : decode cX6_set 45 = .ok (.iconst 0, 1) := by decide +kernel
theorem dX6_set_46 : decode cX6_set 46 = .ok (.ireturn, 1) := by decide +kernel
theorem dX6_set_47 : decode cX6_set 47 = .ok (.aload_n 0, 1) := by decide +kernel
theorem dX6_set_48 : decode cX6_set 48 = .ok (.getfield 7, 3) := by decide +kernel
theorem dX6_set_51 : decode cX6_set 51 = .ok (.iconst 3, 1) := by decide +kernel
theorem dX6_set_52 : decode cX6_set 52 = .ok (.iload_n 1, 1) := by decide +kernel
theorem dX6_set_53 : decode cX6_set 53 = .ok (.iadd, 1) := by decide +kernel
theorem dX6_set_54 : decode cX6_set 54 = .ok (.iload_n 2, 1) := by decide +kernel
theorem dX6_set_55 : decode cX6_set 55 = .ok (.iastore, 1) := by decide +kernel
theorem dX6_set_56 : decode cX6_set 56 = .ok (.iconst 1, 1) := by decide +kernel
theorem dX6_set_57 : decode cX6_set 57 = .ok (.ireturn, 1) := by decide +kernel
theorem dX6_at_0 : decode cX6_at 0 = .ok (.aload_n 0, 1) := by decide +kernel
theorem dX6_at_1 : decode cX6_at 1 = .ok (.iconst 0, 1) := by decide +kernel
theorem dX6_at_2 : decode cX6_at 2 = .ok (.putfield 38, 3) := by decide +kernel
theorem dX6_at_5 : decode cX6_at 5 = .ok (.iload_n 1, 1) := by decide +kernel
theorem dX6_at_6 : decode cX6_at 6 = .ok (.iconst 0, 1) := by decide +kernel
theorem dX6_at_7 : decode cX6_at 7 = .ok (.sipush 999, 3) := by decide +kernel
theorem dX6_at_10 : decode cX6_at 10 = .ok (.invokestatic 42, 3) := by decide +kernel
theorem dX6_at_13 : decode cX6_at 13 = .ok (.ifCond .eq 31, 3) := by decide +kernel
theorem dX6_at_16 : decode cX6_at 16 = .ok (.iload_n 2, 1) := by decide +kernel
theorem dX6_at_17 : decode cX6_at 17 = .ok (.iconst 0, 1) := by decide +kernel
theorem dX6_at_18 : decode cX6_at 18 = .ok (.bipush 23, 2) := by decide +kernel
theorem dX6_at_20 : decode cX6_at 20 = .ok (.invokestatic 42, 3) := by decide +kernel
theorem dX6_at_23 : decode cX6_at 23 = .ok (.ifCond .eq 21, 3) := by decide +kernel
theorem dX6_at_26 : decode cX6_at 26 = .ok (.aload_n 0, 1) := by decide +kernel
theorem dX6_at_27 : decode cX6_at 27 = .ok (.iload_n 1, 1) := by decide +kernel
theorem dX6_at_28 : decode cX6_at 28 = .ok (.iload_n 2, 1) := by decide +kernel
theorem dX6_at_29 : decode cX6_at 29 = .ok (.invokevirtual 81, 3) := by decide +kernel
theorem dX6_at_32 : decode cX6_at 32 = .ok (.ifCond .eq 12, 3) := by decide +kernel
theorem dX6_at_35 : decode cX6_at 35 = .ok (.aload_n 0, 1) := by decide +kernel
theorem dX6_at_36 : decode cX6_at 36 = .ok (.iload_n 1, 1) := by decide +kernel
theorem dX6_at_37 : decode cX6_at 37 = .ok (.iload_n 2, 1) := by decide +kernel
theorem dX6_at_38 : decode cX6_at 38 = .ok (.invokevirtual 84, 3) := by decide +kernel
theorem dX6_at_41 : decode cX6_at 41 = .ok (.goto 4, 3) := by decide +kernel
theorem dX6_at_44 : decode cX6_at 44 = .ok (.iconst (-1), 1) := by decide +kernel
theorem dX6_at_45 : decode cX6_at 45 = .ok (.ireturn, 1) := by decide +kernel
theorem dX6_canFile_0 : decode cX6_canFile 0 = .ok (.iload_n 0, 1) := by decide +kernel
theorem dX6_canFile_1 : decode cX6_canFile 1 = .ok (.ifCond .lt 47, 3) := by decide +kernel
theorem dX6_canFile_4 : decode cX6_canFile 4 = .ok (.iload_n 1, 1) := by decide +kernel
theorem dX6_canFile_5 : decode cX6_canFile 5 = .ok (.sipush 1100, 3) := by decide +kernel
theorem dX6_canFile_8 : decode cX6_canFile 8 = .ok (.if_icmp .ge 40, 3) := by decide +kernel
theorem dX6_canFile_11 : decode cX6_canFile 11 = .ok (.iload_n 1, 1) := by decide +kernel
theorem dX6_canFile_12 : decode cX6_canFile 12 = .ok (.iload_n 0, 1) := by decide +kernel
theorem dX6_canFile_13 : decode cX6_canFile 13 = .ok (.if_icmp .lt 35, 3) := by decide +kernel
theorem dX6_canFile_16 : decode cX6_canFile 16 = .ok (.iload_n 1, 1) := by decide +kernel
theorem dX6_canFile_17 : decode cX6_canFile 17 = .ok (.iload_n 0, 1) := by decide +kernel
theorem dX6_canFile_18 : decode cX6_canFile 18 = .ok (.isub, 1) := by decide +kernel
theorem dX6_canFile_19 : decode cX6_canFile 19 = .ok (.bipush 60, 2) := by decide +kernel
theorem dX6_canFile_21 : decode cX6_canFile 21 = .ok (.if_icmp .ge 27, 3) := by decide +kernel
theorem dX6_canFile_24 : decode cX6_canFile 24 = .ok (.iload_n 2, 1) := by decide +kernel
theorem dX6_canFile_25 : decode cX6_canFile 25 = .ok (.iconst 5, 1) := by decide +kernel
theorem dX6_canFile_26 : decode cX6_canFile 26 = .ok (.bipush 22, 2) := by decide +kernel
theorem dX6_canFile_28 : decode cX6_canFile 28 = .ok (.invokestatic 42, 3) := by decide +kernel
theorem dX6_canFile_31 : decode cX6_canFile 31 = .ok (.ifCond .eq 17, 3) := by decide +kernel
theorem dX6_canFile_34 : decode cX6_canFile 34 = .ok (.iload_n 3, 1) := by decide +kernel
theorem dX6_canFile_35 : decode cX6_canFile 35 = .ok (.iconst 0, 1) := by decide +kernel
theorem dX6_canFile_36 : decode cX6_canFile 36 = .ok (.bipush 9, 2) := by decide +kernel
theorem dX6_canFile_38 : decode cX6_canFile 38 = .ok (.invokestatic 42, 3) := by decide +kernel
theorem dX6_canFile_41 : decode cX6_canFile 41 = .ok (.ifCond .eq 7, 3) := by decide +kernel
theorem dX6_canFile_44 : decode cX6_canFile 44 = .ok (.iconst 1, 1) := by decide +kernel
theorem dX6_canFile_45 : decode cX6_canFile 45 = .ok (.goto 4, 3) := by decide +kernel
theorem dX6_canFile_48 : decode cX6_canFile 48 = .ok (.iconst 0, 1) := by decide +kernel
theorem dX6_canFile_49 : decode cX6_canFile 49 = .ok (.ireturn, 1) := by decide +kernel
theorem dX6_file_0 : decode cX6_file 0 = .ok (.aload_n 0, 1) := by decide +kernel
theorem dX6_file_1 : decode cX6_file 1 = .ok (.iconst 0, 1) := by decide +kernel
theorem dX6_file_2 : decode cX6_file 2 = .ok (.putfield 38, 3) := by decide +kernel
theorem dX6_file_5 : decode cX6_file 5 = .ok (.aload_n 0, 1) := by decide +kernel
theorem dX6_file_6 : decode cX6_file 6 = .ok (.iload_n 1, 1) := by decide +kernel
theorem dX6_file_7 : decode cX6_file 7 = .ok (.invokevirtual 73, 3) := by decide +kernel
theorem dX6_file_10 : decode cX6_file 10 = .ok (.ifCond .eq 40, 3) := by decide +kernel
theorem dX6_file_13 : decode cX6_file 13 = .ok (.iload_n 2, 1) := by decide +kernel
theorem dX6_file_14 : decode cX6_file 14 = .ok (.iload_n 3, 1) := by decide +kernel
theorem dX6_file_15 : decode cX6_file 15 = .ok (.iload 4, 2) := by decide +kernel
theorem dX6_file_17 : decode cX6_file 17 = .ok (.iload 5, 2) := by decide +kernel
theorem dX6_file_19 : decode cX6_file 19 = .ok (.invokestatic 87, 3) := by decide +kernel
theorem dX6_file_22 : decode cX6_file 22 = .ok (.ifCond .eq 28, 3) := by decide +kernel
theorem dX6_file_25 : decode cX6_file 25 = .ok (.aload_n 0, 1) := by decide +kernel
theorem dX6_file_26 : decode cX6_file 26 = .ok (.iload_n 1, 1) := by decide +kernel
theorem dX6_file_27 : decode cX6_file 27 = .ok (.iload_n 2, 1) := by decide +kernel
theorem dX6_file_28 : decode cX6_file 28 = .ok (.iload 4, 2) := by decide +kernel
theorem dX6_file_30 : decode cX6_file 30 = .ok (.invokevirtual 91, 3) := by decide +kernel
theorem dX6_file_33 : decode cX6_file 33 = .ok (.ifCond .eq 17, 3) := by decide +kernel
theorem dX6_file_36 : decode cX6_file 36 = .ok (.aload_n 0, 1) := by decide +kernel
theorem dX6_file_37 : decode cX6_file 37 = .ok (.iload_n 1, 1) := by decide +kernel
theorem dX6_file_38 : decode cX6_file 38 = .ok (.iload_n 2, 1) := by decide +kernel
theorem dX6_file_39 : decode cX6_file 39 = .ok (.iload_n 3, 1) := by decide +kernel
theorem dX6_file_40 : decode cX6_file 40 = .ok (.iload 4, 2) := by decide +kernel
theorem dX6_file_42 : decode cX6_file 42 = .ok (.iload 5, 2) := by decide +kernel
theorem dX6_file_44 : decode cX6_file 44 = .ok (.invokevirtual 94, 3) := by decide +kernel
theorem dX6_file_47 : decode cX6_file 47 = .ok (.goto 4, 3) := by decide +kernel
theorem dX6_file_50 : decode cX6_file 50 = .ok (.iconst (-1), 1) := by decide +kernel
theorem dX6_file_51 : decode cX6_file 51 = .ok (.ireturn, 1) := by decide +kernel
theorem dX6_test_0 : decode cX6_test 0 = .ok (.aload_n 0, 1) := by decide +kernel
theorem dX6_test_1 : decode cX6_test 1 = .ok (.iconst 0, 1) := by decide +kernel
theorem dX6_test_2 : decode cX6_test 2 = .ok (.putfield 38, 3) := by decide +kernel
theorem dX6_test_5 : decode cX6_test 5 = .ok (.aload_n 0, 1) := by decide +kernel
theorem dX6_test_6 : decode cX6_test 6 = .ok (.iload_n 1, 1) := by decide +kernel
theorem dX6_test_7 : decode cX6_test 7 = .ok (.invokevirtual 73, 3) := by decide +kernel
theorem dX6_test_10 : decode cX6_test 10 = .ok (.ifCond .eq 23, 3) := by decide +kernel
theorem dX6_test_13 : decode cX6_test 13 = .ok (.iload_n 2, 1) := by decide +kernel
theorem dX6_test_14 : decode cX6_test 14 = .ok (.iconst 0, 1) := by decide +kernel
theorem dX6_test_15 : decode cX6_test 15 = .ok (.bipush 9, 2) := by decide +kernel
theorem dX6_test_17 : decode cX6_test 17 = .ok (.invokestatic 42, 3) := by decide +kernel
theorem dX6_test_20 : decode cX6_test 20 = .ok (.ifCond .eq 13, 3) := by decide +kernel
theorem dX6_test_23 : decode cX6_test 23 = .ok (.aload_n 0, 1) := by decide +kernel
theorem dX6_test_24 : decode cX6_test 24 = .ok (.iload_n 1, 1) := by decide +kernel
theorem dX6_test_25 : decode cX6_test 25 = .ok (.iload_n 2, 1) := by decide +kernel
theorem dX6_test_26 : decode cX6_test 26 = .ok (.iload_n 3, 1) := by decide +kernel
theorem dX6_test_27 : decode cX6_test 27 = .ok (.invokevirtual 98, 3) := by decide +kernel
theorem dX6_test_30 : decode cX6_test 30 = .ok (.goto 4, 3) := by decide +kernel
theorem dX6_test_33 : decode cX6_test 33 = .ok (.iconst (-1), 1) := by decide +kernel
theorem dX6_test_34 : decode cX6_test 34 = .ok (.ireturn, 1) := by decide +kernel
theorem dX6_appeal_0 : decode cX6_appeal 0 = .ok (.aload_n 0, 1) := by decide +kernel
theorem dX6_appeal_1 : decode cX6_appeal 1 = .ok (.iconst 0, 1) := by decide +kernel
theorem dX6_appeal_2 : decode cX6_appeal 2 = .ok (.putfield 38, 3) := by decide +kernel
theorem dX6_appeal_5 : decode cX6_appeal 5 = .ok (.aload_n 0, 1) := by decide +kernel
theorem dX6_appeal_6 : decode cX6_appeal 6 = .ok (.iload_n 1, 1) := by decide +kernel
theorem dX6_appeal_7 : decode cX6_appeal 7 = .ok (.iload_n 2, 1) := by decide +kernel
theorem dX6_appeal_8 : decode cX6_appeal 8 = .ok (.invokevirtual 102, 3) := by decide +kernel
theorem dX6_appeal_11 : decode cX6_appeal 11 = .ok (.ifCond .eq 16, 3) := by decide +kernel
theorem dX6_appeal_14 : decode cX6_appeal 14 = .ok (.aload_n 0, 1) := by decide +kernel
theorem dX6_appeal_15 : decode cX6_appeal 15 = .ok (.iload_n 1, 1) := by decide +kernel
theorem dX6_appeal_16 : decode cX6_appeal 16 = .ok (.iload_n 2, 1) := by decide +kernel
theorem dX6_appeal_17 : decode cX6_appeal 17 = .ok (.invokevirtual 105, 3) := by decide +kernel
theorem dX6_appeal_20 : decode cX6_appeal 20 = .ok (.ifCond .eq 7, 3) := by decide +kernel
theorem dX6_appeal_23 : decode cX6_appeal 23 = .ok (.iconst 1, 1) := by decide +kernel
theorem dX6_appeal_24 : decode cX6_appeal 24 = .ok (.goto 4, 3) := by decide +kernel
theorem dX6_appeal_27 : decode cX6_appeal 27 = .ok (.iconst 0, 1) := by decide +kernel
theorem dX6_appeal_28 : decode cX6_appeal 28 = .ok (.ireturn, 1) := by decide +kernel
theorem dX6_four_0 : decode cX6_four 0 = .ok (.bipush 24, 2) := by decide +kernel
theorem dX6_four_2 : decode cX6_four 2 = .ok (.istore_n 2, 1) := by decide +kernel
theorem dX6_four_3 : decode cX6_four 3 = .ok (.iload_n 2, 1) := by decide +kernel
theorem dX6_four_4 : decode cX6_four 4 = .ok (.ifCond .lt 35, 3) := by decide +kernel
theorem dX6_four_7 : decode cX6_four 7 = .ok (.aload_n 0, 1) := by decide +kernel
theorem dX6_four_8 : decode cX6_four 8 = .ok (.getfield 22, 3) := by decide +kernel
theorem dX6_four_11 : decode cX6_four 11 = .ok (.aload_n 0, 1) := by decide +kernel
theorem dX6_four_12 : decode cX6_four 12 = .ok (.getfield 108, 3) := by decide +kernel
theorem dX6_four_15 : decode cX6_four 15 = .ok (.iload_n 1, 1) := by decide +kernel
theorem dX6_four_16 : decode cX6_four 16 = .ok (.iload_n 2, 1) := by decide +kernel
theorem dX6_four_17 : decode cX6_four 17 = .ok (.ishr, 1) := by decide +kernel
theorem dX6_four_18 : decode cX6_four 18 = .ok (.sipush 255, 3) := by decide +kernel
theorem dX6_four_21 : decode cX6_four 21 = .ok (.iand, 1) := by decide +kernel
theorem dX6_four_22 : decode cX6_four 22 = .ok (.iastore, 1) := by decide +kernel
theorem dX6_four_23 : decode cX6_four 23 = .ok (.aload_n 0, 1) := by decide +kernel
theorem dX6_four_24 : decode cX6_four 24 = .ok (.dup, 1) := by decide +kernel
theorem dX6_four_25 : decode cX6_four 25 = .ok (.getfield 108, 3) := by decide +kernel
theorem dX6_four_28 : decode cX6_four 28 = .ok (.iconst 1, 1) := by decide +kernel
theorem dX6_four_29 : decode cX6_four 29 = .ok (.iadd, 1) := by decide +kernel
theorem dX6_four_30 : decode cX6_four 30 = .ok (.putfield 108, 3) := by decide +kernel
theorem dX6_four_33 : decode cX6_four 33 = .ok (.iinc 2 (-8), 3) := by decide +kernel
theorem dX6_four_36 : decode cX6_four 36 = .ok (.goto (-33), 3) := by decide +kernel
theorem dX6_four_39 : decode cX6_four 39 = .ok (.return_, 1) := by decide +kernel
theorem dX6_feed_0 : decode cX6_feed 0 = .ok (.aload_n 0, 1) := by decide +kernel
theorem dX6_feed_1 : decode cX6_feed 1 = .ok (.iconst 0, 1) := by decide +kernel
theorem dX6_feed_2 : decode cX6_feed 2 = .ok (.putfield 38, 3) := by decide +kernel
theorem dX6_feed_5 : decode cX6_feed 5 = .ok (.aload_n 0, 1) := by decide +kernel
theorem dX6_feed_6 : decode cX6_feed 6 = .ok (.getfield 108, 3) := by decide +kernel
theorem dX6_feed_9 : decode cX6_feed 9 = .ok (.bipush 20, 2) := by decide +kernel
theorem dX6_feed_11 : decode cX6_feed 11 = .ok (.iadd, 1) := by decide +kernel
theorem dX6_feed_12 : decode cX6_feed 12 = .ok (.sipush 400, 3) := by decide +kernel
theorem dX6_feed_15 : decode cX6_feed 15 = .ok (.if_icmp .le 5, 3) := by decide +kernel
theorem dX6_feed_18 : decode cX6_feed 18 = .ok (.iconst (-1), 1) := by decide +kernel
theorem dX6_feed_19 : decode cX6_feed 19 = .ok (.ireturn, 1) := by decide +kernel
theorem dX6_feed_20 : decode cX6_feed 20 = .ok (.aload_n 0, 1) := by decide +kernel
theorem dX6_feed_21 : decode cX6_feed 21 = .ok (.iload_n 1, 1) := by decide +kernel
theorem dX6_feed_22 : decode cX6_feed 22 = .ok (.invokevirtual 111, 3) := by decide +kernel
theorem dX6_feed_25 : decode cX6_feed 25 = .ok (.aload_n 0, 1) := by decide +kernel
theorem dX6_feed_26 : decode cX6_feed 26 = .ok (.iload_n 2, 1) := by decide +kernel
theorem dX6_feed_27 : decode cX6_feed 27 = .ok (.invokevirtual 111, 3) := by decide +kernel
theorem dX6_feed_30 : decode cX6_feed 30 = .ok (.aload_n 0, 1) := by decide +kernel
theorem dX6_feed_31 : decode cX6_feed 31 = .ok (.iload_n 3, 1) := by decide +kernel
theorem dX6_feed_32 : decode cX6_feed 32 = .ok (.invokevirtual 111, 3) := by decide +kernel
theorem dX6_feed_35 : decode cX6_feed 35 = .ok (.aload_n 0, 1) := by decide +kernel
theorem dX6_feed_36 : decode cX6_feed 36 = .ok (.iload 4, 2) := by decide +kernel
theorem dX6_feed_38 : decode cX6_feed 38 = .ok (.invokevirtual 111, 3) := by decide +kernel
theorem dX6_feed_41 : decode cX6_feed 41 = .ok (.aload_n 0, 1) := by decide +kernel
theorem dX6_feed_42 : decode cX6_feed 42 = .ok (.iload 5, 2) := by decide +kernel
theorem dX6_feed_44 : decode cX6_feed 44 = .ok (.invokevirtual 111, 3) := by decide +kernel
theorem dX6_feed_47 : decode cX6_feed 47 = .ok (.aload_n 0, 1) := by decide +kernel
theorem dX6_feed_48 : decode cX6_feed 48 = .ok (.getfield 108, 3) := by decide +kernel
theorem dX6_feed_51 : decode cX6_feed 51 = .ok (.ireturn, 1) := by decide +kernel
theorem dX6_end_0 : decode cX6_end 0 = .ok (.aload_n 0, 1) := by decide +kernel
theorem dX6_end_1 : decode cX6_end 1 = .ok (.iconst 0, 1) := by decide +kernel
theorem dX6_end_2 : decode cX6_end 2 = .ok (.putfield 38, 3) := by decide +kernel
theorem dX6_end_5 : decode cX6_end 5 = .ok (.iload_n 1, 1) := by decide +kernel
theorem dX6_end_6 : decode cX6_end 6 = .ok (.iconst 0, 1) := by decide +kernel
theorem dX6_end_7 : decode cX6_end 7 = .ok (.aload_n 0, 1) := by decide +kernel
theorem dX6_end_8 : decode cX6_end 8 = .ok (.getfield 108, 3) := by decide +kernel
theorem dX6_end_11 : decode cX6_end 11 = .ok (.invokestatic 42, 3) := by decide +kernel
theorem dX6_end_14 : decode cX6_end 14 = .ok (.ifCond .ne 5, 3) := by decide +kernel
theorem dX6_end_17 : decode cX6_end 17 = .ok (.iconst 0, 1) := by decide +kernel
theorem dX6_end_18 : decode cX6_end 18 = .ok (.ireturn, 1) := by decide +kernel
theorem dX6_end_19 : decode cX6_end 19 = .ok (.aload_n 0, 1) := by decide +kernel
theorem dX6_end_20 : decode cX6_end 20 = .ok (.iload_n 1, 1) := by decide +kernel
theorem dX6_end_21 : decode cX6_end 21 = .ok (.putfield 108, 3) := by decide +kernel
theorem dX6_end_24 : decode cX6_end 24 = .ok (.iconst 1, 1) := by decide +kernel
theorem dX6_end_25 : decode cX6_end 25 = .ok (.ireturn, 1) := by decide +kernel
theorem dX6_here_0 : decode cX6_here 0 = .ok (.aload_n 0, 1) := by decide +kernel
theorem dX6_here_1 : decode cX6_here 1 = .ok (.getfield 114, 3) := by decide +kernel
theorem dX6_here_4 : decode cX6_here 4 = .ok (.aload_n 0, 1) := by decide +kernel
theorem dX6_here_5 : decode cX6_here 5 = .ok (.getfield 108, 3) := by decide +kernel
theorem dX6_here_8 : decode cX6_here 8 = .ok (.if_icmp .ge 44, 3) := by decide +kernel
theorem dX6_here_11 : decode cX6_here 11 = .ok (.aload_n 0, 1) := by decide +kernel
theorem dX6_here_12 : decode cX6_here 12 = .ok (.getfield 22, 3) := by decide +kernel
theorem dX6_here_15 : decode cX6_here 15 = .ok (.aload_n 0, 1) := by decide +kernel
theorem dX6_here_16 : decode cX6_here 16 = .ok (.getfield 114, 3) := by decide +kernel
theorem dX6_here_19 : decode cX6_here 19 = .ok (.iaload, 1) := by decide +kernel
theorem dX6_here_20 : decode cX6_here 20 = .ok (.bipush 32, 2) := by decide +kernel
theorem dX6_here_22 : decode cX6_here 22 = .ok (.if_icmp .eq 17, 3) := by decide +kernel
theorem dX6_here_25 : decode cX6_here 25 = .ok (.aload_n 0, 1) := by decide +kernel
theorem dX6_here_26 : decode cX6_here 26 = .ok (.getfield 22, 3) := by decide +kernel
theorem dX6_here_29 : decode cX6_here 29 = .ok (.aload_n 0, 1) := by decide +kernel
theorem dX6_here_30 : decode cX6_here 30 = .ok (.getfield 114, 3) := by decide +kernel
theorem dX6_here_33 : decode cX6_here 33 = .ok (.iaload, 1) := by decide +kernel
theorem dX6_here_34 : decode cX6_here 34 = .ok (.bipush 10, 2) := by decide +kernel
theorem dX6_here_36 : decode cX6_here 36 = .ok (.if_icmp .ne 16, 3) := by decide +kernel
theorem dX6_here_39 : decode cX6_here 39 = .ok (.aload_n 0, 1) := by decide +kernel
theorem dX6_here_40 : decode cX6_here 40 = .ok (.dup, 1) := by decide +kernel
theorem dX6_here_41 : decode cX6_here 41 = .ok (.getfield 114, 3) := by decide +kernel
theorem dX6_here_44 : decode cX6_here 44 = .ok (.iconst 1, 1) := by decide +kernel
theorem dX6_here_45 : decode cX6_here 45 = .ok (.iadd, 1) := by decide +kernel
theorem dX6_here_46 : decode cX6_here 46 = .ok (.putfield 114, 3) := by decide +kernel
theorem dX6_here_49 : decode cX6_here 49 = .ok (.goto (-49), 3) := by decide +kernel
theorem dX6_here_52 : decode cX6_here 52 = .ok (.aload_n 0, 1) := by decide +kernel
theorem dX6_here_53 : decode cX6_here 53 = .ok (.getfield 114, 3) := by decide +kernel
theorem dX6_here_56 : decode cX6_here 56 = .ok (.aload_n 0, 1) := by decide +kernel
theorem dX6_here_57 : decode cX6_here 57 = .ok (.getfield 108, 3) := by decide +kernel
theorem dX6_here_60 : decode cX6_here 60 = .ok (.if_icmp .ge 15, 3) := by decide +kernel
theorem dX6_here_63 : decode cX6_here 63 = .ok (.aload_n 0, 1) := by decide +kernel
theorem dX6_here_64 : decode cX6_here 64 = .ok (.getfield 22, 3) := by decide +kernel
theorem dX6_here_67 : decode cX6_here 67 = .ok (.aload_n 0, 1) := by decide +kernel
theorem dX6_here_68 : decode cX6_here 68 = .ok (.getfield 114, 3) := by decide +kernel
theorem dX6_here_71 : decode cX6_here 71 = .ok (.iaload, 1) := by decide +kernel
theorem dX6_here_72 : decode cX6_here 72 = .ok (.goto 4, 3) := by decide +kernel
theorem dX6_here_75 : decode cX6_here 75 = .ok (.iconst (-1), 1) := by decide +kernel
theorem dX6_here_76 : decode cX6_here 76 = .ok (.ireturn, 1) := by decide +kernel
theorem dX6_wrong_0 : decode cX6_wrong 0 = .ok (.aload_n 0, 1) := by decide +kernel
theorem dX6_wrong_1 : decode cX6_wrong 1 = .ok (.iload_n 1, 1) := by decide +kernel
theorem dX6_wrong_2 : decode cX6_wrong 2 = .ok (.bipush 8, 2) := by decide +kernel
theorem dX6_wrong_4 : decode cX6_wrong 4 = .ok (.iload_n 2, 1) := by decide +kernel
theorem dX6_wrong_5 : decode cX6_wrong 5 = .ok (.imul, 1) := by decide +kernel
theorem dX6_wrong_6 : decode cX6_wrong 6 = .ok (.iadd, 1) := by decide +kernel
theorem dX6_wrong_7 : decode cX6_wrong 7 = .ok (.putfield 117, 3) := by decide +kernel
theorem dX6_wrong_10 : decode cX6_wrong 10 = .ok (.iconst 0, 1) := by decide +kernel
theorem dX6_wrong_11 : decode cX6_wrong 11 = .ok (.ireturn, 1) := by decide +kernel
theorem dX6_readWord_0 : decode cX6_readWord 0 = .ok (.lconst 0, 1) := by decide +kernel
theorem dX6_readWord_1 : decode cX6_readWord 1 = .ok (.lstore_n 1, 1) := by decide +kernel
theorem dX6_readWord_2 : decode cX6_readWord 2 = .ok (.iconst 0, 1) := by decide +kernel
theorem dX6_readWord_3 : decode cX6_readWord 3 = .ok (.istore_n 3, 1) := by decide +kernel
theorem dX6_readWord_4 : decode cX6_readWord 4 = .ok (.aload_n 0, 1) := by decide +kernel
theorem dX6_readWord_5 : decode cX6_readWord 5 = .ok (.aload_n 0, 1) := by decide +kernel
theorem dX6_readWord_6 : decode cX6_readWord 6 = .ok (.getfield 114, 3) := by decide +kernel
theorem dX6_readWord_9 : decode cX6_readWord 9 = .ok (.putfield 120, 3) := by decide +kernel
theorem dX6_readWord_12 : decode cX6_readWord 12 = .ok (.aload_n 0, 1) := by decide +kernel
theorem dX6_readWord_13 : decode cX6_readWord 13 = .ok (.getfield 114, 3) := by decide +kernel
theorem dX6_readWord_16 : decode cX6_readWord 16 = .ok (.aload_n 0, 1) := by decide +kernel
theorem dX6_readWord_17 : decode cX6_readWord 17 = .ok (.getfield 108, 3) := by decide +kernel
theorem dX6_readWord_20 : decode cX6_readWord 20 = .ok (.if_icmp .ge 71, 3) := by decide +kernel
theorem dX6_readWord_23 : decode cX6_readWord 23 = .ok (.aload_n 0, 1) := by decide +kernel
theorem dX6_readWord_24 : decode cX6_readWord 24 = .ok (.getfield 22, 3) := by decide +kernel
theorem dX6_readWord_27 : decode cX6_readWord 27 = .ok (.aload_n 0, 1) := by decide +kernel
theorem dX6_readWord_28 : decode cX6_readWord 28 = .ok (.getfield 114, 3) := by decide +kernel
theorem dX6_readWord_31 : decode cX6_readWord 31 = .ok (.iaload, 1) := by decide +kernel
theorem dX6_readWord_32 : decode cX6_readWord 32 = .ok (.bipush 97, 2) := by decide +kernel
theorem dX6_readWord_34 : decode cX6_readWord 34 = .ok (.bipush 122, 2) := by decide +kernel
theorem dX6_readWord_36 : decode cX6_readWord 36 = .ok (.invokestatic 42, 3) := by decide +kernel
theorem dX6_readWord_39 : decode cX6_readWord 39 = .ok (.ifCond .eq 52, 3) := by decide +kernel
theorem dX6_readWord_42 : decode cX6_readWord 42 = .ok (.iload_n 3, 1) := by decide +kernel
theorem dX6_readWord_43 : decode cX6_readWord 43 = .ok (.bipush 7, 2) := by decide +kernel
theorem dX6_readWord_45 : decode cX6_readWord 45 = .ok (.if_icmp .ge 26, 3) := by decide +kernel
theorem dX6_readWord_48 : decode cX6_readWord 48 = .ok (.lload_n 1, 1) := by decide +kernel
theorem dX6_readWord_49 : decode cX6_readWord 49 = .ok (.ldc2_w 123, 3) := by decide +kernel
theorem dX6_readWord_52 : decode cX6_readWord 52 = .ok (.lmul, 1) := by decide +kernel
theorem dX6_readWord_53 : decode cX6_readWord 53 = .ok (.aload_n 0, 1) := by decide +kernel
theorem dX6_readWord_54 : decode cX6_readWord 54 = .ok (.getfield 22, 3) := by decide +kernel
theorem dX6_readWord_57 : decode cX6_readWord 57 = .ok (.aload_n 0, 1) := by decide +kernel
theorem dX6_readWord_58 : decode cX6_readWord 58 = .ok (.getfield 114, 3) := by decide +kernel
theorem dX6_readWord_61 : decode cX6_readWord 61 = .ok (.iaload, 1) := by decide +kernel
theorem dX6_readWord_62 : decode cX6_readWord 62 = .ok (.i2l, 1) := by decide +kernel
theorem dX6_readWord_63 : decode cX6_readWord 63 = .ok (.ladd, 1) := by decide +kernel
theorem dX6_readWord_64 : decode cX6_readWord 64 = .ok (.ldc2_w 125, 3) := by decide +kernel
theorem dX6_readWord_67 : decode cX6_readWord 67 = .ok (.lsub, 1) := by decide +kernel
theorem dX6_readWord_68 : decode cX6_readWord 68 = .ok (.goto 6, 3) := by decide +kernel
theorem dX6_readWord_71 : decode cX6_readWord 71 = .ok (.ldc2_w 127, 3) := by decide +kernel
theorem dX6_readWord_74 : decode cX6_readWord 74 = .ok (.lstore_n 1, 1) := by decide +kernel
theorem dX6_readWord_75 : decode cX6_readWord 75 = .ok (.iinc 3 1, 3) := by decide +kernel
theorem dX6_readWord_78 : decode cX6_readWord 78 = .ok (.aload_n 0, 1) := by decide +kernel
theorem dX6_readWord_79 : decode cX6_readWord 79 = .ok (.dup, 1) := by decide +kernel
theorem dX6_readWord_80 : decode cX6_readWord 80 = .ok (.getfield 114, 3) := by decide +kernel
theorem dX6_readWord_83 : decode cX6_readWord 83 = .ok (.iconst 1, 1) := by decide +kernel
theorem dX6_readWord_84 : decode cX6_readWord 84 = .ok (.iadd, 1) := by decide +kernel
theorem dX6_readWord_85 : decode cX6_readWord 85 = .ok (.putfield 114, 3) := by decide +kernel
theorem dX6_readWord_88 : decode cX6_readWord 88 = .ok (.goto (-76), 3) := by decide +kernel
theorem dX6_readWord_91 : decode cX6_readWord 91 = .ok (.lload_n 1, 1) := by decide +kernel
theorem dX6_readWord_92 : decode cX6_readWord 92 = .ok (.lreturn, 1) := by decide +kernel
theorem dX6_number_0 : decode cX6_number 0 = .ok (.aload_n 0, 1) := by decide +kernel
theorem dX6_number_1 : decode cX6_number 1 = .ok (.invokevirtual 129, 3) := by decide +kernel
theorem dX6_number_4 : decode cX6_number 4 = .ok (.bipush 48, 2) := by decide +kernel
theorem dX6_number_6 : decode cX6_number 6 = .ok (.bipush 57, 2) := by decide +kernel
theorem dX6_number_8 : decode cX6_number 8 = .ok (.invokestatic 42, 3) := by decide +kernel
theorem dX6_number_11 : decode cX6_number 11 = .ok (.ifCond .ne 13, 3) := by decide +kernel
theorem dX6_number_14 : decode cX6_number 14 = .ok (.aload_n 0, 1) := by decide +kernel
theorem dX6_number_15 : decode cX6_number 15 = .ok (.iconst 1, 1) := by decide +kernel
theorem dX6_number_16 : decode cX6_number 16 = .ok (.aload_n 0, 1) := by decide +kernel
theorem dX6_number_17 : decode cX6_number 17 = .ok (.getfield 114, 3) := by decide +kernel
theorem dX6_number_20 : decode cX6_number 20 = .ok (.invokevirtual 133, 3) := by decide +kernel
theorem dX6_number_23 : decode cX6_number 23 = .ok (.ireturn, 1) := by decide +kernel
theorem dX6_number_24 : decode cX6_number 24 = .ok (.aload_n 0, 1) := by decide +kernel
theorem dX6_number_25 : decode cX6_number 25 = .ok (.getfield 114, 3) := by decide +kernel
theorem dX6_number_28 : decode cX6_number 28 = .ok (.istore 4, 2) := by decide +kernel
theorem dX6_number_30 : decode cX6_number 30 = .ok (.aload_n 0, 1) := by decide +kernel
theorem dX6_number_31 : decode cX6_number 31 = .ok (.iconst 0, 1) := by decide +kernel
theorem dX6_number_32 : decode cX6_number 32 = .ok (.putfield 135, 3) := by decide +kernel
theorem dX6_number_35 : decode cX6_number 35 = .ok (.aload_n 0, 1) := by decide +kernel
theorem dX6_number_36 : decode cX6_number 36 = .ok (.getfield 114, 3) := by decide +kernel
theorem dX6_number_39 : decode cX6_number 39 = .ok (.aload_n 0, 1) := by decide +kernel
theorem dX6_number_40 : decode cX6_number 40 = .ok (.getfield 108, 3) := by decide +kernel
theorem dX6_number_43 : decode cX6_number 43 = .ok (.if_icmp .ge 77, 3) := by decide +kernel
theorem dX6_number_46 : decode cX6_number 46 = .ok (.aload_n 0, 1) := by decide +kernel
theorem dX6_number_47 : decode cX6_number 47 = .ok (.getfield 22, 3) := by decide +kernel
theorem dX6_number_50 : decode cX6_number 50 = .ok (.aload_n 0, 1) := by decide +kernel
theorem dX6_number_51 : decode cX6_number 51 = .ok (.getfield 114, 3) := by decide +kernel
theorem dX6_number_54 : decode cX6_number 54 = .ok (.iaload, 1) := by decide +kernel
theorem dX6_number_55 : decode cX6_number 55 = .ok (.bipush 48, 2) := by decide +kernel
theorem dX6_number_57 : decode cX6_number 57 = .ok (.bipush 57, 2) := by decide +kernel
theorem dX6_number_59 : decode cX6_number 59 = .ok (.invokestatic 42, 3) := by decide +kernel
theorem dX6_number_62 : decode cX6_number 62 = .ok (.ifCond .eq 58, 3) := by decide +kernel
theorem dX6_number_65 : decode cX6_number 65 = .ok (.aload_n 0, 1) := by decide +kernel
theorem dX6_number_66 : decode cX6_number 66 = .ok (.aload_n 0, 1) := by decide +kernel
theorem dX6_number_67 : decode cX6_number 67 = .ok (.getfield 114, 3) := by decide +kernel
theorem dX6_number_70 : decode cX6_number 70 = .ok (.iload 4, 2) := by decide +kernel
theorem dX6_number_72 : decode cX6_number 72 = .ok (.isub, 1) := by decide +kernel
theorem dX6_number_73 : decode cX6_number 73 = .ok (.iconst 4, 1) := by decide +kernel
theorem dX6_number_74 : decode cX6_number 74 = .ok (.if_icmp .ge 26, 3) := by decide +kernel
theorem dX6_number_77 : decode cX6_number 77 = .ok (.bipush 10, 2) := by decide +kernel
theorem dX6_number_79 : decode cX6_number 79 = .ok (.aload_n 0, 1) := by decide +kernel
theorem dX6_number_80 : decode cX6_number 80 = .ok (.getfield 135, 3) := by decide +kernel
theorem dX6_number_83 : decode cX6_number 83 = .ok (.imul, 1) := by decide +kernel
theorem dX6_number_84 : decode cX6_number 84 = .ok (.aload_n 0, 1) := by decide +kernel
theorem dX6_number_85 : decode cX6_number 85 = .ok (.getfield 22, 3) := by decide +kernel
theorem dX6_number_88 : decode cX6_number 88 = .ok (.aload_n 0, 1) := by decide +kernel
theorem dX6_number_89 : decode cX6_number 89 = .ok (.getfield 114, 3) := by decide +kernel
theorem dX6_number_92 : decode cX6_number 92 = .ok (.iaload, 1) := by decide +kernel
theorem dX6_number_93 : decode cX6_number 93 = .ok (.iadd, 1) := by decide +kernel
theorem dX6_number_94 : decode cX6_number 94 = .ok (.bipush 48, 2) := by decide +kernel
theorem dX6_number_96 : decode cX6_number 96 = .ok (.isub, 1) := by decide +kernel
theorem dX6_number_97 : decode cX6_number 97 = .ok (.goto 7, 3) := by decide +kernel
theorem dX6_number_100 : decode cX6_number 100 = .ok (.aload_n 0, 1) := by decide +kernel
theorem dX6_number_101 : decode cX6_number 101 = .ok (.getfield 135, 3) := by decide +kernel
theorem dX6_number_104 : decode cX6_number 104 = .ok (.putfield 135, 3) := by decide +kernel
theorem dX6_number_107 : decode cX6_number 107 = .ok (.aload_n 0, 1) := by decide +kernel
theorem dX6_number_108 : decode cX6_number 108 = .ok (.dup, 1) := by decide +kernel
theorem dX6_number_109 : decode cX6_number 109 = .ok (.getfield 114, 3) := by decide +kernel
theorem dX6_number_112 : decode cX6_number 112 = .ok (.iconst 1, 1) := by decide +kernel
theorem dX6_number_113 : decode cX6_number 113 = .ok (.iadd, 1) := by decide +kernel
theorem dX6_number_114 : decode cX6_number 114 = .ok (.putfield 114, 3) := by decide +kernel
theorem dX6_number_117 : decode cX6_number 117 = .ok (.goto (-82), 3) := by decide +kernel
theorem dX6_number_120 : decode cX6_number 120 = .ok (.aload_n 0, 1) := by decide +kernel
theorem dX6_number_121 : decode cX6_number 121 = .ok (.getfield 114, 3) := by decide +kernel
theorem dX6_number_124 : decode cX6_number 124 = .ok (.iload 4, 2) := by decide +kernel
theorem dX6_number_126 : decode cX6_number 126 = .ok (.isub, 1) := by decide +kernel
theorem dX6_number_127 : decode cX6_number 127 = .ok (.iconst 4, 1) := by decide +kernel
theorem dX6_number_128 : decode cX6_number 128 = .ok (.if_icmp .le 11, 3) := by decide +kernel
theorem dX6_number_131 : decode cX6_number 131 = .ok (.aload_n 0, 1) := by decide +kernel
theorem dX6_number_132 : decode cX6_number 132 = .ok (.iconst 1, 1) := by decide +kernel
theorem dX6_number_133 : decode cX6_number 133 = .ok (.iload 4, 2) := by decide +kernel
theorem dX6_number_135 : decode cX6_number 135 = .ok (.invokevirtual 133, 3) := by decide +kernel
theorem dX6_number_138 : decode cX6_number 138 = .ok (.ireturn, 1) := by decide +kernel
theorem dX6_number_139 : decode cX6_number 139 = .ok (.aload_n 0, 1) := by decide +kernel
theorem dX6_number_140 : decode cX6_number 140 = .ok (.getfield 25, 3) := by decide +kernel
theorem dX6_number_143 : decode cX6_number 143 = .ok (.iload_n 1, 1) := by decide +kernel
theorem dX6_number_144 : decode cX6_number 144 = .ok (.aload_n 0, 1) := by decide +kernel
theorem dX6_number_145 : decode cX6_number 145 = .ok (.getfield 135, 3) := by decide +kernel
theorem dX6_number_148 : decode cX6_number 148 = .ok (.iastore, 1) := by decide +kernel
theorem dX6_number_149 : decode cX6_number 149 = .ok (.aload_n 0, 1) := by decide +kernel
theorem dX6_number_150 : decode cX6_number 150 = .ok (.getfield 135, 3) := by decide +kernel
theorem dX6_number_153 : decode cX6_number 153 = .ok (.iload_n 2, 1) := by decide +kernel
theorem dX6_number_154 : decode cX6_number 154 = .ok (.iload_n 3, 1) := by decide +kernel
theorem dX6_number_155 : decode cX6_number 155 = .ok (.invokestatic 42, 3) := by decide +kernel
theorem dX6_number_158 : decode cX6_number 158 = .ok (.ifCond .ne 13, 3) := by decide +kernel
theorem dX6_number_161 : decode cX6_number 161 = .ok (.aload_n 0, 1) := by decide +kernel
theorem dX6_number_162 : decode cX6_number 162 = .ok (.iconst 2, 1) := by decide +kernel
theorem dX6_number_163 : decode cX6_number 163 = .ok (.iload 4, 2) := by decide +kernel
theorem dX6_number_165 : decode cX6_number 165 = .ok (.invokevirtual 133, 3) := by decide +kernel
theorem dX6_number_168 : decode cX6_number 168 = .ok (.ifCond .eq 7, 3) := by decide +kernel
theorem dX6_number_171 : decode cX6_number 171 = .ok (.iconst 1, 1) := by decide +kernel
theorem dX6_number_172 : decode cX6_number 172 = .ok (.goto 4, 3) := by decide +kernel
theorem dX6_number_175 : decode cX6_number 175 = .ok (.iconst 0, 1) := by decide +kernel
theorem dX6_number_176 : decode cX6_number 176 = .ok (.ireturn, 1) := by decide +kernel
theorem dX6_who_0 : decode cX6_who 0 = .ok (.aload_n 0, 1) := by decide +kernel
theorem dX6_who_1 : decode cX6_who 1 = .ok (.iconst 0, 1) := by decide +kernel
theorem dX6_who_2 : decode cX6_who 2 = .ok (.iconst 0, 1) := by decide +kernel
theorem dX6_who_3 : decode cX6_who 3 = .ok (.aload_n 0, 1) := by decide +kernel
theorem dX6_who_4 : decode cX6_who 4 = .ok (.getfield 7, 3) := by decide +kernel
theorem dX6_who_7 : decode cX6_who 7 = .ok (.iconst 2, 1) := by decide +kernel
theorem dX6_who_8 : decode cX6_who 8 = .ok (.iaload, 1) := by decide +kernel
theorem dX6_who_9 : decode cX6_who 9 = .ok (.iconst 1, 1) := by decide +kernel
theorem dX6_who_10 : decode cX6_who 10 = .ok (.isub, 1) := by decide +kernel
theorem dX6_who_11 : decode cX6_who 11 = .ok (.invokevirtual 138, 3) := by decide +kernel
theorem dX6_who_14 : decode cX6_who 14 = .ok (.ireturn, 1) := by decide +kernel
theorem dX6_readFile_0 : decode cX6_readFile 0 = .ok (.aload_n 0, 1) := by decide +kernel
theorem dX6_readFile_1 : decode cX6_readFile 1 = .ok (.invokevirtual 141, 3) := by decide +kernel
theorem dX6_readFile_4 : decode cX6_readFile 4 = .ok (.ifCond .eq 89, 3) := by decide +kernel
theorem dX6_readFile_7 : decode cX6_readFile 7 = .ok (.aload_n 0, 1) := by decide +kernel
theorem dX6_readFile_8 : decode cX6_readFile 8 = .ok (.iconst 1, 1) := by decide +kernel
theorem dX6_readFile_9 : decode cX6_readFile 9 = .ok (.iconst 0, 1) := by decide +kernel
theorem dX6_readFile_10 : decode cX6_readFile 10 = .ok (.sipush 1099, 3) := by decide +kernel
theorem dX6_readFile_13 : decode cX6_readFile 13 = .ok (.invokevirtual 138, 3) := by decide +kernel
theorem dX6_readFile_16 : decode cX6_readFile 16 = .ok (.ifCond .eq 77, 3) := by decide +kernel
theorem dX6_readFile_19 : decode cX6_readFile 19 = .ok (.aload_n 0, 1) := by decide +kernel
theorem dX6_readFile_20 : decode cX6_readFile 20 = .ok (.iconst 2, 1) := by decide +kernel
theorem dX6_readFile_21 : decode cX6_readFile 21 = .ok (.aload_n 0, 1) := by decide +kernel
theorem dX6_readFile_22 : decode cX6_readFile 22 = .ok (.getfield 25, 3) := by decide +kernel
theorem dX6_readFile_25 : decode cX6_readFile 25 = .ok (.iconst 1, 1) := by decide +kernel
theorem dX6_readFile_26 : decode cX6_readFile 26 = .ok (.iaload, 1) := by decide +kernel
theorem dX6_readFile_27 : decode cX6_readFile 27 = .ok (.aload_n 0, 1) := by decide +kernel
theorem dX6_readFile_28 : decode cX6_readFile 28 = .ok (.getfield 25, 3) := by decide +kernel
theorem dX6_readFile_31 : decode cX6_readFile 31 = .ok (.iconst 1, 1) := by decide +kernel
theorem dX6_readFile_32 : decode cX6_readFile 32 = .ok (.iaload, 1) := by decide +kernel
theorem dX6_readFile_33 : decode cX6_readFile 33 = .ok (.bipush 60, 2) := by decide +kernel
theorem dX6_readFile_35 : decode cX6_readFile 35 = .ok (.iadd, 1) := by decide +kernel
theorem dX6_readFile_36 : decode cX6_readFile 36 = .ok (.iconst 1, 1) := by decide +kernel
theorem dX6_readFile_37 : decode cX6_readFile 37 = .ok (.isub, 1) := by decide +kernel
theorem dX6_readFile_38 : decode cX6_readFile 38 = .ok (.sipush 1099, 3) := by decide +kernel
theorem dX6_readFile_41 : decode cX6_readFile 41 = .ok (.if_icmp .ge 17, 3) := by decide +kernel
theorem dX6_readFile_44 : decode cX6_readFile 44 = .ok (.aload_n 0, 1) := by decide +kernel
theorem dX6_readFile_45 : decode cX6_readFile 45 = .ok (.getfield 25, 3) := by decide +kernel
theorem dX6_readFile_48 : decode cX6_readFile 48 = .ok (.iconst 1, 1) := by decide +kernel
theorem dX6_readFile_49 : decode cX6_readFile 49 = .ok (.iaload, 1) := by decide +kernel
theorem dX6_readFile_50 : decode cX6_readFile 50 = .ok (.bipush 60, 2) := by decide +kernel
theorem dX6_readFile_52 : decode cX6_readFile 52 = .ok (.iadd, 1) := by decide +kernel
theorem dX6_readFile_53 : decode cX6_readFile 53 = .ok (.iconst 1, 1) := by decide +kernel
theorem dX6_readFile_54 : decode cX6_readFile 54 = .ok (.isub, 1) := by decide +kernel
theorem dX6_readFile_55 : decode cX6_readFile 55 = .ok (.goto 6, 3) := by decide +kernel
theorem dX6_readFile_58 : decode cX6_readFile 58 = .ok (.sipush 1099, 3) := by decide +kernel
theorem dX6_readFile_61 : decode cX6_readFile 61 = .ok (.invokevirtual 138, 3) := by decide +kernel
theorem dX6_readFile_64 : decode cX6_readFile 64 = .ok (.ifCond .eq 29, 3) := by decide +kernel
theorem dX6_readFile_67 : decode cX6_readFile 67 = .ok (.aload_n 0, 1) := by decide +kernel
theorem dX6_readFile_68 : decode cX6_readFile 68 = .ok (.iconst 3, 1) := by decide +kernel
theorem dX6_readFile_69 : decode cX6_readFile 69 = .ok (.iconst 5, 1) := by decide +kernel
theorem dX6_readFile_70 : decode cX6_readFile 70 = .ok (.bipush 22, 2) := by decide +kernel
theorem dX6_readFile_72 : decode cX6_readFile 72 = .ok (.invokevirtual 138, 3) := by decide +kernel
theorem dX6_readFile_75 : decode cX6_readFile 75 = .ok (.ifCond .eq 18, 3) := by decide +kernel
theorem dX6_readFile_78 : decode cX6_readFile 78 = .ok (.aload_n 0, 1) := by decide +kernel
theorem dX6_readFile_79 : decode cX6_readFile 79 = .ok (.iconst 4, 1) := by decide +kernel
theorem dX6_readFile_80 : decode cX6_readFile 80 = .ok (.iconst 0, 1) := by decide +kernel
theorem dX6_readFile_81 : decode cX6_readFile 81 = .ok (.bipush 9, 2) := by decide +kernel
theorem dX6_readFile_83 : decode cX6_readFile 83 = .ok (.invokevirtual 138, 3) := by decide +kernel
theorem dX6_readFile_86 : decode cX6_readFile 86 = .ok (.ifCond .eq 7, 3) := by decide +kernel
theorem dX6_readFile_89 : decode cX6_readFile 89 = .ok (.iconst 1, 1) := by decide +kernel
theorem dX6_readFile_90 : decode cX6_readFile 90 = .ok (.goto 4, 3) := by decide +kernel
theorem dX6_readFile_93 : decode cX6_readFile 93 = .ok (.iconst 0, 1) := by decide +kernel
theorem dX6_readFile_94 : decode cX6_readFile 94 = .ok (.ireturn, 1) := by decide +kernel
theorem dX6_readTest_0 : decode cX6_readTest 0 = .ok (.aload_n 0, 1) := by decide +kernel
theorem dX6_readTest_1 : decode cX6_readTest 1 = .ok (.invokevirtual 141, 3) := by decide +kernel
theorem dX6_readTest_4 : decode cX6_readTest 4 = .ok (.ifCond .eq 14, 3) := by decide +kernel
theorem dX6_readTest_7 : decode cX6_readTest 7 = .ok (.aload_n 0, 1) := by decide +kernel
theorem dX6_readTest_8 : decode cX6_readTest 8 = .ok (.iconst 1, 1) := by decide +kernel
theorem dX6_readTest_9 : decode cX6_readTest 9 = .ok (.iconst 0, 1) := by decide +kernel
theorem dX6_readTest_10 : decode cX6_readTest 10 = .ok (.bipush 9, 2) := by decide +kernel
theorem dX6_readTest_12 : decode cX6_readTest 12 = .ok (.invokevirtual 138, 3) := by decide +kernel
theorem dX6_readTest_15 : decode cX6_readTest 15 = .ok (.ifCond .ne 5, 3) := by decide +kernel
theorem dX6_readTest_18 : decode cX6_readTest 18 = .ok (.iconst 0, 1) := by decide +kernel
theorem dX6_readTest_19 : decode cX6_readTest 19 = .ok (.ireturn, 1) := by decide +kernel
theorem dX6_readTest_20 : decode cX6_readTest 20 = .ok (.aload_n 0, 1) := by decide +kernel
theorem dX6_readTest_21 : decode cX6_readTest 21 = .ok (.invokevirtual 129, 3) := by decide +kernel
theorem dX6_readTest_24 : decode cX6_readTest 24 = .ok (.bipush 97, 2) := by decide +kernel
theorem dX6_readTest_26 : decode cX6_readTest 26 = .ok (.bipush 122, 2) := by decide +kernel
theorem dX6_readTest_28 : decode cX6_readTest 28 = .ok (.invokestatic 42, 3) := by decide +kernel
theorem dX6_readTest_31 : decode cX6_readTest 31 = .ok (.ifCond .ne 13, 3) := by decide +kernel
theorem dX6_readTest_34 : decode cX6_readTest 34 = .ok (.aload_n 0, 1) := by decide +kernel
theorem dX6_readTest_35 : decode cX6_readTest 35 = .ok (.iconst 1, 1) := by decide +kernel
theorem dX6_readTest_36 : decode cX6_readTest 36 = .ok (.aload_n 0, 1) := by decide +kernel
theorem dX6_readTest_37 : decode cX6_readTest 37 = .ok (.getfield 114, 3) := by decide +kernel
theorem dX6_readTest_40 : decode cX6_readTest 40 = .ok (.invokevirtual 133, 3) := by decide +kernel
theorem dX6_readTest_43 : decode cX6_readTest 43 = .ok (.ireturn, 1) := by decide +kernel
theorem dX6_readTest_44 : decode cX6_readTest 44 = .ok (.aload_n 0, 1) := by decide +kernel
theorem dX6_readTest_45 : decode cX6_readTest 45 = .ok (.invokevirtual 145, 3) := by decide +kernel
theorem dX6_readTest_48 : decode cX6_readTest 48 = .ok (.lstore_n 1, 1) := by decide +kernel
theorem dX6_readTest_49 : decode cX6_readTest 49 = .ok (.aload_n 0, 1) := by decide +kernel
theorem dX6_readTest_50 : decode cX6_readTest 50 = .ok (.getfield 25, 3) := by decide +kernel
theorem dX6_readTest_53 : decode cX6_readTest 53 = .ok (.iconst 2, 1) := by decide +kernel
theorem dX6_readTest_54 : decode cX6_readTest 54 = .ok (.lload_n 1, 1) := by decide +kernel
theorem dX6_readTest_55 : decode cX6_readTest 55 = .ok (.ldc2_w 149, 3) := by decide +kernel
theorem dX6_readTest_58 : decode cX6_readTest 58 = .ok (.lcmp, 1) := by decide +kernel
theorem dX6_readTest_59 : decode cX6_readTest 59 = .ok (.ifCond .ne 7, 3) := by decide +kernel
theorem dX6_readTest_62 : decode cX6_readTest 62 = .ok (.iconst 1, 1) := by decide +kernel
theorem dX6_readTest_63 : decode cX6_readTest 63 = .ok (.goto 4, 3) := by decide +kernel
theorem dX6_readTest_66 : decode cX6_readTest 66 = .ok (.iconst 0, 1) := by decide +kernel
theorem dX6_readTest_67 : decode cX6_readTest 67 = .ok (.iastore, 1) := by decide +kernel
theorem dX6_readTest_68 : decode cX6_readTest 68 = .ok (.lload_n 1, 1) := by decide +kernel
theorem dX6_readTest_69 : decode cX6_readTest 69 = .ok (.ldc2_w 149, 3) := by decide +kernel
theorem dX6_readTest_72 : decode cX6_readTest 72 = .ok (.lcmp, 1) := by decide +kernel
theorem dX6_readTest_73 : decode cX6_readTest 73 = .ok (.ifCond .eq 23, 3) := by decide +kernel
theorem dX6_readTest_76 : decode cX6_readTest 76 = .ok (.lload_n 1, 1) := by decide +kernel
theorem dX6_readTest_77 : decode cX6_readTest 77 = .ok (.ldc2_w 151, 3) := by decide +kernel
theorem dX6_readTest_80 : decode cX6_readTest 80 = .ok (.lcmp, 1) := by decide +kernel
theorem dX6_readTest_81 : decode cX6_readTest 81 = .ok (.ifCond .eq 15, 3) := by decide +kernel
theorem dX6_readTest_84 : decode cX6_readTest 84 = .ok (.aload_n 0, 1) := by decide +kernel
theorem dX6_readTest_85 : decode cX6_readTest 85 = .ok (.iconst 1, 1) := by decide +kernel
theorem dX6_readTest_86 : decode cX6_readTest 86 = .ok (.aload_n 0, 1) := by decide +kernel
theorem dX6_readTest_87 : decode cX6_readTest 87 = .ok (.getfield 120, 3) := by decide +kernel
theorem dX6_readTest_90 : decode cX6_readTest 90 = .ok (.invokevirtual 133, 3) := by decide +kernel
theorem dX6_readTest_93 : decode cX6_readTest 93 = .ok (.ifCond .eq 7, 3) := by decide +kernel
theorem dX6_readTest_96 : decode cX6_readTest 96 = .ok (.iconst 1, 1) := by decide +kernel
theorem dX6_readTest_97 : decode cX6_readTest 97 = .ok (.goto 4, 3) := by decide +kernel
theorem dX6_readTest_100 : decode cX6_readTest 100 = .ok (.iconst 0, 1) := by decide +kernel
theorem dX6_readTest_101 : decode cX6_readTest 101 = .ok (.ireturn, 1) := by decide +kernel
theorem dX6_readRest_0 : decode cX6_readRest 0 = .ok (.lload_n 1, 1) := by decide +kernel
theorem dX6_readRest_1 : decode cX6_readRest 1 = .ok (.ldc2_w 153, 3) := by decide +kernel
theorem dX6_readRest_4 : decode cX6_readRest 4 = .ok (.lcmp, 1) := by decide +kernel
theorem dX6_readRest_5 : decode cX6_readRest 5 = .ok (.ifCond .ne 12, 3) := by decide +kernel
theorem dX6_readRest_8 : decode cX6_readRest 8 = .ok (.aload_n 0, 1) := by decide +kernel
theorem dX6_readRest_9 : decode cX6_readRest 9 = .ok (.iconst 0, 1) := by decide +kernel
theorem dX6_readRest_10 : decode cX6_readRest 10 = .ok (.iconst 1, 1) := by decide +kernel
theorem dX6_readRest_11 : decode cX6_readRest 11 = .ok (.bipush 9, 2) := by decide +kernel
theorem dX6_readRest_13 : decode cX6_readRest 13 = .ok (.invokevirtual 138, 3) := by decide +kernel
theorem dX6_readRest_16 : decode cX6_readRest 16 = .ok (.ireturn, 1) := by decide +kernel
theorem dX6_readRest_17 : decode cX6_readRest 17 = .ok (.lload_n 1, 1) := by decide +kernel
theorem dX6_readRest_18 : decode cX6_readRest 18 = .ok (.ldc2_w 155, 3) := by decide +kernel
theorem dX6_readRest_21 : decode cX6_readRest 21 = .ok (.lcmp, 1) := by decide +kernel
theorem dX6_readRest_22 : decode cX6_readRest 22 = .ok (.ifCond .ne 49, 3) := by decide +kernel
theorem dX6_readRest_25 : decode cX6_readRest 25 = .ok (.aload_n 0, 1) := by decide +kernel
theorem dX6_readRest_26 : decode cX6_readRest 26 = .ok (.iconst 0, 1) := by decide +kernel
theorem dX6_readRest_27 : decode cX6_readRest 27 = .ok (.iconst 0, 1) := by decide +kernel
theorem dX6_readRest_28 : decode cX6_readRest 28 = .ok (.iconst 5, 1) := by decide +kernel
theorem dX6_readRest_29 : decode cX6_readRest 29 = .ok (.invokevirtual 138, 3) := by decide +kernel
theorem dX6_readRest_32 : decode cX6_readRest 32 = .ok (.ifCond .eq 37, 3) := by decide +kernel
theorem dX6_readRest_35 : decode cX6_readRest 35 = .ok (.aload_n 0, 1) := by decide +kernel
theorem dX6_readRest_36 : decode cX6_readRest 36 = .ok (.iconst 1, 1) := by decide +kernel
theorem dX6_readRest_37 : decode cX6_readRest 37 = .ok (.aload_n 0, 1) := by decide +kernel
theorem dX6_readRest_38 : decode cX6_readRest 38 = .ok (.getfield 16, 3) := by decide +kernel
theorem dX6_readRest_41 : decode cX6_readRest 41 = .ok (.aload_n 0, 1) := by decide +kernel
theorem dX6_readRest_42 : decode cX6_readRest 42 = .ok (.getfield 25, 3) := by decide +kernel
theorem dX6_readRest_45 : decode cX6_readRest 45 = .ok (.iconst 0, 1) := by decide +kernel
theorem dX6_readRest_46 : decode cX6_readRest 46 = .ok (.iaload, 1) := by decide +kernel
theorem dX6_readRest_47 : decode cX6_readRest 47 = .ok (.iaload, 1) := by decide +kernel
theorem dX6_readRest_48 : decode cX6_readRest 48 = .ok (.aload_n 0, 1) := by decide +kernel
theorem dX6_readRest_49 : decode cX6_readRest 49 = .ok (.getfield 19, 3) := by decide +kernel
theorem dX6_readRest_52 : decode cX6_readRest 52 = .ok (.aload_n 0, 1) := by decide +kernel
theorem dX6_readRest_53 : decode cX6_readRest 53 = .ok (.getfield 25, 3) := by decide +kernel
theorem dX6_readRest_56 : decode cX6_readRest 56 = .ok (.iconst 0, 1) := by decide +kernel
theorem dX6_readRest_57 : decode cX6_readRest 57 = .ok (.iaload, 1) := by decide +kernel
theorem dX6_readRest_58 : decode cX6_readRest 58 = .ok (.iaload, 1) := by decide +kernel
theorem dX6_readRest_59 : decode cX6_readRest 59 = .ok (.invokevirtual 138, 3) := by decide +kernel
theorem dX6_readRest_62 : decode cX6_readRest 62 = .ok (.ifCond .eq 7, 3) := by decide +kernel
theorem dX6_readRest_65 : decode cX6_readRest 65 = .ok (.iconst 1, 1) := by decide +kernel
theorem dX6_readRest_66 : decode cX6_readRest 66 = .ok (.goto 4, 3) := by decide +kernel
theorem dX6_readRest_69 : decode cX6_readRest 69 = .ok (.iconst 0, 1) := by decide +kernel
theorem dX6_readRest_70 : decode cX6_readRest 70 = .ok (.ireturn, 1) := by decide +kernel
theorem dX6_readRest_71 : decode cX6_readRest 71 = .ok (.lload_n 1, 1) := by decide +kernel
theorem dX6_readRest_72 : decode cX6_readRest 72 = .ok (.ldc2_w 157, 3) := by decide +kernel
theorem dX6_readRest_75 : decode cX6_readRest 75 = .ok (.lcmp, 1) := by decide +kernel
theorem dX6_readRest_76 : decode cX6_readRest 76 = .ok (.ifCond .ne 32, 3) := by decide +kernel
theorem dX6_readRest_79 : decode cX6_readRest 79 = .ok (.aload_n 0, 1) := by decide +kernel
theorem dX6_readRest_80 : decode cX6_readRest 80 = .ok (.iconst 0, 1) := by decide +kernel
theorem dX6_readRest_81 : decode cX6_readRest 81 = .ok (.iconst 0, 1) := by decide +kernel
theorem dX6_readRest_82 : decode cX6_readRest 82 = .ok (.sipush 999, 3) := by decide +kernel
theorem dX6_readRest_85 : decode cX6_readRest 85 = .ok (.invokevirtual 138, 3) := by decide +kernel
theorem dX6_readRest_88 : decode cX6_readRest 88 = .ok (.ifCond .eq 18, 3) := by decide +kernel
theorem dX6_readRest_91 : decode cX6_readRest 91 = .ok (.aload_n 0, 1) := by decide +kernel
theorem dX6_readRest_92 : decode cX6_readRest 92 = .ok (.iconst 1, 1) := by decide +kernel
theorem dX6_readRest_93 : decode cX6_readRest 93 = .ok (.iconst 0, 1) := by decide +kernel
theorem dX6_readRest_94 : decode cX6_readRest 94 = .ok (.bipush 23, 2) := by decide +kernel
theorem dX6_readRest_96 : decode cX6_readRest 96 = .ok (.invokevirtual 138, 3) := by decide +kernel
theorem dX6_readRest_99 : decode cX6_readRest 99 = .ok (.ifCond .eq 7, 3) := by decide +kernel
theorem dX6_readRest_102 : decode cX6_readRest 102 = .ok (.iconst 1, 1) := by decide +kernel
theorem dX6_readRest_103 : decode cX6_readRest 103 = .ok (.goto 4, 3) := by decide +kernel
theorem dX6_readRest_106 : decode cX6_readRest 106 = .ok (.iconst 0, 1) := by decide +kernel
theorem dX6_readRest_107 : decode cX6_readRest 107 = .ok (.ireturn, 1) := by decide +kernel
theorem dX6_readRest_108 : decode cX6_readRest 108 = .ok (.lload_n 1, 1) := by decide +kernel
theorem dX6_readRest_109 : decode cX6_readRest 109 = .ok (.ldc2_w 159, 3) := by decide +kernel
theorem dX6_readRest_112 : decode cX6_readRest 112 = .ok (.lcmp, 1) := by decide +kernel
theorem dX6_readRest_113 : decode cX6_readRest 113 = .ok (.ifCond .ne 8, 3) := by decide +kernel
theorem dX6_readRest_116 : decode cX6_readRest 116 = .ok (.aload_n 0, 1) := by decide +kernel
theorem dX6_readRest_117 : decode cX6_readRest 117 = .ok (.invokevirtual 161, 3) := by decide +kernel
theorem dX6_readRest_120 : decode cX6_readRest 120 = .ok (.ireturn, 1) := by decide +kernel
theorem dX6_readRest_121 : decode cX6_readRest 121 = .ok (.lload_n 1, 1) := by decide +kernel
theorem dX6_readRest_122 : decode cX6_readRest 122 = .ok (.ldc2_w 164, 3) := by decide +kernel
theorem dX6_readRest_125 : decode cX6_readRest 125 = .ok (.lcmp, 1) := by decide +kernel
theorem dX6_readRest_126 : decode cX6_readRest 126 = .ok (.ifCond .ne 8, 3) := by decide +kernel
theorem dX6_readRest_129 : decode cX6_readRest 129 = .ok (.aload_n 0, 1) := by decide +kernel
theorem dX6_readRest_130 : decode cX6_readRest 130 = .ok (.invokevirtual 166, 3) := by decide +kernel
theorem dX6_readRest_133 : decode cX6_readRest 133 = .ok (.ireturn, 1) := by decide +kernel
theorem dX6_readRest_134 : decode cX6_readRest 134 = .ok (.lload_n 1, 1) := by decide +kernel
theorem dX6_readRest_135 : decode cX6_readRest 135 = .ok (.ldc2_w 169, 3) := by decide +kernel
theorem dX6_readRest_138 : decode cX6_readRest 138 = .ok (.lcmp, 1) := by decide +kernel
theorem dX6_readRest_139 : decode cX6_readRest 139 = .ok (.ifCond .ne 41, 3) := by decide +kernel
theorem dX6_readRest_142 : decode cX6_readRest 142 = .ok (.aload_n 0, 1) := by decide +kernel
theorem dX6_readRest_143 : decode cX6_readRest 143 = .ok (.invokevirtual 141, 3) := by decide +kernel
theorem dX6_readRest_146 : decode cX6_readRest 146 = .ok (.ifCond .eq 30, 3) := by decide +kernel
theorem dX6_readRest_149 : decode cX6_readRest 149 = .ok (.aload_n 0, 1) := by decide +kernel
theorem dX6_readRest_150 : decode cX6_readRest 150 = .ok (.iconst 1, 1) := by decide +kernel
theorem dX6_readRest_151 : decode cX6_readRest 151 = .ok (.iconst 0, 1) := by decide +kernel
theorem dX6_readRest_152 : decode cX6_readRest 152 = .ok (.aload_n 0, 1) := by decide +kernel
theorem dX6_readRest_153 : decode cX6_readRest 153 = .ok (.aload_n 0, 1) := by decide +kernel
theorem dX6_readRest_154 : decode cX6_readRest 154 = .ok (.getfield 25, 3) := by decide +kernel
theorem dX6_readRest_157 : decode cX6_readRest 157 = .ok (.iconst 0, 1) := by decide +kernel
theorem dX6_readRest_158 : decode cX6_readRest 158 = .ok (.iaload, 1) := by decide +kernel
theorem dX6_readRest_159 : decode cX6_readRest 159 = .ok (.bipush 7, 2) := by decide +kernel
theorem dX6_readRest_161 : decode cX6_readRest 161 = .ok (.invokevirtual 50, 3) := by decide +kernel
theorem dX6_readRest_164 : decode cX6_readRest 164 = .ok (.iconst 1, 1) := by decide +kernel
theorem dX6_readRest_165 : decode cX6_readRest 165 = .ok (.isub, 1) := by decide +kernel
theorem dX6_readRest_166 : decode cX6_readRest 166 = .ok (.invokevirtual 138, 3) := by decide +kernel
theorem dX6_readRest_169 : decode cX6_readRest 169 = .ok (.ifCond .eq 7, 3) := by decide +kernel
theorem dX6_readRest_172 : decode cX6_readRest 172 = .ok (.iconst 1, 1) := by decide +kernel
theorem dX6_readRest_173 : decode cX6_readRest 173 = .ok (.goto 13, 3) := by decide +kernel
theorem dX6_readRest_176 : decode cX6_readRest 176 = .ok (.iconst 0, 1) := by decide +kernel
theorem dX6_readRest_177 : decode cX6_readRest 177 = .ok (.goto 9, 3) := by decide +kernel
theorem dX6_readRest_180 : decode cX6_readRest 180 = .ok (.aload_n 0, 1) := by decide +kernel
theorem dX6_readRest_181 : decode cX6_readRest 181 = .ok (.iconst 1, 1) := by decide +kernel
theorem dX6_readRest_182 : decode cX6_readRest 182 = .ok (.iload_n 3, 1) := by decide +kernel
theorem dX6_readRest_183 : decode cX6_readRest 183 = .ok (.invokevirtual 133, 3) := by decide +kernel
theorem dX6_readRest_186 : decode cX6_readRest 186 = .ok (.ireturn, 1) := by decide +kernel
theorem dX6_does_0 : decode cX6_does 0 = .ok (.lload_n 1, 1) := by decide +kernel
theorem dX6_does_1 : decode cX6_does 1 = .ok (.ldc2_w 153, 3) := by decide +kernel
theorem dX6_does_4 : decode cX6_does 4 = .ok (.lcmp, 1) := by decide +kernel
theorem dX6_does_5 : decode cX6_does 5 = .ok (.ifCond .ne 33, 3) := by decide +kernel
theorem dX6_does_8 : decode cX6_does 8 = .ok (.aload_n 0, 1) := by decide +kernel
theorem dX6_does_9 : decode cX6_does 9 = .ok (.getfield 7, 3) := by decide +kernel
theorem dX6_does_12 : decode cX6_does 12 = .ok (.iconst 2, 1) := by decide +kernel
theorem dX6_does_13 : decode cX6_does 13 = .ok (.iaload, 1) := by decide +kernel
theorem dX6_does_14 : decode cX6_does 14 = .ok (.bipush 6, 2) := by decide +kernel
theorem dX6_does_16 : decode cX6_does 16 = .ok (.if_icmp .ge 20, 3) := by decide +kernel
theorem dX6_does_19 : decode cX6_does 19 = .ok (.aload_n 0, 1) := by decide +kernel
theorem dX6_does_20 : decode cX6_does 20 = .ok (.aload_n 0, 1) := by decide +kernel
theorem dX6_does_21 : decode cX6_does 21 = .ok (.getfield 25, 3) := by decide +kernel
theorem dX6_does_24 : decode cX6_does 24 = .ok (.iconst 0, 1) := by decide +kernel
theorem dX6_does_25 : decode cX6_does 25 = .ok (.iaload, 1) := by decide +kernel
theorem dX6_does_26 : decode cX6_does 26 = .ok (.invokevirtual 77, 3) := by decide +kernel
theorem dX6_does_29 : decode cX6_does 29 = .ok (.ifCond .lt 7, 3) := by decide +kernel
theorem dX6_does_32 : decode cX6_does 32 = .ok (.iconst 1, 1) := by decide +kernel
theorem dX6_does_33 : decode cX6_does 33 = .ok (.goto 4, 3) := by decide +kernel
theorem dX6_does_36 : decode cX6_does 36 = .ok (.iconst 0, 1) := by decide +kernel
theorem dX6_does_37 : decode cX6_does 37 = .ok (.ireturn, 1) := by decide +kernel
theorem dX6_does_38 : decode cX6_does 38 = .ok (.lload_n 1, 1) := by decide +kernel
theorem dX6_does_39 : decode cX6_does 39 = .ok (.ldc2_w 155, 3) := by decide +kernel
theorem dX6_does_42 : decode cX6_does 42 = .ok (.lcmp, 1) := by decide +kernel
theorem dX6_does_43 : decode cX6_does 43 = .ok (.ifCond .ne 24, 3) := by decide +kernel
theorem dX6_does_46 : decode cX6_does 46 = .ok (.aload_n 0, 1) := by decide +kernel
theorem dX6_does_47 : decode cX6_does 47 = .ok (.getfield 7, 3) := by decide +kernel
theorem dX6_does_50 : decode cX6_does 50 = .ok (.iconst 3, 1) := by decide +kernel
theorem dX6_does_51 : decode cX6_does 51 = .ok (.aload_n 0, 1) := by decide +kernel
theorem dX6_does_52 : decode cX6_does 52 = .ok (.getfield 25, 3) := by decide +kernel
theorem dX6_does_55 : decode cX6_does 55 = .ok (.iconst 0, 1) := by decide +kernel
theorem dX6_does_56 : decode cX6_does 56 = .ok (.iaload, 1) := by decide +kernel
theorem dX6_does_57 : decode cX6_does 57 = .ok (.iadd, 1) := by decide +kernel
theorem dX6_does_58 : decode cX6_does 58 = .ok (.aload_n 0, 1) := by decide +kernel
theorem dX6_does_59 : decode cX6_does 59 = .ok (.getfield 25, 3) := by decide +kernel
theorem dX6_does_62 : decode cX6_does 62 = .ok (.iconst 1, 1) := by decide +kernel
theorem dX6_does_63 : decode cX6_does 63 = .ok (.iaload, 1) := by decide +kernel
theorem dX6_does_64 : decode cX6_does 64 = .ok (.iastore, 1) := by decide +kernel
theorem dX6_does_65 : decode cX6_does 65 = .ok (.iconst 1, 1) := by decide +kernel
theorem dX6_does_66 : decode cX6_does 66 = .ok (.ireturn, 1) := by decide +kernel
theorem dX6_does_67 : decode cX6_does 67 = .ok (.lload_n 1, 1) := by decide +kernel
theorem dX6_does_68 : decode cX6_does 68 = .ok (.ldc2_w 157, 3) := by decide +kernel
theorem dX6_does_71 : decode cX6_does 71 = .ok (.lcmp, 1) := by decide +kernel
theorem dX6_does_72 : decode cX6_does 72 = .ok (.ifCond .ne 47, 3) := by decide +kernel
theorem dX6_does_75 : decode cX6_does 75 = .ok (.aload_n 0, 1) := by decide +kernel
theorem dX6_does_76 : decode cX6_does 76 = .ok (.aload_n 0, 1) := by decide +kernel
theorem dX6_does_77 : decode cX6_does 77 = .ok (.getfield 25, 3) := by decide +kernel
theorem dX6_does_80 : decode cX6_does 80 = .ok (.iconst 0, 1) := by decide +kernel
theorem dX6_does_81 : decode cX6_does 81 = .ok (.iaload, 1) := by decide +kernel
theorem dX6_does_82 : decode cX6_does 82 = .ok (.aload_n 0, 1) := by decide +kernel
theorem dX6_does_83 : decode cX6_does 83 = .ok (.getfield 25, 3) := by decide +kernel
theorem dX6_does_86 : decode cX6_does 86 = .ok (.iconst 1, 1) := by decide +kernel
theorem dX6_does_87 : decode cX6_does 87 = .ok (.iaload, 1) := by decide +kernel
theorem dX6_does_88 : decode cX6_does 88 = .ok (.invokevirtual 81, 3) := by decide +kernel
theorem dX6_does_91 : decode cX6_does 91 = .ok (.ifCond .eq 26, 3) := by decide +kernel
theorem dX6_does_94 : decode cX6_does 94 = .ok (.aload_n 0, 1) := by decide +kernel
theorem dX6_does_95 : decode cX6_does 95 = .ok (.aload_n 0, 1) := by decide +kernel
theorem dX6_does_96 : decode cX6_does 96 = .ok (.getfield 25, 3) := by decide +kernel
theorem dX6_does_99 : decode cX6_does 99 = .ok (.iconst 0, 1) := by decide +kernel
theorem dX6_does_100 : decode cX6_does 100 = .ok (.iaload, 1) := by decide +kernel
theorem dX6_does_101 : decode cX6_does 101 = .ok (.aload_n 0, 1) := by decide +kernel
theorem dX6_does_102 : decode cX6_does 102 = .ok (.getfield 25, 3) := by decide +kernel
theorem dX6_does_105 : decode cX6_does 105 = .ok (.iconst 1, 1) := by decide +kernel
theorem dX6_does_106 : decode cX6_does 106 = .ok (.iaload, 1) := by decide +kernel
theorem dX6_does_107 : decode cX6_does 107 = .ok (.invokevirtual 84, 3) := by decide +kernel
theorem dX6_does_110 : decode cX6_does 110 = .ok (.ifCond .lt 7, 3) := by decide +kernel
theorem dX6_does_113 : decode cX6_does 113 = .ok (.iconst 1, 1) := by decide +kernel
theorem dX6_does_114 : decode cX6_does 114 = .ok (.goto 4, 3) := by decide +kernel
theorem dX6_does_117 : decode cX6_does 117 = .ok (.iconst 0, 1) := by decide +kernel
theorem dX6_does_118 : decode cX6_does 118 = .ok (.ireturn, 1) := by decide +kernel
theorem dX6_does_119 : decode cX6_does 119 = .ok (.lload_n 1, 1) := by decide +kernel
theorem dX6_does_120 : decode cX6_does 120 = .ok (.ldc2_w 159, 3) := by decide +kernel
theorem dX6_does_123 : decode cX6_does 123 = .ok (.lcmp, 1) := by decide +kernel
theorem dX6_does_124 : decode cX6_does 124 = .ok (.ifCond .ne 71, 3) := by decide +kernel
theorem dX6_does_127 : decode cX6_does 127 = .ok (.aload_n 0, 1) := by decide +kernel
theorem dX6_does_128 : decode cX6_does 128 = .ok (.aload_n 0, 1) := by decide +kernel
theorem dX6_does_129 : decode cX6_does 129 = .ok (.getfield 25, 3) := by decide +kernel
theorem dX6_does_132 : decode cX6_does 132 = .ok (.iconst 0, 1) := by decide +kernel
theorem dX6_does_133 : decode cX6_does 133 = .ok (.iaload, 1) := by decide +kernel
theorem dX6_does_134 : decode cX6_does 134 = .ok (.aload_n 0, 1) := by decide +kernel
theorem dX6_does_135 : decode cX6_does 135 = .ok (.getfield 25, 3) := by decide +kernel
theorem dX6_does_138 : decode cX6_does 138 = .ok (.iconst 1, 1) := by decide +kernel
theorem dX6_does_139 : decode cX6_does 139 = .ok (.iaload, 1) := by decide +kernel
theorem dX6_does_140 : decode cX6_does 140 = .ok (.aload_n 0, 1) := by decide +kernel
theorem dX6_does_141 : decode cX6_does 141 = .ok (.getfield 25, 3) := by decide +kernel
theorem dX6_does_144 : decode cX6_does 144 = .ok (.iconst 3, 1) := by decide +kernel
theorem dX6_does_145 : decode cX6_does 145 = .ok (.iaload, 1) := by decide +kernel
theorem dX6_does_146 : decode cX6_does 146 = .ok (.invokevirtual 91, 3) := by decide +kernel
theorem dX6_does_149 : decode cX6_does 149 = .ok (.ifCond .eq 44, 3) := by decide +kernel
theorem dX6_does_152 : decode cX6_does 152 = .ok (.aload_n 0, 1) := by decide +kernel
theorem dX6_does_153 : decode cX6_does 153 = .ok (.aload_n 0, 1) := by decide +kernel
theorem dX6_does_154 : decode cX6_does 154 = .ok (.getfield 25, 3) := by decide +kernel
theorem dX6_does_157 : decode cX6_does 157 = .ok (.iconst 0, 1) := by decide +kernel
theorem dX6_does_158 : decode cX6_does 158 = .ok (.iaload, 1) := by decide +kernel
theorem dX6_does_159 : decode cX6_does 159 = .ok (.aload_n 0, 1) := by decide +kernel
theorem dX6_does_160 : decode cX6_does 160 = .ok (.getfield 25, 3) := by decide +kernel
theorem dX6_does_163 : decode cX6_does 163 = .ok (.iconst 1, 1) := by decide +kernel
theorem dX6_does_164 : decode cX6_does 164 = .ok (.iaload, 1) := by decide +kernel
theorem dX6_does_165 : decode cX6_does 165 = .ok (.aload_n 0, 1) := by decide +kernel
theorem dX6_does_166 : decode cX6_does 166 = .ok (.getfield 25, 3) := by decide +kernel
theorem dX6_does_169 : decode cX6_does 169 = .ok (.iconst 2, 1) := by decide +kernel
theorem dX6_does_170 : decode cX6_does 170 = .ok (.iaload, 1) := by decide +kernel
theorem dX6_does_171 : decode cX6_does 171 = .ok (.aload_n 0, 1) := by decide +kernel
theorem dX6_does_172 : decode cX6_does 172 = .ok (.getfield 25, 3) := by decide +kernel
theorem dX6_does_175 : decode cX6_does 175 = .ok (.iconst 3, 1) := by decide +kernel
theorem dX6_does_176 : decode cX6_does 176 = .ok (.iaload, 1) := by decide +kernel
theorem dX6_does_177 : decode cX6_does 177 = .ok (.aload_n 0, 1) := by decide +kernel
theorem dX6_does_178 : decode cX6_does 178 = .ok (.getfield 25, 3) := by decide +kernel
theorem dX6_does_181 : decode cX6_does 181 = .ok (.iconst 4, 1) := by decide +kernel
theorem dX6_does_182 : decode cX6_does 182 = .ok (.iaload, 1) := by decide +kernel
theorem dX6_does_183 : decode cX6_does 183 = .ok (.invokevirtual 94, 3) := by decide +kernel
theorem dX6_does_186 : decode cX6_does 186 = .ok (.ifCond .lt 7, 3) := by decide +kernel
theorem dX6_does_189 : decode cX6_does 189 = .ok (.iconst 1, 1) := by decide +kernel
theorem dX6_does_190 : decode cX6_does 190 = .ok (.goto 4, 3) := by decide +kernel
theorem dX6_does_193 : decode cX6_does 193 = .ok (.iconst 0, 1) := by decide +kernel
theorem dX6_does_194 : decode cX6_does 194 = .ok (.ireturn, 1) := by decide +kernel
theorem dX6_does_195 : decode cX6_does 195 = .ok (.lload_n 1, 1) := by decide +kernel
theorem dX6_does_196 : decode cX6_does 196 = .ok (.ldc2_w 164, 3) := by decide +kernel
theorem dX6_does_199 : decode cX6_does 199 = .ok (.lcmp, 1) := by decide +kernel
theorem dX6_does_200 : decode cX6_does 200 = .ok (.ifCond .ne 43, 3) := by decide +kernel
theorem dX6_does_203 : decode cX6_does 203 = .ok (.aload_n 0, 1) := by decide +kernel
theorem dX6_does_204 : decode cX6_does 204 = .ok (.aload_n 0, 1) := by decide +kernel
theorem dX6_does_205 : decode cX6_does 205 = .ok (.getfield 25, 3) := by decide +kernel
theorem dX6_does_208 : decode cX6_does 208 = .ok (.iconst 0, 1) := by decide +kernel
theorem dX6_does_209 : decode cX6_does 209 = .ok (.iaload, 1) := by decide +kernel
theorem dX6_does_210 : decode cX6_does 210 = .ok (.aload_n 0, 1) := by decide +kernel
theorem dX6_does_211 : decode cX6_does 211 = .ok (.getfield 25, 3) := by decide +kernel
theorem dX6_does_214 : decode cX6_does 214 = .ok (.iconst 1, 1) := by decide +kernel
theorem dX6_does_215 : decode cX6_does 215 = .ok (.iaload, 1) := by decide +kernel
theorem dX6_does_216 : decode cX6_does 216 = .ok (.aload_n 0, 1) := by decide +kernel
theorem dX6_does_217 : decode cX6_does 217 = .ok (.getfield 25, 3) := by decide +kernel
theorem dX6_does_220 : decode cX6_does 220 = .ok (.iconst 2, 1) := by decide +kernel
theorem dX6_does_221 : decode cX6_does 221 = .ok (.iaload, 1) := by decide +kernel
theorem dX6_does_222 : decode cX6_does 222 = .ok (.iconst 1, 1) := by decide +kernel
theorem dX6_does_223 : decode cX6_does 223 = .ok (.if_icmp .ne 7, 3) := by decide +kernel
theorem dX6_does_226 : decode cX6_does 226 = .ok (.iconst 1, 1) := by decide +kernel
theorem dX6_does_227 : decode cX6_does 227 = .ok (.goto 4, 3) := by decide +kernel
theorem dX6_does_230 : decode cX6_does 230 = .ok (.iconst 0, 1) := by decide +kernel
theorem dX6_does_231 : decode cX6_does 231 = .ok (.invokevirtual 98, 3) := by decide +kernel
theorem dX6_does_234 : decode cX6_does 234 = .ok (.ifCond .lt 7, 3) := by decide +kernel
theorem dX6_does_237 : decode cX6_does 237 = .ok (.iconst 1, 1) := by decide +kernel
theorem dX6_does_238 : decode cX6_does 238 = .ok (.goto 4, 3) := by decide +kernel
theorem dX6_does_241 : decode cX6_does 241 = .ok (.iconst 0, 1) := by decide +kernel
theorem dX6_does_242 : decode cX6_does 242 = .ok (.ireturn, 1) := by decide +kernel
theorem dX6_does_243 : decode cX6_does 243 = .ok (.aload_n 0, 1) := by decide +kernel
theorem dX6_does_244 : decode cX6_does 244 = .ok (.aload_n 0, 1) := by decide +kernel
theorem dX6_does_245 : decode cX6_does 245 = .ok (.getfield 25, 3) := by decide +kernel
theorem dX6_does_248 : decode cX6_does 248 = .ok (.iconst 0, 1) := by decide +kernel
theorem dX6_does_249 : decode cX6_does 249 = .ok (.iaload, 1) := by decide +kernel
theorem dX6_does_250 : decode cX6_does 250 = .ok (.aload_n 0, 1) := by decide +kernel
theorem dX6_does_251 : decode cX6_does 251 = .ok (.getfield 25, 3) := by decide +kernel
theorem dX6_does_254 : decode cX6_does 254 = .ok (.iconst 1, 1) := by decide +kernel
theorem dX6_does_255 : decode cX6_does 255 = .ok (.iaload, 1) := by decide +kernel
theorem dX6_does_256 : decode cX6_does 256 = .ok (.invokevirtual 105, 3) := by decide +kernel
theorem dX6_does_259 : decode cX6_does 259 = .ok (.ireturn, 1) := by decide +kernel
theorem dX6_readStatement_0 : decode cX6_readStatement 0 = .ok (.aload_n 0, 1) := by decide +kernel
theorem dX6_readStatement_1 : decode cX6_readStatement 1 = .ok (.invokevirtual 129, 3) := by decide +kernel
theorem dX6_readStatement_4 : decode cX6_readStatement 4 = .ok (.bipush 97, 2) := by decide +kernel
theorem dX6_readStatement_6 : decode cX6_readStatement 6 = .ok (.bipush 122, 2) := by decide +kernel
theorem dX6_readStatement_8 : decode cX6_readStatement 8 = .ok (.invokestatic 42, 3) := by decide +kernel
theorem dX6_readStatement_11 : decode cX6_readStatement 11 = .ok (.ifCond .ne 13, 3) := by decide +kernel
theorem dX6_readStatement_14 : decode cX6_readStatement 14 = .ok (.aload_n 0, 1) := by decide +kernel
theorem dX6_readStatement_15 : decode cX6_readStatement 15 = .ok (.iconst 1, 1) := by decide +kernel
theorem dX6_readStatement_16 : decode cX6_readStatement 16 = .ok (.aload_n 0, 1) := by decide +kernel
theorem dX6_readStatement_17 : decode cX6_readStatement 17 = .ok (.getfield 114, 3) := by decide +kernel
theorem dX6_readStatement_20 : decode cX6_readStatement 20 = .ok (.invokevirtual 133, 3) := by decide +kernel
theorem dX6_readStatement_23 : decode cX6_readStatement 23 = .ok (.ireturn, 1) := by decide +kernel
theorem dX6_readStatement_24 : decode cX6_readStatement 24 = .ok (.aload_n 0, 1) := by decide +kernel
theorem dX6_readStatement_25 : decode cX6_readStatement 25 = .ok (.invokevirtual 145, 3) := by decide +kernel
theorem dX6_readStatement_28 : decode cX6_readStatement 28 = .ok (.lstore_n 1, 1) := by decide +kernel
theorem dX6_readStatement_29 : decode cX6_readStatement 29 = .ok (.aload_n 0, 1) := by decide +kernel
theorem dX6_readStatement_30 : decode cX6_readStatement 30 = .ok (.getfield 120, 3) := by decide +kernel
theorem dX6_readStatement_33 : decode cX6_readStatement 33 = .ok (.istore_n 3, 1) := by decide +kernel
theorem dX6_readStatement_34 : decode cX6_readStatement 34 = .ok (.aload_n 0, 1) := by decide +kernel
theorem dX6_readStatement_35 : decode cX6_readStatement 35 = .ok (.lload_n 1, 1) := by decide +kernel
theorem dX6_readStatement_36 : decode cX6_readStatement 36 = .ok (.iload_n 3, 1) := by decide +kernel
theorem dX6_readStatement_37 : decode cX6_readStatement 37 = .ok (.invokevirtual 171, 3) := by decide +kernel
theorem dX6_readStatement_40 : decode cX6_readStatement 40 = .ok (.ifCond .ne 5, 3) := by decide +kernel
theorem dX6_readStatement_43 : decode cX6_readStatement 43 = .ok (.iconst 0, 1) := by decide +kernel
theorem dX6_readStatement_44 : decode cX6_readStatement 44 = .ok (.ireturn, 1) := by decide +kernel
theorem dX6_readStatement_45 : decode cX6_readStatement 45 = .ok (.aload_n 0, 1) := by decide +kernel
theorem dX6_readStatement_46 : decode cX6_readStatement 46 = .ok (.invokevirtual 129, 3) := by decide +kernel
theorem dX6_readStatement_49 : decode cX6_readStatement 49 = .ok (.bipush 59, 2) := by decide +kernel
theorem dX6_readStatement_51 : decode cX6_readStatement 51 = .ok (.if_icmp .eq 13, 3) := by decide +kernel
theorem dX6_readStatement_54 : decode cX6_readStatement 54 = .ok (.aload_n 0, 1) := by decide +kernel
theorem dX6_readStatement_55 : decode cX6_readStatement 55 = .ok (.iconst 1, 1) := by decide +kernel
theorem dX6_readStatement_56 : decode cX6_readStatement 56 = .ok (.aload_n 0, 1) := by decide +kernel
theorem dX6_readStatement_57 : decode cX6_readStatement 57 = .ok (.getfield 114, 3) := by decide +kernel
theorem dX6_readStatement_60 : decode cX6_readStatement 60 = .ok (.invokevirtual 133, 3) := by decide +kernel
theorem dX6_readStatement_63 : decode cX6_readStatement 63 = .ok (.ireturn, 1) := by decide +kernel
theorem dX6_readStatement_64 : decode cX6_readStatement 64 = .ok (.aload_n 0, 1) := by decide +kernel
theorem dX6_readStatement_65 : decode cX6_readStatement 65 = .ok (.dup, 1) := by decide +kernel
theorem dX6_readStatement_66 : decode cX6_readStatement 66 = .ok (.getfield 114, 3) := by decide +kernel
theorem dX6_readStatement_69 : decode cX6_readStatement 69 = .ok (.iconst 1, 1) := by decide +kernel
theorem dX6_readStatement_70 : decode cX6_readStatement 70 = .ok (.iadd, 1) := by decide +kernel
theorem dX6_readStatement_71 : decode cX6_readStatement 71 = .ok (.putfield 114, 3) := by decide +kernel
theorem dX6_readStatement_74 : decode cX6_readStatement 74 = .ok (.aload_n 0, 1) := by decide +kernel
theorem dX6_readStatement_75 : decode cX6_readStatement 75 = .ok (.lload_n 1, 1) := by decide +kernel
theorem dX6_readStatement_76 : decode cX6_readStatement 76 = .ok (.invokevirtual 175, 3) := by decide +kernel
theorem dX6_readStatement_79 : decode cX6_readStatement 79 = .ok (.ifCond .ne 12, 3) := by decide +kernel
theorem dX6_readStatement_82 : decode cX6_readStatement 82 = .ok (.aload_n 0, 1) := by decide +kernel
theorem dX6_readStatement_83 : decode cX6_readStatement 83 = .ok (.iconst 3, 1) := by decide +kernel
theorem dX6_readStatement_84 : decode cX6_readStatement 84 = .ok (.iload_n 3, 1) := by decide +kernel
theorem dX6_readStatement_85 : decode cX6_readStatement 85 = .ok (.invokevirtual 133, 3) := by decide +kernel
theorem dX6_readStatement_88 : decode cX6_readStatement 88 = .ok (.ifCond .eq 7, 3) := by decide +kernel
theorem dX6_readStatement_91 : decode cX6_readStatement 91 = .ok (.iconst 1, 1) := by decide +kernel
theorem dX6_readStatement_92 : decode cX6_readStatement 92 = .ok (.goto 4, 3) := by decide +kernel
theorem dX6_readStatement_95 : decode cX6_readStatement 95 = .ok (.iconst 0, 1) := by decide +kernel
theorem dX6_readStatement_96 : decode cX6_readStatement 96 = .ok (.ireturn, 1) := by decide +kernel
theorem dX6_readText_0 : decode cX6_readText 0 = .ok (.aload_n 0, 1) := by decide +kernel
theorem dX6_readText_1 : decode cX6_readText 1 = .ok (.iconst 0, 1) := by decide +kernel
theorem dX6_readText_2 : decode cX6_readText 2 = .ok (.putfield 179, 3) := by decide +kernel
theorem dX6_readText_5 : decode cX6_readText 5 = .ok (.aload_n 0, 1) := by decide +kernel
theorem dX6_readText_6 : decode cX6_readText 6 = .ok (.iconst 0, 1) := by decide +kernel
theorem dX6_readText_7 : decode cX6_readText 7 = .ok (.putfield 114, 3) := by decide +kernel
theorem dX6_readText_10 : decode cX6_readText 10 = .ok (.aload_n 0, 1) := by decide +kernel
theorem dX6_readText_11 : decode cX6_readText 11 = .ok (.iconst 0, 1) := by decide +kernel
theorem dX6_readText_12 : decode cX6_readText 12 = .ok (.putfield 117, 3) := by decide +kernel
theorem dX6_readText_15 : decode cX6_readText 15 = .ok (.aload_n 0, 1) := by decide +kernel
theorem dX6_readText_16 : decode cX6_readText 16 = .ok (.invokevirtual 129, 3) := by decide +kernel
theorem dX6_readText_19 : decode cX6_readText 19 = .ok (.iconst (-1), 1) := by decide +kernel
theorem dX6_readText_20 : decode cX6_readText 20 = .ok (.if_icmp .eq 25, 3) := by decide +kernel
theorem dX6_readText_23 : decode cX6_readText 23 = .ok (.aload_n 0, 1) := by decide +kernel
theorem dX6_readText_24 : decode cX6_readText 24 = .ok (.invokevirtual 182, 3) := by decide +kernel
theorem dX6_readText_27 : decode cX6_readText 27 = .ok (.ifCond .ne 5, 3) := by decide +kernel
theorem dX6_readText_30 : decode cX6_readText 30 = .ok (.iconst 0, 1) := by decide +kernel
theorem dX6_readText_31 : decode cX6_readText 31 = .ok (.ireturn, 1) := by decide +kernel
theorem dX6_readText_32 : decode cX6_readText 32 = .ok (.aload_n 0, 1) := by decide +kernel
theorem dX6_readText_33 : decode cX6_readText 33 = .ok (.dup, 1) := by decide +kernel
theorem dX6_readText_34 : decode cX6_readText 34 = .ok (.getfield 179, 3) := by decide +kernel
theorem dX6_readText_37 : decode cX6_readText 37 = .ok (.iconst 1, 1) := by decide +kernel
theorem dX6_readText_38 : decode cX6_readText 38 = .ok (.iadd, 1) := by decide +kernel
theorem dX6_readText_39 : decode cX6_readText 39 = .ok (.putfield 179, 3) := by decide +kernel
theorem dX6_readText_42 : decode cX6_readText 42 = .ok (.goto (-27), 3) := by decide +kernel
theorem dX6_readText_45 : decode cX6_readText 45 = .ok (.iconst 1, 1) := by decide +kernel
theorem dX6_readText_46 : decode cX6_readText 46 = .ok (.ireturn, 1) := by decide +kernel
theorem dX6_tell_0 : decode cX6_tell 0 = .ok (.aload_n 0, 1) := by decide +kernel
theorem dX6_tell_1 : decode cX6_tell 1 = .ok (.iconst 0, 1) := by decide +kernel
theorem dX6_tell_2 : decode cX6_tell 2 = .ok (.putfield 38, 3) := by decide +kernel
theorem dX6_tell_5 : decode cX6_tell 5 = .ok (.iconst 0, 1) := by decide +kernel
theorem dX6_tell_6 : decode cX6_tell 6 = .ok (.istore_n 1, 1) := by decide +kernel
theorem dX6_tell_7 : decode cX6_tell 7 = .ok (.iload_n 1, 1) := by decide +kernel
theorem dX6_tell_8 : decode cX6_tell 8 = .ok (.sipush 7737, 3) := by decide +kernel
theorem dX6_tell_11 : decode cX6_tell 11 = .ok (.if_icmp .ge 21, 3) := by decide +kernel
theorem dX6_tell_14 : decode cX6_tell 14 = .ok (.aload_n 0, 1) := by decide +kernel
theorem dX6_tell_15 : decode cX6_tell 15 = .ok (.getfield 13, 3) := by decide +kernel
theorem dX6_tell_18 : decode cX6_tell 18 = .ok (.iload_n 1, 1) := by decide +kernel
theorem dX6_tell_19 : decode cX6_tell 19 = .ok (.aload_n 0, 1) := by decide +kernel
theorem dX6_tell_20 : decode cX6_tell 20 = .ok (.getfield 7, 3) := by decide +kernel
theorem dX6_tell_23 : decode cX6_tell 23 = .ok (.iload_n 1, 1) := by decide +kernel
theorem dX6_tell_24 : decode cX6_tell 24 = .ok (.iaload, 1) := by decide +kernel
theorem dX6_tell_25 : decode cX6_tell 25 = .ok (.iastore, 1) := by decide +kernel
theorem dX6_tell_26 : decode cX6_tell 26 = .ok (.iinc 1 1, 3) := by decide +kernel
theorem dX6_tell_29 : decode cX6_tell 29 = .ok (.goto (-22), 3) := by decide +kernel
theorem dX6_tell_32 : decode cX6_tell 32 = .ok (.aload_n 0, 1) := by decide +kernel
theorem dX6_tell_33 : decode cX6_tell 33 = .ok (.invokevirtual 185, 3) := by decide +kernel
theorem dX6_tell_36 : decode cX6_tell 36 = .ok (.istore_n 1, 1) := by decide +kernel
theorem dX6_tell_37 : decode cX6_tell 37 = .ok (.aload_n 0, 1) := by decide +kernel
theorem dX6_tell_38 : decode cX6_tell 38 = .ok (.iconst 0, 1) := by decide +kernel
theorem dX6_tell_39 : decode cX6_tell 39 = .ok (.putfield 108, 3) := by decide +kernel
theorem dX6_tell_42 : decode cX6_tell 42 = .ok (.aload_n 0, 1) := by decide +kernel
theorem dX6_tell_43 : decode cX6_tell 43 = .ok (.aload_n 0, 1) := by decide +kernel
theorem dX6_tell_44 : decode cX6_tell 44 = .ok (.getfield 117, 3) := by decide +kernel
theorem dX6_tell_47 : decode cX6_tell 47 = .ok (.putfield 188, 3) := by decide +kernel
theorem dX6_tell_50 : decode cX6_tell 50 = .ok (.iload_n 1, 1) := by decide +kernel
theorem dX6_tell_51 : decode cX6_tell 51 = .ok (.ifCond .eq 8, 3) := by decide +kernel
theorem dX6_tell_54 : decode cX6_tell 54 = .ok (.aload_n 0, 1) := by decide +kernel
theorem dX6_tell_55 : decode cX6_tell 55 = .ok (.getfield 179, 3) := by decide +kernel
theorem dX6_tell_58 : decode cX6_tell 58 = .ok (.ireturn, 1) := by decide +kernel
theorem dX6_tell_59 : decode cX6_tell 59 = .ok (.iconst 0, 1) := by decide +kernel
theorem dX6_tell_60 : decode cX6_tell 60 = .ok (.istore_n 2, 1) := by decide +kernel
theorem dX6_tell_61 : decode cX6_tell 61 = .ok (.iload_n 2, 1) := by decide +kernel
theorem dX6_tell_62 : decode cX6_tell 62 = .ok (.sipush 7737, 3) := by decide +kernel
theorem dX6_tell_65 : decode cX6_tell 65 = .ok (.if_icmp .ge 21, 3) := by decide +kernel
theorem dX6_tell_68 : decode cX6_tell 68 = .ok (.aload_n 0, 1) := by decide +kernel
theorem dX6_tell_69 : decode cX6_tell 69 = .ok (.getfield 7, 3) := by decide +kernel
theorem dX6_tell_72 : decode cX6_tell 72 = .ok (.iload_n 2, 1) := by decide +kernel
theorem dX6_tell_73 : decode cX6_tell 73 = .ok (.aload_n 0, 1) := by decide +kernel
theorem dX6_tell_74 : decode cX6_tell 74 = .ok (.getfield 13, 3) := by decide +kernel
theorem dX6_tell_77 : decode cX6_tell 77 = .ok (.iload_n 2, 1) := by decide +kernel
theorem dX6_tell_78 : decode cX6_tell 78 = .ok (.iaload, 1) := by decide +kernel
theorem dX6_tell_79 : decode cX6_tell 79 = .ok (.iastore, 1) := by decide +kernel
theorem dX6_tell_80 : decode cX6_tell 80 = .ok (.iinc 2 1, 3) := by decide +kernel
theorem dX6_tell_83 : decode cX6_tell 83 = .ok (.goto (-22), 3) := by decide +kernel
theorem dX6_tell_86 : decode cX6_tell 86 = .ok (.iconst (-1), 1) := by decide +kernel
theorem dX6_tell_87 : decode cX6_tell 87 = .ok (.ireturn, 1) := by decide +kernel
theorem dX6_fault_0 : decode cX6_fault 0 = .ok (.aload_n 0, 1) := by decide +kernel
theorem dX6_fault_1 : decode cX6_fault 1 = .ok (.iconst 0, 1) := by decide +kernel
theorem dX6_fault_2 : decode cX6_fault 2 = .ok (.putfield 38, 3) := by decide +kernel
theorem dX6_fault_5 : decode cX6_fault 5 = .ok (.aload_n 0, 1) := by decide +kernel
theorem dX6_fault_6 : decode cX6_fault 6 = .ok (.getfield 188, 3) := by decide +kernel
theorem dX6_fault_9 : decode cX6_fault 9 = .ok (.ireturn, 1) := by decide +kernel
theorem dX6_dayOf_0 : decode cX6_dayOf 0 = .ok (.iload_n 2, 1) := by decide +kernel
theorem dX6_dayOf_1 : decode cX6_dayOf 1 = .ok (.aload_n 0, 1) := by decide +kernel
theorem dX6_dayOf_2 : decode cX6_dayOf 2 = .ok (.iload_n 1, 1) := by decide +kernel
theorem dX6_dayOf_3 : decode cX6_dayOf 3 = .ok (.bipush 7, 2) := by decide +kernel
theorem dX6_dayOf_5 : decode cX6_dayOf 5 = .ok (.invokevirtual 50, 3) := by decide +kernel
theorem dX6_dayOf_8 : decode cX6_dayOf 8 = .ok (.if_icmp .ne 12, 3) := by decide +kernel
theorem dX6_dayOf_11 : decode cX6_dayOf 11 = .ok (.aload_n 0, 1) := by decide +kernel
theorem dX6_dayOf_12 : decode cX6_dayOf 12 = .ok (.getfield 7, 3) := by decide +kernel
theorem dX6_dayOf_15 : decode cX6_dayOf 15 = .ok (.iconst 0, 1) := by decide +kernel
theorem dX6_dayOf_16 : decode cX6_dayOf 16 = .ok (.iaload, 1) := by decide +kernel
theorem dX6_dayOf_17 : decode cX6_dayOf 17 = .ok (.goto 18, 3) := by decide +kernel
theorem dX6_dayOf_20 : decode cX6_dayOf 20 = .ok (.aload_n 0, 1) := by decide +kernel
theorem dX6_dayOf_21 : decode cX6_dayOf 21 = .ok (.getfield 7, 3) := by decide +kernel
theorem dX6_dayOf_24 : decode cX6_dayOf 24 = .ok (.iload_n 1, 1) := by decide +kernel
theorem dX6_dayOf_25 : decode cX6_dayOf 25 = .ok (.bipush 8, 2) := by decide +kernel
theorem dX6_dayOf_27 : decode cX6_dayOf 27 = .ok (.iconst 3, 1) := by decide +kernel
theorem dX6_dayOf_28 : decode cX6_dayOf 28 = .ok (.iload_n 2, 1) := by decide +kernel
theorem dX6_dayOf_29 : decode cX6_dayOf 29 = .ok (.imul, 1) := by decide +kernel
theorem dX6_dayOf_30 : decode cX6_dayOf 30 = .ok (.iadd, 1) := by decide +kernel
theorem dX6_dayOf_31 : decode cX6_dayOf 31 = .ok (.invokestatic 46, 3) := by decide +kernel
theorem dX6_dayOf_34 : decode cX6_dayOf 34 = .ok (.iaload, 1) := by decide +kernel
theorem dX6_dayOf_35 : decode cX6_dayOf 35 = .ok (.ireturn, 1) := by decide +kernel
theorem dX6_openBehind_0 : decode cX6_openBehind 0 = .ok (.iconst 0, 1) := by decide +kernel
theorem dX6_openBehind_1 : decode cX6_openBehind 1 = .ok (.istore 4, 2) := by decide +kernel
theorem dX6_openBehind_3 : decode cX6_openBehind 3 = .ok (.iconst 0, 1) := by decide +kernel
theorem dX6_openBehind_4 : decode cX6_openBehind 4 = .ok (.istore 5, 2) := by decide +kernel
theorem dX6_openBehind_6 : decode cX6_openBehind 6 = .ok (.iload 5, 2) := by decide +kernel
theorem dX6_openBehind_8 : decode cX6_openBehind 8 = .ok (.iload_n 2, 1) := by decide +kernel
theorem dX6_openBehind_9 : decode cX6_openBehind 9 = .ok (.if_icmp .ge 40, 3) := by decide +kernel
theorem dX6_openBehind_12 : decode cX6_openBehind 12 = .ok (.iload 4, 2) := by decide +kernel
theorem dX6_openBehind_14 : decode cX6_openBehind 14 = .ok (.aload_n 0, 1) := by decide +kernel
theorem dX6_openBehind_15 : decode cX6_openBehind 15 = .ok (.getfield 32, 3) := by decide +kernel
theorem dX6_openBehind_18 : decode cX6_openBehind 18 = .ok (.iload 5, 2) := by decide +kernel
theorem dX6_openBehind_20 : decode cX6_openBehind 20 = .ok (.baload, 1) := by decide +kernel
theorem dX6_openBehind_21 : decode cX6_openBehind 21 = .ok (.ifCond .eq 18, 3) := by decide +kernel
theorem dX6_openBehind_24 : decode cX6_openBehind 24 = .ok (.aload_n 0, 1) := by decide +kernel
theorem dX6_openBehind_25 : decode cX6_openBehind 25 = .ok (.iload_n 1, 1) := by decide +kernel
theorem dX6_openBehind_26 : decode cX6_openBehind 26 = .ok (.iload 5, 2) := by decide +kernel
theorem dX6_openBehind_28 : decode cX6_openBehind 28 = .ok (.invokevirtual 191, 3) := by decide +kernel
theorem dX6_openBehind_31 : decode cX6_openBehind 31 = .ok (.iload_n 3, 1) := by decide +kernel
theorem dX6_openBehind_32 : decode cX6_openBehind 32 = .ok (.if_icmp .le 7, 3) := by decide +kernel
theorem dX6_openBehind_35 : decode cX6_openBehind 35 = .ok (.iconst 1, 1) := by decide +kernel
theorem dX6_openBehind_36 : decode cX6_openBehind 36 = .ok (.goto 4, 3) := by decide +kernel
theorem dX6_openBehind_39 : decode cX6_openBehind 39 = .ok (.iconst 0, 1) := by decide +kernel
theorem dX6_openBehind_40 : decode cX6_openBehind 40 = .ok (.iadd, 1) := by decide +kernel
theorem dX6_openBehind_41 : decode cX6_openBehind 41 = .ok (.istore 4, 2) := by decide +kernel
theorem dX6_openBehind_43 : decode cX6_openBehind 43 = .ok (.iinc 5 1, 3) := by decide +kernel
theorem dX6_openBehind_46 : decode cX6_openBehind 46 = .ok (.goto (-40), 3) := by decide +kernel
theorem dX6_openBehind_49 : decode cX6_openBehind 49 = .ok (.iload 4, 2) := by decide +kernel
theorem dX6_openBehind_51 : decode cX6_openBehind 51 = .ok (.ireturn, 1) := by decide +kernel
theorem dX6_walksBy_0 : decode cX6_walksBy 0 = .ok (.aload_n 0, 1) := by decide +kernel
theorem dX6_walksBy_1 : decode cX6_walksBy 1 = .ok (.iconst 0, 1) := by decide +kernel
theorem dX6_walksBy_2 : decode cX6_walksBy 2 = .ok (.putfield 194, 3) := by decide +kernel
theorem dX6_walksBy_5 : decode cX6_walksBy 5 = .ok (.iconst (-1), 1) := by decide +kernel
theorem dX6_walksBy_6 : decode cX6_walksBy 6 = .ok (.istore 4, 2) := by decide +kernel
theorem dX6_walksBy_8 : decode cX6_walksBy 8 = .ok (.iconst 0, 1) := by decide +kernel
theorem dX6_walksBy_9 : decode cX6_walksBy 9 = .ok (.istore 5, 2) := by decide +kernel
theorem dX6_walksBy_11 : decode cX6_walksBy 11 = .ok (.iload 5, 2) := by decide +kernel
theorem dX6_walksBy_13 : decode cX6_walksBy 13 = .ok (.iload_n 2, 1) := by decide +kernel
theorem dX6_walksBy_14 : decode cX6_walksBy 14 = .ok (.if_icmp .ge 208, 3) := by decide +kernel
theorem dX6_walksBy_17 : decode cX6_walksBy 17 = .ok (.iload 5, 2) := by decide +kernel
theorem dX6_walksBy_19 : decode cX6_walksBy 19 = .ok (.iload_n 3, 1) := by decide +kernel
theorem dX6_walksBy_20 : decode cX6_walksBy 20 = .ok (.if_icmp .eq 37, 3) := by decide +kernel
theorem dX6_walksBy_23 : decode cX6_walksBy 23 = .ok (.iload 5, 2) := by decide +kernel
theorem dX6_walksBy_25 : decode cX6_walksBy 25 = .ok (.aload_n 0, 1) := by decide +kernel
theorem dX6_walksBy_26 : decode cX6_walksBy 26 = .ok (.iload_n 1, 1) := by decide +kernel
theorem dX6_walksBy_27 : decode cX6_walksBy 27 = .ok (.bipush 7, 2) := by decide +kernel
theorem dX6_walksBy_29 : decode cX6_walksBy 29 = .ok (.invokevirtual 50, 3) := by decide +kernel
theorem dX6_walksBy_32 : decode cX6_walksBy 32 = .ok (.if_icmp .ge 29, 3) := by decide +kernel
theorem dX6_walksBy_35 : decode cX6_walksBy 35 = .ok (.aload_n 0, 1) := by decide +kernel
theorem dX6_walksBy_36 : decode cX6_walksBy 36 = .ok (.getfield 7, 3) := by decide +kernel
theorem dX6_walksBy_39 : decode cX6_walksBy 39 = .ok (.iload_n 1, 1) := by decide +kernel
theorem dX6_walksBy_40 : decode cX6_walksBy 40 = .ok (.bipush 8, 2) := by decide +kernel
theorem dX6_walksBy_42 : decode cX6_walksBy 42 = .ok (.iconst 3, 1) := by decide +kernel
theorem dX6_walksBy_43 : decode cX6_walksBy 43 = .ok (.iload 5, 2) := by decide +kernel
theorem dX6_walksBy_45 : decode cX6_walksBy 45 = .ok (.imul, 1) := by decide +kernel
theorem dX6_walksBy_46 : decode cX6_walksBy 46 = .ok (.iadd, 1) := by decide +kernel
theorem dX6_walksBy_47 : decode cX6_walksBy 47 = .ok (.iconst 2, 1) := by decide +kernel
theorem dX6_walksBy_48 : decode cX6_walksBy 48 = .ok (.iadd, 1) := by decide +kernel
theorem dX6_walksBy_49 : decode cX6_walksBy 49 = .ok (.invokestatic 46, 3) := by decide +kernel
theorem dX6_walksBy_52 : decode cX6_walksBy 52 = .ok (.iaload, 1) := by decide +kernel
theorem dX6_walksBy_53 : decode cX6_walksBy 53 = .ok (.iconst 1, 1) := by decide +kernel
theorem dX6_walksBy_54 : decode cX6_walksBy 54 = .ok (.if_icmp .ne 7, 3) := by decide +kernel
theorem dX6_walksBy_57 : decode cX6_walksBy 57 = .ok (.iconst 1, 1) := by decide +kernel
theorem dX6_walksBy_58 : decode cX6_walksBy 58 = .ok (.goto 4, 3) := by decide +kernel
theorem dX6_walksBy_61 : decode cX6_walksBy 61 = .ok (.iconst 0, 1) := by decide +kernel
theorem dX6_walksBy_62 : decode cX6_walksBy 62 = .ok (.istore 6, 2) := by decide +kernel
theorem dX6_walksBy_64 : decode cX6_walksBy 64 = .ok (.aload_n 0, 1) := by decide +kernel
theorem dX6_walksBy_65 : decode cX6_walksBy 65 = .ok (.iload_n 1, 1) := by decide +kernel
theorem dX6_walksBy_66 : decode cX6_walksBy 66 = .ok (.iload 5, 2) := by decide +kernel
theorem dX6_walksBy_68 : decode cX6_walksBy 68 = .ok (.invokevirtual 191, 3) := by decide +kernel
theorem dX6_walksBy_71 : decode cX6_walksBy 71 = .ok (.istore 7, 2) := by decide +kernel
theorem dX6_walksBy_73 : decode cX6_walksBy 73 = .ok (.aload_n 0, 1) := by decide +kernel
theorem dX6_walksBy_74 : decode cX6_walksBy 74 = .ok (.getfield 28, 3) := by decide +kernel
theorem dX6_walksBy_77 : decode cX6_walksBy 77 = .ok (.iload 5, 2) := by decide +kernel
theorem dX6_walksBy_79 : decode cX6_walksBy 79 = .ok (.iload 6, 2) := by decide +kernel
theorem dX6_walksBy_81 : decode cX6_walksBy 81 = .ok (.ifCond .ne 27, 3) := by decide +kernel
theorem dX6_walksBy_84 : decode cX6_walksBy 84 = .ok (.iload 4, 2) := by decide +kernel
theorem dX6_walksBy_86 : decode cX6_walksBy 86 = .ok (.iconst (-1), 1) := by decide +kernel
theorem dX6_walksBy_87 : decode cX6_walksBy 87 = .ok (.if_icmp .eq 17, 3) := by decide +kernel
theorem dX6_walksBy_90 : decode cX6_walksBy 90 = .ok (.iload 7, 2) := by decide +kernel
theorem dX6_walksBy_92 : decode cX6_walksBy 92 = .ok (.iload 4, 2) := by decide +kernel
theorem dX6_walksBy_94 : decode cX6_walksBy 94 = .ok (.aload_n 0, 1) := by decide +kernel
theorem dX6_walksBy_95 : decode cX6_walksBy 95 = .ok (.getfield 7, 3) := by decide +kernel
theorem dX6_walksBy_98 : decode cX6_walksBy 98 = .ok (.iconst 5, 1) := by decide +kernel
theorem dX6_walksBy_99 : decode cX6_walksBy 99 = .ok (.iaload, 1) := by decide +kernel
theorem dX6_walksBy_100 : decode cX6_walksBy 100 = .ok (.iadd, 1) := by decide +kernel
theorem dX6_walksBy_101 : decode cX6_walksBy 101 = .ok (.if_icmp .lt 7, 3) := by decide +kernel
theorem dX6_walksBy_104 : decode cX6_walksBy 104 = .ok (.iconst 1, 1) := by decide +kernel
theorem dX6_walksBy_105 : decode cX6_walksBy 105 = .ok (.goto 4, 3) := by decide +kernel
theorem dX6_walksBy_108 : decode cX6_walksBy 108 = .ok (.iconst 0, 1) := by decide +kernel
theorem dX6_walksBy_109 : decode cX6_walksBy 109 = .ok (.bastore, 1) := by decide +kernel
theorem dX6_walksBy_110 : decode cX6_walksBy 110 = .ok (.aload_n 0, 1) := by decide +kernel
theorem dX6_walksBy_111 : decode cX6_walksBy 111 = .ok (.getfield 32, 3) := by decide +kernel
theorem dX6_walksBy_114 : decode cX6_walksBy 114 = .ok (.iload 5, 2) := by decide +kernel
theorem dX6_walksBy_116 : decode cX6_walksBy 116 = .ok (.aload_n 0, 1) := by decide +kernel
theorem dX6_walksBy_117 : decode cX6_walksBy 117 = .ok (.getfield 28, 3) := by decide +kernel
theorem dX6_walksBy_120 : decode cX6_walksBy 120 = .ok (.iload 5, 2) := by decide +kernel
theorem dX6_walksBy_122 : decode cX6_walksBy 122 = .ok (.baload, 1) := by decide +kernel
theorem dX6_walksBy_123 : decode cX6_walksBy 123 = .ok (.bastore, 1) := by decide +kernel
theorem dX6_walksBy_124 : decode cX6_walksBy 124 = .ok (.aload_n 0, 1) := by decide +kernel
theorem dX6_walksBy_125 : decode cX6_walksBy 125 = .ok (.getfield 28, 3) := by decide +kernel
theorem dX6_walksBy_128 : decode cX6_walksBy 128 = .ok (.iload 5, 2) := by decide +kernel
theorem dX6_walksBy_130 : decode cX6_walksBy 130 = .ok (.baload, 1) := by decide +kernel
theorem dX6_walksBy_131 : decode cX6_walksBy 131 = .ok (.ifCond .ne 6, 3) := by decide +kernel
theorem dX6_walksBy_134 : decode cX6_walksBy 134 = .ok (.goto 82, 3) := by decide +kernel
theorem dX6_walksBy_137 : decode cX6_walksBy 137 = .ok (.iload 7, 2) := by decide +kernel
theorem dX6_walksBy_139 : decode cX6_walksBy 139 = .ok (.istore 4, 2) := by decide +kernel
theorem dX6_walksBy_141 : decode cX6_walksBy 141 = .ok (.aload_n 0, 1) := by decide +kernel
theorem dX6_walksBy_142 : decode cX6_walksBy 142 = .ok (.iload_n 1, 1) := by decide +kernel
theorem dX6_walksBy_143 : decode cX6_walksBy 143 = .ok (.iload 5, 2) := by decide +kernel
theorem dX6_walksBy_145 : decode cX6_walksBy 145 = .ok (.iconst 1, 1) := by decide +kernel
theorem dX6_walksBy_146 : decode cX6_walksBy 146 = .ok (.iadd, 1) := by decide +kernel
theorem dX6_walksBy_147 : decode cX6_walksBy 147 = .ok (.iload 7, 2) := by decide +kernel
theorem dX6_walksBy_149 : decode cX6_walksBy 149 = .ok (.aload_n 0, 1) := by decide +kernel
theorem dX6_walksBy_150 : decode cX6_walksBy 150 = .ok (.getfield 7, 3) := by decide +kernel
theorem dX6_walksBy_153 : decode cX6_walksBy 153 = .ok (.iconst 3, 1) := by decide +kernel
theorem dX6_walksBy_154 : decode cX6_walksBy 154 = .ok (.iaload, 1) := by decide +kernel
theorem dX6_walksBy_155 : decode cX6_walksBy 155 = .ok (.isub, 1) := by decide +kernel
theorem dX6_walksBy_156 : decode cX6_walksBy 156 = .ok (.invokevirtual 197, 3) := by decide +kernel
theorem dX6_walksBy_159 : decode cX6_walksBy 159 = .ok (.aload_n 0, 1) := by decide +kernel
theorem dX6_walksBy_160 : decode cX6_walksBy 160 = .ok (.getfield 7, 3) := by decide +kernel
theorem dX6_walksBy_163 : decode cX6_walksBy 163 = .ok (.iconst 4, 1) := by decide +kernel
theorem dX6_walksBy_164 : decode cX6_walksBy 164 = .ok (.iaload, 1) := by decide +kernel
theorem dX6_walksBy_165 : decode cX6_walksBy 165 = .ok (.if_icmp .ge 6, 3) := by decide +kernel
theorem dX6_walksBy_168 : decode cX6_walksBy 168 = .ok (.goto 48, 3) := by decide +kernel
theorem dX6_walksBy_171 : decode cX6_walksBy 171 = .ok (.aload_n 0, 1) := by decide +kernel
theorem dX6_walksBy_172 : decode cX6_walksBy 172 = .ok (.getfield 35, 3) := by decide +kernel
theorem dX6_walksBy_175 : decode cX6_walksBy 175 = .ok (.aload_n 0, 1) := by decide +kernel
theorem dX6_walksBy_176 : decode cX6_walksBy 176 = .ok (.getfield 194, 3) := by decide +kernel
theorem dX6_walksBy_179 : decode cX6_walksBy 179 = .ok (.iload 7, 2) := by decide +kernel
theorem dX6_walksBy_181 : decode cX6_walksBy 181 = .ok (.iastore, 1) := by decide +kernel
theorem dX6_walksBy_182 : decode cX6_walksBy 182 = .ok (.aload_n 0, 1) := by decide +kernel
theorem dX6_walksBy_183 : decode cX6_walksBy 183 = .ok (.dup, 1) := by decide +kernel
theorem dX6_walksBy_184 : decode cX6_walksBy 184 = .ok (.getfield 194, 3) := by decide +kernel
theorem dX6_walksBy_187 : decode cX6_walksBy 187 = .ok (.iconst 1, 1) := by decide +kernel
theorem dX6_walksBy_188 : decode cX6_walksBy 188 = .ok (.iadd, 1) := by decide +kernel
theorem dX6_walksBy_189 : decode cX6_walksBy 189 = .ok (.putfield 194, 3) := by decide +kernel
theorem dX6_walksBy_192 : decode cX6_walksBy 192 = .ok (.iconst 0, 1) := by decide +kernel
theorem dX6_walksBy_193 : decode cX6_walksBy 193 = .ok (.istore 8, 2) := by decide +kernel
theorem dX6_walksBy_195 : decode cX6_walksBy 195 = .ok (.iload 8, 2) := by decide +kernel
theorem dX6_walksBy_197 : decode cX6_walksBy 197 = .ok (.iload 5, 2) := by decide +kernel
theorem dX6_walksBy_199 : decode cX6_walksBy 199 = .ok (.if_icmp .gt 17, 3) := by decide +kernel
theorem dX6_walksBy_202 : decode cX6_walksBy 202 = .ok (.aload_n 0, 1) := by decide +kernel
theorem dX6_walksBy_203 : decode cX6_walksBy 203 = .ok (.getfield 32, 3) := by decide +kernel
theorem dX6_walksBy_206 : decode cX6_walksBy 206 = .ok (.iload 8, 2) := by decide +kernel
theorem dX6_walksBy_208 : decode cX6_walksBy 208 = .ok (.iconst 0, 1) := by decide +kernel
theorem dX6_walksBy_209 : decode cX6_walksBy 209 = .ok (.bastore, 1) := by decide +kernel
theorem dX6_walksBy_210 : decode cX6_walksBy 210 = .ok (.iinc 8 1, 3) := by decide +kernel
theorem dX6_walksBy_213 : decode cX6_walksBy 213 = .ok (.goto (-18), 3) := by decide +kernel
theorem dX6_walksBy_216 : decode cX6_walksBy 216 = .ok (.iinc 5 1, 3) := by decide +kernel
theorem dX6_walksBy_219 : decode cX6_walksBy 219 = .ok (.goto (-208), 3) := by decide +kernel
theorem dX6_walksBy_222 : decode cX6_walksBy 222 = .ok (.return_, 1) := by decide +kernel
theorem dX6_walks_0 : decode cX6_walks 0 = .ok (.aload_n 0, 1) := by decide +kernel
theorem dX6_walks_1 : decode cX6_walks 1 = .ok (.iload_n 1, 1) := by decide +kernel
theorem dX6_walks_2 : decode cX6_walks 2 = .ok (.aload_n 0, 1) := by decide +kernel
theorem dX6_walks_3 : decode cX6_walks 3 = .ok (.iload_n 1, 1) := by decide +kernel
theorem dX6_walks_4 : decode cX6_walks 4 = .ok (.bipush 7, 2) := by decide +kernel
theorem dX6_walks_6 : decode cX6_walks 6 = .ok (.invokevirtual 50, 3) := by decide +kernel
theorem dX6_walks_9 : decode cX6_walks 9 = .ok (.iconst (-1), 1) := by decide +kernel
theorem dX6_walks_10 : decode cX6_walks 10 = .ok (.invokevirtual 201, 3) := by decide +kernel
theorem dX6_walks_13 : decode cX6_walks 13 = .ok (.return_, 1) := by decide +kernel
theorem dX6_pointsNow_0 : decode cX6_pointsNow 0 = .ok (.aload_n 0, 1) := by decide +kernel
theorem dX6_pointsNow_1 : decode cX6_pointsNow 1 = .ok (.iload_n 1, 1) := by decide +kernel
theorem dX6_pointsNow_2 : decode cX6_pointsNow 2 = .ok (.invokevirtual 205, 3) := by decide +kernel
theorem dX6_pointsNow_5 : decode cX6_pointsNow 5 = .ok (.aload_n 0, 1) := by decide +kernel
theorem dX6_pointsNow_6 : decode cX6_pointsNow 6 = .ok (.iload_n 1, 1) := by decide +kernel
theorem dX6_pointsNow_7 : decode cX6_pointsNow 7 = .ok (.aload_n 0, 1) := by decide +kernel
theorem dX6_pointsNow_8 : decode cX6_pointsNow 8 = .ok (.iload_n 1, 1) := by decide +kernel
theorem dX6_pointsNow_9 : decode cX6_pointsNow 9 = .ok (.bipush 7, 2) := by decide +kernel
theorem dX6_pointsNow_11 : decode cX6_pointsNow 11 = .ok (.invokevirtual 50, 3) := by decide +kernel
theorem dX6_pointsNow_14 : decode cX6_pointsNow 14 = .ok (.aload_n 0, 1) := by decide +kernel
theorem dX6_pointsNow_15 : decode cX6_pointsNow 15 = .ok (.getfield 7, 3) := by decide +kernel
theorem dX6_pointsNow_18 : decode cX6_pointsNow 18 = .ok (.iconst 0, 1) := by decide +kernel
theorem dX6_pointsNow_19 : decode cX6_pointsNow 19 = .ok (.iaload, 1) := by decide +kernel
theorem dX6_pointsNow_20 : decode cX6_pointsNow 20 = .ok (.aload_n 0, 1) := by decide +kernel
theorem dX6_pointsNow_21 : decode cX6_pointsNow 21 = .ok (.getfield 7, 3) := by decide +kernel
theorem dX6_pointsNow_24 : decode cX6_pointsNow 24 = .ok (.iconst 3, 1) := by decide +kernel
theorem dX6_pointsNow_25 : decode cX6_pointsNow 25 = .ok (.iaload, 1) := by decide +kernel
theorem dX6_pointsNow_26 : decode cX6_pointsNow 26 = .ok (.isub, 1) := by decide +kernel
theorem dX6_pointsNow_27 : decode cX6_pointsNow 27 = .ok (.invokevirtual 197, 3) := by decide +kernel
theorem dX6_pointsNow_30 : decode cX6_pointsNow 30 = .ok (.ireturn, 1) := by decide +kernel
theorem dX6_weightOf_0 : decode cX6_weightOf 0 = .ok (.aload_n 0, 1) := by decide +kernel
theorem dX6_weightOf_1 : decode cX6_weightOf 1 = .ok (.iload_n 1, 1) := by decide +kernel
theorem dX6_weightOf_2 : decode cX6_weightOf 2 = .ok (.iconst 4, 1) := by decide +kernel
theorem dX6_weightOf_3 : decode cX6_weightOf 3 = .ok (.invokevirtual 50, 3) := by decide +kernel
theorem dX6_weightOf_6 : decode cX6_weightOf 6 = .ok (.iconst (-1), 1) := by decide +kernel
theorem dX6_weightOf_7 : decode cX6_weightOf 7 = .ok (.if_icmp .ne 12, 3) := by decide +kernel
theorem dX6_weightOf_10 : decode cX6_weightOf 10 = .ok (.aload_n 0, 1) := by decide +kernel
theorem dX6_weightOf_11 : decode cX6_weightOf 11 = .ok (.iload_n 1, 1) := by decide +kernel
theorem dX6_weightOf_12 : decode cX6_weightOf 12 = .ok (.iconst 1, 1) := by decide +kernel
theorem dX6_weightOf_13 : decode cX6_weightOf 13 = .ok (.invokevirtual 50, 3) := by decide +kernel
theorem dX6_weightOf_16 : decode cX6_weightOf 16 = .ok (.goto 9, 3) := by decide +kernel
theorem dX6_weightOf_19 : decode cX6_weightOf 19 = .ok (.aload_n 0, 1) := by decide +kernel
theorem dX6_weightOf_20 : decode cX6_weightOf 20 = .ok (.iload_n 1, 1) := by decide +kernel
theorem dX6_weightOf_21 : decode cX6_weightOf 21 = .ok (.iconst 4, 1) := by decide +kernel
theorem dX6_weightOf_22 : decode cX6_weightOf 22 = .ok (.invokevirtual 50, 3) := by decide +kernel
theorem dX6_weightOf_25 : decode cX6_weightOf 25 = .ok (.istore_n 2, 1) := by decide +kernel
theorem dX6_weightOf_26 : decode cX6_weightOf 26 = .ok (.aload_n 0, 1) := by decide +kernel
theorem dX6_weightOf_27 : decode cX6_weightOf 27 = .ok (.iload_n 1, 1) := by decide +kernel
theorem dX6_weightOf_28 : decode cX6_weightOf 28 = .ok (.iconst 0, 1) := by decide +kernel
theorem dX6_weightOf_29 : decode cX6_weightOf 29 = .ok (.invokevirtual 50, 3) := by decide +kernel
theorem dX6_weightOf_32 : decode cX6_weightOf 32 = .ok (.iconst 1, 1) := by decide +kernel
theorem dX6_weightOf_33 : decode cX6_weightOf 33 = .ok (.aload_n 0, 1) := by decide +kernel
theorem dX6_weightOf_34 : decode cX6_weightOf 34 = .ok (.getfield 7, 3) := by decide +kernel
theorem dX6_weightOf_37 : decode cX6_weightOf 37 = .ok (.iconst 0, 1) := by decide +kernel
theorem dX6_weightOf_38 : decode cX6_weightOf 38 = .ok (.iaload, 1) := by decide +kernel
theorem dX6_weightOf_39 : decode cX6_weightOf 39 = .ok (.iadd, 1) := by decide +kernel
theorem dX6_weightOf_40 : decode cX6_weightOf 40 = .ok (.iload_n 2, 1) := by decide +kernel
theorem dX6_weightOf_41 : decode cX6_weightOf 41 = .ok (.isub, 1) := by decide +kernel
theorem dX6_weightOf_42 : decode cX6_weightOf 42 = .ok (.imul, 1) := by decide +kernel
theorem dX6_weightOf_43 : decode cX6_weightOf 43 = .ok (.iconst 1, 1) := by decide +kernel
theorem dX6_weightOf_44 : decode cX6_weightOf 44 = .ok (.aload_n 0, 1) := by decide +kernel
theorem dX6_weightOf_45 : decode cX6_weightOf 45 = .ok (.iload_n 1, 1) := by decide +kernel
theorem dX6_weightOf_46 : decode cX6_weightOf 46 = .ok (.invokevirtual 208, 3) := by decide +kernel
theorem dX6_weightOf_49 : decode cX6_weightOf 49 = .ok (.iadd, 1) := by decide +kernel
theorem dX6_weightOf_50 : decode cX6_weightOf 50 = .ok (.imul, 1) := by decide +kernel
theorem dX6_weightOf_51 : decode cX6_weightOf 51 = .ok (.ireturn, 1) := by decide +kernel
theorem dX6_latesOf_0 : decode cX6_latesOf 0 = .ok (.aload_n 0, 1) := by decide +kernel
theorem dX6_latesOf_1 : decode cX6_latesOf 1 = .ok (.iload_n 1, 1) := by decide +kernel
theorem dX6_latesOf_2 : decode cX6_latesOf 2 = .ok (.bipush 6, 2) := by decide +kernel
theorem dX6_latesOf_4 : decode cX6_latesOf 4 = .ok (.invokevirtual 50, 3) := by decide +kernel
theorem dX6_latesOf_7 : decode cX6_latesOf 7 = .ok (.aload_n 0, 1) := by decide +kernel
theorem dX6_latesOf_8 : decode cX6_latesOf 8 = .ok (.getfield 7, 3) := by decide +kernel
theorem dX6_latesOf_11 : decode cX6_latesOf 11 = .ok (.iconst 0, 1) := by decide +kernel
theorem dX6_latesOf_12 : decode cX6_latesOf 12 = .ok (.iaload, 1) := by decide +kernel
theorem dX6_latesOf_13 : decode cX6_latesOf 13 = .ok (.bipush 30, 2) := by decide +kernel
theorem dX6_latesOf_15 : decode cX6_latesOf 15 = .ok (.idiv, 1) := by decide +kernel
theorem dX6_latesOf_16 : decode cX6_latesOf 16 = .ok (.if_icmp .ne 12, 3) := by decide +kernel
theorem dX6_latesOf_19 : decode cX6_latesOf 19 = .ok (.aload_n 0, 1) := by decide +kernel
theorem dX6_latesOf_20 : decode cX6_latesOf 20 = .ok (.iload_n 1, 1) := by decide +kernel
theorem dX6_latesOf_21 : decode cX6_latesOf 21 = .ok (.iconst 5, 1) := by decide +kernel
theorem dX6_latesOf_22 : decode cX6_latesOf 22 = .ok (.invokevirtual 50, 3) := by decide +kernel
theorem dX6_latesOf_25 : decode cX6_latesOf 25 = .ok (.goto 4, 3) := by decide +kernel
theorem dX6_latesOf_28 : decode cX6_latesOf 28 = .ok (.iconst 0, 1) := by decide +kernel
theorem dX6_latesOf_29 : decode cX6_latesOf 29 = .ok (.ireturn, 1) := by decide +kernel
theorem dX6_violationsOf_0 : decode cX6_violationsOf 0 = .ok (.aload_n 0, 1) := by decide +kernel
theorem dX6_violationsOf_1 : decode cX6_violationsOf 1 = .ok (.iload_n 1, 1) := by decide +kernel
theorem dX6_violationsOf_2 : decode cX6_violationsOf 2 = .ok (.invokevirtual 205, 3) := by decide +kernel
theorem dX6_violationsOf_5 : decode cX6_violationsOf 5 = .ok (.aload_n 0, 1) := by decide +kernel
theorem dX6_violationsOf_6 : decode cX6_violationsOf 6 = .ok (.getfield 194, 3) := by decide +kernel
theorem dX6_violationsOf_9 : decode cX6_violationsOf 9 = .ok (.ireturn, 1) := by decide +kernel
theorem dX6_of_0 : decode cX6_of 0 = .ok (.aload_n 0, 1) := by decide +kernel
theorem dX6_of_1 : decode cX6_of 1 = .ok (.aload_n 0, 1) := by decide +kernel
theorem dX6_of_2 : decode cX6_of 2 = .ok (.iload_n 1, 1) := by decide +kernel
theorem dX6_of_3 : decode cX6_of 3 = .ok (.invokevirtual 73, 3) := by decide +kernel
theorem dX6_of_6 : decode cX6_of 6 = .ok (.ifCond .eq 17, 3) := by decide +kernel
theorem dX6_of_9 : decode cX6_of 9 = .ok (.iload_n 2, 1) := by decide +kernel
theorem dX6_of_10 : decode cX6_of 10 = .ok (.iconst 0, 1) := by decide +kernel
theorem dX6_of_11 : decode cX6_of 11 = .ok (.bipush 9, 2) := by decide +kernel
theorem dX6_of_13 : decode cX6_of 13 = .ok (.invokestatic 42, 3) := by decide +kernel
theorem dX6_of_16 : decode cX6_of 16 = .ok (.ifCond .eq 7, 3) := by decide +kernel
theorem dX6_of_19 : decode cX6_of 19 = .ok (.iconst 0, 1) := by decide +kernel
theorem dX6_of_20 : decode cX6_of 20 = .ok (.goto 4, 3) := by decide +kernel
theorem dX6_of_23 : decode cX6_of 23 = .ok (.iconst 1, 1) := by decide +kernel
theorem dX6_of_24 : decode cX6_of 24 = .ok (.putfield 38, 3) := by decide +kernel
theorem dX6_of_27 : decode cX6_of 27 = .ok (.aload_n 0, 1) := by decide +kernel
theorem dX6_of_28 : decode cX6_of 28 = .ok (.getfield 38, 3) := by decide +kernel
theorem dX6_of_31 : decode cX6_of 31 = .ok (.ifCond .le 5, 3) := by decide +kernel
theorem dX6_of_34 : decode cX6_of 34 = .ok (.iconst 0, 1) := by decide +kernel
theorem dX6_of_35 : decode cX6_of 35 = .ok (.ireturn, 1) := by decide +kernel
theorem dX6_of_36 : decode cX6_of 36 = .ok (.iload_n 2, 1) := by decide +kernel
theorem dX6_of_37 : decode cX6_of 37 = .ok (.tableswitch 111 0 8 #[51, 58, 64, 72, 78, 84, 91, 98, 105], 51) := by decide +kernel
theorem dX6_of_88 : decode cX6_of 88 = .ok (.aload_n 0, 1) := by decide +kernel
theorem dX6_of_89 : decode cX6_of 89 = .ok (.iload_n 1, 1) := by decide +kernel
theorem dX6_of_90 : decode cX6_of 90 = .ok (.iconst 0, 1) := by decide +kernel
theorem dX6_of_91 : decode cX6_of 91 = .ok (.invokevirtual 50, 3) := by decide +kernel
theorem dX6_of_94 : decode cX6_of 94 = .ok (.ireturn, 1) := by decide +kernel
theorem dX6_of_95 : decode cX6_of 95 = .ok (.aload_n 0, 1) := by decide +kernel
theorem dX6_of_96 : decode cX6_of 96 = .ok (.iload_n 1, 1) := by decide +kernel
theorem dX6_of_97 : decode cX6_of 97 = .ok (.invokevirtual 208, 3) := by decide +kernel
theorem dX6_of_100 : decode cX6_of 100 = .ok (.ireturn, 1) := by decide +kernel
theorem dX6_of_101 : decode cX6_of 101 = .ok (.aload_n 0, 1) := by decide +kernel
theorem dX6_of_102 : decode cX6_of 102 = .ok (.iload_n 1, 1) := by decide +kernel
theorem dX6_of_103 : decode cX6_of 103 = .ok (.bipush 7, 2) := by decide +kernel
theorem dX6_of_105 : decode cX6_of 105 = .ok (.invokevirtual 50, 3) := by decide +kernel
theorem dX6_of_108 : decode cX6_of 108 = .ok (.ireturn, 1) := by decide +kernel
theorem dX6_of_109 : decode cX6_of 109 = .ok (.aload_n 0, 1) := by decide +kernel
theorem dX6_of_110 : decode cX6_of 110 = .ok (.iload_n 1, 1) := by decide +kernel
theorem dX6_of_111 : decode cX6_of 111 = .ok (.invokevirtual 211, 3) := by decide +kernel
theorem dX6_of_114 : decode cX6_of 114 = .ok (.ireturn, 1) := by decide +kernel
theorem dX6_of_115 : decode cX6_of 115 = .ok (.aload_n 0, 1) := by decide +kernel
theorem dX6_of_116 : decode cX6_of 116 = .ok (.iload_n 1, 1) := by decide +kernel
theorem dX6_of_117 : decode cX6_of 117 = .ok (.invokevirtual 214, 3) := by decide +kernel
theorem dX6_of_120 : decode cX6_of 120 = .ok (.ireturn, 1) := by decide +kernel
theorem dX6_of_121 : decode cX6_of 121 = .ok (.aload_n 0, 1) := by decide +kernel
theorem dX6_of_122 : decode cX6_of 122 = .ok (.iload_n 1, 1) := by decide +kernel
theorem dX6_of_123 : decode cX6_of 123 = .ok (.iconst 2, 1) := by decide +kernel
theorem dX6_of_124 : decode cX6_of 124 = .ok (.invokevirtual 50, 3) := by decide +kernel
theorem dX6_of_127 : decode cX6_of 127 = .ok (.ireturn, 1) := by decide +kernel
theorem dX6_of_128 : decode cX6_of 128 = .ok (.aload_n 0, 1) := by decide +kernel
theorem dX6_of_129 : decode cX6_of 129 = .ok (.iload_n 1, 1) := by decide +kernel
theorem dX6_of_130 : decode cX6_of 130 = .ok (.iconst 3, 1) := by decide +kernel
theorem dX6_of_131 : decode cX6_of 131 = .ok (.invokevirtual 50, 3) := by decide +kernel
theorem dX6_of_134 : decode cX6_of 134 = .ok (.ireturn, 1) := by decide +kernel
theorem dX6_of_135 : decode cX6_of 135 = .ok (.aload_n 0, 1) := by decide +kernel
theorem dX6_of_136 : decode cX6_of 136 = .ok (.iload_n 1, 1) := by decide +kernel
theorem dX6_of_137 : decode cX6_of 137 = .ok (.iconst 4, 1) := by decide +kernel
theorem dX6_of_138 : decode cX6_of 138 = .ok (.invokevirtual 50, 3) := by decide +kernel
theorem dX6_of_141 : decode cX6_of 141 = .ok (.ireturn, 1) := by decide +kernel
theorem dX6_of_142 : decode cX6_of 142 = .ok (.aload_n 0, 1) := by decide +kernel
theorem dX6_of_143 : decode cX6_of 143 = .ok (.iload_n 1, 1) := by decide +kernel
theorem dX6_of_144 : decode cX6_of 144 = .ok (.invokevirtual 217, 3) := by decide +kernel
theorem dX6_of_147 : decode cX6_of 147 = .ok (.ireturn, 1) := by decide +kernel
theorem dX6_of_148 : decode cX6_of 148 = .ok (.aload_n 0, 1) := by decide +kernel
theorem dX6_of_149 : decode cX6_of 149 = .ok (.iload_n 1, 1) := by decide +kernel
theorem dX6_of_150 : decode cX6_of 150 = .ok (.iconst 1, 1) := by decide +kernel
theorem dX6_of_151 : decode cX6_of 151 = .ok (.invokevirtual 50, 3) := by decide +kernel
theorem dX6_of_154 : decode cX6_of 154 = .ok (.ireturn, 1) := by decide +kernel
theorem dX6_count_0 : decode cX6_count 0 = .ok (.aload_n 0, 1) := by decide +kernel
theorem dX6_count_1 : decode cX6_count 1 = .ok (.iconst 0, 1) := by decide +kernel
theorem dX6_count_2 : decode cX6_count 2 = .ok (.putfield 38, 3) := by decide +kernel
theorem dX6_count_5 : decode cX6_count 5 = .ok (.iload_n 1, 1) := by decide +kernel
theorem dX6_count_6 : decode cX6_count 6 = .ok (.bipush 10, 2) := by decide +kernel
theorem dX6_count_8 : decode cX6_count 8 = .ok (.bipush 15, 2) := by decide +kernel
theorem dX6_count_10 : decode cX6_count 10 = .ok (.invokestatic 42, 3) := by decide +kernel
theorem dX6_count_13 : decode cX6_count 13 = .ok (.ifCond .eq 15, 3) := by decide +kernel
theorem dX6_count_16 : decode cX6_count 16 = .ok (.aload_n 0, 1) := by decide +kernel
theorem dX6_count_17 : decode cX6_count 17 = .ok (.getfield 7, 3) := by decide +kernel
theorem dX6_count_20 : decode cX6_count 20 = .ok (.iconst 3, 1) := by decide +kernel
theorem dX6_count_21 : decode cX6_count 21 = .ok (.iload_n 1, 1) := by decide +kernel
theorem dX6_count_22 : decode cX6_count 22 = .ok (.iadd, 1) := by decide +kernel
theorem dX6_count_23 : decode cX6_count 23 = .ok (.bipush 10, 2) := by decide +kernel
theorem dX6_count_25 : decode cX6_count 25 = .ok (.isub, 1) := by decide +kernel
theorem dX6_count_26 : decode cX6_count 26 = .ok (.iaload, 1) := by decide +kernel
theorem dX6_count_27 : decode cX6_count 27 = .ok (.ireturn, 1) := by decide +kernel
theorem dX6_count_28 : decode cX6_count 28 = .ok (.iload_n 1, 1) := by decide +kernel
theorem dX6_count_29 : decode cX6_count 29 = .ok (.tableswitch 57 0 3 #[31, 38, 45, 52], 31) := by decide +kernel
theorem dX6_count_60 : decode cX6_count 60 = .ok (.aload_n 0, 1) := by decide +kernel
theorem dX6_count_61 : decode cX6_count 61 = .ok (.getfield 7, 3) := by decide +kernel
theorem dX6_count_64 : decode cX6_count 64 = .ok (.iconst 2, 1) := by decide +kernel
theorem dX6_count_65 : decode cX6_count 65 = .ok (.iaload, 1) := by decide +kernel
theorem dX6_count_66 : decode cX6_count 66 = .ok (.ireturn, 1) := by decide +kernel
theorem dX6_count_67 : decode cX6_count 67 = .ok (.aload_n 0, 1) := by decide +kernel
theorem dX6_count_68 : decode cX6_count 68 = .ok (.getfield 7, 3) := by decide +kernel
theorem dX6_count_71 : decode cX6_count 71 = .ok (.iconst 0, 1) := by decide +kernel
theorem dX6_count_72 : decode cX6_count 72 = .ok (.iaload, 1) := by decide +kernel
theorem dX6_count_73 : decode cX6_count 73 = .ok (.ireturn, 1) := by decide +kernel
theorem dX6_count_74 : decode cX6_count 74 = .ok (.aload_n 0, 1) := by decide +kernel
theorem dX6_count_75 : decode cX6_count 75 = .ok (.getfield 7, 3) := by decide +kernel
theorem dX6_count_78 : decode cX6_count 78 = .ok (.iconst 1, 1) := by decide +kernel
theorem dX6_count_79 : decode cX6_count 79 = .ok (.iaload, 1) := by decide +kernel
theorem dX6_count_80 : decode cX6_count 80 = .ok (.ireturn, 1) := by decide +kernel
theorem dX6_count_81 : decode cX6_count 81 = .ok (.aload_n 0, 1) := by decide +kernel
theorem dX6_count_82 : decode cX6_count 82 = .ok (.getfield 108, 3) := by decide +kernel
theorem dX6_count_85 : decode cX6_count 85 = .ok (.ireturn, 1) := by decide +kernel
theorem dX6_count_86 : decode cX6_count 86 = .ok (.iconst (-1), 1) := by decide +kernel
theorem dX6_count_87 : decode cX6_count 87 = .ok (.ireturn, 1) := by decide +kernel
theorem dX6_isDay_0 : decode cX6_isDay 0 = .ok (.iload_n 0, 1) := by decide +kernel
theorem dX6_isDay_1 : decode cX6_isDay 1 = .ok (.iconst 0, 1) := by decide +kernel
theorem dX6_isDay_2 : decode cX6_isDay 2 = .ok (.sipush 1099, 3) := by decide +kernel
theorem dX6_isDay_5 : decode cX6_isDay 5 = .ok (.invokestatic 42, 3) := by decide +kernel
theorem dX6_isDay_8 : decode cX6_isDay 8 = .ok (.ireturn, 1) := by decide +kernel
theorem dX6_filed_0 : decode cX6_filed 0 = .ok (.aload_n 0, 1) := by decide +kernel
theorem dX6_filed_1 : decode cX6_filed 1 = .ok (.iconst 0, 1) := by decide +kernel
theorem dX6_filed_2 : decode cX6_filed 2 = .ok (.putfield 38, 3) := by decide +kernel
theorem dX6_filed_5 : decode cX6_filed 5 = .ok (.aload_n 0, 1) := by decide +kernel
theorem dX6_filed_6 : decode cX6_filed 6 = .ok (.iload_n 1, 1) := by decide +kernel
theorem dX6_filed_7 : decode cX6_filed 7 = .ok (.invokevirtual 73, 3) := by decide +kernel
theorem dX6_filed_10 : decode cX6_filed 10 = .ok (.ifCond .eq 28, 3) := by decide +kernel
theorem dX6_filed_13 : decode cX6_filed 13 = .ok (.iload_n 2, 1) := by decide +kernel
theorem dX6_filed_14 : decode cX6_filed 14 = .ok (.invokestatic 220, 3) := by decide +kernel
theorem dX6_filed_17 : decode cX6_filed 17 = .ok (.ifCond .eq 21, 3) := by decide +kernel
theorem dX6_filed_20 : decode cX6_filed 20 = .ok (.iload_n 3, 1) := by decide +kernel
theorem dX6_filed_21 : decode cX6_filed 21 = .ok (.iconst 0, 1) := by decide +kernel
theorem dX6_filed_22 : decode cX6_filed 22 = .ok (.iconst 1, 1) := by decide +kernel
theorem dX6_filed_23 : decode cX6_filed 23 = .ok (.invokestatic 42, 3) := by decide +kernel
theorem dX6_filed_26 : decode cX6_filed 26 = .ok (.ifCond .eq 12, 3) := by decide +kernel
theorem dX6_filed_29 : decode cX6_filed 29 = .ok (.aload_n 0, 1) := by decide +kernel
theorem dX6_filed_30 : decode cX6_filed 30 = .ok (.iload_n 1, 1) := by decide +kernel
theorem dX6_filed_31 : decode cX6_filed 31 = .ok (.iload_n 2, 1) := by decide +kernel
theorem dX6_filed_32 : decode cX6_filed 32 = .ok (.invokevirtual 53, 3) := by decide +kernel
theorem dX6_filed_35 : decode cX6_filed 35 = .ok (.ifCond .ne 5, 3) := by decide +kernel
theorem dX6_filed_38 : decode cX6_filed 38 = .ok (.iconst (-1), 1) := by decide +kernel
theorem dX6_filed_39 : decode cX6_filed 39 = .ok (.ireturn, 1) := by decide +kernel
theorem dX6_filed_40 : decode cX6_filed 40 = .ok (.iload_n 3, 1) := by decide +kernel
theorem dX6_filed_41 : decode cX6_filed 41 = .ok (.ifCond .ne 12, 3) := by decide +kernel
theorem dX6_filed_44 : decode cX6_filed 44 = .ok (.aload_n 0, 1) := by decide +kernel
theorem dX6_filed_45 : decode cX6_filed 45 = .ok (.iload_n 1, 1) := by decide +kernel
theorem dX6_filed_46 : decode cX6_filed 46 = .ok (.iload_n 2, 1) := by decide +kernel
theorem dX6_filed_47 : decode cX6_filed 47 = .ok (.invokevirtual 63, 3) := by decide +kernel
theorem dX6_filed_50 : decode cX6_filed 50 = .ok (.goto 9, 3) := by decide +kernel
theorem dX6_filed_53 : decode cX6_filed 53 = .ok (.aload_n 0, 1) := by decide +kernel
theorem dX6_filed_54 : decode cX6_filed 54 = .ok (.iload_n 1, 1) := by decide +kernel
theorem dX6_filed_55 : decode cX6_filed 55 = .ok (.iload_n 2, 1) := by decide +kernel
theorem dX6_filed_56 : decode cX6_filed 56 = .ok (.invokevirtual 70, 3) := by decide +kernel
theorem dX6_filed_59 : decode cX6_filed 59 = .ok (.ireturn, 1) := by decide +kernel
theorem dX6_failure_0 : decode cX6_failure 0 = .ok (.aload_n 0, 1) := by decide +kernel
theorem dX6_failure_1 : decode cX6_failure 1 = .ok (.iconst 0, 1) := by decide +kernel
theorem dX6_failure_2 : decode cX6_failure 2 = .ok (.putfield 38, 3) := by decide +kernel
theorem dX6_failure_5 : decode cX6_failure 5 = .ok (.aload_n 0, 1) := by decide +kernel
theorem dX6_failure_6 : decode cX6_failure 6 = .ok (.iload_n 1, 1) := by decide +kernel
theorem dX6_failure_7 : decode cX6_failure 7 = .ok (.iload_n 2, 1) := by decide +kernel
theorem dX6_failure_8 : decode cX6_failure 8 = .ok (.invokevirtual 102, 3) := by decide +kernel
theorem dX6_failure_11 : decode cX6_failure 11 = .ok (.ifCond .eq 12, 3) := by decide +kernel
theorem dX6_failure_14 : decode cX6_failure 14 = .ok (.iload_n 3, 1) := by decide +kernel
theorem dX6_failure_15 : decode cX6_failure 15 = .ok (.iconst 0, 1) := by decide +kernel
theorem dX6_failure_16 : decode cX6_failure 16 = .ok (.iconst 4, 1) := by decide +kernel
theorem dX6_failure_17 : decode cX6_failure 17 = .ok (.invokestatic 42, 3) := by decide +kernel
theorem dX6_failure_20 : decode cX6_failure 20 = .ok (.ifCond .ne 5, 3) := by decide +kernel
theorem dX6_failure_23 : decode cX6_failure 23 = .ok (.iconst (-1), 1) := by decide +kernel
theorem dX6_failure_24 : decode cX6_failure 24 = .ok (.ireturn, 1) := by decide +kernel
theorem dX6_failure_25 : decode cX6_failure 25 = .ok (.aload_n 0, 1) := by decide +kernel
theorem dX6_failure_26 : decode cX6_failure 26 = .ok (.iload_n 1, 1) := by decide +kernel
theorem dX6_failure_27 : decode cX6_failure 27 = .ok (.invokevirtual 205, 3) := by decide +kernel
theorem dX6_failure_30 : decode cX6_failure 30 = .ok (.iload_n 3, 1) := by decide +kernel
theorem dX6_failure_31 : decode cX6_failure 31 = .ok (.iconst 3, 1) := by decide +kernel
theorem dX6_failure_32 : decode cX6_failure 32 = .ok (.if_icmp .ge 23, 3) := by decide +kernel
theorem dX6_failure_35 : decode cX6_failure 35 = .ok (.aload_n 0, 1) := by decide +kernel
theorem dX6_failure_36 : decode cX6_failure 36 = .ok (.getfield 7, 3) := by decide +kernel
theorem dX6_failure_39 : decode cX6_failure 39 = .ok (.iload_n 1, 1) := by decide +kernel
theorem dX6_failure_40 : decode cX6_failure 40 = .ok (.bipush 8, 2) := by decide +kernel
theorem dX6_failure_42 : decode cX6_failure 42 = .ok (.iconst 3, 1) := by decide +kernel
theorem dX6_failure_43 : decode cX6_failure 43 = .ok (.iload_n 2, 1) := by decide +kernel
theorem dX6_failure_44 : decode cX6_failure 44 = .ok (.imul, 1) := by decide +kernel
theorem dX6_failure_45 : decode cX6_failure 45 = .ok (.iadd, 1) := by decide +kernel
theorem dX6_failure_46 : decode cX6_failure 46 = .ok (.iload_n 3, 1) := by decide +kernel
theorem dX6_failure_47 : decode cX6_failure 47 = .ok (.iadd, 1) := by decide +kernel
theorem dX6_failure_48 : decode cX6_failure 48 = .ok (.invokestatic 46, 3) := by decide +kernel
theorem dX6_failure_51 : decode cX6_failure 51 = .ok (.iaload, 1) := by decide +kernel
theorem dX6_failure_52 : decode cX6_failure 52 = .ok (.goto 34, 3) := by decide +kernel
theorem dX6_failure_55 : decode cX6_failure 55 = .ok (.iload_n 3, 1) := by decide +kernel
theorem dX6_failure_56 : decode cX6_failure 56 = .ok (.iconst 3, 1) := by decide +kernel
theorem dX6_failure_57 : decode cX6_failure 57 = .ok (.if_icmp .ne 15, 3) := by decide +kernel
theorem dX6_failure_60 : decode cX6_failure 60 = .ok (.aload_n 0, 1) := by decide +kernel
theorem dX6_failure_61 : decode cX6_failure 61 = .ok (.getfield 28, 3) := by decide +kernel
theorem dX6_failure_64 : decode cX6_failure 64 = .ok (.iload_n 2, 1) := by decide +kernel
theorem dX6_failure_65 : decode cX6_failure 65 = .ok (.baload, 1) := by decide +kernel
theorem dX6_failure_66 : decode cX6_failure 66 = .ok (.ifCond .eq 19, 3) := by decide +kernel
theorem dX6_failure_69 : decode cX6_failure 69 = .ok (.goto 12, 3) := by decide +kernel
theorem dX6_failure_72 : decode cX6_failure 72 = .ok (.aload_n 0, 1) := by decide +kernel
theorem dX6_failure_73 : decode cX6_failure 73 = .ok (.getfield 32, 3) := by decide +kernel
theorem dX6_failure_76 : decode cX6_failure 76 = .ok (.iload_n 2, 1) := by decide +kernel
theorem dX6_failure_77 : decode cX6_failure 77 = .ok (.baload, 1) := by decide +kernel
theorem dX6_failure_78 : decode cX6_failure 78 = .ok (.ifCond .eq 7, 3) := by decide +kernel
theorem dX6_failure_81 : decode cX6_failure 81 = .ok (.iconst 1, 1) := by decide +kernel
theorem dX6_failure_82 : decode cX6_failure 82 = .ok (.goto 4, 3) := by decide +kernel
theorem dX6_failure_85 : decode cX6_failure 85 = .ok (.iconst 0, 1) := by decide +kernel
theorem dX6_failure_86 : decode cX6_failure 86 = .ok (.ireturn, 1) := by decide +kernel
theorem dX6_violation_0 : decode cX6_violation 0 = .ok (.aload_n 0, 1) := by decide +kernel
theorem dX6_violation_1 : decode cX6_violation 1 = .ok (.iconst 0, 1) := by decide +kernel
theorem dX6_violation_2 : decode cX6_violation 2 = .ok (.putfield 38, 3) := by decide +kernel
theorem dX6_violation_5 : decode cX6_violation 5 = .ok (.aload_n 0, 1) := by decide +kernel
theorem dX6_violation_6 : decode cX6_violation 6 = .ok (.iload_n 1, 1) := by decide +kernel
theorem dX6_violation_7 : decode cX6_violation 7 = .ok (.invokevirtual 73, 3) := by decide +kernel
theorem dX6_violation_10 : decode cX6_violation 10 = .ok (.ifCond .ne 5, 3) := by decide +kernel
theorem dX6_violation_13 : decode cX6_violation 13 = .ok (.iconst (-1), 1) := by decide +kernel
theorem dX6_violation_14 : decode cX6_violation 14 = .ok (.ireturn, 1) := by decide +kernel
theorem dX6_violation_15 : decode cX6_violation 15 = .ok (.aload_n 0, 1) := by decide +kernel
theorem dX6_violation_16 : decode cX6_violation 16 = .ok (.iload_n 1, 1) := by decide +kernel
theorem dX6_violation_17 : decode cX6_violation 17 = .ok (.invokevirtual 205, 3) := by decide +kernel
theorem dX6_violation_20 : decode cX6_violation 20 = .ok (.iload_n 2, 1) := by decide +kernel
theorem dX6_violation_21 : decode cX6_violation 21 = .ok (.iconst 0, 1) := by decide +kernel
theorem dX6_violation_22 : decode cX6_violation 22 = .ok (.aload_n 0, 1) := by decide +kernel
theorem dX6_violation_23 : decode cX6_violation 23 = .ok (.getfield 194, 3) := by decide +kernel
theorem dX6_violation_26 : decode cX6_violation 26 = .ok (.iconst 1, 1) := by decide +kernel
theorem dX6_violation_27 : decode cX6_violation 27 = .ok (.isub, 1) := by decide +kernel
theorem dX6_violation_28 : decode cX6_violation 28 = .ok (.invokestatic 42, 3) := by decide +kernel
theorem dX6_violation_31 : decode cX6_violation 31 = .ok (.ifCond .eq 12, 3) := by decide +kernel
theorem dX6_violation_34 : decode cX6_violation 34 = .ok (.aload_n 0, 1) := by decide +kernel
theorem dX6_violation_35 : decode cX6_violation 35 = .ok (.getfield 35, 3) := by decide +kernel
theorem dX6_violation_38 : decode cX6_violation 38 = .ok (.iload_n 2, 1) := by decide +kernel
theorem dX6_violation_39 : decode cX6_violation 39 = .ok (.iaload, 1) := by decide +kernel
theorem dX6_violation_40 : decode cX6_violation 40 = .ok (.goto 4, 3) := by decide +kernel
theorem dX6_violation_43 : decode cX6_violation 43 = .ok (.iconst (-1), 1) := by decide +kernel
theorem dX6_violation_44 : decode cX6_violation 44 = .ok (.ireturn, 1) := by decide +kernel
theorem dX6_hole_0 : decode cX6_hole 0 = .ok (.aload_n 0, 1) := by decide +kernel
theorem dX6_hole_1 : decode cX6_hole 1 = .ok (.iconst 0, 1) := by decide +kernel
theorem dX6_hole_2 : decode cX6_hole 2 = .ok (.putfield 38, 3) := by decide +kernel
theorem dX6_hole_5 : decode cX6_hole 5 = .ok (.aload_n 0, 1) := by decide +kernel
theorem dX6_hole_6 : decode cX6_hole 6 = .ok (.iload_n 1, 1) := by decide +kernel
theorem dX6_hole_7 : decode cX6_hole 7 = .ok (.invokevirtual 73, 3) := by decide +kernel
theorem dX6_hole_10 : decode cX6_hole 10 = .ok (.ifCond .eq 22, 3) := by decide +kernel
theorem dX6_hole_13 : decode cX6_hole 13 = .ok (.iload_n 2, 1) := by decide +kernel
theorem dX6_hole_14 : decode cX6_hole 14 = .ok (.iconst 0, 1) := by decide +kernel
theorem dX6_hole_15 : decode cX6_hole 15 = .ok (.bipush 35, 2) := by decide +kernel
theorem dX6_hole_17 : decode cX6_hole 17 = .ok (.invokestatic 42, 3) := by decide +kernel
theorem dX6_hole_20 : decode cX6_hole 20 = .ok (.ifCond .eq 12, 3) := by decide +kernel
theorem dX6_hole_23 : decode cX6_hole 23 = .ok (.aload_n 0, 1) := by decide +kernel
theorem dX6_hole_24 : decode cX6_hole 24 = .ok (.iload_n 1, 1) := by decide +kernel
theorem dX6_hole_25 : decode cX6_hole 25 = .ok (.iload_n 2, 1) := by decide +kernel
theorem dX6_hole_26 : decode cX6_hole 26 = .ok (.invokevirtual 57, 3) := by decide +kernel
theorem dX6_hole_29 : decode cX6_hole 29 = .ok (.goto 4, 3) := by decide +kernel
theorem dX6_hole_32 : decode cX6_hole 32 = .ok (.iconst (-1), 1) := by decide +kernel
theorem dX6_hole_33 : decode cX6_hole 33 = .ok (.ireturn, 1) := by decide +kernel
theorem dX6_sumBut_0 : decode cX6_sumBut 0 = .ok (.iconst 0, 1) := by decide +kernel
theorem dX6_sumBut_1 : decode cX6_sumBut 1 = .ok (.istore_n 2, 1) := by decide +kernel
theorem dX6_sumBut_2 : decode cX6_sumBut 2 = .ok (.iconst 0, 1) := by decide +kernel
theorem dX6_sumBut_3 : decode cX6_sumBut 3 = .ok (.istore_n 3, 1) := by decide +kernel
theorem dX6_sumBut_4 : decode cX6_sumBut 4 = .ok (.iload_n 3, 1) := by decide +kernel
theorem dX6_sumBut_5 : decode cX6_sumBut 5 = .ok (.aload_n 0, 1) := by decide +kernel
theorem dX6_sumBut_6 : decode cX6_sumBut 6 = .ok (.getfield 7, 3) := by decide +kernel
theorem dX6_sumBut_9 : decode cX6_sumBut 9 = .ok (.iconst 2, 1) := by decide +kernel
theorem dX6_sumBut_10 : decode cX6_sumBut 10 = .ok (.iaload, 1) := by decide +kernel
theorem dX6_sumBut_11 : decode cX6_sumBut 11 = .ok (.if_icmp .ge 30, 3) := by decide +kernel
theorem dX6_sumBut_14 : decode cX6_sumBut 14 = .ok (.iload_n 2, 1) := by decide +kernel
theorem dX6_sumBut_15 : decode cX6_sumBut 15 = .ok (.iload_n 1, 1) := by decide +kernel
theorem dX6_sumBut_16 : decode cX6_sumBut 16 = .ok (.iload_n 3, 1) := by decide +kernel
theorem dX6_sumBut_17 : decode cX6_sumBut 17 = .ok (.ishr, 1) := by decide +kernel
theorem dX6_sumBut_18 : decode cX6_sumBut 18 = .ok (.iconst 1, 1) := by decide +kernel
theorem dX6_sumBut_19 : decode cX6_sumBut 19 = .ok (.iand, 1) := by decide +kernel
theorem dX6_sumBut_20 : decode cX6_sumBut 20 = .ok (.iconst 1, 1) := by decide +kernel
theorem dX6_sumBut_21 : decode cX6_sumBut 21 = .ok (.if_icmp .ne 7, 3) := by decide +kernel
theorem dX6_sumBut_24 : decode cX6_sumBut 24 = .ok (.iconst 0, 1) := by decide +kernel
theorem dX6_sumBut_25 : decode cX6_sumBut 25 = .ok (.goto 8, 3) := by decide +kernel
theorem dX6_sumBut_28 : decode cX6_sumBut 28 = .ok (.aload_n 0, 1) := by decide +kernel
theorem dX6_sumBut_29 : decode cX6_sumBut 29 = .ok (.iload_n 3, 1) := by decide +kernel
theorem dX6_sumBut_30 : decode cX6_sumBut 30 = .ok (.invokevirtual 217, 3) := by decide +kernel
theorem dX6_sumBut_33 : decode cX6_sumBut 33 = .ok (.iadd, 1) := by decide +kernel
theorem dX6_sumBut_34 : decode cX6_sumBut 34 = .ok (.istore_n 2, 1) := by decide +kernel
theorem dX6_sumBut_35 : decode cX6_sumBut 35 = .ok (.iinc 3 1, 3) := by decide +kernel
theorem dX6_sumBut_38 : decode cX6_sumBut 38 = .ok (.goto (-34), 3) := by decide +kernel
theorem dX6_sumBut_41 : decode cX6_sumBut 41 = .ok (.iload_n 2, 1) := by decide +kernel
theorem dX6_sumBut_42 : decode cX6_sumBut 42 = .ok (.ireturn, 1) := by decide +kernel
theorem dX6_lot_0 : decode cX6_lot 0 = .ok (.aload_n 0, 1) := by decide +kernel
theorem dX6_lot_1 : decode cX6_lot 1 = .ok (.iconst 0, 1) := by decide +kernel
theorem dX6_lot_2 : decode cX6_lot 2 = .ok (.putfield 38, 3) := by decide +kernel
theorem dX6_lot_5 : decode cX6_lot 5 = .ok (.iload_n 1, 1) := by decide +kernel
theorem dX6_lot_6 : decode cX6_lot 6 = .ok (.ifCond .lt 17, 3) := by decide +kernel
theorem dX6_lot_9 : decode cX6_lot 9 = .ok (.iload_n 2, 1) := by decide +kernel
theorem dX6_lot_10 : decode cX6_lot 10 = .ok (.iconst 1, 1) := by decide +kernel
theorem dX6_lot_11 : decode cX6_lot 11 = .ok (.aload_n 0, 1) := by decide +kernel
theorem dX6_lot_12 : decode cX6_lot 12 = .ok (.getfield 7, 3) := by decide +kernel
theorem dX6_lot_15 : decode cX6_lot 15 = .ok (.iconst 2, 1) := by decide +kernel
theorem dX6_lot_16 : decode cX6_lot 16 = .ok (.iaload, 1) := by decide +kernel
theorem dX6_lot_17 : decode cX6_lot 17 = .ok (.invokestatic 42, 3) := by decide +kernel
theorem dX6_lot_20 : decode cX6_lot 20 = .ok (.ifCond .ne 5, 3) := by decide +kernel
theorem dX6_lot_23 : decode cX6_lot 23 = .ok (.iconst (-1), 1) := by decide +kernel
theorem dX6_lot_24 : decode cX6_lot 24 = .ok (.ireturn, 1) := by decide +kernel
theorem dX6_lot_25 : decode cX6_lot 25 = .ok (.iload_n 1, 1) := by decide +kernel
theorem dX6_lot_26 : decode cX6_lot 26 = .ok (.i2l, 1) := by decide +kernel
theorem dX6_lot_27 : decode cX6_lot 27 = .ok (.lstore_n 3, 1) := by decide +kernel
theorem dX6_lot_28 : decode cX6_lot 28 = .ok (.iconst 0, 1) := by decide +kernel
theorem dX6_lot_29 : decode cX6_lot 29 = .ok (.istore 5, 2) := by decide +kernel
theorem dX6_lot_31 : decode cX6_lot 31 = .ok (.iconst 0, 1) := by decide +kernel
theorem dX6_lot_32 : decode cX6_lot 32 = .ok (.istore 6, 2) := by decide +kernel
theorem dX6_lot_34 : decode cX6_lot 34 = .ok (.iconst 0, 1) := by decide +kernel
theorem dX6_lot_35 : decode cX6_lot 35 = .ok (.istore 7, 2) := by decide +kernel
theorem dX6_lot_37 : decode cX6_lot 37 = .ok (.iload 7, 2) := by decide +kernel
theorem dX6_lot_39 : decode cX6_lot 39 = .ok (.iload_n 2, 1) := by decide +kernel
theorem dX6_lot_40 : decode cX6_lot 40 = .ok (.if_icmp .ge 94, 3) := by decide +kernel
theorem dX6_lot_43 : decode cX6_lot 43 = .ok (.ldc2_w 223, 3) := by decide +kernel
theorem dX6_lot_46 : decode cX6_lot 46 = .ok (.lload_n 3, 1) := by decide +kernel
theorem dX6_lot_47 : decode cX6_lot 47 = .ok (.lmul, 1) := by decide +kernel
theorem dX6_lot_48 : decode cX6_lot 48 = .ok (.ldc2_w 225, 3) := by decide +kernel
theorem dX6_lot_51 : decode cX6_lot 51 = .ok (.ladd, 1) := by decide +kernel
theorem dX6_lot_52 : decode cX6_lot 52 = .ok (.ldc2_w 227, 3) := by decide +kernel
theorem dX6_lot_55 : decode cX6_lot 55 = .ok (.lrem, 1) := by decide +kernel
theorem dX6_lot_56 : decode cX6_lot 56 = .ok (.lstore_n 3, 1) := by decide +kernel
theorem dX6_lot_57 : decode cX6_lot 57 = .ok (.lload_n 3, 1) := by decide +kernel
theorem dX6_lot_58 : decode cX6_lot 58 = .ok (.aload_n 0, 1) := by decide +kernel
theorem dX6_lot_59 : decode cX6_lot 59 = .ok (.iload 5, 2) := by decide +kernel
theorem dX6_lot_61 : decode cX6_lot 61 = .ok (.invokevirtual 229, 3) := by decide +kernel
theorem dX6_lot_64 : decode cX6_lot 64 = .ok (.i2l, 1) := by decide +kernel
theorem dX6_lot_65 : decode cX6_lot 65 = .ok (.lrem, 1) := by decide +kernel
theorem dX6_lot_66 : decode cX6_lot 66 = .ok (.l2i, 1) := by decide +kernel
theorem dX6_lot_67 : decode cX6_lot 67 = .ok (.istore 8, 2) := by decide +kernel
theorem dX6_lot_69 : decode cX6_lot 69 = .ok (.iconst (-1), 1) := by decide +kernel
theorem dX6_lot_70 : decode cX6_lot 70 = .ok (.istore 9, 2) := by decide +kernel
theorem dX6_lot_72 : decode cX6_lot 72 = .ok (.iload 8, 2) := by decide +kernel
theorem dX6_lot_74 : decode cX6_lot 74 = .ok (.ifCond .lt 35, 3) := by decide +kernel
theorem dX6_lot_77 : decode cX6_lot 77 = .ok (.iinc 9 1, 3) := by decide +kernel
theorem dX6_lot_80 : decode cX6_lot 80 = .ok (.iload 8, 2) := by decide +kernel
theorem dX6_lot_82 : decode cX6_lot 82 = .ok (.iload 5, 2) := by decide +kernel
theorem dX6_lot_84 : decode cX6_lot 84 = .ok (.iload 9, 2) := by decide +kernel
theorem dX6_lot_86 : decode cX6_lot 86 = .ok (.ishr, 1) := by decide +kernel
theorem dX6_lot_87 : decode cX6_lot 87 = .ok (.iconst 1, 1) := by decide +kernel
theorem dX6_lot_88 : decode cX6_lot 88 = .ok (.iand, 1) := by decide +kernel
theorem dX6_lot_89 : decode cX6_lot 89 = .ok (.iconst 1, 1) := by decide +kernel
theorem dX6_lot_90 : decode cX6_lot 90 = .ok (.if_icmp .ne 7, 3) := by decide +kernel
theorem dX6_lot_93 : decode cX6_lot 93 = .ok (.iconst 0, 1) := by decide +kernel
theorem dX6_lot_94 : decode cX6_lot 94 = .ok (.goto 9, 3) := by decide +kernel
theorem dX6_lot_97 : decode cX6_lot 97 = .ok (.aload_n 0, 1) := by decide +kernel
theorem dX6_lot_98 : decode cX6_lot 98 = .ok (.iload 9, 2) := by decide +kernel
theorem dX6_lot_100 : decode cX6_lot 100 = .ok (.invokevirtual 217, 3) := by decide +kernel
theorem dX6_lot_103 : decode cX6_lot 103 = .ok (.isub, 1) := by decide +kernel
theorem dX6_lot_104 : decode cX6_lot 104 = .ok (.istore 8, 2) := by decide +kernel
theorem dX6_lot_106 : decode cX6_lot 106 = .ok (.goto (-34), 3) := by decide +kernel
theorem dX6_lot_109 : decode cX6_lot 109 = .ok (.iload 5, 2) := by decide +kernel
theorem dX6_lot_111 : decode cX6_lot 111 = .ok (.iconst 1, 1) := by decide +kernel
theorem dX6_lot_112 : decode cX6_lot 112 = .ok (.iload 9, 2) := by decide +kernel
theorem dX6_lot_114 : decode cX6_lot 114 = .ok (.ishl, 1) := by decide +kernel
theorem dX6_lot_115 : decode cX6_lot 115 = .ok (.ior, 1) := by decide +kernel
theorem dX6_lot_116 : decode cX6_lot 116 = .ok (.istore 5, 2) := by decide +kernel
theorem dX6_lot_118 : decode cX6_lot 118 = .ok (.bipush 10, 2) := by decide +kernel
theorem dX6_lot_120 : decode cX6_lot 120 = .ok (.iload 6, 2) := by decide +kernel
theorem dX6_lot_122 : decode cX6_lot 122 = .ok (.imul, 1) := by decide +kernel
theorem dX6_lot_123 : decode cX6_lot 123 = .ok (.iload 9, 2) := by decide +kernel
theorem dX6_lot_125 : decode cX6_lot 125 = .ok (.iadd, 1) := by decide +kernel
theorem dX6_lot_126 : decode cX6_lot 126 = .ok (.istore 6, 2) := by decide +kernel
theorem dX6_lot_128 : decode cX6_lot 128 = .ok (.iinc 7 1, 3) := by decide +kernel
theorem dX6_lot_131 : decode cX6_lot 131 = .ok (.goto (-94), 3) := by decide +kernel
theorem dX6_lot_134 : decode cX6_lot 134 = .ok (.iload 6, 2) := by decide +kernel
theorem dX6_lot_136 : decode cX6_lot 136 = .ok (.ireturn, 1) := by decide +kernel
theorem dX6_divisor_0 : decode cX6_divisor 0 = .ok (.iload_n 0, 1) := by decide +kernel
theorem dX6_divisor_1 : decode cX6_divisor 1 = .ok (.istore_n 2, 1) := by decide +kernel
theorem dX6_divisor_2 : decode cX6_divisor 2 = .ok (.iload_n 1, 1) := by decide +kernel
theorem dX6_divisor_3 : decode cX6_divisor 3 = .ok (.istore_n 3, 1) := by decide +kernel
theorem dX6_divisor_4 : decode cX6_divisor 4 = .ok (.iload_n 3, 1) := by decide +kernel
theorem dX6_divisor_5 : decode cX6_divisor 5 = .ok (.ifCond .eq 16, 3) := by decide +kernel
theorem dX6_divisor_8 : decode cX6_divisor 8 = .ok (.iload_n 2, 1) := by decide +kernel
theorem dX6_divisor_9 : decode cX6_divisor 9 = .ok (.iload_n 3, 1) := by decide +kernel
theorem dX6_divisor_10 : decode cX6_divisor 10 = .ok (.irem, 1) := by decide +kernel
theorem dX6_divisor_11 : decode cX6_divisor 11 = .ok (.istore 4, 2) := by decide +kernel
theorem dX6_divisor_13 : decode cX6_divisor 13 = .ok (.iload_n 3, 1) := by decide +kernel
theorem dX6_divisor_14 : decode cX6_divisor 14 = .ok (.istore_n 2, 1) := by decide +kernel
theorem dX6_divisor_15 : decode cX6_divisor 15 = .ok (.iload 4, 2) := by decide +kernel
theorem dX6_divisor_17 : decode cX6_divisor 17 = .ok (.istore_n 3, 1) := by decide +kernel
theorem dX6_divisor_18 : decode cX6_divisor 18 = .ok (.goto (-14), 3) := by decide +kernel
theorem dX6_divisor_21 : decode cX6_divisor 21 = .ok (.iload_n 2, 1) := by decide +kernel
theorem dX6_divisor_22 : decode cX6_divisor 22 = .ok (.ireturn, 1) := by decide +kernel
theorem dX6_chance_0 : decode cX6_chance 0 = .ok (.aload_n 0, 1) := by decide +kernel
theorem dX6_chance_1 : decode cX6_chance 1 = .ok (.iconst 0, 1) := by decide +kernel
theorem dX6_chance_2 : decode cX6_chance 2 = .ok (.putfield 38, 3) := by decide +kernel
theorem dX6_chance_5 : decode cX6_chance 5 = .ok (.aload_n 0, 1) := by decide +kernel
theorem dX6_chance_6 : decode cX6_chance 6 = .ok (.iload_n 1, 1) := by decide +kernel
theorem dX6_chance_7 : decode cX6_chance 7 = .ok (.invokevirtual 73, 3) := by decide +kernel
theorem dX6_chance_10 : decode cX6_chance 10 = .ok (.ifCond .ne 5, 3) := by decide +kernel
theorem dX6_chance_13 : decode cX6_chance 13 = .ok (.iconst (-1), 1) := by decide +kernel
theorem dX6_chance_14 : decode cX6_chance 14 = .ok (.ireturn, 1) := by decide +kernel
theorem dX6_chance_15 : decode cX6_chance 15 = .ok (.aload_n 0, 1) := by decide +kernel
theorem dX6_chance_16 : decode cX6_chance 16 = .ok (.iload_n 1, 1) := by decide +kernel
theorem dX6_chance_17 : decode cX6_chance 17 = .ok (.invokevirtual 217, 3) := by decide +kernel
theorem dX6_chance_20 : decode cX6_chance 20 = .ok (.istore_n 3, 1) := by decide +kernel
theorem dX6_chance_21 : decode cX6_chance 21 = .ok (.aload_n 0, 1) := by decide +kernel
theorem dX6_chance_22 : decode cX6_chance 22 = .ok (.iconst 0, 1) := by decide +kernel
theorem dX6_chance_23 : decode cX6_chance 23 = .ok (.invokevirtual 229, 3) := by decide +kernel
theorem dX6_chance_26 : decode cX6_chance 26 = .ok (.istore 4, 2) := by decide +kernel
theorem dX6_chance_28 : decode cX6_chance 28 = .ok (.iload_n 3, 1) := by decide +kernel
theorem dX6_chance_29 : decode cX6_chance 29 = .ok (.iload 4, 2) := by decide +kernel
theorem dX6_chance_31 : decode cX6_chance 31 = .ok (.invokestatic 232, 3) := by decide +kernel
theorem dX6_chance_34 : decode cX6_chance 34 = .ok (.istore 5, 2) := by decide +kernel
theorem dX6_chance_36 : decode cX6_chance 36 = .ok (.iload_n 2, 1) := by decide +kernel
theorem dX6_chance_37 : decode cX6_chance 37 = .ok (.ifCond .eq 11, 3) := by decide +kernel
theorem dX6_chance_40 : decode cX6_chance 40 = .ok (.iload 4, 2) := by decide +kernel
theorem dX6_chance_42 : decode cX6_chance 42 = .ok (.iload 5, 2) := by decide +kernel
theorem dX6_chance_44 : decode cX6_chance 44 = .ok (.idiv, 1) := by decide +kernel
theorem dX6_chance_45 : decode cX6_chance 45 = .ok (.goto 7, 3) := by decide +kernel
theorem dX6_chance_48 : decode cX6_chance 48 = .ok (.iload_n 3, 1) := by decide +kernel
theorem dX6_chance_49 : decode cX6_chance 49 = .ok (.iload 5, 2) := by decide +kernel
theorem dX6_chance_51 : decode cX6_chance 51 = .ok (.idiv, 1) := by decide +kernel
theorem dX6_chance_52 : decode cX6_chance 52 = .ok (.ireturn, 1) := by decide +kernel
theorem dX6_thereAt_0 : decode cX6_thereAt 0 = .ok (.iconst 0, 1) := by decide +kernel
theorem dX6_thereAt_1 : decode cX6_thereAt 1 = .ok (.istore 4, 2) := by decide +kernel
theorem dX6_thereAt_3 : decode cX6_thereAt 3 = .ok (.iconst 0, 1) := by decide +kernel
theorem dX6_thereAt_4 : decode cX6_thereAt 4 = .ok (.istore 5, 2) := by decide +kernel
theorem dX6_thereAt_6 : decode cX6_thereAt 6 = .ok (.iload 5, 2) := by decide +kernel
theorem dX6_thereAt_8 : decode cX6_thereAt 8 = .ok (.aload_n 0, 1) := by decide +kernel
theorem dX6_thereAt_9 : decode cX6_thereAt 9 = .ok (.getfield 7, 3) := by decide +kernel
theorem dX6_thereAt_12 : decode cX6_thereAt 12 = .ok (.iconst 2, 1) := by decide +kernel
theorem dX6_thereAt_13 : decode cX6_thereAt 13 = .ok (.iaload, 1) := by decide +kernel
theorem dX6_thereAt_14 : decode cX6_thereAt 14 = .ok (.if_icmp .ge 44, 3) := by decide +kernel
theorem dX6_thereAt_17 : decode cX6_thereAt 17 = .ok (.iload 4, 2) := by decide +kernel
theorem dX6_thereAt_19 : decode cX6_thereAt 19 = .ok (.aload_n 0, 1) := by decide +kernel
theorem dX6_thereAt_20 : decode cX6_thereAt 20 = .ok (.iload 5, 2) := by decide +kernel
theorem dX6_thereAt_22 : decode cX6_thereAt 22 = .ok (.sipush 188, 3) := by decide +kernel
theorem dX6_thereAt_25 : decode cX6_thereAt 25 = .ok (.iload_n 1, 1) := by decide +kernel
theorem dX6_thereAt_26 : decode cX6_thereAt 26 = .ok (.iadd, 1) := by decide +kernel
theorem dX6_thereAt_27 : decode cX6_thereAt 27 = .ok (.invokevirtual 50, 3) := by decide +kernel
theorem dX6_thereAt_30 : decode cX6_thereAt 30 = .ok (.bipush 10, 2) := by decide +kernel
theorem dX6_thereAt_32 : decode cX6_thereAt 32 = .ok (.iload_n 2, 1) := by decide +kernel
theorem dX6_thereAt_33 : decode cX6_thereAt 33 = .ok (.imul, 1) := by decide +kernel
theorem dX6_thereAt_34 : decode cX6_thereAt 34 = .ok (.iload_n 3, 1) := by decide +kernel
theorem dX6_thereAt_35 : decode cX6_thereAt 35 = .ok (.iadd, 1) := by decide +kernel
theorem dX6_thereAt_36 : decode cX6_thereAt 36 = .ok (.iconst 1, 1) := by decide +kernel
theorem dX6_thereAt_37 : decode cX6_thereAt 37 = .ok (.iadd, 1) := by decide +kernel
theorem dX6_thereAt_38 : decode cX6_thereAt 38 = .ok (.if_icmp .ne 10, 3) := by decide +kernel
theorem dX6_thereAt_41 : decode cX6_thereAt 41 = .ok (.iconst 1, 1) := by decide +kernel
theorem dX6_thereAt_42 : decode cX6_thereAt 42 = .ok (.iload 5, 2) := by decide +kernel
theorem dX6_thereAt_44 : decode cX6_thereAt 44 = .ok (.ishl, 1) := by decide +kernel
theorem dX6_thereAt_45 : decode cX6_thereAt 45 = .ok (.goto 4, 3) := by decide +kernel
theorem dX6_thereAt_48 : decode cX6_thereAt 48 = .ok (.iconst 0, 1) := by decide +kernel
theorem dX6_thereAt_49 : decode cX6_thereAt 49 = .ok (.ior, 1) := by decide +kernel
theorem dX6_thereAt_50 : decode cX6_thereAt 50 = .ok (.istore 4, 2) := by decide +kernel
theorem dX6_thereAt_52 : decode cX6_thereAt 52 = .ok (.iinc 5 1, 3) := by decide +kernel
theorem dX6_thereAt_55 : decode cX6_thereAt 55 = .ok (.goto (-49), 3) := by decide +kernel
theorem dX6_thereAt_58 : decode cX6_thereAt 58 = .ok (.iload 4, 2) := by decide +kernel
theorem dX6_thereAt_60 : decode cX6_thereAt 60 = .ok (.ireturn, 1) := by decide +kernel
theorem dX6_bits_0 : decode cX6_bits 0 = .ok (.iconst 0, 1) := by decide +kernel
theorem dX6_bits_1 : decode cX6_bits 1 = .ok (.istore_n 1, 1) := by decide +kernel
theorem dX6_bits_2 : decode cX6_bits 2 = .ok (.iload_n 0, 1) := by decide +kernel
theorem dX6_bits_3 : decode cX6_bits 3 = .ok (.istore_n 2, 1) := by decide +kernel
theorem dX6_bits_4 : decode cX6_bits 4 = .ok (.iload_n 2, 1) := by decide +kernel
theorem dX6_bits_5 : decode cX6_bits 5 = .ok (.ifCond .eq 15, 3) := by decide +kernel
theorem dX6_bits_8 : decode cX6_bits 8 = .ok (.iinc 1 1, 3) := by decide +kernel
theorem dX6_bits_11 : decode cX6_bits 11 = .ok (.iload_n 2, 1) := by decide +kernel
theorem dX6_bits_12 : decode cX6_bits 12 = .ok (.iload_n 2, 1) := by decide +kernel
theorem dX6_bits_13 : decode cX6_bits 13 = .ok (.iconst 1, 1) := by decide +kernel
theorem dX6_bits_14 : decode cX6_bits 14 = .ok (.isub, 1) := by decide +kernel
theorem dX6_bits_15 : decode cX6_bits 15 = .ok (.iand, 1) := by decide +kernel
theorem dX6_bits_16 : decode cX6_bits 16 = .ok (.istore_n 2, 1) := by decide +kernel
theorem dX6_bits_17 : decode cX6_bits 17 = .ok (.goto (-13), 3) := by decide +kernel
theorem dX6_bits_20 : decode cX6_bits 20 = .ok (.iload_n 1, 1) := by decide +kernel
theorem dX6_bits_21 : decode cX6_bits 21 = .ok (.ireturn, 1) := by decide +kernel
theorem dX6_bestPlace_0 : decode cX6_bestPlace 0 = .ok (.iconst (-1), 1) := by decide +kernel
theorem dX6_bestPlace_1 : decode cX6_bestPlace 1 = .ok (.istore_n 3, 1) := by decide +kernel
theorem dX6_bestPlace_2 : decode cX6_bestPlace 2 = .ok (.iconst 0, 1) := by decide +kernel
theorem dX6_bestPlace_3 : decode cX6_bestPlace 3 = .ok (.istore 4, 2) := by decide +kernel
theorem dX6_bestPlace_5 : decode cX6_bestPlace 5 = .ok (.iconst 0, 1) := by decide +kernel
theorem dX6_bestPlace_6 : decode cX6_bestPlace 6 = .ok (.istore 5, 2) := by decide +kernel
theorem dX6_bestPlace_8 : decode cX6_bestPlace 8 = .ok (.iload 5, 2) := by decide +kernel
theorem dX6_bestPlace_10 : decode cX6_bestPlace 10 = .ok (.bipush 10, 2) := by decide +kernel
theorem dX6_bestPlace_12 : decode cX6_bestPlace 12 = .ok (.if_icmp .ge 52, 3) := by decide +kernel
theorem dX6_bestPlace_15 : decode cX6_bestPlace 15 = .ok (.aload_n 0, 1) := by decide +kernel
theorem dX6_bestPlace_16 : decode cX6_bestPlace 16 = .ok (.iload_n 1, 1) := by decide +kernel
theorem dX6_bestPlace_17 : decode cX6_bestPlace 17 = .ok (.iload_n 2, 1) := by decide +kernel
theorem dX6_bestPlace_18 : decode cX6_bestPlace 18 = .ok (.iload 5, 2) := by decide +kernel
end
section
theorem dX6_bestPlace_20 : decode cX6_bestPlace 20 = .ok (.invokevirtual 235, 3) := by decide +kernel
theorem dX6_bestPlace_23 : decode cX6_bestPlace 23 = .ok (.invokestatic 238, 3) := by decide +kernel
theorem dX6_bestPlace_26 : decode cX6_bestPlace 26 = .ok (.istore 6, 2) := by decide +kernel
theorem dX6_bestPlace_28 : decode cX6_bestPlace 28 = .ok (.iload 6, 2) := by decide +kernel
theorem dX6_bestPlace_30 : decode cX6_bestPlace 30 = .ok (.iload 4, 2) := by decide +kernel
theorem dX6_bestPlace_32 : decode cX6_bestPlace 32 = .ok (.if_icmp .le 8, 3) := by decide +kernel
theorem dX6_bestPlace_35 : decode cX6_bestPlace 35 = .ok (.iload 5, 2) := by decide +kernel
theorem dX6_bestPlace_37 : decode cX6_bestPlace 37 = .ok (.goto 4, 3) := by decide +kernel
theorem dX6_bestPlace_40 : decode cX6_bestPlace 40 = .ok (.iload_n 3, 1) := by decide +kernel
theorem dX6_bestPlace_41 : decode cX6_bestPlace 41 = .ok (.istore_n 3, 1) := by decide +kernel
theorem dX6_bestPlace_42 : decode cX6_bestPlace 42 = .ok (.iload 6, 2) := by decide +kernel
theorem dX6_bestPlace_44 : decode cX6_bestPlace 44 = .ok (.iload 4, 2) := by decide +kernel
theorem dX6_bestPlace_46 : decode cX6_bestPlace 46 = .ok (.if_icmp .le 8, 3) := by decide +kernel
theorem dX6_bestPlace_49 : decode cX6_bestPlace 49 = .ok (.iload 6, 2) := by decide +kernel
theorem dX6_bestPlace_51 : decode cX6_bestPlace 51 = .ok (.goto 5, 3) := by decide +kernel
theorem dX6_bestPlace_54 : decode cX6_bestPlace 54 = .ok (.iload 4, 2) := by decide +kernel
theorem dX6_bestPlace_56 : decode cX6_bestPlace 56 = .ok (.istore 4, 2) := by decide +kernel
theorem dX6_bestPlace_58 : decode cX6_bestPlace 58 = .ok (.iinc 5 1, 3) := by decide +kernel
theorem dX6_bestPlace_61 : decode cX6_bestPlace 61 = .ok (.goto (-53), 3) := by decide +kernel
theorem dX6_bestPlace_64 : decode cX6_bestPlace 64 = .ok (.iload_n 3, 1) := by decide +kernel
theorem dX6_bestPlace_65 : decode cX6_bestPlace 65 = .ok (.ireturn, 1) := by decide +kernel
theorem dX6_round_0 : decode cX6_round 0 = .ok (.aload_n 0, 1) := by decide +kernel
theorem dX6_round_1 : decode cX6_round 1 = .ok (.iconst 0, 1) := by decide +kernel
theorem dX6_round_2 : decode cX6_round 2 = .ok (.putfield 38, 3) := by decide +kernel
theorem dX6_round_5 : decode cX6_round 5 = .ok (.iload_n 1, 1) := by decide +kernel
theorem dX6_round_6 : decode cX6_round 6 = .ok (.invokestatic 220, 3) := by decide +kernel
theorem dX6_round_9 : decode cX6_round 9 = .ok (.ifCond .eq 27, 3) := by decide +kernel
theorem dX6_round_12 : decode cX6_round 12 = .ok (.iload_n 3, 1) := by decide +kernel
theorem dX6_round_13 : decode cX6_round 13 = .ok (.iconst 0, 1) := by decide +kernel
theorem dX6_round_14 : decode cX6_round 14 = .ok (.iconst 1, 1) := by decide +kernel
theorem dX6_round_15 : decode cX6_round 15 = .ok (.invokestatic 42, 3) := by decide +kernel
theorem dX6_round_18 : decode cX6_round 18 = .ok (.ifCond .eq 18, 3) := by decide +kernel
theorem dX6_round_21 : decode cX6_round 21 = .ok (.iload_n 2, 1) := by decide +kernel
theorem dX6_round_22 : decode cX6_round 22 = .ok (.iconst (-1), 1) := by decide +kernel
theorem dX6_round_23 : decode cX6_round 23 = .ok (.if_icmp .eq 15, 3) := by decide +kernel
theorem dX6_round_26 : decode cX6_round 26 = .ok (.iload_n 2, 1) := by decide +kernel
theorem dX6_round_27 : decode cX6_round 27 = .ok (.iconst 5, 1) := by decide +kernel
theorem dX6_round_28 : decode cX6_round 28 = .ok (.bipush 22, 2) := by decide +kernel
theorem dX6_round_30 : decode cX6_round 30 = .ok (.invokestatic 42, 3) := by decide +kernel
theorem dX6_round_33 : decode cX6_round 33 = .ok (.ifCond .ne 5, 3) := by decide +kernel
theorem dX6_round_36 : decode cX6_round 36 = .ok (.iconst (-1), 1) := by decide +kernel
theorem dX6_round_37 : decode cX6_round 37 = .ok (.ireturn, 1) := by decide +kernel
theorem dX6_round_38 : decode cX6_round 38 = .ok (.iload_n 2, 1) := by decide +kernel
theorem dX6_round_39 : decode cX6_round 39 = .ok (.iconst (-1), 1) := by decide +kernel
theorem dX6_round_40 : decode cX6_round 40 = .ok (.if_icmp .eq 35, 3) := by decide +kernel
theorem dX6_round_43 : decode cX6_round 43 = .ok (.aload_n 0, 1) := by decide +kernel
theorem dX6_round_44 : decode cX6_round 44 = .ok (.iload_n 1, 1) := by decide +kernel
theorem dX6_round_45 : decode cX6_round 45 = .ok (.iload_n 2, 1) := by decide +kernel
theorem dX6_round_46 : decode cX6_round 46 = .ok (.invokevirtual 241, 3) := by decide +kernel
theorem dX6_round_49 : decode cX6_round 49 = .ok (.istore 4, 2) := by decide +kernel
theorem dX6_round_51 : decode cX6_round 51 = .ok (.iload 4, 2) := by decide +kernel
theorem dX6_round_53 : decode cX6_round 53 = .ok (.iconst (-1), 1) := by decide +kernel
theorem dX6_round_54 : decode cX6_round 54 = .ok (.if_icmp .eq 7, 3) := by decide +kernel
theorem dX6_round_57 : decode cX6_round 57 = .ok (.iload_n 3, 1) := by decide +kernel
theorem dX6_round_58 : decode cX6_round 58 = .ok (.ifCond .ne 8, 3) := by decide +kernel
theorem dX6_round_61 : decode cX6_round 61 = .ok (.iload 4, 2) := by decide +kernel
theorem dX6_round_63 : decode cX6_round 63 = .ok (.goto 11, 3) := by decide +kernel
theorem dX6_round_66 : decode cX6_round 66 = .ok (.aload_n 0, 1) := by decide +kernel
theorem dX6_round_67 : decode cX6_round 67 = .ok (.iload_n 1, 1) := by decide +kernel
theorem dX6_round_68 : decode cX6_round 68 = .ok (.iload_n 2, 1) := by decide +kernel
theorem dX6_round_69 : decode cX6_round 69 = .ok (.iload 4, 2) := by decide +kernel
theorem dX6_round_71 : decode cX6_round 71 = .ok (.invokevirtual 235, 3) := by decide +kernel
theorem dX6_round_74 : decode cX6_round 74 = .ok (.ireturn, 1) := by decide +kernel
theorem dX6_round_75 : decode cX6_round 75 = .ok (.iconst 0, 1) := by decide +kernel
theorem dX6_round_76 : decode cX6_round 76 = .ok (.istore 4, 2) := by decide +kernel
theorem dX6_round_78 : decode cX6_round 78 = .ok (.iconst 5, 1) := by decide +kernel
theorem dX6_round_79 : decode cX6_round 79 = .ok (.istore 5, 2) := by decide +kernel
theorem dX6_round_81 : decode cX6_round 81 = .ok (.iload 5, 2) := by decide +kernel
theorem dX6_round_83 : decode cX6_round 83 = .ok (.bipush 22, 2) := by decide +kernel
theorem dX6_round_85 : decode cX6_round 85 = .ok (.if_icmp .gt 53, 3) := by decide +kernel
theorem dX6_round_88 : decode cX6_round 88 = .ok (.aload_n 0, 1) := by decide +kernel
theorem dX6_round_89 : decode cX6_round 89 = .ok (.iload_n 1, 1) := by decide +kernel
theorem dX6_round_90 : decode cX6_round 90 = .ok (.iload 5, 2) := by decide +kernel
theorem dX6_round_92 : decode cX6_round 92 = .ok (.invokevirtual 241, 3) := by decide +kernel
theorem dX6_round_95 : decode cX6_round 95 = .ok (.istore 6, 2) := by decide +kernel
theorem dX6_round_97 : decode cX6_round 97 = .ok (.iload 4, 2) := by decide +kernel
theorem dX6_round_99 : decode cX6_round 99 = .ok (.iload 6, 2) := by decide +kernel
theorem dX6_round_101 : decode cX6_round 101 = .ok (.iconst (-1), 1) := by decide +kernel
theorem dX6_round_102 : decode cX6_round 102 = .ok (.if_icmp .ne 7, 3) := by decide +kernel
theorem dX6_round_105 : decode cX6_round 105 = .ok (.iconst 0, 1) := by decide +kernel
theorem dX6_round_106 : decode cX6_round 106 = .ok (.goto 23, 3) := by decide +kernel
theorem dX6_round_109 : decode cX6_round 109 = .ok (.iload_n 3, 1) := by decide +kernel
theorem dX6_round_110 : decode cX6_round 110 = .ok (.ifCond .ne 7, 3) := by decide +kernel
theorem dX6_round_113 : decode cX6_round 113 = .ok (.iconst 1, 1) := by decide +kernel
theorem dX6_round_114 : decode cX6_round 114 = .ok (.goto 15, 3) := by decide +kernel
theorem dX6_round_117 : decode cX6_round 117 = .ok (.aload_n 0, 1) := by decide +kernel
theorem dX6_round_118 : decode cX6_round 118 = .ok (.iload_n 1, 1) := by decide +kernel
theorem dX6_round_119 : decode cX6_round 119 = .ok (.iload 5, 2) := by decide +kernel
theorem dX6_round_121 : decode cX6_round 121 = .ok (.iload 6, 2) := by decide +kernel
theorem dX6_round_123 : decode cX6_round 123 = .ok (.invokevirtual 235, 3) := by decide +kernel
theorem dX6_round_126 : decode cX6_round 126 = .ok (.invokestatic 238, 3) := by decide +kernel
theorem dX6_round_129 : decode cX6_round 129 = .ok (.iadd, 1) := by decide +kernel
theorem dX6_round_130 : decode cX6_round 130 = .ok (.istore 4, 2) := by decide +kernel
theorem dX6_round_132 : decode cX6_round 132 = .ok (.iinc 5 1, 3) := by decide +kernel
theorem dX6_round_135 : decode cX6_round 135 = .ok (.goto (-54), 3) := by decide +kernel
theorem dX6_round_138 : decode cX6_round 138 = .ok (.iload 4, 2) := by decide +kernel
theorem dX6_round_140 : decode cX6_round 140 = .ok (.ireturn, 1) := by decide +kernel
theorem dX6_there_0 : decode cX6_there 0 = .ok (.aload_n 0, 1) := by decide +kernel
theorem dX6_there_1 : decode cX6_there 1 = .ok (.iconst 0, 1) := by decide +kernel
theorem dX6_there_2 : decode cX6_there 2 = .ok (.putfield 38, 3) := by decide +kernel
theorem dX6_there_5 : decode cX6_there 5 = .ok (.iload_n 1, 1) := by decide +kernel
theorem dX6_there_6 : decode cX6_there 6 = .ok (.invokestatic 220, 3) := by decide +kernel
theorem dX6_there_9 : decode cX6_there 9 = .ok (.ifCond .eq 33, 3) := by decide +kernel
theorem dX6_there_12 : decode cX6_there 12 = .ok (.iload_n 2, 1) := by decide +kernel
theorem dX6_there_13 : decode cX6_there 13 = .ok (.iconst 5, 1) := by decide +kernel
theorem dX6_there_14 : decode cX6_there 14 = .ok (.bipush 22, 2) := by decide +kernel
theorem dX6_there_16 : decode cX6_there 16 = .ok (.invokestatic 42, 3) := by decide +kernel
theorem dX6_there_19 : decode cX6_there 19 = .ok (.ifCond .eq 23, 3) := by decide +kernel
theorem dX6_there_22 : decode cX6_there 22 = .ok (.iload_n 3, 1) := by decide +kernel
theorem dX6_there_23 : decode cX6_there 23 = .ok (.iconst 0, 1) := by decide +kernel
theorem dX6_there_24 : decode cX6_there 24 = .ok (.bipush 9, 2) := by decide +kernel
theorem dX6_there_26 : decode cX6_there 26 = .ok (.invokestatic 42, 3) := by decide +kernel
theorem dX6_there_29 : decode cX6_there 29 = .ok (.ifCond .eq 13, 3) := by decide +kernel
theorem dX6_there_32 : decode cX6_there 32 = .ok (.aload_n 0, 1) := by decide +kernel
theorem dX6_there_33 : decode cX6_there 33 = .ok (.iload_n 1, 1) := by decide +kernel
theorem dX6_there_34 : decode cX6_there 34 = .ok (.iload_n 2, 1) := by decide +kernel
theorem dX6_there_35 : decode cX6_there 35 = .ok (.iload_n 3, 1) := by decide +kernel
theorem dX6_there_36 : decode cX6_there 36 = .ok (.invokevirtual 235, 3) := by decide +kernel
theorem dX6_there_39 : decode cX6_there 39 = .ok (.goto 4, 3) := by decide +kernel
theorem dX6_there_42 : decode cX6_there 42 = .ok (.iconst (-1), 1) := by decide +kernel
theorem dX6_there_43 : decode cX6_there 43 = .ok (.ireturn, 1) := by decide +kernel
theorem dX6_danger_0 : decode cX6_danger 0 = .ok (.aload_n 0, 1) := by decide +kernel
theorem dX6_danger_1 : decode cX6_danger 1 = .ok (.iconst 0, 1) := by decide +kernel
theorem dX6_danger_2 : decode cX6_danger 2 = .ok (.putfield 38, 3) := by decide +kernel
theorem dX6_danger_5 : decode cX6_danger 5 = .ok (.aload_n 0, 1) := by decide +kernel
theorem dX6_danger_6 : decode cX6_danger 6 = .ok (.iload_n 1, 1) := by decide +kernel
theorem dX6_danger_7 : decode cX6_danger 7 = .ok (.invokevirtual 73, 3) := by decide +kernel
theorem dX6_danger_10 : decode cX6_danger 10 = .ok (.ifCond .ne 5, 3) := by decide +kernel
theorem dX6_danger_13 : decode cX6_danger 13 = .ok (.iconst (-1), 1) := by decide +kernel
theorem dX6_danger_14 : decode cX6_danger 14 = .ok (.ireturn, 1) := by decide +kernel
theorem dX6_danger_15 : decode cX6_danger 15 = .ok (.aload_n 0, 1) := by decide +kernel
theorem dX6_danger_16 : decode cX6_danger 16 = .ok (.iload_n 1, 1) := by decide +kernel
theorem dX6_danger_17 : decode cX6_danger 17 = .ok (.bipush 7, 2) := by decide +kernel
theorem dX6_danger_19 : decode cX6_danger 19 = .ok (.invokevirtual 50, 3) := by decide +kernel
theorem dX6_danger_22 : decode cX6_danger 22 = .ok (.istore_n 2, 1) := by decide +kernel
theorem dX6_danger_23 : decode cX6_danger 23 = .ok (.aload_n 0, 1) := by decide +kernel
theorem dX6_danger_24 : decode cX6_danger 24 = .ok (.iload_n 1, 1) := by decide +kernel
theorem dX6_danger_25 : decode cX6_danger 25 = .ok (.invokevirtual 211, 3) := by decide +kernel
theorem dX6_danger_28 : decode cX6_danger 28 = .ok (.istore_n 3, 1) := by decide +kernel
theorem dX6_danger_29 : decode cX6_danger 29 = .ok (.aload_n 0, 1) := by decide +kernel
theorem dX6_danger_30 : decode cX6_danger 30 = .ok (.iload_n 1, 1) := by decide +kernel
theorem dX6_danger_31 : decode cX6_danger 31 = .ok (.iload_n 2, 1) := by decide +kernel
theorem dX6_danger_32 : decode cX6_danger 32 = .ok (.iconst 1, 1) := by decide +kernel
theorem dX6_danger_33 : decode cX6_danger 33 = .ok (.iadd, 1) := by decide +kernel
theorem dX6_danger_34 : decode cX6_danger 34 = .ok (.iconst (-1), 1) := by decide +kernel
theorem dX6_danger_35 : decode cX6_danger 35 = .ok (.invokevirtual 201, 3) := by decide +kernel
theorem dX6_danger_38 : decode cX6_danger 38 = .ok (.aload_n 0, 1) := by decide +kernel
theorem dX6_danger_39 : decode cX6_danger 39 = .ok (.getfield 194, 3) := by decide +kernel
theorem dX6_danger_42 : decode cX6_danger 42 = .ok (.iload_n 3, 1) := by decide +kernel
theorem dX6_danger_43 : decode cX6_danger 43 = .ok (.if_icmp .le 7, 3) := by decide +kernel
theorem dX6_danger_46 : decode cX6_danger 46 = .ok (.iconst 1, 1) := by decide +kernel
theorem dX6_danger_47 : decode cX6_danger 47 = .ok (.goto 4, 3) := by decide +kernel
theorem dX6_danger_50 : decode cX6_danger 50 = .ok (.iconst 0, 1) := by decide +kernel
theorem dX6_danger_51 : decode cX6_danger 51 = .ok (.ireturn, 1) := by decide +kernel
theorem dX6_easier_0 : decode cX6_easier 0 = .ok (.aload_n 0, 1) := by decide +kernel
theorem dX6_easier_1 : decode cX6_easier 1 = .ok (.iconst 0, 1) := by decide +kernel
theorem dX6_easier_2 : decode cX6_easier 2 = .ok (.putfield 38, 3) := by decide +kernel
theorem dX6_easier_5 : decode cX6_easier 5 = .ok (.aload_n 0, 1) := by decide +kernel
theorem dX6_easier_6 : decode cX6_easier 6 = .ok (.iload_n 1, 1) := by decide +kernel
theorem dX6_easier_7 : decode cX6_easier 7 = .ok (.invokevirtual 73, 3) := by decide +kernel
theorem dX6_easier_10 : decode cX6_easier 10 = .ok (.ifCond .ne 5, 3) := by decide +kernel
theorem dX6_easier_13 : decode cX6_easier 13 = .ok (.iconst (-1), 1) := by decide +kernel
theorem dX6_easier_14 : decode cX6_easier 14 = .ok (.ireturn, 1) := by decide +kernel
theorem dX6_easier_15 : decode cX6_easier 15 = .ok (.aload_n 0, 1) := by decide +kernel
theorem dX6_easier_16 : decode cX6_easier 16 = .ok (.iload_n 1, 1) := by decide +kernel
theorem dX6_easier_17 : decode cX6_easier 17 = .ok (.invokevirtual 205, 3) := by decide +kernel
theorem dX6_easier_20 : decode cX6_easier 20 = .ok (.iconst 0, 1) := by decide +kernel
theorem dX6_easier_21 : decode cX6_easier 21 = .ok (.istore_n 2, 1) := by decide +kernel
theorem dX6_easier_22 : decode cX6_easier 22 = .ok (.iload_n 2, 1) := by decide +kernel
theorem dX6_easier_23 : decode cX6_easier 23 = .ok (.aload_n 0, 1) := by decide +kernel
theorem dX6_easier_24 : decode cX6_easier 24 = .ok (.iload_n 1, 1) := by decide +kernel
theorem dX6_easier_25 : decode cX6_easier 25 = .ok (.bipush 7, 2) := by decide +kernel
theorem dX6_easier_27 : decode cX6_easier 27 = .ok (.invokevirtual 50, 3) := by decide +kernel
theorem dX6_easier_30 : decode cX6_easier 30 = .ok (.if_icmp .ge 54, 3) := by decide +kernel
theorem dX6_easier_33 : decode cX6_easier 33 = .ok (.aload_n 0, 1) := by decide +kernel
theorem dX6_easier_34 : decode cX6_easier 34 = .ok (.getfield 32, 3) := by decide +kernel
theorem dX6_easier_37 : decode cX6_easier 37 = .ok (.iload_n 2, 1) := by decide +kernel
theorem dX6_easier_38 : decode cX6_easier 38 = .ok (.baload, 1) := by decide +kernel
theorem dX6_easier_39 : decode cX6_easier 39 = .ok (.ifCond .eq 39, 3) := by decide +kernel
theorem dX6_easier_42 : decode cX6_easier 42 = .ok (.aload_n 0, 1) := by decide +kernel
theorem dX6_easier_43 : decode cX6_easier 43 = .ok (.iload_n 1, 1) := by decide +kernel
theorem dX6_easier_44 : decode cX6_easier 44 = .ok (.iload_n 2, 1) := by decide +kernel
theorem dX6_easier_45 : decode cX6_easier 45 = .ok (.invokevirtual 191, 3) := by decide +kernel
theorem dX6_easier_48 : decode cX6_easier 48 = .ok (.aload_n 0, 1) := by decide +kernel
theorem dX6_easier_49 : decode cX6_easier 49 = .ok (.getfield 7, 3) := by decide +kernel
theorem dX6_easier_52 : decode cX6_easier 52 = .ok (.iconst 0, 1) := by decide +kernel
theorem dX6_easier_53 : decode cX6_easier 53 = .ok (.iaload, 1) := by decide +kernel
theorem dX6_easier_54 : decode cX6_easier 54 = .ok (.aload_n 0, 1) := by decide +kernel
theorem dX6_easier_55 : decode cX6_easier 55 = .ok (.getfield 7, 3) := by decide +kernel
theorem dX6_easier_58 : decode cX6_easier 58 = .ok (.iconst 3, 1) := by decide +kernel
theorem dX6_easier_59 : decode cX6_easier 59 = .ok (.iaload, 1) := by decide +kernel
theorem dX6_easier_60 : decode cX6_easier 60 = .ok (.isub, 1) := by decide +kernel
theorem dX6_easier_61 : decode cX6_easier 61 = .ok (.if_icmp .le 17, 3) := by decide +kernel
theorem dX6_easier_64 : decode cX6_easier 64 = .ok (.aload_n 0, 1) := by decide +kernel
theorem dX6_easier_65 : decode cX6_easier 65 = .ok (.iload_n 1, 1) := by decide +kernel
theorem dX6_easier_66 : decode cX6_easier 66 = .ok (.iload_n 2, 1) := by decide +kernel
theorem dX6_easier_67 : decode cX6_easier 67 = .ok (.invokevirtual 191, 3) := by decide +kernel
theorem dX6_easier_70 : decode cX6_easier 70 = .ok (.aload_n 0, 1) := by decide +kernel
theorem dX6_easier_71 : decode cX6_easier 71 = .ok (.getfield 7, 3) := by decide +kernel
theorem dX6_easier_74 : decode cX6_easier 74 = .ok (.iconst 3, 1) := by decide +kernel
theorem dX6_easier_75 : decode cX6_easier 75 = .ok (.iaload, 1) := by decide +kernel
theorem dX6_easier_76 : decode cX6_easier 76 = .ok (.iadd, 1) := by decide +kernel
theorem dX6_easier_77 : decode cX6_easier 77 = .ok (.ireturn, 1) := by decide +kernel
theorem dX6_easier_78 : decode cX6_easier 78 = .ok (.iinc 2 1, 3) := by decide +kernel
theorem dX6_easier_81 : decode cX6_easier 81 = .ok (.goto (-59), 3) := by decide +kernel
theorem dX6_easier_84 : decode cX6_easier 84 = .ok (.iconst (-1), 1) := by decide +kernel
theorem dX6_easier_85 : decode cX6_easier 85 = .ok (.ireturn, 1) := by decide +kernel
theorem dX6_without_0 : decode cX6_without 0 = .ok (.aload_n 0, 1) := by decide +kernel
theorem dX6_without_1 : decode cX6_without 1 = .ok (.iconst 0, 1) := by decide +kernel
theorem dX6_without_2 : decode cX6_without 2 = .ok (.putfield 38, 3) := by decide +kernel
theorem dX6_without_5 : decode cX6_without 5 = .ok (.aload_n 0, 1) := by decide +kernel
theorem dX6_without_6 : decode cX6_without 6 = .ok (.iload_n 1, 1) := by decide +kernel
theorem dX6_without_7 : decode cX6_without 7 = .ok (.iload_n 2, 1) := by decide +kernel
theorem dX6_without_8 : decode cX6_without 8 = .ok (.invokevirtual 102, 3) := by decide +kernel
theorem dX6_without_11 : decode cX6_without 11 = .ok (.ifCond .ne 5, 3) := by decide +kernel
theorem dX6_without_14 : decode cX6_without 14 = .ok (.iconst (-1), 1) := by decide +kernel
theorem dX6_without_15 : decode cX6_without 15 = .ok (.ireturn, 1) := by decide +kernel
theorem dX6_without_16 : decode cX6_without 16 = .ok (.aload_n 0, 1) := by decide +kernel
theorem dX6_without_17 : decode cX6_without 17 = .ok (.iload_n 1, 1) := by decide +kernel
theorem dX6_without_18 : decode cX6_without 18 = .ok (.aload_n 0, 1) := by decide +kernel
theorem dX6_without_19 : decode cX6_without 19 = .ok (.iload_n 1, 1) := by decide +kernel
theorem dX6_without_20 : decode cX6_without 20 = .ok (.bipush 7, 2) := by decide +kernel
theorem dX6_without_22 : decode cX6_without 22 = .ok (.invokevirtual 50, 3) := by decide +kernel
theorem dX6_without_25 : decode cX6_without 25 = .ok (.iload_n 2, 1) := by decide +kernel
theorem dX6_without_26 : decode cX6_without 26 = .ok (.invokevirtual 201, 3) := by decide +kernel
theorem dX6_without_29 : decode cX6_without 29 = .ok (.aload_n 0, 1) := by decide +kernel
theorem dX6_without_30 : decode cX6_without 30 = .ok (.getfield 194, 3) := by decide +kernel
theorem dX6_without_33 : decode cX6_without 33 = .ok (.ireturn, 1) := by decide +kernel
theorem dX6_isWorse_0 : decode cX6_isWorse 0 = .ok (.aload_n 0, 1) := by decide +kernel
theorem dX6_isWorse_1 : decode cX6_isWorse 1 = .ok (.iload_n 1, 1) := by decide +kernel
theorem dX6_isWorse_2 : decode cX6_isWorse 2 = .ok (.invokevirtual 211, 3) := by decide +kernel
theorem dX6_isWorse_5 : decode cX6_isWorse 5 = .ok (.aload_n 0, 1) := by decide +kernel
theorem dX6_isWorse_6 : decode cX6_isWorse 6 = .ok (.iload_n 2, 1) := by decide +kernel
theorem dX6_isWorse_7 : decode cX6_isWorse 7 = .ok (.invokevirtual 211, 3) := by decide +kernel
theorem dX6_isWorse_10 : decode cX6_isWorse 10 = .ok (.isub, 1) := by decide +kernel
theorem dX6_isWorse_11 : decode cX6_isWorse 11 = .ok (.istore_n 3, 1) := by decide +kernel
theorem dX6_isWorse_12 : decode cX6_isWorse 12 = .ok (.iload_n 3, 1) := by decide +kernel
theorem dX6_isWorse_13 : decode cX6_isWorse 13 = .ok (.ifCond .ne 17, 3) := by decide +kernel
theorem dX6_isWorse_16 : decode cX6_isWorse 16 = .ok (.aload_n 0, 1) := by decide +kernel
theorem dX6_isWorse_17 : decode cX6_isWorse 17 = .ok (.iload_n 1, 1) := by decide +kernel
theorem dX6_isWorse_18 : decode cX6_isWorse 18 = .ok (.invokevirtual 208, 3) := by decide +kernel
theorem dX6_isWorse_21 : decode cX6_isWorse 21 = .ok (.aload_n 0, 1) := by decide +kernel
theorem dX6_isWorse_22 : decode cX6_isWorse 22 = .ok (.iload_n 2, 1) := by decide +kernel
theorem dX6_isWorse_23 : decode cX6_isWorse 23 = .ok (.invokevirtual 208, 3) := by decide +kernel
theorem dX6_isWorse_26 : decode cX6_isWorse 26 = .ok (.isub, 1) := by decide +kernel
theorem dX6_isWorse_27 : decode cX6_isWorse 27 = .ok (.goto 4, 3) := by decide +kernel
theorem dX6_isWorse_30 : decode cX6_isWorse 30 = .ok (.iload_n 3, 1) := by decide +kernel
theorem dX6_isWorse_31 : decode cX6_isWorse 31 = .ok (.istore_n 3, 1) := by decide +kernel
theorem dX6_isWorse_32 : decode cX6_isWorse 32 = .ok (.iload_n 3, 1) := by decide +kernel
theorem dX6_isWorse_33 : decode cX6_isWorse 33 = .ok (.ifCond .ne 21, 3) := by decide +kernel
theorem dX6_isWorse_36 : decode cX6_isWorse 36 = .ok (.aload_n 0, 1) := by decide +kernel
theorem dX6_isWorse_37 : decode cX6_isWorse 37 = .ok (.iload_n 1, 1) := by decide +kernel
theorem dX6_isWorse_38 : decode cX6_isWorse 38 = .ok (.bipush 7, 2) := by decide +kernel
theorem dX6_isWorse_40 : decode cX6_isWorse 40 = .ok (.invokevirtual 50, 3) := by decide +kernel
theorem dX6_isWorse_43 : decode cX6_isWorse 43 = .ok (.aload_n 0, 1) := by decide +kernel
theorem dX6_isWorse_44 : decode cX6_isWorse 44 = .ok (.iload_n 2, 1) := by decide +kernel
theorem dX6_isWorse_45 : decode cX6_isWorse 45 = .ok (.bipush 7, 2) := by decide +kernel
theorem dX6_isWorse_47 : decode cX6_isWorse 47 = .ok (.invokevirtual 50, 3) := by decide +kernel
theorem dX6_isWorse_50 : decode cX6_isWorse 50 = .ok (.isub, 1) := by decide +kernel
theorem dX6_isWorse_51 : decode cX6_isWorse 51 = .ok (.goto 4, 3) := by decide +kernel
theorem dX6_isWorse_54 : decode cX6_isWorse 54 = .ok (.iload_n 3, 1) := by decide +kernel
theorem dX6_isWorse_55 : decode cX6_isWorse 55 = .ok (.ifCond .le 7, 3) := by decide +kernel
theorem dX6_isWorse_58 : decode cX6_isWorse 58 = .ok (.iconst 1, 1) := by decide +kernel
theorem dX6_isWorse_59 : decode cX6_isWorse 59 = .ok (.goto 4, 3) := by decide +kernel
theorem dX6_isWorse_62 : decode cX6_isWorse 62 = .ok (.iconst 0, 1) := by decide +kernel
theorem dX6_isWorse_63 : decode cX6_isWorse 63 = .ok (.ireturn, 1) := by decide +kernel
theorem dX6_worst_0 : decode cX6_worst 0 = .ok (.aload_n 0, 1) := by decide +kernel
theorem dX6_worst_1 : decode cX6_worst 1 = .ok (.iconst 0, 1) := by decide +kernel
theorem dX6_worst_2 : decode cX6_worst 2 = .ok (.putfield 38, 3) := by decide +kernel
theorem dX6_worst_5 : decode cX6_worst 5 = .ok (.aload_n 0, 1) := by decide +kernel
theorem dX6_worst_6 : decode cX6_worst 6 = .ok (.getfield 7, 3) := by decide +kernel
theorem dX6_worst_9 : decode cX6_worst 9 = .ok (.iconst 2, 1) := by decide +kernel
theorem dX6_worst_10 : decode cX6_worst 10 = .ok (.iaload, 1) := by decide +kernel
theorem dX6_worst_11 : decode cX6_worst 11 = .ok (.ifCond .ne 7, 3) := by decide +kernel
theorem dX6_worst_14 : decode cX6_worst 14 = .ok (.iconst (-1), 1) := by decide +kernel
theorem dX6_worst_15 : decode cX6_worst 15 = .ok (.goto 4, 3) := by decide +kernel
theorem dX6_worst_18 : decode cX6_worst 18 = .ok (.iconst 0, 1) := by decide +kernel
theorem dX6_worst_19 : decode cX6_worst 19 = .ok (.istore_n 1, 1) := by decide +kernel
theorem dX6_worst_20 : decode cX6_worst 20 = .ok (.iconst 1, 1) := by decide +kernel
theorem dX6_worst_21 : decode cX6_worst 21 = .ok (.istore_n 2, 1) := by decide +kernel
theorem dX6_worst_22 : decode cX6_worst 22 = .ok (.iload_n 2, 1) := by decide +kernel
theorem dX6_worst_23 : decode cX6_worst 23 = .ok (.aload_n 0, 1) := by decide +kernel
theorem dX6_worst_24 : decode cX6_worst 24 = .ok (.getfield 7, 3) := by decide +kernel
theorem dX6_worst_27 : decode cX6_worst 27 = .ok (.iconst 2, 1) := by decide +kernel
theorem dX6_worst_28 : decode cX6_worst 28 = .ok (.iaload, 1) := by decide +kernel
theorem dX6_worst_29 : decode cX6_worst 29 = .ok (.if_icmp .ge 24, 3) := by decide +kernel
theorem dX6_worst_32 : decode cX6_worst 32 = .ok (.aload_n 0, 1) := by decide +kernel
theorem dX6_worst_33 : decode cX6_worst 33 = .ok (.iload_n 2, 1) := by decide +kernel
theorem dX6_worst_34 : decode cX6_worst 34 = .ok (.iload_n 1, 1) := by decide +kernel
theorem dX6_worst_35 : decode cX6_worst 35 = .ok (.invokevirtual 244, 3) := by decide +kernel
theorem dX6_worst_38 : decode cX6_worst 38 = .ok (.ifCond .eq 7, 3) := by decide +kernel
theorem dX6_worst_41 : decode cX6_worst 41 = .ok (.iload_n 2, 1) := by decide +kernel
theorem dX6_worst_42 : decode cX6_worst 42 = .ok (.goto 4, 3) := by decide +kernel
theorem dX6_worst_45 : decode cX6_worst 45 = .ok (.iload_n 1, 1) := by decide +kernel
theorem dX6_worst_46 : decode cX6_worst 46 = .ok (.istore_n 1, 1) := by decide +kernel
theorem dX6_worst_47 : decode cX6_worst 47 = .ok (.iinc 2 1, 3) := by decide +kernel
theorem dX6_worst_50 : decode cX6_worst 50 = .ok (.goto (-28), 3) := by decide +kernel
theorem dX6_worst_53 : decode cX6_worst 53 = .ok (.iload_n 1, 1) := by decide +kernel
theorem dX6_worst_54 : decode cX6_worst 54 = .ok (.ireturn, 1) := by decide +kernel
theorem dJ6_compare_7cf53_0 : decode cJ6_compare_7cf53 0 = .ok (.iload_n 0, 1) := by decide +kernel
theorem dJ6_compare_7cf53_1 : decode cJ6_compare_7cf53 1 = .ok (.iload_n 1, 1) := by decide +kernel
theorem dJ6_compare_7cf53_2 : decode cJ6_compare_7cf53 2 = .ok (.if_icmp .ge 7, 3) := by decide +kernel
theorem dJ6_compare_7cf53_5 : decode cJ6_compare_7cf53 5 = .ok (.iconst (-1), 1) := by decide +kernel
theorem dJ6_compare_7cf53_6 : decode cJ6_compare_7cf53 6 = .ok (.goto 13, 3) := by decide +kernel
theorem dJ6_compare_7cf53_9 : decode cJ6_compare_7cf53 9 = .ok (.iload_n 0, 1) := by decide +kernel
theorem dJ6_compare_7cf53_10 : decode cJ6_compare_7cf53 10 = .ok (.iload_n 1, 1) := by decide +kernel
theorem dJ6_compare_7cf53_11 : decode cJ6_compare_7cf53 11 = .ok (.if_icmp .ne 7, 3) := by decide +kernel
theorem dJ6_compare_7cf53_14 : decode cJ6_compare_7cf53 14 = .ok (.iconst 0, 1) := by decide +kernel
theorem dJ6_compare_7cf53_15 : decode cJ6_compare_7cf53 15 = .ok (.goto 4, 3) := by decide +kernel
theorem dJ6_compare_7cf53_18 : decode cJ6_compare_7cf53 18 = .ok (.iconst 1, 1) := by decide +kernel
theorem dJ6_compare_7cf53_19 : decode cJ6_compare_7cf53 19 = .ok (.ireturn, 1) := by decide +kernel
theorem dJ6_bitCount_0f7a4_0 : decode cJ6_bitCount_0f7a4 0 = .ok (.iload_n 0, 1) := by decide +kernel
theorem dJ6_bitCount_0f7a4_1 : decode cJ6_bitCount_0f7a4 1 = .ok (.iload_n 0, 1) := by decide +kernel
theorem dJ6_bitCount_0f7a4_2 : decode cJ6_bitCount_0f7a4 2 = .ok (.iconst 1, 1) := by decide +kernel
theorem dJ6_bitCount_0f7a4_3 : decode cJ6_bitCount_0f7a4 3 = .ok (.iushr, 1) := by decide +kernel
theorem dJ6_bitCount_0f7a4_4 : decode cJ6_bitCount_0f7a4 4 = .ok (.ldc_w 265, 3) := by decide +kernel
theorem dJ6_bitCount_0f7a4_7 : decode cJ6_bitCount_0f7a4 7 = .ok (.iand, 1) := by decide +kernel
theorem dJ6_bitCount_0f7a4_8 : decode cJ6_bitCount_0f7a4 8 = .ok (.isub, 1) := by decide +kernel
theorem dJ6_bitCount_0f7a4_9 : decode cJ6_bitCount_0f7a4 9 = .ok (.istore_n 0, 1) := by decide +kernel
theorem dJ6_bitCount_0f7a4_10 : decode cJ6_bitCount_0f7a4 10 = .ok (.iload_n 0, 1) := by decide +kernel
theorem dJ6_bitCount_0f7a4_11 : decode cJ6_bitCount_0f7a4 11 = .ok (.ldc_w 266, 3) := by decide +kernel
theorem dJ6_bitCount_0f7a4_14 : decode cJ6_bitCount_0f7a4 14 = .ok (.iand, 1) := by decide +kernel
theorem dJ6_bitCount_0f7a4_15 : decode cJ6_bitCount_0f7a4 15 = .ok (.iload_n 0, 1) := by decide +kernel
theorem dJ6_bitCount_0f7a4_16 : decode cJ6_bitCount_0f7a4 16 = .ok (.iconst 2, 1) := by decide +kernel
theorem dJ6_bitCount_0f7a4_17 : decode cJ6_bitCount_0f7a4 17 = .ok (.iushr, 1) := by decide +kernel
theorem dJ6_bitCount_0f7a4_18 : decode cJ6_bitCount_0f7a4 18 = .ok (.ldc_w 266, 3) := by decide +kernel
theorem dJ6_bitCount_0f7a4_21 : decode cJ6_bitCount_0f7a4 21 = .ok (.iand, 1) := by decide +kernel
theorem dJ6_bitCount_0f7a4_22 : decode cJ6_bitCount_0f7a4 22 = .ok (.iadd, 1) := by decide +kernel
theorem dJ6_bitCount_0f7a4_23 : decode cJ6_bitCount_0f7a4 23 = .ok (.istore_n 0, 1) := by decide +kernel
theorem dJ6_bitCount_0f7a4_24 : decode cJ6_bitCount_0f7a4 24 = .ok (.iload_n 0, 1) := by decide +kernel
theorem dJ6_bitCount_0f7a4_25 : decode cJ6_bitCount_0f7a4 25 = .ok (.iload_n 0, 1) := by decide +kernel
theorem dJ6_bitCount_0f7a4_26 : decode cJ6_bitCount_0f7a4 26 = .ok (.iconst 4, 1) := by decide +kernel
theorem dJ6_bitCount_0f7a4_27 : decode cJ6_bitCount_0f7a4 27 = .ok (.iushr, 1) := by decide +kernel
theorem dJ6_bitCount_0f7a4_28 : decode cJ6_bitCount_0f7a4 28 = .ok (.iadd, 1) := by decide +kernel
theorem dJ6_bitCount_0f7a4_29 : decode cJ6_bitCount_0f7a4 29 = .ok (.ldc_w 267, 3) := by decide +kernel
theorem dJ6_bitCount_0f7a4_32 : decode cJ6_bitCount_0f7a4 32 = .ok (.iand, 1) := by decide +kernel
theorem dJ6_bitCount_0f7a4_33 : decode cJ6_bitCount_0f7a4 33 = .ok (.istore_n 0, 1) := by decide +kernel
theorem dJ6_bitCount_0f7a4_34 : decode cJ6_bitCount_0f7a4 34 = .ok (.iload_n 0, 1) := by decide +kernel
theorem dJ6_bitCount_0f7a4_35 : decode cJ6_bitCount_0f7a4 35 = .ok (.iload_n 0, 1) := by decide +kernel
theorem dJ6_bitCount_0f7a4_36 : decode cJ6_bitCount_0f7a4 36 = .ok (.bipush 8, 2) := by decide +kernel
theorem dJ6_bitCount_0f7a4_38 : decode cJ6_bitCount_0f7a4 38 = .ok (.iushr, 1) := by decide +kernel
theorem dJ6_bitCount_0f7a4_39 : decode cJ6_bitCount_0f7a4 39 = .ok (.iadd, 1) := by decide +kernel
theorem dJ6_bitCount_0f7a4_40 : decode cJ6_bitCount_0f7a4 40 = .ok (.istore_n 0, 1) := by decide +kernel
theorem dJ6_bitCount_0f7a4_41 : decode cJ6_bitCount_0f7a4 41 = .ok (.iload_n 0, 1) := by decide +kernel
theorem dJ6_bitCount_0f7a4_42 : decode cJ6_bitCount_0f7a4 42 = .ok (.iload_n 0, 1) := by decide +kernel
theorem dJ6_bitCount_0f7a4_43 : decode cJ6_bitCount_0f7a4 43 = .ok (.bipush 16, 2) := by decide +kernel
theorem dJ6_bitCount_0f7a4_45 : decode cJ6_bitCount_0f7a4 45 = .ok (.iushr, 1) := by decide +kernel
theorem dJ6_bitCount_0f7a4_46 : decode cJ6_bitCount_0f7a4 46 = .ok (.iadd, 1) := by decide +kernel
theorem dJ6_bitCount_0f7a4_47 : decode cJ6_bitCount_0f7a4 47 = .ok (.istore_n 0, 1) := by decide +kernel
theorem dJ6_bitCount_0f7a4_48 : decode cJ6_bitCount_0f7a4 48 = .ok (.iload_n 0, 1) := by decide +kernel
theorem dJ6_bitCount_0f7a4_49 : decode cJ6_bitCount_0f7a4 49 = .ok (.bipush 63, 2) := by decide +kernel
theorem dJ6_bitCount_0f7a4_51 : decode cJ6_bitCount_0f7a4 51 = .ok (.iand, 1) := by decide +kernel
theorem dJ6_bitCount_0f7a4_52 : decode cJ6_bitCount_0f7a4 52 = .ok (.ireturn, 1) := by decide +kernel
theorem dJ9_min_7cf53_0 : decode cJ9_min_7cf53 0 = .ok (.iload_n 0, 1) := by decide +kernel
theorem dJ9_min_7cf53_1 : decode cJ9_min_7cf53 1 = .ok (.iload_n 1, 1) := by decide +kernel
theorem dJ9_min_7cf53_2 : decode cJ9_min_7cf53 2 = .ok (.if_icmp .gt 7, 3) := by decide +kernel
theorem dJ9_min_7cf53_5 : decode cJ9_min_7cf53 5 = .ok (.iload_n 0, 1) := by decide +kernel
theorem dJ9_min_7cf53_6 : decode cJ9_min_7cf53 6 = .ok (.goto 4, 3) := by decide +kernel
theorem dJ9_min_7cf53_9 : decode cJ9_min_7cf53 9 = .ok (.iload_n 1, 1) := by decide +kernel
theorem dJ9_min_7cf53_10 : decode cJ9_min_7cf53 10 = .ok (.ireturn, 1) := by decide +kernel
theorem dJ0_length_8abf5_0 : decode cJ0_length_8abf5 0 = .ok (.aload_n 0, 1) := by decide +kernel
theorem dJ0_length_8abf5_1 : decode cJ0_length_8abf5 1 = .ok (.getfield 9, 3) := by decide +kernel
theorem dJ0_length_8abf5_4 : decode cJ0_length_8abf5 4 = .ok (.arraylength, 1) := by decide +kernel
theorem dJ0_length_8abf5_5 : decode cJ0_length_8abf5 5 = .ok (.aload_n 0, 1) := by decide +kernel
theorem dJ0_length_8abf5_6 : decode cJ0_length_8abf5 6 = .ok (.invokevirtual 335, 3) := by decide +kernel
theorem dJ0_length_8abf5_9 : decode cJ0_length_8abf5 9 = .ok (.ishr, 1) := by decide +kernel
theorem dJ0_length_8abf5_10 : decode cJ0_length_8abf5 10 = .ok (.ireturn, 1) := by decide +kernel
theorem dJ0_charAt_5068e_0 : decode cJ0_charAt_5068e 0 = .ok (.aload_n 0, 1) := by decide +kernel
theorem dJ0_charAt_5068e_1 : decode cJ0_charAt_5068e 1 = .ok (.invokevirtual 492, 3) := by decide +kernel
theorem dJ0_charAt_5068e_4 : decode cJ0_charAt_5068e 4 = .ok (.ifCond .eq 12, 3) := by decide +kernel
theorem dJ0_charAt_5068e_7 : decode cJ0_charAt_5068e 7 = .ok (.aload_n 0, 1) := by decide +kernel
theorem dJ0_charAt_5068e_8 : decode cJ0_charAt_5068e 8 = .ok (.getfield 9, 3) := by decide +kernel
theorem dJ0_charAt_5068e_11 : decode cJ0_charAt_5068e 11 = .ok (.iload_n 1, 1) := by decide +kernel
theorem dJ0_charAt_5068e_12 : decode cJ0_charAt_5068e 12 = .ok (.invokestatic 495, 3) := by decide +kernel
theorem dJ0_charAt_5068e_15 : decode cJ0_charAt_5068e 15 = .ok (.ireturn, 1) := by decide +kernel
theorem dJ0_charAt_5068e_16 : decode cJ0_charAt_5068e 16 = .ok (.aload_n 0, 1) := by decide +kernel
theorem dJ0_charAt_5068e_17 : decode cJ0_charAt_5068e 17 = .ok (.getfield 9, 3) := by decide +kernel
theorem dJ0_charAt_5068e_20 : decode cJ0_charAt_5068e 20 = .ok (.iload_n 1, 1) := by decide +kernel
theorem dJ0_charAt_5068e_21 : decode cJ0_charAt_5068e 21 = .ok (.invokestatic 498, 3) := by decide +kernel
theorem dJ0_charAt_5068e_24 : decode cJ0_charAt_5068e 24 = .ok (.ireturn, 1) := by decide +kernel
theorem dJ0_coder_7d493_0 : decode cJ0_coder_7d493 0 = .ok (.getstatic 38, 3) := by decide +kernel
theorem dJ0_coder_7d493_3 : decode cJ0_coder_7d493 3 = .ok (.ifCond .eq 10, 3) := by decide +kernel
theorem dJ0_coder_7d493_6 : decode cJ0_coder_7d493 6 = .ok (.aload_n 0, 1) := by decide +kernel
theorem dJ0_coder_7d493_7 : decode cJ0_coder_7d493 7 = .ok (.getfield 15, 3) := by decide +kernel
theorem dJ0_coder_7d493_10 : decode cJ0_coder_7d493 10 = .ok (.goto 4, 3) := by decide +kernel
theorem dJ0_coder_7d493_13 : decode cJ0_coder_7d493 13 = .ok (.iconst 1, 1) := by decide +kernel
theorem dJ0_coder_7d493_14 : decode cJ0_coder_7d493 14 = .ok (.ireturn, 1) := by decide +kernel
theorem dJ0_isLatin1_aae02_0 : decode cJ0_isLatin1_aae02 0 = .ok (.getstatic 38, 3) := by decide +kernel
theorem dJ0_isLatin1_aae02_3 : decode cJ0_isLatin1_aae02 3 = .ok (.ifCond .eq 14, 3) := by decide +kernel
theorem dJ0_isLatin1_aae02_6 : decode cJ0_isLatin1_aae02 6 = .ok (.aload_n 0, 1) := by decide +kernel
theorem dJ0_isLatin1_aae02_7 : decode cJ0_isLatin1_aae02 7 = .ok (.getfield 15, 3) := by decide +kernel
theorem dJ0_isLatin1_aae02_10 : decode cJ0_isLatin1_aae02 10 = .ok (.ifCond .ne 7, 3) := by decide +kernel
theorem dJ0_isLatin1_aae02_13 : decode cJ0_isLatin1_aae02 13 = .ok (.iconst 1, 1) := by decide +kernel
theorem dJ0_isLatin1_aae02_14 : decode cJ0_isLatin1_aae02 14 = .ok (.goto 4, 3) := by decide +kernel
theorem dJ0_isLatin1_aae02_17 : decode cJ0_isLatin1_aae02 17 = .ok (.iconst 0, 1) := by decide +kernel
theorem dJ0_isLatin1_aae02_18 : decode cJ0_isLatin1_aae02 18 = .ok (.ireturn, 1) := by decide +kernel
theorem dJ0_checkIndex_df160_0 : decode cJ0_checkIndex_df160 0 = .ok (.iload_n 0, 1) := by decide +kernel
theorem dJ0_checkIndex_df160_1 : decode cJ0_checkIndex_df160 1 = .ok (.iload_n 1, 1) := by decide +kernel
theorem dJ0_checkIndex_df160_2 : decode cJ0_checkIndex_df160 2 = .ok (.getstatic 1053, 3) := by decide +kernel
theorem dJ0_checkIndex_df160_5 : decode cJ0_checkIndex_df160 5 = .ok (.invokestatic 1059, 3) := by decide +kernel
theorem dJ0_checkIndex_df160_8 : decode cJ0_checkIndex_df160 8 = .ok (.pop, 1) := by decide +kernel
theorem dJ0_checkIndex_df160_9 : decode cJ0_checkIndex_df160 9 = .ok (.return_, 1) := by decide +kernel
theorem dJ1_charAt_3b067_0 : decode cJ1_charAt_3b067 0 = .ok (.iload_n 1, 1) := by decide +kernel
theorem dJ1_charAt_3b067_1 : decode cJ1_charAt_3b067 1 = .ok (.aload_n 0, 1) := by decide +kernel
theorem dJ1_charAt_3b067_2 : decode cJ1_charAt_3b067 2 = .ok (.arraylength, 1) := by decide +kernel
theorem dJ1_charAt_3b067_3 : decode cJ1_charAt_3b067 3 = .ok (.invokestatic 9, 3) := by decide +kernel
theorem dJ1_charAt_3b067_6 : decode cJ1_charAt_3b067 6 = .ok (.aload_n 0, 1) := by decide +kernel
theorem dJ1_charAt_3b067_7 : decode cJ1_charAt_3b067 7 = .ok (.iload_n 1, 1) := by decide +kernel
theorem dJ1_charAt_3b067_8 : decode cJ1_charAt_3b067 8 = .ok (.baload, 1) := by decide +kernel
theorem dJ1_charAt_3b067_9 : decode cJ1_charAt_3b067 9 = .ok (.sipush 255, 3) := by decide +kernel
theorem dJ1_charAt_3b067_12 : decode cJ1_charAt_3b067 12 = .ok (.iand, 1) := by decide +kernel
theorem dJ1_charAt_3b067_13 : decode cJ1_charAt_3b067 13 = .ok (.i2c, 1) := by decide +kernel
theorem dJ1_charAt_3b067_14 : decode cJ1_charAt_3b067 14 = .ok (.ireturn, 1) := by decide +kernel
theorem dJ2_getChar_3b067_0 : decode cJ2_getChar_3b067 0 = .ok (.getstatic 44, 3) := by decide +kernel
theorem dJ2_getChar_3b067_3 : decode cJ2_getChar_3b067 3 = .ok (.ifCond .ne 25, 3) := by decide +kernel
theorem dJ2_getChar_3b067_6 : decode cJ2_getChar_3b067 6 = .ok (.iload_n 1, 1) := by decide +kernel
theorem dJ2_getChar_3b067_7 : decode cJ2_getChar_3b067 7 = .ok (.ifCond .lt 11, 3) := by decide +kernel
theorem dJ2_getChar_3b067_10 : decode cJ2_getChar_3b067 10 = .ok (.iload_n 1, 1) := by decide +kernel
theorem dJ2_getChar_3b067_11 : decode cJ2_getChar_3b067 11 = .ok (.aload_n 0, 1) := by decide +kernel
theorem dJ2_getChar_3b067_12 : decode cJ2_getChar_3b067 12 = .ok (.invokestatic 48, 3) := by decide +kernel
theorem dJ2_getChar_3b067_15 : decode cJ2_getChar_3b067 15 = .ok (.if_icmp .lt 13, 3) := by decide +kernel
theorem dJ2_getChar_3b067_18 : decode cJ2_getChar_3b067 18 = .ok (.new 52, 3) := by decide +kernel
theorem dJ2_getChar_3b067_21 : decode cJ2_getChar_3b067 21 = .ok (.dup, 1) := by decide +kernel
theorem dJ2_getChar_3b067_22 : decode cJ2_getChar_3b067 22 = .ok (.ldc 54, 2) := by decide +kernel
theorem dJ2_getChar_3b067_24 : decode cJ2_getChar_3b067 24 = .ok (.invokespecial 56, 3) := by decide +kernel
theorem dJ2_getChar_3b067_27 : decode cJ2_getChar_3b067 27 = .ok (.athrow, 1) := by decide +kernel
theorem dJ2_getChar_3b067_28 : decode cJ2_getChar_3b067 28 = .ok (.iload_n 1, 1) := by decide +kernel
theorem dJ2_getChar_3b067_29 : decode cJ2_getChar_3b067 29 = .ok (.iconst 1, 1) := by decide +kernel
theorem dJ2_getChar_3b067_30 : decode cJ2_getChar_3b067 30 = .ok (.ishl, 1) := by decide +kernel
theorem dJ2_getChar_3b067_31 : decode cJ2_getChar_3b067 31 = .ok (.istore_n 1, 1) := by decide +kernel
theorem dJ2_getChar_3b067_32 : decode cJ2_getChar_3b067 32 = .ok (.aload_n 0, 1) := by decide +kernel
theorem dJ2_getChar_3b067_33 : decode cJ2_getChar_3b067 33 = .ok (.iload_n 1, 1) := by decide +kernel
theorem dJ2_getChar_3b067_34 : decode cJ2_getChar_3b067 34 = .ok (.iinc 1 1, 3) := by decide +kernel
theorem dJ2_getChar_3b067_37 : decode cJ2_getChar_3b067 37 = .ok (.baload, 1) := by decide +kernel
theorem dJ2_getChar_3b067_38 : decode cJ2_getChar_3b067 38 = .ok (.sipush 255, 3) := by decide +kernel
theorem dJ2_getChar_3b067_41 : decode cJ2_getChar_3b067 41 = .ok (.iand, 1) := by decide +kernel
theorem dJ2_getChar_3b067_42 : decode cJ2_getChar_3b067 42 = .ok (.getstatic 59, 3) := by decide +kernel
theorem dJ2_getChar_3b067_45 : decode cJ2_getChar_3b067 45 = .ok (.ishl, 1) := by decide +kernel
theorem dJ2_getChar_3b067_46 : decode cJ2_getChar_3b067 46 = .ok (.aload_n 0, 1) := by decide +kernel
theorem dJ2_getChar_3b067_47 : decode cJ2_getChar_3b067 47 = .ok (.iload_n 1, 1) := by decide +kernel
theorem dJ2_getChar_3b067_48 : decode cJ2_getChar_3b067 48 = .ok (.baload, 1) := by decide +kernel
theorem dJ2_getChar_3b067_49 : decode cJ2_getChar_3b067 49 = .ok (.sipush 255, 3) := by decide +kernel
theorem dJ2_getChar_3b067_52 : decode cJ2_getChar_3b067 52 = .ok (.iand, 1) := by decide +kernel
theorem dJ2_getChar_3b067_53 : decode cJ2_getChar_3b067 53 = .ok (.getstatic 63, 3) := by decide +kernel
theorem dJ2_getChar_3b067_56 : decode cJ2_getChar_3b067 56 = .ok (.ishl, 1) := by decide +kernel
theorem dJ2_getChar_3b067_57 : decode cJ2_getChar_3b067 57 = .ok (.ior, 1) := by decide +kernel
theorem dJ2_getChar_3b067_58 : decode cJ2_getChar_3b067 58 = .ok (.i2c, 1) := by decide +kernel
theorem dJ2_getChar_3b067_59 : decode cJ2_getChar_3b067 59 = .ok (.ireturn, 1) := by decide +kernel
theorem dJ2_length_9d52b_0 : decode cJ2_length_9d52b 0 = .ok (.aload_n 0, 1) := by decide +kernel
theorem dJ2_length_9d52b_1 : decode cJ2_length_9d52b 1 = .ok (.arraylength, 1) := by decide +kernel
theorem dJ2_length_9d52b_2 : decode cJ2_length_9d52b 2 = .ok (.iconst 1, 1) := by decide +kernel
theorem dJ2_length_9d52b_3 : decode cJ2_length_9d52b 3 = .ok (.ishr, 1) := by decide +kernel
theorem dJ2_length_9d52b_4 : decode cJ2_length_9d52b 4 = .ok (.ireturn, 1) := by decide +kernel
theorem dJ2_charAt_3b067_0 : decode cJ2_charAt_3b067 0 = .ok (.iload_n 1, 1) := by decide +kernel
theorem dJ2_charAt_3b067_1 : decode cJ2_charAt_3b067 1 = .ok (.aload_n 0, 1) := by decide +kernel
theorem dJ2_charAt_3b067_2 : decode cJ2_charAt_3b067 2 = .ok (.invokestatic 67, 3) := by decide +kernel
theorem dJ2_charAt_3b067_5 : decode cJ2_charAt_3b067 5 = .ok (.aload_n 0, 1) := by decide +kernel
theorem dJ2_charAt_3b067_6 : decode cJ2_charAt_3b067 6 = .ok (.iload_n 1, 1) := by decide +kernel
theorem dJ2_charAt_3b067_7 : decode cJ2_charAt_3b067 7 = .ok (.invokestatic 71, 3) := by decide +kernel
theorem dJ2_charAt_3b067_10 : decode cJ2_charAt_3b067 10 = .ok (.ireturn, 1) := by decide +kernel
theorem dJ2_checkIndex_2214a_0 : decode cJ2_checkIndex_2214a 0 = .ok (.iload_n 0, 1) := by decide +kernel
theorem dJ2_checkIndex_2214a_1 : decode cJ2_checkIndex_2214a 1 = .ok (.aload_n 1, 1) := by decide +kernel
theorem dJ2_checkIndex_2214a_2 : decode cJ2_checkIndex_2214a 2 = .ok (.invokestatic 48, 3) := by decide +kernel
theorem dJ2_checkIndex_2214a_5 : decode cJ2_checkIndex_2214a 5 = .ok (.invokestatic 414, 3) := by decide +kernel
theorem dJ2_checkIndex_2214a_8 : decode cJ2_checkIndex_2214a 8 = .ok (.return_, 1) := by decide +kernel
theorem dJ7_fill_53178_0 : decode cJ7_fill_53178 0 = .ok (.iconst 0, 1) := by decide +kernel
theorem dJ7_fill_53178_1 : decode cJ7_fill_53178 1 = .ok (.istore_n 2, 1) := by decide +kernel
theorem dJ7_fill_53178_2 : decode cJ7_fill_53178 2 = .ok (.aload_n 0, 1) := by decide +kernel
theorem dJ7_fill_53178_3 : decode cJ7_fill_53178 3 = .ok (.arraylength, 1) := by decide +kernel
theorem dJ7_fill_53178_4 : decode cJ7_fill_53178 4 = .ok (.istore_n 3, 1) := by decide +kernel
theorem dJ7_fill_53178_5 : decode cJ7_fill_53178 5 = .ok (.iload_n 2, 1) := by decide +kernel
theorem dJ7_fill_53178_6 : decode cJ7_fill_53178 6 = .ok (.iload_n 3, 1) := by decide +kernel
theorem dJ7_fill_53178_7 : decode cJ7_fill_53178 7 = .ok (.if_icmp .ge 13, 3) := by decide +kernel
theorem dJ7_fill_53178_10 : decode cJ7_fill_53178 10 = .ok (.aload_n 0, 1) := by decide +kernel
theorem dJ7_fill_53178_11 : decode cJ7_fill_53178 11 = .ok (.iload_n 2, 1) := by decide +kernel
theorem dJ7_fill_53178_12 : decode cJ7_fill_53178 12 = .ok (.iload_n 1, 1) := by decide +kernel
theorem dJ7_fill_53178_13 : decode cJ7_fill_53178 13 = .ok (.iastore, 1) := by decide +kernel
theorem dJ7_fill_53178_14 : decode cJ7_fill_53178 14 = .ok (.iinc 2 1, 3) := by decide +kernel
theorem dJ7_fill_53178_17 : decode cJ7_fill_53178 17 = .ok (.goto (-12), 3) := by decide +kernel
theorem dJ7_fill_53178_20 : decode cJ7_fill_53178 20 = .ok (.return_, 1) := by decide +kernel
theorem dJ3_checkIndex_8e157_0 : decode cJ3_checkIndex_8e157 0 = .ok (.iload_n 0, 1) := by decide +kernel
theorem dJ3_checkIndex_8e157_1 : decode cJ3_checkIndex_8e157 1 = .ok (.ifCond .lt 8, 3) := by decide +kernel
theorem dJ3_checkIndex_8e157_4 : decode cJ3_checkIndex_8e157 4 = .ok (.iload_n 0, 1) := by decide +kernel
theorem dJ3_checkIndex_8e157_5 : decode cJ3_checkIndex_8e157 5 = .ok (.iload_n 1, 1) := by decide +kernel
theorem dJ3_checkIndex_8e157_6 : decode cJ3_checkIndex_8e157 6 = .ok (.if_icmp .lt 10, 3) := by decide +kernel
theorem dJ3_checkIndex_8e157_9 : decode cJ3_checkIndex_8e157 9 = .ok (.aload_n 2, 1) := by decide +kernel
theorem dJ3_checkIndex_8e157_10 : decode cJ3_checkIndex_8e157 10 = .ok (.iload_n 0, 1) := by decide +kernel
theorem dJ3_checkIndex_8e157_11 : decode cJ3_checkIndex_8e157 11 = .ok (.iload_n 1, 1) := by decide +kernel
theorem dJ3_checkIndex_8e157_12 : decode cJ3_checkIndex_8e157 12 = .ok (.invokestatic 95, 3) := by decide +kernel
theorem dJ3_checkIndex_8e157_15 : decode cJ3_checkIndex_8e157 15 = .ok (.athrow, 1) := by decide +kernel
theorem dJ3_checkIndex_8e157_16 : decode cJ3_checkIndex_8e157 16 = .ok (.iload_n 0, 1) := by decide +kernel
theorem dJ3_checkIndex_8e157_17 : decode cJ3_checkIndex_8e157 17 = .ok (.ireturn, 1) := by decide +kernel
theorem dL_of_0 : decode cL_of 0 = .ok (.aload_n 3, 1) := by decide +kernel
theorem dL_of_1 : decode cL_of 1 = .ok (.iconst 0, 1) := by decide +kernel
theorem dL_of_2 : decode cL_of 2 = .ok (.aload_n 0, 1) := by decide +kernel
theorem dL_of_3 : decode cL_of 3 = .ok (.iload_n 1, 1) := by decide +kernel
theorem dL_of_4 : decode cL_of 4 = .ok (.iload_n 2, 1) := by decide +kernel
theorem dL_of_5 : decode cL_of 5 = .ok (.invokevirtual 7, 3) := by decide +kernel
theorem dL_of_8 : decode cL_of 8 = .ok (.i2l, 1) := by decide +kernel
theorem dL_of_9 : decode cL_of 9 = .ok (.lastore, 1) := by decide +kernel
theorem dL_of_10 : decode cL_of 10 = .ok (.goto 7, 3) := by decide +kernel
theorem dL_of_13 : decode cL_of 13 = .ok (.astore 4, 2) := by decide +kernel
theorem dL_of_15 : decode cL_of 15 = .ok (.iconst 1, 1) := by decide +kernel
theorem dL_of_16 : decode cL_of 16 = .ok (.ireturn, 1) := by decide +kernel
theorem dL_of_17 : decode cL_of 17 = .ok (.iconst 0, 1) := by decide +kernel
theorem dL_of_18 : decode cL_of 18 = .ok (.ireturn, 1) := by decide +kernel
theorem dL_law_0 : decode cL_law 0 = .ok (.new 8, 3) := by decide +kernel
theorem dL_law_3 : decode cL_law 3 = .ok (.dup, 1) := by decide +kernel
theorem dL_law_4 : decode cL_law 4 = .ok (.invokespecial 15, 3) := by decide +kernel
theorem dL_law_7 : decode cL_law 7 = .ok (.astore_n 1, 1) := by decide +kernel
theorem dL_law_8 : decode cL_law 8 = .ok (.new 16, 3) := by decide +kernel
theorem dL_law_11 : decode cL_law 11 = .ok (.dup, 1) := by decide +kernel
theorem dL_law_12 : decode cL_law 12 = .ok (.invokespecial 18, 3) := by decide +kernel
theorem dL_law_15 : decode cL_law 15 = .ok (.astore_n 2, 1) := by decide +kernel
theorem dL_law_16 : decode cL_law 16 = .ok (.iconst 1, 1) := by decide +kernel
theorem dL_law_17 : decode cL_law 17 = .ok (.newarray .long, 2) := by decide +kernel
theorem dL_law_19 : decode cL_law 19 = .ok (.astore_n 3, 1) := by decide +kernel
theorem dL_law_20 : decode cL_law 20 = .ok (.iconst 0, 1) := by decide +kernel
theorem dL_law_21 : decode cL_law 21 = .ok (.istore 4, 2) := by decide +kernel
theorem dL_law_23 : decode cL_law 23 = .ok (.iload 4, 2) := by decide +kernel
theorem dL_law_25 : decode cL_law 25 = .ok (.aload_n 0, 1) := by decide +kernel
theorem dL_law_26 : decode cL_law 26 = .ok (.arraylength, 1) := by decide +kernel
theorem dL_law_27 : decode cL_law 27 = .ok (.bipush 6, 2) := by decide +kernel
theorem dL_law_29 : decode cL_law 29 = .ok (.isub, 1) := by decide +kernel
theorem dL_law_30 : decode cL_law 30 = .ok (.if_icmp .gt 1079, 3) := by decide +kernel
theorem dL_law_33 : decode cL_law 33 = .ok (.aload_n 0, 1) := by decide +kernel
theorem dL_law_34 : decode cL_law 34 = .ok (.iload 4, 2) := by decide +kernel
theorem dL_law_36 : decode cL_law 36 = .ok (.iaload, 1) := by decide +kernel
theorem dL_law_37 : decode cL_law 37 = .ok (.bipush 31, 2) := by decide +kernel
theorem dL_law_39 : decode cL_law 39 = .ok (.iand, 1) := by decide +kernel
theorem dL_law_40 : decode cL_law 40 = .ok (.tableswitch 1063 0 23 #[112, 185, 210, 223, 236, 261, 298, 335, 408, 473, 510, 535, 603, 652, 701, 738, 775, 812, 865, 914, 963, 988, 1013, 1050], 112) := by decide +kernel
theorem dL_law_152 : decode cL_law 152 = .ok (.aload_n 1, 1) := by decide +kernel
theorem dL_law_153 : decode cL_law 153 = .ok (.aload_n 0, 1) := by decide +kernel
theorem dL_law_154 : decode cL_law 154 = .ok (.iload 4, 2) := by decide +kernel
theorem dL_law_156 : decode cL_law 156 = .ok (.iconst 1, 1) := by decide +kernel
theorem dL_law_157 : decode cL_law 157 = .ok (.iadd, 1) := by decide +kernel
theorem dL_law_158 : decode cL_law 158 = .ok (.iaload, 1) := by decide +kernel
theorem dL_law_159 : decode cL_law 159 = .ok (.aload_n 0, 1) := by decide +kernel
theorem dL_law_160 : decode cL_law 160 = .ok (.iload 4, 2) := by decide +kernel
theorem dL_law_162 : decode cL_law 162 = .ok (.iconst 2, 1) := by decide +kernel
theorem dL_law_163 : decode cL_law 163 = .ok (.iadd, 1) := by decide +kernel
theorem dL_law_164 : decode cL_law 164 = .ok (.iaload, 1) := by decide +kernel
theorem dL_law_165 : decode cL_law 165 = .ok (.aload_n 0, 1) := by decide +kernel
theorem dL_law_166 : decode cL_law 166 = .ok (.iload 4, 2) := by decide +kernel
theorem dL_law_168 : decode cL_law 168 = .ok (.iconst 3, 1) := by decide +kernel
theorem dL_law_169 : decode cL_law 169 = .ok (.iadd, 1) := by decide +kernel
theorem dL_law_170 : decode cL_law 170 = .ok (.iaload, 1) := by decide +kernel
theorem dL_law_171 : decode cL_law 171 = .ok (.aload_n 0, 1) := by decide +kernel
theorem dL_law_172 : decode cL_law 172 = .ok (.iload 4, 2) := by decide +kernel
theorem dL_law_174 : decode cL_law 174 = .ok (.iconst 4, 1) := by decide +kernel
theorem dL_law_175 : decode cL_law 175 = .ok (.iadd, 1) := by decide +kernel
theorem dL_law_176 : decode cL_law 176 = .ok (.iaload, 1) := by decide +kernel
theorem dL_law_177 : decode cL_law 177 = .ok (.aload_n 0, 1) := by decide +kernel
theorem dL_law_178 : decode cL_law 178 = .ok (.iload 4, 2) := by decide +kernel
theorem dL_law_180 : decode cL_law 180 = .ok (.iconst 5, 1) := by decide +kernel
theorem dL_law_181 : decode cL_law 181 = .ok (.iadd, 1) := by decide +kernel
theorem dL_law_182 : decode cL_law 182 = .ok (.iaload, 1) := by decide +kernel
theorem dL_law_183 : decode cL_law 183 = .ok (.invokevirtual 19, 3) := by decide +kernel
theorem dL_law_186 : decode cL_law 186 = .ok (.aload_n 2, 1) := by decide +kernel
theorem dL_law_187 : decode cL_law 187 = .ok (.aload_n 0, 1) := by decide +kernel
theorem dL_law_188 : decode cL_law 188 = .ok (.iload 4, 2) := by decide +kernel
theorem dL_law_190 : decode cL_law 190 = .ok (.iconst 1, 1) := by decide +kernel
theorem dL_law_191 : decode cL_law 191 = .ok (.iadd, 1) := by decide +kernel
theorem dL_law_192 : decode cL_law 192 = .ok (.iaload, 1) := by decide +kernel
theorem dL_law_193 : decode cL_law 193 = .ok (.aload_n 0, 1) := by decide +kernel
theorem dL_law_194 : decode cL_law 194 = .ok (.iload 4, 2) := by decide +kernel
theorem dL_law_196 : decode cL_law 196 = .ok (.iconst 2, 1) := by decide +kernel
theorem dL_law_197 : decode cL_law 197 = .ok (.iadd, 1) := by decide +kernel
theorem dL_law_198 : decode cL_law 198 = .ok (.iaload, 1) := by decide +kernel
theorem dL_law_199 : decode cL_law 199 = .ok (.aload_n 0, 1) := by decide +kernel
theorem dL_law_200 : decode cL_law 200 = .ok (.iload 4, 2) := by decide +kernel
theorem dL_law_202 : decode cL_law 202 = .ok (.iconst 3, 1) := by decide +kernel
theorem dL_law_203 : decode cL_law 203 = .ok (.iadd, 1) := by decide +kernel
theorem dL_law_204 : decode cL_law 204 = .ok (.iaload, 1) := by decide +kernel
theorem dL_law_205 : decode cL_law 205 = .ok (.aload_n 0, 1) := by decide +kernel
theorem dL_law_206 : decode cL_law 206 = .ok (.iload 4, 2) := by decide +kernel
theorem dL_law_208 : decode cL_law 208 = .ok (.iconst 4, 1) := by decide +kernel
theorem dL_law_209 : decode cL_law 209 = .ok (.iadd, 1) := by decide +kernel
theorem dL_law_210 : decode cL_law 210 = .ok (.iaload, 1) := by decide +kernel
theorem dL_law_211 : decode cL_law 211 = .ok (.aload_n 0, 1) := by decide +kernel
theorem dL_law_212 : decode cL_law 212 = .ok (.iload 4, 2) := by decide +kernel
theorem dL_law_214 : decode cL_law 214 = .ok (.iconst 5, 1) := by decide +kernel
theorem dL_law_215 : decode cL_law 215 = .ok (.iadd, 1) := by decide +kernel
theorem dL_law_216 : decode cL_law 216 = .ok (.iaload, 1) := by decide +kernel
theorem dL_law_217 : decode cL_law 217 = .ok (.invokevirtual 23, 3) := by decide +kernel
theorem dL_law_220 : decode cL_law 220 = .ok (.if_icmp .eq 883, 3) := by decide +kernel
theorem dL_law_223 : decode cL_law 223 = .ok (.iconst 0, 1) := by decide +kernel
theorem dL_law_224 : decode cL_law 224 = .ok (.ireturn, 1) := by decide +kernel
theorem dL_law_225 : decode cL_law 225 = .ok (.aload_n 1, 1) := by decide +kernel
theorem dL_law_226 : decode cL_law 226 = .ok (.aload_n 0, 1) := by decide +kernel
theorem dL_law_227 : decode cL_law 227 = .ok (.iload 4, 2) := by decide +kernel
theorem dL_law_229 : decode cL_law 229 = .ok (.iconst 1, 1) := by decide +kernel
theorem dL_law_230 : decode cL_law 230 = .ok (.iadd, 1) := by decide +kernel
theorem dL_law_231 : decode cL_law 231 = .ok (.iaload, 1) := by decide +kernel
theorem dL_law_232 : decode cL_law 232 = .ok (.invokevirtual 24, 3) := by decide +kernel
theorem dL_law_235 : decode cL_law 235 = .ok (.aload_n 2, 1) := by decide +kernel
theorem dL_law_236 : decode cL_law 236 = .ok (.aload_n 0, 1) := by decide +kernel
theorem dL_law_237 : decode cL_law 237 = .ok (.iload 4, 2) := by decide +kernel
theorem dL_law_239 : decode cL_law 239 = .ok (.iconst 1, 1) := by decide +kernel
theorem dL_law_240 : decode cL_law 240 = .ok (.iadd, 1) := by decide +kernel
theorem dL_law_241 : decode cL_law 241 = .ok (.iaload, 1) := by decide +kernel
theorem dL_law_242 : decode cL_law 242 = .ok (.invokevirtual 28, 3) := by decide +kernel
theorem dL_law_245 : decode cL_law 245 = .ok (.if_icmp .eq 858, 3) := by decide +kernel
theorem dL_law_248 : decode cL_law 248 = .ok (.iconst 0, 1) := by decide +kernel
theorem dL_law_249 : decode cL_law 249 = .ok (.ireturn, 1) := by decide +kernel
theorem dL_law_250 : decode cL_law 250 = .ok (.aload_n 1, 1) := by decide +kernel
theorem dL_law_251 : decode cL_law 251 = .ok (.invokevirtual 29, 3) := by decide +kernel
theorem dL_law_254 : decode cL_law 254 = .ok (.aload_n 2, 1) := by decide +kernel
theorem dL_law_255 : decode cL_law 255 = .ok (.invokevirtual 33, 3) := by decide +kernel
theorem dL_law_258 : decode cL_law 258 = .ok (.if_icmp .eq 845, 3) := by decide +kernel
theorem dL_law_261 : decode cL_law 261 = .ok (.iconst 0, 1) := by decide +kernel
theorem dL_law_262 : decode cL_law 262 = .ok (.ireturn, 1) := by decide +kernel
theorem dL_law_263 : decode cL_law 263 = .ok (.aload_n 1, 1) := by decide +kernel
theorem dL_law_264 : decode cL_law 264 = .ok (.invokevirtual 34, 3) := by decide +kernel
theorem dL_law_267 : decode cL_law 267 = .ok (.aload_n 2, 1) := by decide +kernel
theorem dL_law_268 : decode cL_law 268 = .ok (.invokevirtual 37, 3) := by decide +kernel
theorem dL_law_271 : decode cL_law 271 = .ok (.if_icmp .eq 832, 3) := by decide +kernel
theorem dL_law_274 : decode cL_law 274 = .ok (.iconst 0, 1) := by decide +kernel
theorem dL_law_275 : decode cL_law 275 = .ok (.ireturn, 1) := by decide +kernel
theorem dL_law_276 : decode cL_law 276 = .ok (.aload_n 1, 1) := by decide +kernel
theorem dL_law_277 : decode cL_law 277 = .ok (.aload_n 0, 1) := by decide +kernel
theorem dL_law_278 : decode cL_law 278 = .ok (.iload 4, 2) := by decide +kernel
theorem dL_law_280 : decode cL_law 280 = .ok (.iconst 1, 1) := by decide +kernel
theorem dL_law_281 : decode cL_law 281 = .ok (.iadd, 1) := by decide +kernel
theorem dL_law_282 : decode cL_law 282 = .ok (.iaload, 1) := by decide +kernel
theorem dL_law_283 : decode cL_law 283 = .ok (.invokevirtual 38, 3) := by decide +kernel
theorem dL_law_286 : decode cL_law 286 = .ok (.aload_n 2, 1) := by decide +kernel
theorem dL_law_287 : decode cL_law 287 = .ok (.aload_n 0, 1) := by decide +kernel
theorem dL_law_288 : decode cL_law 288 = .ok (.iload 4, 2) := by decide +kernel
theorem dL_law_290 : decode cL_law 290 = .ok (.iconst 1, 1) := by decide +kernel
theorem dL_law_291 : decode cL_law 291 = .ok (.iadd, 1) := by decide +kernel
theorem dL_law_292 : decode cL_law 292 = .ok (.iaload, 1) := by decide +kernel
theorem dL_law_293 : decode cL_law 293 = .ok (.invokevirtual 42, 3) := by decide +kernel
theorem dL_law_296 : decode cL_law 296 = .ok (.if_icmp .eq 807, 3) := by decide +kernel
theorem dL_law_299 : decode cL_law 299 = .ok (.iconst 0, 1) := by decide +kernel
theorem dL_law_300 : decode cL_law 300 = .ok (.ireturn, 1) := by decide +kernel
theorem dL_law_301 : decode cL_law 301 = .ok (.aload_n 1, 1) := by decide +kernel
theorem dL_law_302 : decode cL_law 302 = .ok (.aload_n 0, 1) := by decide +kernel
theorem dL_law_303 : decode cL_law 303 = .ok (.iload 4, 2) := by decide +kernel
theorem dL_law_305 : decode cL_law 305 = .ok (.iconst 1, 1) := by decide +kernel
theorem dL_law_306 : decode cL_law 306 = .ok (.iadd, 1) := by decide +kernel
theorem dL_law_307 : decode cL_law 307 = .ok (.iaload, 1) := by decide +kernel
theorem dL_law_308 : decode cL_law 308 = .ok (.aload_n 0, 1) := by decide +kernel
theorem dL_law_309 : decode cL_law 309 = .ok (.iload 4, 2) := by decide +kernel
theorem dL_law_311 : decode cL_law 311 = .ok (.iconst 2, 1) := by decide +kernel
theorem dL_law_312 : decode cL_law 312 = .ok (.iadd, 1) := by decide +kernel
theorem dL_law_313 : decode cL_law 313 = .ok (.iaload, 1) := by decide +kernel
theorem dL_law_314 : decode cL_law 314 = .ok (.invokevirtual 43, 3) := by decide +kernel
theorem dL_law_317 : decode cL_law 317 = .ok (.aload_n 2, 1) := by decide +kernel
theorem dL_law_318 : decode cL_law 318 = .ok (.aload_n 0, 1) := by decide +kernel
theorem dL_law_319 : decode cL_law 319 = .ok (.iload 4, 2) := by decide +kernel
theorem dL_law_321 : decode cL_law 321 = .ok (.iconst 1, 1) := by decide +kernel
theorem dL_law_322 : decode cL_law 322 = .ok (.iadd, 1) := by decide +kernel
theorem dL_law_323 : decode cL_law 323 = .ok (.iaload, 1) := by decide +kernel
theorem dL_law_324 : decode cL_law 324 = .ok (.aload_n 0, 1) := by decide +kernel
theorem dL_law_325 : decode cL_law 325 = .ok (.iload 4, 2) := by decide +kernel
theorem dL_law_327 : decode cL_law 327 = .ok (.iconst 2, 1) := by decide +kernel
theorem dL_law_328 : decode cL_law 328 = .ok (.iadd, 1) := by decide +kernel
theorem dL_law_329 : decode cL_law 329 = .ok (.iaload, 1) := by decide +kernel
theorem dL_law_330 : decode cL_law 330 = .ok (.invokevirtual 47, 3) := by decide +kernel
theorem dL_law_333 : decode cL_law 333 = .ok (.if_icmp .eq 770, 3) := by decide +kernel
theorem dL_law_336 : decode cL_law 336 = .ok (.iconst 0, 1) := by decide +kernel
theorem dL_law_337 : decode cL_law 337 = .ok (.ireturn, 1) := by decide +kernel
theorem dL_law_338 : decode cL_law 338 = .ok (.aload_n 1, 1) := by decide +kernel
theorem dL_law_339 : decode cL_law 339 = .ok (.aload_n 0, 1) := by decide +kernel
theorem dL_law_340 : decode cL_law 340 = .ok (.iload 4, 2) := by decide +kernel
theorem dL_law_342 : decode cL_law 342 = .ok (.iconst 1, 1) := by decide +kernel
theorem dL_law_343 : decode cL_law 343 = .ok (.iadd, 1) := by decide +kernel
theorem dL_law_344 : decode cL_law 344 = .ok (.iaload, 1) := by decide +kernel
theorem dL_law_345 : decode cL_law 345 = .ok (.aload_n 0, 1) := by decide +kernel
theorem dL_law_346 : decode cL_law 346 = .ok (.iload 4, 2) := by decide +kernel
theorem dL_law_348 : decode cL_law 348 = .ok (.iconst 2, 1) := by decide +kernel
theorem dL_law_349 : decode cL_law 349 = .ok (.iadd, 1) := by decide +kernel
theorem dL_law_350 : decode cL_law 350 = .ok (.iaload, 1) := by decide +kernel
theorem dL_law_351 : decode cL_law 351 = .ok (.invokevirtual 48, 3) := by decide +kernel
theorem dL_law_354 : decode cL_law 354 = .ok (.aload_n 2, 1) := by decide +kernel
theorem dL_law_355 : decode cL_law 355 = .ok (.aload_n 0, 1) := by decide +kernel
theorem dL_law_356 : decode cL_law 356 = .ok (.iload 4, 2) := by decide +kernel
theorem dL_law_358 : decode cL_law 358 = .ok (.iconst 1, 1) := by decide +kernel
theorem dL_law_359 : decode cL_law 359 = .ok (.iadd, 1) := by decide +kernel
theorem dL_law_360 : decode cL_law 360 = .ok (.iaload, 1) := by decide +kernel
theorem dL_law_361 : decode cL_law 361 = .ok (.aload_n 0, 1) := by decide +kernel
theorem dL_law_362 : decode cL_law 362 = .ok (.iload 4, 2) := by decide +kernel
theorem dL_law_364 : decode cL_law 364 = .ok (.iconst 2, 1) := by decide +kernel
theorem dL_law_365 : decode cL_law 365 = .ok (.iadd, 1) := by decide +kernel
theorem dL_law_366 : decode cL_law 366 = .ok (.iaload, 1) := by decide +kernel
theorem dL_law_367 : decode cL_law 367 = .ok (.invokevirtual 51, 3) := by decide +kernel
theorem dL_law_370 : decode cL_law 370 = .ok (.if_icmp .eq 733, 3) := by decide +kernel
theorem dL_law_373 : decode cL_law 373 = .ok (.iconst 0, 1) := by decide +kernel
theorem dL_law_374 : decode cL_law 374 = .ok (.ireturn, 1) := by decide +kernel
theorem dL_law_375 : decode cL_law 375 = .ok (.aload_n 1, 1) := by decide +kernel
theorem dL_law_376 : decode cL_law 376 = .ok (.aload_n 0, 1) := by decide +kernel
theorem dL_law_377 : decode cL_law 377 = .ok (.iload 4, 2) := by decide +kernel
theorem dL_law_379 : decode cL_law 379 = .ok (.iconst 1, 1) := by decide +kernel
theorem dL_law_380 : decode cL_law 380 = .ok (.iadd, 1) := by decide +kernel
theorem dL_law_381 : decode cL_law 381 = .ok (.iaload, 1) := by decide +kernel
theorem dL_law_382 : decode cL_law 382 = .ok (.aload_n 0, 1) := by decide +kernel
theorem dL_law_383 : decode cL_law 383 = .ok (.iload 4, 2) := by decide +kernel
theorem dL_law_385 : decode cL_law 385 = .ok (.iconst 2, 1) := by decide +kernel
theorem dL_law_386 : decode cL_law 386 = .ok (.iadd, 1) := by decide +kernel
theorem dL_law_387 : decode cL_law 387 = .ok (.iaload, 1) := by decide +kernel
theorem dL_law_388 : decode cL_law 388 = .ok (.aload_n 0, 1) := by decide +kernel
theorem dL_law_389 : decode cL_law 389 = .ok (.iload 4, 2) := by decide +kernel
theorem dL_law_391 : decode cL_law 391 = .ok (.iconst 3, 1) := by decide +kernel
theorem dL_law_392 : decode cL_law 392 = .ok (.iadd, 1) := by decide +kernel
theorem dL_law_393 : decode cL_law 393 = .ok (.iaload, 1) := by decide +kernel
theorem dL_law_394 : decode cL_law 394 = .ok (.aload_n 0, 1) := by decide +kernel
theorem dL_law_395 : decode cL_law 395 = .ok (.iload 4, 2) := by decide +kernel
theorem dL_law_397 : decode cL_law 397 = .ok (.iconst 4, 1) := by decide +kernel
theorem dL_law_398 : decode cL_law 398 = .ok (.iadd, 1) := by decide +kernel
theorem dL_law_399 : decode cL_law 399 = .ok (.iaload, 1) := by decide +kernel
theorem dL_law_400 : decode cL_law 400 = .ok (.aload_n 0, 1) := by decide +kernel
theorem dL_law_401 : decode cL_law 401 = .ok (.iload 4, 2) := by decide +kernel
theorem dL_law_403 : decode cL_law 403 = .ok (.iconst 5, 1) := by decide +kernel
theorem dL_law_404 : decode cL_law 404 = .ok (.iadd, 1) := by decide +kernel
theorem dL_law_405 : decode cL_law 405 = .ok (.iaload, 1) := by decide +kernel
theorem dL_law_406 : decode cL_law 406 = .ok (.invokevirtual 52, 3) := by decide +kernel
theorem dL_law_409 : decode cL_law 409 = .ok (.aload_n 2, 1) := by decide +kernel
theorem dL_law_410 : decode cL_law 410 = .ok (.aload_n 0, 1) := by decide +kernel
theorem dL_law_411 : decode cL_law 411 = .ok (.iload 4, 2) := by decide +kernel
theorem dL_law_413 : decode cL_law 413 = .ok (.iconst 1, 1) := by decide +kernel
theorem dL_law_414 : decode cL_law 414 = .ok (.iadd, 1) := by decide +kernel
theorem dL_law_415 : decode cL_law 415 = .ok (.iaload, 1) := by decide +kernel
theorem dL_law_416 : decode cL_law 416 = .ok (.aload_n 0, 1) := by decide +kernel
theorem dL_law_417 : decode cL_law 417 = .ok (.iload 4, 2) := by decide +kernel
theorem dL_law_419 : decode cL_law 419 = .ok (.iconst 2, 1) := by decide +kernel
theorem dL_law_420 : decode cL_law 420 = .ok (.iadd, 1) := by decide +kernel
theorem dL_law_421 : decode cL_law 421 = .ok (.iaload, 1) := by decide +kernel
theorem dL_law_422 : decode cL_law 422 = .ok (.aload_n 0, 1) := by decide +kernel
theorem dL_law_423 : decode cL_law 423 = .ok (.iload 4, 2) := by decide +kernel
theorem dL_law_425 : decode cL_law 425 = .ok (.iconst 3, 1) := by decide +kernel
theorem dL_law_426 : decode cL_law 426 = .ok (.iadd, 1) := by decide +kernel
theorem dL_law_427 : decode cL_law 427 = .ok (.iaload, 1) := by decide +kernel
theorem dL_law_428 : decode cL_law 428 = .ok (.aload_n 0, 1) := by decide +kernel
theorem dL_law_429 : decode cL_law 429 = .ok (.iload 4, 2) := by decide +kernel
theorem dL_law_431 : decode cL_law 431 = .ok (.iconst 4, 1) := by decide +kernel
theorem dL_law_432 : decode cL_law 432 = .ok (.iadd, 1) := by decide +kernel
theorem dL_law_433 : decode cL_law 433 = .ok (.iaload, 1) := by decide +kernel
theorem dL_law_434 : decode cL_law 434 = .ok (.aload_n 0, 1) := by decide +kernel
theorem dL_law_435 : decode cL_law 435 = .ok (.iload 4, 2) := by decide +kernel
theorem dL_law_437 : decode cL_law 437 = .ok (.iconst 5, 1) := by decide +kernel
theorem dL_law_438 : decode cL_law 438 = .ok (.iadd, 1) := by decide +kernel
theorem dL_law_439 : decode cL_law 439 = .ok (.iaload, 1) := by decide +kernel
theorem dL_law_440 : decode cL_law 440 = .ok (.invokevirtual 55, 3) := by decide +kernel
theorem dL_law_443 : decode cL_law 443 = .ok (.if_icmp .eq 660, 3) := by decide +kernel
theorem dL_law_446 : decode cL_law 446 = .ok (.iconst 0, 1) := by decide +kernel
theorem dL_law_447 : decode cL_law 447 = .ok (.ireturn, 1) := by decide +kernel
theorem dL_law_448 : decode cL_law 448 = .ok (.aload_n 1, 1) := by decide +kernel
theorem dL_law_449 : decode cL_law 449 = .ok (.aload_n 0, 1) := by decide +kernel
theorem dL_law_450 : decode cL_law 450 = .ok (.iload 4, 2) := by decide +kernel
theorem dL_law_452 : decode cL_law 452 = .ok (.iconst 1, 1) := by decide +kernel
theorem dL_law_453 : decode cL_law 453 = .ok (.iadd, 1) := by decide +kernel
theorem dL_law_454 : decode cL_law 454 = .ok (.iaload, 1) := by decide +kernel
theorem dL_law_455 : decode cL_law 455 = .ok (.aload_n 0, 1) := by decide +kernel
theorem dL_law_456 : decode cL_law 456 = .ok (.iload 4, 2) := by decide +kernel
theorem dL_law_458 : decode cL_law 458 = .ok (.iconst 2, 1) := by decide +kernel
theorem dL_law_459 : decode cL_law 459 = .ok (.iadd, 1) := by decide +kernel
theorem dL_law_460 : decode cL_law 460 = .ok (.iaload, 1) := by decide +kernel
theorem dL_law_461 : decode cL_law 461 = .ok (.aload_n 0, 1) := by decide +kernel
theorem dL_law_462 : decode cL_law 462 = .ok (.iload 4, 2) := by decide +kernel
theorem dL_law_464 : decode cL_law 464 = .ok (.iconst 3, 1) := by decide +kernel
theorem dL_law_465 : decode cL_law 465 = .ok (.iadd, 1) := by decide +kernel
theorem dL_law_466 : decode cL_law 466 = .ok (.iaload, 1) := by decide +kernel
theorem dL_law_467 : decode cL_law 467 = .ok (.ifCond .eq 7, 3) := by decide +kernel
theorem dL_law_470 : decode cL_law 470 = .ok (.iconst 1, 1) := by decide +kernel
theorem dL_law_471 : decode cL_law 471 = .ok (.goto 4, 3) := by decide +kernel
theorem dL_law_474 : decode cL_law 474 = .ok (.iconst 0, 1) := by decide +kernel
theorem dL_law_475 : decode cL_law 475 = .ok (.invokevirtual 56, 3) := by decide +kernel
theorem dL_law_478 : decode cL_law 478 = .ok (.aload_n 2, 1) := by decide +kernel
theorem dL_law_479 : decode cL_law 479 = .ok (.aload_n 0, 1) := by decide +kernel
theorem dL_law_480 : decode cL_law 480 = .ok (.iload 4, 2) := by decide +kernel
theorem dL_law_482 : decode cL_law 482 = .ok (.iconst 1, 1) := by decide +kernel
theorem dL_law_483 : decode cL_law 483 = .ok (.iadd, 1) := by decide +kernel
theorem dL_law_484 : decode cL_law 484 = .ok (.iaload, 1) := by decide +kernel
theorem dL_law_485 : decode cL_law 485 = .ok (.aload_n 0, 1) := by decide +kernel
theorem dL_law_486 : decode cL_law 486 = .ok (.iload 4, 2) := by decide +kernel
theorem dL_law_488 : decode cL_law 488 = .ok (.iconst 2, 1) := by decide +kernel
theorem dL_law_489 : decode cL_law 489 = .ok (.iadd, 1) := by decide +kernel
theorem dL_law_490 : decode cL_law 490 = .ok (.iaload, 1) := by decide +kernel
theorem dL_law_491 : decode cL_law 491 = .ok (.aload_n 0, 1) := by decide +kernel
theorem dL_law_492 : decode cL_law 492 = .ok (.iload 4, 2) := by decide +kernel
theorem dL_law_494 : decode cL_law 494 = .ok (.iconst 3, 1) := by decide +kernel
theorem dL_law_495 : decode cL_law 495 = .ok (.iadd, 1) := by decide +kernel
theorem dL_law_496 : decode cL_law 496 = .ok (.iaload, 1) := by decide +kernel
theorem dL_law_497 : decode cL_law 497 = .ok (.ifCond .eq 7, 3) := by decide +kernel
theorem dL_law_500 : decode cL_law 500 = .ok (.iconst 1, 1) := by decide +kernel
theorem dL_law_501 : decode cL_law 501 = .ok (.goto 4, 3) := by decide +kernel
theorem dL_law_504 : decode cL_law 504 = .ok (.iconst 0, 1) := by decide +kernel
theorem dL_law_505 : decode cL_law 505 = .ok (.invokevirtual 60, 3) := by decide +kernel
theorem dL_law_508 : decode cL_law 508 = .ok (.if_icmp .eq 595, 3) := by decide +kernel
theorem dL_law_511 : decode cL_law 511 = .ok (.iconst 0, 1) := by decide +kernel
theorem dL_law_512 : decode cL_law 512 = .ok (.ireturn, 1) := by decide +kernel
theorem dL_law_513 : decode cL_law 513 = .ok (.aload_n 1, 1) := by decide +kernel
theorem dL_law_514 : decode cL_law 514 = .ok (.aload_n 0, 1) := by decide +kernel
theorem dL_law_515 : decode cL_law 515 = .ok (.iload 4, 2) := by decide +kernel
theorem dL_law_517 : decode cL_law 517 = .ok (.iconst 1, 1) := by decide +kernel
theorem dL_law_518 : decode cL_law 518 = .ok (.iadd, 1) := by decide +kernel
theorem dL_law_519 : decode cL_law 519 = .ok (.iaload, 1) := by decide +kernel
theorem dL_law_520 : decode cL_law 520 = .ok (.aload_n 0, 1) := by decide +kernel
theorem dL_law_521 : decode cL_law 521 = .ok (.iload 4, 2) := by decide +kernel
theorem dL_law_523 : decode cL_law 523 = .ok (.iconst 2, 1) := by decide +kernel
theorem dL_law_524 : decode cL_law 524 = .ok (.iadd, 1) := by decide +kernel
theorem dL_law_525 : decode cL_law 525 = .ok (.iaload, 1) := by decide +kernel
theorem dL_law_526 : decode cL_law 526 = .ok (.invokevirtual 61, 3) := by decide +kernel
theorem dL_law_529 : decode cL_law 529 = .ok (.aload_n 2, 1) := by decide +kernel
theorem dL_law_530 : decode cL_law 530 = .ok (.aload_n 0, 1) := by decide +kernel
theorem dL_law_531 : decode cL_law 531 = .ok (.iload 4, 2) := by decide +kernel
theorem dL_law_533 : decode cL_law 533 = .ok (.iconst 1, 1) := by decide +kernel
theorem dL_law_534 : decode cL_law 534 = .ok (.iadd, 1) := by decide +kernel
theorem dL_law_535 : decode cL_law 535 = .ok (.iaload, 1) := by decide +kernel
theorem dL_law_536 : decode cL_law 536 = .ok (.aload_n 0, 1) := by decide +kernel
theorem dL_law_537 : decode cL_law 537 = .ok (.iload 4, 2) := by decide +kernel
theorem dL_law_539 : decode cL_law 539 = .ok (.iconst 2, 1) := by decide +kernel
theorem dL_law_540 : decode cL_law 540 = .ok (.iadd, 1) := by decide +kernel
theorem dL_law_541 : decode cL_law 541 = .ok (.iaload, 1) := by decide +kernel
theorem dL_law_542 : decode cL_law 542 = .ok (.invokevirtual 64, 3) := by decide +kernel
theorem dL_law_545 : decode cL_law 545 = .ok (.if_icmp .eq 558, 3) := by decide +kernel
theorem dL_law_548 : decode cL_law 548 = .ok (.iconst 0, 1) := by decide +kernel
theorem dL_law_549 : decode cL_law 549 = .ok (.ireturn, 1) := by decide +kernel
theorem dL_law_550 : decode cL_law 550 = .ok (.aload_n 1, 1) := by decide +kernel
theorem dL_law_551 : decode cL_law 551 = .ok (.aload_n 0, 1) := by decide +kernel
theorem dL_law_552 : decode cL_law 552 = .ok (.iload 4, 2) := by decide +kernel
theorem dL_law_554 : decode cL_law 554 = .ok (.iconst 1, 1) := by decide +kernel
theorem dL_law_555 : decode cL_law 555 = .ok (.iadd, 1) := by decide +kernel
theorem dL_law_556 : decode cL_law 556 = .ok (.iaload, 1) := by decide +kernel
theorem dL_law_557 : decode cL_law 557 = .ok (.invokevirtual 65, 3) := by decide +kernel
theorem dL_law_560 : decode cL_law 560 = .ok (.aload_n 2, 1) := by decide +kernel
theorem dL_law_561 : decode cL_law 561 = .ok (.aload_n 0, 1) := by decide +kernel
theorem dL_law_562 : decode cL_law 562 = .ok (.iload 4, 2) := by decide +kernel
theorem dL_law_564 : decode cL_law 564 = .ok (.iconst 1, 1) := by decide +kernel
theorem dL_law_565 : decode cL_law 565 = .ok (.iadd, 1) := by decide +kernel
theorem dL_law_566 : decode cL_law 566 = .ok (.iaload, 1) := by decide +kernel
theorem dL_law_567 : decode cL_law 567 = .ok (.invokevirtual 68, 3) := by decide +kernel
theorem dL_law_570 : decode cL_law 570 = .ok (.if_icmp .eq 533, 3) := by decide +kernel
theorem dL_law_573 : decode cL_law 573 = .ok (.iconst 0, 1) := by decide +kernel
theorem dL_law_574 : decode cL_law 574 = .ok (.ireturn, 1) := by decide +kernel
theorem dL_law_575 : decode cL_law 575 = .ok (.aload_n 1, 1) := by decide +kernel
theorem dL_law_576 : decode cL_law 576 = .ok (.aload_n 0, 1) := by decide +kernel
theorem dL_law_577 : decode cL_law 577 = .ok (.iload 4, 2) := by decide +kernel
theorem dL_law_579 : decode cL_law 579 = .ok (.iconst 1, 1) := by decide +kernel
theorem dL_law_580 : decode cL_law 580 = .ok (.iadd, 1) := by decide +kernel
theorem dL_law_581 : decode cL_law 581 = .ok (.iaload, 1) := by decide +kernel
theorem dL_law_582 : decode cL_law 582 = .ok (.aload_n 0, 1) := by decide +kernel
theorem dL_law_583 : decode cL_law 583 = .ok (.iload 4, 2) := by decide +kernel
theorem dL_law_585 : decode cL_law 585 = .ok (.iconst 2, 1) := by decide +kernel
theorem dL_law_586 : decode cL_law 586 = .ok (.iadd, 1) := by decide +kernel
theorem dL_law_587 : decode cL_law 587 = .ok (.iaload, 1) := by decide +kernel
theorem dL_law_588 : decode cL_law 588 = .ok (.aload_n 3, 1) := by decide +kernel
theorem dL_law_589 : decode cL_law 589 = .ok (.invokestatic 69, 3) := by decide +kernel
theorem dL_law_592 : decode cL_law 592 = .ok (.istore 5, 2) := by decide +kernel
theorem dL_law_594 : decode cL_law 594 = .ok (.aload_n 2, 1) := by decide +kernel
theorem dL_law_595 : decode cL_law 595 = .ok (.aload_n 0, 1) := by decide +kernel
theorem dL_law_596 : decode cL_law 596 = .ok (.iload 4, 2) := by decide +kernel
theorem dL_law_598 : decode cL_law 598 = .ok (.iconst 1, 1) := by decide +kernel
theorem dL_law_599 : decode cL_law 599 = .ok (.iadd, 1) := by decide +kernel
theorem dL_law_600 : decode cL_law 600 = .ok (.iaload, 1) := by decide +kernel
theorem dL_law_601 : decode cL_law 601 = .ok (.aload_n 0, 1) := by decide +kernel
theorem dL_law_602 : decode cL_law 602 = .ok (.iload 4, 2) := by decide +kernel
theorem dL_law_604 : decode cL_law 604 = .ok (.iconst 2, 1) := by decide +kernel
theorem dL_law_605 : decode cL_law 605 = .ok (.iadd, 1) := by decide +kernel
theorem dL_law_606 : decode cL_law 606 = .ok (.iaload, 1) := by decide +kernel
theorem dL_law_607 : decode cL_law 607 = .ok (.invokevirtual 74, 3) := by decide +kernel
theorem dL_law_610 : decode cL_law 610 = .ok (.istore 6, 2) := by decide +kernel
theorem dL_law_612 : decode cL_law 612 = .ok (.aload_n 2, 1) := by decide +kernel
theorem dL_law_613 : decode cL_law 613 = .ok (.invokevirtual 75, 3) := by decide +kernel
theorem dL_law_616 : decode cL_law 616 = .ok (.iload 5, 2) := by decide +kernel
theorem dL_law_618 : decode cL_law 618 = .ok (.if_icmp .eq 5, 3) := by decide +kernel
theorem dL_law_621 : decode cL_law 621 = .ok (.iconst 0, 1) := by decide +kernel
theorem dL_law_622 : decode cL_law 622 = .ok (.ireturn, 1) := by decide +kernel
theorem dL_law_623 : decode cL_law 623 = .ok (.iload 5, 2) := by decide +kernel
theorem dL_law_625 : decode cL_law 625 = .ok (.ifCond .ne 15, 3) := by decide +kernel
theorem dL_law_628 : decode cL_law 628 = .ok (.aload_n 3, 1) := by decide +kernel
theorem dL_law_629 : decode cL_law 629 = .ok (.iconst 0, 1) := by decide +kernel
theorem dL_law_630 : decode cL_law 630 = .ok (.laload, 1) := by decide +kernel
theorem dL_law_631 : decode cL_law 631 = .ok (.iload 6, 2) := by decide +kernel
theorem dL_law_633 : decode cL_law 633 = .ok (.i2l, 1) := by decide +kernel
theorem dL_law_634 : decode cL_law 634 = .ok (.lcmp, 1) := by decide +kernel
theorem dL_law_635 : decode cL_law 635 = .ok (.ifCond .eq 5, 3) := by decide +kernel
theorem dL_law_638 : decode cL_law 638 = .ok (.iconst 0, 1) := by decide +kernel
theorem dL_law_639 : decode cL_law 639 = .ok (.ireturn, 1) := by decide +kernel
theorem dL_law_640 : decode cL_law 640 = .ok (.goto 463, 3) := by decide +kernel
theorem dL_law_643 : decode cL_law 643 = .ok (.aload_n 1, 1) := by decide +kernel
theorem dL_law_644 : decode cL_law 644 = .ok (.aload_n 0, 1) := by decide +kernel
theorem dL_law_645 : decode cL_law 645 = .ok (.iload 4, 2) := by decide +kernel
theorem dL_law_647 : decode cL_law 647 = .ok (.iconst 1, 1) := by decide +kernel
theorem dL_law_648 : decode cL_law 648 = .ok (.iadd, 1) := by decide +kernel
theorem dL_law_649 : decode cL_law 649 = .ok (.iaload, 1) := by decide +kernel
theorem dL_law_650 : decode cL_law 650 = .ok (.aload_n 0, 1) := by decide +kernel
theorem dL_law_651 : decode cL_law 651 = .ok (.iload 4, 2) := by decide +kernel
theorem dL_law_653 : decode cL_law 653 = .ok (.iconst 2, 1) := by decide +kernel
theorem dL_law_654 : decode cL_law 654 = .ok (.iadd, 1) := by decide +kernel
theorem dL_law_655 : decode cL_law 655 = .ok (.iaload, 1) := by decide +kernel
theorem dL_law_656 : decode cL_law 656 = .ok (.aload_n 0, 1) := by decide +kernel
theorem dL_law_657 : decode cL_law 657 = .ok (.iload 4, 2) := by decide +kernel
theorem dL_law_659 : decode cL_law 659 = .ok (.iconst 3, 1) := by decide +kernel
theorem dL_law_660 : decode cL_law 660 = .ok (.iadd, 1) := by decide +kernel
theorem dL_law_661 : decode cL_law 661 = .ok (.iaload, 1) := by decide +kernel
theorem dL_law_662 : decode cL_law 662 = .ok (.invokevirtual 78, 3) := by decide +kernel
theorem dL_law_665 : decode cL_law 665 = .ok (.aload_n 2, 1) := by decide +kernel
theorem dL_law_666 : decode cL_law 666 = .ok (.aload_n 0, 1) := by decide +kernel
theorem dL_law_667 : decode cL_law 667 = .ok (.iload 4, 2) := by decide +kernel
theorem dL_law_669 : decode cL_law 669 = .ok (.iconst 1, 1) := by decide +kernel
theorem dL_law_670 : decode cL_law 670 = .ok (.iadd, 1) := by decide +kernel
theorem dL_law_671 : decode cL_law 671 = .ok (.iaload, 1) := by decide +kernel
theorem dL_law_672 : decode cL_law 672 = .ok (.aload_n 0, 1) := by decide +kernel
theorem dL_law_673 : decode cL_law 673 = .ok (.iload 4, 2) := by decide +kernel
theorem dL_law_675 : decode cL_law 675 = .ok (.iconst 2, 1) := by decide +kernel
theorem dL_law_676 : decode cL_law 676 = .ok (.iadd, 1) := by decide +kernel
theorem dL_law_677 : decode cL_law 677 = .ok (.iaload, 1) := by decide +kernel
theorem dL_law_678 : decode cL_law 678 = .ok (.aload_n 0, 1) := by decide +kernel
theorem dL_law_679 : decode cL_law 679 = .ok (.iload 4, 2) := by decide +kernel
theorem dL_law_681 : decode cL_law 681 = .ok (.iconst 3, 1) := by decide +kernel
theorem dL_law_682 : decode cL_law 682 = .ok (.iadd, 1) := by decide +kernel
theorem dL_law_683 : decode cL_law 683 = .ok (.iaload, 1) := by decide +kernel
theorem dL_law_684 : decode cL_law 684 = .ok (.invokevirtual 82, 3) := by decide +kernel
theorem dL_law_687 : decode cL_law 687 = .ok (.if_icmp .eq 416, 3) := by decide +kernel
theorem dL_law_690 : decode cL_law 690 = .ok (.iconst 0, 1) := by decide +kernel
theorem dL_law_691 : decode cL_law 691 = .ok (.ireturn, 1) := by decide +kernel
theorem dL_law_692 : decode cL_law 692 = .ok (.aload_n 1, 1) := by decide +kernel
theorem dL_law_693 : decode cL_law 693 = .ok (.aload_n 0, 1) := by decide +kernel
theorem dL_law_694 : decode cL_law 694 = .ok (.iload 4, 2) := by decide +kernel
theorem dL_law_696 : decode cL_law 696 = .ok (.iconst 1, 1) := by decide +kernel
theorem dL_law_697 : decode cL_law 697 = .ok (.iadd, 1) := by decide +kernel
theorem dL_law_698 : decode cL_law 698 = .ok (.iaload, 1) := by decide +kernel
theorem dL_law_699 : decode cL_law 699 = .ok (.aload_n 0, 1) := by decide +kernel
theorem dL_law_700 : decode cL_law 700 = .ok (.iload 4, 2) := by decide +kernel
theorem dL_law_702 : decode cL_law 702 = .ok (.iconst 2, 1) := by decide +kernel
theorem dL_law_703 : decode cL_law 703 = .ok (.iadd, 1) := by decide +kernel
theorem dL_law_704 : decode cL_law 704 = .ok (.iaload, 1) := by decide +kernel
theorem dL_law_705 : decode cL_law 705 = .ok (.aload_n 0, 1) := by decide +kernel
theorem dL_law_706 : decode cL_law 706 = .ok (.iload 4, 2) := by decide +kernel
theorem dL_law_708 : decode cL_law 708 = .ok (.iconst 3, 1) := by decide +kernel
theorem dL_law_709 : decode cL_law 709 = .ok (.iadd, 1) := by decide +kernel
theorem dL_law_710 : decode cL_law 710 = .ok (.iaload, 1) := by decide +kernel
theorem dL_law_711 : decode cL_law 711 = .ok (.invokevirtual 83, 3) := by decide +kernel
theorem dL_law_714 : decode cL_law 714 = .ok (.aload_n 2, 1) := by decide +kernel
theorem dL_law_715 : decode cL_law 715 = .ok (.aload_n 0, 1) := by decide +kernel
theorem dL_law_716 : decode cL_law 716 = .ok (.iload 4, 2) := by decide +kernel
theorem dL_law_718 : decode cL_law 718 = .ok (.iconst 1, 1) := by decide +kernel
theorem dL_law_719 : decode cL_law 719 = .ok (.iadd, 1) := by decide +kernel
theorem dL_law_720 : decode cL_law 720 = .ok (.iaload, 1) := by decide +kernel
theorem dL_law_721 : decode cL_law 721 = .ok (.aload_n 0, 1) := by decide +kernel
theorem dL_law_722 : decode cL_law 722 = .ok (.iload 4, 2) := by decide +kernel
theorem dL_law_724 : decode cL_law 724 = .ok (.iconst 2, 1) := by decide +kernel
theorem dL_law_725 : decode cL_law 725 = .ok (.iadd, 1) := by decide +kernel
theorem dL_law_726 : decode cL_law 726 = .ok (.iaload, 1) := by decide +kernel
theorem dL_law_727 : decode cL_law 727 = .ok (.aload_n 0, 1) := by decide +kernel
theorem dL_law_728 : decode cL_law 728 = .ok (.iload 4, 2) := by decide +kernel
theorem dL_law_730 : decode cL_law 730 = .ok (.iconst 3, 1) := by decide +kernel
theorem dL_law_731 : decode cL_law 731 = .ok (.iadd, 1) := by decide +kernel
theorem dL_law_732 : decode cL_law 732 = .ok (.iaload, 1) := by decide +kernel
theorem dL_law_733 : decode cL_law 733 = .ok (.invokevirtual 86, 3) := by decide +kernel
theorem dL_law_736 : decode cL_law 736 = .ok (.if_icmp .eq 367, 3) := by decide +kernel
theorem dL_law_739 : decode cL_law 739 = .ok (.iconst 0, 1) := by decide +kernel
theorem dL_law_740 : decode cL_law 740 = .ok (.ireturn, 1) := by decide +kernel
theorem dL_law_741 : decode cL_law 741 = .ok (.aload_n 1, 1) := by decide +kernel
theorem dL_law_742 : decode cL_law 742 = .ok (.aload_n 0, 1) := by decide +kernel
theorem dL_law_743 : decode cL_law 743 = .ok (.iload 4, 2) := by decide +kernel
theorem dL_law_745 : decode cL_law 745 = .ok (.iconst 1, 1) := by decide +kernel
theorem dL_law_746 : decode cL_law 746 = .ok (.iadd, 1) := by decide +kernel
theorem dL_law_747 : decode cL_law 747 = .ok (.iaload, 1) := by decide +kernel
theorem dL_law_748 : decode cL_law 748 = .ok (.aload_n 0, 1) := by decide +kernel
theorem dL_law_749 : decode cL_law 749 = .ok (.iload 4, 2) := by decide +kernel
theorem dL_law_751 : decode cL_law 751 = .ok (.iconst 2, 1) := by decide +kernel
theorem dL_law_752 : decode cL_law 752 = .ok (.iadd, 1) := by decide +kernel
theorem dL_law_753 : decode cL_law 753 = .ok (.iaload, 1) := by decide +kernel
theorem dL_law_754 : decode cL_law 754 = .ok (.invokevirtual 87, 3) := by decide +kernel
theorem dL_law_757 : decode cL_law 757 = .ok (.aload_n 2, 1) := by decide +kernel
theorem dL_law_758 : decode cL_law 758 = .ok (.aload_n 0, 1) := by decide +kernel
theorem dL_law_759 : decode cL_law 759 = .ok (.iload 4, 2) := by decide +kernel
theorem dL_law_761 : decode cL_law 761 = .ok (.iconst 1, 1) := by decide +kernel
theorem dL_law_762 : decode cL_law 762 = .ok (.iadd, 1) := by decide +kernel
theorem dL_law_763 : decode cL_law 763 = .ok (.iaload, 1) := by decide +kernel
theorem dL_law_764 : decode cL_law 764 = .ok (.aload_n 0, 1) := by decide +kernel
theorem dL_law_765 : decode cL_law 765 = .ok (.iload 4, 2) := by decide +kernel
theorem dL_law_767 : decode cL_law 767 = .ok (.iconst 2, 1) := by decide +kernel
theorem dL_law_768 : decode cL_law 768 = .ok (.iadd, 1) := by decide +kernel
theorem dL_law_769 : decode cL_law 769 = .ok (.iaload, 1) := by decide +kernel
theorem dL_law_770 : decode cL_law 770 = .ok (.invokevirtual 90, 3) := by decide +kernel
theorem dL_law_773 : decode cL_law 773 = .ok (.if_icmp .eq 330, 3) := by decide +kernel
theorem dL_law_776 : decode cL_law 776 = .ok (.iconst 0, 1) := by decide +kernel
theorem dL_law_777 : decode cL_law 777 = .ok (.ireturn, 1) := by decide +kernel
theorem dL_law_778 : decode cL_law 778 = .ok (.aload_n 1, 1) := by decide +kernel
theorem dL_law_779 : decode cL_law 779 = .ok (.aload_n 0, 1) := by decide +kernel
theorem dL_law_780 : decode cL_law 780 = .ok (.iload 4, 2) := by decide +kernel
theorem dL_law_782 : decode cL_law 782 = .ok (.iconst 1, 1) := by decide +kernel
theorem dL_law_783 : decode cL_law 783 = .ok (.iadd, 1) := by decide +kernel
theorem dL_law_784 : decode cL_law 784 = .ok (.iaload, 1) := by decide +kernel
theorem dL_law_785 : decode cL_law 785 = .ok (.aload_n 0, 1) := by decide +kernel
theorem dL_law_786 : decode cL_law 786 = .ok (.iload 4, 2) := by decide +kernel
theorem dL_law_788 : decode cL_law 788 = .ok (.iconst 2, 1) := by decide +kernel
theorem dL_law_789 : decode cL_law 789 = .ok (.iadd, 1) := by decide +kernel
theorem dL_law_790 : decode cL_law 790 = .ok (.iaload, 1) := by decide +kernel
theorem dL_law_791 : decode cL_law 791 = .ok (.invokevirtual 91, 3) := by decide +kernel
theorem dL_law_794 : decode cL_law 794 = .ok (.aload_n 2, 1) := by decide +kernel
theorem dL_law_795 : decode cL_law 795 = .ok (.aload_n 0, 1) := by decide +kernel
theorem dL_law_796 : decode cL_law 796 = .ok (.iload 4, 2) := by decide +kernel
theorem dL_law_798 : decode cL_law 798 = .ok (.iconst 1, 1) := by decide +kernel
theorem dL_law_799 : decode cL_law 799 = .ok (.iadd, 1) := by decide +kernel
theorem dL_law_800 : decode cL_law 800 = .ok (.iaload, 1) := by decide +kernel
theorem dL_law_801 : decode cL_law 801 = .ok (.aload_n 0, 1) := by decide +kernel
theorem dL_law_802 : decode cL_law 802 = .ok (.iload 4, 2) := by decide +kernel
theorem dL_law_804 : decode cL_law 804 = .ok (.iconst 2, 1) := by decide +kernel
theorem dL_law_805 : decode cL_law 805 = .ok (.iadd, 1) := by decide +kernel
theorem dL_law_806 : decode cL_law 806 = .ok (.iaload, 1) := by decide +kernel
theorem dL_law_807 : decode cL_law 807 = .ok (.invokevirtual 94, 3) := by decide +kernel
theorem dL_law_810 : decode cL_law 810 = .ok (.if_icmp .eq 293, 3) := by decide +kernel
theorem dL_law_813 : decode cL_law 813 = .ok (.iconst 0, 1) := by decide +kernel
theorem dL_law_814 : decode cL_law 814 = .ok (.ireturn, 1) := by decide +kernel
theorem dL_law_815 : decode cL_law 815 = .ok (.aload_n 1, 1) := by decide +kernel
theorem dL_law_816 : decode cL_law 816 = .ok (.aload_n 0, 1) := by decide +kernel
theorem dL_law_817 : decode cL_law 817 = .ok (.iload 4, 2) := by decide +kernel
theorem dL_law_819 : decode cL_law 819 = .ok (.iconst 1, 1) := by decide +kernel
theorem dL_law_820 : decode cL_law 820 = .ok (.iadd, 1) := by decide +kernel
theorem dL_law_821 : decode cL_law 821 = .ok (.iaload, 1) := by decide +kernel
theorem dL_law_822 : decode cL_law 822 = .ok (.aload_n 0, 1) := by decide +kernel
theorem dL_law_823 : decode cL_law 823 = .ok (.iload 4, 2) := by decide +kernel
theorem dL_law_825 : decode cL_law 825 = .ok (.iconst 2, 1) := by decide +kernel
theorem dL_law_826 : decode cL_law 826 = .ok (.iadd, 1) := by decide +kernel
theorem dL_law_827 : decode cL_law 827 = .ok (.iaload, 1) := by decide +kernel
theorem dL_law_828 : decode cL_law 828 = .ok (.invokevirtual 95, 3) := by decide +kernel
theorem dL_law_831 : decode cL_law 831 = .ok (.aload_n 2, 1) := by decide +kernel
theorem dL_law_832 : decode cL_law 832 = .ok (.aload_n 0, 1) := by decide +kernel
theorem dL_law_833 : decode cL_law 833 = .ok (.iload 4, 2) := by decide +kernel
theorem dL_law_835 : decode cL_law 835 = .ok (.iconst 1, 1) := by decide +kernel
theorem dL_law_836 : decode cL_law 836 = .ok (.iadd, 1) := by decide +kernel
theorem dL_law_837 : decode cL_law 837 = .ok (.iaload, 1) := by decide +kernel
theorem dL_law_838 : decode cL_law 838 = .ok (.aload_n 0, 1) := by decide +kernel
theorem dL_law_839 : decode cL_law 839 = .ok (.iload 4, 2) := by decide +kernel
theorem dL_law_841 : decode cL_law 841 = .ok (.iconst 2, 1) := by decide +kernel
theorem dL_law_842 : decode cL_law 842 = .ok (.iadd, 1) := by decide +kernel
theorem dL_law_843 : decode cL_law 843 = .ok (.iaload, 1) := by decide +kernel
theorem dL_law_844 : decode cL_law 844 = .ok (.invokevirtual 98, 3) := by decide +kernel
theorem dL_law_847 : decode cL_law 847 = .ok (.if_icmp .eq 256, 3) := by decide +kernel
theorem dL_law_850 : decode cL_law 850 = .ok (.iconst 0, 1) := by decide +kernel
theorem dL_law_851 : decode cL_law 851 = .ok (.ireturn, 1) := by decide +kernel
theorem dL_law_852 : decode cL_law 852 = .ok (.aload_n 1, 1) := by decide +kernel
theorem dL_law_853 : decode cL_law 853 = .ok (.aload_n 0, 1) := by decide +kernel
theorem dL_law_854 : decode cL_law 854 = .ok (.iload 4, 2) := by decide +kernel
theorem dL_law_856 : decode cL_law 856 = .ok (.iconst 1, 1) := by decide +kernel
theorem dL_law_857 : decode cL_law 857 = .ok (.iadd, 1) := by decide +kernel
theorem dL_law_858 : decode cL_law 858 = .ok (.iaload, 1) := by decide +kernel
theorem dL_law_859 : decode cL_law 859 = .ok (.aload_n 0, 1) := by decide +kernel
theorem dL_law_860 : decode cL_law 860 = .ok (.iload 4, 2) := by decide +kernel
theorem dL_law_862 : decode cL_law 862 = .ok (.iconst 2, 1) := by decide +kernel
theorem dL_law_863 : decode cL_law 863 = .ok (.iadd, 1) := by decide +kernel
theorem dL_law_864 : decode cL_law 864 = .ok (.iaload, 1) := by decide +kernel
theorem dL_law_865 : decode cL_law 865 = .ok (.ifCond .eq 7, 3) := by decide +kernel
theorem dL_law_868 : decode cL_law 868 = .ok (.iconst 1, 1) := by decide +kernel
theorem dL_law_869 : decode cL_law 869 = .ok (.goto 4, 3) := by decide +kernel
theorem dL_law_872 : decode cL_law 872 = .ok (.iconst 0, 1) := by decide +kernel
theorem dL_law_873 : decode cL_law 873 = .ok (.invokevirtual 99, 3) := by decide +kernel
theorem dL_law_876 : decode cL_law 876 = .ok (.aload_n 2, 1) := by decide +kernel
theorem dL_law_877 : decode cL_law 877 = .ok (.aload_n 0, 1) := by decide +kernel
theorem dL_law_878 : decode cL_law 878 = .ok (.iload 4, 2) := by decide +kernel
theorem dL_law_880 : decode cL_law 880 = .ok (.iconst 1, 1) := by decide +kernel
theorem dL_law_881 : decode cL_law 881 = .ok (.iadd, 1) := by decide +kernel
theorem dL_law_882 : decode cL_law 882 = .ok (.iaload, 1) := by decide +kernel
theorem dL_law_883 : decode cL_law 883 = .ok (.aload_n 0, 1) := by decide +kernel
theorem dL_law_884 : decode cL_law 884 = .ok (.iload 4, 2) := by decide +kernel
theorem dL_law_886 : decode cL_law 886 = .ok (.iconst 2, 1) := by decide +kernel
theorem dL_law_887 : decode cL_law 887 = .ok (.iadd, 1) := by decide +kernel
theorem dL_law_888 : decode cL_law 888 = .ok (.iaload, 1) := by decide +kernel
theorem dL_law_889 : decode cL_law 889 = .ok (.ifCond .eq 7, 3) := by decide +kernel
theorem dL_law_892 : decode cL_law 892 = .ok (.iconst 1, 1) := by decide +kernel
theorem dL_law_893 : decode cL_law 893 = .ok (.goto 4, 3) := by decide +kernel
theorem dL_law_896 : decode cL_law 896 = .ok (.iconst 0, 1) := by decide +kernel
theorem dL_law_897 : decode cL_law 897 = .ok (.invokevirtual 103, 3) := by decide +kernel
theorem dL_law_900 : decode cL_law 900 = .ok (.if_icmp .eq 203, 3) := by decide +kernel
theorem dL_law_903 : decode cL_law 903 = .ok (.iconst 0, 1) := by decide +kernel
theorem dL_law_904 : decode cL_law 904 = .ok (.ireturn, 1) := by decide +kernel
theorem dL_law_905 : decode cL_law 905 = .ok (.aload_n 1, 1) := by decide +kernel
theorem dL_law_906 : decode cL_law 906 = .ok (.aload_n 0, 1) := by decide +kernel
theorem dL_law_907 : decode cL_law 907 = .ok (.iload 4, 2) := by decide +kernel
theorem dL_law_909 : decode cL_law 909 = .ok (.iconst 1, 1) := by decide +kernel
theorem dL_law_910 : decode cL_law 910 = .ok (.iadd, 1) := by decide +kernel
theorem dL_law_911 : decode cL_law 911 = .ok (.iaload, 1) := by decide +kernel
theorem dL_law_912 : decode cL_law 912 = .ok (.aload_n 0, 1) := by decide +kernel
theorem dL_law_913 : decode cL_law 913 = .ok (.iload 4, 2) := by decide +kernel
theorem dL_law_915 : decode cL_law 915 = .ok (.iconst 2, 1) := by decide +kernel
theorem dL_law_916 : decode cL_law 916 = .ok (.iadd, 1) := by decide +kernel
theorem dL_law_917 : decode cL_law 917 = .ok (.iaload, 1) := by decide +kernel
theorem dL_law_918 : decode cL_law 918 = .ok (.aload_n 0, 1) := by decide +kernel
theorem dL_law_919 : decode cL_law 919 = .ok (.iload 4, 2) := by decide +kernel
theorem dL_law_921 : decode cL_law 921 = .ok (.iconst 3, 1) := by decide +kernel
theorem dL_law_922 : decode cL_law 922 = .ok (.iadd, 1) := by decide +kernel
theorem dL_law_923 : decode cL_law 923 = .ok (.iaload, 1) := by decide +kernel
theorem dL_law_924 : decode cL_law 924 = .ok (.invokevirtual 104, 3) := by decide +kernel
theorem dL_law_927 : decode cL_law 927 = .ok (.aload_n 2, 1) := by decide +kernel
theorem dL_law_928 : decode cL_law 928 = .ok (.aload_n 0, 1) := by decide +kernel
theorem dL_law_929 : decode cL_law 929 = .ok (.iload 4, 2) := by decide +kernel
theorem dL_law_931 : decode cL_law 931 = .ok (.iconst 1, 1) := by decide +kernel
theorem dL_law_932 : decode cL_law 932 = .ok (.iadd, 1) := by decide +kernel
theorem dL_law_933 : decode cL_law 933 = .ok (.iaload, 1) := by decide +kernel
theorem dL_law_934 : decode cL_law 934 = .ok (.aload_n 0, 1) := by decide +kernel
theorem dL_law_935 : decode cL_law 935 = .ok (.iload 4, 2) := by decide +kernel
theorem dL_law_937 : decode cL_law 937 = .ok (.iconst 2, 1) := by decide +kernel
theorem dL_law_938 : decode cL_law 938 = .ok (.iadd, 1) := by decide +kernel
theorem dL_law_939 : decode cL_law 939 = .ok (.iaload, 1) := by decide +kernel
theorem dL_law_940 : decode cL_law 940 = .ok (.aload_n 0, 1) := by decide +kernel
theorem dL_law_941 : decode cL_law 941 = .ok (.iload 4, 2) := by decide +kernel
theorem dL_law_943 : decode cL_law 943 = .ok (.iconst 3, 1) := by decide +kernel
theorem dL_law_944 : decode cL_law 944 = .ok (.iadd, 1) := by decide +kernel
theorem dL_law_945 : decode cL_law 945 = .ok (.iaload, 1) := by decide +kernel
theorem dL_law_946 : decode cL_law 946 = .ok (.invokevirtual 107, 3) := by decide +kernel
theorem dL_law_949 : decode cL_law 949 = .ok (.if_icmp .eq 154, 3) := by decide +kernel
theorem dL_law_952 : decode cL_law 952 = .ok (.iconst 0, 1) := by decide +kernel
theorem dL_law_953 : decode cL_law 953 = .ok (.ireturn, 1) := by decide +kernel
theorem dL_law_954 : decode cL_law 954 = .ok (.aload_n 1, 1) := by decide +kernel
theorem dL_law_955 : decode cL_law 955 = .ok (.aload_n 0, 1) := by decide +kernel
theorem dL_law_956 : decode cL_law 956 = .ok (.iload 4, 2) := by decide +kernel
theorem dL_law_958 : decode cL_law 958 = .ok (.iconst 1, 1) := by decide +kernel
theorem dL_law_959 : decode cL_law 959 = .ok (.iadd, 1) := by decide +kernel
theorem dL_law_960 : decode cL_law 960 = .ok (.iaload, 1) := by decide +kernel
theorem dL_law_961 : decode cL_law 961 = .ok (.aload_n 0, 1) := by decide +kernel
theorem dL_law_962 : decode cL_law 962 = .ok (.iload 4, 2) := by decide +kernel
theorem dL_law_964 : decode cL_law 964 = .ok (.iconst 2, 1) := by decide +kernel
theorem dL_law_965 : decode cL_law 965 = .ok (.iadd, 1) := by decide +kernel
theorem dL_law_966 : decode cL_law 966 = .ok (.iaload, 1) := by decide +kernel
theorem dL_law_967 : decode cL_law 967 = .ok (.aload_n 0, 1) := by decide +kernel
theorem dL_law_968 : decode cL_law 968 = .ok (.iload 4, 2) := by decide +kernel
theorem dL_law_970 : decode cL_law 970 = .ok (.iconst 3, 1) := by decide +kernel
theorem dL_law_971 : decode cL_law 971 = .ok (.iadd, 1) := by decide +kernel
theorem dL_law_972 : decode cL_law 972 = .ok (.iaload, 1) := by decide +kernel
theorem dL_law_973 : decode cL_law 973 = .ok (.invokevirtual 108, 3) := by decide +kernel
theorem dL_law_976 : decode cL_law 976 = .ok (.aload_n 2, 1) := by decide +kernel
theorem dL_law_977 : decode cL_law 977 = .ok (.aload_n 0, 1) := by decide +kernel
theorem dL_law_978 : decode cL_law 978 = .ok (.iload 4, 2) := by decide +kernel
theorem dL_law_980 : decode cL_law 980 = .ok (.iconst 1, 1) := by decide +kernel
theorem dL_law_981 : decode cL_law 981 = .ok (.iadd, 1) := by decide +kernel
theorem dL_law_982 : decode cL_law 982 = .ok (.iaload, 1) := by decide +kernel
theorem dL_law_983 : decode cL_law 983 = .ok (.aload_n 0, 1) := by decide +kernel
theorem dL_law_984 : decode cL_law 984 = .ok (.iload 4, 2) := by decide +kernel
theorem dL_law_986 : decode cL_law 986 = .ok (.iconst 2, 1) := by decide +kernel
theorem dL_law_987 : decode cL_law 987 = .ok (.iadd, 1) := by decide +kernel
theorem dL_law_988 : decode cL_law 988 = .ok (.iaload, 1) := by decide +kernel
theorem dL_law_989 : decode cL_law 989 = .ok (.aload_n 0, 1) := by decide +kernel
theorem dL_law_990 : decode cL_law 990 = .ok (.iload 4, 2) := by decide +kernel
theorem dL_law_992 : decode cL_law 992 = .ok (.iconst 3, 1) := by decide +kernel
theorem dL_law_993 : decode cL_law 993 = .ok (.iadd, 1) := by decide +kernel
theorem dL_law_994 : decode cL_law 994 = .ok (.iaload, 1) := by decide +kernel
theorem dL_law_995 : decode cL_law 995 = .ok (.invokevirtual 111, 3) := by decide +kernel
theorem dL_law_998 : decode cL_law 998 = .ok (.if_icmp .eq 105, 3) := by decide +kernel
theorem dL_law_1001 : decode cL_law 1001 = .ok (.iconst 0, 1) := by decide +kernel
theorem dL_law_1002 : decode cL_law 1002 = .ok (.ireturn, 1) := by decide +kernel
theorem dL_law_1003 : decode cL_law 1003 = .ok (.aload_n 1, 1) := by decide +kernel
theorem dL_law_1004 : decode cL_law 1004 = .ok (.aload_n 0, 1) := by decide +kernel
theorem dL_law_1005 : decode cL_law 1005 = .ok (.iload 4, 2) := by decide +kernel
theorem dL_law_1007 : decode cL_law 1007 = .ok (.iconst 1, 1) := by decide +kernel
theorem dL_law_1008 : decode cL_law 1008 = .ok (.iadd, 1) := by decide +kernel
theorem dL_law_1009 : decode cL_law 1009 = .ok (.iaload, 1) := by decide +kernel
theorem dL_law_1010 : decode cL_law 1010 = .ok (.invokevirtual 112, 3) := by decide +kernel
theorem dL_law_1013 : decode cL_law 1013 = .ok (.aload_n 2, 1) := by decide +kernel
theorem dL_law_1014 : decode cL_law 1014 = .ok (.aload_n 0, 1) := by decide +kernel
theorem dL_law_1015 : decode cL_law 1015 = .ok (.iload 4, 2) := by decide +kernel
theorem dL_law_1017 : decode cL_law 1017 = .ok (.iconst 1, 1) := by decide +kernel
theorem dL_law_1018 : decode cL_law 1018 = .ok (.iadd, 1) := by decide +kernel
theorem dL_law_1019 : decode cL_law 1019 = .ok (.iaload, 1) := by decide +kernel
theorem dL_law_1020 : decode cL_law 1020 = .ok (.invokevirtual 115, 3) := by decide +kernel
theorem dL_law_1023 : decode cL_law 1023 = .ok (.if_icmp .eq 80, 3) := by decide +kernel
theorem dL_law_1026 : decode cL_law 1026 = .ok (.iconst 0, 1) := by decide +kernel
theorem dL_law_1027 : decode cL_law 1027 = .ok (.ireturn, 1) := by decide +kernel
theorem dL_law_1028 : decode cL_law 1028 = .ok (.aload_n 1, 1) := by decide +kernel
theorem dL_law_1029 : decode cL_law 1029 = .ok (.aload_n 0, 1) := by decide +kernel
theorem dL_law_1030 : decode cL_law 1030 = .ok (.iload 4, 2) := by decide +kernel
theorem dL_law_1032 : decode cL_law 1032 = .ok (.iconst 1, 1) := by decide +kernel
theorem dL_law_1033 : decode cL_law 1033 = .ok (.iadd, 1) := by decide +kernel
theorem dL_law_1034 : decode cL_law 1034 = .ok (.iaload, 1) := by decide +kernel
theorem dL_law_1035 : decode cL_law 1035 = .ok (.invokevirtual 116, 3) := by decide +kernel
theorem dL_law_1038 : decode cL_law 1038 = .ok (.aload_n 2, 1) := by decide +kernel
theorem dL_law_1039 : decode cL_law 1039 = .ok (.aload_n 0, 1) := by decide +kernel
theorem dL_law_1040 : decode cL_law 1040 = .ok (.iload 4, 2) := by decide +kernel
theorem dL_law_1042 : decode cL_law 1042 = .ok (.iconst 1, 1) := by decide +kernel
theorem dL_law_1043 : decode cL_law 1043 = .ok (.iadd, 1) := by decide +kernel
theorem dL_law_1044 : decode cL_law 1044 = .ok (.iaload, 1) := by decide +kernel
theorem dL_law_1045 : decode cL_law 1045 = .ok (.invokevirtual 119, 3) := by decide +kernel
theorem dL_law_1048 : decode cL_law 1048 = .ok (.if_icmp .eq 55, 3) := by decide +kernel
theorem dL_law_1051 : decode cL_law 1051 = .ok (.iconst 0, 1) := by decide +kernel
theorem dL_law_1052 : decode cL_law 1052 = .ok (.ireturn, 1) := by decide +kernel
theorem dL_law_1053 : decode cL_law 1053 = .ok (.aload_n 1, 1) := by decide +kernel
theorem dL_law_1054 : decode cL_law 1054 = .ok (.aload_n 0, 1) := by decide +kernel
theorem dL_law_1055 : decode cL_law 1055 = .ok (.iload 4, 2) := by decide +kernel
theorem dL_law_1057 : decode cL_law 1057 = .ok (.iconst 1, 1) := by decide +kernel
theorem dL_law_1058 : decode cL_law 1058 = .ok (.iadd, 1) := by decide +kernel
theorem dL_law_1059 : decode cL_law 1059 = .ok (.iaload, 1) := by decide +kernel
theorem dL_law_1060 : decode cL_law 1060 = .ok (.aload_n 0, 1) := by decide +kernel
theorem dL_law_1061 : decode cL_law 1061 = .ok (.iload 4, 2) := by decide +kernel
theorem dL_law_1063 : decode cL_law 1063 = .ok (.iconst 2, 1) := by decide +kernel
theorem dL_law_1064 : decode cL_law 1064 = .ok (.iadd, 1) := by decide +kernel
theorem dL_law_1065 : decode cL_law 1065 = .ok (.iaload, 1) := by decide +kernel
theorem dL_law_1066 : decode cL_law 1066 = .ok (.invokevirtual 120, 3) := by decide +kernel
theorem dL_law_1069 : decode cL_law 1069 = .ok (.aload_n 2, 1) := by decide +kernel
theorem dL_law_1070 : decode cL_law 1070 = .ok (.aload_n 0, 1) := by decide +kernel
theorem dL_law_1071 : decode cL_law 1071 = .ok (.iload 4, 2) := by decide +kernel
theorem dL_law_1073 : decode cL_law 1073 = .ok (.iconst 1, 1) := by decide +kernel
theorem dL_law_1074 : decode cL_law 1074 = .ok (.iadd, 1) := by decide +kernel
theorem dL_law_1075 : decode cL_law 1075 = .ok (.iaload, 1) := by decide +kernel
theorem dL_law_1076 : decode cL_law 1076 = .ok (.aload_n 0, 1) := by decide +kernel
theorem dL_law_1077 : decode cL_law 1077 = .ok (.iload 4, 2) := by decide +kernel
theorem dL_law_1079 : decode cL_law 1079 = .ok (.iconst 2, 1) := by decide +kernel
theorem dL_law_1080 : decode cL_law 1080 = .ok (.iadd, 1) := by decide +kernel
theorem dL_law_1081 : decode cL_law 1081 = .ok (.iaload, 1) := by decide +kernel
theorem dL_law_1082 : decode cL_law 1082 = .ok (.invokevirtual 123, 3) := by decide +kernel
theorem dL_law_1085 : decode cL_law 1085 = .ok (.if_icmp .eq 18, 3) := by decide +kernel
theorem dL_law_1088 : decode cL_law 1088 = .ok (.iconst 0, 1) := by decide +kernel
theorem dL_law_1089 : decode cL_law 1089 = .ok (.ireturn, 1) := by decide +kernel
theorem dL_law_1090 : decode cL_law 1090 = .ok (.aload_n 1, 1) := by decide +kernel
theorem dL_law_1091 : decode cL_law 1091 = .ok (.invokevirtual 124, 3) := by decide +kernel
theorem dL_law_1094 : decode cL_law 1094 = .ok (.aload_n 2, 1) := by decide +kernel
theorem dL_law_1095 : decode cL_law 1095 = .ok (.invokevirtual 127, 3) := by decide +kernel
theorem dL_law_1098 : decode cL_law 1098 = .ok (.if_icmp .eq 5, 3) := by decide +kernel
theorem dL_law_1101 : decode cL_law 1101 = .ok (.iconst 0, 1) := by decide +kernel
theorem dL_law_1102 : decode cL_law 1102 = .ok (.ireturn, 1) := by decide +kernel
theorem dL_law_1103 : decode cL_law 1103 = .ok (.iinc 4 6, 3) := by decide +kernel
theorem dL_law_1106 : decode cL_law 1106 = .ok (.goto (-1083), 3) := by decide +kernel
theorem dL_law_1109 : decode cL_law 1109 = .ok (.iconst 1, 1) := by decide +kernel
theorem dL_law_1110 : decode cL_law 1110 = .ok (.ireturn, 1) := by decide +kernel
end
section
/-! The words that every contract takes: those of lw_tbl that stay. -/
def wT : List Cond := lw_tbl.filter goodWord
theorem wT_in {w : Cond} (h : w ∈ wT) : w ∈ lw_tbl := (List.mem_filter.mp h).1
theorem wT_good {w : Cond} (h : w ∈ wT) : (w.onTables && w.keeps) = true ∨ ∃ ty, w = .arrayClass ty := good_of_word (List.mem_filter.mp h).2
theorem wT_goodIn {c : Cond} (h : c ∈ wT) : GoodIn wT (c :: wT) := fun w hw => by
  rcases List.mem_cons.mp hw with e | hw
  · rw [e]; exact ⟨h, wT_good h⟩
  · exact ⟨hw, wT_good hw⟩
theorem wT_0 {w : Cond} (h : w ∈ k2_sels lw_privs) (g : goodWord w = true) : w ∈ wT := List.mem_filter.mpr ⟨List.mem_append_left _ h, g⟩
theorem wT_1 {w : Cond} (h : w ∈ tables_1_1) (g : goodWord w = true) : w ∈ wT := List.mem_filter.mpr ⟨List.mem_append_right _ (List.mem_append_left _ h), g⟩
theorem wT_2 {w : Cond} (h : w ∈ tables_1_2) (g : goodWord w = true) : w ∈ wT := List.mem_filter.mpr ⟨List.mem_append_right _ (List.mem_append_right _ (List.mem_append_left _ h)), g⟩
theorem wT_3 {w : Cond} (h : w ∈ tables_1_3) (g : goodWord w = true) : w ∈ wT := List.mem_filter.mpr ⟨List.mem_append_right _ (List.mem_append_right _ (List.mem_append_right _ (List.mem_append_left _ h))), g⟩
theorem wT_4 {w : Cond} (h : w ∈ tables_1_4) (g : goodWord w = true) : w ∈ wT := List.mem_filter.mpr ⟨List.mem_append_right _ (List.mem_append_right _ (List.mem_append_right _ (List.mem_append_right _ (List.mem_append_left _ h)))), g⟩
theorem wT_5 {w : Cond} (h : w ∈ tables_1_5) (g : goodWord w = true) : w ∈ wT := List.mem_filter.mpr ⟨List.mem_append_right _ (List.mem_append_right _ (List.mem_append_right _ (List.mem_append_right _ (List.mem_append_right _ h)))), g⟩
/-! The judgement G: from a place of a method's code, with a state S of the side's world, the locals lv and the stack st. -/
abbrev Ctx : Type := Program × Launch × Env × Room × State × MethodId × Array Value × List Frame × Method × Code × (Nat → Prop) × Nat × (State → Prop)
abbrev kp (K : Ctx) : Program := K.1
abbrev kl (K : Ctx) : Launch := K.2.1
abbrev ke (K : Ctx) : Env := K.2.2.1
abbrev kR (K : Ctx) : Room := K.2.2.2.1
abbrev ks (K : Ctx) : State := K.2.2.2.2.1
abbrev km (K : Ctx) : MethodId := K.2.2.2.2.2.1
abbrev ka (K : Ctx) : Array Value := K.2.2.2.2.2.2.1
abbrev kb (K : Ctx) : List Frame := K.2.2.2.2.2.2.2.1
abbrev kh (K : Ctx) : Method := K.2.2.2.2.2.2.2.2.1
abbrev kc (K : Ctx) : Code := K.2.2.2.2.2.2.2.2.2.1
abbrev kA (K : Ctx) : Nat → Prop := K.2.2.2.2.2.2.2.2.2.2.1
abbrev kn (K : Ctx) : Nat := K.2.2.2.2.2.2.2.2.2.2.2.1
abbrev kQ (K : Ctx) : State → Prop := K.2.2.2.2.2.2.2.2.2.2.2.2
def G {σ : Type} (K : Ctx) (X : σ → Heap → Prop) (cs sl pc : Nat) (S : σ) (lv : List (Nat × Value)) (st : List Value) : Prop :=
  ∀ (H : Heap) (locs : List Loc) (ls : Array Slot), X S H → va_S (kA K) (ks K).heap H locs → lv_has ls (kn K) lv → W (kp K) (kl K) (ke K) (kR K) (ks K) (km K) (ka K) (kb K) (kh K) (kc K) H locs cs sl (kQ K) (F0 (km K) pc ls st)
def Fx (K : Ctx) (cc : ByteArray) (own : String) (Kf : State → Prop) (fr lo : Nat) : Prop :=
  (kp K).tables.exec = Jvm.exec ∧ (kc K).code = cc ∧ (kc K).maxLocals = kn K ∧ (ks K).vm.findClass own = some (km K).cls ∧ (∀ w ∈ wT, w.before (ka K) (ks K) = true) ∧ Kf (ks K) ∧ (∀ q, (ks K).heap.size ≤ q → kA K q) ∧ fr ≤ (kR K).frames ∧ lo ≤ (kR K).locals
/-- what a side's facts of the tables and constants must bear: a call's frame, and what a walk has done -/
def KfOk (A : Nat → Prop) (Kf : State → Prop) : Prop := (∀ (U : State) (g : JFrame) (mk : MethodId) (a : Array Value), Kf U → Kf (U.calling g mk a)) ∧ ∀ (s U : State) (locs : List Loc), Kf s → s.WarmedH U.vm → va_S A s.heap U.heap locs → Kf U
def bI : Bool → Int32
  | true => 1
  | false => 0
theorem bI_narrow (b : Bool) : narrow .boolean (.int (bI b)) = .int (bI b) := by cases b <;> decide +kernel
theorem bI_fits (b : Bool) : fits .boolean (.int (bI b)) = true := by cases b <;> decide +kernel
theorem bI_0 {b : Bool} : bI b = 0 ↔ b = false := by cases b <;> decide
abbrev ok (i : Int32) (n : Nat) : Prop := ¬ (i < 0 ∨ n ≤ i.toNatClampNeg)
section Rows
variable {σ : Type} {K : Ctx} {X : σ → Heap → Prop} {cs sl pc : Nat} {S : σ} {lv : List (Nat × Value)} {st : List Value} {cc : ByteArray} {own : String} {Kf : State → Prop} {fr lo : Nat} {α : Type} {a b q : α}
theorem G.lvs {lv' : List (Nat × Value)} (is : List Nat) (h : lv_pick lv is = lv') (k : G K X cs sl pc S lv' st) : G K X cs sl pc S lv st := fun H locs ls hX hS hl => k H locs ls hX hS (lv_sub hl is h)
theorem g_iconst (n : Nat) {k : Int} {v : Int32} (F : Fx K cc own Kf fr lo) (d : decode cc pc = .ok (.iconst k, 1)) (hv : Int32.ofInt k = v) (hn : pc + 1 = n) (kk : G K X cs sl n S lv (.int v :: st)) : G K X cs sl pc S lv st := by
  subst hn; exact fun H locs ls hX hS hl => lv_iconst F.1 F.2.1 d hv (kk H locs ls hX hS hl)
theorem g_bipush (n : Nat) {k : Int} {v : Int32} (F : Fx K cc own Kf fr lo) (d : decode cc pc = .ok (.bipush k, 2)) (hv : (Int8.ofInt k).toInt32 = v) (hn : pc + 2 = n) (kk : G K X cs sl n S lv (.int v :: st)) : G K X cs sl pc S lv st := by
  subst hn; exact fun H locs ls hX hS hl => lv_bipush F.1 F.2.1 d hv (kk H locs ls hX hS hl)
theorem g_sipush (n : Nat) {k : Int} {v : Int32} (F : Fx K cc own Kf fr lo) (d : decode cc pc = .ok (.sipush k, 3)) (hv : (Int16.ofInt k).toInt32 = v) (hn : pc + 3 = n) (kk : G K X cs sl n S lv (.int v :: st)) : G K X cs sl pc S lv st := by
  subst hn; exact fun H locs ls hX hS hl => lv_sipush F.1 F.2.1 d hv (kk H locs ls hX hS hl)
theorem g_lconst (n : Nat) {k : Fin 2} {v : Int64} (F : Fx K cc own Kf fr lo) (d : decode cc pc = .ok (.lconst k, 1)) (hv : Int64.ofNat (k : Nat) = v) (hn : pc + 1 = n) (kk : G K X cs sl n S lv (.long v :: st)) : G K X cs sl pc S lv st := by
  subst hn; exact fun H locs ls hX hS hl => lv_lconst F.1 F.2.1 d hv (kk H locs ls hX hS hl)
theorem g_ldc (n : Nat) {idx : Nat} {v : Int32} (F : Fx K cc own Kf fr lo) (hw : Cond.constant own idx v ∈ wT) (d : decode cc pc = .ok (.ldc idx, 2)) (hn : pc + 2 = n) (kk : G K X cs sl n S lv (.int v :: st)) : G K X cs sl pc S lv st := by
  subst hn; exact fun H locs ls hX hS hl => lv_ldc F.1 F.2.1 F.2.2.2.1 (F.2.2.2.2.1 _ hw) d (kk H locs ls hX hS hl)
theorem g_ldcw (n : Nat) {idx : Nat} {v : Int32} (F : Fx K cc own Kf fr lo) (hw : Cond.constant own idx v ∈ wT) (d : decode cc pc = .ok (.ldc_w idx, 3)) (hn : pc + 3 = n) (kk : G K X cs sl n S lv (.int v :: st)) : G K X cs sl pc S lv st := by
  subst hn; exact fun H locs ls hX hS hl => lv_ldcw F.1 F.2.1 F.2.2.2.1 (F.2.2.2.2.1 _ hw) d (kk H locs ls hX hS hl)
theorem g_ldc2 (n : Nat) {idx : Nat} {v : Int64} (F : Fx K cc own Kf fr lo) (hw : Cond.constantLong own idx v ∈ wT) (d : decode cc pc = .ok (.ldc2_w idx, 3)) (hn : pc + 3 = n) (kk : G K X cs sl n S lv (.long v :: st)) : G K X cs sl pc S lv st := by
  subst hn; exact fun H locs ls hX hS hl => lv_ldc2 F.1 F.2.1 F.2.2.2.1 (F.2.2.2.2.1 _ hw) d (kk H locs ls hX hS hl)
theorem g_iload_n (n : Nat) {j : Fin 4} {x : Int32} (k : Nat) (F : Fx K cc own Kf fr lo) (d : decode cc pc = .ok (.iload_n j, 1)) (hk : lv[k]? = some ((j : Nat), .int x)) (hn : pc + 1 = n) (kk : G K X cs sl n S lv (.int x :: st)) : G K X cs sl pc S lv st := by
  subst hn; exact fun H locs ls hX hS hl => lv_iload_n F.1 F.2.1 d rfl (lv_at hl k hk) (kk H locs ls hX hS hl)
theorem g_iload (n : Nat) {j : Nat} {x : Int32} (k : Nat) (F : Fx K cc own Kf fr lo) (d : decode cc pc = .ok (.iload j, 2)) (hk : lv[k]? = some (j, .int x)) (hn : pc + 2 = n) (kk : G K X cs sl n S lv (.int x :: st)) : G K X cs sl pc S lv st := by
  subst hn; exact fun H locs ls hX hS hl => lv_iload F.1 F.2.1 d (lv_at hl k hk) (kk H locs ls hX hS hl)
theorem g_lload_n (n : Nat) {j : Fin 4} {x : Int64} (k : Nat) (F : Fx K cc own Kf fr lo) (d : decode cc pc = .ok (.lload_n j, 1)) (hk : lv[k]? = some ((j : Nat), .long x)) (hn : pc + 1 = n) (kk : G K X cs sl n S lv (.long x :: st)) : G K X cs sl pc S lv st := by
  subst hn; exact fun H locs ls hX hS hl => lv_lload_n F.1 F.2.1 d rfl (lv_at hl k hk) (kk H locs ls hX hS hl)
theorem g_lload (n : Nat) {j : Nat} {x : Int64} (k : Nat) (F : Fx K cc own Kf fr lo) (d : decode cc pc = .ok (.lload j, 2)) (hk : lv[k]? = some (j, .long x)) (hn : pc + 2 = n) (kk : G K X cs sl n S lv (.long x :: st)) : G K X cs sl pc S lv st := by
  subst hn; exact fun H locs ls hX hS hl => lv_lload F.1 F.2.1 d (lv_at hl k hk) (kk H locs ls hX hS hl)
theorem g_aload_n (n : Nat) {j : Fin 4} {x : Nat} (k : Nat) (F : Fx K cc own Kf fr lo) (d : decode cc pc = .ok (.aload_n j, 1)) (hk : lv[k]? = some ((j : Nat), .ref x)) (hn : pc + 1 = n) (kk : G K X cs sl n S lv (.ref x :: st)) : G K X cs sl pc S lv st := by
  subst hn; exact fun H locs ls hX hS hl => lv_aload_n F.1 F.2.1 d rfl (lv_at hl k hk) (kk H locs ls hX hS hl)
theorem g_aload (n : Nat) {j : Nat} {x : Nat} (k : Nat) (F : Fx K cc own Kf fr lo) (d : decode cc pc = .ok (.aload j, 2)) (hk : lv[k]? = some (j, .ref x)) (hn : pc + 2 = n) (kk : G K X cs sl n S lv (.ref x :: st)) : G K X cs sl pc S lv st := by
  subst hn; exact fun H locs ls hX hS hl => lv_aload F.1 F.2.1 d (lv_at hl k hk) (kk H locs ls hX hS hl)
theorem g_aload_nN (n : Nat) {j : Fin 4} (k : Nat) (F : Fx K cc own Kf fr lo) (d : decode cc pc = .ok (.aload_n j, 1)) (hk : lv[k]? = some ((j : Nat), .null)) (hn : pc + 1 = n) (kk : G K X cs sl n S lv (.null :: st)) : G K X cs sl pc S lv st := by
  subst hn; exact fun H locs ls hX hS hl => lv_aload_nN F.1 F.2.1 d rfl (lv_at hl k hk) (kk H locs ls hX hS hl)
theorem g_aloadN (n : Nat) {j : Nat} (k : Nat) (F : Fx K cc own Kf fr lo) (d : decode cc pc = .ok (.aload j, 2)) (hk : lv[k]? = some (j, .null)) (hn : pc + 2 = n) (kk : G K X cs sl n S lv (.null :: st)) : G K X cs sl pc S lv st := by
  subst hn; exact fun H locs ls hX hS hl => lv_aloadN F.1 F.2.1 d (lv_at hl k hk) (kk H locs ls hX hS hl)
theorem g_istore_n (n : Nat) {j : Fin 4} {x : Int32} (lv' : List (Nat × Value)) (F : Fx K cc own Kf fr lo) (d : decode cc pc = .ok (.istore_n j, 1)) (hj : (j : Nat) < kn K) (hl : ((j : Nat), Value.int x) :: lv.filter (fun q => !(q.1 == (j : Nat)) && !(q.1 + 1 == (j : Nat) && q.2.category == 2)) = lv') (hn : pc + 1 = n) (kk : G K X cs sl n S lv' st) : G K X cs sl pc S lv (.int x :: st) := by
  subst hn; exact fun H locs ls hX hS h => lv_istore_n F.1 F.2.1 d rfl h hj hl (fun ls' h' => kk H locs ls' hX hS h')
theorem g_istore (n : Nat) {j : Nat} {x : Int32} (lv' : List (Nat × Value)) (F : Fx K cc own Kf fr lo) (d : decode cc pc = .ok (.istore j, 2)) (hj : j < kn K) (hl : (j, Value.int x) :: lv.filter (fun q => !(q.1 == j) && !(q.1 + 1 == j && q.2.category == 2)) = lv') (hn : pc + 2 = n) (kk : G K X cs sl n S lv' st) : G K X cs sl pc S lv (.int x :: st) := by
  subst hn; exact fun H locs ls hX hS h => lv_istore F.1 F.2.1 d h hj hl (fun ls' h' => kk H locs ls' hX hS h')
theorem g_lstore_n (n : Nat) {j : Fin 4} {x : Int64} (lv' : List (Nat × Value)) (F : Fx K cc own Kf fr lo) (d : decode cc pc = .ok (.lstore_n j, 1)) (hj : (j : Nat) + 1 < kn K) (hl : ((j : Nat), Value.long x) :: lv.filter (fun q => !(q.1 == (j : Nat)) && (!(q.1 == (j : Nat) + 1) && !(q.1 + 1 == (j : Nat) && q.2.category == 2))) = lv') (hn : pc + 1 = n) (kk : G K X cs sl n S lv' st) : G K X cs sl pc S lv (.long x :: st) := by
  subst hn; exact fun H locs ls hX hS h => lv_lstore_n F.1 F.2.1 d rfl h hj hl (fun ls' h' => kk H locs ls' hX hS h')
theorem g_lstore (n : Nat) {j : Nat} {x : Int64} (lv' : List (Nat × Value)) (F : Fx K cc own Kf fr lo) (d : decode cc pc = .ok (.lstore j, 2)) (hj : j + 1 < kn K) (hl : (j, Value.long x) :: lv.filter (fun q => !(q.1 == j) && (!(q.1 == j + 1) && !(q.1 + 1 == j && q.2.category == 2))) = lv') (hn : pc + 2 = n) (kk : G K X cs sl n S lv' st) : G K X cs sl pc S lv (.long x :: st) := by
  subst hn; exact fun H locs ls hX hS h => lv_lstore F.1 F.2.1 d h hj hl (fun ls' h' => kk H locs ls' hX hS h')
theorem g_astore_n (n : Nat) {j : Fin 4} {x : Nat} (lv' : List (Nat × Value)) (F : Fx K cc own Kf fr lo) (d : decode cc pc = .ok (.astore_n j, 1)) (hj : (j : Nat) < kn K) (hl : ((j : Nat), Value.ref x) :: lv.filter (fun q => !(q.1 == (j : Nat)) && !(q.1 + 1 == (j : Nat) && q.2.category == 2)) = lv') (hn : pc + 1 = n) (kk : G K X cs sl n S lv' st) : G K X cs sl pc S lv (.ref x :: st) := by
  subst hn; exact fun H locs ls hX hS h => lv_astore_n F.1 F.2.1 d rfl h hj hl (fun ls' h' => kk H locs ls' hX hS h')
theorem g_astore (n : Nat) {j : Nat} {x : Nat} (lv' : List (Nat × Value)) (F : Fx K cc own Kf fr lo) (d : decode cc pc = .ok (.astore j, 2)) (hj : j < kn K) (hl : (j, Value.ref x) :: lv.filter (fun q => !(q.1 == j) && !(q.1 + 1 == j && q.2.category == 2)) = lv') (hn : pc + 2 = n) (kk : G K X cs sl n S lv' st) : G K X cs sl pc S lv (.ref x :: st) := by
  subst hn; exact fun H locs ls hX hS h => lv_astore F.1 F.2.1 d h hj hl (fun ls' h' => kk H locs ls' hX hS h')
theorem g_astore_nN (n : Nat) {j : Fin 4} (lv' : List (Nat × Value)) (F : Fx K cc own Kf fr lo) (d : decode cc pc = .ok (.astore_n j, 1)) (hj : (j : Nat) < kn K) (hl : ((j : Nat), Value.null) :: lv.filter (fun q => !(q.1 == (j : Nat)) && !(q.1 + 1 == (j : Nat) && q.2.category == 2)) = lv') (hn : pc + 1 = n) (kk : G K X cs sl n S lv' st) : G K X cs sl pc S lv (.null :: st) := by
  subst hn; exact fun H locs ls hX hS h => lv_astore_nN F.1 F.2.1 d rfl h hj hl (fun ls' h' => kk H locs ls' hX hS h')
theorem g_astoreN (n : Nat) {j : Nat} (lv' : List (Nat × Value)) (F : Fx K cc own Kf fr lo) (d : decode cc pc = .ok (.astore j, 2)) (hj : j < kn K) (hl : (j, Value.null) :: lv.filter (fun q => !(q.1 == j) && !(q.1 + 1 == j && q.2.category == 2)) = lv') (hn : pc + 2 = n) (kk : G K X cs sl n S lv' st) : G K X cs sl pc S lv (.null :: st) := by
  subst hn; exact fun H locs ls hX hS h => lv_astoreN F.1 F.2.1 d h hj hl (fun ls' h' => kk H locs ls' hX hS h')
theorem g_iinc (n : Nat) {j : Nat} {i : Int} {x : Int32} (k : Nat) (v : Int32) (lv' : List (Nat × Value)) (F : Fx K cc own Kf fr lo) (d : decode cc pc = .ok (.iinc j i, 3)) (hk : lv[k]? = some (j, .int x)) (hv : x + Int32.ofInt i = v) (hj : j < kn K) (hl : (j, Value.int v) :: lv.filter (fun q => !(q.1 == j) && !(q.1 + 1 == j && q.2.category == 2)) = lv') (hn : pc + 3 = n) (kk : G K X cs sl n S lv' st) : G K X cs sl pc S lv st := by
  subst hn; exact fun H locs ls hX hS h => lv_iinc F.1 F.2.1 d h hk hv hj hl (fun ls' h' => kk H locs ls' hX hS h')
theorem g_dup (n : Nat) {v : Value} (F : Fx K cc own Kf fr lo) (d : decode cc pc = .ok (.dup, 1)) (hc : v.category = 1) (hn : pc + 1 = n) (kk : G K X cs sl n S lv (v :: v :: st)) : G K X cs sl pc S lv (v :: st) := by
  subst hn; exact fun H locs ls hX hS hl => lv_dup F.1 F.2.1 d hc (kk H locs ls hX hS hl)
theorem g_pop (n : Nat) {v : Value} (F : Fx K cc own Kf fr lo) (d : decode cc pc = .ok (.pop, 1)) (hc : v.category = 1) (hn : pc + 1 = n) (kk : G K X cs sl n S lv st) : G K X cs sl pc S lv (v :: st) := by
  subst hn; exact fun H locs ls hX hS hl => lv_pop F.1 F.2.1 d hc (kk H locs ls hX hS hl)
theorem g_goto (t : Nat) {off : Int} (F : Fx K cc own Kf fr lo) (d : decode cc pc = .ok (.goto off, 3)) (ht : (pc : Int) + off = (t : Int)) (kk : G K X cs sl t S lv st) : G K X cs sl pc S lv st :=
  fun H locs ls hX hS hl => lv_goto F.1 F.2.1 d ht (kk H locs ls hX hS hl)
theorem g_null (n : Nat) (F : Fx K cc own Kf fr lo) (d : decode cc pc = .ok (.aconst_null, 1)) (hn : pc + 1 = n) (kk : G K X cs sl n S lv (.null :: st)) : G K X cs sl pc S lv st := by
  subst hn; exact fun H locs ls hX hS hl => lv_null F.1 F.2.1 d (kk H locs ls hX hS hl)
theorem g_ifnull (n : Nat) {x : Nat} {off : Int} (F : Fx K cc own Kf fr lo) (d : decode cc pc = .ok (.ifnull off, 3)) (hn : pc + 3 = n) (kk : G K X cs sl n S lv st) : G K X cs sl pc S lv (.ref x :: st) := by
  subst hn; exact fun H locs ls hX hS hl => lv_ifnull F.1 F.2.1 d (kk H locs ls hX hS hl)
theorem g_ifnullN (t : Nat) {off : Int} (F : Fx K cc own Kf fr lo) (d : decode cc pc = .ok (.ifnull off, 3)) (ht : (pc : Int) + off = (t : Int)) (kk : G K X cs sl t S lv st) : G K X cs sl pc S lv (.null :: st) :=
  fun H locs ls hX hS hl => lv_ifnullN F.1 F.2.1 d ht (kk H locs ls hX hS hl)
theorem g_ifnonnull (t : Nat) {x : Nat} {off : Int} (F : Fx K cc own Kf fr lo) (d : decode cc pc = .ok (.ifnonnull off, 3)) (ht : (pc : Int) + off = (t : Int)) (kk : G K X cs sl t S lv st) : G K X cs sl pc S lv (.ref x :: st) :=
  fun H locs ls hX hS hl => lv_ifnonnull F.1 F.2.1 d ht (kk H locs ls hX hS hl)
theorem g_ifnonnullN (n : Nat) {off : Int} (F : Fx K cc own Kf fr lo) (d : decode cc pc = .ok (.ifnonnull off, 3)) (hn : pc + 3 = n) (kk : G K X cs sl n S lv st) : G K X cs sl pc S lv (.null :: st) := by
  subst hn; exact fun H locs ls hX hS hl => lv_ifnonnullN F.1 F.2.1 d (kk H locs ls hX hS hl)
theorem g_iadd (n : Nat) {x y : Int32} (F : Fx K cc own Kf fr lo) (d : decode cc pc = .ok (.iadd, 1)) (hn : pc + 1 = n) (kk : G K X cs sl n S lv (.int (x + y) :: st)) : G K X cs sl pc S lv (.int y :: .int x :: st) := by
  subst hn; exact fun H locs ls hX hS hl => lv_iadd F.1 F.2.1 d (kk H locs ls hX hS hl)
theorem g_isub (n : Nat) {x y : Int32} (F : Fx K cc own Kf fr lo) (d : decode cc pc = .ok (.isub, 1)) (hn : pc + 1 = n) (kk : G K X cs sl n S lv (.int (x - y) :: st)) : G K X cs sl pc S lv (.int y :: .int x :: st) := by
  subst hn; exact fun H locs ls hX hS hl => lv_isub F.1 F.2.1 d (kk H locs ls hX hS hl)
theorem g_imul (n : Nat) {x y : Int32} (F : Fx K cc own Kf fr lo) (d : decode cc pc = .ok (.imul, 1)) (hn : pc + 1 = n) (kk : G K X cs sl n S lv (.int (x * y) :: st)) : G K X cs sl pc S lv (.int y :: .int x :: st) := by
  subst hn; exact fun H locs ls hX hS hl => lv_imul F.1 F.2.1 d (kk H locs ls hX hS hl)
theorem g_iand (n : Nat) {x y : Int32} (F : Fx K cc own Kf fr lo) (d : decode cc pc = .ok (.iand, 1)) (hn : pc + 1 = n) (kk : G K X cs sl n S lv (.int (x &&& y) :: st)) : G K X cs sl pc S lv (.int y :: .int x :: st) := by
  subst hn; exact fun H locs ls hX hS hl => lv_iand F.1 F.2.1 d (kk H locs ls hX hS hl)
theorem g_ior (n : Nat) {x y : Int32} (F : Fx K cc own Kf fr lo) (d : decode cc pc = .ok (.ior, 1)) (hn : pc + 1 = n) (kk : G K X cs sl n S lv (.int (x ||| y) :: st)) : G K X cs sl pc S lv (.int y :: .int x :: st) := by
  subst hn; exact fun H locs ls hX hS hl => lv_ior F.1 F.2.1 d (kk H locs ls hX hS hl)
theorem g_ixor (n : Nat) {x y : Int32} (F : Fx K cc own Kf fr lo) (d : decode cc pc = .ok (.ixor, 1)) (hn : pc + 1 = n) (kk : G K X cs sl n S lv (.int (x ^^^ y) :: st)) : G K X cs sl pc S lv (.int y :: .int x :: st) := by
  subst hn; exact fun H locs ls hX hS hl => lv_ixor F.1 F.2.1 d (kk H locs ls hX hS hl)
theorem g_ishl (n : Nat) {x y : Int32} (F : Fx K cc own Kf fr lo) (d : decode cc pc = .ok (.ishl, 1)) (hn : pc + 1 = n) (kk : G K X cs sl n S lv (.int (x <<< (y &&& 31)) :: st)) : G K X cs sl pc S lv (.int y :: .int x :: st) := by
  subst hn; exact fun H locs ls hX hS hl => lv_ishl F.1 F.2.1 d (kk H locs ls hX hS hl)
theorem g_ishr (n : Nat) {x y : Int32} (F : Fx K cc own Kf fr lo) (d : decode cc pc = .ok (.ishr, 1)) (hn : pc + 1 = n) (kk : G K X cs sl n S lv (.int (x >>> (y &&& 31)) :: st)) : G K X cs sl pc S lv (.int y :: .int x :: st) := by
  subst hn; exact fun H locs ls hX hS hl => lv_ishr F.1 F.2.1 d (kk H locs ls hX hS hl)
theorem g_ladd (n : Nat) {x y : Int64} (F : Fx K cc own Kf fr lo) (d : decode cc pc = .ok (.ladd, 1)) (hn : pc + 1 = n) (kk : G K X cs sl n S lv (.long (x + y) :: st)) : G K X cs sl pc S lv (.long y :: .long x :: st) := by
  subst hn; exact fun H locs ls hX hS hl => lv_ladd F.1 F.2.1 d (kk H locs ls hX hS hl)
theorem g_lsub (n : Nat) {x y : Int64} (F : Fx K cc own Kf fr lo) (d : decode cc pc = .ok (.lsub, 1)) (hn : pc + 1 = n) (kk : G K X cs sl n S lv (.long (x - y) :: st)) : G K X cs sl pc S lv (.long y :: .long x :: st) := by
  subst hn; exact fun H locs ls hX hS hl => lv_lsub F.1 F.2.1 d (kk H locs ls hX hS hl)
theorem g_lmul (n : Nat) {x y : Int64} (F : Fx K cc own Kf fr lo) (d : decode cc pc = .ok (.lmul, 1)) (hn : pc + 1 = n) (kk : G K X cs sl n S lv (.long (x * y) :: st)) : G K X cs sl pc S lv (.long y :: .long x :: st) := by
  subst hn; exact fun H locs ls hX hS hl => lv_lmul F.1 F.2.1 d (kk H locs ls hX hS hl)
theorem g_idiv (n : Nat) {x y : Int32} (F : Fx K cc own Kf fr lo) (d : decode cc pc = .ok (.idiv, 1)) (hy : ¬ y = 0) (hn : pc + 1 = n) (kk : G K X cs sl n S lv (.int (x / y) :: st)) : G K X cs sl pc S lv (.int y :: .int x :: st) := by
  subst hn; exact fun H locs ls hX hS hl => lv_idiv F.1 F.2.1 d hy (kk H locs ls hX hS hl)
theorem g_irem (n : Nat) {x y : Int32} (F : Fx K cc own Kf fr lo) (d : decode cc pc = .ok (.irem, 1)) (hy : ¬ y = 0) (hn : pc + 1 = n) (kk : G K X cs sl n S lv (.int (x - x / y * y) :: st)) : G K X cs sl pc S lv (.int y :: .int x :: st) := by
  subst hn; exact fun H locs ls hX hS hl => lv_irem F.1 F.2.1 d hy (kk H locs ls hX hS hl)
theorem g_ldiv (n : Nat) {x y : Int64} (F : Fx K cc own Kf fr lo) (d : decode cc pc = .ok (.ldiv, 1)) (hy : ¬ y = 0) (hn : pc + 1 = n) (kk : G K X cs sl n S lv (.long (x / y) :: st)) : G K X cs sl pc S lv (.long y :: .long x :: st) := by
  subst hn; exact fun H locs ls hX hS hl => lv_ldiv F.1 F.2.1 d hy (kk H locs ls hX hS hl)
theorem g_lrem (n : Nat) {x y : Int64} (F : Fx K cc own Kf fr lo) (d : decode cc pc = .ok (.lrem, 1)) (hy : ¬ y = 0) (hn : pc + 1 = n) (kk : G K X cs sl n S lv (.long (x - x / y * y) :: st)) : G K X cs sl pc S lv (.long y :: .long x :: st) := by
  subst hn; exact fun H locs ls hX hS hl => lv_lrem F.1 F.2.1 d hy (kk H locs ls hX hS hl)
theorem g_i2l (n : Nat) {x : Int32} (F : Fx K cc own Kf fr lo) (d : decode cc pc = .ok (.i2l, 1)) (hn : pc + 1 = n) (kk : G K X cs sl n S lv (.long x.toInt64 :: st)) : G K X cs sl pc S lv (.int x :: st) := by
  subst hn; exact fun H locs ls hX hS hl => lv_i2l F.1 F.2.1 d rfl (kk H locs ls hX hS hl)
theorem g_l2i (n : Nat) {x : Int64} (F : Fx K cc own Kf fr lo) (d : decode cc pc = .ok (.l2i, 1)) (hn : pc + 1 = n) (kk : G K X cs sl n S lv (.int x.toInt32 :: st)) : G K X cs sl pc S lv (.long x :: st) := by
  subst hn; exact fun H locs ls hX hS hl => lv_l2i F.1 F.2.1 d rfl (kk H locs ls hX hS hl)
theorem g_i2b (n : Nat) {x : Int32} (F : Fx K cc own Kf fr lo) (d : decode cc pc = .ok (.i2b, 1)) (hn : pc + 1 = n) (kk : G K X cs sl n S lv (.int x.toInt8.toInt32 :: st)) : G K X cs sl pc S lv (.int x :: st) := by
  subst hn; exact fun H locs ls hX hS hl => lv_i2b F.1 F.2.1 d rfl (kk H locs ls hX hS hl)
theorem g_i2c (n : Nat) {x : Int32} (F : Fx K cc own Kf fr lo) (d : decode cc pc = .ok (.i2c, 1)) (hn : pc + 1 = n) (kk : G K X cs sl n S lv (.int (x.toUInt32 % 65536).toInt32 :: st)) : G K X cs sl pc S lv (.int x :: st) := by
  subst hn; exact fun H locs ls hX hS hl => lv_i2c F.1 F.2.1 d rfl (kk H locs ls hX hS hl)
theorem g_iushr (n : Nat) {x y : Int32} (F : Fx K cc own Kf fr lo) (d : decode cc pc = .ok (.iushr, 1)) (hn : pc + 1 = n) (kk : G K X cs sl n S lv (.int (x.toUInt32 >>> (y.toUInt32 &&& Int32.toUInt32 31)).toInt32 :: st)) : G K X cs sl pc S lv (.int y :: .int x :: st) := by
  subst hn; exact fun H locs ls hX hS hl => lv_iushr F.1 F.2.1 d rfl (kk H locs ls hX hS hl)
theorem g_lcmp (n : Nat) {x y : Int64} (F : Fx K cc own Kf fr lo) (d : decode cc pc = .ok (.lcmp, 1)) (hn : pc + 1 = n) (kk : G K X cs sl n S lv (.int (lg_cmp x y) :: st)) : G K X cs sl pc S lv (.long y :: .long x :: st) := by
  subst hn; exact fun H locs ls hX hS hl => W.lcmp F.1 F.2.1 d (kk H locs ls hX hS hl)
theorem g_dup2 (n : Nat) {v w : Value} (F : Fx K cc own Kf fr lo) (d : decode cc pc = .ok (.dup2, 1)) (hc : v.category = 1) (hd : w.category = 1) (hn : pc + 1 = n) (kk : G K X cs sl n S lv (v :: w :: v :: w :: st)) : G K X cs sl pc S lv (v :: w :: st) := by
  subst hn; exact fun H locs ls hX hS hl => lv_dup2_11 F.1 F.2.1 d hc hd (kk H locs ls hX hS hl)
theorem g_icmp_eq (t n : Nat) {x y : Int32} {off : Int} (F : Fx K cc own Kf fr lo) (d : decode cc pc = .ok (.if_icmp .eq off, 3)) (ht : (pc : Int) + off = (t : Int)) (hn : pc + 3 = n) (hf : (if x = y then a else b) = q) (kt : x = y → a = q → G K X cs sl t S lv st) (kf : ¬ x = y → b = q → G K X cs sl n S lv st) : G K X cs sl pc S lv (.int y :: .int x :: st) := by
  subst hn; exact fun H locs ls hX hS hl => lv_icmp_eq F.1 F.2.1 d ht (fun h => kt h ((if_pos h).symm.trans hf) H locs ls hX hS hl) (fun h => kf h ((if_neg h).symm.trans hf) H locs ls hX hS hl)
theorem g_if_eq (t n : Nat) {x : Int32} {off : Int} (F : Fx K cc own Kf fr lo) (d : decode cc pc = .ok (.ifCond .eq off, 3)) (ht : (pc : Int) + off = (t : Int)) (hn : pc + 3 = n) (hf : (if x = 0 then a else b) = q) (kt : x = 0 → a = q → G K X cs sl t S lv st) (kf : ¬ x = 0 → b = q → G K X cs sl n S lv st) : G K X cs sl pc S lv (.int x :: st) := by
  subst hn; exact fun H locs ls hX hS hl => lv_if_eq F.1 F.2.1 d ht (fun h => kt h ((if_pos h).symm.trans hf) H locs ls hX hS hl) (fun h => kf h ((if_neg h).symm.trans hf) H locs ls hX hS hl)
theorem g_icmp_ne (t n : Nat) {x y : Int32} {off : Int} (F : Fx K cc own Kf fr lo) (d : decode cc pc = .ok (.if_icmp .ne off, 3)) (ht : (pc : Int) + off = (t : Int)) (hn : pc + 3 = n) (hf : (if x = y then a else b) = q) (kt : ¬ x = y → b = q → G K X cs sl t S lv st) (kf : x = y → a = q → G K X cs sl n S lv st) : G K X cs sl pc S lv (.int y :: .int x :: st) := by
  subst hn; exact fun H locs ls hX hS hl => lv_icmp_ne F.1 F.2.1 d ht (fun h => kt h ((if_neg h).symm.trans hf) H locs ls hX hS hl) (fun h => kf h ((if_pos h).symm.trans hf) H locs ls hX hS hl)
theorem g_if_ne (t n : Nat) {x : Int32} {off : Int} (F : Fx K cc own Kf fr lo) (d : decode cc pc = .ok (.ifCond .ne off, 3)) (ht : (pc : Int) + off = (t : Int)) (hn : pc + 3 = n) (hf : (if x = 0 then a else b) = q) (kt : ¬ x = 0 → b = q → G K X cs sl t S lv st) (kf : x = 0 → a = q → G K X cs sl n S lv st) : G K X cs sl pc S lv (.int x :: st) := by
  subst hn; exact fun H locs ls hX hS hl => lv_if_ne F.1 F.2.1 d ht (fun h => kt h ((if_neg h).symm.trans hf) H locs ls hX hS hl) (fun h => kf h ((if_pos h).symm.trans hf) H locs ls hX hS hl)
theorem g_icmp_lt (t n : Nat) {x y : Int32} {off : Int} (F : Fx K cc own Kf fr lo) (d : decode cc pc = .ok (.if_icmp .lt off, 3)) (ht : (pc : Int) + off = (t : Int)) (hn : pc + 3 = n) (hf : (if x < y then a else b) = q) (kt : x < y → a = q → G K X cs sl t S lv st) (kf : ¬ x < y → b = q → G K X cs sl n S lv st) : G K X cs sl pc S lv (.int y :: .int x :: st) := by
  subst hn; exact fun H locs ls hX hS hl => lv_icmp_lt F.1 F.2.1 d ht (fun h => kt h ((if_pos h).symm.trans hf) H locs ls hX hS hl) (fun h => kf h ((if_neg h).symm.trans hf) H locs ls hX hS hl)
theorem g_if_lt (t n : Nat) {x : Int32} {off : Int} (F : Fx K cc own Kf fr lo) (d : decode cc pc = .ok (.ifCond .lt off, 3)) (ht : (pc : Int) + off = (t : Int)) (hn : pc + 3 = n) (hf : (if x < 0 then a else b) = q) (kt : x < 0 → a = q → G K X cs sl t S lv st) (kf : ¬ x < 0 → b = q → G K X cs sl n S lv st) : G K X cs sl pc S lv (.int x :: st) := by
  subst hn; exact fun H locs ls hX hS hl => lv_if_lt F.1 F.2.1 d ht (fun h => kt h ((if_pos h).symm.trans hf) H locs ls hX hS hl) (fun h => kf h ((if_neg h).symm.trans hf) H locs ls hX hS hl)
theorem g_icmp_ge (t n : Nat) {x y : Int32} {off : Int} (F : Fx K cc own Kf fr lo) (d : decode cc pc = .ok (.if_icmp .ge off, 3)) (ht : (pc : Int) + off = (t : Int)) (hn : pc + 3 = n) (hf : (if y ≤ x then a else b) = q) (kt : y ≤ x → a = q → G K X cs sl t S lv st) (kf : ¬ y ≤ x → b = q → G K X cs sl n S lv st) : G K X cs sl pc S lv (.int y :: .int x :: st) := by
  subst hn; exact fun H locs ls hX hS hl => lv_icmp_ge F.1 F.2.1 d ht (fun h => kt h ((if_pos h).symm.trans hf) H locs ls hX hS hl) (fun h => kf h ((if_neg h).symm.trans hf) H locs ls hX hS hl)
theorem g_if_ge (t n : Nat) {x : Int32} {off : Int} (F : Fx K cc own Kf fr lo) (d : decode cc pc = .ok (.ifCond .ge off, 3)) (ht : (pc : Int) + off = (t : Int)) (hn : pc + 3 = n) (hf : (if 0 ≤ x then a else b) = q) (kt : 0 ≤ x → a = q → G K X cs sl t S lv st) (kf : ¬ 0 ≤ x → b = q → G K X cs sl n S lv st) : G K X cs sl pc S lv (.int x :: st) := by
  subst hn; exact fun H locs ls hX hS hl => lv_if_ge F.1 F.2.1 d ht (fun h => kt h ((if_pos h).symm.trans hf) H locs ls hX hS hl) (fun h => kf h ((if_neg h).symm.trans hf) H locs ls hX hS hl)
theorem g_icmp_gt (t n : Nat) {x y : Int32} {off : Int} (F : Fx K cc own Kf fr lo) (d : decode cc pc = .ok (.if_icmp .gt off, 3)) (ht : (pc : Int) + off = (t : Int)) (hn : pc + 3 = n) (hf : (if y < x then a else b) = q) (kt : y < x → a = q → G K X cs sl t S lv st) (kf : ¬ y < x → b = q → G K X cs sl n S lv st) : G K X cs sl pc S lv (.int y :: .int x :: st) := by
  subst hn; exact fun H locs ls hX hS hl => lv_icmp_gt F.1 F.2.1 d ht (fun h => kt h ((if_pos h).symm.trans hf) H locs ls hX hS hl) (fun h => kf h ((if_neg h).symm.trans hf) H locs ls hX hS hl)
theorem g_if_gt (t n : Nat) {x : Int32} {off : Int} (F : Fx K cc own Kf fr lo) (d : decode cc pc = .ok (.ifCond .gt off, 3)) (ht : (pc : Int) + off = (t : Int)) (hn : pc + 3 = n) (hf : (if 0 < x then a else b) = q) (kt : 0 < x → a = q → G K X cs sl t S lv st) (kf : ¬ 0 < x → b = q → G K X cs sl n S lv st) : G K X cs sl pc S lv (.int x :: st) := by
  subst hn; exact fun H locs ls hX hS hl => lv_if_gt F.1 F.2.1 d ht (fun h => kt h ((if_pos h).symm.trans hf) H locs ls hX hS hl) (fun h => kf h ((if_neg h).symm.trans hf) H locs ls hX hS hl)
theorem g_icmp_le (t n : Nat) {x y : Int32} {off : Int} (F : Fx K cc own Kf fr lo) (d : decode cc pc = .ok (.if_icmp .le off, 3)) (ht : (pc : Int) + off = (t : Int)) (hn : pc + 3 = n) (hf : (if x ≤ y then a else b) = q) (kt : x ≤ y → a = q → G K X cs sl t S lv st) (kf : ¬ x ≤ y → b = q → G K X cs sl n S lv st) : G K X cs sl pc S lv (.int y :: .int x :: st) := by
  subst hn; exact fun H locs ls hX hS hl => lv_icmp_le F.1 F.2.1 d ht (fun h => kt h ((if_pos h).symm.trans hf) H locs ls hX hS hl) (fun h => kf h ((if_neg h).symm.trans hf) H locs ls hX hS hl)
theorem g_if_le (t n : Nat) {x : Int32} {off : Int} (F : Fx K cc own Kf fr lo) (d : decode cc pc = .ok (.ifCond .le off, 3)) (ht : (pc : Int) + off = (t : Int)) (hn : pc + 3 = n) (hf : (if x ≤ 0 then a else b) = q) (kt : x ≤ 0 → a = q → G K X cs sl t S lv st) (kf : ¬ x ≤ 0 → b = q → G K X cs sl n S lv st) : G K X cs sl pc S lv (.int x :: st) := by
  subst hn; exact fun H locs ls hX hS hl => lv_if_le F.1 F.2.1 d ht (fun h => kt h ((if_pos h).symm.trans hf) H locs ls hX hS hl) (fun h => kf h ((if_neg h).symm.trans hf) H locs ls hX hS hl)
theorem g_ifeq_b (t n : Nat) {z : Bool} {off : Int} (F : Fx K cc own Kf fr lo) (d : decode cc pc = .ok (.ifCond .eq off, 3)) (ht : (pc : Int) + off = (t : Int)) (hn : pc + 3 = n) (hf : (if z = true then a else b) = q) (kt : z = false → b = q → G K X cs sl t S lv st) (kf : z = true → a = q → G K X cs sl n S lv st) : G K X cs sl pc S lv (.int (bI z) :: st) := by
  subst hn
  exact fun H locs ls hX hS hl => lv_if_eq F.1 F.2.1 d ht (fun h => by
    have h := bI_0.mp h
    exact kt h ((if_neg (by rw [h]; decide)).symm.trans hf) H locs ls hX hS hl) (fun h => by
    have h : z = true := by cases z with | true => rfl | false => exact absurd rfl h
    exact kf h ((if_pos h).symm.trans hf) H locs ls hX hS hl)
theorem g_ifne_b (t n : Nat) {z : Bool} {off : Int} (F : Fx K cc own Kf fr lo) (d : decode cc pc = .ok (.ifCond .ne off, 3)) (ht : (pc : Int) + off = (t : Int)) (hn : pc + 3 = n) (hf : (if z = true then a else b) = q) (kt : z = true → a = q → G K X cs sl t S lv st) (kf : z = false → b = q → G K X cs sl n S lv st) : G K X cs sl pc S lv (.int (bI z) :: st) := by
  subst hn
  exact fun H locs ls hX hS hl => lv_if_ne F.1 F.2.1 d ht (fun h => by
    have h : z = true := by cases z with | true => rfl | false => exact absurd rfl h
    exact kt h ((if_pos h).symm.trans hf) H locs ls hX hS hl) (fun h => by
    have h := bI_0.mp h
    exact kf h ((if_neg (by rw [h]; decide)).symm.trans hf) H locs ls hX hS hl)
theorem op_ok {c : Prop} [Decidable c] {z : Option α} {v : α} (h : (if c then z else none) = some v) : c ∧ z = some v := by
  by_cases hc : c
  · rw [if_pos hc] at h; exact ⟨hc, h⟩
  · rw [if_neg hc] at h; cases h
theorem op_bd {β : Type} {z : Option β} {f : β → Option α} {v : α} (h : z.bind f = some v) : ∃ w, z = some w ∧ f w = some v := by
  cases z with
  | none => cases h
  | some w => exact ⟨w, rfl, h⟩
end Rows
end
section
/-! Contracts over a side's world, and their use at a call. -/
abbrev cPre {σ : Type} (X : σ → Heap → Prop) (Kf : State → Prop) (A : Nat → Prop) (S : σ) : State → Prop := fun U => X S U.heap ∧ Kf U ∧ ∀ q, U.heap.size ≤ q → A q
def Ci {σ : Type} (l : Launch) (y : MethodName) (cc : ByteArray) (maxL : Nat) (ret : Option FieldType) (fr lo : Nat) (X : σ → Heap → Prop) (Kf : State → Prop) (A : Nat → Prop) (S : σ) (av : List Value) (r : Int32) (S' : σ) : Prop :=
  Met l y (.code y cc maxL ret :: wT) { frames := fr, cells := 0, slots := 0, locals := lo } (va_Pc av (cPre X Kf A S)) (va_Qi (fun (r' : Int32) (u : σ) => r' = r ∧ u = S') (fun u t => X u t.heap) A) 0 0 A
def Cl {σ : Type} (l : Launch) (y : MethodName) (cc : ByteArray) (maxL : Nat) (ret : Option FieldType) (fr lo : Nat) (X : σ → Heap → Prop) (Kf : State → Prop) (A : Nat → Prop) (S : σ) (av : List Value) (r : Int64) (S' : σ) : Prop :=
  Met l y (.code y cc maxL ret :: wT) { frames := fr, cells := 0, slots := 0, locals := lo } (va_Pc av (cPre X Kf A S)) (va_Ql (fun (r' : Int64) (u : σ) => r' = r ∧ u = S') (fun u t => X u t.heap) A) 0 0 A
def Cv {σ : Type} (l : Launch) (y : MethodName) (cc : ByteArray) (maxL : Nat) (ret : Option FieldType) (fr lo : Nat) (X : σ → Heap → Prop) (Kf : State → Prop) (A : Nat → Prop) (S : σ) (av : List Value) (S' : σ) : Prop :=
  Met l y (.code y cc maxL ret :: wT) { frames := fr, cells := 0, slots := 0, locals := lo } (va_Pc av (cPre X Kf A S)) (va_Qv (fun (u : σ) => u = S') (fun u t => X u t.heap) A) 0 0 A
def Cq {σ : Type} (l : Launch) (y : MethodName) (cc : ByteArray) (maxL : Nat) (ret : Option FieldType) (fr lo : Nat) (X : σ → Heap → Prop) (Kf : State → Prop) (A : Nat → Prop) (S : σ) (av : List Value) (r : Option Nat) (S' : σ) : Prop :=
  Met l y (.code y cc maxL ret :: wT) { frames := fr, cells := 0, slots := 0, locals := lo } (va_Pc av (cPre X Kf A S)) (va_Qq (fun (r' : Option Nat) (u : σ) => r' = r ∧ u = S') (fun u t => X u t.heap) A) 0 0 A
/-- the words of an instance method, and of a static one -/
def Wy (y : MethodName) (cc : ByteArray) (maxL : Nat) (ret : Option FieldType) (C : String) (k : Nat) : Prop :=
  Cond.code y cc maxL ret ∈ wT ∧ Cond.instanceMethod y ∈ wT ∧ Cond.selects C y y ∈ wT ∧ Cond.initialized y.cls ∈ wT ∧ y.cls ≠ "java/lang/invoke/MethodHandle" ∧ y.cls ≠ "java/lang/invoke/VarHandle" ∧ (parseMethodDescriptor y.desc).map (fun d => d.parameters.length) = some k
def Ws (y : MethodName) (cc : ByteArray) (maxL : Nat) (ret : Option FieldType) (k : Nat) : Prop :=
  Cond.code y cc maxL ret ∈ wT ∧ Cond.static y ∈ wT ∧ Cond.initialized y.cls ∈ wT ∧ y.cls ≠ "java/lang/invoke/MethodHandle" ∧ y.cls ≠ "java/lang/invoke/VarHandle" ∧ (parseMethodDescriptor y.desc).map (fun d => d.parameters.length) = some k
theorem cPre_blind {σ : Type} {X : σ → Heap → Prop} {Kf : State → Prop} {A : Nat → Prop} {S : σ} {av : List Value} (hok : KfOk A Kf) : FrameBlind (va_Pc av (cPre X Kf A S)) :=
  fun a U g mk h => ⟨h.1, h.2.1, hok.1 U g mk a h.2.2.1, h.2.2.2⟩
section Calls
variable {σ : Type} {K : Ctx} {X : σ → Heap → Prop} {cs sl pc : Nat} {S S' : σ} {lv : List (Nat × Value)} {st st0 As : List Value} {cc cc2 : ByteArray} {own C host : String} {Kf : State → Prop} {fr lo fr2 lo2 idx maxL k b : Nat} {y : MethodName} {ret : Option FieldType} {mc ms : Nat} {rm : Room}
theorem cw_V (F : Fx K cc own Kf fr lo) (wy : Wy y cc2 maxL ret C k) (hl : Cond.methodLink own idx y ∈ wT) (hrm : rm.frames = fr2 ∧ rm.cells = mc ∧ rm.slots = ms ∧ rm.locals = lo2) (hR : fr2 + 1 ≤ fr ∧ 8 + (maxL + 11) + lo2 ≤ lo) : CallW (kR K) (ks K) (ka K) own C idx y cc2 maxL ret (.code y cc2 maxL ret :: wT) rm mc ms k := by
  obtain ⟨h1, h2, h3, h4⟩ := hrm
  have hts := F.2.2.2.2.1
  exact ⟨callB_of k hts (wT_goodIn wy.1) rfl h2 h3 (hts _ wy.2.2.2.1) (hts _ hl) wy.2.2.2.2 ⟨by rw [h1]; exact Nat.le_trans hR.1 F.2.2.2.2.2.2.2.1, by rw [h4]; exact Nat.le_trans hR.2 F.2.2.2.2.2.2.2.2⟩, hts _ wy.2.1, hts _ wy.2.2.1⟩
theorem cw_S (F : Fx K cc own Kf fr lo) (wy : Ws y cc2 maxL ret k) (hl : Cond.methodLink own idx y ∈ wT) (hrm : rm.frames = fr2 ∧ rm.cells = mc ∧ rm.slots = ms ∧ rm.locals = lo2) (hR : fr2 + 1 ≤ fr ∧ 8 + (maxL + 11) + lo2 ≤ lo) : CallB (kR K) (ks K) (ka K) own idx y cc2 maxL ret (.code y cc2 maxL ret :: wT) rm mc ms k ∧ (Cond.static y).before (ka K) (ks K) = true := by
  obtain ⟨h1, h2, h3, h4⟩ := hrm
  have hts := F.2.2.2.2.1
  exact ⟨callB_of k hts (wT_goodIn wy.1) rfl h2 h3 (hts _ wy.2.2.1) (hts _ hl) wy.2.2.2 ⟨by rw [h1]; exact Nat.le_trans hR.1 F.2.2.2.2.2.2.2.1, by rw [h4]; exact Nat.le_trans hR.2 F.2.2.2.2.2.2.2.2⟩, hts _ wy.2.1⟩
theorem cw_VN (F : Fx K cc own Kf fr lo) (wy : Wy y cc2 maxL ret C k) (hl : va_Nw (.methodLinkNest own idx y host) (ks K)) (hrm : rm.frames = fr2 ∧ rm.cells = mc ∧ rm.slots = ms ∧ rm.locals = lo2) (hR : fr2 + 1 ≤ fr ∧ 8 + (maxL + 11) + lo2 ≤ lo) : va_CN (kR K) (ks K) (ka K) own idx y host cc2 maxL ret (.code y cc2 maxL ret :: wT) rm mc ms k ∧ (Cond.instanceMethod y).before (ka K) (ks K) = true ∧ (Cond.selects C y y).before (ka K) (ks K) = true := by
  obtain ⟨h1, h2, h3, h4⟩ := hrm
  have hts := F.2.2.2.2.1
  exact ⟨va_cnB k hts (wT_goodIn wy.1) rfl h2 h3 hl (hts _ wy.2.2.2.1) wy.2.2.2.2 ⟨by rw [h1]; exact Nat.le_trans hR.1 F.2.2.2.2.2.2.2.1, by rw [h4]; exact Nat.le_trans hR.2 F.2.2.2.2.2.2.2.2⟩, hts _ wy.2.1, hts _ wy.2.2.1⟩
theorem cw_SN (F : Fx K cc own Kf fr lo) (wy : Ws y cc2 maxL ret k) (hl : va_Nw (.methodLinkNest own idx y host) (ks K)) (hrm : rm.frames = fr2 ∧ rm.cells = mc ∧ rm.slots = ms ∧ rm.locals = lo2) (hR : fr2 + 1 ≤ fr ∧ 8 + (maxL + 11) + lo2 ≤ lo) : va_CN (kR K) (ks K) (ka K) own idx y host cc2 maxL ret (.code y cc2 maxL ret :: wT) rm mc ms k ∧ (Cond.static y).before (ka K) (ks K) = true ∧ True := by
  obtain ⟨h1, h2, h3, h4⟩ := hrm
  have hts := F.2.2.2.2.1
  exact ⟨va_cnB k hts (wT_goodIn wy.1) rfl h2 h3 hl (hts _ wy.2.2.1) wy.2.2.2 ⟨by rw [h1]; exact Nat.le_trans hR.1 F.2.2.2.2.2.2.2.1, by rw [h4]; exact Nat.le_trans hR.2 F.2.2.2.2.2.2.2.2⟩, hts _ wy.2.1, trivial⟩
theorem cPre_at (F : Fx K cc own Kf fr lo) (hok : KfOk (kA K) Kf) {H : Heap} {locs : List Loc} (hX : X S H) (hS : va_S (kA K) (ks K).heap H locs) : ∀ U : State, U.heap = H → (ks K).WarmedH U.vm → cPre X Kf (kA K) S U := fun U hU hW =>
  ⟨by rw [hU]; exact hX, hok.2 (ks K) U locs F.2.2.2.2.2.1 hW (by rw [hU]; exact hS), fun q hq => F.2.2.2.2.2.2.1 q (Nat.le_trans hS.1 (by rw [← hU]; exact hq))⟩
abbrev Rcv (K : Ctx) (X : σ → Heap → Prop) (S : σ) (b : Nat) (C : String) : Prop := ∀ H, X S H → ∃ cell : Cell, H[b]? = some cell ∧ cell.vm.isStatics = false ∧ (ks K).vm.findClass C = some cell.cls
theorem g_cVi (n : Nat) {r : Int32} (F : Fx K cc own Kf fr lo) (hok : KfOk (kA K) Kf) (hM : Ci (kl K) y cc2 maxL ret fr2 lo2 X Kf (kA K) S (.ref b :: As) r S') (wy : Wy y cc2 maxL ret C k) (hl : Cond.methodLink own idx y ∈ wT) (hrc : Rcv K X S b C) (hR : fr2 + 1 ≤ fr ∧ 8 + (maxL + 11) + lo2 ≤ lo) (hst : st0 = As.reverse ++ .ref b :: st) (hk : As.length = k) (hcat : (st.map fun v => v.category).sum ≤ 8) (hcs : cs ≤ (kR K).cells ∧ sl ≤ (kR K).slots) (d : decode cc pc = .ok (.invokevirtual idx, 3)) (hn : pc + 3 = n) (kk : G K X cs sl n S' lv (.int r :: st)) : G K X cs sl pc S lv st0 := by
  subst hn
  intro H locs ls hX hS hls
  refine va_calli (va_runV (As := As) (rest := st) ⟨F.1, F.2.1, F.2.2.1, F.2.2.2.1, F.2.2.2.2.1⟩ hM (cw_V F wy hl ⟨rfl, rfl, rfl, rfl⟩ hR) ⟨cPre_blind hok, hrc H hX, fun U hU hW => ⟨rfl, cPre_at F hok hX hS U hU hW⟩⟩ rfl hk hls.1 hst (lv_room hcat) d hcs) hS (fun _ _ h => h) (fun _ h => h) (fun r' u t H1 locs1 ht hvm hw hB hz1 hk1 hS1 => ?_)
  obtain ⟨rfl, rfl⟩ := hw
  have hB : X u t.heap := hB
  rw [ht] at hB
  exact kk H1 locs1 ls hB hS1 hls
theorem g_cVl (n : Nat) {r : Int64} (F : Fx K cc own Kf fr lo) (hok : KfOk (kA K) Kf) (hM : Cl (kl K) y cc2 maxL ret fr2 lo2 X Kf (kA K) S (.ref b :: As) r S') (wy : Wy y cc2 maxL ret C k) (hl : Cond.methodLink own idx y ∈ wT) (hrc : Rcv K X S b C) (hR : fr2 + 1 ≤ fr ∧ 8 + (maxL + 11) + lo2 ≤ lo) (hst : st0 = As.reverse ++ .ref b :: st) (hk : As.length = k) (hcat : (st.map fun v => v.category).sum ≤ 8) (hcs : cs ≤ (kR K).cells ∧ sl ≤ (kR K).slots) (d : decode cc pc = .ok (.invokevirtual idx, 3)) (hn : pc + 3 = n) (kk : G K X cs sl n S' lv (.long r :: st)) : G K X cs sl pc S lv st0 := by
  subst hn
  intro H locs ls hX hS hls
  refine va_calll (va_runV (As := As) (rest := st) ⟨F.1, F.2.1, F.2.2.1, F.2.2.2.1, F.2.2.2.2.1⟩ hM (cw_V F wy hl ⟨rfl, rfl, rfl, rfl⟩ hR) ⟨cPre_blind hok, hrc H hX, fun U hU hW => ⟨rfl, cPre_at F hok hX hS U hU hW⟩⟩ rfl hk hls.1 hst (lv_room hcat) d hcs) hS (fun _ _ h => h) (fun _ h => h) (fun r' u t H1 locs1 ht hvm hw hB hz1 hk1 hS1 => ?_)
  obtain ⟨rfl, rfl⟩ := hw
  have hB : X u t.heap := hB
  rw [ht] at hB
  exact kk H1 locs1 ls hB hS1 hls
theorem g_cVv (n : Nat) (F : Fx K cc own Kf fr lo) (hok : KfOk (kA K) Kf) (hM : Cv (kl K) y cc2 maxL ret fr2 lo2 X Kf (kA K) S (.ref b :: As) S') (wy : Wy y cc2 maxL ret C k) (hl : Cond.methodLink own idx y ∈ wT) (hrc : Rcv K X S b C) (hR : fr2 + 1 ≤ fr ∧ 8 + (maxL + 11) + lo2 ≤ lo) (hst : st0 = As.reverse ++ .ref b :: st) (hk : As.length = k) (hcat : (st.map fun v => v.category).sum ≤ 8) (hcs : cs ≤ (kR K).cells ∧ sl ≤ (kR K).slots) (d : decode cc pc = .ok (.invokevirtual idx, 3)) (hn : pc + 3 = n) (kk : G K X cs sl n S' lv st) : G K X cs sl pc S lv st0 := by
  subst hn
  intro H locs ls hX hS hls
  refine va_callv (va_runV (As := As) (rest := st) ⟨F.1, F.2.1, F.2.2.1, F.2.2.2.1, F.2.2.2.2.1⟩ hM (cw_V F wy hl ⟨rfl, rfl, rfl, rfl⟩ hR) ⟨cPre_blind hok, hrc H hX, fun U hU hW => ⟨rfl, cPre_at F hok hX hS U hU hW⟩⟩ rfl hk hls.1 hst (lv_room hcat) d hcs) hS (fun _ _ h => h) (fun _ h => h) (fun u t H1 locs1 ht hvm hw hB hz1 hk1 hS1 => ?_)
  subst hw
  have hB : X u t.heap := hB
  rw [ht] at hB
  exact kk H1 locs1 ls hB hS1 hls
theorem g_cVq (n : Nat) {r : Option Nat} (F : Fx K cc own Kf fr lo) (hok : KfOk (kA K) Kf) (hM : Cq (kl K) y cc2 maxL ret fr2 lo2 X Kf (kA K) S (.ref b :: As) r S') (wy : Wy y cc2 maxL ret C k) (hl : Cond.methodLink own idx y ∈ wT) (hrc : Rcv K X S b C) (hR : fr2 + 1 ≤ fr ∧ 8 + (maxL + 11) + lo2 ≤ lo) (hst : st0 = As.reverse ++ .ref b :: st) (hk : As.length = k) (hcat : (st.map fun v => v.category).sum ≤ 8) (hcs : cs ≤ (kR K).cells ∧ sl ≤ (kR K).slots) (d : decode cc pc = .ok (.invokevirtual idx, 3)) (hn : pc + 3 = n) (kk : G K X cs sl n S' lv (va_rf r :: st)) : G K X cs sl pc S lv st0 := by
  subst hn
  intro H locs ls hX hS hls
  refine va_callq (va_runV (As := As) (rest := st) ⟨F.1, F.2.1, F.2.2.1, F.2.2.2.1, F.2.2.2.2.1⟩ hM (cw_V F wy hl ⟨rfl, rfl, rfl, rfl⟩ hR) ⟨cPre_blind hok, hrc H hX, fun U hU hW => ⟨rfl, cPre_at F hok hX hS U hU hW⟩⟩ rfl hk hls.1 hst (lv_room hcat) d hcs) hS (fun _ _ h => h) (fun _ h => h) (fun r' u t H1 locs1 ht hvm hw hB hz1 hk1 hS1 => ?_)
  obtain ⟨rfl, rfl⟩ := hw
  have hB : X u t.heap := hB
  rw [ht] at hB
  exact kk H1 locs1 ls hB hS1 hls
theorem g_cSi (n : Nat) {r : Int32} (F : Fx K cc own Kf fr lo) (hok : KfOk (kA K) Kf) (hM : Ci (kl K) y cc2 maxL ret fr2 lo2 X Kf (kA K) S As r S') (wy : Ws y cc2 maxL ret k) (hl : Cond.methodLink own idx y ∈ wT) (hR : fr2 + 1 ≤ fr ∧ 8 + (maxL + 11) + lo2 ≤ lo) (hst : st0 = As.reverse ++ st) (hk : As.length = k) (hcat : (st.map fun v => v.category).sum ≤ 8) (hcs : cs ≤ (kR K).cells ∧ sl ≤ (kR K).slots) (d : decode cc pc = .ok (.invokestatic idx, 3)) (hn : pc + 3 = n) (kk : G K X cs sl n S' lv (.int r :: st)) : G K X cs sl pc S lv st0 := by
  subst hn
  intro H locs ls hX hS hls
  refine va_calli (va_runS (As := As) (rest := st) ⟨F.1, F.2.1, F.2.2.1, F.2.2.2.1, F.2.2.2.2.1⟩ hM (cw_S F wy hl ⟨rfl, rfl, rfl, rfl⟩ hR) ⟨cPre_blind hok, fun U hU hW => ⟨rfl, cPre_at F hok hX hS U hU hW⟩⟩ rfl hk hls.1 hst (lv_room hcat) d hcs) hS (fun _ _ h => h) (fun _ h => h) (fun r' u t H1 locs1 ht hvm hw hB hz1 hk1 hS1 => ?_)
  obtain ⟨rfl, rfl⟩ := hw
  have hB : X u t.heap := hB
  rw [ht] at hB
  exact kk H1 locs1 ls hB hS1 hls
theorem g_cSl (n : Nat) {r : Int64} (F : Fx K cc own Kf fr lo) (hok : KfOk (kA K) Kf) (hM : Cl (kl K) y cc2 maxL ret fr2 lo2 X Kf (kA K) S As r S') (wy : Ws y cc2 maxL ret k) (hl : Cond.methodLink own idx y ∈ wT) (hR : fr2 + 1 ≤ fr ∧ 8 + (maxL + 11) + lo2 ≤ lo) (hst : st0 = As.reverse ++ st) (hk : As.length = k) (hcat : (st.map fun v => v.category).sum ≤ 8) (hcs : cs ≤ (kR K).cells ∧ sl ≤ (kR K).slots) (d : decode cc pc = .ok (.invokestatic idx, 3)) (hn : pc + 3 = n) (kk : G K X cs sl n S' lv (.long r :: st)) : G K X cs sl pc S lv st0 := by
  subst hn
  intro H locs ls hX hS hls
  refine va_calll (va_runS (As := As) (rest := st) ⟨F.1, F.2.1, F.2.2.1, F.2.2.2.1, F.2.2.2.2.1⟩ hM (cw_S F wy hl ⟨rfl, rfl, rfl, rfl⟩ hR) ⟨cPre_blind hok, fun U hU hW => ⟨rfl, cPre_at F hok hX hS U hU hW⟩⟩ rfl hk hls.1 hst (lv_room hcat) d hcs) hS (fun _ _ h => h) (fun _ h => h) (fun r' u t H1 locs1 ht hvm hw hB hz1 hk1 hS1 => ?_)
  obtain ⟨rfl, rfl⟩ := hw
  have hB : X u t.heap := hB
  rw [ht] at hB
  exact kk H1 locs1 ls hB hS1 hls
theorem g_cSv (n : Nat) (F : Fx K cc own Kf fr lo) (hok : KfOk (kA K) Kf) (hM : Cv (kl K) y cc2 maxL ret fr2 lo2 X Kf (kA K) S As S') (wy : Ws y cc2 maxL ret k) (hl : Cond.methodLink own idx y ∈ wT) (hR : fr2 + 1 ≤ fr ∧ 8 + (maxL + 11) + lo2 ≤ lo) (hst : st0 = As.reverse ++ st) (hk : As.length = k) (hcat : (st.map fun v => v.category).sum ≤ 8) (hcs : cs ≤ (kR K).cells ∧ sl ≤ (kR K).slots) (d : decode cc pc = .ok (.invokestatic idx, 3)) (hn : pc + 3 = n) (kk : G K X cs sl n S' lv st) : G K X cs sl pc S lv st0 := by
  subst hn
  intro H locs ls hX hS hls
  refine va_callv (va_runS (As := As) (rest := st) ⟨F.1, F.2.1, F.2.2.1, F.2.2.2.1, F.2.2.2.2.1⟩ hM (cw_S F wy hl ⟨rfl, rfl, rfl, rfl⟩ hR) ⟨cPre_blind hok, fun U hU hW => ⟨rfl, cPre_at F hok hX hS U hU hW⟩⟩ rfl hk hls.1 hst (lv_room hcat) d hcs) hS (fun _ _ h => h) (fun _ h => h) (fun u t H1 locs1 ht hvm hw hB hz1 hk1 hS1 => ?_)
  subst hw
  have hB : X u t.heap := hB
  rw [ht] at hB
  exact kk H1 locs1 ls hB hS1 hls
theorem g_cSq (n : Nat) {r : Option Nat} (F : Fx K cc own Kf fr lo) (hok : KfOk (kA K) Kf) (hM : Cq (kl K) y cc2 maxL ret fr2 lo2 X Kf (kA K) S As r S') (wy : Ws y cc2 maxL ret k) (hl : Cond.methodLink own idx y ∈ wT) (hR : fr2 + 1 ≤ fr ∧ 8 + (maxL + 11) + lo2 ≤ lo) (hst : st0 = As.reverse ++ st) (hk : As.length = k) (hcat : (st.map fun v => v.category).sum ≤ 8) (hcs : cs ≤ (kR K).cells ∧ sl ≤ (kR K).slots) (d : decode cc pc = .ok (.invokestatic idx, 3)) (hn : pc + 3 = n) (kk : G K X cs sl n S' lv (va_rf r :: st)) : G K X cs sl pc S lv st0 := by
  subst hn
  intro H locs ls hX hS hls
  refine va_callq (va_runS (As := As) (rest := st) ⟨F.1, F.2.1, F.2.2.1, F.2.2.2.1, F.2.2.2.2.1⟩ hM (cw_S F wy hl ⟨rfl, rfl, rfl, rfl⟩ hR) ⟨cPre_blind hok, fun U hU hW => ⟨rfl, cPre_at F hok hX hS U hU hW⟩⟩ rfl hk hls.1 hst (lv_room hcat) d hcs) hS (fun _ _ h => h) (fun _ h => h) (fun r' u t H1 locs1 ht hvm hw hB hz1 hk1 hS1 => ?_)
  obtain ⟨rfl, rfl⟩ := hw
  have hB : X u t.heap := hB
  rw [ht] at hB
  exact kk H1 locs1 ls hB hS1 hls
theorem g_cVNi (n : Nat) {r : Int32} (F : Fx K cc own Kf fr lo) (hok : KfOk (kA K) Kf) (hM : Ci (kl K) y cc2 maxL ret fr2 lo2 X Kf (kA K) S (.ref b :: As) r S') (wy : Wy y cc2 maxL ret C k) (hl : va_Nw (.methodLinkNest own idx y host) (ks K)) (hrc : Rcv K X S b C) (hR : fr2 + 1 ≤ fr ∧ 8 + (maxL + 11) + lo2 ≤ lo) (hst : st0 = As.reverse ++ .ref b :: st) (hk : As.length = k) (hcat : (st.map fun v => v.category).sum ≤ 8) (hcs : cs ≤ (kR K).cells ∧ sl ≤ (kR K).slots) (d : decode cc pc = .ok (.invokevirtual idx, 3)) (hn : pc + 3 = n) (kk : G K X cs sl n S' lv (.int r :: st)) : G K X cs sl pc S lv st0 := by
  subst hn
  intro H locs ls hX hS hls
  refine va_calli (va_runVN (As := As) (rest := st) ⟨F.1, F.2.1, F.2.2.1, F.2.2.2.1, F.2.2.2.2.1⟩ hM (cw_VN F wy hl ⟨rfl, rfl, rfl, rfl⟩ hR) ⟨cPre_blind hok, hrc H hX, fun U hU hW => ⟨rfl, cPre_at F hok hX hS U hU hW⟩⟩ rfl hk hls.1 hst (lv_room hcat) d hcs) hS (fun _ _ h => h) (fun _ h => h) (fun r' u t H1 locs1 ht hvm hw hB hz1 hk1 hS1 => ?_)
  obtain ⟨rfl, rfl⟩ := hw
  have hB : X u t.heap := hB
  rw [ht] at hB
  exact kk H1 locs1 ls hB hS1 hls
theorem g_cVNv (n : Nat) (F : Fx K cc own Kf fr lo) (hok : KfOk (kA K) Kf) (hM : Cv (kl K) y cc2 maxL ret fr2 lo2 X Kf (kA K) S (.ref b :: As) S') (wy : Wy y cc2 maxL ret C k) (hl : va_Nw (.methodLinkNest own idx y host) (ks K)) (hrc : Rcv K X S b C) (hR : fr2 + 1 ≤ fr ∧ 8 + (maxL + 11) + lo2 ≤ lo) (hst : st0 = As.reverse ++ .ref b :: st) (hk : As.length = k) (hcat : (st.map fun v => v.category).sum ≤ 8) (hcs : cs ≤ (kR K).cells ∧ sl ≤ (kR K).slots) (d : decode cc pc = .ok (.invokevirtual idx, 3)) (hn : pc + 3 = n) (kk : G K X cs sl n S' lv st) : G K X cs sl pc S lv st0 := by
  subst hn
  intro H locs ls hX hS hls
  refine va_callv (va_runVN (As := As) (rest := st) ⟨F.1, F.2.1, F.2.2.1, F.2.2.2.1, F.2.2.2.2.1⟩ hM (cw_VN F wy hl ⟨rfl, rfl, rfl, rfl⟩ hR) ⟨cPre_blind hok, hrc H hX, fun U hU hW => ⟨rfl, cPre_at F hok hX hS U hU hW⟩⟩ rfl hk hls.1 hst (lv_room hcat) d hcs) hS (fun _ _ h => h) (fun _ h => h) (fun u t H1 locs1 ht hvm hw hB hz1 hk1 hS1 => ?_)
  subst hw
  have hB : X u t.heap := hB
  rw [ht] at hB
  exact kk H1 locs1 ls hB hS1 hls
theorem g_cVNq (n : Nat) {r : Option Nat} (F : Fx K cc own Kf fr lo) (hok : KfOk (kA K) Kf) (hM : Cq (kl K) y cc2 maxL ret fr2 lo2 X Kf (kA K) S (.ref b :: As) r S') (wy : Wy y cc2 maxL ret C k) (hl : va_Nw (.methodLinkNest own idx y host) (ks K)) (hrc : Rcv K X S b C) (hR : fr2 + 1 ≤ fr ∧ 8 + (maxL + 11) + lo2 ≤ lo) (hst : st0 = As.reverse ++ .ref b :: st) (hk : As.length = k) (hcat : (st.map fun v => v.category).sum ≤ 8) (hcs : cs ≤ (kR K).cells ∧ sl ≤ (kR K).slots) (d : decode cc pc = .ok (.invokevirtual idx, 3)) (hn : pc + 3 = n) (kk : G K X cs sl n S' lv (va_rf r :: st)) : G K X cs sl pc S lv st0 := by
  subst hn
  intro H locs ls hX hS hls
  refine va_callq (va_runVN (As := As) (rest := st) ⟨F.1, F.2.1, F.2.2.1, F.2.2.2.1, F.2.2.2.2.1⟩ hM (cw_VN F wy hl ⟨rfl, rfl, rfl, rfl⟩ hR) ⟨cPre_blind hok, hrc H hX, fun U hU hW => ⟨rfl, cPre_at F hok hX hS U hU hW⟩⟩ rfl hk hls.1 hst (lv_room hcat) d hcs) hS (fun _ _ h => h) (fun _ h => h) (fun r' u t H1 locs1 ht hvm hw hB hz1 hk1 hS1 => ?_)
  obtain ⟨rfl, rfl⟩ := hw
  have hB : X u t.heap := hB
  rw [ht] at hB
  exact kk H1 locs1 ls hB hS1 hls
theorem g_cSNi (n : Nat) {r : Int32} (F : Fx K cc own Kf fr lo) (hok : KfOk (kA K) Kf) (hM : Ci (kl K) y cc2 maxL ret fr2 lo2 X Kf (kA K) S As r S') (wy : Ws y cc2 maxL ret k) (hl : va_Nw (.methodLinkNest own idx y host) (ks K)) (hR : fr2 + 1 ≤ fr ∧ 8 + (maxL + 11) + lo2 ≤ lo) (hst : st0 = As.reverse ++ st) (hk : As.length = k) (hcat : (st.map fun v => v.category).sum ≤ 8) (hcs : cs ≤ (kR K).cells ∧ sl ≤ (kR K).slots) (d : decode cc pc = .ok (.invokestatic idx, 3)) (hn : pc + 3 = n) (kk : G K X cs sl n S' lv (.int r :: st)) : G K X cs sl pc S lv st0 := by
  subst hn
  intro H locs ls hX hS hls
  refine va_calli (va_runSN (As := As) (rest := st) ⟨F.1, F.2.1, F.2.2.1, F.2.2.2.1, F.2.2.2.2.1⟩ hM (cw_SN F wy hl ⟨rfl, rfl, rfl, rfl⟩ hR) ⟨cPre_blind hok, fun U hU hW => ⟨rfl, cPre_at F hok hX hS U hU hW⟩⟩ rfl hk hls.1 hst (lv_room hcat) d hcs) hS (fun _ _ h => h) (fun _ h => h) (fun r' u t H1 locs1 ht hvm hw hB hz1 hk1 hS1 => ?_)
  obtain ⟨rfl, rfl⟩ := hw
  have hB : X u t.heap := hB
  rw [ht] at hB
  exact kk H1 locs1 ls hB hS1 hls
theorem g_cSNl (n : Nat) {r : Int64} (F : Fx K cc own Kf fr lo) (hok : KfOk (kA K) Kf) (hM : Cl (kl K) y cc2 maxL ret fr2 lo2 X Kf (kA K) S As r S') (wy : Ws y cc2 maxL ret k) (hl : va_Nw (.methodLinkNest own idx y host) (ks K)) (hR : fr2 + 1 ≤ fr ∧ 8 + (maxL + 11) + lo2 ≤ lo) (hst : st0 = As.reverse ++ st) (hk : As.length = k) (hcat : (st.map fun v => v.category).sum ≤ 8) (hcs : cs ≤ (kR K).cells ∧ sl ≤ (kR K).slots) (d : decode cc pc = .ok (.invokestatic idx, 3)) (hn : pc + 3 = n) (kk : G K X cs sl n S' lv (.long r :: st)) : G K X cs sl pc S lv st0 := by
  subst hn
  intro H locs ls hX hS hls
  refine va_calll (va_runSN (As := As) (rest := st) ⟨F.1, F.2.1, F.2.2.1, F.2.2.2.1, F.2.2.2.2.1⟩ hM (cw_SN F wy hl ⟨rfl, rfl, rfl, rfl⟩ hR) ⟨cPre_blind hok, fun U hU hW => ⟨rfl, cPre_at F hok hX hS U hU hW⟩⟩ rfl hk hls.1 hst (lv_room hcat) d hcs) hS (fun _ _ h => h) (fun _ h => h) (fun r' u t H1 locs1 ht hvm hw hB hz1 hk1 hS1 => ?_)
  obtain ⟨rfl, rfl⟩ := hw
  have hB : X u t.heap := hB
  rw [ht] at hB
  exact kk H1 locs1 ls hB hS1 hls
theorem g_cSNv (n : Nat) (F : Fx K cc own Kf fr lo) (hok : KfOk (kA K) Kf) (hM : Cv (kl K) y cc2 maxL ret fr2 lo2 X Kf (kA K) S As S') (wy : Ws y cc2 maxL ret k) (hl : va_Nw (.methodLinkNest own idx y host) (ks K)) (hR : fr2 + 1 ≤ fr ∧ 8 + (maxL + 11) + lo2 ≤ lo) (hst : st0 = As.reverse ++ st) (hk : As.length = k) (hcat : (st.map fun v => v.category).sum ≤ 8) (hcs : cs ≤ (kR K).cells ∧ sl ≤ (kR K).slots) (d : decode cc pc = .ok (.invokestatic idx, 3)) (hn : pc + 3 = n) (kk : G K X cs sl n S' lv st) : G K X cs sl pc S lv st0 := by
  subst hn
  intro H locs ls hX hS hls
  refine va_callv (va_runSN (As := As) (rest := st) ⟨F.1, F.2.1, F.2.2.1, F.2.2.2.1, F.2.2.2.2.1⟩ hM (cw_SN F wy hl ⟨rfl, rfl, rfl, rfl⟩ hR) ⟨cPre_blind hok, fun U hU hW => ⟨rfl, cPre_at F hok hX hS U hU hW⟩⟩ rfl hk hls.1 hst (lv_room hcat) d hcs) hS (fun _ _ h => h) (fun _ h => h) (fun u t H1 locs1 ht hvm hw hB hz1 hk1 hS1 => ?_)
  subst hw
  have hB : X u t.heap := hB
  rw [ht] at hB
  exact kk H1 locs1 ls hB hS1 hls
theorem g_cSNq (n : Nat) {r : Option Nat} (F : Fx K cc own Kf fr lo) (hok : KfOk (kA K) Kf) (hM : Cq (kl K) y cc2 maxL ret fr2 lo2 X Kf (kA K) S As r S') (wy : Ws y cc2 maxL ret k) (hl : va_Nw (.methodLinkNest own idx y host) (ks K)) (hR : fr2 + 1 ≤ fr ∧ 8 + (maxL + 11) + lo2 ≤ lo) (hst : st0 = As.reverse ++ st) (hk : As.length = k) (hcat : (st.map fun v => v.category).sum ≤ 8) (hcs : cs ≤ (kR K).cells ∧ sl ≤ (kR K).slots) (d : decode cc pc = .ok (.invokestatic idx, 3)) (hn : pc + 3 = n) (kk : G K X cs sl n S' lv (va_rf r :: st)) : G K X cs sl pc S lv st0 := by
  subst hn
  intro H locs ls hX hS hls
  refine va_callq (va_runSN (As := As) (rest := st) ⟨F.1, F.2.1, F.2.2.1, F.2.2.2.1, F.2.2.2.2.1⟩ hM (cw_SN F wy hl ⟨rfl, rfl, rfl, rfl⟩ hR) ⟨cPre_blind hok, fun U hU hW => ⟨rfl, cPre_at F hok hX hS U hU hW⟩⟩ rfl hk hls.1 hst (lv_room hcat) d hcs) hS (fun _ _ h => h) (fun _ h => h) (fun r' u t H1 locs1 ht hvm hw hB hz1 hk1 hS1 => ?_)
  obtain ⟨rfl, rfl⟩ := hw
  have hB : X u t.heap := hB
  rw [ht] at hB
  exact kk H1 locs1 ls hB hS1 hls
end Calls
section Mets
variable {σ : Type} {l : Launch} {y : MethodName} {cc : ByteArray} {maxL fr lo : Nat} {X : σ → Heap → Prop} {Kf : State → Prop} {A : Nat → Prop} {S S' : σ} {av : List Value}
theorem met_entry {ret : Option FieldType} {rm : Room} {Qc : Array Value → State → Outcome → State → Prop} {mc ms : Nat} (hy : plainName y.cls = true) (hlen : (lg_sl av).length ≤ maxL) (hrm : rm.frames = fr ∧ rm.locals = lo)
    (walk : ∀ (K : Ctx), kl K = l → kA K = A → kn K = maxL → kR K = rm → Fx K cc y.cls Kf fr lo → (kh K).sig.returnType = ret → (kh K).locks = false → kQ K = MQ (kb K) Qc (ka K) (ks K) mc ms A → (kh K).name = y.name → G K X 0 0 0 S (lv_args 0 av) []) :
    Met l y (.code y cc maxL ret :: wT) rm (va_Pc av (cPre X Kf A S)) Qc mc ms A := by
  refine Met.ofW (cc := cc) (maxL := maxL) (ret := ret) hy rfl ?_
  intro p e s m args below meth c s₁ B hml hv
  obtain ⟨rfl, hX, hKf, hA⟩ := hv
  have hts := atoms_spec (ws := .code y cc maxL ret :: wT) B.pre
  rw [lg_entry_eq]
  exact walk (p, l, e, rm, s, m, av.toArray, below, meth, c, A, maxL, MQ below Qc av.toArray s mc ms A) rfl rfl rfl rfl
    ⟨B.exec, B.bytes, hml, findClass_of_methodNamed B.named, fun w hw => hts w (List.mem_cons_of_mem _ hw), hKf, hA, by rw [← hrm.1]; exact Nat.le_refl _, by rw [← hrm.2]; exact Nat.le_refl _⟩ B.returns B.notSynchronized rfl (name_of_methodNamed B.named B.method).1
    s.heap [] _ hX va_S.rf (lv_entry av hlen)

theorem met_i {r : Int32} (hy : plainName y.cls = true) (hlen : (lg_sl av).length ≤ maxL) (walk : ∀ (K : Ctx), kl K = l → kA K = A → kn K = maxL → Fx K cc y.cls Kf fr lo → (∀ (pc : Nat) (lv : List (Nat × Value)), decode cc pc = .ok (.ireturn, 1) → G K X 0 0 pc S' lv [.int r]) → G K X 0 0 0 S (lv_args 0 av) []) : Ci l y cc maxL (some .int) fr lo X Kf A S av r S' := by
  refine met_entry (fr := fr) (lo := lo) hy hlen ⟨rfl, rfl⟩ (fun K hl hA hn hR F hr hlk hQ _ => walk K hl hA hn F ?_)
  intro pc lv d H locs ls hX hS hls
  subst hA
  rw [hQ]
  exact W.iret F.1 F.2.1 hr (fun t ht hW => ⟨⟨r, S', rfl, ⟨rfl, rfl⟩, by show X S' t.heap; rw [ht]; exact hX⟩, hS.F ht⟩) hS.2.2 d hlk
theorem met_z {r : Bool} (hy : plainName y.cls = true) (hlen : (lg_sl av).length ≤ maxL) (walk : ∀ (K : Ctx), kl K = l → kA K = A → kn K = maxL → Fx K cc y.cls Kf fr lo → (∀ (pc : Nat) (lv : List (Nat × Value)), decode cc pc = .ok (.ireturn, 1) → G K X 0 0 pc S' lv [.int (bI r)]) → G K X 0 0 0 S (lv_args 0 av) []) : Ci l y cc maxL (some .boolean) fr lo X Kf A S av (bI r) S' := by
  refine met_entry (fr := fr) (lo := lo) hy hlen ⟨rfl, rfl⟩ (fun K hl hA hn hR F hr hlk hQ _ => walk K hl hA hn F ?_)
  intro pc lv d H locs ls hX hS hls
  subst hA
  rw [hQ]
  exact W.zret F.1 F.2.1 hr (bI_narrow r) (fun t ht hW => ⟨⟨bI r, S', rfl, ⟨rfl, rfl⟩, by show X S' t.heap; rw [ht]; exact hX⟩, hS.F ht⟩) hS.2.2 d hlk
theorem met_l {r : Int64} (hy : plainName y.cls = true) (hlen : (lg_sl av).length ≤ maxL) (walk : ∀ (K : Ctx), kl K = l → kA K = A → kn K = maxL → Fx K cc y.cls Kf fr lo → (∀ (pc : Nat) (lv : List (Nat × Value)), decode cc pc = .ok (.lreturn, 1) → G K X 0 0 pc S' lv [.long r]) → G K X 0 0 0 S (lv_args 0 av) []) : Cl l y cc maxL (some .long) fr lo X Kf A S av r S' := by
  refine met_entry (fr := fr) (lo := lo) hy hlen ⟨rfl, rfl⟩ (fun K hl hA hn hR F hr hlk hQ _ => walk K hl hA hn F ?_)
  intro pc lv d H locs ls hX hS hls
  subst hA
  rw [hQ]
  exact W.lret F.1 F.2.1 hr (fun t ht hW => ⟨⟨r, S', rfl, ⟨rfl, rfl⟩, by show X S' t.heap; rw [ht]; exact hX⟩, hS.F ht⟩) hS.2.2 d hlk
theorem met_v (hy : plainName y.cls = true) (hlen : (lg_sl av).length ≤ maxL) (walk : ∀ (K : Ctx), kl K = l → kA K = A → kn K = maxL → Fx K cc y.cls Kf fr lo → (∀ (pc : Nat) (lv : List (Nat × Value)), decode cc pc = .ok (.return_, 1) → G K X 0 0 pc S' lv []) → G K X 0 0 0 S (lv_args 0 av) []) : Cv l y cc maxL none fr lo X Kf A S av S' := by
  refine met_entry (fr := fr) (lo := lo) hy hlen ⟨rfl, rfl⟩ (fun K hl hA hn hR F hr hlk hQ _ => walk K hl hA hn F ?_)
  intro pc lv d H locs ls hX hS hls
  subst hA
  rw [hQ]
  exact W.vret F.1 F.2.1 hr (fun t ht hW => ⟨⟨S', rfl, rfl, by show X S' t.heap; rw [ht]; exact hX⟩, hS.F ht⟩) hS.2.2 d hlk
theorem met_q {r : Option Nat} {rt : FieldType} (hrt : (∃ n, rt = .object n) ∨ ∃ t, rt = .array t) (hy : plainName y.cls = true) (hlen : (lg_sl av).length ≤ maxL) (walk : ∀ (K : Ctx), kl K = l → kA K = A → kn K = maxL → Fx K cc y.cls Kf fr lo → (∀ (pc : Nat) (lv : List (Nat × Value)), decode cc pc = .ok (.areturn, 1) → G K X 0 0 pc S' lv [va_rf r]) → G K X 0 0 0 S (lv_args 0 av) []) : Cq l y cc maxL (some rt) fr lo X Kf A S av r S' := by
  refine met_entry (fr := fr) (lo := lo) hy hlen ⟨rfl, rfl⟩ (fun K hl hA hn hR F hr hlk hQ _ => walk K hl hA hn F ?_)
  intro pc lv d H locs ls hX hS hls
  subst hA
  rw [hQ]
  exact W.aret F.1 F.2.1 hr hrt (by cases r with | none => exact Or.inl rfl | some a => exact Or.inr ⟨a, rfl⟩) (fun t ht hW => ⟨⟨r, S', rfl, ⟨rfl, rfl⟩, by show X S' t.heap; rw [ht]; exact hX⟩, hS.F ht⟩) hS.2.2 d hlk
end Mets
end
section
theorem tc_X0_init : Cond.code yX0_init cX0_init 1 none ∈ wT := wT_1 (List.mem_of_getElem? (i := 32) (by decide +kernel)) (by decide +kernel)
theorem tc_X0_become : Cond.code yX0_become cX0_become 4 none ∈ wT := wT_1 (List.mem_of_getElem? (i := 200) (by decide +kernel)) (by decide +kernel)
theorem wy_X0_become : Wy yX0_become cX0_become 4 none RX0 1 := ⟨tc_X0_become, wT_1 (List.mem_of_getElem? (i := 198) (by decide +kernel)) (by decide +kernel), wT_1 (List.mem_of_getElem? (i := 199) (by decide +kernel)) (by decide +kernel), wT_1 (List.mem_of_getElem? (i := 2) (by decide +kernel)) (by decide +kernel), by decide +kernel, by decide +kernel, by decide +kernel⟩
theorem tc_X0_settingOrNone : Cond.code yX0_settingOrNone cX0_settingOrNone 2 (some .int) ∈ wT := wT_3 (List.mem_of_getElem? (i := 79) (by decide +kernel)) (by decide +kernel)
theorem wy_X0_settingOrNone : Wy yX0_settingOrNone cX0_settingOrNone 2 (some .int) RX0 1 := ⟨tc_X0_settingOrNone, wT_3 (List.mem_of_getElem? (i := 77) (by decide +kernel)) (by decide +kernel), wT_3 (List.mem_of_getElem? (i := 78) (by decide +kernel)) (by decide +kernel), wT_1 (List.mem_of_getElem? (i := 2) (by decide +kernel)) (by decide +kernel), by decide +kernel, by decide +kernel, by decide +kernel⟩
theorem tc_X0_enter : Cond.code yX0_enter cX0_enter 2 (some .int) ∈ wT := wT_2 (List.mem_of_getElem? (i := 208) (by decide +kernel)) (by decide +kernel)
theorem wy_X0_enter : Wy yX0_enter cX0_enter 2 (some .int) RX0 1 := ⟨tc_X0_enter, wT_2 (List.mem_of_getElem? (i := 206) (by decide +kernel)) (by decide +kernel), wT_2 (List.mem_of_getElem? (i := 207) (by decide +kernel)) (by decide +kernel), wT_1 (List.mem_of_getElem? (i := 2) (by decide +kernel)) (by decide +kernel), by decide +kernel, by decide +kernel, by decide +kernel⟩
theorem tc_X0_change : Cond.code yX0_change cX0_change 3 (some .boolean) ∈ wT := wT_2 (List.mem_of_getElem? (i := 220) (by decide +kernel)) (by decide +kernel)
theorem wy_X0_change : Wy yX0_change cX0_change 3 (some .boolean) RX0 2 := ⟨tc_X0_change, wT_2 (List.mem_of_getElem? (i := 218) (by decide +kernel)) (by decide +kernel), wT_2 (List.mem_of_getElem? (i := 219) (by decide +kernel)) (by decide +kernel), wT_1 (List.mem_of_getElem? (i := 2) (by decide +kernel)) (by decide +kernel), by decide +kernel, by decide +kernel, by decide +kernel⟩
theorem tc_X0_goOn : Cond.code yX0_goOn cX0_goOn 6 (some .int) ∈ wT := wT_2 (List.mem_of_getElem? (i := 225) (by decide +kernel)) (by decide +kernel)
theorem wy_X0_goOn : Wy yX0_goOn cX0_goOn 6 (some .int) RX0 2 := ⟨tc_X0_goOn, wT_2 (List.mem_of_getElem? (i := 223) (by decide +kernel)) (by decide +kernel), wT_2 (List.mem_of_getElem? (i := 224) (by decide +kernel)) (by decide +kernel), wT_1 (List.mem_of_getElem? (i := 2) (by decide +kernel)) (by decide +kernel), by decide +kernel, by decide +kernel, by decide +kernel⟩
theorem tc_X0_hoursTo : Cond.code yX0_hoursTo cX0_hoursTo 3 (some .int) ∈ wT := wT_2 (List.mem_of_getElem? (i := 231) (by decide +kernel)) (by decide +kernel)
theorem wy_X0_hoursTo : Wy yX0_hoursTo cX0_hoursTo 3 (some .int) RX0 2 := ⟨tc_X0_hoursTo, wT_2 (List.mem_of_getElem? (i := 230) (by decide +kernel)) (by decide +kernel), wT_0 (List.mem_of_getElem? (i := 13) (by decide +kernel)) (by decide +kernel), wT_1 (List.mem_of_getElem? (i := 2) (by decide +kernel)) (by decide +kernel), by decide +kernel, by decide +kernel, by decide +kernel⟩
theorem tc_X0_beginQuarter : Cond.code yX0_beginQuarter cX0_beginQuarter 5 (some .int) ∈ wT := wT_2 (List.mem_of_getElem? (i := 235) (by decide +kernel)) (by decide +kernel)
theorem wy_X0_beginQuarter : Wy yX0_beginQuarter cX0_beginQuarter 5 (some .int) RX0 1 := ⟨tc_X0_beginQuarter, wT_2 (List.mem_of_getElem? (i := 234) (by decide +kernel)) (by decide +kernel), wT_0 (List.mem_of_getElem? (i := 14) (by decide +kernel)) (by decide +kernel), wT_1 (List.mem_of_getElem? (i := 2) (by decide +kernel)) (by decide +kernel), by decide +kernel, by decide +kernel, by decide +kernel⟩
theorem tc_X0_enterSpan : Cond.code yX0_enterSpan cX0_enterSpan 12 (some .int) ∈ wT := wT_3 (List.mem_of_getElem? (i := 7) (by decide +kernel)) (by decide +kernel)
theorem wy_X0_enterSpan : Wy yX0_enterSpan cX0_enterSpan 12 (some .int) RX0 5 := ⟨tc_X0_enterSpan, wT_3 (List.mem_of_getElem? (i := 5) (by decide +kernel)) (by decide +kernel), wT_3 (List.mem_of_getElem? (i := 6) (by decide +kernel)) (by decide +kernel), wT_1 (List.mem_of_getElem? (i := 2) (by decide +kernel)) (by decide +kernel), by decide +kernel, by decide +kernel, by decide +kernel⟩
theorem tc_X0_mayStart : Cond.code yX0_mayStart cX0_mayStart 5 (some .boolean) ∈ wT := wT_3 (List.mem_of_getElem? (i := 14) (by decide +kernel)) (by decide +kernel)
theorem wy_X0_mayStart : Wy yX0_mayStart cX0_mayStart 5 (some .boolean) RX0 3 := ⟨tc_X0_mayStart, wT_3 (List.mem_of_getElem? (i := 13) (by decide +kernel)) (by decide +kernel), wT_0 (List.mem_of_getElem? (i := 15) (by decide +kernel)) (by decide +kernel), wT_1 (List.mem_of_getElem? (i := 2) (by decide +kernel)) (by decide +kernel), by decide +kernel, by decide +kernel, by decide +kernel⟩
theorem tc_X0_noteLateChange : Cond.code yX0_noteLateChange cX0_noteLateChange 2 none ∈ wT := wT_3 (List.mem_of_getElem? (i := 27) (by decide +kernel)) (by decide +kernel)
theorem wy_X0_noteLateChange : Wy yX0_noteLateChange cX0_noteLateChange 2 none RX0 1 := ⟨tc_X0_noteLateChange, wT_3 (List.mem_of_getElem? (i := 26) (by decide +kernel)) (by decide +kernel), wT_0 (List.mem_of_getElem? (i := 16) (by decide +kernel)) (by decide +kernel), wT_1 (List.mem_of_getElem? (i := 2) (by decide +kernel)) (by decide +kernel), by decide +kernel, by decide +kernel, by decide +kernel⟩
theorem tc_X0_visit : Cond.code yX0_visit cX0_visit 5 (some .int) ∈ wT := wT_3 (List.mem_of_getElem? (i := 31) (by decide +kernel)) (by decide +kernel)
theorem wy_X0_visit : Wy yX0_visit cX0_visit 5 (some .int) RX0 3 := ⟨tc_X0_visit, wT_3 (List.mem_of_getElem? (i := 29) (by decide +kernel)) (by decide +kernel), wT_3 (List.mem_of_getElem? (i := 30) (by decide +kernel)) (by decide +kernel), wT_1 (List.mem_of_getElem? (i := 2) (by decide +kernel)) (by decide +kernel), by decide +kernel, by decide +kernel, by decide +kernel⟩
theorem tc_X0_strike : Cond.code yX0_strike cX0_strike 4 (some .boolean) ∈ wT := wT_3 (List.mem_of_getElem? (i := 36) (by decide +kernel)) (by decide +kernel)
theorem wy_X0_strike : Wy yX0_strike cX0_strike 4 (some .boolean) RX0 2 := ⟨tc_X0_strike, wT_3 (List.mem_of_getElem? (i := 34) (by decide +kernel)) (by decide +kernel), wT_3 (List.mem_of_getElem? (i := 35) (by decide +kernel)) (by decide +kernel), wT_1 (List.mem_of_getElem? (i := 2) (by decide +kernel)) (by decide +kernel), by decide +kernel, by decide +kernel, by decide +kernel⟩
theorem tc_X0_bitsOfThose : Cond.code yX0_bitsOfThose cX0_bitsOfThose 8 (some .int) ∈ wT := wT_3 (List.mem_of_getElem? (i := 180) (by decide +kernel)) (by decide +kernel)
theorem wy_X0_bitsOfThose : Wy yX0_bitsOfThose cX0_bitsOfThose 8 (some .int) RX0 3 := ⟨tc_X0_bitsOfThose, wT_3 (List.mem_of_getElem? (i := 178) (by decide +kernel)) (by decide +kernel), wT_3 (List.mem_of_getElem? (i := 179) (by decide +kernel)) (by decide +kernel), wT_1 (List.mem_of_getElem? (i := 2) (by decide +kernel)) (by decide +kernel), by decide +kernel, by decide +kernel, by decide +kernel⟩
theorem tc_X0_fullestPlace : Cond.code yX0_fullestPlace cX0_fullestPlace 7 (some .int) ∈ wT := wT_3 (List.mem_of_getElem? (i := 176) (by decide +kernel)) (by decide +kernel)
theorem wy_X0_fullestPlace : Wy yX0_fullestPlace cX0_fullestPlace 7 (some .int) RX0 2 := ⟨tc_X0_fullestPlace, wT_3 (List.mem_of_getElem? (i := 174) (by decide +kernel)) (by decide +kernel), wT_3 (List.mem_of_getElem? (i := 175) (by decide +kernel)) (by decide +kernel), wT_1 (List.mem_of_getElem? (i := 2) (by decide +kernel)) (by decide +kernel), by decide +kernel, by decide +kernel, by decide +kernel⟩
theorem tc_X1_init : Cond.code yX1_init cX1_init 1 none ∈ wT := wT_1 (List.mem_of_getElem? (i := 215) (by decide +kernel)) (by decide +kernel)
theorem tc_X1_slotOf : Cond.code yX1_slotOf cX1_slotOf 2 (some .int) ∈ wT := wT_3 (List.mem_of_getElem? (i := 20) (by decide +kernel)) (by decide +kernel)
theorem ws_X1_slotOf : Ws yX1_slotOf cX1_slotOf 2 (some .int) 2 := ⟨tc_X1_slotOf, wT_3 (List.mem_of_getElem? (i := 19) (by decide +kernel)) (by decide +kernel), wT_1 (List.mem_of_getElem? (i := 8) (by decide +kernel)) (by decide +kernel), by decide +kernel, by decide +kernel, by decide +kernel⟩
theorem tc_X1_hourOf : Cond.code yX1_hourOf cX1_hourOf 1 (some .int) ∈ wT := wT_3 (List.mem_of_getElem? (i := 17) (by decide +kernel)) (by decide +kernel)
theorem ws_X1_hourOf : Ws yX1_hourOf cX1_hourOf 1 (some .int) 1 := ⟨tc_X1_hourOf, wT_3 (List.mem_of_getElem? (i := 16) (by decide +kernel)) (by decide +kernel), wT_1 (List.mem_of_getElem? (i := 8) (by decide +kernel)) (by decide +kernel), by decide +kernel, by decide +kernel, by decide +kernel⟩
theorem tc_X1_placeOf : Cond.code yX1_placeOf cX1_placeOf 1 (some .int) ∈ wT := wT_3 (List.mem_of_getElem? (i := 90) (by decide +kernel)) (by decide +kernel)
theorem ws_X1_placeOf : Ws yX1_placeOf cX1_placeOf 1 (some .int) 1 := ⟨tc_X1_placeOf, wT_3 (List.mem_of_getElem? (i := 89) (by decide +kernel)) (by decide +kernel), wT_1 (List.mem_of_getElem? (i := 8) (by decide +kernel)) (by decide +kernel), by decide +kernel, by decide +kernel, by decide +kernel⟩
theorem tc_X1_begin : Cond.code yX1_begin cX1_begin 3 none ∈ wT := wT_2 (List.mem_of_getElem? (i := 213) (by decide +kernel)) (by decide +kernel)
theorem wy_X1_begin : Wy yX1_begin cX1_begin 3 none RX1 2 := ⟨tc_X1_begin, wT_2 (List.mem_of_getElem? (i := 211) (by decide +kernel)) (by decide +kernel), wT_2 (List.mem_of_getElem? (i := 212) (by decide +kernel)) (by decide +kernel), wT_1 (List.mem_of_getElem? (i := 8) (by decide +kernel)) (by decide +kernel), by decide +kernel, by decide +kernel, by decide +kernel⟩
theorem tc_X1_become : Cond.code yX1_become cX1_become 2 none ∈ wT := wT_2 (List.mem_of_getElem? (i := 35) (by decide +kernel)) (by decide +kernel)
theorem wy_X1_become : Wy yX1_become cX1_become 2 none RX1 1 := ⟨tc_X1_become, wT_2 (List.mem_of_getElem? (i := 33) (by decide +kernel)) (by decide +kernel), wT_2 (List.mem_of_getElem? (i := 34) (by decide +kernel)) (by decide +kernel), wT_1 (List.mem_of_getElem? (i := 8) (by decide +kernel)) (by decide +kernel), by decide +kernel, by decide +kernel, by decide +kernel⟩
theorem tc_X1_hasFailure : Cond.code yX1_hasFailure cX1_hasFailure 2 (some .boolean) ∈ wT := wT_2 (List.mem_of_getElem? (i := 194) (by decide +kernel)) (by decide +kernel)
theorem wy_X1_hasFailure : Wy yX1_hasFailure cX1_hasFailure 2 (some .boolean) RX1 1 := ⟨tc_X1_hasFailure, wT_2 (List.mem_of_getElem? (i := 192) (by decide +kernel)) (by decide +kernel), wT_2 (List.mem_of_getElem? (i := 193) (by decide +kernel)) (by decide +kernel), wT_1 (List.mem_of_getElem? (i := 8) (by decide +kernel)) (by decide +kernel), by decide +kernel, by decide +kernel, by decide +kernel⟩
theorem tc_X1_note : Cond.code yX1_note cX1_note 3 (some .int) ∈ wT := wT_3 (List.mem_of_getElem? (i := 3) (by decide +kernel)) (by decide +kernel)
theorem wy_X1_note : Wy yX1_note cX1_note 3 (some .int) RX1 2 := ⟨tc_X1_note, wT_3 (List.mem_of_getElem? (i := 1) (by decide +kernel)) (by decide +kernel), wT_3 (List.mem_of_getElem? (i := 2) (by decide +kernel)) (by decide +kernel), wT_1 (List.mem_of_getElem? (i := 8) (by decide +kernel)) (by decide +kernel), by decide +kernel, by decide +kernel, by decide +kernel⟩
theorem tc_X1_firstGap : Cond.code yX1_firstGap cX1_firstGap 4 (some .int) ∈ wT := wT_2 (List.mem_of_getElem? (i := 239) (by decide +kernel)) (by decide +kernel)
theorem wy_X1_firstGap : Wy yX1_firstGap cX1_firstGap 4 (some .int) RX1 1 := ⟨tc_X1_firstGap, wT_2 (List.mem_of_getElem? (i := 237) (by decide +kernel)) (by decide +kernel), wT_2 (List.mem_of_getElem? (i := 238) (by decide +kernel)) (by decide +kernel), wT_1 (List.mem_of_getElem? (i := 8) (by decide +kernel)) (by decide +kernel), by decide +kernel, by decide +kernel, by decide +kernel⟩
theorem tc_X2_init : Cond.code yX2_init cX2_init 1 none ∈ wT := wT_1 (List.mem_of_getElem? (i := 70) (by decide +kernel)) (by decide +kernel)
theorem tc_X2_goThrough : Cond.code yX2_goThrough cX2_goThrough 5 none ∈ wT := wT_3 (List.mem_of_getElem? (i := 99) (by decide +kernel)) (by decide +kernel)
theorem wy_X2_goThrough : Wy yX2_goThrough cX2_goThrough 5 none RX2 3 := ⟨tc_X2_goThrough, wT_3 (List.mem_of_getElem? (i := 97) (by decide +kernel)) (by decide +kernel), wT_3 (List.mem_of_getElem? (i := 98) (by decide +kernel)) (by decide +kernel), wT_1 (List.mem_of_getElem? (i := 3) (by decide +kernel)) (by decide +kernel), by decide +kernel, by decide +kernel, by decide +kernel⟩
theorem tc_X2_add : Cond.code yX2_add cX2_add 4 none ∈ wT := wT_3 (List.mem_of_getElem? (i := 103) (by decide +kernel)) (by decide +kernel)
theorem wy_X2_add : Wy yX2_add cX2_add 4 none RX2 2 := ⟨tc_X2_add, wT_3 (List.mem_of_getElem? (i := 101) (by decide +kernel)) (by decide +kernel), wT_3 (List.mem_of_getElem? (i := 102) (by decide +kernel)) (by decide +kernel), wT_1 (List.mem_of_getElem? (i := 3) (by decide +kernel)) (by decide +kernel), by decide +kernel, by decide +kernel, by decide +kernel⟩
theorem tc_X2_isNoticed : Cond.code yX2_isNoticed cX2_isNoticed 2 (some .boolean) ∈ wT := wT_3 (List.mem_of_getElem? (i := 107) (by decide +kernel)) (by decide +kernel)
theorem wy_X2_isNoticed : Wy yX2_isNoticed cX2_isNoticed 2 (some .boolean) RX2 1 := ⟨tc_X2_isNoticed, wT_3 (List.mem_of_getElem? (i := 106) (by decide +kernel)) (by decide +kernel), wT_0 (List.mem_of_getElem? (i := 17) (by decide +kernel)) (by decide +kernel), wT_1 (List.mem_of_getElem? (i := 3) (by decide +kernel)) (by decide +kernel), by decide +kernel, by decide +kernel, by decide +kernel⟩
theorem tc_X2_doesCount : Cond.code yX2_doesCount cX2_doesCount 2 (some .boolean) ∈ wT := wT_3 (List.mem_of_getElem? (i := 115) (by decide +kernel)) (by decide +kernel)
theorem wy_X2_doesCount : Wy yX2_doesCount cX2_doesCount 2 (some .boolean) RX2 1 := ⟨tc_X2_doesCount, wT_3 (List.mem_of_getElem? (i := 113) (by decide +kernel)) (by decide +kernel), wT_3 (List.mem_of_getElem? (i := 114) (by decide +kernel)) (by decide +kernel), wT_1 (List.mem_of_getElem? (i := 3) (by decide +kernel)) (by decide +kernel), by decide +kernel, by decide +kernel, by decide +kernel⟩
theorem tc_X2_isOpen : Cond.code yX2_isOpen cX2_isOpen 2 (some .boolean) ∈ wT := wT_3 (List.mem_of_getElem? (i := 119) (by decide +kernel)) (by decide +kernel)
theorem wy_X2_isOpen : Wy yX2_isOpen cX2_isOpen 2 (some .boolean) RX2 1 := ⟨tc_X2_isOpen, wT_3 (List.mem_of_getElem? (i := 117) (by decide +kernel)) (by decide +kernel), wT_3 (List.mem_of_getElem? (i := 118) (by decide +kernel)) (by decide +kernel), wT_1 (List.mem_of_getElem? (i := 3) (by decide +kernel)) (by decide +kernel), by decide +kernel, by decide +kernel, by decide +kernel⟩
theorem tc_X2_pointsOn : Cond.code yX2_pointsOn cX2_pointsOn 4 (some .int) ∈ wT := wT_3 (List.mem_of_getElem? (i := 111) (by decide +kernel)) (by decide +kernel)
theorem wy_X2_pointsOn : Wy yX2_pointsOn cX2_pointsOn 4 (some .int) RX2 1 := ⟨tc_X2_pointsOn, wT_3 (List.mem_of_getElem? (i := 109) (by decide +kernel)) (by decide +kernel), wT_3 (List.mem_of_getElem? (i := 110) (by decide +kernel)) (by decide +kernel), wT_1 (List.mem_of_getElem? (i := 3) (by decide +kernel)) (by decide +kernel), by decide +kernel, by decide +kernel, by decide +kernel⟩
theorem tc_X2_dayOfOldestPoint : Cond.code yX2_dayOfOldestPoint cX2_dayOfOldestPoint 3 (some .int) ∈ wT := wT_3 (List.mem_of_getElem? (i := 216) (by decide +kernel)) (by decide +kernel)
theorem wy_X2_dayOfOldestPoint : Wy yX2_dayOfOldestPoint cX2_dayOfOldestPoint 3 (some .int) RX2 1 := ⟨tc_X2_dayOfOldestPoint, wT_3 (List.mem_of_getElem? (i := 214) (by decide +kernel)) (by decide +kernel), wT_3 (List.mem_of_getElem? (i := 215) (by decide +kernel)) (by decide +kernel), wT_1 (List.mem_of_getElem? (i := 3) (by decide +kernel)) (by decide +kernel), by decide +kernel, by decide +kernel, by decide +kernel⟩
theorem tc_X2_dayOfViolation : Cond.code yX2_dayOfViolation cX2_dayOfViolation 2 (some .int) ∈ wT := wT_3 (List.mem_of_getElem? (i := 128) (by decide +kernel)) (by decide +kernel)
theorem wy_X2_dayOfViolation : Wy yX2_dayOfViolation cX2_dayOfViolation 2 (some .int) RX2 1 := ⟨tc_X2_dayOfViolation, wT_3 (List.mem_of_getElem? (i := 126) (by decide +kernel)) (by decide +kernel), wT_3 (List.mem_of_getElem? (i := 127) (by decide +kernel)) (by decide +kernel), wT_1 (List.mem_of_getElem? (i := 3) (by decide +kernel)) (by decide +kernel), by decide +kernel, by decide +kernel, by decide +kernel⟩
theorem tc_X3_init : Cond.code yX3_init cX3_init 1 none ∈ wT := wT_1 (List.mem_of_getElem? (i := 109) (by decide +kernel)) (by decide +kernel)
theorem tc_X3_hasRoomForFive : Cond.code yX3_hasRoomForFive cX3_hasRoomForFive 1 (some .boolean) ∈ wT := wT_1 (List.mem_of_getElem? (i := 184) (by decide +kernel)) (by decide +kernel)
theorem wy_X3_hasRoomForFive : Wy yX3_hasRoomForFive cX3_hasRoomForFive 1 (some .boolean) RX3 0 := ⟨tc_X3_hasRoomForFive, wT_1 (List.mem_of_getElem? (i := 182) (by decide +kernel)) (by decide +kernel), wT_1 (List.mem_of_getElem? (i := 183) (by decide +kernel)) (by decide +kernel), wT_1 (List.mem_of_getElem? (i := 4) (by decide +kernel)) (by decide +kernel), by decide +kernel, by decide +kernel, by decide +kernel⟩
theorem tc_X3_put : Cond.code yX3_put cX3_put 3 none ∈ wT := wT_1 (List.mem_of_getElem? (i := 188) (by decide +kernel)) (by decide +kernel)
theorem wy_X3_put : Wy yX3_put cX3_put 3 none RX3 1 := ⟨tc_X3_put, wT_1 (List.mem_of_getElem? (i := 186) (by decide +kernel)) (by decide +kernel), wT_1 (List.mem_of_getElem? (i := 187) (by decide +kernel)) (by decide +kernel), wT_1 (List.mem_of_getElem? (i := 4) (by decide +kernel)) (by decide +kernel), by decide +kernel, by decide +kernel, by decide +kernel⟩
theorem tc_X3_rewind : Cond.code yX3_rewind cX3_rewind 1 none ∈ wT := wT_2 (List.mem_of_getElem? (i := 44) (by decide +kernel)) (by decide +kernel)
theorem wy_X3_rewind : Wy yX3_rewind cX3_rewind 1 none RX3 0 := ⟨tc_X3_rewind, wT_2 (List.mem_of_getElem? (i := 42) (by decide +kernel)) (by decide +kernel), wT_2 (List.mem_of_getElem? (i := 43) (by decide +kernel)) (by decide +kernel), wT_1 (List.mem_of_getElem? (i := 4) (by decide +kernel)) (by decide +kernel), by decide +kernel, by decide +kernel, by decide +kernel⟩
theorem tc_X3_readToken : Cond.code yX3_readToken cX3_readToken 2 none ∈ wT := wT_2 (List.mem_of_getElem? (i := 48) (by decide +kernel)) (by decide +kernel)
theorem wy_X3_readToken : Wy yX3_readToken cX3_readToken 2 none RX3 0 := ⟨tc_X3_readToken, wT_2 (List.mem_of_getElem? (i := 46) (by decide +kernel)) (by decide +kernel), wT_2 (List.mem_of_getElem? (i := 47) (by decide +kernel)) (by decide +kernel), wT_1 (List.mem_of_getElem? (i := 4) (by decide +kernel)) (by decide +kernel), by decide +kernel, by decide +kernel, by decide +kernel⟩
theorem tc_X3_readWord : Cond.code yX3_readWord cX3_readWord 1 none ∈ wT := wT_2 (List.mem_of_getElem? (i := 62) (by decide +kernel)) (by decide +kernel)
theorem wy_X3_readWord : Wy yX3_readWord cX3_readWord 1 none RX3 0 := ⟨tc_X3_readWord, wT_2 (List.mem_of_getElem? (i := 61) (by decide +kernel)) (by decide +kernel), wT_0 (List.mem_of_getElem? (i := 2) (by decide +kernel)) (by decide +kernel), wT_1 (List.mem_of_getElem? (i := 4) (by decide +kernel)) (by decide +kernel), by decide +kernel, by decide +kernel, by decide +kernel⟩
theorem tc_X3_readNumber : Cond.code yX3_readNumber cX3_readNumber 1 none ∈ wT := wT_2 (List.mem_of_getElem? (i := 69) (by decide +kernel)) (by decide +kernel)
theorem wy_X3_readNumber : Wy yX3_readNumber cX3_readNumber 1 none RX3 0 := ⟨tc_X3_readNumber, wT_2 (List.mem_of_getElem? (i := 68) (by decide +kernel)) (by decide +kernel), wT_0 (List.mem_of_getElem? (i := 3) (by decide +kernel)) (by decide +kernel), wT_1 (List.mem_of_getElem? (i := 4) (by decide +kernel)) (by decide +kernel), by decide +kernel, by decide +kernel, by decide +kernel⟩
theorem tc_X3_isWord : Cond.code yX3_isWord cX3_isWord 3 (some .boolean) ∈ wT := wT_2 (List.mem_of_getElem? (i := 82) (by decide +kernel)) (by decide +kernel)
theorem wy_X3_isWord : Wy yX3_isWord cX3_isWord 3 (some .boolean) RX3 1 := ⟨tc_X3_isWord, wT_2 (List.mem_of_getElem? (i := 80) (by decide +kernel)) (by decide +kernel), wT_2 (List.mem_of_getElem? (i := 81) (by decide +kernel)) (by decide +kernel), wT_1 (List.mem_of_getElem? (i := 4) (by decide +kernel)) (by decide +kernel), by decide +kernel, by decide +kernel, by decide +kernel⟩
theorem tc_X3_byteAt : Cond.code yX3_byteAt cX3_byteAt 2 (some .int) ∈ wT := wT_2 (List.mem_of_getElem? (i := 52) (by decide +kernel)) (by decide +kernel)
theorem wy_X3_byteAt : Wy yX3_byteAt cX3_byteAt 2 (some .int) RX3 1 := ⟨tc_X3_byteAt, wT_2 (List.mem_of_getElem? (i := 51) (by decide +kernel)) (by decide +kernel), wT_0 (List.mem_of_getElem? (i := 1) (by decide +kernel)) (by decide +kernel), wT_1 (List.mem_of_getElem? (i := 4) (by decide +kernel)) (by decide +kernel), by decide +kernel, by decide +kernel, by decide +kernel⟩
theorem tc_X3_isBlank : Cond.code yX3_isBlank cX3_isBlank 1 (some .boolean) ∈ wT := wT_2 (List.mem_of_getElem? (i := 55) (by decide +kernel)) (by decide +kernel)
theorem ws_X3_isBlank : Ws yX3_isBlank cX3_isBlank 1 (some .boolean) 1 := ⟨tc_X3_isBlank, wT_2 (List.mem_of_getElem? (i := 54) (by decide +kernel)) (by decide +kernel), wT_1 (List.mem_of_getElem? (i := 4) (by decide +kernel)) (by decide +kernel), by decide +kernel, by decide +kernel, by decide +kernel⟩
theorem tc_X3_isLetter : Cond.code yX3_isLetter cX3_isLetter 1 (some .boolean) ∈ wT := wT_2 (List.mem_of_getElem? (i := 58) (by decide +kernel)) (by decide +kernel)
theorem ws_X3_isLetter : Ws yX3_isLetter cX3_isLetter 1 (some .boolean) 1 := ⟨tc_X3_isLetter, wT_2 (List.mem_of_getElem? (i := 57) (by decide +kernel)) (by decide +kernel), wT_1 (List.mem_of_getElem? (i := 4) (by decide +kernel)) (by decide +kernel), by decide +kernel, by decide +kernel, by decide +kernel⟩
theorem tc_X3_isDigit : Cond.code yX3_isDigit cX3_isDigit 1 (some .boolean) ∈ wT := wT_2 (List.mem_of_getElem? (i := 65) (by decide +kernel)) (by decide +kernel)
theorem ws_X3_isDigit : Ws yX3_isDigit cX3_isDigit 1 (some .boolean) 1 := ⟨tc_X3_isDigit, wT_2 (List.mem_of_getElem? (i := 64) (by decide +kernel)) (by decide +kernel), wT_1 (List.mem_of_getElem? (i := 4) (by decide +kernel)) (by decide +kernel), by decide +kernel, by decide +kernel, by decide +kernel⟩
theorem tc_X4_init : Cond.code yX4_init cX4_init 2 none ∈ wT := wT_1 (List.mem_of_getElem? (i := 139) (by decide +kernel)) (by decide +kernel)
theorem tc_X4_perform : Cond.code yX4_perform cX4_perform 3 (some .int) ∈ wT := wT_2 (List.mem_of_getElem? (i := 40) (by decide +kernel)) (by decide +kernel)
theorem wy_X4_perform : Wy yX4_perform cX4_perform 3 (some .int) RX4 1 := ⟨tc_X4_perform, wT_2 (List.mem_of_getElem? (i := 38) (by decide +kernel)) (by decide +kernel), wT_2 (List.mem_of_getElem? (i := 39) (by decide +kernel)) (by decide +kernel), wT_1 (List.mem_of_getElem? (i := 5) (by decide +kernel)) (by decide +kernel), by decide +kernel, by decide +kernel, by decide +kernel⟩
theorem tc_X4_performOne : Cond.code yX4_performOne cX4_performOne 4 (some .boolean) ∈ wT := wT_2 (List.mem_of_getElem? (i := 73) (by decide +kernel)) (by decide +kernel)
theorem wy_X4_performOne : Wy yX4_performOne cX4_performOne 4 (some .boolean) RX4 1 := ⟨tc_X4_performOne, wT_2 (List.mem_of_getElem? (i := 72) (by decide +kernel)) (by decide +kernel), wT_0 (List.mem_of_getElem? (i := 4) (by decide +kernel)) (by decide +kernel), wT_1 (List.mem_of_getElem? (i := 5) (by decide +kernel)) (by decide +kernel), by decide +kernel, by decide +kernel, by decide +kernel⟩
theorem tc_X4_refuse : Cond.code yX4_refuse cX4_refuse 3 (some .boolean) ∈ wT := wT_2 (List.mem_of_getElem? (i := 139) (by decide +kernel)) (by decide +kernel)
theorem wy_X4_refuse : Wy yX4_refuse cX4_refuse 3 (some .boolean) RX4 2 := ⟨tc_X4_refuse, wT_2 (List.mem_of_getElem? (i := 138) (by decide +kernel)) (by decide +kernel), wT_0 (List.mem_of_getElem? (i := 6) (by decide +kernel)) (by decide +kernel), wT_1 (List.mem_of_getElem? (i := 5) (by decide +kernel)) (by decide +kernel), by decide +kernel, by decide +kernel, by decide +kernel⟩
theorem tc_X4_formOfWord : Cond.code yX4_formOfWord cX4_formOfWord 1 (some .int) ∈ wT := wT_2 (List.mem_of_getElem? (i := 77) (by decide +kernel)) (by decide +kernel)
theorem wy_X4_formOfWord : Wy yX4_formOfWord cX4_formOfWord 1 (some .int) RX4 0 := ⟨tc_X4_formOfWord, wT_2 (List.mem_of_getElem? (i := 76) (by decide +kernel)) (by decide +kernel), wT_0 (List.mem_of_getElem? (i := 5) (by decide +kernel)) (by decide +kernel), wT_1 (List.mem_of_getElem? (i := 5) (by decide +kernel)) (by decide +kernel), by decide +kernel, by decide +kernel, by decide +kernel⟩
theorem tc_X4_readNumbers : Cond.code yX4_readNumbers cX4_readNumbers 5 (some .boolean) ∈ wT := wT_2 (List.mem_of_getElem? (i := 143) (by decide +kernel)) (by decide +kernel)
theorem wy_X4_readNumbers : Wy yX4_readNumbers cX4_readNumbers 5 (some .boolean) RX4 2 := ⟨tc_X4_readNumbers, wT_2 (List.mem_of_getElem? (i := 142) (by decide +kernel)) (by decide +kernel), wT_0 (List.mem_of_getElem? (i := 7) (by decide +kernel)) (by decide +kernel), wT_1 (List.mem_of_getElem? (i := 5) (by decide +kernel)) (by decide +kernel), by decide +kernel, by decide +kernel, by decide +kernel⟩
theorem tc_X4_readOutcome : Cond.code yX4_readOutcome cX4_readOutcome 1 (some .boolean) ∈ wT := wT_2 (List.mem_of_getElem? (i := 198) (by decide +kernel)) (by decide +kernel)
theorem wy_X4_readOutcome : Wy yX4_readOutcome cX4_readOutcome 1 (some .boolean) RX4 0 := ⟨tc_X4_readOutcome, wT_2 (List.mem_of_getElem? (i := 197) (by decide +kernel)) (by decide +kernel), wT_0 (List.mem_of_getElem? (i := 11) (by decide +kernel)) (by decide +kernel), wT_1 (List.mem_of_getElem? (i := 5) (by decide +kernel)) (by decide +kernel), by decide +kernel, by decide +kernel, by decide +kernel⟩
theorem tc_X4_canBeNumber : Cond.code yX4_canBeNumber cX4_canBeNumber 5 (some .boolean) ∈ wT := wT_2 (List.mem_of_getElem? (i := 149) (by decide +kernel)) (by decide +kernel)
theorem wy_X4_canBeNumber : Wy yX4_canBeNumber cX4_canBeNumber 5 (some .boolean) RX4 4 := ⟨tc_X4_canBeNumber, wT_2 (List.mem_of_getElem? (i := 148) (by decide +kernel)) (by decide +kernel), wT_0 (List.mem_of_getElem? (i := 8) (by decide +kernel)) (by decide +kernel), wT_1 (List.mem_of_getElem? (i := 5) (by decide +kernel)) (by decide +kernel), by decide +kernel, by decide +kernel, by decide +kernel⟩
theorem tc_X4_canBeOfFiling : Cond.code yX4_canBeOfFiling cX4_canBeOfFiling 3 (some .boolean) ∈ wT := wT_2 (List.mem_of_getElem? (i := 174) (by decide +kernel)) (by decide +kernel)
theorem wy_X4_canBeOfFiling : Wy yX4_canBeOfFiling cX4_canBeOfFiling 3 (some .boolean) RX4 2 := ⟨tc_X4_canBeOfFiling, wT_2 (List.mem_of_getElem? (i := 173) (by decide +kernel)) (by decide +kernel), wT_0 (List.mem_of_getElem? (i := 9) (by decide +kernel)) (by decide +kernel), wT_1 (List.mem_of_getElem? (i := 5) (by decide +kernel)) (by decide +kernel), by decide +kernel, by decide +kernel, by decide +kernel⟩
theorem tc_X4_isFailure : Cond.code yX4_isFailure cX4_isFailure 4 (some .boolean) ∈ wT := wT_2 (List.mem_of_getElem? (i := 190) (by decide +kernel)) (by decide +kernel)
theorem wy_X4_isFailure : Wy yX4_isFailure cX4_isFailure 4 (some .boolean) RX4 2 := ⟨tc_X4_isFailure, wT_2 (List.mem_of_getElem? (i := 189) (by decide +kernel)) (by decide +kernel), wT_0 (List.mem_of_getElem? (i := 10) (by decide +kernel)) (by decide +kernel), wT_1 (List.mem_of_getElem? (i := 5) (by decide +kernel)) (by decide +kernel), by decide +kernel, by decide +kernel, by decide +kernel⟩
theorem tc_X4_doForm : Cond.code yX4_doForm cX4_doForm 3 (some .boolean) ∈ wT := wT_2 (List.mem_of_getElem? (i := 204) (by decide +kernel)) (by decide +kernel)
theorem wy_X4_doForm : Wy yX4_doForm cX4_doForm 3 (some .boolean) RX4 2 := ⟨tc_X4_doForm, wT_2 (List.mem_of_getElem? (i := 203) (by decide +kernel)) (by decide +kernel), wT_0 (List.mem_of_getElem? (i := 12) (by decide +kernel)) (by decide +kernel), wT_1 (List.mem_of_getElem? (i := 5) (by decide +kernel)) (by decide +kernel), by decide +kernel, by decide +kernel, by decide +kernel⟩
theorem tc_X5_init : Cond.code yX5_init cX5_init 1 none ∈ wT := wT_1 (List.mem_of_getElem? (i := 24) (by decide +kernel)) (by decide +kernel)
theorem tc_X5_feed : Cond.code yX5_feed cX5_feed 6 (some .int) ∈ wT := wT_1 (List.mem_of_getElem? (i := 180) (by decide +kernel)) (by decide +kernel)
theorem wy_X5_feed : Wy yX5_feed cX5_feed 6 (some .int) RX5 5 := ⟨tc_X5_feed, wT_1 (List.mem_of_getElem? (i := 178) (by decide +kernel)) (by decide +kernel), wT_1 (List.mem_of_getElem? (i := 179) (by decide +kernel)) (by decide +kernel), wT_1 (List.mem_of_getElem? (i := 1) (by decide +kernel)) (by decide +kernel), by decide +kernel, by decide +kernel, by decide +kernel⟩
theorem tc_X5_end : Cond.code yX5_end cX5_end 2 (some .boolean) ∈ wT := wT_1 (List.mem_of_getElem? (i := 192) (by decide +kernel)) (by decide +kernel)
theorem wy_X5_end : Wy yX5_end cX5_end 2 (some .boolean) RX5 1 := ⟨tc_X5_end, wT_1 (List.mem_of_getElem? (i := 190) (by decide +kernel)) (by decide +kernel), wT_1 (List.mem_of_getElem? (i := 191) (by decide +kernel)) (by decide +kernel), wT_1 (List.mem_of_getElem? (i := 1) (by decide +kernel)) (by decide +kernel), by decide +kernel, by decide +kernel, by decide +kernel⟩
theorem tc_X5_tell : Cond.code yX5_tell cX5_tell 3 (some .int) ∈ wT := wT_1 (List.mem_of_getElem? (i := 196) (by decide +kernel)) (by decide +kernel)
theorem wy_X5_tell : Wy yX5_tell cX5_tell 3 (some .int) RX5 0 := ⟨tc_X5_tell, wT_1 (List.mem_of_getElem? (i := 194) (by decide +kernel)) (by decide +kernel), wT_1 (List.mem_of_getElem? (i := 195) (by decide +kernel)) (by decide +kernel), wT_1 (List.mem_of_getElem? (i := 1) (by decide +kernel)) (by decide +kernel), by decide +kernel, by decide +kernel, by decide +kernel⟩
theorem tc_X5_fault : Cond.code yX5_fault cX5_fault 1 (some .int) ∈ wT := wT_3 (List.mem_of_getElem? (i := 41) (by decide +kernel)) (by decide +kernel)
theorem wy_X5_fault : Wy yX5_fault cX5_fault 1 (some .int) RX5 0 := ⟨tc_X5_fault, wT_3 (List.mem_of_getElem? (i := 39) (by decide +kernel)) (by decide +kernel), wT_3 (List.mem_of_getElem? (i := 40) (by decide +kernel)) (by decide +kernel), wT_1 (List.mem_of_getElem? (i := 1) (by decide +kernel)) (by decide +kernel), by decide +kernel, by decide +kernel, by decide +kernel⟩
theorem tc_X5_athlete : Cond.code yX5_athlete cX5_athlete 2 (some .int) ∈ wT := wT_3 (List.mem_of_getElem? (i := 45) (by decide +kernel)) (by decide +kernel)
theorem wy_X5_athlete : Wy yX5_athlete cX5_athlete 2 (some .int) RX5 1 := ⟨tc_X5_athlete, wT_3 (List.mem_of_getElem? (i := 43) (by decide +kernel)) (by decide +kernel), wT_3 (List.mem_of_getElem? (i := 44) (by decide +kernel)) (by decide +kernel), wT_1 (List.mem_of_getElem? (i := 1) (by decide +kernel)) (by decide +kernel), by decide +kernel, by decide +kernel, by decide +kernel⟩
theorem tc_X5_set : Cond.code yX5_set cX5_set 3 (some .boolean) ∈ wT := wT_3 (List.mem_of_getElem? (i := 50) (by decide +kernel)) (by decide +kernel)
theorem wy_X5_set : Wy yX5_set cX5_set 3 (some .boolean) RX5 2 := ⟨tc_X5_set, wT_3 (List.mem_of_getElem? (i := 48) (by decide +kernel)) (by decide +kernel), wT_3 (List.mem_of_getElem? (i := 49) (by decide +kernel)) (by decide +kernel), wT_1 (List.mem_of_getElem? (i := 1) (by decide +kernel)) (by decide +kernel), by decide +kernel, by decide +kernel, by decide +kernel⟩
theorem tc_X5_at : Cond.code yX5_at cX5_at 3 (some .int) ∈ wT := wT_3 (List.mem_of_getElem? (i := 55) (by decide +kernel)) (by decide +kernel)
theorem wy_X5_at : Wy yX5_at cX5_at 3 (some .int) RX5 2 := ⟨tc_X5_at, wT_3 (List.mem_of_getElem? (i := 53) (by decide +kernel)) (by decide +kernel), wT_3 (List.mem_of_getElem? (i := 54) (by decide +kernel)) (by decide +kernel), wT_1 (List.mem_of_getElem? (i := 1) (by decide +kernel)) (by decide +kernel), by decide +kernel, by decide +kernel, by decide +kernel⟩
theorem tc_X5_file : Cond.code yX5_file cX5_file 6 (some .int) ∈ wT := wT_3 (List.mem_of_getElem? (i := 60) (by decide +kernel)) (by decide +kernel)
theorem wy_X5_file : Wy yX5_file cX5_file 6 (some .int) RX5 5 := ⟨tc_X5_file, wT_3 (List.mem_of_getElem? (i := 58) (by decide +kernel)) (by decide +kernel), wT_3 (List.mem_of_getElem? (i := 59) (by decide +kernel)) (by decide +kernel), wT_1 (List.mem_of_getElem? (i := 1) (by decide +kernel)) (by decide +kernel), by decide +kernel, by decide +kernel, by decide +kernel⟩
theorem tc_X5_test : Cond.code yX5_test cX5_test 4 (some .int) ∈ wT := wT_3 (List.mem_of_getElem? (i := 65) (by decide +kernel)) (by decide +kernel)
theorem wy_X5_test : Wy yX5_test cX5_test 4 (some .int) RX5 3 := ⟨tc_X5_test, wT_3 (List.mem_of_getElem? (i := 63) (by decide +kernel)) (by decide +kernel), wT_3 (List.mem_of_getElem? (i := 64) (by decide +kernel)) (by decide +kernel), wT_1 (List.mem_of_getElem? (i := 1) (by decide +kernel)) (by decide +kernel), by decide +kernel, by decide +kernel, by decide +kernel⟩
theorem tc_X5_appeal : Cond.code yX5_appeal cX5_appeal 3 (some .boolean) ∈ wT := wT_3 (List.mem_of_getElem? (i := 70) (by decide +kernel)) (by decide +kernel)
theorem wy_X5_appeal : Wy yX5_appeal cX5_appeal 3 (some .boolean) RX5 2 := ⟨tc_X5_appeal, wT_3 (List.mem_of_getElem? (i := 68) (by decide +kernel)) (by decide +kernel), wT_3 (List.mem_of_getElem? (i := 69) (by decide +kernel)) (by decide +kernel), wT_1 (List.mem_of_getElem? (i := 1) (by decide +kernel)) (by decide +kernel), by decide +kernel, by decide +kernel, by decide +kernel⟩
theorem tc_X5_count : Cond.code yX5_count cX5_count 2 (some .int) ∈ wT := wT_3 (List.mem_of_getElem? (i := 75) (by decide +kernel)) (by decide +kernel)
theorem wy_X5_count : Wy yX5_count cX5_count 2 (some .int) RX5 1 := ⟨tc_X5_count, wT_3 (List.mem_of_getElem? (i := 73) (by decide +kernel)) (by decide +kernel), wT_3 (List.mem_of_getElem? (i := 74) (by decide +kernel)) (by decide +kernel), wT_1 (List.mem_of_getElem? (i := 1) (by decide +kernel)) (by decide +kernel), by decide +kernel, by decide +kernel, by decide +kernel⟩
theorem tc_X5_of : Cond.code yX5_of cX5_of 4 (some .int) ∈ wT := wT_3 (List.mem_of_getElem? (i := 235) (by decide +kernel)) (by decide +kernel)
theorem wy_X5_of : Wy yX5_of cX5_of 4 (some .int) RX5 2 := ⟨tc_X5_of, wT_3 (List.mem_of_getElem? (i := 233) (by decide +kernel)) (by decide +kernel), wT_3 (List.mem_of_getElem? (i := 234) (by decide +kernel)) (by decide +kernel), wT_1 (List.mem_of_getElem? (i := 1) (by decide +kernel)) (by decide +kernel), by decide +kernel, by decide +kernel, by decide +kernel⟩
theorem tc_X5_filed : Cond.code yX5_filed cX5_filed 6 (some .int) ∈ wT := wT_3 (List.mem_of_getElem? (i := 84) (by decide +kernel)) (by decide +kernel)
theorem wy_X5_filed : Wy yX5_filed cX5_filed 6 (some .int) RX5 3 := ⟨tc_X5_filed, wT_3 (List.mem_of_getElem? (i := 82) (by decide +kernel)) (by decide +kernel), wT_3 (List.mem_of_getElem? (i := 83) (by decide +kernel)) (by decide +kernel), wT_1 (List.mem_of_getElem? (i := 1) (by decide +kernel)) (by decide +kernel), by decide +kernel, by decide +kernel, by decide +kernel⟩
theorem tc_X5_failure : Cond.code yX5_failure cX5_failure 5 (some .int) ∈ wT := wT_3 (List.mem_of_getElem? (i := 94) (by decide +kernel)) (by decide +kernel)
theorem wy_X5_failure : Wy yX5_failure cX5_failure 5 (some .int) RX5 3 := ⟨tc_X5_failure, wT_3 (List.mem_of_getElem? (i := 92) (by decide +kernel)) (by decide +kernel), wT_3 (List.mem_of_getElem? (i := 93) (by decide +kernel)) (by decide +kernel), wT_1 (List.mem_of_getElem? (i := 1) (by decide +kernel)) (by decide +kernel), by decide +kernel, by decide +kernel, by decide +kernel⟩
theorem tc_X5_violation : Cond.code yX5_violation cX5_violation 4 (some .int) ∈ wT := wT_3 (List.mem_of_getElem? (i := 124) (by decide +kernel)) (by decide +kernel)
theorem wy_X5_violation : Wy yX5_violation cX5_violation 4 (some .int) RX5 2 := ⟨tc_X5_violation, wT_3 (List.mem_of_getElem? (i := 122) (by decide +kernel)) (by decide +kernel), wT_3 (List.mem_of_getElem? (i := 123) (by decide +kernel)) (by decide +kernel), wT_1 (List.mem_of_getElem? (i := 1) (by decide +kernel)) (by decide +kernel), by decide +kernel, by decide +kernel, by decide +kernel⟩
theorem tc_X5_hole : Cond.code yX5_hole cX5_hole 4 (some .int) ∈ wT := wT_3 (List.mem_of_getElem? (i := 132) (by decide +kernel)) (by decide +kernel)
theorem wy_X5_hole : Wy yX5_hole cX5_hole 4 (some .int) RX5 2 := ⟨tc_X5_hole, wT_3 (List.mem_of_getElem? (i := 130) (by decide +kernel)) (by decide +kernel), wT_3 (List.mem_of_getElem? (i := 131) (by decide +kernel)) (by decide +kernel), wT_1 (List.mem_of_getElem? (i := 1) (by decide +kernel)) (by decide +kernel), by decide +kernel, by decide +kernel, by decide +kernel⟩
theorem tc_X5_lot : Cond.code yX5_lot cX5_lot 10 (some .int) ∈ wT := wT_3 (List.mem_of_getElem? (i := 137) (by decide +kernel)) (by decide +kernel)
theorem wy_X5_lot : Wy yX5_lot cX5_lot 10 (some .int) RX5 2 := ⟨tc_X5_lot, wT_3 (List.mem_of_getElem? (i := 135) (by decide +kernel)) (by decide +kernel), wT_3 (List.mem_of_getElem? (i := 136) (by decide +kernel)) (by decide +kernel), wT_1 (List.mem_of_getElem? (i := 1) (by decide +kernel)) (by decide +kernel), by decide +kernel, by decide +kernel, by decide +kernel⟩
theorem tc_X5_chance : Cond.code yX5_chance cX5_chance 6 (some .int) ∈ wT := wT_3 (List.mem_of_getElem? (i := 161) (by decide +kernel)) (by decide +kernel)
theorem wy_X5_chance : Wy yX5_chance cX5_chance 6 (some .int) RX5 2 := ⟨tc_X5_chance, wT_3 (List.mem_of_getElem? (i := 159) (by decide +kernel)) (by decide +kernel), wT_3 (List.mem_of_getElem? (i := 160) (by decide +kernel)) (by decide +kernel), wT_1 (List.mem_of_getElem? (i := 1) (by decide +kernel)) (by decide +kernel), by decide +kernel, by decide +kernel, by decide +kernel⟩
theorem tc_X5_round : Cond.code yX5_round cX5_round 5 (some .int) ∈ wT := wT_3 (List.mem_of_getElem? (i := 168) (by decide +kernel)) (by decide +kernel)
theorem wy_X5_round : Wy yX5_round cX5_round 5 (some .int) RX5 3 := ⟨tc_X5_round, wT_3 (List.mem_of_getElem? (i := 166) (by decide +kernel)) (by decide +kernel), wT_3 (List.mem_of_getElem? (i := 167) (by decide +kernel)) (by decide +kernel), wT_1 (List.mem_of_getElem? (i := 1) (by decide +kernel)) (by decide +kernel), by decide +kernel, by decide +kernel, by decide +kernel⟩
theorem tc_X5_there : Cond.code yX5_there cX5_there 4 (some .int) ∈ wT := wT_3 (List.mem_of_getElem? (i := 197) (by decide +kernel)) (by decide +kernel)
theorem wy_X5_there : Wy yX5_there cX5_there 4 (some .int) RX5 3 := ⟨tc_X5_there, wT_3 (List.mem_of_getElem? (i := 195) (by decide +kernel)) (by decide +kernel), wT_3 (List.mem_of_getElem? (i := 196) (by decide +kernel)) (by decide +kernel), wT_1 (List.mem_of_getElem? (i := 1) (by decide +kernel)) (by decide +kernel), by decide +kernel, by decide +kernel, by decide +kernel⟩
theorem tc_X5_danger : Cond.code yX5_danger cX5_danger 4 (some .int) ∈ wT := wT_3 (List.mem_of_getElem? (i := 203) (by decide +kernel)) (by decide +kernel)
theorem wy_X5_danger : Wy yX5_danger cX5_danger 4 (some .int) RX5 1 := ⟨tc_X5_danger, wT_3 (List.mem_of_getElem? (i := 201) (by decide +kernel)) (by decide +kernel), wT_3 (List.mem_of_getElem? (i := 202) (by decide +kernel)) (by decide +kernel), wT_1 (List.mem_of_getElem? (i := 1) (by decide +kernel)) (by decide +kernel), by decide +kernel, by decide +kernel, by decide +kernel⟩
theorem tc_X5_easier : Cond.code yX5_easier cX5_easier 4 (some .int) ∈ wT := wT_3 (List.mem_of_getElem? (i := 212) (by decide +kernel)) (by decide +kernel)
theorem wy_X5_easier : Wy yX5_easier cX5_easier 4 (some .int) RX5 1 := ⟨tc_X5_easier, wT_3 (List.mem_of_getElem? (i := 210) (by decide +kernel)) (by decide +kernel), wT_3 (List.mem_of_getElem? (i := 211) (by decide +kernel)) (by decide +kernel), wT_1 (List.mem_of_getElem? (i := 1) (by decide +kernel)) (by decide +kernel), by decide +kernel, by decide +kernel, by decide +kernel⟩
theorem tc_X5_without : Cond.code yX5_without cX5_without 4 (some .int) ∈ wT := wT_3 (List.mem_of_getElem? (i := 220) (by decide +kernel)) (by decide +kernel)
theorem wy_X5_without : Wy yX5_without cX5_without 4 (some .int) RX5 2 := ⟨tc_X5_without, wT_3 (List.mem_of_getElem? (i := 218) (by decide +kernel)) (by decide +kernel), wT_3 (List.mem_of_getElem? (i := 219) (by decide +kernel)) (by decide +kernel), wT_1 (List.mem_of_getElem? (i := 1) (by decide +kernel)) (by decide +kernel), by decide +kernel, by decide +kernel, by decide +kernel⟩
theorem tc_X5_worst : Cond.code yX5_worst cX5_worst 10 (some .int) ∈ wT := wT_3 (List.mem_of_getElem? (i := 224) (by decide +kernel)) (by decide +kernel)
theorem wy_X5_worst : Wy yX5_worst cX5_worst 10 (some .int) RX5 0 := ⟨tc_X5_worst, wT_3 (List.mem_of_getElem? (i := 222) (by decide +kernel)) (by decide +kernel), wT_3 (List.mem_of_getElem? (i := 223) (by decide +kernel)) (by decide +kernel), wT_1 (List.mem_of_getElem? (i := 1) (by decide +kernel)) (by decide +kernel), by decide +kernel, by decide +kernel, by decide +kernel⟩
theorem tc_X5_pointsOf : Cond.code yX5_pointsOf cX5_pointsOf 2 (some .int) ∈ wT := wT_3 (List.mem_of_getElem? (i := 149) (by decide +kernel)) (by decide +kernel)
theorem wy_X5_pointsOf : Wy yX5_pointsOf cX5_pointsOf 2 (some .int) RX5 1 := ⟨tc_X5_pointsOf, wT_3 (List.mem_of_getElem? (i := 148) (by decide +kernel)) (by decide +kernel), wT_0 (List.mem_of_getElem? (i := 20) (by decide +kernel)) (by decide +kernel), wT_1 (List.mem_of_getElem? (i := 1) (by decide +kernel)) (by decide +kernel), by decide +kernel, by decide +kernel, by decide +kernel⟩
theorem tc_X5_violationsOf : Cond.code yX5_violationsOf cX5_violationsOf 2 (some .int) ∈ wT := wT_3 (List.mem_of_getElem? (i := 207) (by decide +kernel)) (by decide +kernel)
theorem wy_X5_violationsOf : Wy yX5_violationsOf cX5_violationsOf 2 (some .int) RX5 1 := ⟨tc_X5_violationsOf, wT_3 (List.mem_of_getElem? (i := 206) (by decide +kernel)) (by decide +kernel), wT_0 (List.mem_of_getElem? (i := 24) (by decide +kernel)) (by decide +kernel), wT_1 (List.mem_of_getElem? (i := 1) (by decide +kernel)) (by decide +kernel), by decide +kernel, by decide +kernel, by decide +kernel⟩
theorem tc_X5_weightOf : Cond.code yX5_weightOf cX5_weightOf 3 (some .int) ∈ wT := wT_3 (List.mem_of_getElem? (i := 145) (by decide +kernel)) (by decide +kernel)
theorem wy_X5_weightOf : Wy yX5_weightOf cX5_weightOf 3 (some .int) RX5 1 := ⟨tc_X5_weightOf, wT_3 (List.mem_of_getElem? (i := 144) (by decide +kernel)) (by decide +kernel), wT_0 (List.mem_of_getElem? (i := 19) (by decide +kernel)) (by decide +kernel), wT_1 (List.mem_of_getElem? (i := 1) (by decide +kernel)) (by decide +kernel), by decide +kernel, by decide +kernel, by decide +kernel⟩
theorem tc_X5_weighAll : Cond.code yX5_weighAll cX5_weighAll 4 (some .int) ∈ wT := wT_3 (List.mem_of_getElem? (i := 141) (by decide +kernel)) (by decide +kernel)
theorem wy_X5_weighAll : Wy yX5_weighAll cX5_weighAll 4 (some .int) RX5 0 := ⟨tc_X5_weighAll, wT_3 (List.mem_of_getElem? (i := 140) (by decide +kernel)) (by decide +kernel), wT_0 (List.mem_of_getElem? (i := 18) (by decide +kernel)) (by decide +kernel), wT_1 (List.mem_of_getElem? (i := 1) (by decide +kernel)) (by decide +kernel), by decide +kernel, by decide +kernel, by decide +kernel⟩
theorem tc_X5_firstAbove : Cond.code yX5_firstAbove cX5_firstAbove 6 (some .int) ∈ wT := wT_3 (List.mem_of_getElem? (i := 157) (by decide +kernel)) (by decide +kernel)
theorem wy_X5_firstAbove : Wy yX5_firstAbove cX5_firstAbove 6 (some .int) RX5 1 := ⟨tc_X5_firstAbove, wT_3 (List.mem_of_getElem? (i := 156) (by decide +kernel)) (by decide +kernel), wT_0 (List.mem_of_getElem? (i := 21) (by decide +kernel)) (by decide +kernel), wT_1 (List.mem_of_getElem? (i := 1) (by decide +kernel)) (by decide +kernel), by decide +kernel, by decide +kernel, by decide +kernel⟩
theorem tc_X5_greatestDivisor : Cond.code yX5_greatestDivisor cX5_greatestDivisor 6 (some .int) ∈ wT := wT_3 (List.mem_of_getElem? (i := 164) (by decide +kernel)) (by decide +kernel)
theorem ws_X5_greatestDivisor : Ws yX5_greatestDivisor cX5_greatestDivisor 6 (some .int) 2 := ⟨tc_X5_greatestDivisor, wT_3 (List.mem_of_getElem? (i := 163) (by decide +kernel)) (by decide +kernel), wT_1 (List.mem_of_getElem? (i := 1) (by decide +kernel)) (by decide +kernel), by decide +kernel, by decide +kernel, by decide +kernel⟩
theorem tc_X5_hoursOfRound : Cond.code yX5_hoursOfRound cX5_hoursOfRound 4 (some .int) ∈ wT := wT_3 (List.mem_of_getElem? (i := 172) (by decide +kernel)) (by decide +kernel)
theorem wy_X5_hoursOfRound : Wy yX5_hoursOfRound cX5_hoursOfRound 4 (some .int) RX5 1 := ⟨tc_X5_hoursOfRound, wT_3 (List.mem_of_getElem? (i := 171) (by decide +kernel)) (by decide +kernel), wT_0 (List.mem_of_getElem? (i := 22) (by decide +kernel)) (by decide +kernel), wT_1 (List.mem_of_getElem? (i := 1) (by decide +kernel)) (by decide +kernel), by decide +kernel, by decide +kernel, by decide +kernel⟩
theorem tc_X5_athletesOfRound : Cond.code yX5_athletesOfRound cX5_athletesOfRound 5 (some .int) ∈ wT := wT_3 (List.mem_of_getElem? (i := 190) (by decide +kernel)) (by decide +kernel)
theorem wy_X5_athletesOfRound : Wy yX5_athletesOfRound cX5_athletesOfRound 5 (some .int) RX5 1 := ⟨tc_X5_athletesOfRound, wT_3 (List.mem_of_getElem? (i := 189) (by decide +kernel)) (by decide +kernel), wT_0 (List.mem_of_getElem? (i := 23) (by decide +kernel)) (by decide +kernel), wT_1 (List.mem_of_getElem? (i := 1) (by decide +kernel)) (by decide +kernel), by decide +kernel, by decide +kernel, by decide +kernel⟩
theorem tc_X5_canBeRisk : Cond.code yX5_canBeRisk cX5_canBeRisk 1 (some .boolean) ∈ wT := wT_2 (List.mem_of_getElem? (i := 152) (by decide +kernel)) (by decide +kernel)
theorem ws_X5_canBeRisk : Ws yX5_canBeRisk cX5_canBeRisk 1 (some .boolean) 1 := ⟨tc_X5_canBeRisk, wT_2 (List.mem_of_getElem? (i := 151) (by decide +kernel)) (by decide +kernel), wT_1 (List.mem_of_getElem? (i := 1) (by decide +kernel)) (by decide +kernel), by decide +kernel, by decide +kernel, by decide +kernel⟩
theorem tc_X5_isSetting : Cond.code yX5_isSetting cX5_isSetting 1 (some .boolean) ∈ wT := wT_2 (List.mem_of_getElem? (i := 155) (by decide +kernel)) (by decide +kernel)
theorem ws_X5_isSetting : Ws yX5_isSetting cX5_isSetting 1 (some .boolean) 1 := ⟨tc_X5_isSetting, wT_2 (List.mem_of_getElem? (i := 154) (by decide +kernel)) (by decide +kernel), wT_1 (List.mem_of_getElem? (i := 1) (by decide +kernel)) (by decide +kernel), by decide +kernel, by decide +kernel, by decide +kernel⟩
theorem tc_X5_canBeSetting : Cond.code yX5_canBeSetting cX5_canBeSetting 2 (some .boolean) ∈ wT := wT_2 (List.mem_of_getElem? (i := 158) (by decide +kernel)) (by decide +kernel)
theorem ws_X5_canBeSetting : Ws yX5_canBeSetting cX5_canBeSetting 2 (some .boolean) 2 := ⟨tc_X5_canBeSetting, wT_2 (List.mem_of_getElem? (i := 157) (by decide +kernel)) (by decide +kernel), wT_1 (List.mem_of_getElem? (i := 1) (by decide +kernel)) (by decide +kernel), by decide +kernel, by decide +kernel, by decide +kernel⟩
theorem tc_X5_canBeDay : Cond.code yX5_canBeDay cX5_canBeDay 1 (some .boolean) ∈ wT := wT_2 (List.mem_of_getElem? (i := 166) (by decide +kernel)) (by decide +kernel)
theorem ws_X5_canBeDay : Ws yX5_canBeDay cX5_canBeDay 1 (some .boolean) 1 := ⟨tc_X5_canBeDay, wT_2 (List.mem_of_getElem? (i := 165) (by decide +kernel)) (by decide +kernel), wT_1 (List.mem_of_getElem? (i := 1) (by decide +kernel)) (by decide +kernel), by decide +kernel, by decide +kernel, by decide +kernel⟩
theorem tc_X5_canBeHour : Cond.code yX5_canBeHour cX5_canBeHour 1 (some .boolean) ∈ wT := wT_2 (List.mem_of_getElem? (i := 169) (by decide +kernel)) (by decide +kernel)
theorem ws_X5_canBeHour : Ws yX5_canBeHour cX5_canBeHour 1 (some .boolean) 1 := ⟨tc_X5_canBeHour, wT_2 (List.mem_of_getElem? (i := 168) (by decide +kernel)) (by decide +kernel), wT_1 (List.mem_of_getElem? (i := 1) (by decide +kernel)) (by decide +kernel), by decide +kernel, by decide +kernel, by decide +kernel⟩
theorem tc_X5_canBeFiledDay : Cond.code yX5_canBeFiledDay cX5_canBeFiledDay 1 (some .boolean) ∈ wT := wT_2 (List.mem_of_getElem? (i := 177) (by decide +kernel)) (by decide +kernel)
theorem ws_X5_canBeFiledDay : Ws yX5_canBeFiledDay cX5_canBeFiledDay 1 (some .boolean) 1 := ⟨tc_X5_canBeFiledDay, wT_2 (List.mem_of_getElem? (i := 176) (by decide +kernel)) (by decide +kernel), wT_1 (List.mem_of_getElem? (i := 1) (by decide +kernel)) (by decide +kernel), by decide +kernel, by decide +kernel, by decide +kernel⟩
theorem tc_X5_canBeSpan : Cond.code yX5_canBeSpan cX5_canBeSpan 2 (some .boolean) ∈ wT := wT_2 (List.mem_of_getElem? (i := 180) (by decide +kernel)) (by decide +kernel)
theorem ws_X5_canBeSpan : Ws yX5_canBeSpan cX5_canBeSpan 2 (some .boolean) 2 := ⟨tc_X5_canBeSpan, wT_2 (List.mem_of_getElem? (i := 179) (by decide +kernel)) (by decide +kernel), wT_1 (List.mem_of_getElem? (i := 1) (by decide +kernel)) (by decide +kernel), by decide +kernel, by decide +kernel, by decide +kernel⟩
theorem tc_X5_canBeFiledHour : Cond.code yX5_canBeFiledHour cX5_canBeFiledHour 1 (some .boolean) ∈ wT := wT_2 (List.mem_of_getElem? (i := 183) (by decide +kernel)) (by decide +kernel)
theorem ws_X5_canBeFiledHour : Ws yX5_canBeFiledHour cX5_canBeFiledHour 1 (some .boolean) 1 := ⟨tc_X5_canBeFiledHour, wT_2 (List.mem_of_getElem? (i := 182) (by decide +kernel)) (by decide +kernel), wT_1 (List.mem_of_getElem? (i := 1) (by decide +kernel)) (by decide +kernel), by decide +kernel, by decide +kernel, by decide +kernel⟩
theorem tc_X5_canBePlace : Cond.code yX5_canBePlace cX5_canBePlace 1 (some .boolean) ∈ wT := wT_2 (List.mem_of_getElem? (i := 186) (by decide +kernel)) (by decide +kernel)
theorem ws_X5_canBePlace : Ws yX5_canBePlace cX5_canBePlace 1 (some .boolean) 1 := ⟨tc_X5_canBePlace, wT_2 (List.mem_of_getElem? (i := 185) (by decide +kernel)) (by decide +kernel), wT_1 (List.mem_of_getElem? (i := 1) (by decide +kernel)) (by decide +kernel), by decide +kernel, by decide +kernel, by decide +kernel⟩
theorem tc_X6_init : Cond.code yX6_init cX6_init 1 none ∈ wT := wT_4 (List.mem_of_getElem? (i := 66) (by decide +kernel)) (by decide +kernel)
theorem tc_X6_thrown : Cond.code yX6_thrown cX6_thrown 1 (some .int) ∈ wT := wT_4 (List.mem_of_getElem? (i := 126) (by decide +kernel)) (by decide +kernel)
theorem wy_X6_thrown : Wy yX6_thrown cX6_thrown 1 (some .int) RX6 0 := ⟨tc_X6_thrown, wT_4 (List.mem_of_getElem? (i := 124) (by decide +kernel)) (by decide +kernel), wT_4 (List.mem_of_getElem? (i := 125) (by decide +kernel)) (by decide +kernel), wT_1 (List.mem_of_getElem? (i := 6) (by decide +kernel)) (by decide +kernel), by decide +kernel, by decide +kernel, by decide +kernel⟩
theorem tc_X6_in : Cond.code yX6_in cX6_in 3 (some .boolean) ∈ wT := wT_4 (List.mem_of_getElem? (i := 133) (by decide +kernel)) (by decide +kernel)
theorem ws_X6_in : Ws yX6_in cX6_in 3 (some .boolean) 3 := ⟨tc_X6_in, wT_4 (List.mem_of_getElem? (i := 132) (by decide +kernel)) (by decide +kernel), wT_1 (List.mem_of_getElem? (i := 6) (by decide +kernel)) (by decide +kernel), by decide +kernel, by decide +kernel, by decide +kernel⟩
theorem tc_X6_isAthlete : Cond.code yX6_isAthlete cX6_isAthlete 2 (some .boolean) ∈ wT := wT_4 (List.mem_of_getElem? (i := 180) (by decide +kernel)) (by decide +kernel)
theorem wy_X6_isAthlete : Wy yX6_isAthlete cX6_isAthlete 2 (some .boolean) RX6 1 := ⟨tc_X6_isAthlete, wT_4 (List.mem_of_getElem? (i := 179) (by decide +kernel)) (by decide +kernel), wT_0 (List.mem_of_getElem? (i := 33) (by decide +kernel)) (by decide +kernel), wT_1 (List.mem_of_getElem? (i := 6) (by decide +kernel)) (by decide +kernel), by decide +kernel, by decide +kernel, by decide +kernel⟩
theorem tc_X6_cell : Cond.code yX6_cell cX6_cell 2 (some .int) ∈ wT := wT_4 (List.mem_of_getElem? (i := 140) (by decide +kernel)) (by decide +kernel)
theorem ws_X6_cell : Ws yX6_cell cX6_cell 2 (some .int) 2 := ⟨tc_X6_cell, wT_4 (List.mem_of_getElem? (i := 139) (by decide +kernel)) (by decide +kernel), wT_1 (List.mem_of_getElem? (i := 6) (by decide +kernel)) (by decide +kernel), by decide +kernel, by decide +kernel, by decide +kernel⟩
theorem tc_X6_its : Cond.code yX6_its cX6_its 3 (some .int) ∈ wT := wT_4 (List.mem_of_getElem? (i := 168) (by decide +kernel)) (by decide +kernel)
theorem wy_X6_its : Wy yX6_its cX6_its 3 (some .int) RX6 2 := ⟨tc_X6_its, wT_4 (List.mem_of_getElem? (i := 167) (by decide +kernel)) (by decide +kernel), wT_0 (List.mem_of_getElem? (i := 31) (by decide +kernel)) (by decide +kernel), wT_1 (List.mem_of_getElem? (i := 6) (by decide +kernel)) (by decide +kernel), by decide +kernel, by decide +kernel, by decide +kernel⟩
theorem tc_X6_fails : Cond.code yX6_fails cX6_fails 5 (some .boolean) ∈ wT := wT_4 (List.mem_of_getElem? (i := 172) (by decide +kernel)) (by decide +kernel)
theorem wy_X6_fails : Wy yX6_fails cX6_fails 5 (some .boolean) RX6 3 := ⟨tc_X6_fails, wT_4 (List.mem_of_getElem? (i := 171) (by decide +kernel)) (by decide +kernel), wT_0 (List.mem_of_getElem? (i := 32) (by decide +kernel)) (by decide +kernel), wT_1 (List.mem_of_getElem? (i := 6) (by decide +kernel)) (by decide +kernel), by decide +kernel, by decide +kernel, by decide +kernel⟩
theorem tc_X6_comes : Cond.code yX6_comes cX6_comes 4 (some .int) ∈ wT := wT_4 (List.mem_of_getElem? (i := 137) (by decide +kernel)) (by decide +kernel)
theorem wy_X6_comes : Wy yX6_comes cX6_comes 4 (some .int) RX6 1 := ⟨tc_X6_comes, wT_4 (List.mem_of_getElem? (i := 136) (by decide +kernel)) (by decide +kernel), wT_0 (List.mem_of_getElem? (i := 26) (by decide +kernel)) (by decide +kernel), wT_1 (List.mem_of_getElem? (i := 6) (by decide +kernel)) (by decide +kernel), by decide +kernel, by decide +kernel, by decide +kernel⟩
theorem tc_X6_isBehind : Cond.code yX6_isBehind cX6_isBehind 3 (some .boolean) ∈ wT := wT_4 (List.mem_of_getElem? (i := 152) (by decide +kernel)) (by decide +kernel)
theorem wy_X6_isBehind : Wy yX6_isBehind cX6_isBehind 3 (some .boolean) RX6 2 := ⟨tc_X6_isBehind, wT_4 (List.mem_of_getElem? (i := 151) (by decide +kernel)) (by decide +kernel), wT_0 (List.mem_of_getElem? (i := 27) (by decide +kernel)) (by decide +kernel), wT_1 (List.mem_of_getElem? (i := 6) (by decide +kernel)) (by decide +kernel), by decide +kernel, by decide +kernel, by decide +kernel⟩
theorem tc_X6_isFiled : Cond.code yX6_isFiled cX6_isFiled 3 (some .boolean) ∈ wT := wT_4 (List.mem_of_getElem? (i := 164) (by decide +kernel)) (by decide +kernel)
theorem wy_X6_isFiled : Wy yX6_isFiled cX6_isFiled 3 (some .boolean) RX6 2 := ⟨tc_X6_isFiled, wT_4 (List.mem_of_getElem? (i := 163) (by decide +kernel)) (by decide +kernel), wT_0 (List.mem_of_getElem? (i := 30) (by decide +kernel)) (by decide +kernel), wT_1 (List.mem_of_getElem? (i := 6) (by decide +kernel)) (by decide +kernel), by decide +kernel, by decide +kernel, by decide +kernel⟩
theorem tc_X6_holeOf : Cond.code yX6_holeOf cX6_holeOf 4 (some .int) ∈ wT := wT_4 (List.mem_of_getElem? (i := 160) (by decide +kernel)) (by decide +kernel)
theorem wy_X6_holeOf : Wy yX6_holeOf cX6_holeOf 4 (some .int) RX6 2 := ⟨tc_X6_holeOf, wT_4 (List.mem_of_getElem? (i := 159) (by decide +kernel)) (by decide +kernel), wT_0 (List.mem_of_getElem? (i := 29) (by decide +kernel)) (by decide +kernel), wT_1 (List.mem_of_getElem? (i := 6) (by decide +kernel)) (by decide +kernel), by decide +kernel, by decide +kernel, by decide +kernel⟩
theorem tc_X6_goesOn : Cond.code yX6_goesOn cX6_goesOn 6 (some .int) ∈ wT := wT_4 (List.mem_of_getElem? (i := 156) (by decide +kernel)) (by decide +kernel)
theorem wy_X6_goesOn : Wy yX6_goesOn cX6_goesOn 6 (some .int) RX6 2 := ⟨tc_X6_goesOn, wT_4 (List.mem_of_getElem? (i := 155) (by decide +kernel)) (by decide +kernel), wT_0 (List.mem_of_getElem? (i := 28) (by decide +kernel)) (by decide +kernel), wT_1 (List.mem_of_getElem? (i := 6) (by decide +kernel)) (by decide +kernel), by decide +kernel, by decide +kernel, by decide +kernel⟩
theorem tc_X6_hourOf : Cond.code yX6_hourOf cX6_hourOf 3 (some .int) ∈ wT := wT_4 (List.mem_of_getElem? (i := 191) (by decide +kernel)) (by decide +kernel)
theorem wy_X6_hourOf : Wy yX6_hourOf cX6_hourOf 3 (some .int) RX6 2 := ⟨tc_X6_hourOf, wT_4 (List.mem_of_getElem? (i := 190) (by decide +kernel)) (by decide +kernel), wT_0 (List.mem_of_getElem? (i := 35) (by decide +kernel)) (by decide +kernel), wT_1 (List.mem_of_getElem? (i := 6) (by decide +kernel)) (by decide +kernel), by decide +kernel, by decide +kernel, by decide +kernel⟩
theorem tc_X6_placeOf : Cond.code yX6_placeOf cX6_placeOf 3 (some .int) ∈ wT := wT_4 (List.mem_of_getElem? (i := 211) (by decide +kernel)) (by decide +kernel)
theorem wy_X6_placeOf : Wy yX6_placeOf cX6_placeOf 3 (some .int) RX6 2 := ⟨tc_X6_placeOf, wT_4 (List.mem_of_getElem? (i := 210) (by decide +kernel)) (by decide +kernel), wT_0 (List.mem_of_getElem? (i := 39) (by decide +kernel)) (by decide +kernel), wT_1 (List.mem_of_getElem? (i := 6) (by decide +kernel)) (by decide +kernel), by decide +kernel, by decide +kernel, by decide +kernel⟩
theorem tc_X6_mayFile : Cond.code yX6_mayFile cX6_mayFile 4 (some .boolean) ∈ wT := wT_4 (List.mem_of_getElem? (i := 187) (by decide +kernel)) (by decide +kernel)
theorem wy_X6_mayFile : Wy yX6_mayFile cX6_mayFile 4 (some .boolean) RX6 3 := ⟨tc_X6_mayFile, wT_4 (List.mem_of_getElem? (i := 186) (by decide +kernel)) (by decide +kernel), wT_0 (List.mem_of_getElem? (i := 34) (by decide +kernel)) (by decide +kernel), wT_1 (List.mem_of_getElem? (i := 6) (by decide +kernel)) (by decide +kernel), by decide +kernel, by decide +kernel, by decide +kernel⟩
theorem tc_X6_isLate : Cond.code yX6_isLate cX6_isLate 3 none ∈ wT := wT_4 (List.mem_of_getElem? (i := 199) (by decide +kernel)) (by decide +kernel)
theorem wy_X6_isLate : Wy yX6_isLate cX6_isLate 3 none RX6 1 := ⟨tc_X6_isLate, wT_4 (List.mem_of_getElem? (i := 198) (by decide +kernel)) (by decide +kernel), wT_0 (List.mem_of_getElem? (i := 37) (by decide +kernel)) (by decide +kernel), wT_1 (List.mem_of_getElem? (i := 6) (by decide +kernel)) (by decide +kernel), by decide +kernel, by decide +kernel, by decide +kernel⟩
theorem tc_X6_files : Cond.code yX6_files cX6_files 11 (some .int) ∈ wT := wT_4 (List.mem_of_getElem? (i := 195) (by decide +kernel)) (by decide +kernel)
theorem wy_X6_files : Wy yX6_files cX6_files 11 (some .int) RX6 5 := ⟨tc_X6_files, wT_4 (List.mem_of_getElem? (i := 194) (by decide +kernel)) (by decide +kernel), wT_0 (List.mem_of_getElem? (i := 36) (by decide +kernel)) (by decide +kernel), wT_1 (List.mem_of_getElem? (i := 6) (by decide +kernel)) (by decide +kernel), by decide +kernel, by decide +kernel, by decide +kernel⟩
theorem tc_X6_tests : Cond.code yX6_tests cX6_tests 5 (some .int) ∈ wT := wT_4 (List.mem_of_getElem? (i := 207) (by decide +kernel)) (by decide +kernel)
theorem wy_X6_tests : Wy yX6_tests cX6_tests 5 (some .int) RX6 3 := ⟨tc_X6_tests, wT_4 (List.mem_of_getElem? (i := 206) (by decide +kernel)) (by decide +kernel), wT_0 (List.mem_of_getElem? (i := 38) (by decide +kernel)) (by decide +kernel), wT_1 (List.mem_of_getElem? (i := 6) (by decide +kernel)) (by decide +kernel), by decide +kernel, by decide +kernel, by decide +kernel⟩
theorem tc_X6_isFailure : Cond.code yX6_isFailure cX6_isFailure 3 (some .boolean) ∈ wT := wT_4 (List.mem_of_getElem? (i := 219) (by decide +kernel)) (by decide +kernel)
theorem wy_X6_isFailure : Wy yX6_isFailure cX6_isFailure 3 (some .boolean) RX6 2 := ⟨tc_X6_isFailure, wT_4 (List.mem_of_getElem? (i := 218) (by decide +kernel)) (by decide +kernel), wT_0 (List.mem_of_getElem? (i := 40) (by decide +kernel)) (by decide +kernel), wT_1 (List.mem_of_getElem? (i := 6) (by decide +kernel)) (by decide +kernel), by decide +kernel, by decide +kernel, by decide +kernel⟩
theorem tc_X6_strikes : Cond.code yX6_strikes cX6_strikes 3 (some .boolean) ∈ wT := wT_4 (List.mem_of_getElem? (i := 223) (by decide +kernel)) (by decide +kernel)
theorem wy_X6_strikes : Wy yX6_strikes cX6_strikes 3 (some .boolean) RX6 2 := ⟨tc_X6_strikes, wT_4 (List.mem_of_getElem? (i := 222) (by decide +kernel)) (by decide +kernel), wT_0 (List.mem_of_getElem? (i := 41) (by decide +kernel)) (by decide +kernel), wT_1 (List.mem_of_getElem? (i := 6) (by decide +kernel)) (by decide +kernel), by decide +kernel, by decide +kernel, by decide +kernel⟩
theorem tc_X6_athlete : Cond.code yX6_athlete cX6_athlete 2 (some .int) ∈ wT := wT_4 (List.mem_of_getElem? (i := 130) (by decide +kernel)) (by decide +kernel)
theorem wy_X6_athlete : Wy yX6_athlete cX6_athlete 2 (some .int) RX6 1 := ⟨tc_X6_athlete, wT_4 (List.mem_of_getElem? (i := 128) (by decide +kernel)) (by decide +kernel), wT_4 (List.mem_of_getElem? (i := 129) (by decide +kernel)) (by decide +kernel), wT_1 (List.mem_of_getElem? (i := 6) (by decide +kernel)) (by decide +kernel), by decide +kernel, by decide +kernel, by decide +kernel⟩
theorem tc_X6_set : Cond.code yX6_set cX6_set 3 (some .boolean) ∈ wT := wT_4 (List.mem_of_getElem? (i := 144) (by decide +kernel)) (by decide +kernel)
theorem wy_X6_set : Wy yX6_set cX6_set 3 (some .boolean) RX6 2 := ⟨tc_X6_set, wT_4 (List.mem_of_getElem? (i := 142) (by decide +kernel)) (by decide +kernel), wT_4 (List.mem_of_getElem? (i := 143) (by decide +kernel)) (by decide +kernel), wT_1 (List.mem_of_getElem? (i := 6) (by decide +kernel)) (by decide +kernel), by decide +kernel, by decide +kernel, by decide +kernel⟩
theorem tc_X6_at : Cond.code yX6_at cX6_at 3 (some .int) ∈ wT := wT_4 (List.mem_of_getElem? (i := 148) (by decide +kernel)) (by decide +kernel)
theorem wy_X6_at : Wy yX6_at cX6_at 3 (some .int) RX6 2 := ⟨tc_X6_at, wT_4 (List.mem_of_getElem? (i := 146) (by decide +kernel)) (by decide +kernel), wT_4 (List.mem_of_getElem? (i := 147) (by decide +kernel)) (by decide +kernel), wT_1 (List.mem_of_getElem? (i := 6) (by decide +kernel)) (by decide +kernel), by decide +kernel, by decide +kernel, by decide +kernel⟩
theorem tc_X6_canFile : Cond.code yX6_canFile cX6_canFile 4 (some .boolean) ∈ wT := wT_4 (List.mem_of_getElem? (i := 183) (by decide +kernel)) (by decide +kernel)
theorem ws_X6_canFile : Ws yX6_canFile cX6_canFile 4 (some .boolean) 4 := ⟨tc_X6_canFile, wT_4 (List.mem_of_getElem? (i := 182) (by decide +kernel)) (by decide +kernel), wT_1 (List.mem_of_getElem? (i := 6) (by decide +kernel)) (by decide +kernel), by decide +kernel, by decide +kernel, by decide +kernel⟩
theorem tc_X6_file : Cond.code yX6_file cX6_file 6 (some .int) ∈ wT := wT_4 (List.mem_of_getElem? (i := 176) (by decide +kernel)) (by decide +kernel)
theorem wy_X6_file : Wy yX6_file cX6_file 6 (some .int) RX6 5 := ⟨tc_X6_file, wT_4 (List.mem_of_getElem? (i := 174) (by decide +kernel)) (by decide +kernel), wT_4 (List.mem_of_getElem? (i := 175) (by decide +kernel)) (by decide +kernel), wT_1 (List.mem_of_getElem? (i := 6) (by decide +kernel)) (by decide +kernel), by decide +kernel, by decide +kernel, by decide +kernel⟩
theorem tc_X6_test : Cond.code yX6_test cX6_test 4 (some .int) ∈ wT := wT_4 (List.mem_of_getElem? (i := 203) (by decide +kernel)) (by decide +kernel)
theorem wy_X6_test : Wy yX6_test cX6_test 4 (some .int) RX6 3 := ⟨tc_X6_test, wT_4 (List.mem_of_getElem? (i := 201) (by decide +kernel)) (by decide +kernel), wT_4 (List.mem_of_getElem? (i := 202) (by decide +kernel)) (by decide +kernel), wT_1 (List.mem_of_getElem? (i := 6) (by decide +kernel)) (by decide +kernel), by decide +kernel, by decide +kernel, by decide +kernel⟩
theorem tc_X6_appeal : Cond.code yX6_appeal cX6_appeal 3 (some .boolean) ∈ wT := wT_4 (List.mem_of_getElem? (i := 215) (by decide +kernel)) (by decide +kernel)
theorem wy_X6_appeal : Wy yX6_appeal cX6_appeal 3 (some .boolean) RX6 2 := ⟨tc_X6_appeal, wT_4 (List.mem_of_getElem? (i := 213) (by decide +kernel)) (by decide +kernel), wT_4 (List.mem_of_getElem? (i := 214) (by decide +kernel)) (by decide +kernel), wT_1 (List.mem_of_getElem? (i := 6) (by decide +kernel)) (by decide +kernel), by decide +kernel, by decide +kernel, by decide +kernel⟩
theorem tc_X6_four : Cond.code yX6_four cX6_four 3 none ∈ wT := wT_4 (List.mem_of_getElem? (i := 231) (by decide +kernel)) (by decide +kernel)
theorem wy_X6_four : Wy yX6_four cX6_four 3 none RX6 1 := ⟨tc_X6_four, wT_4 (List.mem_of_getElem? (i := 230) (by decide +kernel)) (by decide +kernel), wT_0 (List.mem_of_getElem? (i := 42) (by decide +kernel)) (by decide +kernel), wT_1 (List.mem_of_getElem? (i := 6) (by decide +kernel)) (by decide +kernel), by decide +kernel, by decide +kernel, by decide +kernel⟩
theorem tc_X6_feed : Cond.code yX6_feed cX6_feed 6 (some .int) ∈ wT := wT_4 (List.mem_of_getElem? (i := 227) (by decide +kernel)) (by decide +kernel)
theorem wy_X6_feed : Wy yX6_feed cX6_feed 6 (some .int) RX6 5 := ⟨tc_X6_feed, wT_4 (List.mem_of_getElem? (i := 225) (by decide +kernel)) (by decide +kernel), wT_4 (List.mem_of_getElem? (i := 226) (by decide +kernel)) (by decide +kernel), wT_1 (List.mem_of_getElem? (i := 6) (by decide +kernel)) (by decide +kernel), by decide +kernel, by decide +kernel, by decide +kernel⟩
theorem tc_X6_end : Cond.code yX6_end cX6_end 2 (some .boolean) ∈ wT := wT_4 (List.mem_of_getElem? (i := 235) (by decide +kernel)) (by decide +kernel)
theorem wy_X6_end : Wy yX6_end cX6_end 2 (some .boolean) RX6 1 := ⟨tc_X6_end, wT_4 (List.mem_of_getElem? (i := 233) (by decide +kernel)) (by decide +kernel), wT_4 (List.mem_of_getElem? (i := 234) (by decide +kernel)) (by decide +kernel), wT_1 (List.mem_of_getElem? (i := 6) (by decide +kernel)) (by decide +kernel), by decide +kernel, by decide +kernel, by decide +kernel⟩
theorem tc_X6_here : Cond.code yX6_here cX6_here 1 (some .int) ∈ wT := wT_5 (List.mem_of_getElem? (i := 7) (by decide +kernel)) (by decide +kernel)
theorem wy_X6_here : Wy yX6_here cX6_here 1 (some .int) RX6 0 := ⟨tc_X6_here, wT_5 (List.mem_of_getElem? (i := 6) (by decide +kernel)) (by decide +kernel), wT_0 (List.mem_of_getElem? (i := 44) (by decide +kernel)) (by decide +kernel), wT_1 (List.mem_of_getElem? (i := 6) (by decide +kernel)) (by decide +kernel), by decide +kernel, by decide +kernel, by decide +kernel⟩
theorem tc_X6_wrong : Cond.code yX6_wrong cX6_wrong 3 (some .boolean) ∈ wT := wT_5 (List.mem_of_getElem? (i := 15) (by decide +kernel)) (by decide +kernel)
theorem wy_X6_wrong : Wy yX6_wrong cX6_wrong 3 (some .boolean) RX6 2 := ⟨tc_X6_wrong, wT_5 (List.mem_of_getElem? (i := 14) (by decide +kernel)) (by decide +kernel), wT_0 (List.mem_of_getElem? (i := 46) (by decide +kernel)) (by decide +kernel), wT_1 (List.mem_of_getElem? (i := 6) (by decide +kernel)) (by decide +kernel), by decide +kernel, by decide +kernel, by decide +kernel⟩
theorem tc_X6_readWord : Cond.code yX6_readWord cX6_readWord 4 (some .long) ∈ wT := wT_5 (List.mem_of_getElem? (i := 19) (by decide +kernel)) (by decide +kernel)
theorem wy_X6_readWord : Wy yX6_readWord cX6_readWord 4 (some .long) RX6 0 := ⟨tc_X6_readWord, wT_5 (List.mem_of_getElem? (i := 18) (by decide +kernel)) (by decide +kernel), wT_0 (List.mem_of_getElem? (i := 47) (by decide +kernel)) (by decide +kernel), wT_1 (List.mem_of_getElem? (i := 6) (by decide +kernel)) (by decide +kernel), by decide +kernel, by decide +kernel, by decide +kernel⟩
theorem tc_X6_number : Cond.code yX6_number cX6_number 5 (some .boolean) ∈ wT := wT_5 (List.mem_of_getElem? (i := 31) (by decide +kernel)) (by decide +kernel)
theorem wy_X6_number : Wy yX6_number cX6_number 5 (some .boolean) RX6 3 := ⟨tc_X6_number, wT_5 (List.mem_of_getElem? (i := 30) (by decide +kernel)) (by decide +kernel), wT_0 (List.mem_of_getElem? (i := 49) (by decide +kernel)) (by decide +kernel), wT_1 (List.mem_of_getElem? (i := 6) (by decide +kernel)) (by decide +kernel), by decide +kernel, by decide +kernel, by decide +kernel⟩
theorem tc_X6_who : Cond.code yX6_who cX6_who 1 (some .boolean) ∈ wT := wT_5 (List.mem_of_getElem? (i := 42) (by decide +kernel)) (by decide +kernel)
theorem wy_X6_who : Wy yX6_who cX6_who 1 (some .boolean) RX6 0 := ⟨tc_X6_who, wT_5 (List.mem_of_getElem? (i := 41) (by decide +kernel)) (by decide +kernel), wT_0 (List.mem_of_getElem? (i := 51) (by decide +kernel)) (by decide +kernel), wT_1 (List.mem_of_getElem? (i := 6) (by decide +kernel)) (by decide +kernel), by decide +kernel, by decide +kernel, by decide +kernel⟩
theorem tc_X6_readFile : Cond.code yX6_readFile cX6_readFile 1 (some .boolean) ∈ wT := wT_5 (List.mem_of_getElem? (i := 38) (by decide +kernel)) (by decide +kernel)
theorem wy_X6_readFile : Wy yX6_readFile cX6_readFile 1 (some .boolean) RX6 0 := ⟨tc_X6_readFile, wT_5 (List.mem_of_getElem? (i := 37) (by decide +kernel)) (by decide +kernel), wT_0 (List.mem_of_getElem? (i := 50) (by decide +kernel)) (by decide +kernel), wT_1 (List.mem_of_getElem? (i := 6) (by decide +kernel)) (by decide +kernel), by decide +kernel, by decide +kernel, by decide +kernel⟩
theorem tc_X6_readTest : Cond.code yX6_readTest cX6_readTest 3 (some .boolean) ∈ wT := wT_5 (List.mem_of_getElem? (i := 47) (by decide +kernel)) (by decide +kernel)
theorem wy_X6_readTest : Wy yX6_readTest cX6_readTest 3 (some .boolean) RX6 0 := ⟨tc_X6_readTest, wT_5 (List.mem_of_getElem? (i := 46) (by decide +kernel)) (by decide +kernel), wT_0 (List.mem_of_getElem? (i := 52) (by decide +kernel)) (by decide +kernel), wT_1 (List.mem_of_getElem? (i := 6) (by decide +kernel)) (by decide +kernel), by decide +kernel, by decide +kernel, by decide +kernel⟩
theorem tc_X6_readRest : Cond.code yX6_readRest cX6_readRest 4 (some .boolean) ∈ wT := wT_5 (List.mem_of_getElem? (i := 26) (by decide +kernel)) (by decide +kernel)
theorem wy_X6_readRest : Wy yX6_readRest cX6_readRest 4 (some .boolean) RX6 2 := ⟨tc_X6_readRest, wT_5 (List.mem_of_getElem? (i := 25) (by decide +kernel)) (by decide +kernel), wT_0 (List.mem_of_getElem? (i := 48) (by decide +kernel)) (by decide +kernel), wT_1 (List.mem_of_getElem? (i := 6) (by decide +kernel)) (by decide +kernel), by decide +kernel, by decide +kernel, by decide +kernel⟩
theorem tc_X6_does : Cond.code yX6_does cX6_does 3 (some .boolean) ∈ wT := wT_5 (List.mem_of_getElem? (i := 54) (by decide +kernel)) (by decide +kernel)
theorem wy_X6_does : Wy yX6_does cX6_does 3 (some .boolean) RX6 1 := ⟨tc_X6_does, wT_5 (List.mem_of_getElem? (i := 53) (by decide +kernel)) (by decide +kernel), wT_0 (List.mem_of_getElem? (i := 53) (by decide +kernel)) (by decide +kernel), wT_1 (List.mem_of_getElem? (i := 6) (by decide +kernel)) (by decide +kernel), by decide +kernel, by decide +kernel, by decide +kernel⟩
theorem tc_X6_readStatement : Cond.code yX6_readStatement cX6_readStatement 4 (some .boolean) ∈ wT := wT_5 (List.mem_of_getElem? (i := 11) (by decide +kernel)) (by decide +kernel)
theorem wy_X6_readStatement : Wy yX6_readStatement cX6_readStatement 4 (some .boolean) RX6 0 := ⟨tc_X6_readStatement, wT_5 (List.mem_of_getElem? (i := 10) (by decide +kernel)) (by decide +kernel), wT_0 (List.mem_of_getElem? (i := 45) (by decide +kernel)) (by decide +kernel), wT_1 (List.mem_of_getElem? (i := 6) (by decide +kernel)) (by decide +kernel), by decide +kernel, by decide +kernel, by decide +kernel⟩
theorem tc_X6_readText : Cond.code yX6_readText cX6_readText 1 (some .boolean) ∈ wT := wT_5 (List.mem_of_getElem? (i := 3) (by decide +kernel)) (by decide +kernel)
theorem wy_X6_readText : Wy yX6_readText cX6_readText 1 (some .boolean) RX6 0 := ⟨tc_X6_readText, wT_5 (List.mem_of_getElem? (i := 2) (by decide +kernel)) (by decide +kernel), wT_0 (List.mem_of_getElem? (i := 43) (by decide +kernel)) (by decide +kernel), wT_1 (List.mem_of_getElem? (i := 6) (by decide +kernel)) (by decide +kernel), by decide +kernel, by decide +kernel, by decide +kernel⟩
theorem tc_X6_tell : Cond.code yX6_tell cX6_tell 3 (some .int) ∈ wT := wT_4 (List.mem_of_getElem? (i := 239) (by decide +kernel)) (by decide +kernel)
theorem wy_X6_tell : Wy yX6_tell cX6_tell 3 (some .int) RX6 0 := ⟨tc_X6_tell, wT_4 (List.mem_of_getElem? (i := 237) (by decide +kernel)) (by decide +kernel), wT_4 (List.mem_of_getElem? (i := 238) (by decide +kernel)) (by decide +kernel), wT_1 (List.mem_of_getElem? (i := 6) (by decide +kernel)) (by decide +kernel), by decide +kernel, by decide +kernel, by decide +kernel⟩
theorem tc_X6_fault : Cond.code yX6_fault cX6_fault 1 (some .int) ∈ wT := wT_5 (List.mem_of_getElem? (i := 58) (by decide +kernel)) (by decide +kernel)
theorem wy_X6_fault : Wy yX6_fault cX6_fault 1 (some .int) RX6 0 := ⟨tc_X6_fault, wT_5 (List.mem_of_getElem? (i := 56) (by decide +kernel)) (by decide +kernel), wT_5 (List.mem_of_getElem? (i := 57) (by decide +kernel)) (by decide +kernel), wT_1 (List.mem_of_getElem? (i := 6) (by decide +kernel)) (by decide +kernel), by decide +kernel, by decide +kernel, by decide +kernel⟩
theorem tc_X6_dayOf : Cond.code yX6_dayOf cX6_dayOf 3 (some .int) ∈ wT := wT_5 (List.mem_of_getElem? (i := 78) (by decide +kernel)) (by decide +kernel)
theorem wy_X6_dayOf : Wy yX6_dayOf cX6_dayOf 3 (some .int) RX6 2 := ⟨tc_X6_dayOf, wT_5 (List.mem_of_getElem? (i := 77) (by decide +kernel)) (by decide +kernel), wT_0 (List.mem_of_getElem? (i := 57) (by decide +kernel)) (by decide +kernel), wT_1 (List.mem_of_getElem? (i := 6) (by decide +kernel)) (by decide +kernel), by decide +kernel, by decide +kernel, by decide +kernel⟩
theorem tc_X6_openBehind : Cond.code yX6_openBehind cX6_openBehind 6 (some .int) ∈ wT := wT_5 (List.mem_of_getElem? (i := 82) (by decide +kernel)) (by decide +kernel)
theorem wy_X6_openBehind : Wy yX6_openBehind cX6_openBehind 6 (some .int) RX6 3 := ⟨tc_X6_openBehind, wT_5 (List.mem_of_getElem? (i := 81) (by decide +kernel)) (by decide +kernel), wT_0 (List.mem_of_getElem? (i := 58) (by decide +kernel)) (by decide +kernel), wT_1 (List.mem_of_getElem? (i := 6) (by decide +kernel)) (by decide +kernel), by decide +kernel, by decide +kernel, by decide +kernel⟩
theorem tc_X6_walksBy : Cond.code yX6_walksBy cX6_walksBy 9 none ∈ wT := wT_5 (List.mem_of_getElem? (i := 74) (by decide +kernel)) (by decide +kernel)
theorem wy_X6_walksBy : Wy yX6_walksBy cX6_walksBy 9 none RX6 3 := ⟨tc_X6_walksBy, wT_5 (List.mem_of_getElem? (i := 73) (by decide +kernel)) (by decide +kernel), wT_0 (List.mem_of_getElem? (i := 56) (by decide +kernel)) (by decide +kernel), wT_1 (List.mem_of_getElem? (i := 6) (by decide +kernel)) (by decide +kernel), by decide +kernel, by decide +kernel, by decide +kernel⟩
theorem tc_X6_walks : Cond.code yX6_walks cX6_walks 2 none ∈ wT := wT_5 (List.mem_of_getElem? (i := 70) (by decide +kernel)) (by decide +kernel)
theorem wy_X6_walks : Wy yX6_walks cX6_walks 2 none RX6 1 := ⟨tc_X6_walks, wT_5 (List.mem_of_getElem? (i := 69) (by decide +kernel)) (by decide +kernel), wT_0 (List.mem_of_getElem? (i := 55) (by decide +kernel)) (by decide +kernel), wT_1 (List.mem_of_getElem? (i := 6) (by decide +kernel)) (by decide +kernel), by decide +kernel, by decide +kernel, by decide +kernel⟩
theorem tc_X6_pointsNow : Cond.code yX6_pointsNow cX6_pointsNow 2 (some .int) ∈ wT := wT_5 (List.mem_of_getElem? (i := 66) (by decide +kernel)) (by decide +kernel)
theorem wy_X6_pointsNow : Wy yX6_pointsNow cX6_pointsNow 2 (some .int) RX6 1 := ⟨tc_X6_pointsNow, wT_5 (List.mem_of_getElem? (i := 65) (by decide +kernel)) (by decide +kernel), wT_0 (List.mem_of_getElem? (i := 54) (by decide +kernel)) (by decide +kernel), wT_1 (List.mem_of_getElem? (i := 6) (by decide +kernel)) (by decide +kernel), by decide +kernel, by decide +kernel, by decide +kernel⟩
theorem tc_X6_weightOf : Cond.code yX6_weightOf cX6_weightOf 3 (some .int) ∈ wT := wT_5 (List.mem_of_getElem? (i := 94) (by decide +kernel)) (by decide +kernel)
theorem wy_X6_weightOf : Wy yX6_weightOf cX6_weightOf 3 (some .int) RX6 1 := ⟨tc_X6_weightOf, wT_5 (List.mem_of_getElem? (i := 93) (by decide +kernel)) (by decide +kernel), wT_0 (List.mem_of_getElem? (i := 61) (by decide +kernel)) (by decide +kernel), wT_1 (List.mem_of_getElem? (i := 6) (by decide +kernel)) (by decide +kernel), by decide +kernel, by decide +kernel, by decide +kernel⟩
theorem tc_X6_latesOf : Cond.code yX6_latesOf cX6_latesOf 2 (some .int) ∈ wT := wT_5 (List.mem_of_getElem? (i := 90) (by decide +kernel)) (by decide +kernel)
theorem wy_X6_latesOf : Wy yX6_latesOf cX6_latesOf 2 (some .int) RX6 1 := ⟨tc_X6_latesOf, wT_5 (List.mem_of_getElem? (i := 89) (by decide +kernel)) (by decide +kernel), wT_0 (List.mem_of_getElem? (i := 60) (by decide +kernel)) (by decide +kernel), wT_1 (List.mem_of_getElem? (i := 6) (by decide +kernel)) (by decide +kernel), by decide +kernel, by decide +kernel, by decide +kernel⟩
theorem tc_X6_violationsOf : Cond.code yX6_violationsOf cX6_violationsOf 2 (some .int) ∈ wT := wT_5 (List.mem_of_getElem? (i := 86) (by decide +kernel)) (by decide +kernel)
theorem wy_X6_violationsOf : Wy yX6_violationsOf cX6_violationsOf 2 (some .int) RX6 1 := ⟨tc_X6_violationsOf, wT_5 (List.mem_of_getElem? (i := 85) (by decide +kernel)) (by decide +kernel), wT_0 (List.mem_of_getElem? (i := 59) (by decide +kernel)) (by decide +kernel), wT_1 (List.mem_of_getElem? (i := 6) (by decide +kernel)) (by decide +kernel), by decide +kernel, by decide +kernel, by decide +kernel⟩
theorem tc_X6_of : Cond.code yX6_of cX6_of 3 (some .int) ∈ wT := wT_5 (List.mem_of_getElem? (i := 62) (by decide +kernel)) (by decide +kernel)
theorem wy_X6_of : Wy yX6_of cX6_of 3 (some .int) RX6 2 := ⟨tc_X6_of, wT_5 (List.mem_of_getElem? (i := 60) (by decide +kernel)) (by decide +kernel), wT_5 (List.mem_of_getElem? (i := 61) (by decide +kernel)) (by decide +kernel), wT_1 (List.mem_of_getElem? (i := 6) (by decide +kernel)) (by decide +kernel), by decide +kernel, by decide +kernel, by decide +kernel⟩
theorem tc_X6_count : Cond.code yX6_count cX6_count 2 (some .int) ∈ wT := wT_5 (List.mem_of_getElem? (i := 98) (by decide +kernel)) (by decide +kernel)
theorem wy_X6_count : Wy yX6_count cX6_count 2 (some .int) RX6 1 := ⟨tc_X6_count, wT_5 (List.mem_of_getElem? (i := 96) (by decide +kernel)) (by decide +kernel), wT_5 (List.mem_of_getElem? (i := 97) (by decide +kernel)) (by decide +kernel), wT_1 (List.mem_of_getElem? (i := 6) (by decide +kernel)) (by decide +kernel), by decide +kernel, by decide +kernel, by decide +kernel⟩
theorem tc_X6_isDay : Cond.code yX6_isDay cX6_isDay 1 (some .boolean) ∈ wT := wT_5 (List.mem_of_getElem? (i := 105) (by decide +kernel)) (by decide +kernel)
theorem ws_X6_isDay : Ws yX6_isDay cX6_isDay 1 (some .boolean) 1 := ⟨tc_X6_isDay, wT_5 (List.mem_of_getElem? (i := 104) (by decide +kernel)) (by decide +kernel), wT_1 (List.mem_of_getElem? (i := 6) (by decide +kernel)) (by decide +kernel), by decide +kernel, by decide +kernel, by decide +kernel⟩
theorem tc_X6_filed : Cond.code yX6_filed cX6_filed 4 (some .int) ∈ wT := wT_5 (List.mem_of_getElem? (i := 102) (by decide +kernel)) (by decide +kernel)
theorem wy_X6_filed : Wy yX6_filed cX6_filed 4 (some .int) RX6 3 := ⟨tc_X6_filed, wT_5 (List.mem_of_getElem? (i := 100) (by decide +kernel)) (by decide +kernel), wT_5 (List.mem_of_getElem? (i := 101) (by decide +kernel)) (by decide +kernel), wT_1 (List.mem_of_getElem? (i := 6) (by decide +kernel)) (by decide +kernel), by decide +kernel, by decide +kernel, by decide +kernel⟩
theorem tc_X6_failure : Cond.code yX6_failure cX6_failure 4 (some .int) ∈ wT := wT_5 (List.mem_of_getElem? (i := 109) (by decide +kernel)) (by decide +kernel)
theorem wy_X6_failure : Wy yX6_failure cX6_failure 4 (some .int) RX6 3 := ⟨tc_X6_failure, wT_5 (List.mem_of_getElem? (i := 107) (by decide +kernel)) (by decide +kernel), wT_5 (List.mem_of_getElem? (i := 108) (by decide +kernel)) (by decide +kernel), wT_1 (List.mem_of_getElem? (i := 6) (by decide +kernel)) (by decide +kernel), by decide +kernel, by decide +kernel, by decide +kernel⟩
theorem tc_X6_violation : Cond.code yX6_violation cX6_violation 3 (some .int) ∈ wT := wT_5 (List.mem_of_getElem? (i := 113) (by decide +kernel)) (by decide +kernel)
theorem wy_X6_violation : Wy yX6_violation cX6_violation 3 (some .int) RX6 2 := ⟨tc_X6_violation, wT_5 (List.mem_of_getElem? (i := 111) (by decide +kernel)) (by decide +kernel), wT_5 (List.mem_of_getElem? (i := 112) (by decide +kernel)) (by decide +kernel), wT_1 (List.mem_of_getElem? (i := 6) (by decide +kernel)) (by decide +kernel), by decide +kernel, by decide +kernel, by decide +kernel⟩
theorem tc_X6_hole : Cond.code yX6_hole cX6_hole 3 (some .int) ∈ wT := wT_5 (List.mem_of_getElem? (i := 117) (by decide +kernel)) (by decide +kernel)
theorem wy_X6_hole : Wy yX6_hole cX6_hole 3 (some .int) RX6 2 := ⟨tc_X6_hole, wT_5 (List.mem_of_getElem? (i := 115) (by decide +kernel)) (by decide +kernel), wT_5 (List.mem_of_getElem? (i := 116) (by decide +kernel)) (by decide +kernel), wT_1 (List.mem_of_getElem? (i := 6) (by decide +kernel)) (by decide +kernel), by decide +kernel, by decide +kernel, by decide +kernel⟩
theorem tc_X6_sumBut : Cond.code yX6_sumBut cX6_sumBut 4 (some .int) ∈ wT := wT_5 (List.mem_of_getElem? (i := 128) (by decide +kernel)) (by decide +kernel)
theorem wy_X6_sumBut : Wy yX6_sumBut cX6_sumBut 4 (some .int) RX6 1 := ⟨tc_X6_sumBut, wT_5 (List.mem_of_getElem? (i := 127) (by decide +kernel)) (by decide +kernel), wT_0 (List.mem_of_getElem? (i := 62) (by decide +kernel)) (by decide +kernel), wT_1 (List.mem_of_getElem? (i := 6) (by decide +kernel)) (by decide +kernel), by decide +kernel, by decide +kernel, by decide +kernel⟩
theorem tc_X6_lot : Cond.code yX6_lot cX6_lot 10 (some .int) ∈ wT := wT_5 (List.mem_of_getElem? (i := 121) (by decide +kernel)) (by decide +kernel)
theorem wy_X6_lot : Wy yX6_lot cX6_lot 10 (some .int) RX6 2 := ⟨tc_X6_lot, wT_5 (List.mem_of_getElem? (i := 119) (by decide +kernel)) (by decide +kernel), wT_5 (List.mem_of_getElem? (i := 120) (by decide +kernel)) (by decide +kernel), wT_1 (List.mem_of_getElem? (i := 6) (by decide +kernel)) (by decide +kernel), by decide +kernel, by decide +kernel, by decide +kernel⟩
theorem tc_X6_divisor : Cond.code yX6_divisor cX6_divisor 5 (some .int) ∈ wT := wT_5 (List.mem_of_getElem? (i := 135) (by decide +kernel)) (by decide +kernel)
theorem ws_X6_divisor : Ws yX6_divisor cX6_divisor 5 (some .int) 2 := ⟨tc_X6_divisor, wT_5 (List.mem_of_getElem? (i := 134) (by decide +kernel)) (by decide +kernel), wT_1 (List.mem_of_getElem? (i := 6) (by decide +kernel)) (by decide +kernel), by decide +kernel, by decide +kernel, by decide +kernel⟩
theorem tc_X6_chance : Cond.code yX6_chance cX6_chance 6 (some .int) ∈ wT := wT_5 (List.mem_of_getElem? (i := 132) (by decide +kernel)) (by decide +kernel)
theorem wy_X6_chance : Wy yX6_chance cX6_chance 6 (some .int) RX6 2 := ⟨tc_X6_chance, wT_5 (List.mem_of_getElem? (i := 130) (by decide +kernel)) (by decide +kernel), wT_5 (List.mem_of_getElem? (i := 131) (by decide +kernel)) (by decide +kernel), wT_1 (List.mem_of_getElem? (i := 6) (by decide +kernel)) (by decide +kernel), by decide +kernel, by decide +kernel, by decide +kernel⟩
theorem tc_X6_thereAt : Cond.code yX6_thereAt cX6_thereAt 6 (some .int) ∈ wT := wT_5 (List.mem_of_getElem? (i := 147) (by decide +kernel)) (by decide +kernel)
theorem wy_X6_thereAt : Wy yX6_thereAt cX6_thereAt 6 (some .int) RX6 3 := ⟨tc_X6_thereAt, wT_5 (List.mem_of_getElem? (i := 146) (by decide +kernel)) (by decide +kernel), wT_0 (List.mem_of_getElem? (i := 64) (by decide +kernel)) (by decide +kernel), wT_1 (List.mem_of_getElem? (i := 6) (by decide +kernel)) (by decide +kernel), by decide +kernel, by decide +kernel, by decide +kernel⟩
theorem tc_X6_bits : Cond.code yX6_bits cX6_bits 3 (some .int) ∈ wT := wT_5 (List.mem_of_getElem? (i := 150) (by decide +kernel)) (by decide +kernel)
theorem ws_X6_bits : Ws yX6_bits cX6_bits 3 (some .int) 1 := ⟨tc_X6_bits, wT_5 (List.mem_of_getElem? (i := 149) (by decide +kernel)) (by decide +kernel), wT_1 (List.mem_of_getElem? (i := 6) (by decide +kernel)) (by decide +kernel), by decide +kernel, by decide +kernel, by decide +kernel⟩
theorem tc_X6_bestPlace : Cond.code yX6_bestPlace cX6_bestPlace 7 (some .int) ∈ wT := wT_5 (List.mem_of_getElem? (i := 143) (by decide +kernel)) (by decide +kernel)
theorem wy_X6_bestPlace : Wy yX6_bestPlace cX6_bestPlace 7 (some .int) RX6 2 := ⟨tc_X6_bestPlace, wT_5 (List.mem_of_getElem? (i := 142) (by decide +kernel)) (by decide +kernel), wT_0 (List.mem_of_getElem? (i := 63) (by decide +kernel)) (by decide +kernel), wT_1 (List.mem_of_getElem? (i := 6) (by decide +kernel)) (by decide +kernel), by decide +kernel, by decide +kernel, by decide +kernel⟩
theorem tc_X6_round : Cond.code yX6_round cX6_round 7 (some .int) ∈ wT := wT_5 (List.mem_of_getElem? (i := 139) (by decide +kernel)) (by decide +kernel)
theorem wy_X6_round : Wy yX6_round cX6_round 7 (some .int) RX6 3 := ⟨tc_X6_round, wT_5 (List.mem_of_getElem? (i := 137) (by decide +kernel)) (by decide +kernel), wT_5 (List.mem_of_getElem? (i := 138) (by decide +kernel)) (by decide +kernel), wT_1 (List.mem_of_getElem? (i := 6) (by decide +kernel)) (by decide +kernel), by decide +kernel, by decide +kernel, by decide +kernel⟩
theorem tc_X6_there : Cond.code yX6_there cX6_there 4 (some .int) ∈ wT := wT_5 (List.mem_of_getElem? (i := 154) (by decide +kernel)) (by decide +kernel)
theorem wy_X6_there : Wy yX6_there cX6_there 4 (some .int) RX6 3 := ⟨tc_X6_there, wT_5 (List.mem_of_getElem? (i := 152) (by decide +kernel)) (by decide +kernel), wT_5 (List.mem_of_getElem? (i := 153) (by decide +kernel)) (by decide +kernel), wT_1 (List.mem_of_getElem? (i := 6) (by decide +kernel)) (by decide +kernel), by decide +kernel, by decide +kernel, by decide +kernel⟩
theorem tc_X6_danger : Cond.code yX6_danger cX6_danger 4 (some .int) ∈ wT := wT_5 (List.mem_of_getElem? (i := 158) (by decide +kernel)) (by decide +kernel)
theorem wy_X6_danger : Wy yX6_danger cX6_danger 4 (some .int) RX6 1 := ⟨tc_X6_danger, wT_5 (List.mem_of_getElem? (i := 156) (by decide +kernel)) (by decide +kernel), wT_5 (List.mem_of_getElem? (i := 157) (by decide +kernel)) (by decide +kernel), wT_1 (List.mem_of_getElem? (i := 6) (by decide +kernel)) (by decide +kernel), by decide +kernel, by decide +kernel, by decide +kernel⟩
theorem tc_X6_easier : Cond.code yX6_easier cX6_easier 3 (some .int) ∈ wT := wT_5 (List.mem_of_getElem? (i := 162) (by decide +kernel)) (by decide +kernel)
theorem wy_X6_easier : Wy yX6_easier cX6_easier 3 (some .int) RX6 1 := ⟨tc_X6_easier, wT_5 (List.mem_of_getElem? (i := 160) (by decide +kernel)) (by decide +kernel), wT_5 (List.mem_of_getElem? (i := 161) (by decide +kernel)) (by decide +kernel), wT_1 (List.mem_of_getElem? (i := 6) (by decide +kernel)) (by decide +kernel), by decide +kernel, by decide +kernel, by decide +kernel⟩
theorem tc_X6_without : Cond.code yX6_without cX6_without 3 (some .int) ∈ wT := wT_5 (List.mem_of_getElem? (i := 166) (by decide +kernel)) (by decide +kernel)
theorem wy_X6_without : Wy yX6_without cX6_without 3 (some .int) RX6 2 := ⟨tc_X6_without, wT_5 (List.mem_of_getElem? (i := 164) (by decide +kernel)) (by decide +kernel), wT_5 (List.mem_of_getElem? (i := 165) (by decide +kernel)) (by decide +kernel), wT_1 (List.mem_of_getElem? (i := 6) (by decide +kernel)) (by decide +kernel), by decide +kernel, by decide +kernel, by decide +kernel⟩
theorem tc_X6_isWorse : Cond.code yX6_isWorse cX6_isWorse 4 (some .boolean) ∈ wT := wT_5 (List.mem_of_getElem? (i := 174) (by decide +kernel)) (by decide +kernel)
theorem wy_X6_isWorse : Wy yX6_isWorse cX6_isWorse 4 (some .boolean) RX6 2 := ⟨tc_X6_isWorse, wT_5 (List.mem_of_getElem? (i := 173) (by decide +kernel)) (by decide +kernel), wT_0 (List.mem_of_getElem? (i := 65) (by decide +kernel)) (by decide +kernel), wT_1 (List.mem_of_getElem? (i := 6) (by decide +kernel)) (by decide +kernel), by decide +kernel, by decide +kernel, by decide +kernel⟩
theorem tc_X6_worst : Cond.code yX6_worst cX6_worst 3 (some .int) ∈ wT := wT_5 (List.mem_of_getElem? (i := 170) (by decide +kernel)) (by decide +kernel)
theorem wy_X6_worst : Wy yX6_worst cX6_worst 3 (some .int) RX6 0 := ⟨tc_X6_worst, wT_5 (List.mem_of_getElem? (i := 168) (by decide +kernel)) (by decide +kernel), wT_5 (List.mem_of_getElem? (i := 169) (by decide +kernel)) (by decide +kernel), wT_1 (List.mem_of_getElem? (i := 6) (by decide +kernel)) (by decide +kernel), by decide +kernel, by decide +kernel, by decide +kernel⟩
theorem tc_J6_compare_7cf53 : Cond.code yJ6_compare_7cf53 cJ6_compare_7cf53 2 (some .int) ∈ wT := wT_3 (List.mem_of_getElem? (i := 227) (by decide +kernel)) (by decide +kernel)
theorem ws_J6_compare_7cf53 : Ws yJ6_compare_7cf53 cJ6_compare_7cf53 2 (some .int) 2 := ⟨tc_J6_compare_7cf53, wT_3 (List.mem_of_getElem? (i := 226) (by decide +kernel)) (by decide +kernel), wT_1 (List.mem_of_getElem? (i := 19) (by decide +kernel)) (by decide +kernel), by decide +kernel, by decide +kernel, by decide +kernel⟩
theorem tc_J6_bitCount_0f7a4 : Cond.code yJ6_bitCount_0f7a4 cJ6_bitCount_0f7a4 1 (some .int) ∈ wT := wT_3 (List.mem_of_getElem? (i := 183) (by decide +kernel)) (by decide +kernel)
theorem ws_J6_bitCount_0f7a4 : Ws yJ6_bitCount_0f7a4 cJ6_bitCount_0f7a4 1 (some .int) 1 := ⟨tc_J6_bitCount_0f7a4, wT_3 (List.mem_of_getElem? (i := 182) (by decide +kernel)) (by decide +kernel), wT_1 (List.mem_of_getElem? (i := 19) (by decide +kernel)) (by decide +kernel), by decide +kernel, by decide +kernel, by decide +kernel⟩
theorem tc_J9_min_7cf53 : Cond.code yJ9_min_7cf53 cJ9_min_7cf53 2 (some .int) ∈ wT := wT_3 (List.mem_of_getElem? (i := 23) (by decide +kernel)) (by decide +kernel)
theorem ws_J9_min_7cf53 : Ws yJ9_min_7cf53 cJ9_min_7cf53 2 (some .int) 2 := ⟨tc_J9_min_7cf53, wT_3 (List.mem_of_getElem? (i := 22) (by decide +kernel)) (by decide +kernel), wT_1 (List.mem_of_getElem? (i := 14) (by decide +kernel)) (by decide +kernel), by decide +kernel, by decide +kernel, by decide +kernel⟩
theorem tc_J0_length_8abf5 : Cond.code yJ0_length_8abf5 cJ0_length_8abf5 1 (some .int) ∈ wT := wT_2 (List.mem_of_getElem? (i := 86) (by decide +kernel)) (by decide +kernel)
theorem wy_J0_length_8abf5 : Wy yJ0_length_8abf5 cJ0_length_8abf5 1 (some .int) RJ0 0 := ⟨tc_J0_length_8abf5, wT_2 (List.mem_of_getElem? (i := 84) (by decide +kernel)) (by decide +kernel), wT_2 (List.mem_of_getElem? (i := 85) (by decide +kernel)) (by decide +kernel), wT_1 (List.mem_of_getElem? (i := 9) (by decide +kernel)) (by decide +kernel), by decide +kernel, by decide +kernel, by decide +kernel⟩
theorem tc_J0_charAt_5068e : Cond.code yJ0_charAt_5068e cJ0_charAt_5068e 2 (some .char) ∈ wT := wT_2 (List.mem_of_getElem? (i := 96) (by decide +kernel)) (by decide +kernel)
theorem wy_J0_charAt_5068e : Wy yJ0_charAt_5068e cJ0_charAt_5068e 2 (some .char) RJ0 1 := ⟨tc_J0_charAt_5068e, wT_2 (List.mem_of_getElem? (i := 94) (by decide +kernel)) (by decide +kernel), wT_2 (List.mem_of_getElem? (i := 95) (by decide +kernel)) (by decide +kernel), wT_1 (List.mem_of_getElem? (i := 9) (by decide +kernel)) (by decide +kernel), by decide +kernel, by decide +kernel, by decide +kernel⟩
theorem tc_J0_coder_7d493 : Cond.code yJ0_coder_7d493 cJ0_coder_7d493 1 (some .byte) ∈ wT := wT_2 (List.mem_of_getElem? (i := 90) (by decide +kernel)) (by decide +kernel)
theorem wy_J0_coder_7d493 : Wy yJ0_coder_7d493 cJ0_coder_7d493 1 (some .byte) RJ0 0 := ⟨tc_J0_coder_7d493, wT_2 (List.mem_of_getElem? (i := 88) (by decide +kernel)) (by decide +kernel), wT_2 (List.mem_of_getElem? (i := 89) (by decide +kernel)) (by decide +kernel), wT_1 (List.mem_of_getElem? (i := 9) (by decide +kernel)) (by decide +kernel), by decide +kernel, by decide +kernel, by decide +kernel⟩
theorem tc_J0_isLatin1_aae02 : Cond.code yJ0_isLatin1_aae02 cJ0_isLatin1_aae02 1 (some .boolean) ∈ wT := wT_2 (List.mem_of_getElem? (i := 100) (by decide +kernel)) (by decide +kernel)
theorem wy_J0_isLatin1_aae02 : Wy yJ0_isLatin1_aae02 cJ0_isLatin1_aae02 1 (some .boolean) RJ0 0 := ⟨tc_J0_isLatin1_aae02, wT_2 (List.mem_of_getElem? (i := 98) (by decide +kernel)) (by decide +kernel), wT_2 (List.mem_of_getElem? (i := 99) (by decide +kernel)) (by decide +kernel), wT_1 (List.mem_of_getElem? (i := 9) (by decide +kernel)) (by decide +kernel), by decide +kernel, by decide +kernel, by decide +kernel⟩
theorem tc_J0_checkIndex_df160 : Cond.code yJ0_checkIndex_df160 cJ0_checkIndex_df160 2 none ∈ wT := wT_2 (List.mem_of_getElem? (i := 106) (by decide +kernel)) (by decide +kernel)
theorem ws_J0_checkIndex_df160 : Ws yJ0_checkIndex_df160 cJ0_checkIndex_df160 2 none 2 := ⟨tc_J0_checkIndex_df160, wT_2 (List.mem_of_getElem? (i := 105) (by decide +kernel)) (by decide +kernel), wT_1 (List.mem_of_getElem? (i := 9) (by decide +kernel)) (by decide +kernel), by decide +kernel, by decide +kernel, by decide +kernel⟩
theorem tc_J1_charAt_3b067 : Cond.code yJ1_charAt_3b067 cJ1_charAt_3b067 2 (some .char) ∈ wT := wT_2 (List.mem_of_getElem? (i := 103) (by decide +kernel)) (by decide +kernel)
theorem ws_J1_charAt_3b067 : Ws yJ1_charAt_3b067 cJ1_charAt_3b067 2 (some .char) 2 := ⟨tc_J1_charAt_3b067, wT_2 (List.mem_of_getElem? (i := 102) (by decide +kernel)) (by decide +kernel), wT_1 (List.mem_of_getElem? (i := 10) (by decide +kernel)) (by decide +kernel), by decide +kernel, by decide +kernel, by decide +kernel⟩
theorem tc_J2_getChar_3b067 : Cond.code yJ2_getChar_3b067 cJ2_getChar_3b067 2 (some .char) ∈ wT := wT_2 (List.mem_of_getElem? (i := 124) (by decide +kernel)) (by decide +kernel)
theorem ws_J2_getChar_3b067 : Ws yJ2_getChar_3b067 cJ2_getChar_3b067 2 (some .char) 2 := ⟨tc_J2_getChar_3b067, wT_2 (List.mem_of_getElem? (i := 123) (by decide +kernel)) (by decide +kernel), wT_1 (List.mem_of_getElem? (i := 12) (by decide +kernel)) (by decide +kernel), by decide +kernel, by decide +kernel, by decide +kernel⟩
theorem tc_J2_length_9d52b : Cond.code yJ2_length_9d52b cJ2_length_9d52b 1 (some .int) ∈ wT := wT_2 (List.mem_of_getElem? (i := 120) (by decide +kernel)) (by decide +kernel)
theorem ws_J2_length_9d52b : Ws yJ2_length_9d52b cJ2_length_9d52b 1 (some .int) 1 := ⟨tc_J2_length_9d52b, wT_2 (List.mem_of_getElem? (i := 119) (by decide +kernel)) (by decide +kernel), wT_1 (List.mem_of_getElem? (i := 12) (by decide +kernel)) (by decide +kernel), by decide +kernel, by decide +kernel, by decide +kernel⟩
theorem tc_J2_charAt_3b067 : Cond.code yJ2_charAt_3b067 cJ2_charAt_3b067 2 (some .char) ∈ wT := wT_2 (List.mem_of_getElem? (i := 114) (by decide +kernel)) (by decide +kernel)
theorem ws_J2_charAt_3b067 : Ws yJ2_charAt_3b067 cJ2_charAt_3b067 2 (some .char) 2 := ⟨tc_J2_charAt_3b067, wT_2 (List.mem_of_getElem? (i := 113) (by decide +kernel)) (by decide +kernel), wT_1 (List.mem_of_getElem? (i := 12) (by decide +kernel)) (by decide +kernel), by decide +kernel, by decide +kernel, by decide +kernel⟩
theorem tc_J2_checkIndex_2214a : Cond.code yJ2_checkIndex_2214a cJ2_checkIndex_2214a 2 none ∈ wT := wT_2 (List.mem_of_getElem? (i := 117) (by decide +kernel)) (by decide +kernel)
theorem ws_J2_checkIndex_2214a : Ws yJ2_checkIndex_2214a cJ2_checkIndex_2214a 2 none 2 := ⟨tc_J2_checkIndex_2214a, wT_2 (List.mem_of_getElem? (i := 116) (by decide +kernel)) (by decide +kernel), wT_1 (List.mem_of_getElem? (i := 12) (by decide +kernel)) (by decide +kernel), by decide +kernel, by decide +kernel, by decide +kernel⟩
theorem tc_J7_fill_53178 : Cond.code yJ7_fill_53178 cJ7_fill_53178 4 none ∈ wT := wT_2 (List.mem_of_getElem? (i := 216) (by decide +kernel)) (by decide +kernel)
theorem ws_J7_fill_53178 : Ws yJ7_fill_53178 cJ7_fill_53178 4 none 2 := ⟨tc_J7_fill_53178, wT_2 (List.mem_of_getElem? (i := 215) (by decide +kernel)) (by decide +kernel), wT_1 (List.mem_of_getElem? (i := 13) (by decide +kernel)) (by decide +kernel), by decide +kernel, by decide +kernel, by decide +kernel⟩
theorem tc_J3_checkIndex_8e157 : Cond.code yJ3_checkIndex_8e157 cJ3_checkIndex_8e157 3 (some .int) ∈ wT := wT_2 (List.mem_of_getElem? (i := 111) (by decide +kernel)) (by decide +kernel)
theorem ws_J3_checkIndex_8e157 : Ws yJ3_checkIndex_8e157 cJ3_checkIndex_8e157 3 (some .int) 3 := ⟨tc_J3_checkIndex_8e157, wT_2 (List.mem_of_getElem? (i := 110) (by decide +kernel)) (by decide +kernel), wT_1 (List.mem_of_getElem? (i := 11) (by decide +kernel)) (by decide +kernel), by decide +kernel, by decide +kernel, by decide +kernel⟩
theorem ml_L_15 : Cond.methodLink RL 15 yX5_init ∈ wT := wT_1 (List.mem_of_getElem? (i := 22) (by decide +kernel)) (by decide +kernel)
theorem ml_X5_1 : Cond.methodLink RX5 1 ⟨"java/lang/Object", "<init>", "()V"⟩ ∈ wT := wT_1 (List.mem_of_getElem? (i := 25) (by decide +kernel)) (by decide +kernel)
theorem ml_X0_3 : Cond.methodLink RX0 3 ⟨"java/lang/Object", "<init>", "()V"⟩ ∈ wT := wT_1 (List.mem_of_getElem? (i := 33) (by decide +kernel)) (by decide +kernel)
theorem ml_X0_13 : Cond.methodLink RX0 13 ⟨"[I", "clone", "()Ljava/lang/Object;"⟩ ∈ wT := wT_1 (List.mem_of_getElem? (i := 36) (by decide +kernel)) (by decide +kernel)
theorem fl_X0_34 : Cond.fieldLink RX0 34 "WhereFound$Register" "day" "I" ∈ wT := wT_1 (List.mem_of_getElem? (i := 45) (by decide +kernel)) (by decide +kernel)
theorem fl_X5_98 : Cond.fieldLink RX5 98 "WhereFound$Register" "day" "I" ∈ wT := wT_1 (List.mem_of_getElem? (i := 46) (by decide +kernel)) (by decide +kernel)
theorem fl_X0_37 : Cond.fieldLink RX0 37 "WhereFound$Register" "hour" "I" ∈ wT := wT_1 (List.mem_of_getElem? (i := 47) (by decide +kernel)) (by decide +kernel)
theorem fl_X5_101 : Cond.fieldLink RX5 101 "WhereFound$Register" "hour" "I" ∈ wT := wT_1 (List.mem_of_getElem? (i := 48) (by decide +kernel)) (by decide +kernel)
theorem fl_X0_29 : Cond.fieldLink RX0 29 "WhereFound$Register" "athletes" "I" ∈ wT := wT_1 (List.mem_of_getElem? (i := 49) (by decide +kernel)) (by decide +kernel)
theorem fl_X5_95 : Cond.fieldLink RX5 95 "WhereFound$Register" "athletes" "I" ∈ wT := wT_1 (List.mem_of_getElem? (i := 50) (by decide +kernel)) (by decide +kernel)
theorem fl_X0_18 : Cond.fieldLink RX0 18 "WhereFound$Register" "settings" "[I" ∈ wT := wT_1 (List.mem_of_getElem? (i := 51) (by decide +kernel)) (by decide +kernel)
theorem fl_X5_169 : Cond.fieldLink RX5 169 "WhereFound$Register" "settings" "[I" ∈ wT := wT_1 (List.mem_of_getElem? (i := 52) (by decide +kernel)) (by decide +kernel)
theorem fl_X0_25 : Cond.fieldLink RX0 25 "WhereFound$Register" "rows" "[LWhereFound$Sportsman;" ∈ wT := wT_1 (List.mem_of_getElem? (i := 53) (by decide +kernel)) (by decide +kernel)
theorem ml_X2_3 : Cond.methodLink RX2 3 ⟨"java/lang/Object", "<init>", "()V"⟩ ∈ wT := wT_1 (List.mem_of_getElem? (i := 71) (by decide +kernel)) (by decide +kernel)
theorem fl_X2_32 : Cond.fieldLink RX2 32 "WhereFound$Tally" "violations" "I" ∈ wT := wT_1 (List.mem_of_getElem? (i := 72) (by decide +kernel)) (by decide +kernel)
theorem fl_X5_240 : Cond.fieldLink RX5 240 "WhereFound$Tally" "violations" "I" ∈ wT := wT_1 (List.mem_of_getElem? (i := 73) (by decide +kernel)) (by decide +kernel)
theorem fl_X2_22 : Cond.fieldLink RX2 22 "WhereFound$Tally" "window" "I" ∈ wT := wT_1 (List.mem_of_getElem? (i := 74) (by decide +kernel)) (by decide +kernel)
theorem fl_X2_26 : Cond.fieldLink RX2 26 "WhereFound$Tally" "limit" "I" ∈ wT := wT_1 (List.mem_of_getElem? (i := 75) (by decide +kernel)) (by decide +kernel)
theorem fl_X2_29 : Cond.fieldLink RX2 29 "WhereFound$Tally" "notice" "I" ∈ wT := wT_1 (List.mem_of_getElem? (i := 76) (by decide +kernel)) (by decide +kernel)
theorem fl_X2_35 : Cond.fieldLink RX2 35 "WhereFound$Tally" "size" "I" ∈ wT := wT_1 (List.mem_of_getElem? (i := 77) (by decide +kernel)) (by decide +kernel)
theorem fl_X2_38 : Cond.fieldLink RX2 38 "WhereFound$Tally" "firstOpen" "I" ∈ wT := wT_1 (List.mem_of_getElem? (i := 78) (by decide +kernel)) (by decide +kernel)
theorem fl_X2_41 : Cond.fieldLink RX2 41 "WhereFound$Tally" "lastCounting" "I" ∈ wT := wT_1 (List.mem_of_getElem? (i := 79) (by decide +kernel)) (by decide +kernel)
theorem fl_X2_11 : Cond.fieldLink RX2 11 "WhereFound$Tally" "days" "[I" ∈ wT := wT_1 (List.mem_of_getElem? (i := 80) (by decide +kernel)) (by decide +kernel)
theorem fl_X2_15 : Cond.fieldLink RX2 15 "WhereFound$Tally" "counting" "[Z" ∈ wT := wT_1 (List.mem_of_getElem? (i := 81) (by decide +kernel)) (by decide +kernel)
theorem fl_X2_19 : Cond.fieldLink RX2 19 "WhereFound$Tally" "violationDays" "[I" ∈ wT := wT_1 (List.mem_of_getElem? (i := 82) (by decide +kernel)) (by decide +kernel)
theorem ml_X3_3 : Cond.methodLink RX3 3 ⟨"java/lang/Object", "<init>", "()V"⟩ ∈ wT := wT_1 (List.mem_of_getElem? (i := 110) (by decide +kernel)) (by decide +kernel)
theorem fl_X3_15 : Cond.fieldLink RX3 15 "WhereFound$Tape" "size" "I" ∈ wT := wT_1 (List.mem_of_getElem? (i := 111) (by decide +kernel)) (by decide +kernel)
theorem fl_X5_58 : Cond.fieldLink RX5 58 "WhereFound$Tape" "size" "I" ∈ wT := wT_1 (List.mem_of_getElem? (i := 112) (by decide +kernel)) (by decide +kernel)
theorem fl_X4_31 : Cond.fieldLink RX4 31 "WhereFound$Tape" "token" "I" ∈ wT := wT_1 (List.mem_of_getElem? (i := 113) (by decide +kernel)) (by decide +kernel)
theorem fl_X3_33 : Cond.fieldLink RX3 33 "WhereFound$Tape" "token" "I" ∈ wT := wT_1 (List.mem_of_getElem? (i := 114) (by decide +kernel)) (by decide +kernel)
theorem fl_X4_38 : Cond.fieldLink RX4 38 "WhereFound$Tape" "first" "I" ∈ wT := wT_1 (List.mem_of_getElem? (i := 115) (by decide +kernel)) (by decide +kernel)
theorem fl_X3_30 : Cond.fieldLink RX3 30 "WhereFound$Tape" "first" "I" ∈ wT := wT_1 (List.mem_of_getElem? (i := 116) (by decide +kernel)) (by decide +kernel)
theorem fl_X4_79 : Cond.fieldLink RX4 79 "WhereFound$Tape" "value" "I" ∈ wT := wT_1 (List.mem_of_getElem? (i := 117) (by decide +kernel)) (by decide +kernel)
theorem fl_X3_48 : Cond.fieldLink RX3 48 "WhereFound$Tape" "value" "I" ∈ wT := wT_1 (List.mem_of_getElem? (i := 118) (by decide +kernel)) (by decide +kernel)
theorem fl_X3_19 : Cond.fieldLink RX3 19 "WhereFound$Tape" "next" "I" ∈ wT := wT_1 (List.mem_of_getElem? (i := 119) (by decide +kernel)) (by decide +kernel)
theorem fl_X3_11 : Cond.fieldLink RX3 11 "WhereFound$Tape" "bytes" "[B" ∈ wT := wT_1 (List.mem_of_getElem? (i := 120) (by decide +kernel)) (by decide +kernel)
theorem ml_X5_35 : Cond.methodLink RX5 35 yX4_init ∈ wT := wT_1 (List.mem_of_getElem? (i := 137) (by decide +kernel)) (by decide +kernel)
theorem ml_X4_3 : Cond.methodLink RX4 3 ⟨"java/lang/Object", "<init>", "()V"⟩ ∈ wT := wT_1 (List.mem_of_getElem? (i := 140) (by decide +kernel)) (by decide +kernel)
theorem fl_X4_19 : Cond.fieldLink RX4 19 "WhereFound$Text" "foundFault" "I" ∈ wT := wT_1 (List.mem_of_getElem? (i := 141) (by decide +kernel)) (by decide +kernel)
theorem fl_X5_69 : Cond.fieldLink RX5 69 "WhereFound$Text" "foundFault" "I" ∈ wT := wT_1 (List.mem_of_getElem? (i := 142) (by decide +kernel)) (by decide +kernel)
theorem fl_X4_15 : Cond.fieldLink RX4 15 "WhereFound$Text" "tape" "LWhereFound$Tape;" ∈ wT := wT_1 (List.mem_of_getElem? (i := 143) (by decide +kernel)) (by decide +kernel)
theorem fl_X4_11 : Cond.fieldLink RX4 11 "WhereFound$Text" "numbers" "[I" ∈ wT := wT_1 (List.mem_of_getElem? (i := 144) (by decide +kernel)) (by decide +kernel)
theorem fl_X4_88 : Cond.fieldLink RX4 88 "WhereFound$Text" "found" "Z" ∈ wT := wT_1 (List.mem_of_getElem? (i := 145) (by decide +kernel)) (by decide +kernel)
theorem fl_X5_10 : Cond.fieldLink RX5 10 "WhereFound" "live" "LWhereFound$Register;" ∈ wT := wT_1 (List.mem_of_getElem? (i := 155) (by decide +kernel)) (by decide +kernel)
theorem fl_X5_16 : Cond.fieldLink RX5 16 "WhereFound" "kept" "LWhereFound$Register;" ∈ wT := wT_1 (List.mem_of_getElem? (i := 156) (by decide +kernel)) (by decide +kernel)
theorem fl_X5_22 : Cond.fieldLink RX5 22 "WhereFound" "tally" "LWhereFound$Tally;" ∈ wT := wT_1 (List.mem_of_getElem? (i := 157) (by decide +kernel)) (by decide +kernel)
theorem fl_X5_29 : Cond.fieldLink RX5 29 "WhereFound" "tape" "LWhereFound$Tape;" ∈ wT := wT_1 (List.mem_of_getElem? (i := 158) (by decide +kernel)) (by decide +kernel)
theorem fl_X5_38 : Cond.fieldLink RX5 38 "WhereFound" "text" "LWhereFound$Text;" ∈ wT := wT_1 (List.mem_of_getElem? (i := 159) (by decide +kernel)) (by decide +kernel)
theorem fl_X5_42 : Cond.fieldLink RX5 42 "WhereFound" "weights" "[I" ∈ wT := wT_1 (List.mem_of_getElem? (i := 160) (by decide +kernel)) (by decide +kernel)
theorem fl_X5_46 : Cond.fieldLink RX5 46 "WhereFound" "latestFault" "I" ∈ wT := wT_1 (List.mem_of_getElem? (i := 161) (by decide +kernel)) (by decide +kernel)
theorem ml_L_19 : Cond.methodLink RL 19 yX5_feed ∈ wT := wT_1 (List.mem_of_getElem? (i := 177) (by decide +kernel)) (by decide +kernel)
theorem ml_X5_50 : Cond.methodLink RX5 50 yX3_hasRoomForFive ∈ wT := wT_1 (List.mem_of_getElem? (i := 181) (by decide +kernel)) (by decide +kernel)
theorem ml_X5_54 : Cond.methodLink RX5 54 yX3_put ∈ wT := wT_1 (List.mem_of_getElem? (i := 185) (by decide +kernel)) (by decide +kernel)
theorem ml_L_24 : Cond.methodLink RL 24 yX5_end ∈ wT := wT_1 (List.mem_of_getElem? (i := 189) (by decide +kernel)) (by decide +kernel)
theorem ml_L_29 : Cond.methodLink RL 29 yX5_tell ∈ wT := wT_1 (List.mem_of_getElem? (i := 193) (by decide +kernel)) (by decide +kernel)
theorem ml_X5_61 : Cond.methodLink RX5 61 yX0_become ∈ wT := wT_1 (List.mem_of_getElem? (i := 197) (by decide +kernel)) (by decide +kernel)
theorem ml_X0_40 : Cond.methodLink RX0 40 ⟨"java/lang/System", "arraycopy", "(Ljava/lang/Object;ILjava/lang/Object;II)V"⟩ ∈ wT := wT_1 (List.mem_of_getElem? (i := 201) (by decide +kernel)) (by decide +kernel)
theorem ml_X0_46 : Cond.methodLink RX0 46 yX0_find ∈ wT := wT_1 (List.mem_of_getElem? (i := 204) (by decide +kernel)) (by decide +kernel)
theorem ml_X0_50 : Cond.methodLink RX0 50 yX0_rowOf ∈ wT := wT_1 (List.mem_of_getElem? (i := 208) (by decide +kernel)) (by decide +kernel)
theorem ml_X1_3 : Cond.methodLink RX1 3 ⟨"java/lang/Object", "<init>", "()V"⟩ ∈ wT := wT_1 (List.mem_of_getElem? (i := 216) (by decide +kernel)) (by decide +kernel)
theorem fl_X1_24 : Cond.fieldLink RX1 24 "WhereFound$Sportsman" "risk" "I" ∈ wT := wT_1 (List.mem_of_getElem? (i := 217) (by decide +kernel)) (by decide +kernel)
theorem fl_X5_118 : Cond.fieldLink RX5 118 "WhereFound$Sportsman" "risk" "I" ∈ wT := wT_1 (List.mem_of_getElem? (i := 218) (by decide +kernel)) (by decide +kernel)
theorem fl_X1_28 : Cond.fieldLink RX1 28 "WhereFound$Sportsman" "came" "I" ∈ wT := wT_1 (List.mem_of_getElem? (i := 219) (by decide +kernel)) (by decide +kernel)
theorem fl_X5_148 : Cond.fieldLink RX5 148 "WhereFound$Sportsman" "came" "I" ∈ wT := wT_1 (List.mem_of_getElem? (i := 220) (by decide +kernel)) (by decide +kernel)
theorem fl_X1_31 : Cond.fieldLink RX1 31 "WhereFound$Sportsman" "late" "I" ∈ wT := wT_1 (List.mem_of_getElem? (i := 221) (by decide +kernel)) (by decide +kernel)
theorem fl_X0_86 : Cond.fieldLink RX0 86 "WhereFound$Sportsman" "late" "I" ∈ wT := wT_1 (List.mem_of_getElem? (i := 222) (by decide +kernel)) (by decide +kernel)
theorem fl_X5_133 : Cond.fieldLink RX5 133 "WhereFound$Sportsman" "late" "I" ∈ wT := wT_1 (List.mem_of_getElem? (i := 223) (by decide +kernel)) (by decide +kernel)
theorem fl_X1_34 : Cond.fieldLink RX1 34 "WhereFound$Sportsman" "tests" "I" ∈ wT := wT_1 (List.mem_of_getElem? (i := 224) (by decide +kernel)) (by decide +kernel)
theorem fl_X5_136 : Cond.fieldLink RX5 136 "WhereFound$Sportsman" "tests" "I" ∈ wT := wT_1 (List.mem_of_getElem? (i := 225) (by decide +kernel)) (by decide +kernel)
theorem fl_X0_125 : Cond.fieldLink RX0 125 "WhereFound$Sportsman" "tests" "I" ∈ wT := wT_1 (List.mem_of_getElem? (i := 226) (by decide +kernel)) (by decide +kernel)
theorem fl_X1_37 : Cond.fieldLink RX1 37 "WhereFound$Sportsman" "missed" "I" ∈ wT := wT_1 (List.mem_of_getElem? (i := 227) (by decide +kernel)) (by decide +kernel)
theorem fl_X5_139 : Cond.fieldLink RX5 139 "WhereFound$Sportsman" "missed" "I" ∈ wT := wT_1 (List.mem_of_getElem? (i := 228) (by decide +kernel)) (by decide +kernel)
theorem fl_X0_134 : Cond.fieldLink RX0 134 "WhereFound$Sportsman" "missed" "I" ∈ wT := wT_1 (List.mem_of_getElem? (i := 229) (by decide +kernel)) (by decide +kernel)
theorem fl_X1_40 : Cond.fieldLink RX1 40 "WhereFound$Sportsman" "lastTest" "I" ∈ wT := wT_1 (List.mem_of_getElem? (i := 230) (by decide +kernel)) (by decide +kernel)
theorem fl_X5_142 : Cond.fieldLink RX5 142 "WhereFound$Sportsman" "lastTest" "I" ∈ wT := wT_1 (List.mem_of_getElem? (i := 231) (by decide +kernel)) (by decide +kernel)
theorem fl_X0_128 : Cond.fieldLink RX0 128 "WhereFound$Sportsman" "lastTest" "I" ∈ wT := wT_1 (List.mem_of_getElem? (i := 232) (by decide +kernel)) (by decide +kernel)
theorem fl_X2_44 : Cond.fieldLink RX2 44 "WhereFound$Sportsman" "failures" "I" ∈ wT := wT_1 (List.mem_of_getElem? (i := 233) (by decide +kernel)) (by decide +kernel)
theorem fl_X1_43 : Cond.fieldLink RX1 43 "WhereFound$Sportsman" "failures" "I" ∈ wT := wT_1 (List.mem_of_getElem? (i := 234) (by decide +kernel)) (by decide +kernel)
theorem fl_X5_127 : Cond.fieldLink RX5 127 "WhereFound$Sportsman" "failures" "I" ∈ wT := wT_1 (List.mem_of_getElem? (i := 235) (by decide +kernel)) (by decide +kernel)
theorem fl_X1_9 : Cond.fieldLink RX1 9 "WhereFound$Sportsman" "failureDay" "[I" ∈ wT := wT_1 (List.mem_of_getElem? (i := 236) (by decide +kernel)) (by decide +kernel)
theorem fl_X2_49 : Cond.fieldLink RX2 49 "WhereFound$Sportsman" "failureDay" "[I" ∈ wT := wT_1 (List.mem_of_getElem? (i := 237) (by decide +kernel)) (by decide +kernel)
theorem fl_X0_143 : Cond.fieldLink RX0 143 "WhereFound$Sportsman" "failureDay" "[I" ∈ wT := wT_1 (List.mem_of_getElem? (i := 238) (by decide +kernel)) (by decide +kernel)
theorem fl_X5_176 : Cond.fieldLink RX5 176 "WhereFound$Sportsman" "failureDay" "[I" ∈ wT := wT_1 (List.mem_of_getElem? (i := 239) (by decide +kernel)) (by decide +kernel)
theorem fl_X1_15 : Cond.fieldLink RX1 15 "WhereFound$Sportsman" "failureKind" "[I" ∈ wT := wT_2 (List.mem_of_getElem? (i := 0) (by decide +kernel)) (by decide +kernel)
theorem fl_X5_179 : Cond.fieldLink RX5 179 "WhereFound$Sportsman" "failureKind" "[I" ∈ wT := wT_2 (List.mem_of_getElem? (i := 1) (by decide +kernel)) (by decide +kernel)
theorem fl_X1_18 : Cond.fieldLink RX1 18 "WhereFound$Sportsman" "struck" "[I" ∈ wT := wT_2 (List.mem_of_getElem? (i := 2) (by decide +kernel)) (by decide +kernel)
theorem fl_X2_52 : Cond.fieldLink RX2 52 "WhereFound$Sportsman" "struck" "[I" ∈ wT := wT_2 (List.mem_of_getElem? (i := 3) (by decide +kernel)) (by decide +kernel)
theorem fl_X0_140 : Cond.fieldLink RX0 140 "WhereFound$Sportsman" "struck" "[I" ∈ wT := wT_2 (List.mem_of_getElem? (i := 4) (by decide +kernel)) (by decide +kernel)
theorem fl_X5_182 : Cond.fieldLink RX5 182 "WhereFound$Sportsman" "struck" "[I" ∈ wT := wT_2 (List.mem_of_getElem? (i := 5) (by decide +kernel)) (by decide +kernel)
theorem fl_X1_21 : Cond.fieldLink RX1 21 "WhereFound$Sportsman" "slots" "[I" ∈ wT := wT_2 (List.mem_of_getElem? (i := 6) (by decide +kernel)) (by decide +kernel)
theorem fl_X0_111 : Cond.fieldLink RX0 111 "WhereFound$Sportsman" "slots" "[I" ∈ wT := wT_2 (List.mem_of_getElem? (i := 7) (by decide +kernel)) (by decide +kernel)
theorem fl_X5_157 : Cond.fieldLink RX5 157 "WhereFound$Sportsman" "slots" "[I" ∈ wT := wT_2 (List.mem_of_getElem? (i := 8) (by decide +kernel)) (by decide +kernel)
theorem ml_X0_53 : Cond.methodLink RX0 53 yX1_become ∈ wT := wT_2 (List.mem_of_getElem? (i := 32) (by decide +kernel)) (by decide +kernel)
theorem ml_X1_52 : Cond.methodLink RX1 52 ⟨"java/lang/System", "arraycopy", "(Ljava/lang/Object;ILjava/lang/Object;II)V"⟩ ∈ wT := wT_2 (List.mem_of_getElem? (i := 36) (by decide +kernel)) (by decide +kernel)
theorem ml_X5_65 : Cond.methodLink RX5 65 yX4_perform ∈ wT := wT_2 (List.mem_of_getElem? (i := 37) (by decide +kernel)) (by decide +kernel)
theorem ml_X4_23 : Cond.methodLink RX4 23 yX3_rewind ∈ wT := wT_2 (List.mem_of_getElem? (i := 41) (by decide +kernel)) (by decide +kernel)
theorem ml_X4_28 : Cond.methodLink RX4 28 yX3_readToken ∈ wT := wT_2 (List.mem_of_getElem? (i := 45) (by decide +kernel)) (by decide +kernel)
theorem ml_X3_22 : Cond.methodLink RX3 22 yX3_byteAt ∈ wT := wT_2 (List.mem_of_getElem? (i := 49) (by decide +kernel)) (by decide +kernel)
theorem ml_X3_26 : Cond.methodLink RX3 26 yX3_isBlank ∈ wT := wT_2 (List.mem_of_getElem? (i := 53) (by decide +kernel)) (by decide +kernel)
theorem ml_X3_36 : Cond.methodLink RX3 36 yX3_isLetter ∈ wT := wT_2 (List.mem_of_getElem? (i := 56) (by decide +kernel)) (by decide +kernel)
theorem ml_X3_39 : Cond.methodLink RX3 39 yX3_readWord ∈ wT := wT_2 (List.mem_of_getElem? (i := 59) (by decide +kernel)) (by decide +kernel)
theorem ml_X3_42 : Cond.methodLink RX3 42 yX3_isDigit ∈ wT := wT_2 (List.mem_of_getElem? (i := 63) (by decide +kernel)) (by decide +kernel)
theorem ml_X3_45 : Cond.methodLink RX3 45 yX3_readNumber ∈ wT := wT_2 (List.mem_of_getElem? (i := 66) (by decide +kernel)) (by decide +kernel)
theorem ml_X4_34 : Cond.methodLink RX4 34 yX4_performOne ∈ wT := wT_2 (List.mem_of_getElem? (i := 70) (by decide +kernel)) (by decide +kernel)
theorem ml_X4_41 : Cond.methodLink RX4 41 yX4_formOfWord ∈ wT := wT_2 (List.mem_of_getElem? (i := 74) (by decide +kernel)) (by decide +kernel)
theorem ml_X4_62 : Cond.methodLink RX4 62 yX3_isWord ∈ wT := wT_2 (List.mem_of_getElem? (i := 79) (by decide +kernel)) (by decide +kernel)
theorem ml_X3_51 : Cond.methodLink RX3 51 yJ0_length_8abf5 ∈ wT := wT_2 (List.mem_of_getElem? (i := 83) (by decide +kernel)) (by decide +kernel)
theorem ml_J0_335 : Cond.methodLink RJ0 335 yJ0_coder_7d493 ∈ wT := wT_2 (List.mem_of_getElem? (i := 87) (by decide +kernel)) (by decide +kernel)
theorem fl_J0_38 : Cond.fieldLink RJ0 38 "java/lang/String" "COMPACT_STRINGS" "Z" ∈ wT := wT_2 (List.mem_of_getElem? (i := 91) (by decide +kernel)) (by decide +kernel)
theorem ml_X3_57 : Cond.methodLink RX3 57 yJ0_charAt_5068e ∈ wT := wT_2 (List.mem_of_getElem? (i := 93) (by decide +kernel)) (by decide +kernel)
theorem ml_J0_492 : Cond.methodLink RJ0 492 yJ0_isLatin1_aae02 ∈ wT := wT_2 (List.mem_of_getElem? (i := 97) (by decide +kernel)) (by decide +kernel)
theorem ml_J0_495 : Cond.methodLink RJ0 495 yJ1_charAt_3b067 ∈ wT := wT_2 (List.mem_of_getElem? (i := 101) (by decide +kernel)) (by decide +kernel)
theorem ml_J1_9 : Cond.methodLink RJ1 9 yJ0_checkIndex_df160 ∈ wT := wT_2 (List.mem_of_getElem? (i := 104) (by decide +kernel)) (by decide +kernel)
theorem fl_J0_1053 : Cond.fieldLink RJ0 1053 "jdk/internal/util/Preconditions" "SIOOBE_FORMATTER" "Ljava/util/function/BiFunction;" ∈ wT := wT_2 (List.mem_of_getElem? (i := 107) (by decide +kernel)) (by decide +kernel)
theorem ml_J0_1059 : Cond.methodLink RJ0 1059 yJ3_checkIndex_8e157 ∈ wT := wT_2 (List.mem_of_getElem? (i := 109) (by decide +kernel)) (by decide +kernel)
theorem ml_J0_498 : Cond.methodLink RJ0 498 yJ2_charAt_3b067 ∈ wT := wT_2 (List.mem_of_getElem? (i := 112) (by decide +kernel)) (by decide +kernel)
theorem ml_J2_67 : Cond.methodLink RJ2 67 yJ2_checkIndex_2214a ∈ wT := wT_2 (List.mem_of_getElem? (i := 115) (by decide +kernel)) (by decide +kernel)
theorem ml_J2_48 : Cond.methodLink RJ2 48 yJ2_length_9d52b ∈ wT := wT_2 (List.mem_of_getElem? (i := 118) (by decide +kernel)) (by decide +kernel)
theorem ml_J2_414 : Cond.methodLink RJ2 414 yJ0_checkIndex_df160 ∈ wT := wT_2 (List.mem_of_getElem? (i := 121) (by decide +kernel)) (by decide +kernel)
theorem ml_J2_71 : Cond.methodLink RJ2 71 yJ2_getChar_3b067 ∈ wT := wT_2 (List.mem_of_getElem? (i := 122) (by decide +kernel)) (by decide +kernel)
theorem fl_J2_44 : Cond.fieldLink RJ2 44 "java/lang/StringUTF16" "$assertionsDisabled" "Z" ∈ wT := wT_2 (List.mem_of_getElem? (i := 125) (by decide +kernel)) (by decide +kernel)
theorem fl_J2_59 : Cond.fieldLink RJ2 59 "java/lang/StringUTF16" "HI_BYTE_SHIFT" "I" ∈ wT := wT_2 (List.mem_of_getElem? (i := 127) (by decide +kernel)) (by decide +kernel)
theorem fl_J2_63 : Cond.fieldLink RJ2 63 "java/lang/StringUTF16" "LO_BYTE_SHIFT" "I" ∈ wT := wT_2 (List.mem_of_getElem? (i := 129) (by decide +kernel)) (by decide +kernel)
theorem ml_X4_45 : Cond.methodLink RX4 45 yX4_refuse ∈ wT := wT_2 (List.mem_of_getElem? (i := 136) (by decide +kernel)) (by decide +kernel)
theorem ml_X4_49 : Cond.methodLink RX4 49 yX4_readNumbers ∈ wT := wT_2 (List.mem_of_getElem? (i := 140) (by decide +kernel)) (by decide +kernel)
theorem fl_X4_76 : Cond.fieldLink RX4 76 "WhereFound$Text" "NUMBERS_OF_FORM" "[I" ∈ wT := wT_2 (List.mem_of_getElem? (i := 144) (by decide +kernel)) (by decide +kernel)
theorem ml_X4_82 : Cond.methodLink RX4 82 yX4_canBeNumber ∈ wT := wT_2 (List.mem_of_getElem? (i := 146) (by decide +kernel)) (by decide +kernel)
theorem ml_X5_257 : Cond.methodLink RX5 257 yX5_isSetting ∈ wT := wT_2 (List.mem_of_getElem? (i := 159) (by decide +kernel)) (by decide +kernel)
theorem fl_X5_260 : Cond.fieldLink RX5 260 "WhereFound" "SETTING_LEAST" "[I" ∈ wT := wT_2 (List.mem_of_getElem? (i := 160) (by decide +kernel)) (by decide +kernel)
theorem fl_X5_263 : Cond.fieldLink RX5 263 "WhereFound" "SETTING_MOST" "[I" ∈ wT := wT_2 (List.mem_of_getElem? (i := 162) (by decide +kernel)) (by decide +kernel)
theorem ml_X4_109 : Cond.methodLink RX4 109 yX0_find ∈ wT := wT_2 (List.mem_of_getElem? (i := 170) (by decide +kernel)) (by decide +kernel)
theorem ml_X4_115 : Cond.methodLink RX4 115 yX4_canBeOfFiling ∈ wT := wT_2 (List.mem_of_getElem? (i := 171) (by decide +kernel)) (by decide +kernel)
theorem ml_X4_121 : Cond.methodLink RX4 121 yX4_isFailure ∈ wT := wT_2 (List.mem_of_getElem? (i := 187) (by decide +kernel)) (by decide +kernel)
theorem ml_X4_133 : Cond.methodLink RX4 133 yX1_hasFailure ∈ wT := wT_2 (List.mem_of_getElem? (i := 191) (by decide +kernel)) (by decide +kernel)
theorem ml_X4_53 : Cond.methodLink RX4 53 yX4_readOutcome ∈ wT := wT_2 (List.mem_of_getElem? (i := 195) (by decide +kernel)) (by decide +kernel)
theorem ml_X4_57 : Cond.methodLink RX4 57 yX4_doForm ∈ wT := wT_2 (List.mem_of_getElem? (i := 201) (by decide +kernel)) (by decide +kernel)
theorem ml_X4_138 : Cond.methodLink RX4 138 yX0_enter ∈ wT := wT_2 (List.mem_of_getElem? (i := 205) (by decide +kernel)) (by decide +kernel)
theorem ml_X0_64 : Cond.methodLink RX0 64 yX1_begin ∈ wT := wT_2 (List.mem_of_getElem? (i := 210) (by decide +kernel)) (by decide +kernel)
theorem ml_X1_46 : Cond.methodLink RX1 46 yJ7_fill_53178 ∈ wT := wT_2 (List.mem_of_getElem? (i := 214) (by decide +kernel)) (by decide +kernel)
theorem ml_X4_142 : Cond.methodLink RX4 142 yX0_change ∈ wT := wT_2 (List.mem_of_getElem? (i := 217) (by decide +kernel)) (by decide +kernel)
theorem ml_X4_145 : Cond.methodLink RX4 145 yX0_goOn ∈ wT := wT_2 (List.mem_of_getElem? (i := 222) (by decide +kernel)) (by decide +kernel)
theorem ml_X0_78 : Cond.methodLink RX0 78 yX0_hoursTo ∈ wT := wT_2 (List.mem_of_getElem? (i := 228) (by decide +kernel)) (by decide +kernel)
theorem ml_X0_82 : Cond.methodLink RX0 82 yX0_beginQuarter ∈ wT := wT_2 (List.mem_of_getElem? (i := 232) (by decide +kernel)) (by decide +kernel)
theorem ml_X0_89 : Cond.methodLink RX0 89 yX1_firstGap ∈ wT := wT_2 (List.mem_of_getElem? (i := 236) (by decide +kernel)) (by decide +kernel)
theorem ml_X0_92 : Cond.methodLink RX0 92 yX1_note ∈ wT := wT_3 (List.mem_of_getElem? (i := 0) (by decide +kernel)) (by decide +kernel)
theorem ml_X4_149 : Cond.methodLink RX4 149 yX0_enterSpan ∈ wT := wT_3 (List.mem_of_getElem? (i := 4) (by decide +kernel)) (by decide +kernel)
theorem ml_X0_104 : Cond.methodLink RX0 104 yX0_mayStart ∈ wT := wT_3 (List.mem_of_getElem? (i := 11) (by decide +kernel)) (by decide +kernel)
theorem ml_X0_114 : Cond.methodLink RX0 114 yX1_hourOf ∈ wT := wT_3 (List.mem_of_getElem? (i := 15) (by decide +kernel)) (by decide +kernel)
theorem ml_X0_108 : Cond.methodLink RX0 108 yX1_slotOf ∈ wT := wT_3 (List.mem_of_getElem? (i := 18) (by decide +kernel)) (by decide +kernel)
theorem ml_X0_117 : Cond.methodLink RX0 117 yJ9_min_7cf53 ∈ wT := wT_3 (List.mem_of_getElem? (i := 21) (by decide +kernel)) (by decide +kernel)
theorem ml_X0_122 : Cond.methodLink RX0 122 yX0_noteLateChange ∈ wT := wT_3 (List.mem_of_getElem? (i := 24) (by decide +kernel)) (by decide +kernel)
theorem ml_X4_153 : Cond.methodLink RX4 153 yX0_visit ∈ wT := wT_3 (List.mem_of_getElem? (i := 28) (by decide +kernel)) (by decide +kernel)
theorem ml_X4_157 : Cond.methodLink RX4 157 yX0_strike ∈ wT := wT_3 (List.mem_of_getElem? (i := 33) (by decide +kernel)) (by decide +kernel)
theorem ml_X0_137 : Cond.methodLink RX0 137 yX1_hasFailure ∈ wT := wT_3 (List.mem_of_getElem? (i := 37) (by decide +kernel)) (by decide +kernel)
theorem ml_L_34 : Cond.methodLink RL 34 yX5_fault ∈ wT := wT_3 (List.mem_of_getElem? (i := 38) (by decide +kernel)) (by decide +kernel)
theorem ml_L_38 : Cond.methodLink RL 38 yX5_athlete ∈ wT := wT_3 (List.mem_of_getElem? (i := 42) (by decide +kernel)) (by decide +kernel)
theorem ml_X5_72 : Cond.methodLink RX5 72 yX0_enter ∈ wT := wT_3 (List.mem_of_getElem? (i := 46) (by decide +kernel)) (by decide +kernel)
theorem ml_L_43 : Cond.methodLink RL 43 yX5_set ∈ wT := wT_3 (List.mem_of_getElem? (i := 47) (by decide +kernel)) (by decide +kernel)
theorem ml_X5_76 : Cond.methodLink RX5 76 yX0_change ∈ wT := wT_3 (List.mem_of_getElem? (i := 51) (by decide +kernel)) (by decide +kernel)
theorem ml_L_48 : Cond.methodLink RL 48 yX5_at ∈ wT := wT_3 (List.mem_of_getElem? (i := 52) (by decide +kernel)) (by decide +kernel)
theorem ml_X5_80 : Cond.methodLink RX5 80 yX0_goOn ∈ wT := wT_3 (List.mem_of_getElem? (i := 56) (by decide +kernel)) (by decide +kernel)
theorem ml_L_52 : Cond.methodLink RL 52 yX5_file ∈ wT := wT_3 (List.mem_of_getElem? (i := 57) (by decide +kernel)) (by decide +kernel)
theorem ml_X5_84 : Cond.methodLink RX5 84 yX0_enterSpan ∈ wT := wT_3 (List.mem_of_getElem? (i := 61) (by decide +kernel)) (by decide +kernel)
theorem ml_L_56 : Cond.methodLink RL 56 yX5_test ∈ wT := wT_3 (List.mem_of_getElem? (i := 62) (by decide +kernel)) (by decide +kernel)
theorem ml_X5_88 : Cond.methodLink RX5 88 yX0_visit ∈ wT := wT_3 (List.mem_of_getElem? (i := 66) (by decide +kernel)) (by decide +kernel)
theorem ml_L_61 : Cond.methodLink RL 61 yX5_appeal ∈ wT := wT_3 (List.mem_of_getElem? (i := 67) (by decide +kernel)) (by decide +kernel)
theorem ml_X5_92 : Cond.methodLink RX5 92 yX0_strike ∈ wT := wT_3 (List.mem_of_getElem? (i := 71) (by decide +kernel)) (by decide +kernel)
theorem ml_L_65 : Cond.methodLink RL 65 yX5_count ∈ wT := wT_3 (List.mem_of_getElem? (i := 72) (by decide +kernel)) (by decide +kernel)
theorem ml_X5_104 : Cond.methodLink RX5 104 yX0_settingOrNone ∈ wT := wT_3 (List.mem_of_getElem? (i := 76) (by decide +kernel)) (by decide +kernel)
theorem ml_L_78 : Cond.methodLink RL 78 yX5_filed ∈ wT := wT_3 (List.mem_of_getElem? (i := 81) (by decide +kernel)) (by decide +kernel)
theorem ml_X5_107 : Cond.methodLink RX5 107 yX0_find ∈ wT := wT_3 (List.mem_of_getElem? (i := 85) (by decide +kernel)) (by decide +kernel)
theorem ml_X5_153 : Cond.methodLink RX5 153 yX5_canBeFiledDay ∈ wT := wT_3 (List.mem_of_getElem? (i := 86) (by decide +kernel)) (by decide +kernel)
theorem ml_X5_160 : Cond.methodLink RX5 160 yX1_hourOf ∈ wT := wT_3 (List.mem_of_getElem? (i := 87) (by decide +kernel)) (by decide +kernel)
theorem ml_X5_163 : Cond.methodLink RX5 163 yX1_placeOf ∈ wT := wT_3 (List.mem_of_getElem? (i := 88) (by decide +kernel)) (by decide +kernel)
theorem ml_L_83 : Cond.methodLink RL 83 yX5_failure ∈ wT := wT_3 (List.mem_of_getElem? (i := 91) (by decide +kernel)) (by decide +kernel)
theorem ml_X5_166 : Cond.methodLink RX5 166 yX1_hasFailure ∈ wT := wT_3 (List.mem_of_getElem? (i := 95) (by decide +kernel)) (by decide +kernel)
theorem ml_X5_172 : Cond.methodLink RX5 172 yX2_goThrough ∈ wT := wT_3 (List.mem_of_getElem? (i := 96) (by decide +kernel)) (by decide +kernel)
theorem ml_X2_55 : Cond.methodLink RX2 55 yX2_add ∈ wT := wT_3 (List.mem_of_getElem? (i := 100) (by decide +kernel)) (by decide +kernel)
theorem ml_X2_59 : Cond.methodLink RX2 59 yX2_isNoticed ∈ wT := wT_3 (List.mem_of_getElem? (i := 104) (by decide +kernel)) (by decide +kernel)
theorem ml_X2_63 : Cond.methodLink RX2 63 yX2_pointsOn ∈ wT := wT_3 (List.mem_of_getElem? (i := 108) (by decide +kernel)) (by decide +kernel)
theorem ml_X5_185 : Cond.methodLink RX5 185 yX2_doesCount ∈ wT := wT_3 (List.mem_of_getElem? (i := 112) (by decide +kernel)) (by decide +kernel)
theorem ml_X5_188 : Cond.methodLink RX5 188 yX2_isOpen ∈ wT := wT_3 (List.mem_of_getElem? (i := 116) (by decide +kernel)) (by decide +kernel)
theorem ml_X2_67 : Cond.methodLink RX2 67 yX2_doesCount ∈ wT := wT_3 (List.mem_of_getElem? (i := 120) (by decide +kernel)) (by decide +kernel)
theorem ml_L_87 : Cond.methodLink RL 87 yX5_violation ∈ wT := wT_3 (List.mem_of_getElem? (i := 121) (by decide +kernel)) (by decide +kernel)
theorem ml_X5_191 : Cond.methodLink RX5 191 yX2_dayOfViolation ∈ wT := wT_3 (List.mem_of_getElem? (i := 125) (by decide +kernel)) (by decide +kernel)
theorem ml_L_91 : Cond.methodLink RL 91 yX5_hole ∈ wT := wT_3 (List.mem_of_getElem? (i := 129) (by decide +kernel)) (by decide +kernel)
theorem ml_X5_194 : Cond.methodLink RX5 194 yX1_firstGap ∈ wT := wT_3 (List.mem_of_getElem? (i := 133) (by decide +kernel)) (by decide +kernel)
theorem ml_L_95 : Cond.methodLink RL 95 yX5_lot ∈ wT := wT_3 (List.mem_of_getElem? (i := 134) (by decide +kernel)) (by decide +kernel)
theorem ml_X5_197 : Cond.methodLink RX5 197 yX5_weighAll ∈ wT := wT_3 (List.mem_of_getElem? (i := 138) (by decide +kernel)) (by decide +kernel)
theorem ml_X5_145 : Cond.methodLink RX5 145 yX5_weightOf ∈ wT := wT_3 (List.mem_of_getElem? (i := 142) (by decide +kernel)) (by decide +kernel)
theorem ml_X5_123 : Cond.methodLink RX5 123 yX5_pointsOf ∈ wT := wT_3 (List.mem_of_getElem? (i := 146) (by decide +kernel)) (by decide +kernel)
theorem ml_X5_251 : Cond.methodLink RX5 251 yX2_pointsOn ∈ wT := wT_3 (List.mem_of_getElem? (i := 150) (by decide +kernel)) (by decide +kernel)
theorem cn_X5_201 : Cond.constantLong RX5 201 (1103515245) ∈ wT := wT_3 (List.mem_of_getElem? (i := 151) (by decide +kernel)) (by decide +kernel)
theorem cn_X5_203 : Cond.constantLong RX5 203 (12345) ∈ wT := wT_3 (List.mem_of_getElem? (i := 152) (by decide +kernel)) (by decide +kernel)
theorem cn_X5_205 : Cond.constantLong RX5 205 (2147483648) ∈ wT := wT_3 (List.mem_of_getElem? (i := 153) (by decide +kernel)) (by decide +kernel)
theorem ml_X5_207 : Cond.methodLink RX5 207 yX5_firstAbove ∈ wT := wT_3 (List.mem_of_getElem? (i := 154) (by decide +kernel)) (by decide +kernel)
theorem ml_L_99 : Cond.methodLink RL 99 yX5_chance ∈ wT := wT_3 (List.mem_of_getElem? (i := 158) (by decide +kernel)) (by decide +kernel)
theorem ml_X5_211 : Cond.methodLink RX5 211 yX5_greatestDivisor ∈ wT := wT_3 (List.mem_of_getElem? (i := 162) (by decide +kernel)) (by decide +kernel)
theorem ml_L_104 : Cond.methodLink RL 104 yX5_round ∈ wT := wT_3 (List.mem_of_getElem? (i := 165) (by decide +kernel)) (by decide +kernel)
theorem ml_X5_214 : Cond.methodLink RX5 214 yX5_hoursOfRound ∈ wT := wT_3 (List.mem_of_getElem? (i := 169) (by decide +kernel)) (by decide +kernel)
theorem ml_X5_223 : Cond.methodLink RX5 223 yX0_fullestPlace ∈ wT := wT_3 (List.mem_of_getElem? (i := 173) (by decide +kernel)) (by decide +kernel)
theorem ml_X0_146 : Cond.methodLink RX0 146 yX0_bitsOfThose ∈ wT := wT_3 (List.mem_of_getElem? (i := 177) (by decide +kernel)) (by decide +kernel)
theorem ml_X0_150 : Cond.methodLink RX0 150 yJ6_bitCount_0f7a4 ∈ wT := wT_3 (List.mem_of_getElem? (i := 181) (by decide +kernel)) (by decide +kernel)
theorem cn_J6_265 : Cond.constant RJ6 265 (1431655765) ∈ wT := wT_3 (List.mem_of_getElem? (i := 184) (by decide +kernel)) (by decide +kernel)
theorem cn_J6_266 : Cond.constant RJ6 266 (858993459) ∈ wT := wT_3 (List.mem_of_getElem? (i := 185) (by decide +kernel)) (by decide +kernel)
theorem cn_J6_267 : Cond.constant RJ6 267 (252645135) ∈ wT := wT_3 (List.mem_of_getElem? (i := 186) (by decide +kernel)) (by decide +kernel)
theorem ml_X5_217 : Cond.methodLink RX5 217 yX5_athletesOfRound ∈ wT := wT_3 (List.mem_of_getElem? (i := 187) (by decide +kernel)) (by decide +kernel)
theorem ml_X5_226 : Cond.methodLink RX5 226 yX0_bitsOfThose ∈ wT := wT_3 (List.mem_of_getElem? (i := 191) (by decide +kernel)) (by decide +kernel)
theorem ml_X5_254 : Cond.methodLink RX5 254 yJ6_bitCount_0f7a4 ∈ wT := wT_3 (List.mem_of_getElem? (i := 192) (by decide +kernel)) (by decide +kernel)
theorem ml_X5_220 : Cond.methodLink RX5 220 yX5_canBeHour ∈ wT := wT_3 (List.mem_of_getElem? (i := 193) (by decide +kernel)) (by decide +kernel)
theorem ml_L_108 : Cond.methodLink RL 108 yX5_there ∈ wT := wT_3 (List.mem_of_getElem? (i := 194) (by decide +kernel)) (by decide +kernel)
theorem ml_X5_230 : Cond.methodLink RX5 230 yX5_canBeFiledHour ∈ wT := wT_3 (List.mem_of_getElem? (i := 198) (by decide +kernel)) (by decide +kernel)
theorem ml_X5_233 : Cond.methodLink RX5 233 yX5_canBePlace ∈ wT := wT_3 (List.mem_of_getElem? (i := 199) (by decide +kernel)) (by decide +kernel)
theorem ml_L_112 : Cond.methodLink RL 112 yX5_danger ∈ wT := wT_3 (List.mem_of_getElem? (i := 200) (by decide +kernel)) (by decide +kernel)
theorem ml_X5_130 : Cond.methodLink RX5 130 yX5_violationsOf ∈ wT := wT_3 (List.mem_of_getElem? (i := 204) (by decide +kernel)) (by decide +kernel)
theorem ml_X5_236 : Cond.methodLink RX5 236 yX2_add ∈ wT := wT_3 (List.mem_of_getElem? (i := 208) (by decide +kernel)) (by decide +kernel)
theorem ml_L_116 : Cond.methodLink RL 116 yX5_easier ∈ wT := wT_3 (List.mem_of_getElem? (i := 209) (by decide +kernel)) (by decide +kernel)
theorem ml_X5_243 : Cond.methodLink RX5 243 yX2_dayOfOldestPoint ∈ wT := wT_3 (List.mem_of_getElem? (i := 213) (by decide +kernel)) (by decide +kernel)
theorem ml_L_120 : Cond.methodLink RL 120 yX5_without ∈ wT := wT_3 (List.mem_of_getElem? (i := 217) (by decide +kernel)) (by decide +kernel)
theorem ml_L_124 : Cond.methodLink RL 124 yX5_worst ∈ wT := wT_3 (List.mem_of_getElem? (i := 221) (by decide +kernel)) (by decide +kernel)
theorem ml_X5_246 : Cond.methodLink RX5 246 yJ6_compare_7cf53 ∈ wT := wT_3 (List.mem_of_getElem? (i := 225) (by decide +kernel)) (by decide +kernel)
theorem ml_L_69 : Cond.methodLink RL 69 yL_of ∈ wT := wT_3 (List.mem_of_getElem? (i := 228) (by decide +kernel)) (by decide +kernel)
theorem ml_L_7 : Cond.methodLink RL 7 yX5_of ∈ wT := wT_3 (List.mem_of_getElem? (i := 232) (by decide +kernel)) (by decide +kernel)
theorem ml_X5_115 : Cond.methodLink RX5 115 ⟨"java/util/NoSuchElementException", "<init>", "(Ljava/lang/String;)V"⟩ ∈ wT := wT_4 (List.mem_of_getElem? (i := 36) (by decide +kernel)) (by decide +kernel)
theorem ml_L_18 : Cond.methodLink RL 18 yX6_init ∈ wT := wT_4 (List.mem_of_getElem? (i := 64) (by decide +kernel)) (by decide +kernel)
theorem ml_X6_1 : Cond.methodLink RX6 1 ⟨"java/lang/Object", "<init>", "()V"⟩ ∈ wT := wT_4 (List.mem_of_getElem? (i := 67) (by decide +kernel)) (by decide +kernel)
theorem fl_X6_38 : Cond.fieldLink RX6 38 "WhereFoundModel" "raised" "I" ∈ wT := wT_4 (List.mem_of_getElem? (i := 68) (by decide +kernel)) (by decide +kernel)
theorem fl_X6_7 : Cond.fieldLink RX6 7 "WhereFoundModel" "w" "[I" ∈ wT := wT_4 (List.mem_of_getElem? (i := 69) (by decide +kernel)) (by decide +kernel)
theorem fl_X6_13 : Cond.fieldLink RX6 13 "WhereFoundModel" "back" "[I" ∈ wT := wT_4 (List.mem_of_getElem? (i := 70) (by decide +kernel)) (by decide +kernel)
theorem fl_X6_16 : Cond.fieldLink RX6 16 "WhereFoundModel" "lowest" "[I" ∈ wT := wT_4 (List.mem_of_getElem? (i := 71) (by decide +kernel)) (by decide +kernel)
theorem fl_X6_19 : Cond.fieldLink RX6 19 "WhereFoundModel" "highest" "[I" ∈ wT := wT_4 (List.mem_of_getElem? (i := 72) (by decide +kernel)) (by decide +kernel)
theorem fl_X6_22 : Cond.fieldLink RX6 22 "WhereFoundModel" "tape" "[I" ∈ wT := wT_4 (List.mem_of_getElem? (i := 73) (by decide +kernel)) (by decide +kernel)
theorem fl_X6_108 : Cond.fieldLink RX6 108 "WhereFoundModel" "taped" "I" ∈ wT := wT_4 (List.mem_of_getElem? (i := 74) (by decide +kernel)) (by decide +kernel)
theorem fl_X6_188 : Cond.fieldLink RX6 188 "WhereFoundModel" "fault" "I" ∈ wT := wT_4 (List.mem_of_getElem? (i := 75) (by decide +kernel)) (by decide +kernel)
theorem fl_X6_114 : Cond.fieldLink RX6 114 "WhereFoundModel" "spot" "I" ∈ wT := wT_4 (List.mem_of_getElem? (i := 76) (by decide +kernel)) (by decide +kernel)
theorem fl_X6_117 : Cond.fieldLink RX6 117 "WhereFoundModel" "wrong" "I" ∈ wT := wT_4 (List.mem_of_getElem? (i := 77) (by decide +kernel)) (by decide +kernel)
theorem fl_X6_135 : Cond.fieldLink RX6 135 "WhereFoundModel" "value" "I" ∈ wT := wT_4 (List.mem_of_getElem? (i := 78) (by decide +kernel)) (by decide +kernel)
theorem fl_X6_120 : Cond.fieldLink RX6 120 "WhereFoundModel" "place" "I" ∈ wT := wT_4 (List.mem_of_getElem? (i := 79) (by decide +kernel)) (by decide +kernel)
theorem fl_X6_179 : Cond.fieldLink RX6 179 "WhereFoundModel" "statements" "I" ∈ wT := wT_4 (List.mem_of_getElem? (i := 80) (by decide +kernel)) (by decide +kernel)
theorem fl_X6_25 : Cond.fieldLink RX6 25 "WhereFoundModel" "read" "[I" ∈ wT := wT_4 (List.mem_of_getElem? (i := 81) (by decide +kernel)) (by decide +kernel)
theorem fl_X6_28 : Cond.fieldLink RX6 28 "WhereFoundModel" "counts" "[Z" ∈ wT := wT_4 (List.mem_of_getElem? (i := 82) (by decide +kernel)) (by decide +kernel)
theorem fl_X6_32 : Cond.fieldLink RX6 32 "WhereFoundModel" "isOpen" "[Z" ∈ wT := wT_4 (List.mem_of_getElem? (i := 83) (by decide +kernel)) (by decide +kernel)
theorem fl_X6_35 : Cond.fieldLink RX6 35 "WhereFoundModel" "violated" "[I" ∈ wT := wT_4 (List.mem_of_getElem? (i := 84) (by decide +kernel)) (by decide +kernel)
theorem fl_X6_194 : Cond.fieldLink RX6 194 "WhereFoundModel" "violations" "I" ∈ wT := wT_4 (List.mem_of_getElem? (i := 85) (by decide +kernel)) (by decide +kernel)
theorem ml_L_75 : Cond.methodLink RL 75 yX6_thrown ∈ wT := wT_4 (List.mem_of_getElem? (i := 123) (by decide +kernel)) (by decide +kernel)
theorem ml_L_42 : Cond.methodLink RL 42 yX6_athlete ∈ wT := wT_4 (List.mem_of_getElem? (i := 127) (by decide +kernel)) (by decide +kernel)
theorem ml_X6_42 : Cond.methodLink RX6 42 yX6_in ∈ wT := wT_4 (List.mem_of_getElem? (i := 131) (by decide +kernel)) (by decide +kernel)
theorem ml_X6_77 : Cond.methodLink RX6 77 yX6_comes ∈ wT := wT_4 (List.mem_of_getElem? (i := 134) (by decide +kernel)) (by decide +kernel)
theorem ml_X6_46 : Cond.methodLink RX6 46 yX6_cell ∈ wT := wT_4 (List.mem_of_getElem? (i := 138) (by decide +kernel)) (by decide +kernel)
theorem ml_L_47 : Cond.methodLink RL 47 yX6_set ∈ wT := wT_4 (List.mem_of_getElem? (i := 141) (by decide +kernel)) (by decide +kernel)
theorem ml_L_51 : Cond.methodLink RL 51 yX6_at ∈ wT := wT_4 (List.mem_of_getElem? (i := 145) (by decide +kernel)) (by decide +kernel)
theorem ml_X6_81 : Cond.methodLink RX6 81 yX6_isBehind ∈ wT := wT_4 (List.mem_of_getElem? (i := 149) (by decide +kernel)) (by decide +kernel)
theorem ml_X6_84 : Cond.methodLink RX6 84 yX6_goesOn ∈ wT := wT_4 (List.mem_of_getElem? (i := 153) (by decide +kernel)) (by decide +kernel)
theorem ml_X6_57 : Cond.methodLink RX6 57 yX6_holeOf ∈ wT := wT_4 (List.mem_of_getElem? (i := 157) (by decide +kernel)) (by decide +kernel)
theorem ml_X6_53 : Cond.methodLink RX6 53 yX6_isFiled ∈ wT := wT_4 (List.mem_of_getElem? (i := 161) (by decide +kernel)) (by decide +kernel)
theorem ml_X6_50 : Cond.methodLink RX6 50 yX6_its ∈ wT := wT_4 (List.mem_of_getElem? (i := 165) (by decide +kernel)) (by decide +kernel)
theorem ml_X6_60 : Cond.methodLink RX6 60 yX6_fails ∈ wT := wT_4 (List.mem_of_getElem? (i := 169) (by decide +kernel)) (by decide +kernel)
theorem ml_L_55 : Cond.methodLink RL 55 yX6_file ∈ wT := wT_4 (List.mem_of_getElem? (i := 173) (by decide +kernel)) (by decide +kernel)
theorem ml_X6_73 : Cond.methodLink RX6 73 yX6_isAthlete ∈ wT := wT_4 (List.mem_of_getElem? (i := 177) (by decide +kernel)) (by decide +kernel)
theorem ml_X6_87 : Cond.methodLink RX6 87 yX6_canFile ∈ wT := wT_4 (List.mem_of_getElem? (i := 181) (by decide +kernel)) (by decide +kernel)
theorem ml_X6_91 : Cond.methodLink RX6 91 yX6_mayFile ∈ wT := wT_4 (List.mem_of_getElem? (i := 184) (by decide +kernel)) (by decide +kernel)
theorem ml_X6_63 : Cond.methodLink RX6 63 yX6_hourOf ∈ wT := wT_4 (List.mem_of_getElem? (i := 188) (by decide +kernel)) (by decide +kernel)
theorem ml_X6_94 : Cond.methodLink RX6 94 yX6_files ∈ wT := wT_4 (List.mem_of_getElem? (i := 192) (by decide +kernel)) (by decide +kernel)
theorem ml_X6_66 : Cond.methodLink RX6 66 yX6_isLate ∈ wT := wT_4 (List.mem_of_getElem? (i := 196) (by decide +kernel)) (by decide +kernel)
theorem ml_L_60 : Cond.methodLink RL 60 yX6_test ∈ wT := wT_4 (List.mem_of_getElem? (i := 200) (by decide +kernel)) (by decide +kernel)
theorem ml_X6_98 : Cond.methodLink RX6 98 yX6_tests ∈ wT := wT_4 (List.mem_of_getElem? (i := 204) (by decide +kernel)) (by decide +kernel)
theorem ml_X6_70 : Cond.methodLink RX6 70 yX6_placeOf ∈ wT := wT_4 (List.mem_of_getElem? (i := 208) (by decide +kernel)) (by decide +kernel)
theorem ml_L_64 : Cond.methodLink RL 64 yX6_appeal ∈ wT := wT_4 (List.mem_of_getElem? (i := 212) (by decide +kernel)) (by decide +kernel)
theorem ml_X6_102 : Cond.methodLink RX6 102 yX6_isFailure ∈ wT := wT_4 (List.mem_of_getElem? (i := 216) (by decide +kernel)) (by decide +kernel)
theorem ml_X6_105 : Cond.methodLink RX6 105 yX6_strikes ∈ wT := wT_4 (List.mem_of_getElem? (i := 220) (by decide +kernel)) (by decide +kernel)
theorem ml_L_23 : Cond.methodLink RL 23 yX6_feed ∈ wT := wT_4 (List.mem_of_getElem? (i := 224) (by decide +kernel)) (by decide +kernel)
theorem ml_X6_111 : Cond.methodLink RX6 111 yX6_four ∈ wT := wT_4 (List.mem_of_getElem? (i := 228) (by decide +kernel)) (by decide +kernel)
theorem ml_L_28 : Cond.methodLink RL 28 yX6_end ∈ wT := wT_4 (List.mem_of_getElem? (i := 232) (by decide +kernel)) (by decide +kernel)
theorem ml_L_33 : Cond.methodLink RL 33 yX6_tell ∈ wT := wT_4 (List.mem_of_getElem? (i := 236) (by decide +kernel)) (by decide +kernel)
theorem ml_X6_185 : Cond.methodLink RX6 185 yX6_readText ∈ wT := wT_5 (List.mem_of_getElem? (i := 0) (by decide +kernel)) (by decide +kernel)
theorem ml_X6_129 : Cond.methodLink RX6 129 yX6_here ∈ wT := wT_5 (List.mem_of_getElem? (i := 4) (by decide +kernel)) (by decide +kernel)
theorem ml_X6_182 : Cond.methodLink RX6 182 yX6_readStatement ∈ wT := wT_5 (List.mem_of_getElem? (i := 8) (by decide +kernel)) (by decide +kernel)
theorem ml_X6_133 : Cond.methodLink RX6 133 yX6_wrong ∈ wT := wT_5 (List.mem_of_getElem? (i := 12) (by decide +kernel)) (by decide +kernel)
theorem ml_X6_145 : Cond.methodLink RX6 145 yX6_readWord ∈ wT := wT_5 (List.mem_of_getElem? (i := 16) (by decide +kernel)) (by decide +kernel)
theorem cn_X6_123 : Cond.constantLong RX6 123 (27) ∈ wT := wT_5 (List.mem_of_getElem? (i := 20) (by decide +kernel)) (by decide +kernel)
theorem cn_X6_125 : Cond.constantLong RX6 125 (96) ∈ wT := wT_5 (List.mem_of_getElem? (i := 21) (by decide +kernel)) (by decide +kernel)
theorem cn_X6_127 : Cond.constantLong RX6 127 (-1) ∈ wT := wT_5 (List.mem_of_getElem? (i := 22) (by decide +kernel)) (by decide +kernel)
theorem ml_X6_171 : Cond.methodLink RX6 171 yX6_readRest ∈ wT := wT_5 (List.mem_of_getElem? (i := 23) (by decide +kernel)) (by decide +kernel)
theorem cn_X6_153 : Cond.constantLong RX6 153 (678890543) ∈ wT := wT_5 (List.mem_of_getElem? (i := 27) (by decide +kernel)) (by decide +kernel)
theorem ml_X6_138 : Cond.methodLink RX6 138 yX6_number ∈ wT := wT_5 (List.mem_of_getElem? (i := 28) (by decide +kernel)) (by decide +kernel)
theorem cn_X6_155 : Cond.constantLong RX6 155 (14006) ∈ wT := wT_5 (List.mem_of_getElem? (i := 32) (by decide +kernel)) (by decide +kernel)
theorem cn_X6_157 : Cond.constantLong RX6 157 (47) ∈ wT := wT_5 (List.mem_of_getElem? (i := 33) (by decide +kernel)) (by decide +kernel)
theorem cn_X6_159 : Cond.constantLong RX6 159 (124988) ∈ wT := wT_5 (List.mem_of_getElem? (i := 34) (by decide +kernel)) (by decide +kernel)
theorem ml_X6_161 : Cond.methodLink RX6 161 yX6_readFile ∈ wT := wT_5 (List.mem_of_getElem? (i := 35) (by decide +kernel)) (by decide +kernel)
theorem ml_X6_141 : Cond.methodLink RX6 141 yX6_who ∈ wT := wT_5 (List.mem_of_getElem? (i := 39) (by decide +kernel)) (by decide +kernel)
theorem cn_X6_164 : Cond.constantLong RX6 164 (397838) ∈ wT := wT_5 (List.mem_of_getElem? (i := 43) (by decide +kernel)) (by decide +kernel)
theorem ml_X6_166 : Cond.methodLink RX6 166 yX6_readTest ∈ wT := wT_5 (List.mem_of_getElem? (i := 44) (by decide +kernel)) (by decide +kernel)
theorem cn_X6_149 : Cond.constantLong RX6 149 (3499582) ∈ wT := wT_5 (List.mem_of_getElem? (i := 48) (by decide +kernel)) (by decide +kernel)
theorem cn_X6_151 : Cond.constantLong RX6 151 (191706727) ∈ wT := wT_5 (List.mem_of_getElem? (i := 49) (by decide +kernel)) (by decide +kernel)
theorem cn_X6_169 : Cond.constantLong RX6 169 (23170575) ∈ wT := wT_5 (List.mem_of_getElem? (i := 50) (by decide +kernel)) (by decide +kernel)
theorem ml_X6_175 : Cond.methodLink RX6 175 yX6_does ∈ wT := wT_5 (List.mem_of_getElem? (i := 51) (by decide +kernel)) (by decide +kernel)
theorem ml_L_37 : Cond.methodLink RL 37 yX6_fault ∈ wT := wT_5 (List.mem_of_getElem? (i := 55) (by decide +kernel)) (by decide +kernel)
theorem ml_L_74 : Cond.methodLink RL 74 yX6_of ∈ wT := wT_5 (List.mem_of_getElem? (i := 59) (by decide +kernel)) (by decide +kernel)
theorem ml_X6_208 : Cond.methodLink RX6 208 yX6_pointsNow ∈ wT := wT_5 (List.mem_of_getElem? (i := 63) (by decide +kernel)) (by decide +kernel)
theorem ml_X6_205 : Cond.methodLink RX6 205 yX6_walks ∈ wT := wT_5 (List.mem_of_getElem? (i := 67) (by decide +kernel)) (by decide +kernel)
theorem ml_X6_201 : Cond.methodLink RX6 201 yX6_walksBy ∈ wT := wT_5 (List.mem_of_getElem? (i := 71) (by decide +kernel)) (by decide +kernel)
theorem ml_X6_191 : Cond.methodLink RX6 191 yX6_dayOf ∈ wT := wT_5 (List.mem_of_getElem? (i := 75) (by decide +kernel)) (by decide +kernel)
theorem ml_X6_197 : Cond.methodLink RX6 197 yX6_openBehind ∈ wT := wT_5 (List.mem_of_getElem? (i := 79) (by decide +kernel)) (by decide +kernel)
theorem ml_X6_211 : Cond.methodLink RX6 211 yX6_violationsOf ∈ wT := wT_5 (List.mem_of_getElem? (i := 83) (by decide +kernel)) (by decide +kernel)
theorem ml_X6_214 : Cond.methodLink RX6 214 yX6_latesOf ∈ wT := wT_5 (List.mem_of_getElem? (i := 87) (by decide +kernel)) (by decide +kernel)
theorem ml_X6_217 : Cond.methodLink RX6 217 yX6_weightOf ∈ wT := wT_5 (List.mem_of_getElem? (i := 91) (by decide +kernel)) (by decide +kernel)
theorem ml_L_68 : Cond.methodLink RL 68 yX6_count ∈ wT := wT_5 (List.mem_of_getElem? (i := 95) (by decide +kernel)) (by decide +kernel)
theorem ml_L_82 : Cond.methodLink RL 82 yX6_filed ∈ wT := wT_5 (List.mem_of_getElem? (i := 99) (by decide +kernel)) (by decide +kernel)
theorem ml_X6_220 : Cond.methodLink RX6 220 yX6_isDay ∈ wT := wT_5 (List.mem_of_getElem? (i := 103) (by decide +kernel)) (by decide +kernel)
theorem ml_L_86 : Cond.methodLink RL 86 yX6_failure ∈ wT := wT_5 (List.mem_of_getElem? (i := 106) (by decide +kernel)) (by decide +kernel)
theorem ml_L_90 : Cond.methodLink RL 90 yX6_violation ∈ wT := wT_5 (List.mem_of_getElem? (i := 110) (by decide +kernel)) (by decide +kernel)
theorem ml_L_94 : Cond.methodLink RL 94 yX6_hole ∈ wT := wT_5 (List.mem_of_getElem? (i := 114) (by decide +kernel)) (by decide +kernel)
theorem ml_L_98 : Cond.methodLink RL 98 yX6_lot ∈ wT := wT_5 (List.mem_of_getElem? (i := 118) (by decide +kernel)) (by decide +kernel)
theorem cn_X6_223 : Cond.constantLong RX6 223 (1103515245) ∈ wT := wT_5 (List.mem_of_getElem? (i := 122) (by decide +kernel)) (by decide +kernel)
theorem cn_X6_225 : Cond.constantLong RX6 225 (12345) ∈ wT := wT_5 (List.mem_of_getElem? (i := 123) (by decide +kernel)) (by decide +kernel)
theorem cn_X6_227 : Cond.constantLong RX6 227 (2147483648) ∈ wT := wT_5 (List.mem_of_getElem? (i := 124) (by decide +kernel)) (by decide +kernel)
theorem ml_X6_229 : Cond.methodLink RX6 229 yX6_sumBut ∈ wT := wT_5 (List.mem_of_getElem? (i := 125) (by decide +kernel)) (by decide +kernel)
theorem ml_L_103 : Cond.methodLink RL 103 yX6_chance ∈ wT := wT_5 (List.mem_of_getElem? (i := 129) (by decide +kernel)) (by decide +kernel)
theorem ml_X6_232 : Cond.methodLink RX6 232 yX6_divisor ∈ wT := wT_5 (List.mem_of_getElem? (i := 133) (by decide +kernel)) (by decide +kernel)
theorem ml_L_107 : Cond.methodLink RL 107 yX6_round ∈ wT := wT_5 (List.mem_of_getElem? (i := 136) (by decide +kernel)) (by decide +kernel)
theorem ml_X6_241 : Cond.methodLink RX6 241 yX6_bestPlace ∈ wT := wT_5 (List.mem_of_getElem? (i := 140) (by decide +kernel)) (by decide +kernel)
theorem ml_X6_235 : Cond.methodLink RX6 235 yX6_thereAt ∈ wT := wT_5 (List.mem_of_getElem? (i := 144) (by decide +kernel)) (by decide +kernel)
theorem ml_X6_238 : Cond.methodLink RX6 238 yX6_bits ∈ wT := wT_5 (List.mem_of_getElem? (i := 148) (by decide +kernel)) (by decide +kernel)
theorem ml_L_111 : Cond.methodLink RL 111 yX6_there ∈ wT := wT_5 (List.mem_of_getElem? (i := 151) (by decide +kernel)) (by decide +kernel)
theorem ml_L_115 : Cond.methodLink RL 115 yX6_danger ∈ wT := wT_5 (List.mem_of_getElem? (i := 155) (by decide +kernel)) (by decide +kernel)
theorem ml_L_119 : Cond.methodLink RL 119 yX6_easier ∈ wT := wT_5 (List.mem_of_getElem? (i := 159) (by decide +kernel)) (by decide +kernel)
theorem ml_L_123 : Cond.methodLink RL 123 yX6_without ∈ wT := wT_5 (List.mem_of_getElem? (i := 163) (by decide +kernel)) (by decide +kernel)
theorem ml_L_127 : Cond.methodLink RL 127 yX6_worst ∈ wT := wT_5 (List.mem_of_getElem? (i := 167) (by decide +kernel)) (by decide +kernel)
theorem ml_X6_244 : Cond.methodLink RX6 244 yX6_isWorse ∈ wT := wT_5 (List.mem_of_getElem? (i := 171) (by decide +kernel)) (by decide +kernel)
theorem fl_J0_9 : Cond.fieldLink RJ0 9 "java/lang/String" "value" "[B" ∈ wT := wT_5 (List.mem_of_getElem? (i := 187) (by decide +kernel)) (by decide +kernel)
theorem fl_J0_15 : Cond.fieldLink RJ0 15 "java/lang/String" "coder" "B" ∈ wT := wT_5 (List.mem_of_getElem? (i := 188) (by decide +kernel)) (by decide +kernel)
theorem inT0 : ∀ w ∈ u_ws RX0 TX0 5, w ∈ wT := List.forall_mem_cons.mpr ⟨(show u_lay RX0 TX0 0 ∈ wT from wT_1 (List.mem_of_getElem? (i := 54) (by decide +kernel)) (by decide +kernel)), List.forall_mem_cons.mpr ⟨(show u_lay RX0 TX0 1 ∈ wT from wT_1 (List.mem_of_getElem? (i := 56) (by decide +kernel)) (by decide +kernel)), List.forall_mem_cons.mpr ⟨(show u_lay RX0 TX0 2 ∈ wT from wT_1 (List.mem_of_getElem? (i := 58) (by decide +kernel)) (by decide +kernel)), List.forall_mem_cons.mpr ⟨(show u_lay RX0 TX0 3 ∈ wT from wT_1 (List.mem_of_getElem? (i := 60) (by decide +kernel)) (by decide +kernel)), List.forall_mem_cons.mpr ⟨(show u_lay RX0 TX0 4 ∈ wT from wT_1 (List.mem_of_getElem? (i := 62) (by decide +kernel)) (by decide +kernel)), fun _ h => absurd h List.not_mem_nil⟩⟩⟩⟩⟩
theorem inT1 : ∀ w ∈ u_ws RX1 TX1 11, w ∈ wT := List.forall_mem_cons.mpr ⟨(show u_lay RX1 TX1 0 ∈ wT from wT_2 (List.mem_of_getElem? (i := 9) (by decide +kernel)) (by decide +kernel)), List.forall_mem_cons.mpr ⟨(show u_lay RX1 TX1 1 ∈ wT from wT_2 (List.mem_of_getElem? (i := 11) (by decide +kernel)) (by decide +kernel)), List.forall_mem_cons.mpr ⟨(show u_lay RX1 TX1 2 ∈ wT from wT_2 (List.mem_of_getElem? (i := 13) (by decide +kernel)) (by decide +kernel)), List.forall_mem_cons.mpr ⟨(show u_lay RX1 TX1 3 ∈ wT from wT_2 (List.mem_of_getElem? (i := 15) (by decide +kernel)) (by decide +kernel)), List.forall_mem_cons.mpr ⟨(show u_lay RX1 TX1 4 ∈ wT from wT_2 (List.mem_of_getElem? (i := 17) (by decide +kernel)) (by decide +kernel)), List.forall_mem_cons.mpr ⟨(show u_lay RX1 TX1 5 ∈ wT from wT_2 (List.mem_of_getElem? (i := 19) (by decide +kernel)) (by decide +kernel)), List.forall_mem_cons.mpr ⟨(show u_lay RX1 TX1 6 ∈ wT from wT_2 (List.mem_of_getElem? (i := 21) (by decide +kernel)) (by decide +kernel)), List.forall_mem_cons.mpr ⟨(show u_lay RX1 TX1 7 ∈ wT from wT_2 (List.mem_of_getElem? (i := 23) (by decide +kernel)) (by decide +kernel)), List.forall_mem_cons.mpr ⟨(show u_lay RX1 TX1 8 ∈ wT from wT_2 (List.mem_of_getElem? (i := 25) (by decide +kernel)) (by decide +kernel)), List.forall_mem_cons.mpr ⟨(show u_lay RX1 TX1 9 ∈ wT from wT_2 (List.mem_of_getElem? (i := 27) (by decide +kernel)) (by decide +kernel)), List.forall_mem_cons.mpr ⟨(show u_lay RX1 TX1 10 ∈ wT from wT_2 (List.mem_of_getElem? (i := 29) (by decide +kernel)) (by decide +kernel)), fun _ h => absurd h List.not_mem_nil⟩⟩⟩⟩⟩⟩⟩⟩⟩⟩⟩
theorem inT2 : ∀ w ∈ u_ws RX2 TX2 10, w ∈ wT := List.forall_mem_cons.mpr ⟨(show u_lay RX2 TX2 0 ∈ wT from wT_1 (List.mem_of_getElem? (i := 83) (by decide +kernel)) (by decide +kernel)), List.forall_mem_cons.mpr ⟨(show u_lay RX2 TX2 1 ∈ wT from wT_1 (List.mem_of_getElem? (i := 85) (by decide +kernel)) (by decide +kernel)), List.forall_mem_cons.mpr ⟨(show u_lay RX2 TX2 2 ∈ wT from wT_1 (List.mem_of_getElem? (i := 87) (by decide +kernel)) (by decide +kernel)), List.forall_mem_cons.mpr ⟨(show u_lay RX2 TX2 3 ∈ wT from wT_1 (List.mem_of_getElem? (i := 89) (by decide +kernel)) (by decide +kernel)), List.forall_mem_cons.mpr ⟨(show u_lay RX2 TX2 4 ∈ wT from wT_1 (List.mem_of_getElem? (i := 91) (by decide +kernel)) (by decide +kernel)), List.forall_mem_cons.mpr ⟨(show u_lay RX2 TX2 5 ∈ wT from wT_1 (List.mem_of_getElem? (i := 93) (by decide +kernel)) (by decide +kernel)), List.forall_mem_cons.mpr ⟨(show u_lay RX2 TX2 6 ∈ wT from wT_1 (List.mem_of_getElem? (i := 95) (by decide +kernel)) (by decide +kernel)), List.forall_mem_cons.mpr ⟨(show u_lay RX2 TX2 7 ∈ wT from wT_1 (List.mem_of_getElem? (i := 97) (by decide +kernel)) (by decide +kernel)), List.forall_mem_cons.mpr ⟨(show u_lay RX2 TX2 8 ∈ wT from wT_1 (List.mem_of_getElem? (i := 99) (by decide +kernel)) (by decide +kernel)), List.forall_mem_cons.mpr ⟨(show u_lay RX2 TX2 9 ∈ wT from wT_1 (List.mem_of_getElem? (i := 101) (by decide +kernel)) (by decide +kernel)), fun _ h => absurd h List.not_mem_nil⟩⟩⟩⟩⟩⟩⟩⟩⟩⟩
theorem inT3 : ∀ w ∈ u_ws RX3 TX3 6, w ∈ wT := List.forall_mem_cons.mpr ⟨(show u_lay RX3 TX3 0 ∈ wT from wT_1 (List.mem_of_getElem? (i := 121) (by decide +kernel)) (by decide +kernel)), List.forall_mem_cons.mpr ⟨(show u_lay RX3 TX3 1 ∈ wT from wT_1 (List.mem_of_getElem? (i := 123) (by decide +kernel)) (by decide +kernel)), List.forall_mem_cons.mpr ⟨(show u_lay RX3 TX3 2 ∈ wT from wT_1 (List.mem_of_getElem? (i := 125) (by decide +kernel)) (by decide +kernel)), List.forall_mem_cons.mpr ⟨(show u_lay RX3 TX3 3 ∈ wT from wT_1 (List.mem_of_getElem? (i := 127) (by decide +kernel)) (by decide +kernel)), List.forall_mem_cons.mpr ⟨(show u_lay RX3 TX3 4 ∈ wT from wT_1 (List.mem_of_getElem? (i := 129) (by decide +kernel)) (by decide +kernel)), List.forall_mem_cons.mpr ⟨(show u_lay RX3 TX3 5 ∈ wT from wT_1 (List.mem_of_getElem? (i := 131) (by decide +kernel)) (by decide +kernel)), fun _ h => absurd h List.not_mem_nil⟩⟩⟩⟩⟩⟩
theorem inT4 : ∀ w ∈ u_ws RX4 TX4 4, w ∈ wT := List.forall_mem_cons.mpr ⟨(show u_lay RX4 TX4 0 ∈ wT from wT_1 (List.mem_of_getElem? (i := 146) (by decide +kernel)) (by decide +kernel)), List.forall_mem_cons.mpr ⟨(show u_lay RX4 TX4 1 ∈ wT from wT_1 (List.mem_of_getElem? (i := 148) (by decide +kernel)) (by decide +kernel)), List.forall_mem_cons.mpr ⟨(show u_lay RX4 TX4 2 ∈ wT from wT_1 (List.mem_of_getElem? (i := 150) (by decide +kernel)) (by decide +kernel)), List.forall_mem_cons.mpr ⟨(show u_lay RX4 TX4 3 ∈ wT from wT_1 (List.mem_of_getElem? (i := 152) (by decide +kernel)) (by decide +kernel)), fun _ h => absurd h List.not_mem_nil⟩⟩⟩⟩
theorem inT5 : ∀ w ∈ u_ws RX5 TX5 7, w ∈ wT := List.forall_mem_cons.mpr ⟨(show u_lay RX5 TX5 0 ∈ wT from wT_1 (List.mem_of_getElem? (i := 162) (by decide +kernel)) (by decide +kernel)), List.forall_mem_cons.mpr ⟨(show u_lay RX5 TX5 1 ∈ wT from wT_1 (List.mem_of_getElem? (i := 164) (by decide +kernel)) (by decide +kernel)), List.forall_mem_cons.mpr ⟨(show u_lay RX5 TX5 2 ∈ wT from wT_1 (List.mem_of_getElem? (i := 166) (by decide +kernel)) (by decide +kernel)), List.forall_mem_cons.mpr ⟨(show u_lay RX5 TX5 3 ∈ wT from wT_1 (List.mem_of_getElem? (i := 168) (by decide +kernel)) (by decide +kernel)), List.forall_mem_cons.mpr ⟨(show u_lay RX5 TX5 4 ∈ wT from wT_1 (List.mem_of_getElem? (i := 170) (by decide +kernel)) (by decide +kernel)), List.forall_mem_cons.mpr ⟨(show u_lay RX5 TX5 5 ∈ wT from wT_1 (List.mem_of_getElem? (i := 172) (by decide +kernel)) (by decide +kernel)), List.forall_mem_cons.mpr ⟨(show u_lay RX5 TX5 6 ∈ wT from wT_1 (List.mem_of_getElem? (i := 174) (by decide +kernel)) (by decide +kernel)), fun _ h => absurd h List.not_mem_nil⟩⟩⟩⟩⟩⟩⟩
theorem inT6 : ∀ w ∈ u_ws RX6 TX6 18, w ∈ wT := List.forall_mem_cons.mpr ⟨(show u_lay RX6 TX6 0 ∈ wT from wT_4 (List.mem_of_getElem? (i := 86) (by decide +kernel)) (by decide +kernel)), List.forall_mem_cons.mpr ⟨(show u_lay RX6 TX6 1 ∈ wT from wT_4 (List.mem_of_getElem? (i := 88) (by decide +kernel)) (by decide +kernel)), List.forall_mem_cons.mpr ⟨(show u_lay RX6 TX6 2 ∈ wT from wT_4 (List.mem_of_getElem? (i := 90) (by decide +kernel)) (by decide +kernel)), List.forall_mem_cons.mpr ⟨(show u_lay RX6 TX6 3 ∈ wT from wT_4 (List.mem_of_getElem? (i := 92) (by decide +kernel)) (by decide +kernel)), List.forall_mem_cons.mpr ⟨(show u_lay RX6 TX6 4 ∈ wT from wT_4 (List.mem_of_getElem? (i := 94) (by decide +kernel)) (by decide +kernel)), List.forall_mem_cons.mpr ⟨(show u_lay RX6 TX6 5 ∈ wT from wT_4 (List.mem_of_getElem? (i := 96) (by decide +kernel)) (by decide +kernel)), List.forall_mem_cons.mpr ⟨(show u_lay RX6 TX6 6 ∈ wT from wT_4 (List.mem_of_getElem? (i := 98) (by decide +kernel)) (by decide +kernel)), List.forall_mem_cons.mpr ⟨(show u_lay RX6 TX6 7 ∈ wT from wT_4 (List.mem_of_getElem? (i := 100) (by decide +kernel)) (by decide +kernel)), List.forall_mem_cons.mpr ⟨(show u_lay RX6 TX6 8 ∈ wT from wT_4 (List.mem_of_getElem? (i := 102) (by decide +kernel)) (by decide +kernel)), List.forall_mem_cons.mpr ⟨(show u_lay RX6 TX6 9 ∈ wT from wT_4 (List.mem_of_getElem? (i := 104) (by decide +kernel)) (by decide +kernel)), List.forall_mem_cons.mpr ⟨(show u_lay RX6 TX6 10 ∈ wT from wT_4 (List.mem_of_getElem? (i := 106) (by decide +kernel)) (by decide +kernel)), List.forall_mem_cons.mpr ⟨(show u_lay RX6 TX6 11 ∈ wT from wT_4 (List.mem_of_getElem? (i := 108) (by decide +kernel)) (by decide +kernel)), List.forall_mem_cons.mpr ⟨(show u_lay RX6 TX6 12 ∈ wT from wT_4 (List.mem_of_getElem? (i := 110) (by decide +kernel)) (by decide +kernel)), List.forall_mem_cons.mpr ⟨(show u_lay RX6 TX6 13 ∈ wT from wT_4 (List.mem_of_getElem? (i := 112) (by decide +kernel)) (by decide +kernel)), List.forall_mem_cons.mpr ⟨(show u_lay RX6 TX6 14 ∈ wT from wT_4 (List.mem_of_getElem? (i := 114) (by decide +kernel)) (by decide +kernel)), List.forall_mem_cons.mpr ⟨(show u_lay RX6 TX6 15 ∈ wT from wT_4 (List.mem_of_getElem? (i := 116) (by decide +kernel)) (by decide +kernel)), List.forall_mem_cons.mpr ⟨(show u_lay RX6 TX6 16 ∈ wT from wT_4 (List.mem_of_getElem? (i := 118) (by decide +kernel)) (by decide +kernel)), List.forall_mem_cons.mpr ⟨(show u_lay RX6 TX6 17 ∈ wT from wT_4 (List.mem_of_getElem? (i := 120) (by decide +kernel)) (by decide +kernel)), fun _ h => absurd h List.not_mem_nil⟩⟩⟩⟩⟩⟩⟩⟩⟩⟩⟩⟩⟩⟩⟩⟩⟩⟩
end
section
/-! THE REFERENCE'S WORLD: its int fields S.1 by slot, its arrays S.2 by slot. -/
abbrev MS : Type := (Nat → Int32) × (Nat → Nat → Int32)
def mS (S : MS) (k : Nat) (v : Int32) : MS := (va_up S.1 k v, S.2)
def mA (S : MS) (k i : Nat) (v : Int32) : MS := (S.1, va_up S.2 k (upd (S.2 k) i v))
def mF (ad : Nat → Nat) (g : Nat → Int32) : List Value := [.int (g 0), .ref (ad 1), .ref (ad 2), .ref (ad 3), .ref (ad 4), .ref (ad 5), .int (g 6), .int (g 7), .int (g 8), .int (g 9), .int (g 10), .int (g 11), .int (g 12), .ref (ad 13), .ref (ad 14), .ref (ad 15), .ref (ad 16), .int (g 17)]
def mW (cI cZ : ClassId) (ad : Nat → Nat) (S : MS) : va_W := [(ad 0, .inr (6, mF ad S.1)), (ad 1, .inl (cI, 7737, .inl (S.2 1))), (ad 2, .inl (cI, 7737, .inl (S.2 2))), (ad 3, .inl (cI, 6, .inl (S.2 3))), (ad 4, .inl (cI, 6, .inl (S.2 4))), (ad 5, .inl (cI, 400, .inl (S.2 5))), (ad 13, .inl (cI, 6, .inl (S.2 13))), (ad 14, .inl (cZ, 61, .inl (S.2 14))), (ad 15, .inl (cZ, 61, .inl (S.2 15))), (ad 16, .inl (cI, 61, .inl (S.2 16)))]
def mX (D : va_G) (cI cZ : ClassId) (A : Nat → Prop) (ad : Nat → Nat) (S : MS) (H : Heap) : Prop := va_P D vwCl (mW cI cZ ad S) H ∧ va_D A (mW cI cZ ad S)
def mKf (D : va_G) (cI cZ : ClassId) (U : State) : Prop := va_K D vwCl [(cI, .int), (cZ, .boolean)] U
theorem mKf_ok (D : va_G) (cI cZ : ClassId) (A : Nat → Prop) : KfOk A (mKf D cI cZ) := ⟨fun U g mk a h => va_K.moved (u := U) (U := U.calling g mk a) (Vm.Alike.refl U.vm) h, fun _ _ _ h hW _ => va_K.moved hW.alike h⟩
section MRows
variable {K : Ctx} {D : va_G} {cI cZ : ClassId} {ad : Nat → Nat} {cs sl pc : Nat} {S : MS} {lv : List (Nat × Value)} {st : List Value} {cc : ByteArray} {fr lo idx : Nat} {α : Type} {a q : α}
theorem m_recv (F : Fx K cc RX6 (mKf D cI cZ) fr lo) : Rcv K (mX D cI cZ (kA K) ad) S (ad 0) RX6 := fun H hX => va_recv F.2.2.2.2.2.1 hX.1 (ci := 6) (q0 := 0) rfl rfl
theorem m_get_0 (n : Nat) (F : Fx K cc RX6 (mKf D cI cZ) fr lo) (hl : Cond.fieldLink RX6 idx "WhereFoundModel" "raised" "I" ∈ wT) (d : decode cc pc = .ok (.getfield idx, 3)) (hn : pc + 3 = n) (kk : G K (mX D cI cZ (kA K) ad) cs sl n S lv (.int (S.1 0) :: st)) : G K (mX D cI cZ (kA K) ad) cs sl pc S lv (.ref (ad 0) :: st) := by
  subst hn
  exact fun H locs ls hX hS hls => va_get (D := D) (ci := 6) (C := RX6) (T := TX6) (N := 18) F.1 F.2.1 F.2.2.2.2.1 inT6 F.2.2.2.1 F.2.2.2.2.2.1 hX.1 0 rfl rfl 0 (by decide) (F.2.2.2.2.1 _ hl) (fun _ h => h) rfl d (kk H locs ls hX hS hls)
theorem m_get_1 (n : Nat) (F : Fx K cc RX6 (mKf D cI cZ) fr lo) (hl : Cond.fieldLink RX6 idx "WhereFoundModel" "w" "[I" ∈ wT) (d : decode cc pc = .ok (.getfield idx, 3)) (hn : pc + 3 = n) (kk : G K (mX D cI cZ (kA K) ad) cs sl n S lv (.ref (ad 1) :: st)) : G K (mX D cI cZ (kA K) ad) cs sl pc S lv (.ref (ad 0) :: st) := by
  subst hn
  exact fun H locs ls hX hS hls => va_get (D := D) (ci := 6) (C := RX6) (T := TX6) (N := 18) F.1 F.2.1 F.2.2.2.2.1 inT6 F.2.2.2.1 F.2.2.2.2.2.1 hX.1 0 rfl rfl 1 (by decide) (F.2.2.2.2.1 _ hl) (fun _ h => h) rfl d (kk H locs ls hX hS hls)
theorem m_get_2 (n : Nat) (F : Fx K cc RX6 (mKf D cI cZ) fr lo) (hl : Cond.fieldLink RX6 idx "WhereFoundModel" "back" "[I" ∈ wT) (d : decode cc pc = .ok (.getfield idx, 3)) (hn : pc + 3 = n) (kk : G K (mX D cI cZ (kA K) ad) cs sl n S lv (.ref (ad 2) :: st)) : G K (mX D cI cZ (kA K) ad) cs sl pc S lv (.ref (ad 0) :: st) := by
  subst hn
  exact fun H locs ls hX hS hls => va_get (D := D) (ci := 6) (C := RX6) (T := TX6) (N := 18) F.1 F.2.1 F.2.2.2.2.1 inT6 F.2.2.2.1 F.2.2.2.2.2.1 hX.1 0 rfl rfl 2 (by decide) (F.2.2.2.2.1 _ hl) (fun _ h => h) rfl d (kk H locs ls hX hS hls)
theorem m_get_3 (n : Nat) (F : Fx K cc RX6 (mKf D cI cZ) fr lo) (hl : Cond.fieldLink RX6 idx "WhereFoundModel" "lowest" "[I" ∈ wT) (d : decode cc pc = .ok (.getfield idx, 3)) (hn : pc + 3 = n) (kk : G K (mX D cI cZ (kA K) ad) cs sl n S lv (.ref (ad 3) :: st)) : G K (mX D cI cZ (kA K) ad) cs sl pc S lv (.ref (ad 0) :: st) := by
  subst hn
  exact fun H locs ls hX hS hls => va_get (D := D) (ci := 6) (C := RX6) (T := TX6) (N := 18) F.1 F.2.1 F.2.2.2.2.1 inT6 F.2.2.2.1 F.2.2.2.2.2.1 hX.1 0 rfl rfl 3 (by decide) (F.2.2.2.2.1 _ hl) (fun _ h => h) rfl d (kk H locs ls hX hS hls)
theorem m_get_4 (n : Nat) (F : Fx K cc RX6 (mKf D cI cZ) fr lo) (hl : Cond.fieldLink RX6 idx "WhereFoundModel" "highest" "[I" ∈ wT) (d : decode cc pc = .ok (.getfield idx, 3)) (hn : pc + 3 = n) (kk : G K (mX D cI cZ (kA K) ad) cs sl n S lv (.ref (ad 4) :: st)) : G K (mX D cI cZ (kA K) ad) cs sl pc S lv (.ref (ad 0) :: st) := by
  subst hn
  exact fun H locs ls hX hS hls => va_get (D := D) (ci := 6) (C := RX6) (T := TX6) (N := 18) F.1 F.2.1 F.2.2.2.2.1 inT6 F.2.2.2.1 F.2.2.2.2.2.1 hX.1 0 rfl rfl 4 (by decide) (F.2.2.2.2.1 _ hl) (fun _ h => h) rfl d (kk H locs ls hX hS hls)
theorem m_get_5 (n : Nat) (F : Fx K cc RX6 (mKf D cI cZ) fr lo) (hl : Cond.fieldLink RX6 idx "WhereFoundModel" "tape" "[I" ∈ wT) (d : decode cc pc = .ok (.getfield idx, 3)) (hn : pc + 3 = n) (kk : G K (mX D cI cZ (kA K) ad) cs sl n S lv (.ref (ad 5) :: st)) : G K (mX D cI cZ (kA K) ad) cs sl pc S lv (.ref (ad 0) :: st) := by
  subst hn
  exact fun H locs ls hX hS hls => va_get (D := D) (ci := 6) (C := RX6) (T := TX6) (N := 18) F.1 F.2.1 F.2.2.2.2.1 inT6 F.2.2.2.1 F.2.2.2.2.2.1 hX.1 0 rfl rfl 5 (by decide) (F.2.2.2.2.1 _ hl) (fun _ h => h) rfl d (kk H locs ls hX hS hls)
theorem m_get_6 (n : Nat) (F : Fx K cc RX6 (mKf D cI cZ) fr lo) (hl : Cond.fieldLink RX6 idx "WhereFoundModel" "taped" "I" ∈ wT) (d : decode cc pc = .ok (.getfield idx, 3)) (hn : pc + 3 = n) (kk : G K (mX D cI cZ (kA K) ad) cs sl n S lv (.int (S.1 6) :: st)) : G K (mX D cI cZ (kA K) ad) cs sl pc S lv (.ref (ad 0) :: st) := by
  subst hn
  exact fun H locs ls hX hS hls => va_get (D := D) (ci := 6) (C := RX6) (T := TX6) (N := 18) F.1 F.2.1 F.2.2.2.2.1 inT6 F.2.2.2.1 F.2.2.2.2.2.1 hX.1 0 rfl rfl 6 (by decide) (F.2.2.2.2.1 _ hl) (fun _ h => h) rfl d (kk H locs ls hX hS hls)
theorem m_get_7 (n : Nat) (F : Fx K cc RX6 (mKf D cI cZ) fr lo) (hl : Cond.fieldLink RX6 idx "WhereFoundModel" "fault" "I" ∈ wT) (d : decode cc pc = .ok (.getfield idx, 3)) (hn : pc + 3 = n) (kk : G K (mX D cI cZ (kA K) ad) cs sl n S lv (.int (S.1 7) :: st)) : G K (mX D cI cZ (kA K) ad) cs sl pc S lv (.ref (ad 0) :: st) := by
  subst hn
  exact fun H locs ls hX hS hls => va_get (D := D) (ci := 6) (C := RX6) (T := TX6) (N := 18) F.1 F.2.1 F.2.2.2.2.1 inT6 F.2.2.2.1 F.2.2.2.2.2.1 hX.1 0 rfl rfl 7 (by decide) (F.2.2.2.2.1 _ hl) (fun _ h => h) rfl d (kk H locs ls hX hS hls)
theorem m_get_8 (n : Nat) (F : Fx K cc RX6 (mKf D cI cZ) fr lo) (hl : Cond.fieldLink RX6 idx "WhereFoundModel" "spot" "I" ∈ wT) (d : decode cc pc = .ok (.getfield idx, 3)) (hn : pc + 3 = n) (kk : G K (mX D cI cZ (kA K) ad) cs sl n S lv (.int (S.1 8) :: st)) : G K (mX D cI cZ (kA K) ad) cs sl pc S lv (.ref (ad 0) :: st) := by
  subst hn
  exact fun H locs ls hX hS hls => va_get (D := D) (ci := 6) (C := RX6) (T := TX6) (N := 18) F.1 F.2.1 F.2.2.2.2.1 inT6 F.2.2.2.1 F.2.2.2.2.2.1 hX.1 0 rfl rfl 8 (by decide) (F.2.2.2.2.1 _ hl) (fun _ h => h) rfl d (kk H locs ls hX hS hls)
theorem m_get_9 (n : Nat) (F : Fx K cc RX6 (mKf D cI cZ) fr lo) (hl : Cond.fieldLink RX6 idx "WhereFoundModel" "wrong" "I" ∈ wT) (d : decode cc pc = .ok (.getfield idx, 3)) (hn : pc + 3 = n) (kk : G K (mX D cI cZ (kA K) ad) cs sl n S lv (.int (S.1 9) :: st)) : G K (mX D cI cZ (kA K) ad) cs sl pc S lv (.ref (ad 0) :: st) := by
  subst hn
  exact fun H locs ls hX hS hls => va_get (D := D) (ci := 6) (C := RX6) (T := TX6) (N := 18) F.1 F.2.1 F.2.2.2.2.1 inT6 F.2.2.2.1 F.2.2.2.2.2.1 hX.1 0 rfl rfl 9 (by decide) (F.2.2.2.2.1 _ hl) (fun _ h => h) rfl d (kk H locs ls hX hS hls)
theorem m_get_10 (n : Nat) (F : Fx K cc RX6 (mKf D cI cZ) fr lo) (hl : Cond.fieldLink RX6 idx "WhereFoundModel" "value" "I" ∈ wT) (d : decode cc pc = .ok (.getfield idx, 3)) (hn : pc + 3 = n) (kk : G K (mX D cI cZ (kA K) ad) cs sl n S lv (.int (S.1 10) :: st)) : G K (mX D cI cZ (kA K) ad) cs sl pc S lv (.ref (ad 0) :: st) := by
  subst hn
  exact fun H locs ls hX hS hls => va_get (D := D) (ci := 6) (C := RX6) (T := TX6) (N := 18) F.1 F.2.1 F.2.2.2.2.1 inT6 F.2.2.2.1 F.2.2.2.2.2.1 hX.1 0 rfl rfl 10 (by decide) (F.2.2.2.2.1 _ hl) (fun _ h => h) rfl d (kk H locs ls hX hS hls)
theorem m_get_11 (n : Nat) (F : Fx K cc RX6 (mKf D cI cZ) fr lo) (hl : Cond.fieldLink RX6 idx "WhereFoundModel" "place" "I" ∈ wT) (d : decode cc pc = .ok (.getfield idx, 3)) (hn : pc + 3 = n) (kk : G K (mX D cI cZ (kA K) ad) cs sl n S lv (.int (S.1 11) :: st)) : G K (mX D cI cZ (kA K) ad) cs sl pc S lv (.ref (ad 0) :: st) := by
  subst hn
  exact fun H locs ls hX hS hls => va_get (D := D) (ci := 6) (C := RX6) (T := TX6) (N := 18) F.1 F.2.1 F.2.2.2.2.1 inT6 F.2.2.2.1 F.2.2.2.2.2.1 hX.1 0 rfl rfl 11 (by decide) (F.2.2.2.2.1 _ hl) (fun _ h => h) rfl d (kk H locs ls hX hS hls)
theorem m_get_12 (n : Nat) (F : Fx K cc RX6 (mKf D cI cZ) fr lo) (hl : Cond.fieldLink RX6 idx "WhereFoundModel" "statements" "I" ∈ wT) (d : decode cc pc = .ok (.getfield idx, 3)) (hn : pc + 3 = n) (kk : G K (mX D cI cZ (kA K) ad) cs sl n S lv (.int (S.1 12) :: st)) : G K (mX D cI cZ (kA K) ad) cs sl pc S lv (.ref (ad 0) :: st) := by
  subst hn
  exact fun H locs ls hX hS hls => va_get (D := D) (ci := 6) (C := RX6) (T := TX6) (N := 18) F.1 F.2.1 F.2.2.2.2.1 inT6 F.2.2.2.1 F.2.2.2.2.2.1 hX.1 0 rfl rfl 12 (by decide) (F.2.2.2.2.1 _ hl) (fun _ h => h) rfl d (kk H locs ls hX hS hls)
theorem m_get_13 (n : Nat) (F : Fx K cc RX6 (mKf D cI cZ) fr lo) (hl : Cond.fieldLink RX6 idx "WhereFoundModel" "read" "[I" ∈ wT) (d : decode cc pc = .ok (.getfield idx, 3)) (hn : pc + 3 = n) (kk : G K (mX D cI cZ (kA K) ad) cs sl n S lv (.ref (ad 13) :: st)) : G K (mX D cI cZ (kA K) ad) cs sl pc S lv (.ref (ad 0) :: st) := by
  subst hn
  exact fun H locs ls hX hS hls => va_get (D := D) (ci := 6) (C := RX6) (T := TX6) (N := 18) F.1 F.2.1 F.2.2.2.2.1 inT6 F.2.2.2.1 F.2.2.2.2.2.1 hX.1 0 rfl rfl 13 (by decide) (F.2.2.2.2.1 _ hl) (fun _ h => h) rfl d (kk H locs ls hX hS hls)
theorem m_get_14 (n : Nat) (F : Fx K cc RX6 (mKf D cI cZ) fr lo) (hl : Cond.fieldLink RX6 idx "WhereFoundModel" "counts" "[Z" ∈ wT) (d : decode cc pc = .ok (.getfield idx, 3)) (hn : pc + 3 = n) (kk : G K (mX D cI cZ (kA K) ad) cs sl n S lv (.ref (ad 14) :: st)) : G K (mX D cI cZ (kA K) ad) cs sl pc S lv (.ref (ad 0) :: st) := by
  subst hn
  exact fun H locs ls hX hS hls => va_get (D := D) (ci := 6) (C := RX6) (T := TX6) (N := 18) F.1 F.2.1 F.2.2.2.2.1 inT6 F.2.2.2.1 F.2.2.2.2.2.1 hX.1 0 rfl rfl 14 (by decide) (F.2.2.2.2.1 _ hl) (fun _ h => h) rfl d (kk H locs ls hX hS hls)
theorem m_get_15 (n : Nat) (F : Fx K cc RX6 (mKf D cI cZ) fr lo) (hl : Cond.fieldLink RX6 idx "WhereFoundModel" "isOpen" "[Z" ∈ wT) (d : decode cc pc = .ok (.getfield idx, 3)) (hn : pc + 3 = n) (kk : G K (mX D cI cZ (kA K) ad) cs sl n S lv (.ref (ad 15) :: st)) : G K (mX D cI cZ (kA K) ad) cs sl pc S lv (.ref (ad 0) :: st) := by
  subst hn
  exact fun H locs ls hX hS hls => va_get (D := D) (ci := 6) (C := RX6) (T := TX6) (N := 18) F.1 F.2.1 F.2.2.2.2.1 inT6 F.2.2.2.1 F.2.2.2.2.2.1 hX.1 0 rfl rfl 15 (by decide) (F.2.2.2.2.1 _ hl) (fun _ h => h) rfl d (kk H locs ls hX hS hls)
theorem m_get_16 (n : Nat) (F : Fx K cc RX6 (mKf D cI cZ) fr lo) (hl : Cond.fieldLink RX6 idx "WhereFoundModel" "violated" "[I" ∈ wT) (d : decode cc pc = .ok (.getfield idx, 3)) (hn : pc + 3 = n) (kk : G K (mX D cI cZ (kA K) ad) cs sl n S lv (.ref (ad 16) :: st)) : G K (mX D cI cZ (kA K) ad) cs sl pc S lv (.ref (ad 0) :: st) := by
  subst hn
  exact fun H locs ls hX hS hls => va_get (D := D) (ci := 6) (C := RX6) (T := TX6) (N := 18) F.1 F.2.1 F.2.2.2.2.1 inT6 F.2.2.2.1 F.2.2.2.2.2.1 hX.1 0 rfl rfl 16 (by decide) (F.2.2.2.2.1 _ hl) (fun _ h => h) rfl d (kk H locs ls hX hS hls)
theorem m_get_17 (n : Nat) (F : Fx K cc RX6 (mKf D cI cZ) fr lo) (hl : Cond.fieldLink RX6 idx "WhereFoundModel" "violations" "I" ∈ wT) (d : decode cc pc = .ok (.getfield idx, 3)) (hn : pc + 3 = n) (kk : G K (mX D cI cZ (kA K) ad) cs sl n S lv (.int (S.1 17) :: st)) : G K (mX D cI cZ (kA K) ad) cs sl pc S lv (.ref (ad 0) :: st) := by
  subst hn
  exact fun H locs ls hX hS hls => va_get (D := D) (ci := 6) (C := RX6) (T := TX6) (N := 18) F.1 F.2.1 F.2.2.2.2.1 inT6 F.2.2.2.1 F.2.2.2.2.2.1 hX.1 0 rfl rfl 17 (by decide) (F.2.2.2.2.1 _ hl) (fun _ h => h) rfl d (kk H locs ls hX hS hls)
theorem m_put_0 (n : Nat) {v : Int32} (F : Fx K cc RX6 (mKf D cI cZ) fr lo) (hl : Cond.fieldLink RX6 idx "WhereFoundModel" "raised" "I" ∈ wT) (d : decode cc pc = .ok (.putfield idx, 3)) (hn : pc + 3 = n) (kk : G K (mX D cI cZ (kA K) ad) cs sl n (mS S 0 v) lv st) : G K (mX D cI cZ (kA K) ad) cs sl pc S lv (.int v :: .ref (ad 0) :: st) := by
  subst hn
  exact fun H locs ls hX hS hls => va_put (D := D) (ci := 6) (v := .int v) (ty := .int) (C := RX6) (T := TX6) (N := 18) F.1 F.2.1 F.2.2.2.2.1 inT6 tyX6 tyX6_ok nmX6 F.2.2.2.1 F.2.2.2.2.2.1 hX.1 hX.2 hS 0 rfl rfl 0 (by decide) (F.2.2.2.2.1 _ hl) (fun _ h => h) rfl (by decide +kernel) rfl rfl (Nat.le_of_ble_eq_true rfl) d (fun H1 locs1 hP hD hS1 => kk H1 locs1 ls ⟨hP, hD⟩ hS1 hls)
theorem m_put_6 (n : Nat) {v : Int32} (F : Fx K cc RX6 (mKf D cI cZ) fr lo) (hl : Cond.fieldLink RX6 idx "WhereFoundModel" "taped" "I" ∈ wT) (d : decode cc pc = .ok (.putfield idx, 3)) (hn : pc + 3 = n) (kk : G K (mX D cI cZ (kA K) ad) cs sl n (mS S 6 v) lv st) : G K (mX D cI cZ (kA K) ad) cs sl pc S lv (.int v :: .ref (ad 0) :: st) := by
  subst hn
  exact fun H locs ls hX hS hls => va_put (D := D) (ci := 6) (v := .int v) (ty := .int) (C := RX6) (T := TX6) (N := 18) F.1 F.2.1 F.2.2.2.2.1 inT6 tyX6 tyX6_ok nmX6 F.2.2.2.1 F.2.2.2.2.2.1 hX.1 hX.2 hS 0 rfl rfl 6 (by decide) (F.2.2.2.2.1 _ hl) (fun _ h => h) rfl (by decide +kernel) rfl rfl (Nat.le_of_ble_eq_true rfl) d (fun H1 locs1 hP hD hS1 => kk H1 locs1 ls ⟨hP, hD⟩ hS1 hls)
theorem m_put_7 (n : Nat) {v : Int32} (F : Fx K cc RX6 (mKf D cI cZ) fr lo) (hl : Cond.fieldLink RX6 idx "WhereFoundModel" "fault" "I" ∈ wT) (d : decode cc pc = .ok (.putfield idx, 3)) (hn : pc + 3 = n) (kk : G K (mX D cI cZ (kA K) ad) cs sl n (mS S 7 v) lv st) : G K (mX D cI cZ (kA K) ad) cs sl pc S lv (.int v :: .ref (ad 0) :: st) := by
  subst hn
  exact fun H locs ls hX hS hls => va_put (D := D) (ci := 6) (v := .int v) (ty := .int) (C := RX6) (T := TX6) (N := 18) F.1 F.2.1 F.2.2.2.2.1 inT6 tyX6 tyX6_ok nmX6 F.2.2.2.1 F.2.2.2.2.2.1 hX.1 hX.2 hS 0 rfl rfl 7 (by decide) (F.2.2.2.2.1 _ hl) (fun _ h => h) rfl (by decide +kernel) rfl rfl (Nat.le_of_ble_eq_true rfl) d (fun H1 locs1 hP hD hS1 => kk H1 locs1 ls ⟨hP, hD⟩ hS1 hls)
theorem m_put_8 (n : Nat) {v : Int32} (F : Fx K cc RX6 (mKf D cI cZ) fr lo) (hl : Cond.fieldLink RX6 idx "WhereFoundModel" "spot" "I" ∈ wT) (d : decode cc pc = .ok (.putfield idx, 3)) (hn : pc + 3 = n) (kk : G K (mX D cI cZ (kA K) ad) cs sl n (mS S 8 v) lv st) : G K (mX D cI cZ (kA K) ad) cs sl pc S lv (.int v :: .ref (ad 0) :: st) := by
  subst hn
  exact fun H locs ls hX hS hls => va_put (D := D) (ci := 6) (v := .int v) (ty := .int) (C := RX6) (T := TX6) (N := 18) F.1 F.2.1 F.2.2.2.2.1 inT6 tyX6 tyX6_ok nmX6 F.2.2.2.1 F.2.2.2.2.2.1 hX.1 hX.2 hS 0 rfl rfl 8 (by decide) (F.2.2.2.2.1 _ hl) (fun _ h => h) rfl (by decide +kernel) rfl rfl (Nat.le_of_ble_eq_true rfl) d (fun H1 locs1 hP hD hS1 => kk H1 locs1 ls ⟨hP, hD⟩ hS1 hls)
theorem m_put_9 (n : Nat) {v : Int32} (F : Fx K cc RX6 (mKf D cI cZ) fr lo) (hl : Cond.fieldLink RX6 idx "WhereFoundModel" "wrong" "I" ∈ wT) (d : decode cc pc = .ok (.putfield idx, 3)) (hn : pc + 3 = n) (kk : G K (mX D cI cZ (kA K) ad) cs sl n (mS S 9 v) lv st) : G K (mX D cI cZ (kA K) ad) cs sl pc S lv (.int v :: .ref (ad 0) :: st) := by
  subst hn
  exact fun H locs ls hX hS hls => va_put (D := D) (ci := 6) (v := .int v) (ty := .int) (C := RX6) (T := TX6) (N := 18) F.1 F.2.1 F.2.2.2.2.1 inT6 tyX6 tyX6_ok nmX6 F.2.2.2.1 F.2.2.2.2.2.1 hX.1 hX.2 hS 0 rfl rfl 9 (by decide) (F.2.2.2.2.1 _ hl) (fun _ h => h) rfl (by decide +kernel) rfl rfl (Nat.le_of_ble_eq_true rfl) d (fun H1 locs1 hP hD hS1 => kk H1 locs1 ls ⟨hP, hD⟩ hS1 hls)
theorem m_put_10 (n : Nat) {v : Int32} (F : Fx K cc RX6 (mKf D cI cZ) fr lo) (hl : Cond.fieldLink RX6 idx "WhereFoundModel" "value" "I" ∈ wT) (d : decode cc pc = .ok (.putfield idx, 3)) (hn : pc + 3 = n) (kk : G K (mX D cI cZ (kA K) ad) cs sl n (mS S 10 v) lv st) : G K (mX D cI cZ (kA K) ad) cs sl pc S lv (.int v :: .ref (ad 0) :: st) := by
  subst hn
  exact fun H locs ls hX hS hls => va_put (D := D) (ci := 6) (v := .int v) (ty := .int) (C := RX6) (T := TX6) (N := 18) F.1 F.2.1 F.2.2.2.2.1 inT6 tyX6 tyX6_ok nmX6 F.2.2.2.1 F.2.2.2.2.2.1 hX.1 hX.2 hS 0 rfl rfl 10 (by decide) (F.2.2.2.2.1 _ hl) (fun _ h => h) rfl (by decide +kernel) rfl rfl (Nat.le_of_ble_eq_true rfl) d (fun H1 locs1 hP hD hS1 => kk H1 locs1 ls ⟨hP, hD⟩ hS1 hls)
theorem m_put_11 (n : Nat) {v : Int32} (F : Fx K cc RX6 (mKf D cI cZ) fr lo) (hl : Cond.fieldLink RX6 idx "WhereFoundModel" "place" "I" ∈ wT) (d : decode cc pc = .ok (.putfield idx, 3)) (hn : pc + 3 = n) (kk : G K (mX D cI cZ (kA K) ad) cs sl n (mS S 11 v) lv st) : G K (mX D cI cZ (kA K) ad) cs sl pc S lv (.int v :: .ref (ad 0) :: st) := by
  subst hn
  exact fun H locs ls hX hS hls => va_put (D := D) (ci := 6) (v := .int v) (ty := .int) (C := RX6) (T := TX6) (N := 18) F.1 F.2.1 F.2.2.2.2.1 inT6 tyX6 tyX6_ok nmX6 F.2.2.2.1 F.2.2.2.2.2.1 hX.1 hX.2 hS 0 rfl rfl 11 (by decide) (F.2.2.2.2.1 _ hl) (fun _ h => h) rfl (by decide +kernel) rfl rfl (Nat.le_of_ble_eq_true rfl) d (fun H1 locs1 hP hD hS1 => kk H1 locs1 ls ⟨hP, hD⟩ hS1 hls)
theorem m_put_12 (n : Nat) {v : Int32} (F : Fx K cc RX6 (mKf D cI cZ) fr lo) (hl : Cond.fieldLink RX6 idx "WhereFoundModel" "statements" "I" ∈ wT) (d : decode cc pc = .ok (.putfield idx, 3)) (hn : pc + 3 = n) (kk : G K (mX D cI cZ (kA K) ad) cs sl n (mS S 12 v) lv st) : G K (mX D cI cZ (kA K) ad) cs sl pc S lv (.int v :: .ref (ad 0) :: st) := by
  subst hn
  exact fun H locs ls hX hS hls => va_put (D := D) (ci := 6) (v := .int v) (ty := .int) (C := RX6) (T := TX6) (N := 18) F.1 F.2.1 F.2.2.2.2.1 inT6 tyX6 tyX6_ok nmX6 F.2.2.2.1 F.2.2.2.2.2.1 hX.1 hX.2 hS 0 rfl rfl 12 (by decide) (F.2.2.2.2.1 _ hl) (fun _ h => h) rfl (by decide +kernel) rfl rfl (Nat.le_of_ble_eq_true rfl) d (fun H1 locs1 hP hD hS1 => kk H1 locs1 ls ⟨hP, hD⟩ hS1 hls)
theorem m_put_17 (n : Nat) {v : Int32} (F : Fx K cc RX6 (mKf D cI cZ) fr lo) (hl : Cond.fieldLink RX6 idx "WhereFoundModel" "violations" "I" ∈ wT) (d : decode cc pc = .ok (.putfield idx, 3)) (hn : pc + 3 = n) (kk : G K (mX D cI cZ (kA K) ad) cs sl n (mS S 17 v) lv st) : G K (mX D cI cZ (kA K) ad) cs sl pc S lv (.int v :: .ref (ad 0) :: st) := by
  subst hn
  exact fun H locs ls hX hS hls => va_put (D := D) (ci := 6) (v := .int v) (ty := .int) (C := RX6) (T := TX6) (N := 18) F.1 F.2.1 F.2.2.2.2.1 inT6 tyX6 tyX6_ok nmX6 F.2.2.2.1 F.2.2.2.2.2.1 hX.1 hX.2 hS 0 rfl rfl 17 (by decide) (F.2.2.2.2.1 _ hl) (fun _ h => h) rfl (by decide +kernel) rfl rfl (Nat.le_of_ble_eq_true rfl) d (fun H1 locs1 hP hD hS1 => kk H1 locs1 ls ⟨hP, hD⟩ hS1 hls)
theorem m_ld_1 (n : Nat) {i : Int32} (F : Fx K cc RX6 (mKf D cI cZ) fr lo) (hi : ok i 7737) (d : decode cc pc = .ok (.iaload, 1)) (hn : pc + 1 = n) (kk : G K (mX D cI cZ (kA K) ad) cs sl n S lv (.int (S.2 1 i.toNatClampNeg) :: st)) : G K (mX D cI cZ (kA K) ad) cs sl pc S lv (.int i :: .ref (ad 1) :: st) := by
  subst hn
  exact fun H locs ls hX hS hls => va_iald F.1 F.2.1 F.2.2.2.2.2.1 hX.1 1 0 rfl rfl hi d (kk H locs ls hX hS hls)
theorem m_ldK_1 (n j : Nat) {i : Int32} (F : Fx K cc RX6 (mKf D cI cZ) fr lo) (hj : i.toNatClampNeg = j) (hi : ok i 7737) (d : decode cc pc = .ok (.iaload, 1)) (hn : pc + 1 = n) (kk : G K (mX D cI cZ (kA K) ad) cs sl n S lv (.int (S.2 1 j) :: st)) : G K (mX D cI cZ (kA K) ad) cs sl pc S lv (.int i :: .ref (ad 1) :: st) := by
  subst hj
  exact m_ld_1 n F hi d hn kk
theorem m_st_1 (n : Nat) {i v : Int32} (F : Fx K cc RX6 (mKf D cI cZ) fr lo) (hi : ok i 7737) (d : decode cc pc = .ok (.iastore, 1)) (hn : pc + 1 = n) (kk : G K (mX D cI cZ (kA K) ad) cs sl n (mA S 1 i.toNatClampNeg v) lv st) : G K (mX D cI cZ (kA K) ad) cs sl pc S lv (.int v :: .int i :: .ref (ad 1) :: st) := by
  subst hn
  exact fun H locs ls hX hS hls => va_iast F.1 F.2.1 F.2.2.2.2.2.1 hX.1 hX.2 hS 1 0 rfl rfl hi d (fun H1 locs1 hP hD hS1 => kk H1 locs1 ls ⟨hP, hD⟩ hS1 hls)
theorem m_stK_1 (n j : Nat) {i v : Int32} (F : Fx K cc RX6 (mKf D cI cZ) fr lo) (hj : i.toNatClampNeg = j) (hi : ok i 7737) (d : decode cc pc = .ok (.iastore, 1)) (hn : pc + 1 = n) (kk : G K (mX D cI cZ (kA K) ad) cs sl n (mA S 1 j v) lv st) : G K (mX D cI cZ (kA K) ad) cs sl pc S lv (.int v :: .int i :: .ref (ad 1) :: st) := by
  subst hj
  exact m_st_1 n F hi d hn kk
theorem m_ld_2 (n : Nat) {i : Int32} (F : Fx K cc RX6 (mKf D cI cZ) fr lo) (hi : ok i 7737) (d : decode cc pc = .ok (.iaload, 1)) (hn : pc + 1 = n) (kk : G K (mX D cI cZ (kA K) ad) cs sl n S lv (.int (S.2 2 i.toNatClampNeg) :: st)) : G K (mX D cI cZ (kA K) ad) cs sl pc S lv (.int i :: .ref (ad 2) :: st) := by
  subst hn
  exact fun H locs ls hX hS hls => va_iald F.1 F.2.1 F.2.2.2.2.2.1 hX.1 2 0 rfl rfl hi d (kk H locs ls hX hS hls)
theorem m_ldK_2 (n j : Nat) {i : Int32} (F : Fx K cc RX6 (mKf D cI cZ) fr lo) (hj : i.toNatClampNeg = j) (hi : ok i 7737) (d : decode cc pc = .ok (.iaload, 1)) (hn : pc + 1 = n) (kk : G K (mX D cI cZ (kA K) ad) cs sl n S lv (.int (S.2 2 j) :: st)) : G K (mX D cI cZ (kA K) ad) cs sl pc S lv (.int i :: .ref (ad 2) :: st) := by
  subst hj
  exact m_ld_2 n F hi d hn kk
theorem m_st_2 (n : Nat) {i v : Int32} (F : Fx K cc RX6 (mKf D cI cZ) fr lo) (hi : ok i 7737) (d : decode cc pc = .ok (.iastore, 1)) (hn : pc + 1 = n) (kk : G K (mX D cI cZ (kA K) ad) cs sl n (mA S 2 i.toNatClampNeg v) lv st) : G K (mX D cI cZ (kA K) ad) cs sl pc S lv (.int v :: .int i :: .ref (ad 2) :: st) := by
  subst hn
  exact fun H locs ls hX hS hls => va_iast F.1 F.2.1 F.2.2.2.2.2.1 hX.1 hX.2 hS 2 0 rfl rfl hi d (fun H1 locs1 hP hD hS1 => kk H1 locs1 ls ⟨hP, hD⟩ hS1 hls)
theorem m_stK_2 (n j : Nat) {i v : Int32} (F : Fx K cc RX6 (mKf D cI cZ) fr lo) (hj : i.toNatClampNeg = j) (hi : ok i 7737) (d : decode cc pc = .ok (.iastore, 1)) (hn : pc + 1 = n) (kk : G K (mX D cI cZ (kA K) ad) cs sl n (mA S 2 j v) lv st) : G K (mX D cI cZ (kA K) ad) cs sl pc S lv (.int v :: .int i :: .ref (ad 2) :: st) := by
  subst hj
  exact m_st_2 n F hi d hn kk
theorem m_ld_3 (n : Nat) {i : Int32} (F : Fx K cc RX6 (mKf D cI cZ) fr lo) (hi : ok i 6) (d : decode cc pc = .ok (.iaload, 1)) (hn : pc + 1 = n) (kk : G K (mX D cI cZ (kA K) ad) cs sl n S lv (.int (S.2 3 i.toNatClampNeg) :: st)) : G K (mX D cI cZ (kA K) ad) cs sl pc S lv (.int i :: .ref (ad 3) :: st) := by
  subst hn
  exact fun H locs ls hX hS hls => va_iald F.1 F.2.1 F.2.2.2.2.2.1 hX.1 3 0 rfl rfl hi d (kk H locs ls hX hS hls)
theorem m_ldK_3 (n j : Nat) {i : Int32} (F : Fx K cc RX6 (mKf D cI cZ) fr lo) (hj : i.toNatClampNeg = j) (hi : ok i 6) (d : decode cc pc = .ok (.iaload, 1)) (hn : pc + 1 = n) (kk : G K (mX D cI cZ (kA K) ad) cs sl n S lv (.int (S.2 3 j) :: st)) : G K (mX D cI cZ (kA K) ad) cs sl pc S lv (.int i :: .ref (ad 3) :: st) := by
  subst hj
  exact m_ld_3 n F hi d hn kk
theorem m_st_3 (n : Nat) {i v : Int32} (F : Fx K cc RX6 (mKf D cI cZ) fr lo) (hi : ok i 6) (d : decode cc pc = .ok (.iastore, 1)) (hn : pc + 1 = n) (kk : G K (mX D cI cZ (kA K) ad) cs sl n (mA S 3 i.toNatClampNeg v) lv st) : G K (mX D cI cZ (kA K) ad) cs sl pc S lv (.int v :: .int i :: .ref (ad 3) :: st) := by
  subst hn
  exact fun H locs ls hX hS hls => va_iast F.1 F.2.1 F.2.2.2.2.2.1 hX.1 hX.2 hS 3 0 rfl rfl hi d (fun H1 locs1 hP hD hS1 => kk H1 locs1 ls ⟨hP, hD⟩ hS1 hls)
theorem m_stK_3 (n j : Nat) {i v : Int32} (F : Fx K cc RX6 (mKf D cI cZ) fr lo) (hj : i.toNatClampNeg = j) (hi : ok i 6) (d : decode cc pc = .ok (.iastore, 1)) (hn : pc + 1 = n) (kk : G K (mX D cI cZ (kA K) ad) cs sl n (mA S 3 j v) lv st) : G K (mX D cI cZ (kA K) ad) cs sl pc S lv (.int v :: .int i :: .ref (ad 3) :: st) := by
  subst hj
  exact m_st_3 n F hi d hn kk
theorem m_ld_4 (n : Nat) {i : Int32} (F : Fx K cc RX6 (mKf D cI cZ) fr lo) (hi : ok i 6) (d : decode cc pc = .ok (.iaload, 1)) (hn : pc + 1 = n) (kk : G K (mX D cI cZ (kA K) ad) cs sl n S lv (.int (S.2 4 i.toNatClampNeg) :: st)) : G K (mX D cI cZ (kA K) ad) cs sl pc S lv (.int i :: .ref (ad 4) :: st) := by
  subst hn
  exact fun H locs ls hX hS hls => va_iald F.1 F.2.1 F.2.2.2.2.2.1 hX.1 4 0 rfl rfl hi d (kk H locs ls hX hS hls)
theorem m_ldK_4 (n j : Nat) {i : Int32} (F : Fx K cc RX6 (mKf D cI cZ) fr lo) (hj : i.toNatClampNeg = j) (hi : ok i 6) (d : decode cc pc = .ok (.iaload, 1)) (hn : pc + 1 = n) (kk : G K (mX D cI cZ (kA K) ad) cs sl n S lv (.int (S.2 4 j) :: st)) : G K (mX D cI cZ (kA K) ad) cs sl pc S lv (.int i :: .ref (ad 4) :: st) := by
  subst hj
  exact m_ld_4 n F hi d hn kk
theorem m_st_4 (n : Nat) {i v : Int32} (F : Fx K cc RX6 (mKf D cI cZ) fr lo) (hi : ok i 6) (d : decode cc pc = .ok (.iastore, 1)) (hn : pc + 1 = n) (kk : G K (mX D cI cZ (kA K) ad) cs sl n (mA S 4 i.toNatClampNeg v) lv st) : G K (mX D cI cZ (kA K) ad) cs sl pc S lv (.int v :: .int i :: .ref (ad 4) :: st) := by
  subst hn
  exact fun H locs ls hX hS hls => va_iast F.1 F.2.1 F.2.2.2.2.2.1 hX.1 hX.2 hS 4 0 rfl rfl hi d (fun H1 locs1 hP hD hS1 => kk H1 locs1 ls ⟨hP, hD⟩ hS1 hls)
theorem m_stK_4 (n j : Nat) {i v : Int32} (F : Fx K cc RX6 (mKf D cI cZ) fr lo) (hj : i.toNatClampNeg = j) (hi : ok i 6) (d : decode cc pc = .ok (.iastore, 1)) (hn : pc + 1 = n) (kk : G K (mX D cI cZ (kA K) ad) cs sl n (mA S 4 j v) lv st) : G K (mX D cI cZ (kA K) ad) cs sl pc S lv (.int v :: .int i :: .ref (ad 4) :: st) := by
  subst hj
  exact m_st_4 n F hi d hn kk
theorem m_ld_5 (n : Nat) {i : Int32} (F : Fx K cc RX6 (mKf D cI cZ) fr lo) (hi : ok i 400) (d : decode cc pc = .ok (.iaload, 1)) (hn : pc + 1 = n) (kk : G K (mX D cI cZ (kA K) ad) cs sl n S lv (.int (S.2 5 i.toNatClampNeg) :: st)) : G K (mX D cI cZ (kA K) ad) cs sl pc S lv (.int i :: .ref (ad 5) :: st) := by
  subst hn
  exact fun H locs ls hX hS hls => va_iald F.1 F.2.1 F.2.2.2.2.2.1 hX.1 5 0 rfl rfl hi d (kk H locs ls hX hS hls)
theorem m_ldK_5 (n j : Nat) {i : Int32} (F : Fx K cc RX6 (mKf D cI cZ) fr lo) (hj : i.toNatClampNeg = j) (hi : ok i 400) (d : decode cc pc = .ok (.iaload, 1)) (hn : pc + 1 = n) (kk : G K (mX D cI cZ (kA K) ad) cs sl n S lv (.int (S.2 5 j) :: st)) : G K (mX D cI cZ (kA K) ad) cs sl pc S lv (.int i :: .ref (ad 5) :: st) := by
  subst hj
  exact m_ld_5 n F hi d hn kk
theorem m_st_5 (n : Nat) {i v : Int32} (F : Fx K cc RX6 (mKf D cI cZ) fr lo) (hi : ok i 400) (d : decode cc pc = .ok (.iastore, 1)) (hn : pc + 1 = n) (kk : G K (mX D cI cZ (kA K) ad) cs sl n (mA S 5 i.toNatClampNeg v) lv st) : G K (mX D cI cZ (kA K) ad) cs sl pc S lv (.int v :: .int i :: .ref (ad 5) :: st) := by
  subst hn
  exact fun H locs ls hX hS hls => va_iast F.1 F.2.1 F.2.2.2.2.2.1 hX.1 hX.2 hS 5 0 rfl rfl hi d (fun H1 locs1 hP hD hS1 => kk H1 locs1 ls ⟨hP, hD⟩ hS1 hls)
theorem m_stK_5 (n j : Nat) {i v : Int32} (F : Fx K cc RX6 (mKf D cI cZ) fr lo) (hj : i.toNatClampNeg = j) (hi : ok i 400) (d : decode cc pc = .ok (.iastore, 1)) (hn : pc + 1 = n) (kk : G K (mX D cI cZ (kA K) ad) cs sl n (mA S 5 j v) lv st) : G K (mX D cI cZ (kA K) ad) cs sl pc S lv (.int v :: .int i :: .ref (ad 5) :: st) := by
  subst hj
  exact m_st_5 n F hi d hn kk
theorem m_ld_13 (n : Nat) {i : Int32} (F : Fx K cc RX6 (mKf D cI cZ) fr lo) (hi : ok i 6) (d : decode cc pc = .ok (.iaload, 1)) (hn : pc + 1 = n) (kk : G K (mX D cI cZ (kA K) ad) cs sl n S lv (.int (S.2 13 i.toNatClampNeg) :: st)) : G K (mX D cI cZ (kA K) ad) cs sl pc S lv (.int i :: .ref (ad 13) :: st) := by
  subst hn
  exact fun H locs ls hX hS hls => va_iald F.1 F.2.1 F.2.2.2.2.2.1 hX.1 6 0 rfl rfl hi d (kk H locs ls hX hS hls)
theorem m_ldK_13 (n j : Nat) {i : Int32} (F : Fx K cc RX6 (mKf D cI cZ) fr lo) (hj : i.toNatClampNeg = j) (hi : ok i 6) (d : decode cc pc = .ok (.iaload, 1)) (hn : pc + 1 = n) (kk : G K (mX D cI cZ (kA K) ad) cs sl n S lv (.int (S.2 13 j) :: st)) : G K (mX D cI cZ (kA K) ad) cs sl pc S lv (.int i :: .ref (ad 13) :: st) := by
  subst hj
  exact m_ld_13 n F hi d hn kk
theorem m_st_13 (n : Nat) {i v : Int32} (F : Fx K cc RX6 (mKf D cI cZ) fr lo) (hi : ok i 6) (d : decode cc pc = .ok (.iastore, 1)) (hn : pc + 1 = n) (kk : G K (mX D cI cZ (kA K) ad) cs sl n (mA S 13 i.toNatClampNeg v) lv st) : G K (mX D cI cZ (kA K) ad) cs sl pc S lv (.int v :: .int i :: .ref (ad 13) :: st) := by
  subst hn
  exact fun H locs ls hX hS hls => va_iast F.1 F.2.1 F.2.2.2.2.2.1 hX.1 hX.2 hS 6 0 rfl rfl hi d (fun H1 locs1 hP hD hS1 => kk H1 locs1 ls ⟨hP, hD⟩ hS1 hls)
theorem m_stK_13 (n j : Nat) {i v : Int32} (F : Fx K cc RX6 (mKf D cI cZ) fr lo) (hj : i.toNatClampNeg = j) (hi : ok i 6) (d : decode cc pc = .ok (.iastore, 1)) (hn : pc + 1 = n) (kk : G K (mX D cI cZ (kA K) ad) cs sl n (mA S 13 j v) lv st) : G K (mX D cI cZ (kA K) ad) cs sl pc S lv (.int v :: .int i :: .ref (ad 13) :: st) := by
  subst hj
  exact m_st_13 n F hi d hn kk
theorem m_ld_14 (n : Nat) {i : Int32} (F : Fx K cc RX6 (mKf D cI cZ) fr lo) (hi : ok i 61) (d : decode cc pc = .ok (.baload, 1)) (hn : pc + 1 = n) (kk : G K (mX D cI cZ (kA K) ad) cs sl n S lv (.int (S.2 14 i.toNatClampNeg) :: st)) : G K (mX D cI cZ (kA K) ad) cs sl pc S lv (.int i :: .ref (ad 14) :: st) := by
  subst hn
  exact fun H locs ls hX hS hls => va_zald F.1 F.2.1 F.2.2.2.2.2.1 hX.1 7 1 rfl rfl hi d (kk H locs ls hX hS hls)
theorem m_ldK_14 (n j : Nat) {i : Int32} (F : Fx K cc RX6 (mKf D cI cZ) fr lo) (hj : i.toNatClampNeg = j) (hi : ok i 61) (d : decode cc pc = .ok (.baload, 1)) (hn : pc + 1 = n) (kk : G K (mX D cI cZ (kA K) ad) cs sl n S lv (.int (S.2 14 j) :: st)) : G K (mX D cI cZ (kA K) ad) cs sl pc S lv (.int i :: .ref (ad 14) :: st) := by
  subst hj
  exact m_ld_14 n F hi d hn kk
theorem m_st_14 (n : Nat) {i v : Int32} (F : Fx K cc RX6 (mKf D cI cZ) fr lo) (hi : ok i 61) (d : decode cc pc = .ok (.bastore, 1)) (hn : pc + 1 = n) (kk : G K (mX D cI cZ (kA K) ad) cs sl n (mA S 14 i.toNatClampNeg (vp_nar .boolean v)) lv st) : G K (mX D cI cZ (kA K) ad) cs sl pc S lv (.int v :: .int i :: .ref (ad 14) :: st) := by
  subst hn
  exact fun H locs ls hX hS hls => va_zast F.1 F.2.1 F.2.2.2.2.2.1 hX.1 hX.2 hS 7 1 rfl rfl hi d (fun H1 locs1 hP hD hS1 => kk H1 locs1 ls ⟨hP, hD⟩ hS1 hls)
theorem m_stK_14 (n j : Nat) {i v : Int32} (F : Fx K cc RX6 (mKf D cI cZ) fr lo) (hj : i.toNatClampNeg = j) (hi : ok i 61) (d : decode cc pc = .ok (.bastore, 1)) (hn : pc + 1 = n) (kk : G K (mX D cI cZ (kA K) ad) cs sl n (mA S 14 j (vp_nar .boolean v)) lv st) : G K (mX D cI cZ (kA K) ad) cs sl pc S lv (.int v :: .int i :: .ref (ad 14) :: st) := by
  subst hj
  exact m_st_14 n F hi d hn kk
theorem m_ld_15 (n : Nat) {i : Int32} (F : Fx K cc RX6 (mKf D cI cZ) fr lo) (hi : ok i 61) (d : decode cc pc = .ok (.baload, 1)) (hn : pc + 1 = n) (kk : G K (mX D cI cZ (kA K) ad) cs sl n S lv (.int (S.2 15 i.toNatClampNeg) :: st)) : G K (mX D cI cZ (kA K) ad) cs sl pc S lv (.int i :: .ref (ad 15) :: st) := by
  subst hn
  exact fun H locs ls hX hS hls => va_zald F.1 F.2.1 F.2.2.2.2.2.1 hX.1 8 1 rfl rfl hi d (kk H locs ls hX hS hls)
theorem m_ldK_15 (n j : Nat) {i : Int32} (F : Fx K cc RX6 (mKf D cI cZ) fr lo) (hj : i.toNatClampNeg = j) (hi : ok i 61) (d : decode cc pc = .ok (.baload, 1)) (hn : pc + 1 = n) (kk : G K (mX D cI cZ (kA K) ad) cs sl n S lv (.int (S.2 15 j) :: st)) : G K (mX D cI cZ (kA K) ad) cs sl pc S lv (.int i :: .ref (ad 15) :: st) := by
  subst hj
  exact m_ld_15 n F hi d hn kk
theorem m_st_15 (n : Nat) {i v : Int32} (F : Fx K cc RX6 (mKf D cI cZ) fr lo) (hi : ok i 61) (d : decode cc pc = .ok (.bastore, 1)) (hn : pc + 1 = n) (kk : G K (mX D cI cZ (kA K) ad) cs sl n (mA S 15 i.toNatClampNeg (vp_nar .boolean v)) lv st) : G K (mX D cI cZ (kA K) ad) cs sl pc S lv (.int v :: .int i :: .ref (ad 15) :: st) := by
  subst hn
  exact fun H locs ls hX hS hls => va_zast F.1 F.2.1 F.2.2.2.2.2.1 hX.1 hX.2 hS 8 1 rfl rfl hi d (fun H1 locs1 hP hD hS1 => kk H1 locs1 ls ⟨hP, hD⟩ hS1 hls)
theorem m_stK_15 (n j : Nat) {i v : Int32} (F : Fx K cc RX6 (mKf D cI cZ) fr lo) (hj : i.toNatClampNeg = j) (hi : ok i 61) (d : decode cc pc = .ok (.bastore, 1)) (hn : pc + 1 = n) (kk : G K (mX D cI cZ (kA K) ad) cs sl n (mA S 15 j (vp_nar .boolean v)) lv st) : G K (mX D cI cZ (kA K) ad) cs sl pc S lv (.int v :: .int i :: .ref (ad 15) :: st) := by
  subst hj
  exact m_st_15 n F hi d hn kk
theorem m_ld_16 (n : Nat) {i : Int32} (F : Fx K cc RX6 (mKf D cI cZ) fr lo) (hi : ok i 61) (d : decode cc pc = .ok (.iaload, 1)) (hn : pc + 1 = n) (kk : G K (mX D cI cZ (kA K) ad) cs sl n S lv (.int (S.2 16 i.toNatClampNeg) :: st)) : G K (mX D cI cZ (kA K) ad) cs sl pc S lv (.int i :: .ref (ad 16) :: st) := by
  subst hn
  exact fun H locs ls hX hS hls => va_iald F.1 F.2.1 F.2.2.2.2.2.1 hX.1 9 0 rfl rfl hi d (kk H locs ls hX hS hls)
theorem m_ldK_16 (n j : Nat) {i : Int32} (F : Fx K cc RX6 (mKf D cI cZ) fr lo) (hj : i.toNatClampNeg = j) (hi : ok i 61) (d : decode cc pc = .ok (.iaload, 1)) (hn : pc + 1 = n) (kk : G K (mX D cI cZ (kA K) ad) cs sl n S lv (.int (S.2 16 j) :: st)) : G K (mX D cI cZ (kA K) ad) cs sl pc S lv (.int i :: .ref (ad 16) :: st) := by
  subst hj
  exact m_ld_16 n F hi d hn kk
theorem m_st_16 (n : Nat) {i v : Int32} (F : Fx K cc RX6 (mKf D cI cZ) fr lo) (hi : ok i 61) (d : decode cc pc = .ok (.iastore, 1)) (hn : pc + 1 = n) (kk : G K (mX D cI cZ (kA K) ad) cs sl n (mA S 16 i.toNatClampNeg v) lv st) : G K (mX D cI cZ (kA K) ad) cs sl pc S lv (.int v :: .int i :: .ref (ad 16) :: st) := by
  subst hn
  exact fun H locs ls hX hS hls => va_iast F.1 F.2.1 F.2.2.2.2.2.1 hX.1 hX.2 hS 9 0 rfl rfl hi d (fun H1 locs1 hP hD hS1 => kk H1 locs1 ls ⟨hP, hD⟩ hS1 hls)
theorem m_stK_16 (n j : Nat) {i v : Int32} (F : Fx K cc RX6 (mKf D cI cZ) fr lo) (hj : i.toNatClampNeg = j) (hi : ok i 61) (d : decode cc pc = .ok (.iastore, 1)) (hn : pc + 1 = n) (kk : G K (mX D cI cZ (kA K) ad) cs sl n (mA S 16 j v) lv st) : G K (mX D cI cZ (kA K) ad) cs sl pc S lv (.int v :: .int i :: .ref (ad 16) :: st) := by
  subst hj
  exact m_st_16 n F hi d hn kk
end MRows
end

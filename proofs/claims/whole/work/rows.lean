section
-- ===== PART A: goes FIRST, ahead of the names: the tables' words, and 'selects' of the private methods out of them =====
/-- a private method of a class that the tables say can be made, by its rows of tables_1 -/
def lw_okq (q : MethodName × Nat) : Prop := (q.1.cls ≠ "java/lang/invoke/MethodHandle" ∧ q.1.cls ≠ "java/lang/invoke/VarHandle") ∧ Cond.instantiable q.1.cls q.2 ∈ tables_1 ∧ Cond.privateMethod q.1 ∈ tables_1 ∧ Cond.instanceMethod q.1 ∈ tables_1
theorem lw_p0 : lw_okq (⟨"ScansionDesk", "refuse", "(I)I"⟩, 20) := ⟨⟨by decide +kernel, by decide +kernel⟩, List.mem_of_getElem? (i := 22) (by decide +kernel), List.mem_of_getElem? (i := 363) (by decide +kernel), List.mem_of_getElem? (i := 364) (by decide +kernel)⟩
theorem lw_p1 : lw_okq (⟨"ScansionDesk", "accept", "(I)I"⟩, 20) := ⟨⟨by decide +kernel, by decide +kernel⟩, List.mem_of_getElem? (i := 22) (by decide +kernel), List.mem_of_getElem? (i := 372) (by decide +kernel), List.mem_of_getElem? (i := 373) (by decide +kernel)⟩
theorem lw_p2 : lw_okq (⟨"ScansionDesk$Scansion", "judge", "(LScansionDesk$Clauses;II)V"⟩, 11) := ⟨⟨by decide +kernel, by decide +kernel⟩, List.mem_of_getElem? (i := 250) (by decide +kernel), List.mem_of_getElem? (i := 404) (by decide +kernel), List.mem_of_getElem? (i := 405) (by decide +kernel)⟩
theorem lw_p3 : lw_okq (⟨"ScansionDesk$Tokens", "addToken", "(III)V"⟩, 6) := ⟨⟨by decide +kernel, by decide +kernel⟩, List.mem_of_getElem? (i := 118) (by decide +kernel), List.mem_of_getElem? (i := 545) (by decide +kernel), List.mem_of_getElem? (i := 546) (by decide +kernel)⟩
theorem lw_p4 : lw_okq (⟨"ScansionDesk$MetreReader", "readMetre", "(LScansionDesk$Tokens;II)I"⟩, 11) := ⟨⟨by decide +kernel, by decide +kernel⟩, List.mem_of_getElem? (i := 148) (by decide +kernel), List.mem_of_getElem? (i := 558) (by decide +kernel), List.mem_of_getElem? (i := 559) (by decide +kernel)⟩
theorem lw_p5 : lw_okq (⟨"ScansionDesk$MetreReader", "readChoice", "(LScansionDesk$Tokens;II)I"⟩, 11) := ⟨⟨by decide +kernel, by decide +kernel⟩, List.mem_of_getElem? (i := 148) (by decide +kernel), List.mem_of_getElem? (i := 562) (by decide +kernel), List.mem_of_getElem? (i := 563) (by decide +kernel)⟩
theorem lw_p6 : lw_okq (⟨"ScansionDesk$MetreReader", "readUnit", "(LScansionDesk$Tokens;II)I"⟩, 11) := ⟨⟨by decide +kernel, by decide +kernel⟩, List.mem_of_getElem? (i := 148) (by decide +kernel), List.mem_of_getElem? (i := 566) (by decide +kernel), List.mem_of_getElem? (i := 567) (by decide +kernel)⟩
theorem lw_p7 : lw_okq (⟨"ScansionDesk$MetreReader", "addNode", "(III)I"⟩, 11) := ⟨⟨by decide +kernel, by decide +kernel⟩, List.mem_of_getElem? (i := 148) (by decide +kernel), List.mem_of_getElem? (i := 602) (by decide +kernel), List.mem_of_getElem? (i := 603) (by decide +kernel)⟩
theorem lw_p8 : lw_okq (⟨"ScansionDesk$MetreReader", "writeMetre", "(LScansionDesk$Tokens;III)I"⟩, 11) := ⟨⟨by decide +kernel, by decide +kernel⟩, List.mem_of_getElem? (i := 148) (by decide +kernel), List.mem_of_getElem? (i := 610) (by decide +kernel), List.mem_of_getElem? (i := 611) (by decide +kernel)⟩
theorem lw_p9 : lw_okq (⟨"ScansionDesk$MetreReader", "writeChoice", "(LScansionDesk$Tokens;III)I"⟩, 11) := ⟨⟨by decide +kernel, by decide +kernel⟩, List.mem_of_getElem? (i := 148) (by decide +kernel), List.mem_of_getElem? (i := 614) (by decide +kernel), List.mem_of_getElem? (i := 615) (by decide +kernel)⟩
theorem lw_p10 : lw_okq (⟨"ScansionDesk$ClauseReader", "readClause", "(LScansionDesk$Tokens;I)V"⟩, 3) := ⟨⟨by decide +kernel, by decide +kernel⟩, List.mem_of_getElem? (i := 188) (by decide +kernel), List.mem_of_getElem? (i := 676) (by decide +kernel), List.mem_of_getElem? (i := 677) (by decide +kernel)⟩
theorem lw_p11 : lw_okq (⟨"ScansionDesk$ClauseReader", "readSum", "(LScansionDesk$Tokens;I)V"⟩, 3) := ⟨⟨by decide +kernel, by decide +kernel⟩, List.mem_of_getElem? (i := 188) (by decide +kernel), List.mem_of_getElem? (i := 687) (by decide +kernel), List.mem_of_getElem? (i := 688) (by decide +kernel)⟩
theorem lw_p12 : lw_okq (⟨"ScansionDesk$ClauseReader", "readPart", "(LScansionDesk$Tokens;I)V"⟩, 3) := ⟨⟨by decide +kernel, by decide +kernel⟩, List.mem_of_getElem? (i := 188) (by decide +kernel), List.mem_of_getElem? (i := 691) (by decide +kernel), List.mem_of_getElem? (i := 692) (by decide +kernel)⟩
theorem lw_p13 : lw_okq (⟨"ScansionDesk$ClauseReader", "readOrderWord", "(LScansionDesk$Tokens;)V"⟩, 3) := ⟨⟨by decide +kernel, by decide +kernel⟩, List.mem_of_getElem? (i := 188) (by decide +kernel), List.mem_of_getElem? (i := 701) (by decide +kernel), List.mem_of_getElem? (i := 702) (by decide +kernel)⟩
theorem lw_p14 : lw_okq (⟨"ScansionDesk$ClauseReader", "readLawWord", "(LScansionDesk$Tokens;)V"⟩, 3) := ⟨⟨by decide +kernel, by decide +kernel⟩, List.mem_of_getElem? (i := 188) (by decide +kernel), List.mem_of_getElem? (i := 705) (by decide +kernel), List.mem_of_getElem? (i := 706) (by decide +kernel)⟩
theorem lw_p15 : lw_okq (⟨"ScansionDesk$ClauseReader", "readTimes", "(LScansionDesk$Tokens;I)V"⟩, 3) := ⟨⟨by decide +kernel, by decide +kernel⟩, List.mem_of_getElem? (i := 188) (by decide +kernel), List.mem_of_getElem? (i := 712) (by decide +kernel), List.mem_of_getElem? (i := 713) (by decide +kernel)⟩
def lw_privs_1 : List (MethodName × Nat) := [(⟨"ScansionDesk", "refuse", "(I)I"⟩, 20), (⟨"ScansionDesk", "accept", "(I)I"⟩, 20), (⟨"ScansionDesk$Scansion", "judge", "(LScansionDesk$Clauses;II)V"⟩, 11), (⟨"ScansionDesk$Tokens", "addToken", "(III)V"⟩, 6), (⟨"ScansionDesk$MetreReader", "readMetre", "(LScansionDesk$Tokens;II)I"⟩, 11), (⟨"ScansionDesk$MetreReader", "readChoice", "(LScansionDesk$Tokens;II)I"⟩, 11), (⟨"ScansionDesk$MetreReader", "readUnit", "(LScansionDesk$Tokens;II)I"⟩, 11), (⟨"ScansionDesk$MetreReader", "addNode", "(III)I"⟩, 11), (⟨"ScansionDesk$MetreReader", "writeMetre", "(LScansionDesk$Tokens;III)I"⟩, 11), (⟨"ScansionDesk$MetreReader", "writeChoice", "(LScansionDesk$Tokens;III)I"⟩, 11), (⟨"ScansionDesk$ClauseReader", "readClause", "(LScansionDesk$Tokens;I)V"⟩, 3), (⟨"ScansionDesk$ClauseReader", "readSum", "(LScansionDesk$Tokens;I)V"⟩, 3), (⟨"ScansionDesk$ClauseReader", "readPart", "(LScansionDesk$Tokens;I)V"⟩, 3), (⟨"ScansionDesk$ClauseReader", "readOrderWord", "(LScansionDesk$Tokens;)V"⟩, 3), (⟨"ScansionDesk$ClauseReader", "readLawWord", "(LScansionDesk$Tokens;)V"⟩, 3), (⟨"ScansionDesk$ClauseReader", "readTimes", "(LScansionDesk$Tokens;I)V"⟩, 3)]
theorem lw_r1 : ∀ q ∈ lw_privs_1, lw_okq q := List.forall_mem_cons.mpr ⟨lw_p0, List.forall_mem_cons.mpr ⟨lw_p1, List.forall_mem_cons.mpr ⟨lw_p2, List.forall_mem_cons.mpr ⟨lw_p3, List.forall_mem_cons.mpr ⟨lw_p4, List.forall_mem_cons.mpr ⟨lw_p5, List.forall_mem_cons.mpr ⟨lw_p6, List.forall_mem_cons.mpr ⟨lw_p7, List.forall_mem_cons.mpr ⟨lw_p8, List.forall_mem_cons.mpr ⟨lw_p9, List.forall_mem_cons.mpr ⟨lw_p10, List.forall_mem_cons.mpr ⟨lw_p11, List.forall_mem_cons.mpr ⟨lw_p12, List.forall_mem_cons.mpr ⟨lw_p13, List.forall_mem_cons.mpr ⟨lw_p14, List.forall_mem_cons.mpr ⟨lw_p15, fun _ h => absurd h List.not_mem_nil⟩⟩⟩⟩⟩⟩⟩⟩⟩⟩⟩⟩⟩⟩⟩⟩
theorem lw_p16 : lw_okq (⟨"ScansionDesk$ClauseReader", "readTest", "(LScansionDesk$Tokens;I)V"⟩, 3) := ⟨⟨by decide +kernel, by decide +kernel⟩, List.mem_of_getElem? (i := 188) (by decide +kernel), List.mem_of_getElem? (i := 716) (by decide +kernel), List.mem_of_getElem? (i := 717) (by decide +kernel)⟩
theorem lw_p17 : lw_okq (⟨"ScansionDesk", "setOrderWords", "(Z)V"⟩, 20) := ⟨⟨by decide +kernel, by decide +kernel⟩, List.mem_of_getElem? (i := 22) (by decide +kernel), List.mem_of_getElem? (i := 756) (by decide +kernel), List.mem_of_getElem? (i := 757) (by decide +kernel)⟩
theorem lw_p18 : lw_okq (⟨"ScansionDesk", "fittingMetres", "(LScansionDesk$State;)I"⟩, 20) := ⟨⟨by decide +kernel, by decide +kernel⟩, List.mem_of_getElem? (i := 22) (by decide +kernel), List.mem_of_getElem? (i := 760) (by decide +kernel), List.mem_of_getElem? (i := 761) (by decide +kernel)⟩
theorem lw_p19 : lw_okq (⟨"ScansionDesk", "takingMetres", "(LScansionDesk$State;)I"⟩, 20) := ⟨⟨by decide +kernel, by decide +kernel⟩, List.mem_of_getElem? (i := 22) (by decide +kernel), List.mem_of_getElem? (i := 764) (by decide +kernel), List.mem_of_getElem? (i := 765) (by decide +kernel)⟩
theorem lw_p20 : lw_okq (⟨"ScansionDesk$Scansion", "flowThrough", "(LScansionDesk$Metre;)V"⟩, 11) := ⟨⟨by decide +kernel, by decide +kernel⟩, List.mem_of_getElem? (i := 250) (by decide +kernel), List.mem_of_getElem? (i := 776) (by decide +kernel), List.mem_of_getElem? (i := 777) (by decide +kernel)⟩
theorem lw_p21 : lw_okq (⟨"ScansionDesk$Scansion", "spread", "(II)V"⟩, 11) := ⟨⟨by decide +kernel, by decide +kernel⟩, List.mem_of_getElem? (i := 250) (by decide +kernel), List.mem_of_getElem? (i := 780) (by decide +kernel), List.mem_of_getElem? (i := 781) (by decide +kernel)⟩
theorem lw_p22 : lw_okq (⟨"ScansionDesk$Scansion", "withElided", "(I)I"⟩, 11) := ⟨⟨by decide +kernel, by decide +kernel⟩, List.mem_of_getElem? (i := 250) (by decide +kernel), List.mem_of_getElem? (i := 784) (by decide +kernel), List.mem_of_getElem? (i := 785) (by decide +kernel)⟩
theorem lw_p23 : lw_okq (⟨"ScansionDesk", "runOnce", "(LScansionDesk$Clauses;I)Z"⟩, 20) := ⟨⟨by decide +kernel, by decide +kernel⟩, List.mem_of_getElem? (i := 22) (by decide +kernel), List.mem_of_getElem? (i := 789) (by decide +kernel), List.mem_of_getElem? (i := 790) (by decide +kernel)⟩
theorem lw_p24 : lw_okq (⟨"ScansionDesk", "tryWeigh", "(II)I"⟩, 20) := ⟨⟨by decide +kernel, by decide +kernel⟩, List.mem_of_getElem? (i := 22) (by decide +kernel), List.mem_of_getElem? (i := 794) (by decide +kernel), List.mem_of_getElem? (i := 795) (by decide +kernel)⟩
theorem lw_p25 : lw_okq (⟨"ScansionDesk$History", "dropOldest", "()V"⟩, 4) := ⟨⟨by decide +kernel, by decide +kernel⟩, List.mem_of_getElem? (i := 83) (by decide +kernel), List.mem_of_getElem? (i := 806) (by decide +kernel), List.mem_of_getElem? (i := 807) (by decide +kernel)⟩
theorem lw_p26 : lw_okq (⟨"ScansionDesk", "tryTurn", "(II)I"⟩, 20) := ⟨⟨by decide +kernel, by decide +kernel⟩, List.mem_of_getElem? (i := 22) (by decide +kernel), List.mem_of_getElem? (i := 810) (by decide +kernel), List.mem_of_getElem? (i := 811) (by decide +kernel)⟩
theorem lw_p27 : lw_okq (⟨"ScansionDesk", "tryPass", "()I"⟩, 20) := ⟨⟨by decide +kernel, by decide +kernel⟩, List.mem_of_getElem? (i := 22) (by decide +kernel), List.mem_of_getElem? (i := 820) (by decide +kernel), List.mem_of_getElem? (i := 821) (by decide +kernel)⟩
theorem lw_p28 : lw_okq (⟨"ScansionDesk", "settle", "(I)I"⟩, 20) := ⟨⟨by decide +kernel, by decide +kernel⟩, List.mem_of_getElem? (i := 22) (by decide +kernel), List.mem_of_getElem? (i := 846) (by decide +kernel), List.mem_of_getElem? (i := 847) (by decide +kernel)⟩
theorem lw_p29 : lw_okq (⟨"ScansionDesk$History", "latestIn", "([I)I"⟩, 4) := ⟨⟨by decide +kernel, by decide +kernel⟩, List.mem_of_getElem? (i := 83) (by decide +kernel), List.mem_of_getElem? (i := 870) (by decide +kernel), List.mem_of_getElem? (i := 871) (by decide +kernel)⟩
theorem lw_p30 : lw_okq (⟨"ScansionDesk", "bestReading", "(II)J"⟩, 20) := ⟨⟨by decide +kernel, by decide +kernel⟩, List.mem_of_getElem? (i := 22) (by decide +kernel), List.mem_of_getElem? (i := 890) (by decide +kernel), List.mem_of_getElem? (i := 891) (by decide +kernel)⟩
theorem lw_p31 : lw_okq (⟨"ScansionDesk$Scansion", "setPrices", "(I)V"⟩, 11) := ⟨⟨by decide +kernel, by decide +kernel⟩, List.mem_of_getElem? (i := 250) (by decide +kernel), List.mem_of_getElem? (i := 899) (by decide +kernel), List.mem_of_getElem? (i := 900) (by decide +kernel)⟩
def lw_privs_2 : List (MethodName × Nat) := [(⟨"ScansionDesk$ClauseReader", "readTest", "(LScansionDesk$Tokens;I)V"⟩, 3), (⟨"ScansionDesk", "setOrderWords", "(Z)V"⟩, 20), (⟨"ScansionDesk", "fittingMetres", "(LScansionDesk$State;)I"⟩, 20), (⟨"ScansionDesk", "takingMetres", "(LScansionDesk$State;)I"⟩, 20), (⟨"ScansionDesk$Scansion", "flowThrough", "(LScansionDesk$Metre;)V"⟩, 11), (⟨"ScansionDesk$Scansion", "spread", "(II)V"⟩, 11), (⟨"ScansionDesk$Scansion", "withElided", "(I)I"⟩, 11), (⟨"ScansionDesk", "runOnce", "(LScansionDesk$Clauses;I)Z"⟩, 20), (⟨"ScansionDesk", "tryWeigh", "(II)I"⟩, 20), (⟨"ScansionDesk$History", "dropOldest", "()V"⟩, 4), (⟨"ScansionDesk", "tryTurn", "(II)I"⟩, 20), (⟨"ScansionDesk", "tryPass", "()I"⟩, 20), (⟨"ScansionDesk", "settle", "(I)I"⟩, 20), (⟨"ScansionDesk$History", "latestIn", "([I)I"⟩, 4), (⟨"ScansionDesk", "bestReading", "(II)J"⟩, 20), (⟨"ScansionDesk$Scansion", "setPrices", "(I)V"⟩, 11)]
theorem lw_r2 : ∀ q ∈ lw_privs_2, lw_okq q := List.forall_mem_cons.mpr ⟨lw_p16, List.forall_mem_cons.mpr ⟨lw_p17, List.forall_mem_cons.mpr ⟨lw_p18, List.forall_mem_cons.mpr ⟨lw_p19, List.forall_mem_cons.mpr ⟨lw_p20, List.forall_mem_cons.mpr ⟨lw_p21, List.forall_mem_cons.mpr ⟨lw_p22, List.forall_mem_cons.mpr ⟨lw_p23, List.forall_mem_cons.mpr ⟨lw_p24, List.forall_mem_cons.mpr ⟨lw_p25, List.forall_mem_cons.mpr ⟨lw_p26, List.forall_mem_cons.mpr ⟨lw_p27, List.forall_mem_cons.mpr ⟨lw_p28, List.forall_mem_cons.mpr ⟨lw_p29, List.forall_mem_cons.mpr ⟨lw_p30, List.forall_mem_cons.mpr ⟨lw_p31, fun _ h => absurd h List.not_mem_nil⟩⟩⟩⟩⟩⟩⟩⟩⟩⟩⟩⟩⟩⟩⟩⟩
theorem lw_p32 : lw_okq (⟨"ScansionDesk$Scansion", "priceByCost", "(II)J"⟩, 11) := ⟨⟨by decide +kernel, by decide +kernel⟩, List.mem_of_getElem? (i := 250) (by decide +kernel), List.mem_of_getElem? (i := 905) (by decide +kernel), List.mem_of_getElem? (i := 906) (by decide +kernel)⟩
theorem lw_p33 : lw_okq (⟨"ScansionDesk$Scansion", "leastFrom", "(LScansionDesk$Metre;II)J"⟩, 11) := ⟨⟨by decide +kernel, by decide +kernel⟩, List.mem_of_getElem? (i := 250) (by decide +kernel), List.mem_of_getElem? (i := 910) (by decide +kernel), List.mem_of_getElem? (i := 911) (by decide +kernel)⟩
theorem lw_p34 : lw_okq (⟨"ScansionDesk$Scansion", "priceOf", "(II)J"⟩, 11) := ⟨⟨by decide +kernel, by decide +kernel⟩, List.mem_of_getElem? (i := 250) (by decide +kernel), List.mem_of_getElem? (i := 914) (by decide +kernel), List.mem_of_getElem? (i := 915) (by decide +kernel)⟩
theorem lw_p35 : lw_okq (⟨"ScansionDesk", "fewestBy", "(II)I"⟩, 20) := ⟨⟨by decide +kernel, by decide +kernel⟩, List.mem_of_getElem? (i := 22) (by decide +kernel), List.mem_of_getElem? (i := 934) (by decide +kernel), List.mem_of_getElem? (i := 935) (by decide +kernel)⟩
theorem lw_p36 : lw_okq (⟨"ScansionDesk", "mostAlike", "(I)I"⟩, 20) := ⟨⟨by decide +kernel, by decide +kernel⟩, List.mem_of_getElem? (i := 22) (by decide +kernel), List.mem_of_getElem? (i := 992) (by decide +kernel), List.mem_of_getElem? (i := 993) (by decide +kernel)⟩
theorem lw_p37 : lw_okq (⟨"ScansionDeskModel", "tell", "(I)I"⟩, 72) := ⟨⟨by decide +kernel, by decide +kernel⟩, List.mem_of_getElem? (i := 1043) (by decide +kernel), List.mem_of_getElem? (i := 1294) (by decide +kernel), List.mem_of_getElem? (i := 1295) (by decide +kernel)⟩
theorem lw_p38 : lw_okq (⟨"ScansionDeskModel", "putBack", "(I)V"⟩, 72) := ⟨⟨by decide +kernel, by decide +kernel⟩, List.mem_of_getElem? (i := 1043) (by decide +kernel), List.mem_of_getElem? (i := 1298) (by decide +kernel), List.mem_of_getElem? (i := 1299) (by decide +kernel)⟩
theorem lw_p39 : lw_okq (⟨"ScansionDeskModel", "lasting", "(I)I"⟩, 72) := ⟨⟨by decide +kernel, by decide +kernel⟩, List.mem_of_getElem? (i := 1043) (by decide +kernel), List.mem_of_getElem? (i := 1313) (by decide +kernel), List.mem_of_getElem? (i := 1314) (by decide +kernel)⟩
theorem lw_p40 : lw_okq (⟨"ScansionDeskModel", "comes", "(III)I"⟩, 72) := ⟨⟨by decide +kernel, by decide +kernel⟩, List.mem_of_getElem? (i := 1043) (by decide +kernel), List.mem_of_getElem? (i := 1321) (by decide +kernel), List.mem_of_getElem? (i := 1322) (by decide +kernel)⟩
theorem lw_p41 : lw_okq (⟨"ScansionDeskModel", "isSyllable", "(I)Z"⟩, 72) := ⟨⟨by decide +kernel, by decide +kernel⟩, List.mem_of_getElem? (i := 1043) (by decide +kernel), List.mem_of_getElem? (i := 1330) (by decide +kernel), List.mem_of_getElem? (i := 1331) (by decide +kernel)⟩
theorem lw_p42 : lw_okq (⟨"ScansionDeskModel", "canRead", "(II)Z"⟩, 72) := ⟨⟨by decide +kernel, by decide +kernel⟩, List.mem_of_getElem? (i := 1043) (by decide +kernel), List.mem_of_getElem? (i := 1336) (by decide +kernel), List.mem_of_getElem? (i := 1337) (by decide +kernel)⟩
theorem lw_p43 : lw_okq (⟨"ScansionDeskModel", "tells", "(IIIJ)J"⟩, 72) := ⟨⟨by decide +kernel, by decide +kernel⟩, List.mem_of_getElem? (i := 1043) (by decide +kernel), List.mem_of_getElem? (i := 1340) (by decide +kernel), List.mem_of_getElem? (i := 1341) (by decide +kernel)⟩
theorem lw_p44 : lw_okq (⟨"ScansionDeskModel", "isSo", "(I)Z"⟩, 72) := ⟨⟨by decide +kernel, by decide +kernel⟩, List.mem_of_getElem? (i := 1043) (by decide +kernel), List.mem_of_getElem? (i := 1344) (by decide +kernel), List.mem_of_getElem? (i := 1345) (by decide +kernel)⟩
theorem lw_p45 : lw_okq (⟨"ScansionDeskModel", "reckonAll", "(II)V"⟩, 72) := ⟨⟨by decide +kernel, by decide +kernel⟩, List.mem_of_getElem? (i := 1043) (by decide +kernel), List.mem_of_getElem? (i := 1348) (by decide +kernel), List.mem_of_getElem? (i := 1349) (by decide +kernel)⟩
theorem lw_p46 : lw_okq (⟨"ScansionDeskModel", "isMetre", "(I)Z"⟩, 72) := ⟨⟨by decide +kernel, by decide +kernel⟩, List.mem_of_getElem? (i := 1043) (by decide +kernel), List.mem_of_getElem? (i := 1352) (by decide +kernel), List.mem_of_getElem? (i := 1353) (by decide +kernel)⟩
theorem lw_p47 : lw_okq (⟨"ScansionDeskModel", "reckon", "(IJJ)J"⟩, 72) := ⟨⟨by decide +kernel, by decide +kernel⟩, List.mem_of_getElem? (i := 1043) (by decide +kernel), List.mem_of_getElem? (i := 1357) (by decide +kernel), List.mem_of_getElem? (i := 1358) (by decide +kernel)⟩
def lw_privs_3 : List (MethodName × Nat) := [(⟨"ScansionDesk$Scansion", "priceByCost", "(II)J"⟩, 11), (⟨"ScansionDesk$Scansion", "leastFrom", "(LScansionDesk$Metre;II)J"⟩, 11), (⟨"ScansionDesk$Scansion", "priceOf", "(II)J"⟩, 11), (⟨"ScansionDesk", "fewestBy", "(II)I"⟩, 20), (⟨"ScansionDesk", "mostAlike", "(I)I"⟩, 20), (⟨"ScansionDeskModel", "tell", "(I)I"⟩, 72), (⟨"ScansionDeskModel", "putBack", "(I)V"⟩, 72), (⟨"ScansionDeskModel", "lasting", "(I)I"⟩, 72), (⟨"ScansionDeskModel", "comes", "(III)I"⟩, 72), (⟨"ScansionDeskModel", "isSyllable", "(I)Z"⟩, 72), (⟨"ScansionDeskModel", "canRead", "(II)Z"⟩, 72), (⟨"ScansionDeskModel", "tells", "(IIIJ)J"⟩, 72), (⟨"ScansionDeskModel", "isSo", "(I)Z"⟩, 72), (⟨"ScansionDeskModel", "reckonAll", "(II)V"⟩, 72), (⟨"ScansionDeskModel", "isMetre", "(I)Z"⟩, 72), (⟨"ScansionDeskModel", "reckon", "(IJJ)J"⟩, 72)]
theorem lw_r3 : ∀ q ∈ lw_privs_3, lw_okq q := List.forall_mem_cons.mpr ⟨lw_p32, List.forall_mem_cons.mpr ⟨lw_p33, List.forall_mem_cons.mpr ⟨lw_p34, List.forall_mem_cons.mpr ⟨lw_p35, List.forall_mem_cons.mpr ⟨lw_p36, List.forall_mem_cons.mpr ⟨lw_p37, List.forall_mem_cons.mpr ⟨lw_p38, List.forall_mem_cons.mpr ⟨lw_p39, List.forall_mem_cons.mpr ⟨lw_p40, List.forall_mem_cons.mpr ⟨lw_p41, List.forall_mem_cons.mpr ⟨lw_p42, List.forall_mem_cons.mpr ⟨lw_p43, List.forall_mem_cons.mpr ⟨lw_p44, List.forall_mem_cons.mpr ⟨lw_p45, List.forall_mem_cons.mpr ⟨lw_p46, List.forall_mem_cons.mpr ⟨lw_p47, fun _ h => absurd h List.not_mem_nil⟩⟩⟩⟩⟩⟩⟩⟩⟩⟩⟩⟩⟩⟩⟩⟩
theorem lw_p48 : lw_okq (⟨"ScansionDeskModel", "costsAs", "(II)I"⟩, 72) := ⟨⟨by decide +kernel, by decide +kernel⟩, List.mem_of_getElem? (i := 1043) (by decide +kernel), List.mem_of_getElem? (i := 1365) (by decide +kernel), List.mem_of_getElem? (i := 1366) (by decide +kernel)⟩
theorem lw_p49 : lw_okq (⟨"ScansionDeskModel", "change", "(II)I"⟩, 72) := ⟨⟨by decide +kernel, by decide +kernel⟩, List.mem_of_getElem? (i := 1043) (by decide +kernel), List.mem_of_getElem? (i := 1379) (by decide +kernel), List.mem_of_getElem? (i := 1380) (by decide +kernel)⟩
theorem lw_p50 : lw_okq (⟨"ScansionDeskModel", "four", "(I)V"⟩, 72) := ⟨⟨by decide +kernel, by decide +kernel⟩, List.mem_of_getElem? (i := 1043) (by decide +kernel), List.mem_of_getElem? (i := 1395) (by decide +kernel), List.mem_of_getElem? (i := 1396) (by decide +kernel)⟩
theorem lw_p51 : lw_okq (⟨"ScansionDeskModel", "beginText", "(Z)V"⟩, 72) := ⟨⟨by decide +kernel, by decide +kernel⟩, List.mem_of_getElem? (i := 1043) (by decide +kernel), List.mem_of_getElem? (i := 1411) (by decide +kernel), List.mem_of_getElem? (i := 1412) (by decide +kernel)⟩
theorem lw_p52 : lw_okq (⟨"ScansionDeskModel", "begin", "()V"⟩, 72) := ⟨⟨by decide +kernel, by decide +kernel⟩, List.mem_of_getElem? (i := 1043) (by decide +kernel), List.mem_of_getElem? (i := 1415) (by decide +kernel), List.mem_of_getElem? (i := 1416) (by decide +kernel)⟩
theorem lw_p53 : lw_okq (⟨"ScansionDeskModel", "next", "()V"⟩, 72) := ⟨⟨by decide +kernel, by decide +kernel⟩, List.mem_of_getElem? (i := 1043) (by decide +kernel), List.mem_of_getElem? (i := 1419) (by decide +kernel), List.mem_of_getElem? (i := 1420) (by decide +kernel)⟩
theorem lw_p54 : lw_okq (⟨"ScansionDeskModel", "readLaw", "()V"⟩, 72) := ⟨⟨by decide +kernel, by decide +kernel⟩, List.mem_of_getElem? (i := 1043) (by decide +kernel), List.mem_of_getElem? (i := 1433) (by decide +kernel), List.mem_of_getElem? (i := 1434) (by decide +kernel)⟩
theorem lw_p55 : lw_okq (⟨"ScansionDeskModel", "isWord", "(J)Z"⟩, 72) := ⟨⟨by decide +kernel, by decide +kernel⟩, List.mem_of_getElem? (i := 1043) (by decide +kernel), List.mem_of_getElem? (i := 1437) (by decide +kernel), List.mem_of_getElem? (i := 1438) (by decide +kernel)⟩
theorem lw_p56 : lw_okq (⟨"ScansionDeskModel", "must", "(Z)V"⟩, 72) := ⟨⟨by decide +kernel, by decide +kernel⟩, List.mem_of_getElem? (i := 1043) (by decide +kernel), List.mem_of_getElem? (i := 1441) (by decide +kernel), List.mem_of_getElem? (i := 1442) (by decide +kernel)⟩
theorem lw_p57 : lw_okq (⟨"ScansionDeskModel", "readExpression", "(Z)V"⟩, 72) := ⟨⟨by decide +kernel, by decide +kernel⟩, List.mem_of_getElem? (i := 1043) (by decide +kernel), List.mem_of_getElem? (i := 1445) (by decide +kernel), List.mem_of_getElem? (i := 1446) (by decide +kernel)⟩
theorem lw_p58 : lw_okq (⟨"ScansionDeskModel", "readPlain", "()I"⟩, 72) := ⟨⟨by decide +kernel, by decide +kernel⟩, List.mem_of_getElem? (i := 1043) (by decide +kernel), List.mem_of_getElem? (i := 1449) (by decide +kernel), List.mem_of_getElem? (i := 1450) (by decide +kernel)⟩
theorem lw_p59 : lw_okq (⟨"ScansionDeskModel", "push", "(II)V"⟩, 72) := ⟨⟨by decide +kernel, by decide +kernel⟩, List.mem_of_getElem? (i := 1043) (by decide +kernel), List.mem_of_getElem? (i := 1454) (by decide +kernel), List.mem_of_getElem? (i := 1455) (by decide +kernel)⟩
theorem lw_p60 : lw_okq (⟨"ScansionDeskModel", "isSign", "(I)Z"⟩, 72) := ⟨⟨by decide +kernel, by decide +kernel⟩, List.mem_of_getElem? (i := 1043) (by decide +kernel), List.mem_of_getElem? (i := 1458) (by decide +kernel), List.mem_of_getElem? (i := 1459) (by decide +kernel)⟩
theorem lw_p61 : lw_okq (⟨"ScansionDeskModel", "openBracket", "(I)V"⟩, 72) := ⟨⟨by decide +kernel, by decide +kernel⟩, List.mem_of_getElem? (i := 1043) (by decide +kernel), List.mem_of_getElem? (i := 1462) (by decide +kernel), List.mem_of_getElem? (i := 1463) (by decide +kernel)⟩
theorem lw_p62 : lw_okq (⟨"ScansionDeskModel", "readPart", "()I"⟩, 72) := ⟨⟨by decide +kernel, by decide +kernel⟩, List.mem_of_getElem? (i := 1043) (by decide +kernel), List.mem_of_getElem? (i := 1466) (by decide +kernel), List.mem_of_getElem? (i := 1467) (by decide +kernel)⟩
theorem lw_p63 : lw_okq (⟨"ScansionDeskModel", "orderPartAt", "()I"⟩, 72) := ⟨⟨by decide +kernel, by decide +kernel⟩, List.mem_of_getElem? (i := 1043) (by decide +kernel), List.mem_of_getElem? (i := 1470) (by decide +kernel), List.mem_of_getElem? (i := 1471) (by decide +kernel)⟩
def lw_privs_4 : List (MethodName × Nat) := [(⟨"ScansionDeskModel", "costsAs", "(II)I"⟩, 72), (⟨"ScansionDeskModel", "change", "(II)I"⟩, 72), (⟨"ScansionDeskModel", "four", "(I)V"⟩, 72), (⟨"ScansionDeskModel", "beginText", "(Z)V"⟩, 72), (⟨"ScansionDeskModel", "begin", "()V"⟩, 72), (⟨"ScansionDeskModel", "next", "()V"⟩, 72), (⟨"ScansionDeskModel", "readLaw", "()V"⟩, 72), (⟨"ScansionDeskModel", "isWord", "(J)Z"⟩, 72), (⟨"ScansionDeskModel", "must", "(Z)V"⟩, 72), (⟨"ScansionDeskModel", "readExpression", "(Z)V"⟩, 72), (⟨"ScansionDeskModel", "readPlain", "()I"⟩, 72), (⟨"ScansionDeskModel", "push", "(II)V"⟩, 72), (⟨"ScansionDeskModel", "isSign", "(I)Z"⟩, 72), (⟨"ScansionDeskModel", "openBracket", "(I)V"⟩, 72), (⟨"ScansionDeskModel", "readPart", "()I"⟩, 72), (⟨"ScansionDeskModel", "orderPartAt", "()I"⟩, 72)]
theorem lw_r4 : ∀ q ∈ lw_privs_4, lw_okq q := List.forall_mem_cons.mpr ⟨lw_p48, List.forall_mem_cons.mpr ⟨lw_p49, List.forall_mem_cons.mpr ⟨lw_p50, List.forall_mem_cons.mpr ⟨lw_p51, List.forall_mem_cons.mpr ⟨lw_p52, List.forall_mem_cons.mpr ⟨lw_p53, List.forall_mem_cons.mpr ⟨lw_p54, List.forall_mem_cons.mpr ⟨lw_p55, List.forall_mem_cons.mpr ⟨lw_p56, List.forall_mem_cons.mpr ⟨lw_p57, List.forall_mem_cons.mpr ⟨lw_p58, List.forall_mem_cons.mpr ⟨lw_p59, List.forall_mem_cons.mpr ⟨lw_p60, List.forall_mem_cons.mpr ⟨lw_p61, List.forall_mem_cons.mpr ⟨lw_p62, List.forall_mem_cons.mpr ⟨lw_p63, fun _ h => absurd h List.not_mem_nil⟩⟩⟩⟩⟩⟩⟩⟩⟩⟩⟩⟩⟩⟩⟩⟩
theorem lw_p64 : lw_okq (⟨"ScansionDeskModel", "partAt", "()I"⟩, 72) := ⟨⟨by decide +kernel, by decide +kernel⟩, List.mem_of_getElem? (i := 1043) (by decide +kernel), List.mem_of_getElem? (i := 1474) (by decide +kernel), List.mem_of_getElem? (i := 1475) (by decide +kernel)⟩
theorem lw_p65 : lw_okq (⟨"ScansionDeskModel", "leaf", "(ZII)V"⟩, 72) := ⟨⟨by decide +kernel, by decide +kernel⟩, List.mem_of_getElem? (i := 1043) (by decide +kernel), List.mem_of_getElem? (i := 1479) (by decide +kernel), List.mem_of_getElem? (i := 1480) (by decide +kernel)⟩
theorem lw_p66 : lw_okq (⟨"ScansionDeskModel", "emit", "(II)V"⟩, 72) := ⟨⟨by decide +kernel, by decide +kernel⟩, List.mem_of_getElem? (i := 1043) (by decide +kernel), List.mem_of_getElem? (i := 1483) (by decide +kernel), List.mem_of_getElem? (i := 1484) (by decide +kernel)⟩
theorem lw_p67 : lw_okq (⟨"ScansionDeskModel", "number", "(JJ)I"⟩, 72) := ⟨⟨by decide +kernel, by decide +kernel⟩, List.mem_of_getElem? (i := 1043) (by decide +kernel), List.mem_of_getElem? (i := 1488) (by decide +kernel), List.mem_of_getElem? (i := 1489) (by decide +kernel)⟩
theorem lw_p68 : lw_okq (⟨"ScansionDeskModel", "behindSum", "(Z)I"⟩, 72) := ⟨⟨by decide +kernel, by decide +kernel⟩, List.mem_of_getElem? (i := 1043) (by decide +kernel), List.mem_of_getElem? (i := 1492) (by decide +kernel), List.mem_of_getElem? (i := 1493) (by decide +kernel)⟩
theorem lw_p69 : lw_okq (⟨"ScansionDeskModel", "settle", "(I)V"⟩, 72) := ⟨⟨by decide +kernel, by decide +kernel⟩, List.mem_of_getElem? (i := 1043) (by decide +kernel), List.mem_of_getElem? (i := 1499) (by decide +kernel), List.mem_of_getElem? (i := 1500) (by decide +kernel)⟩
theorem lw_p70 : lw_okq (⟨"ScansionDeskModel", "inner", "()I"⟩, 72) := ⟨⟨by decide +kernel, by decide +kernel⟩, List.mem_of_getElem? (i := 1043) (by decide +kernel), List.mem_of_getElem? (i := 1503) (by decide +kernel), List.mem_of_getElem? (i := 1504) (by decide +kernel)⟩
theorem lw_p71 : lw_okq (⟨"ScansionDeskModel", "isCompared", "()Z"⟩, 72) := ⟨⟨by decide +kernel, by decide +kernel⟩, List.mem_of_getElem? (i := 1043) (by decide +kernel), List.mem_of_getElem? (i := 1507) (by decide +kernel), List.mem_of_getElem? (i := 1508) (by decide +kernel)⟩
theorem lw_p72 : lw_okq (⟨"ScansionDeskModel", "behindTest", "()I"⟩, 72) := ⟨⟨by decide +kernel, by decide +kernel⟩, List.mem_of_getElem? (i := 1043) (by decide +kernel), List.mem_of_getElem? (i := 1515) (by decide +kernel), List.mem_of_getElem? (i := 1516) (by decide +kernel)⟩
theorem lw_p73 : lw_okq (⟨"ScansionDeskModel", "endText", "()V"⟩, 72) := ⟨⟨by decide +kernel, by decide +kernel⟩, List.mem_of_getElem? (i := 1043) (by decide +kernel), List.mem_of_getElem? (i := 1522) (by decide +kernel), List.mem_of_getElem? (i := 1523) (by decide +kernel)⟩
theorem lw_p74 : lw_okq (⟨"ScansionDeskModel", "isLaw", "(I)Z"⟩, 72) := ⟨⟨by decide +kernel, by decide +kernel⟩, List.mem_of_getElem? (i := 1043) (by decide +kernel), List.mem_of_getElem? (i := 1530) (by decide +kernel), List.mem_of_getElem? (i := 1531) (by decide +kernel)⟩
theorem lw_p75 : lw_okq (⟨"ScansionDeskModel", "readMetre", "()V"⟩, 72) := ⟨⟨by decide +kernel, by decide +kernel⟩, List.mem_of_getElem? (i := 1043) (by decide +kernel), List.mem_of_getElem? (i := 1538) (by decide +kernel), List.mem_of_getElem? (i := 1539) (by decide +kernel)⟩
theorem lw_p76 : lw_okq (⟨"ScansionDeskModel", "beginMetre", "()V"⟩, 72) := ⟨⟨by decide +kernel, by decide +kernel⟩, List.mem_of_getElem? (i := 1043) (by decide +kernel), List.mem_of_getElem? (i := 1542) (by decide +kernel), List.mem_of_getElem? (i := 1543) (by decide +kernel)⟩
theorem lw_p77 : lw_okq (⟨"ScansionDeskModel", "beginUnit", "()Z"⟩, 72) := ⟨⟨by decide +kernel, by decide +kernel⟩, List.mem_of_getElem? (i := 1043) (by decide +kernel), List.mem_of_getElem? (i := 1546) (by decide +kernel), List.mem_of_getElem? (i := 1547) (by decide +kernel)⟩
theorem lw_p78 : lw_okq (⟨"ScansionDeskModel", "stepAt", "()I"⟩, 72) := ⟨⟨by decide +kernel, by decide +kernel⟩, List.mem_of_getElem? (i := 1043) (by decide +kernel), List.mem_of_getElem? (i := 1550) (by decide +kernel), List.mem_of_getElem? (i := 1551) (by decide +kernel)⟩
theorem lw_p79 : lw_okq (⟨"ScansionDeskModel", "sign", "(I)V"⟩, 72) := ⟨⟨by decide +kernel, by decide +kernel⟩, List.mem_of_getElem? (i := 1043) (by decide +kernel), List.mem_of_getElem? (i := 1554) (by decide +kernel), List.mem_of_getElem? (i := 1555) (by decide +kernel)⟩
def lw_privs_5 : List (MethodName × Nat) := [(⟨"ScansionDeskModel", "partAt", "()I"⟩, 72), (⟨"ScansionDeskModel", "leaf", "(ZII)V"⟩, 72), (⟨"ScansionDeskModel", "emit", "(II)V"⟩, 72), (⟨"ScansionDeskModel", "number", "(JJ)I"⟩, 72), (⟨"ScansionDeskModel", "behindSum", "(Z)I"⟩, 72), (⟨"ScansionDeskModel", "settle", "(I)V"⟩, 72), (⟨"ScansionDeskModel", "inner", "()I"⟩, 72), (⟨"ScansionDeskModel", "isCompared", "()Z"⟩, 72), (⟨"ScansionDeskModel", "behindTest", "()I"⟩, 72), (⟨"ScansionDeskModel", "endText", "()V"⟩, 72), (⟨"ScansionDeskModel", "isLaw", "(I)Z"⟩, 72), (⟨"ScansionDeskModel", "readMetre", "()V"⟩, 72), (⟨"ScansionDeskModel", "beginMetre", "()V"⟩, 72), (⟨"ScansionDeskModel", "beginUnit", "()Z"⟩, 72), (⟨"ScansionDeskModel", "stepAt", "()I"⟩, 72), (⟨"ScansionDeskModel", "sign", "(I)V"⟩, 72)]
theorem lw_r5 : ∀ q ∈ lw_privs_5, lw_okq q := List.forall_mem_cons.mpr ⟨lw_p64, List.forall_mem_cons.mpr ⟨lw_p65, List.forall_mem_cons.mpr ⟨lw_p66, List.forall_mem_cons.mpr ⟨lw_p67, List.forall_mem_cons.mpr ⟨lw_p68, List.forall_mem_cons.mpr ⟨lw_p69, List.forall_mem_cons.mpr ⟨lw_p70, List.forall_mem_cons.mpr ⟨lw_p71, List.forall_mem_cons.mpr ⟨lw_p72, List.forall_mem_cons.mpr ⟨lw_p73, List.forall_mem_cons.mpr ⟨lw_p74, List.forall_mem_cons.mpr ⟨lw_p75, List.forall_mem_cons.mpr ⟨lw_p76, List.forall_mem_cons.mpr ⟨lw_p77, List.forall_mem_cons.mpr ⟨lw_p78, List.forall_mem_cons.mpr ⟨lw_p79, fun _ h => absurd h List.not_mem_nil⟩⟩⟩⟩⟩⟩⟩⟩⟩⟩⟩⟩⟩⟩⟩⟩
theorem lw_p80 : lw_okq (⟨"ScansionDeskModel", "endUnit", "()V"⟩, 72) := ⟨⟨by decide +kernel, by decide +kernel⟩, List.mem_of_getElem? (i := 1043) (by decide +kernel), List.mem_of_getElem? (i := 1558) (by decide +kernel), List.mem_of_getElem? (i := 1559) (by decide +kernel)⟩
theorem lw_p81 : lw_okq (⟨"ScansionDeskModel", "endChoice", "()V"⟩, 72) := ⟨⟨by decide +kernel, by decide +kernel⟩, List.mem_of_getElem? (i := 1043) (by decide +kernel), List.mem_of_getElem? (i := 1563) (by decide +kernel), List.mem_of_getElem? (i := 1564) (by decide +kernel)⟩
theorem lw_p82 : lw_okq (⟨"ScansionDeskModel", "stepsOfRaw", "()I"⟩, 72) := ⟨⟨by decide +kernel, by decide +kernel⟩, List.mem_of_getElem? (i := 1043) (by decide +kernel), List.mem_of_getElem? (i := 1567) (by decide +kernel), List.mem_of_getElem? (i := 1568) (by decide +kernel)⟩
theorem lw_p83 : lw_okq (⟨"ScansionDeskModel", "writeOut", "()I"⟩, 72) := ⟨⟨by decide +kernel, by decide +kernel⟩, List.mem_of_getElem? (i := 1043) (by decide +kernel), List.mem_of_getElem? (i := 1572) (by decide +kernel), List.mem_of_getElem? (i := 1573) (by decide +kernel)⟩
theorem lw_p84 : lw_okq (⟨"ScansionDeskModel", "repeat", "(III)I"⟩, 72) := ⟨⟨by decide +kernel, by decide +kernel⟩, List.mem_of_getElem? (i := 1043) (by decide +kernel), List.mem_of_getElem? (i := 1576) (by decide +kernel), List.mem_of_getElem? (i := 1577) (by decide +kernel)⟩
theorem lw_p85 : lw_okq (⟨"ScansionDeskModel", "layMetre", "(I)V"⟩, 72) := ⟨⟨by decide +kernel, by decide +kernel⟩, List.mem_of_getElem? (i := 1043) (by decide +kernel), List.mem_of_getElem? (i := 1584) (by decide +kernel), List.mem_of_getElem? (i := 1585) (by decide +kernel)⟩
theorem lw_p86 : lw_okq (⟨"ScansionDeskModel", "join", "(III)V"⟩, 72) := ⟨⟨by decide +kernel, by decide +kernel⟩, List.mem_of_getElem? (i := 1043) (by decide +kernel), List.mem_of_getElem? (i := 1588) (by decide +kernel), List.mem_of_getElem? (i := 1589) (by decide +kernel)⟩
theorem lw_p87 : lw_okq (⟨"ScansionDeskModel", "leastOf", "(II)I"⟩, 72) := ⟨⟨by decide +kernel, by decide +kernel⟩, List.mem_of_getElem? (i := 1043) (by decide +kernel), List.mem_of_getElem? (i := 1596) (by decide +kernel), List.mem_of_getElem? (i := 1597) (by decide +kernel)⟩
theorem lw_p88 : lw_okq (⟨"ScansionDeskModel", "layPrices", "(I)V"⟩, 72) := ⟨⟨by decide +kernel, by decide +kernel⟩, List.mem_of_getElem? (i := 1043) (by decide +kernel), List.mem_of_getElem? (i := 1600) (by decide +kernel), List.mem_of_getElem? (i := 1601) (by decide +kernel)⟩
theorem lw_p89 : lw_okq (⟨"ScansionDeskModel", "layLeft", "()I"⟩, 72) := ⟨⟨by decide +kernel, by decide +kernel⟩, List.mem_of_getElem? (i := 1043) (by decide +kernel), List.mem_of_getElem? (i := 1605) (by decide +kernel), List.mem_of_getElem? (i := 1606) (by decide +kernel)⟩
theorem lw_p90 : lw_okq (⟨"ScansionDeskModel", "leftFrom", "(II)I"⟩, 72) := ⟨⟨by decide +kernel, by decide +kernel⟩, List.mem_of_getElem? (i := 1043) (by decide +kernel), List.mem_of_getElem? (i := 1609) (by decide +kernel), List.mem_of_getElem? (i := 1610) (by decide +kernel)⟩
theorem lw_p91 : lw_okq (⟨"ScansionDeskModel", "isOver", "(I)Z"⟩, 72) := ⟨⟨by decide +kernel, by decide +kernel⟩, List.mem_of_getElem? (i := 1043) (by decide +kernel), List.mem_of_getElem? (i := 1613) (by decide +kernel), List.mem_of_getElem? (i := 1614) (by decide +kernel)⟩
theorem lw_p92 : lw_okq (⟨"ScansionDeskModel", "canCut", "(I)Z"⟩, 72) := ⟨⟨by decide +kernel, by decide +kernel⟩, List.mem_of_getElem? (i := 1043) (by decide +kernel), List.mem_of_getElem? (i := 1617) (by decide +kernel), List.mem_of_getElem? (i := 1618) (by decide +kernel)⟩
theorem lw_p93 : lw_okq (⟨"ScansionDeskModel", "stepPrice", "(II)I"⟩, 72) := ⟨⟨by decide +kernel, by decide +kernel⟩, List.mem_of_getElem? (i := 1043) (by decide +kernel), List.mem_of_getElem? (i := 1621) (by decide +kernel), List.mem_of_getElem? (i := 1622) (by decide +kernel)⟩
theorem lw_p94 : lw_okq (⟨"ScansionDeskModel", "readBest", "()V"⟩, 72) := ⟨⟨by decide +kernel, by decide +kernel⟩, List.mem_of_getElem? (i := 1043) (by decide +kernel), List.mem_of_getElem? (i := 1625) (by decide +kernel), List.mem_of_getElem? (i := 1626) (by decide +kernel)⟩
theorem lw_p95 : lw_okq (⟨"ScansionDeskModel", "passCuts", "(II)V"⟩, 72) := ⟨⟨by decide +kernel, by decide +kernel⟩, List.mem_of_getElem? (i := 1043) (by decide +kernel), List.mem_of_getElem? (i := 1629) (by decide +kernel), List.mem_of_getElem? (i := 1630) (by decide +kernel)⟩
def lw_privs_6 : List (MethodName × Nat) := [(⟨"ScansionDeskModel", "endUnit", "()V"⟩, 72), (⟨"ScansionDeskModel", "endChoice", "()V"⟩, 72), (⟨"ScansionDeskModel", "stepsOfRaw", "()I"⟩, 72), (⟨"ScansionDeskModel", "writeOut", "()I"⟩, 72), (⟨"ScansionDeskModel", "repeat", "(III)I"⟩, 72), (⟨"ScansionDeskModel", "layMetre", "(I)V"⟩, 72), (⟨"ScansionDeskModel", "join", "(III)V"⟩, 72), (⟨"ScansionDeskModel", "leastOf", "(II)I"⟩, 72), (⟨"ScansionDeskModel", "layPrices", "(I)V"⟩, 72), (⟨"ScansionDeskModel", "layLeft", "()I"⟩, 72), (⟨"ScansionDeskModel", "leftFrom", "(II)I"⟩, 72), (⟨"ScansionDeskModel", "isOver", "(I)Z"⟩, 72), (⟨"ScansionDeskModel", "canCut", "(I)Z"⟩, 72), (⟨"ScansionDeskModel", "stepPrice", "(II)I"⟩, 72), (⟨"ScansionDeskModel", "readBest", "()V"⟩, 72), (⟨"ScansionDeskModel", "passCuts", "(II)V"⟩, 72)]
theorem lw_r6 : ∀ q ∈ lw_privs_6, lw_okq q := List.forall_mem_cons.mpr ⟨lw_p80, List.forall_mem_cons.mpr ⟨lw_p81, List.forall_mem_cons.mpr ⟨lw_p82, List.forall_mem_cons.mpr ⟨lw_p83, List.forall_mem_cons.mpr ⟨lw_p84, List.forall_mem_cons.mpr ⟨lw_p85, List.forall_mem_cons.mpr ⟨lw_p86, List.forall_mem_cons.mpr ⟨lw_p87, List.forall_mem_cons.mpr ⟨lw_p88, List.forall_mem_cons.mpr ⟨lw_p89, List.forall_mem_cons.mpr ⟨lw_p90, List.forall_mem_cons.mpr ⟨lw_p91, List.forall_mem_cons.mpr ⟨lw_p92, List.forall_mem_cons.mpr ⟨lw_p93, List.forall_mem_cons.mpr ⟨lw_p94, List.forall_mem_cons.mpr ⟨lw_p95, fun _ h => absurd h List.not_mem_nil⟩⟩⟩⟩⟩⟩⟩⟩⟩⟩⟩⟩⟩⟩⟩⟩
theorem lw_p96 : lw_okq (⟨"ScansionDeskModel", "layThen", "(III)Z"⟩, 72) := ⟨⟨by decide +kernel, by decide +kernel⟩, List.mem_of_getElem? (i := 1043) (by decide +kernel), List.mem_of_getElem? (i := 1633) (by decide +kernel), List.mem_of_getElem? (i := 1634) (by decide +kernel)⟩
theorem lw_p97 : lw_okq (⟨"ScansionDeskModel", "isReached", "(II)Z"⟩, 72) := ⟨⟨by decide +kernel, by decide +kernel⟩, List.mem_of_getElem? (i := 1043) (by decide +kernel), List.mem_of_getElem? (i := 1652) (by decide +kernel), List.mem_of_getElem? (i := 1653) (by decide +kernel)⟩
theorem lw_p98 : lw_okq (⟨"ScansionDeskModel", "fitting", "()I"⟩, 72) := ⟨⟨by decide +kernel, by decide +kernel⟩, List.mem_of_getElem? (i := 1043) (by decide +kernel), List.mem_of_getElem? (i := 1664) (by decide +kernel), List.mem_of_getElem? (i := 1665) (by decide +kernel)⟩
theorem lw_p99 : lw_okq (⟨"ScansionDeskModel", "weighNow", "(II)I"⟩, 72) := ⟨⟨by decide +kernel, by decide +kernel⟩, List.mem_of_getElem? (i := 1043) (by decide +kernel), List.mem_of_getElem? (i := 1676) (by decide +kernel), List.mem_of_getElem? (i := 1677) (by decide +kernel)⟩
theorem lw_p100 : lw_okq (⟨"ScansionDeskModel", "remember", "(I)V"⟩, 72) := ⟨⟨by decide +kernel, by decide +kernel⟩, List.mem_of_getElem? (i := 1043) (by decide +kernel), List.mem_of_getElem? (i := 1680) (by decide +kernel), List.mem_of_getElem? (i := 1681) (by decide +kernel)⟩
theorem lw_p101 : lw_okq (⟨"ScansionDeskModel", "keepAll", "(I)V"⟩, 72) := ⟨⟨by decide +kernel, by decide +kernel⟩, List.mem_of_getElem? (i := 1043) (by decide +kernel), List.mem_of_getElem? (i := 1684) (by decide +kernel), List.mem_of_getElem? (i := 1685) (by decide +kernel)⟩
theorem lw_p102 : lw_okq (⟨"ScansionDeskModel", "toggle", "(III)I"⟩, 72) := ⟨⟨by decide +kernel, by decide +kernel⟩, List.mem_of_getElem? (i := 1043) (by decide +kernel), List.mem_of_getElem? (i := 1692) (by decide +kernel), List.mem_of_getElem? (i := 1693) (by decide +kernel)⟩
theorem lw_p103 : lw_okq (⟨"ScansionDeskModel", "passNow", "()I"⟩, 72) := ⟨⟨by decide +kernel, by decide +kernel⟩, List.mem_of_getElem? (i := 1043) (by decide +kernel), List.mem_of_getElem? (i := 1704) (by decide +kernel), List.mem_of_getElem? (i := 1705) (by decide +kernel)⟩
theorem lw_p104 : lw_okq (⟨"ScansionDeskModel", "many", "(I)I"⟩, 72) := ⟨⟨by decide +kernel, by decide +kernel⟩, List.mem_of_getElem? (i := 1043) (by decide +kernel), List.mem_of_getElem? (i := 1708) (by decide +kernel), List.mem_of_getElem? (i := 1709) (by decide +kernel)⟩
theorem lw_p105 : lw_okq (⟨"ScansionDeskModel", "thatCanBe", "()I"⟩, 72) := ⟨⟨by decide +kernel, by decide +kernel⟩, List.mem_of_getElem? (i := 1043) (by decide +kernel), List.mem_of_getElem? (i := 1724) (by decide +kernel), List.mem_of_getElem? (i := 1725) (by decide +kernel)⟩
theorem lw_p106 : lw_okq (⟨"ScansionDeskModel", "isHeard", "(I)Z"⟩, 72) := ⟨⟨by decide +kernel, by decide +kernel⟩, List.mem_of_getElem? (i := 1043) (by decide +kernel), List.mem_of_getElem? (i := 1728) (by decide +kernel), List.mem_of_getElem? (i := 1729) (by decide +kernel)⟩
theorem lw_p107 : lw_okq (⟨"ScansionDeskModel", "mostAlike", "(II)I"⟩, 72) := ⟨⟨by decide +kernel, by decide +kernel⟩, List.mem_of_getElem? (i := 1043) (by decide +kernel), List.mem_of_getElem? (i := 1739) (by decide +kernel), List.mem_of_getElem? (i := 1740) (by decide +kernel)⟩
theorem lw_p108 : lw_okq (⟨"ScansionDeskModel", "readOrder", "()V"⟩, 72) := ⟨⟨by decide +kernel, by decide +kernel⟩, List.mem_of_getElem? (i := 1043) (by decide +kernel), List.mem_of_getElem? (i := 1753) (by decide +kernel), List.mem_of_getElem? (i := 1754) (by decide +kernel)⟩
theorem lw_p109 : lw_okq (⟨"ScansionDeskModel", "readSum", "(I)V"⟩, 72) := ⟨⟨by decide +kernel, by decide +kernel⟩, List.mem_of_getElem? (i := 1043) (by decide +kernel), List.mem_of_getElem? (i := 1757) (by decide +kernel), List.mem_of_getElem? (i := 1758) (by decide +kernel)⟩
theorem lw_p110 : lw_okq (⟨"ScansionDeskModel", "run", "(I)I"⟩, 72) := ⟨⟨by decide +kernel, by decide +kernel⟩, List.mem_of_getElem? (i := 1043) (by decide +kernel), List.mem_of_getElem? (i := 1762) (by decide +kernel), List.mem_of_getElem? (i := 1763) (by decide +kernel)⟩
theorem lw_p111 : lw_okq (⟨"ScansionDeskModel", "sumOf", "(I)I"⟩, 72) := ⟨⟨by decide +kernel, by decide +kernel⟩, List.mem_of_getElem? (i := 1043) (by decide +kernel), List.mem_of_getElem? (i := 1766) (by decide +kernel), List.mem_of_getElem? (i := 1767) (by decide +kernel)⟩
def lw_privs_7 : List (MethodName × Nat) := [(⟨"ScansionDeskModel", "layThen", "(III)Z"⟩, 72), (⟨"ScansionDeskModel", "isReached", "(II)Z"⟩, 72), (⟨"ScansionDeskModel", "fitting", "()I"⟩, 72), (⟨"ScansionDeskModel", "weighNow", "(II)I"⟩, 72), (⟨"ScansionDeskModel", "remember", "(I)V"⟩, 72), (⟨"ScansionDeskModel", "keepAll", "(I)V"⟩, 72), (⟨"ScansionDeskModel", "toggle", "(III)I"⟩, 72), (⟨"ScansionDeskModel", "passNow", "()I"⟩, 72), (⟨"ScansionDeskModel", "many", "(I)I"⟩, 72), (⟨"ScansionDeskModel", "thatCanBe", "()I"⟩, 72), (⟨"ScansionDeskModel", "isHeard", "(I)Z"⟩, 72), (⟨"ScansionDeskModel", "mostAlike", "(II)I"⟩, 72), (⟨"ScansionDeskModel", "readOrder", "()V"⟩, 72), (⟨"ScansionDeskModel", "readSum", "(I)V"⟩, 72), (⟨"ScansionDeskModel", "run", "(I)I"⟩, 72), (⟨"ScansionDeskModel", "sumOf", "(I)I"⟩, 72)]
theorem lw_r7 : ∀ q ∈ lw_privs_7, lw_okq q := List.forall_mem_cons.mpr ⟨lw_p96, List.forall_mem_cons.mpr ⟨lw_p97, List.forall_mem_cons.mpr ⟨lw_p98, List.forall_mem_cons.mpr ⟨lw_p99, List.forall_mem_cons.mpr ⟨lw_p100, List.forall_mem_cons.mpr ⟨lw_p101, List.forall_mem_cons.mpr ⟨lw_p102, List.forall_mem_cons.mpr ⟨lw_p103, List.forall_mem_cons.mpr ⟨lw_p104, List.forall_mem_cons.mpr ⟨lw_p105, List.forall_mem_cons.mpr ⟨lw_p106, List.forall_mem_cons.mpr ⟨lw_p107, List.forall_mem_cons.mpr ⟨lw_p108, List.forall_mem_cons.mpr ⟨lw_p109, List.forall_mem_cons.mpr ⟨lw_p110, List.forall_mem_cons.mpr ⟨lw_p111, fun _ h => absurd h List.not_mem_nil⟩⟩⟩⟩⟩⟩⟩⟩⟩⟩⟩⟩⟩⟩⟩⟩
theorem lw_p112 : lw_okq (⟨"ScansionDeskModel", "act", "(III)I"⟩, 72) := ⟨⟨by decide +kernel, by decide +kernel⟩, List.mem_of_getElem? (i := 1043) (by decide +kernel), List.mem_of_getElem? (i := 1770) (by decide +kernel), List.mem_of_getElem? (i := 1771) (by decide +kernel)⟩
theorem lw_p113 : lw_okq (⟨"ScansionDeskModel", "giveBack", "(I)V"⟩, 72) := ⟨⟨by decide +kernel, by decide +kernel⟩, List.mem_of_getElem? (i := 1043) (by decide +kernel), List.mem_of_getElem? (i := 1774) (by decide +kernel), List.mem_of_getElem? (i := 1775) (by decide +kernel)⟩
theorem lw_p114 : lw_okq (⟨"ScansionDeskModel", "draw", "(I)I"⟩, 72) := ⟨⟨by decide +kernel, by decide +kernel⟩, List.mem_of_getElem? (i := 1043) (by decide +kernel), List.mem_of_getElem? (i := 1787) (by decide +kernel), List.mem_of_getElem? (i := 1788) (by decide +kernel)⟩
def lw_privs_8 : List (MethodName × Nat) := [(⟨"ScansionDeskModel", "act", "(III)I"⟩, 72), (⟨"ScansionDeskModel", "giveBack", "(I)V"⟩, 72), (⟨"ScansionDeskModel", "draw", "(I)I"⟩, 72)]
theorem lw_r8 : ∀ q ∈ lw_privs_8, lw_okq q := List.forall_mem_cons.mpr ⟨lw_p112, List.forall_mem_cons.mpr ⟨lw_p113, List.forall_mem_cons.mpr ⟨lw_p114, fun _ h => absurd h List.not_mem_nil⟩⟩⟩
def lw_privs : List (MethodName × Nat) := lw_privs_1 ++ (lw_privs_2 ++ (lw_privs_3 ++ (lw_privs_4 ++ (lw_privs_5 ++ (lw_privs_6 ++ (lw_privs_7 ++ (lw_privs_8)))))))
def lw_tbl : List Cond := k2_sels lw_privs ++ tables_1
theorem lw_privs_ok : ∀ q ∈ lw_privs, lw_okq q := by
  show ∀ q ∈ lw_privs_1 ++ (lw_privs_2 ++ (lw_privs_3 ++ (lw_privs_4 ++ (lw_privs_5 ++ (lw_privs_6 ++ (lw_privs_7 ++ (lw_privs_8))))))), lw_okq q
  exact List.forall_mem_append.mpr ⟨lw_r1, List.forall_mem_append.mpr ⟨lw_r2, List.forall_mem_append.mpr ⟨lw_r3, List.forall_mem_append.mpr ⟨lw_r4, List.forall_mem_append.mpr ⟨lw_r5, List.forall_mem_append.mpr ⟨lw_r6, List.forall_mem_append.mpr ⟨lw_r7, lw_r8⟩⟩⟩⟩⟩⟩⟩

theorem goodIn_r {big : List Cond} (ws : List Cond) (ps : List Nat) (hp : ws = ps.filterMap (fun i => big[i]?)) (h : ws.all goodWord = true) : GoodIn big ws := by
  intro w hw
  have h1 := List.all_eq_true.mp h w hw
  rw [hp] at hw
  obtain ⟨i, -, hi⟩ := List.mem_filterMap.mp hw
  have hm : w ∈ big := by first | exact List.mem_of_getElem? hi | exact List.getElem?_mem hi
  exact ⟨hm, good_of_word h1⟩
theorem goodIn_app {big a b : List Cond} (ha : GoodIn big a) (hb : GoodIn big b) : GoodIn big (a ++ b) := fun w h => (List.mem_append.mp h).elim (ha w) (hb w)
theorem goodIn_ca {big a b : List Cond} {c : Cond} (ha : GoodIn big (c :: a)) (hb : GoodIn big b) : GoodIn big (c :: (a ++ b)) := fun w h => (List.mem_cons.mp h).elim (fun e => ha w (List.mem_cons.mpr (Or.inl e))) (fun h => (List.mem_append.mp h).elim (fun h => ha w (List.mem_cons.mpr (Or.inr h))) (hb w))
theorem goodIn_sub {big ws : List Cond} (hm : ∀ w ∈ ws, w ∈ big) (h : ws.all goodWord = true) : GoodIn big ws := fun w hw => ⟨hm w hw, good_of_word (List.all_eq_true.mp h w hw)⟩
def RX0 : String := "ScansionDesk$ClauseReader"
def TX0 : u_T := fun k => match k with
  | 0 => ("ScansionDesk$ClauseReader", "text", "LScansionDesk$Clauses;", true)
  | 1 => ("ScansionDesk$ClauseReader", "forOrders", "Z", false)
  | _ => ("ScansionDesk$ClauseReader", "parts", "I", false)
def tyX0 : Nat → FieldType := fun k => match k with
  | 0 => .object "ScansionDesk$Clauses"
  | 1 => .boolean
  | _ => .int
abbrev wsX00 : List Cond := u_ws RX0 TX0 3
theorem nmX0 : ∀ a, a < 3 → ∀ b, b < 3 → a ≠ b → (TX0 a).2.1 ≠ (TX0 b).2.1 := by decide +kernel
theorem tyX0_ok : ∀ k, k < 3 → parseFieldDescriptor (TX0 k).2.2.1 = some (tyX0 k) := by decide +kernel
abbrev cX0_init : ByteArray := prog_2_method_1_code
def yX0_init : MethodName := ⟨RX0, "<init>", "()V"⟩
abbrev cX0_readText : ByteArray := prog_2_method_2_code
def yX0_readText : MethodName := ⟨RX0, "readText", "(LScansionDesk$Tokens;Z)Z"⟩
abbrev cX0_readClause : ByteArray := prog_2_method_3_code
def yX0_readClause : MethodName := ⟨RX0, "readClause", "(LScansionDesk$Tokens;I)V"⟩
abbrev cX0_readTimes : ByteArray := prog_2_method_4_code
def yX0_readTimes : MethodName := ⟨RX0, "readTimes", "(LScansionDesk$Tokens;I)V"⟩
abbrev cX0_readTest : ByteArray := prog_2_method_5_code
def yX0_readTest : MethodName := ⟨RX0, "readTest", "(LScansionDesk$Tokens;I)V"⟩
abbrev cX0_skipNots : ByteArray := prog_2_method_6_code
def yX0_skipNots : MethodName := ⟨RX0, "skipNots", "(LScansionDesk$Tokens;)Z"⟩
abbrev cX0_readComparison : ByteArray := prog_2_method_7_code
def yX0_readComparison : MethodName := ⟨RX0, "readComparison", "(LScansionDesk$Tokens;)I"⟩
abbrev cX0_readSum : ByteArray := prog_2_method_8_code
def yX0_readSum : MethodName := ⟨RX0, "readSum", "(LScansionDesk$Tokens;I)V"⟩
abbrev cX0_scalingOp : ByteArray := prog_2_method_9_code
def yX0_scalingOp : MethodName := ⟨RX0, "scalingOp", "(I)I"⟩
abbrev cX0_readPart : ByteArray := prog_2_method_10_code
def yX0_readPart : MethodName := ⟨RX0, "readPart", "(LScansionDesk$Tokens;I)V"⟩
abbrev cX0_readLawWord : ByteArray := prog_2_method_11_code
def yX0_readLawWord : MethodName := ⟨RX0, "readLawWord", "(LScansionDesk$Tokens;)V"⟩
abbrev cX0_readOrderWord : ByteArray := prog_2_method_12_code
def yX0_readOrderWord : MethodName := ⟨RX0, "readOrderWord", "(LScansionDesk$Tokens;)V"⟩
def RX1 : String := "ScansionDesk$Clauses"
def TX1 : u_T := fun k => match k with
  | 0 => ("ScansionDesk$Clauses", "code", "[I", true)
  | 1 => ("ScansionDesk$Clauses", "fields", "[I", true)
  | 2 => ("ScansionDesk$Clauses", "count", "I", false)
  | 3 => ("ScansionDesk$Clauses", "codeSize", "I", false)
  | _ => ("ScansionDesk$Clauses", "asksScans", "Z", false)
def tyX1 : Nat → FieldType := fun k => match k with
  | 0 => .array .int
  | 1 => .array .int
  | 2 => .int
  | 3 => .int
  | _ => .boolean
abbrev wsX10 : List Cond := u_ws RX1 TX1 5
theorem nmX1 : ∀ a, a < 5 → ∀ b, b < 5 → a ≠ b → (TX1 a).2.1 ≠ (TX1 b).2.1 := by decide +kernel
theorem tyX1_ok : ∀ k, k < 5 → parseFieldDescriptor (TX1 k).2.2.1 = some (tyX1 k) := by decide +kernel
abbrev cX1_init : ByteArray := prog_3_method_1_code
def yX1_init : MethodName := ⟨RX1, "<init>", "([I[I)V"⟩
abbrev cX1_fieldsFor : ByteArray := prog_3_method_2_code
def yX1_fieldsFor : MethodName := ⟨RX1, "fieldsFor", "(I)[I"⟩
abbrev cX1_told : ByteArray := prog_3_method_3_code
def yX1_told : MethodName := ⟨RX1, "told", "(II)I"⟩
abbrev cX1_tell : ByteArray := prog_3_method_4_code
def yX1_tell : MethodName := ⟨RX1, "tell", "(III)V"⟩
abbrev cX1_write : ByteArray := prog_3_method_5_code
def yX1_write : MethodName := ⟨RX1, "write", "(II)I"⟩
abbrev cX1_aim : ByteArray := prog_3_method_6_code
def yX1_aim : MethodName := ⟨RX1, "aim", "(I)V"⟩
abbrev cX1_compact : ByteArray := prog_3_method_7_code
def yX1_compact : MethodName := ⟨RX1, "compact", "()LScansionDesk$Clauses;"⟩
def RX2 : String := "ScansionDesk$History"
def TX2 : u_T := fun k => match k with
  | 0 => ("ScansionDesk$History", "kinds", "[I", true)
  | 1 => ("ScansionDesk$History", "syllables", "[I", true)
  | 2 => ("ScansionDesk$History", "weights", "[I", true)
  | _ => ("ScansionDesk$History", "size", "I", false)
def tyX2 : Nat → FieldType := fun k => match k with
  | 0 => .array .int
  | 1 => .array .int
  | 2 => .array .int
  | _ => .int
abbrev wsX20 : List Cond := u_ws RX2 TX2 4
theorem nmX2 : ∀ a, a < 4 → ∀ b, b < 4 → a ≠ b → (TX2 a).2.1 ≠ (TX2 b).2.1 := by decide +kernel
theorem tyX2_ok : ∀ k, k < 4 → parseFieldDescriptor (TX2 k).2.2.1 = some (tyX2 k) := by decide +kernel
abbrev cX2_init : ByteArray := prog_4_method_1_code
def yX2_init : MethodName := ⟨RX2, "<init>", "()V"⟩
abbrev cX2_copyFrom : ByteArray := prog_4_method_2_code
def yX2_copyFrom : MethodName := ⟨RX2, "copyFrom", "(LScansionDesk$History;)V"⟩
abbrev cX2_add : ByteArray := prog_4_method_3_code
def yX2_add : MethodName := ⟨RX2, "add", "(III)V"⟩
abbrev cX2_dropOldest : ByteArray := prog_4_method_4_code
def yX2_dropOldest : MethodName := ⟨RX2, "dropOldest", "()V"⟩
abbrev cX2_latestKind : ByteArray := prog_4_method_5_code
def yX2_latestKind : MethodName := ⟨RX2, "latestKind", "()I"⟩
abbrev cX2_latestSyllable : ByteArray := prog_4_method_6_code
def yX2_latestSyllable : MethodName := ⟨RX2, "latestSyllable", "()I"⟩
abbrev cX2_latestWeight : ByteArray := prog_4_method_7_code
def yX2_latestWeight : MethodName := ⟨RX2, "latestWeight", "()I"⟩
abbrev cX2_latestIn : ByteArray := prog_4_method_8_code
def yX2_latestIn : MethodName := ⟨RX2, "latestIn", "([I)I"⟩
def RX3 : String := "ScansionDesk$Metre"
def TX3 : u_T := fun k => match k with
  | 0 => ("ScansionDesk$Metre", "kinds", "[I", true)
  | 1 => ("ScansionDesk$Metre", "nexts", "[I", true)
  | 2 => ("ScansionDesk$Metre", "others", "[I", true)
  | 3 => ("ScansionDesk$Metre", "steps", "I", true)
  | 4 => ("ScansionDesk$Metre", "shortest", "I", true)
  | _ => ("ScansionDesk$Metre", "longest", "I", true)
def tyX3 : Nat → FieldType := fun k => match k with
  | 0 => .array .int
  | 1 => .array .int
  | 2 => .array .int
  | 3 => .int
  | 4 => .int
  | _ => .int
abbrev wsX30 : List Cond := u_ws RX3 TX3 6
theorem nmX3 : ∀ a, a < 6 → ∀ b, b < 6 → a ≠ b → (TX3 a).2.1 ≠ (TX3 b).2.1 := by decide +kernel
theorem tyX3_ok : ∀ k, k < 6 → parseFieldDescriptor (TX3 k).2.2.1 = some (tyX3 k) := by decide +kernel
abbrev cX3_init : ByteArray := prog_5_method_1_code
def yX3_init : MethodName := ⟨RX3, "<init>", "([I[I[IIII)V"⟩
def RX4 : String := "ScansionDesk$MetreReader"
def TX4 : u_T := fun k => match k with
  | 0 => ("ScansionDesk$MetreReader", "unitTimes", "[I", true)
  | 1 => ("ScansionDesk$MetreReader", "unitBefore", "[I", true)
  | 2 => ("ScansionDesk$MetreReader", "lastUnit", "[I", true)
  | 3 => ("ScansionDesk$MetreReader", "choiceBefore", "[I", true)
  | 4 => ("ScansionDesk$MetreReader", "lastChoice", "[I", true)
  | 5 => ("ScansionDesk$MetreReader", "kinds", "[I", true)
  | 6 => ("ScansionDesk$MetreReader", "nexts", "[I", true)
  | 7 => ("ScansionDesk$MetreReader", "others", "[I", true)
  | 8 => ("ScansionDesk$MetreReader", "fewest", "[I", true)
  | 9 => ("ScansionDesk$MetreReader", "most", "[I", true)
  | _ => ("ScansionDesk$MetreReader", "size", "I", false)
def tyX4 : Nat → FieldType := fun k => match k with
  | 0 => .array .int
  | 1 => .array .int
  | 2 => .array .int
  | 3 => .array .int
  | 4 => .array .int
  | 5 => .array .int
  | 6 => .array .int
  | 7 => .array .int
  | 8 => .array .int
  | 9 => .array .int
  | _ => .int
abbrev wsX40 : List Cond := u_ws RX4 TX4 11
theorem nmX4 : ∀ a, a < 11 → ∀ b, b < 11 → a ≠ b → (TX4 a).2.1 ≠ (TX4 b).2.1 := by decide +kernel
theorem tyX4_ok : ∀ k, k < 11 → parseFieldDescriptor (TX4 k).2.2.1 = some (tyX4 k) := by decide +kernel
abbrev cX4_init : ByteArray := prog_6_method_1_code
def yX4_init : MethodName := ⟨RX4, "<init>", "()V"⟩
abbrev cX4_readText : ByteArray := prog_6_method_2_code
def yX4_readText : MethodName := ⟨RX4, "readText", "(LScansionDesk$Tokens;)LScansionDesk$Metre;"⟩
abbrev cX4_readMetre : ByteArray := prog_6_method_3_code
def yX4_readMetre : MethodName := ⟨RX4, "readMetre", "(LScansionDesk$Tokens;II)I"⟩
abbrev cX4_readChoice : ByteArray := prog_6_method_4_code
def yX4_readChoice : MethodName := ⟨RX4, "readChoice", "(LScansionDesk$Tokens;II)I"⟩
abbrev cX4_readUnit : ByteArray := prog_6_method_5_code
def yX4_readUnit : MethodName := ⟨RX4, "readUnit", "(LScansionDesk$Tokens;II)I"⟩
abbrev cX4_isStep : ByteArray := prog_6_method_6_code
def yX4_isStep : MethodName := ⟨RX4, "isStep", "(I)Z"⟩
abbrev cX4_beginsUnit : ByteArray := prog_6_method_7_code
def yX4_beginsUnit : MethodName := ⟨RX4, "beginsUnit", "(I)Z"⟩
abbrev cX4_writeMetre : ByteArray := prog_6_method_8_code
def yX4_writeMetre : MethodName := ⟨RX4, "writeMetre", "(LScansionDesk$Tokens;III)I"⟩
abbrev cX4_writeChoice : ByteArray := prog_6_method_9_code
def yX4_writeChoice : MethodName := ⟨RX4, "writeChoice", "(LScansionDesk$Tokens;III)I"⟩
abbrev cX4_addNode : ByteArray := prog_6_method_10_code
def yX4_addNode : MethodName := ⟨RX4, "addNode", "(III)I"⟩
abbrev cX4_get : ByteArray := prog_6_method_11_code
def yX4_get : MethodName := ⟨RX4, "get", "([II)I"⟩
abbrev cX4_put : ByteArray := prog_6_method_12_code
def yX4_put : MethodName := ⟨RX4, "put", "([III)V"⟩
def RX5 : String := "ScansionDesk$Reckoner"
def TX5 : u_T := fun k => match k with
  | _ => ("ScansionDesk$Reckoner", "stack", "[I", true)
def tyX5 : Nat → FieldType := fun k => match k with
  | _ => .array .int
abbrev wsX50 : List Cond := u_ws RX5 TX5 1
theorem nmX5 : ∀ a, a < 1 → ∀ b, b < 1 → a ≠ b → (TX5 a).2.1 ≠ (TX5 b).2.1 := by decide +kernel
theorem tyX5_ok : ∀ k, k < 1 → parseFieldDescriptor (TX5 k).2.2.1 = some (tyX5 k) := by decide +kernel
abbrev cX5_init : ByteArray := prog_7_method_1_code
def yX5_init : MethodName := ⟨RX5, "<init>", "()V"⟩
abbrev cX5_reckon : ByteArray := prog_7_method_2_code
def yX5_reckon : MethodName := ⟨RX5, "reckon", "([II[I)I"⟩
abbrev cX5_combine : ByteArray := prog_7_method_3_code
def yX5_combine : MethodName := ⟨RX5, "combine", "(IJJ)I"⟩
def RX6 : String := "ScansionDesk$Scansion"
def TX6 : u_T := fun k => match k with
  | 0 => ("ScansionDesk$Scansion", "reckoner", "LScansionDesk$Reckoner;", true)
  | 1 => ("ScansionDesk$Scansion", "lawWords", "[I", true)
  | 2 => ("ScansionDesk$Scansion", "can", "[I", true)
  | 3 => ("ScansionDesk$Scansion", "costs", "[I", true)
  | 4 => ("ScansionDesk$Scansion", "prices", "[J", true)
  | 5 => ("ScansionDesk$Scansion", "flow", "[I", true)
  | 6 => ("ScansionDesk$Scansion", "here", "[J", false)
  | 7 => ("ScansionDesk$Scansion", "ahead", "[J", false)
  | 8 => ("ScansionDesk$Scansion", "size", "I", false)
  | 9 => ("ScansionDesk$Scansion", "cuts", "I", false)
  | _ => ("ScansionDesk$Scansion", "reached", "I", false)
def tyX6 : Nat → FieldType := fun k => match k with
  | 0 => .object "ScansionDesk$Reckoner"
  | 1 => .array .int
  | 2 => .array .int
  | 3 => .array .int
  | 4 => .array .long
  | 5 => .array .int
  | 6 => .array .long
  | 7 => .array .long
  | 8 => .int
  | 9 => .int
  | _ => .int
abbrev wsX60 : List Cond := u_ws RX6 TX6 11
theorem nmX6 : ∀ a, a < 11 → ∀ b, b < 11 → a ≠ b → (TX6 a).2.1 ≠ (TX6 b).2.1 := by decide +kernel
theorem tyX6_ok : ∀ k, k < 11 → parseFieldDescriptor (TX6 k).2.2.1 = some (tyX6 k) := by decide +kernel
abbrev cX6_init : ByteArray := prog_8_method_1_code
def yX6_init : MethodName := ⟨RX6, "<init>", "()V"⟩
abbrev cX6_lookAt : ByteArray := prog_8_method_2_code
def yX6_lookAt : MethodName := ⟨RX6, "lookAt", "(LScansionDesk$State;LScansionDesk$Clauses;)V"⟩
abbrev cX6_judge : ByteArray := prog_8_method_3_code
def yX6_judge : MethodName := ⟨RX6, "judge", "(LScansionDesk$Clauses;II)V"⟩
abbrev cX6_canRead : ByteArray := prog_8_method_4_code
def yX6_canRead : MethodName := ⟨RX6, "canRead", "(II)I"⟩
abbrev cX6_costOf : ByteArray := prog_8_method_5_code
def yX6_costOf : MethodName := ⟨RX6, "costOf", "(II)I"⟩
abbrev cX6_hear : ByteArray := prog_8_method_6_code
def yX6_hear : MethodName := ⟨RX6, "hear", "(LScansionDesk$State;)Z"⟩
abbrev cX6_takes : ByteArray := prog_8_method_7_code
def yX6_takes : MethodName := ⟨RX6, "takes", "(LScansionDesk$Metre;)Z"⟩
abbrev cX6_reachOf : ByteArray := prog_8_method_8_code
def yX6_reachOf : MethodName := ⟨RX6, "reachOf", "(LScansionDesk$Metre;)I"⟩
abbrev cX6_flowThrough : ByteArray := prog_8_method_9_code
def yX6_flowThrough : MethodName := ⟨RX6, "flowThrough", "(LScansionDesk$Metre;)V"⟩
abbrev cX6_spread : ByteArray := prog_8_method_10_code
def yX6_spread : MethodName := ⟨RX6, "spread", "(II)V"⟩
abbrev cX6_withElided : ByteArray := prog_8_method_11_code
def yX6_withElided : MethodName := ⟨RX6, "withElided", "(I)I"⟩
abbrev cX6_least : ByteArray := prog_8_method_12_code
def yX6_least : MethodName := ⟨RX6, "least", "(LScansionDesk$Metre;I)J"⟩
abbrev cX6_leastFrom : ByteArray := prog_8_method_13_code
def yX6_leastFrom : MethodName := ⟨RX6, "leastFrom", "(LScansionDesk$Metre;II)J"⟩
abbrev cX6_leastIn : ByteArray := prog_8_method_14_code
def yX6_leastIn : MethodName := ⟨RX6, "leastIn", "([JI)J"⟩
abbrev cX6_priceOf : ByteArray := prog_8_method_15_code
def yX6_priceOf : MethodName := ⟨RX6, "priceOf", "(II)J"⟩
abbrev cX6_setPrices : ByteArray := prog_8_method_16_code
def yX6_setPrices : MethodName := ⟨RX6, "setPrices", "(I)V"⟩
abbrev cX6_priceByCost : ByteArray := prog_8_method_17_code
def yX6_priceByCost : MethodName := ⟨RX6, "priceByCost", "(II)J"⟩
abbrev cX6_costIn : ByteArray := prog_8_method_18_code
def yX6_costIn : MethodName := ⟨RX6, "costIn", "(J)I"⟩
abbrev cX6_wayIn : ByteArray := prog_8_method_19_code
def yX6_wayIn : MethodName := ⟨RX6, "wayIn", "(JI)I"⟩
def RX7 : String := "ScansionDesk$State"
def TX7 : u_T := fun k => match k with
  | 0 => ("ScansionDesk$State", "facts", "[I", true)
  | 1 => ("ScansionDesk$State", "terms", "[I", true)
  | 2 => ("ScansionDesk$State", "heardAt", "[I", true)
  | 3 => ("ScansionDesk$State", "heardAs", "[I", true)
  | 4 => ("ScansionDesk$State", "metres", "[LScansionDesk$Metre;", true)
  | 5 => ("ScansionDesk$State", "laws", "[LScansionDesk$Clauses;", true)
  | 6 => ("ScansionDesk$State", "size", "I", false)
  | 7 => ("ScansionDesk$State", "heardCount", "I", false)
  | 8 => ("ScansionDesk$State", "metreCount", "I", false)
  | 9 => ("ScansionDesk$State", "lawCount", "I", false)
  | _ => ("ScansionDesk$State", "force", "I", false)
def tyX7 : Nat → FieldType := fun k => match k with
  | 0 => .array .int
  | 1 => .array .int
  | 2 => .array .int
  | 3 => .array .int
  | 4 => .array (.object "ScansionDesk$Metre")
  | 5 => .array (.object "ScansionDesk$Clauses")
  | 6 => .int
  | 7 => .int
  | 8 => .int
  | 9 => .int
  | _ => .int
abbrev wsX70 : List Cond := u_ws RX7 TX7 11
theorem nmX7 : ∀ a, a < 11 → ∀ b, b < 11 → a ≠ b → (TX7 a).2.1 ≠ (TX7 b).2.1 := by decide +kernel
theorem tyX7_ok : ∀ k, k < 11 → parseFieldDescriptor (TX7 k).2.2.1 = some (tyX7 k) := by decide +kernel
abbrev cX7_init : ByteArray := prog_9_method_1_code
def yX7_init : MethodName := ⟨RX7, "<init>", "()V"⟩
abbrev cX7_copyFrom : ByteArray := prog_9_method_2_code
def yX7_copyFrom : MethodName := ⟨RX7, "copyFrom", "(LScansionDesk$State;)V"⟩
abbrev cX7_isSyllable : ByteArray := prog_9_method_3_code
def yX7_isSyllable : MethodName := ⟨RX7, "isSyllable", "(III)Z"⟩
abbrev cX7_addSyllable : ByteArray := prog_9_method_4_code
def yX7_addSyllable : MethodName := ⟨RX7, "addSyllable", "(III)Z"⟩
abbrev cX7_hasSyllable : ByteArray := prog_9_method_5_code
def yX7_hasSyllable : MethodName := ⟨RX7, "hasSyllable", "(I)Z"⟩
abbrev cX7_told : ByteArray := prog_9_method_6_code
def yX7_told : MethodName := ⟨RX7, "told", "(II)I"⟩
abbrev cX7_setTold : ByteArray := prog_9_method_7_code
def yX7_setTold : MethodName := ⟨RX7, "setTold", "(III)V"⟩
abbrev cX7_turn : ByteArray := prog_9_method_8_code
def yX7_turn : MethodName := ⟨RX7, "turn", "(II)I"⟩
abbrev cX7_termOf : ByteArray := prog_9_method_9_code
def yX7_termOf : MethodName := ⟨RX7, "termOf", "(I)I"⟩
abbrev cX7_setTerm : ByteArray := prog_9_method_10_code
def yX7_setTerm : MethodName := ⟨RX7, "setTerm", "(II)V"⟩
abbrev cX7_addHeard : ByteArray := prog_9_method_11_code
def yX7_addHeard : MethodName := ⟨RX7, "addHeard", "(II)Z"⟩
abbrev cX7_heardPlace : ByteArray := prog_9_method_12_code
def yX7_heardPlace : MethodName := ⟨RX7, "heardPlace", "(I)I"⟩
abbrev cX7_heardWay : ByteArray := prog_9_method_13_code
def yX7_heardWay : MethodName := ⟨RX7, "heardWay", "(I)I"⟩
abbrev cX7_addMetre : ByteArray := prog_9_method_14_code
def yX7_addMetre : MethodName := ⟨RX7, "addMetre", "(LScansionDesk$Metre;)V"⟩
abbrev cX7_addLaw : ByteArray := prog_9_method_15_code
def yX7_addLaw : MethodName := ⟨RX7, "addLaw", "(LScansionDesk$Clauses;)V"⟩
abbrev cX7_metreAt : ByteArray := prog_9_method_16_code
def yX7_metreAt : MethodName := ⟨RX7, "metreAt", "(I)LScansionDesk$Metre;"⟩
abbrev cX7_lawAt : ByteArray := prog_9_method_17_code
def yX7_lawAt : MethodName := ⟨RX7, "lawAt", "(I)LScansionDesk$Clauses;"⟩
def RX8 : String := "ScansionDesk$Tape"
def TX8 : u_T := fun k => match k with
  | 0 => ("ScansionDesk$Tape", "bytes", "[I", true)
  | _ => ("ScansionDesk$Tape", "size", "I", false)
def tyX8 : Nat → FieldType := fun k => match k with
  | 0 => .array .int
  | _ => .int
abbrev wsX80 : List Cond := u_ws RX8 TX8 2
theorem nmX8 : ∀ a, a < 2 → ∀ b, b < 2 → a ≠ b → (TX8 a).2.1 ≠ (TX8 b).2.1 := by decide +kernel
theorem tyX8_ok : ∀ k, k < 2 → parseFieldDescriptor (TX8 k).2.2.1 = some (tyX8 k) := by decide +kernel
abbrev cX8_init : ByteArray := prog_10_method_1_code
def yX8_init : MethodName := ⟨RX8, "<init>", "()V"⟩
abbrev cX8_hasRoomForFive : ByteArray := prog_10_method_2_code
def yX8_hasRoomForFive : MethodName := ⟨RX8, "hasRoomForFive", "()Z"⟩
abbrev cX8_addFour : ByteArray := prog_10_method_3_code
def yX8_addFour : MethodName := ⟨RX8, "addFour", "(I)V"⟩
abbrev cX8_byteAt : ByteArray := prog_10_method_4_code
def yX8_byteAt : MethodName := ⟨RX8, "byteAt", "(I)I"⟩
def RX9 : String := "ScansionDesk$Tokens"
def TX9 : u_T := fun k => match k with
  | 0 => ("ScansionDesk$Tokens", "codes", "[I", true)
  | 1 => ("ScansionDesk$Tokens", "values", "[I", true)
  | 2 => ("ScansionDesk$Tokens", "places", "[I", true)
  | 3 => ("ScansionDesk$Tokens", "size", "I", false)
  | 4 => ("ScansionDesk$Tokens", "at", "I", false)
  | _ => ("ScansionDesk$Tokens", "fault", "I", false)
def tyX9 : Nat → FieldType := fun k => match k with
  | 0 => .array .int
  | 1 => .array .int
  | 2 => .array .int
  | 3 => .int
  | 4 => .int
  | _ => .int
abbrev wsX90 : List Cond := u_ws RX9 TX9 6
theorem nmX9 : ∀ a, a < 6 → ∀ b, b < 6 → a ≠ b → (TX9 a).2.1 ≠ (TX9 b).2.1 := by decide +kernel
theorem tyX9_ok : ∀ k, k < 6 → parseFieldDescriptor (TX9 k).2.2.1 = some (tyX9 k) := by decide +kernel
abbrev cX9_init : ByteArray := prog_11_method_1_code
def yX9_init : MethodName := ⟨RX9, "<init>", "()V"⟩
abbrev cX9_readTape : ByteArray := prog_11_method_2_code
def yX9_readTape : MethodName := ⟨RX9, "readTape", "(LScansionDesk$Tape;)V"⟩
abbrev cX9_addToken : ByteArray := prog_11_method_3_code
def yX9_addToken : MethodName := ⟨RX9, "addToken", "(III)V"⟩
abbrev cX9_isLetter : ByteArray := prog_11_method_4_code
def yX9_isLetter : MethodName := ⟨RX9, "isLetter", "(I)Z"⟩
abbrev cX9_isDigit : ByteArray := prog_11_method_5_code
def yX9_isDigit : MethodName := ⟨RX9, "isDigit", "(I)Z"⟩
abbrev cX9_endOfToken : ByteArray := prog_11_method_6_code
def yX9_endOfToken : MethodName := ⟨RX9, "endOfToken", "(LScansionDesk$Tape;I)I"⟩
abbrev cX9_wordCode : ByteArray := prog_11_method_7_code
def yX9_wordCode : MethodName := ⟨RX9, "wordCode", "(LScansionDesk$Tape;II)I"⟩
abbrev cX9_numberAt : ByteArray := prog_11_method_8_code
def yX9_numberAt : MethodName := ⟨RX9, "numberAt", "(LScansionDesk$Tape;II)I"⟩
abbrev cX9_codeAt : ByteArray := prog_11_method_9_code
def yX9_codeAt : MethodName := ⟨RX9, "codeAt", "(I)I"⟩
abbrev cX9_fail : ByteArray := prog_11_method_10_code
def yX9_fail : MethodName := ⟨RX9, "fail", "()V"⟩
abbrev cX9_skip : ByteArray := prog_11_method_11_code
def yX9_skip : MethodName := ⟨RX9, "skip", "(I)Z"⟩
abbrev cX9_expect : ByteArray := prog_11_method_12_code
def yX9_expect : MethodName := ⟨RX9, "expect", "(I)V"⟩
abbrev cX9_takeNumber : ByteArray := prog_11_method_13_code
def yX9_takeNumber : MethodName := ⟨RX9, "takeNumber", "(II)I"⟩
def RX10 : String := "ScansionDesk"
def TX10 : u_T := fun k => match k with
  | 0 => ("ScansionDesk", "now", "LScansionDesk$State;", true)
  | 1 => ("ScansionDesk", "aheadOfOrders", "LScansionDesk$State;", true)
  | 2 => ("ScansionDesk", "afterWeeks", "LScansionDesk$State;", true)
  | 3 => ("ScansionDesk", "images", "[LScansionDesk$State;", true)
  | 4 => ("ScansionDesk", "history", "LScansionDesk$History;", true)
  | 5 => ("ScansionDesk", "historyAheadOfOrders", "LScansionDesk$History;", true)
  | 6 => ("ScansionDesk", "tape", "LScansionDesk$Tape;", true)
  | 7 => ("ScansionDesk", "tokens", "LScansionDesk$Tokens;", true)
  | 8 => ("ScansionDesk", "metreReader", "LScansionDesk$MetreReader;", true)
  | 9 => ("ScansionDesk", "clauseReader", "LScansionDesk$ClauseReader;", true)
  | 10 => ("ScansionDesk", "reckoner", "LScansionDesk$Reckoner;", true)
  | 11 => ("ScansionDesk", "scansion", "LScansionDesk$Scansion;", true)
  | 12 => ("ScansionDesk", "orderWords", "[I", true)
  | 13 => ("ScansionDesk", "bestReadings", "[J", true)
  | 14 => ("ScansionDesk", "chances", "[J", true)
  | 15 => ("ScansionDesk", "refusals", "[I", true)
  | 16 => ("ScansionDesk", "latestRefusal", "I", false)
  | 17 => ("ScansionDesk", "latestFault", "I", false)
  | 18 => ("ScansionDesk", "latestMutes", "I", false)
  | _ => ("ScansionDesk", "latestStop", "I", false)
def tyX10 : Nat → FieldType := fun k => match k with
  | 0 => .object "ScansionDesk$State"
  | 1 => .object "ScansionDesk$State"
  | 2 => .object "ScansionDesk$State"
  | 3 => .array (.object "ScansionDesk$State")
  | 4 => .object "ScansionDesk$History"
  | 5 => .object "ScansionDesk$History"
  | 6 => .object "ScansionDesk$Tape"
  | 7 => .object "ScansionDesk$Tokens"
  | 8 => .object "ScansionDesk$MetreReader"
  | 9 => .object "ScansionDesk$ClauseReader"
  | 10 => .object "ScansionDesk$Reckoner"
  | 11 => .object "ScansionDesk$Scansion"
  | 12 => .array .int
  | 13 => .array .long
  | 14 => .array .long
  | 15 => .array .int
  | 16 => .int
  | 17 => .int
  | 18 => .int
  | _ => .int
abbrev wsX100 : List Cond := u_ws RX10 TX10 20
theorem nmX10 : ∀ a, a < 20 → ∀ b, b < 20 → a ≠ b → (TX10 a).2.1 ≠ (TX10 b).2.1 := by decide +kernel
theorem tyX10_ok : ∀ k, k < 20 → parseFieldDescriptor (TX10 k).2.2.1 = some (tyX10 k) := by decide +kernel
abbrev cX10_init : ByteArray := prog_1_method_1_code
def yX10_init : MethodName := ⟨RX10, "<init>", "()V"⟩
abbrev cX10_syllable : ByteArray := prog_1_method_2_code
def yX10_syllable : MethodName := ⟨RX10, "syllable", "(III)I"⟩
abbrev cX10_of : ByteArray := prog_1_method_3_code
def yX10_of : MethodName := ⟨RX10, "of", "(II)I"⟩
abbrev cX10_terms : ByteArray := prog_1_method_4_code
def yX10_terms : MethodName := ⟨RX10, "terms", "(II)I"⟩
abbrev cX10_feed : ByteArray := prog_1_method_5_code
def yX10_feed : MethodName := ⟨RX10, "feed", "(IIIII)I"⟩
abbrev cX10_end : ByteArray := prog_1_method_6_code
def yX10_end : MethodName := ⟨RX10, "end", "(I)I"⟩
abbrev cX10_row : ByteArray := prog_1_method_7_code
def yX10_row : MethodName := ⟨RX10, "row", "()I"⟩
abbrev cX10_mutes : ByteArray := prog_1_method_8_code
def yX10_mutes : MethodName := ⟨RX10, "mutes", "()I"⟩
abbrev cX10_metre : ByteArray := prog_1_method_9_code
def yX10_metre : MethodName := ⟨RX10, "metre", "()I"⟩
abbrev cX10_law : ByteArray := prog_1_method_10_code
def yX10_law : MethodName := ⟨RX10, "law", "()I"⟩
abbrev cX10_orders : ByteArray := prog_1_method_11_code
def yX10_orders : MethodName := ⟨RX10, "orders", "()I"⟩
abbrev cX10_fault : ByteArray := prog_1_method_12_code
def yX10_fault : MethodName := ⟨RX10, "fault", "()I"⟩
abbrev cX10_stopped : ByteArray := prog_1_method_13_code
def yX10_stopped : MethodName := ⟨RX10, "stopped", "()I"⟩
abbrev cX10_force : ByteArray := prog_1_method_14_code
def yX10_force : MethodName := ⟨RX10, "force", "(I)I"⟩
abbrev cX10_weigh : ByteArray := prog_1_method_15_code
def yX10_weigh : MethodName := ⟨RX10, "weigh", "(II)I"⟩
abbrev cX10_ends : ByteArray := prog_1_method_16_code
def yX10_ends : MethodName := ⟨RX10, "ends", "(I)I"⟩
abbrev cX10_meets : ByteArray := prog_1_method_17_code
def yX10_meets : MethodName := ⟨RX10, "meets", "(I)I"⟩
abbrev cX10_pass : ByteArray := prog_1_method_18_code
def yX10_pass : MethodName := ⟨RX10, "pass", "()I"⟩
abbrev cX10_undo : ByteArray := prog_1_method_19_code
def yX10_undo : MethodName := ⟨RX10, "undo", "()I"⟩
abbrev cX10_steps : ByteArray := prog_1_method_20_code
def yX10_steps : MethodName := ⟨RX10, "steps", "(I)I"⟩
abbrev cX10_best : ByteArray := prog_1_method_21_code
def yX10_best : MethodName := ⟨RX10, "best", "(II)I"⟩
abbrev cX10_elisions : ByteArray := prog_1_method_22_code
def yX10_elisions : MethodName := ⟨RX10, "elisions", "(I)I"⟩
abbrev cX10_mend : ByteArray := prog_1_method_23_code
def yX10_mend : MethodName := ⟨RX10, "mend", "(I)I"⟩
abbrev cX10_reach : ByteArray := prog_1_method_24_code
def yX10_reach : MethodName := ⟨RX10, "reach", "(I)I"⟩
abbrev cX10_length : ByteArray := prog_1_method_25_code
def yX10_length : MethodName := ⟨RX10, "length", "(II)I"⟩
abbrev cX10_fits : ByteArray := prog_1_method_26_code
def yX10_fits : MethodName := ⟨RX10, "fits", "()I"⟩
abbrev cX10_heard : ByteArray := prog_1_method_27_code
def yX10_heard : MethodName := ⟨RX10, "heard", "(II)I"⟩
abbrev cX10_forget : ByteArray := prog_1_method_28_code
def yX10_forget : MethodName := ⟨RX10, "forget", "()I"⟩
abbrev cX10_canBe : ByteArray := prog_1_method_29_code
def yX10_canBe : MethodName := ⟨RX10, "canBe", "()I"⟩
abbrev cX10_listen : ByteArray := prog_1_method_30_code
def yX10_listen : MethodName := ⟨RX10, "listen", "(I)I"⟩
abbrev cX10_few : ByteArray := prog_1_method_31_code
def yX10_few : MethodName := ⟨RX10, "few", "(II)J"⟩
abbrev cX10_compare : ByteArray := prog_1_method_32_code
def yX10_compare : MethodName := ⟨RX10, "compare", "(II)I"⟩
abbrev cX10_weeks : ByteArray := prog_1_method_33_code
def yX10_weeks : MethodName := ⟨RX10, "weeks", "(II)I"⟩
abbrev cX10_drawn : ByteArray := prog_1_method_34_code
def yX10_drawn : MethodName := ⟨RX10, "drawn", "(II)I"⟩
abbrev cX10_image : ByteArray := prog_1_method_35_code
def yX10_image : MethodName := ⟨RX10, "image", "(I)I"⟩
abbrev cX10_back : ByteArray := prog_1_method_36_code
def yX10_back : MethodName := ⟨RX10, "back", "(I)I"⟩
abbrev cX10_count : ByteArray := prog_1_method_37_code
def yX10_count : MethodName := ⟨RX10, "count", "(I)I"⟩
abbrev cX10_status : ByteArray := prog_1_method_38_code
def yX10_status : MethodName := ⟨RX10, "status", "()I"⟩
abbrev cX10_refuse : ByteArray := prog_1_method_39_code
def yX10_refuse : MethodName := ⟨RX10, "refuse", "(I)I"⟩
abbrev cX10_accept : ByteArray := prog_1_method_40_code
def yX10_accept : MethodName := ⟨RX10, "accept", "(I)I"⟩
abbrev cX10_settle : ByteArray := prog_1_method_41_code
def yX10_settle : MethodName := ⟨RX10, "settle", "(I)I"⟩
abbrev cX10_takingMetres : ByteArray := prog_1_method_42_code
def yX10_takingMetres : MethodName := ⟨RX10, "takingMetres", "(LScansionDesk$State;)I"⟩
abbrev cX10_fittingMetres : ByteArray := prog_1_method_43_code
def yX10_fittingMetres : MethodName := ⟨RX10, "fittingMetres", "(LScansionDesk$State;)I"⟩
abbrev cX10_bestReading : ByteArray := prog_1_method_44_code
def yX10_bestReading : MethodName := ⟨RX10, "bestReading", "(II)J"⟩
abbrev cX10_fewestBy : ByteArray := prog_1_method_45_code
def yX10_fewestBy : MethodName := ⟨RX10, "fewestBy", "(II)I"⟩
abbrev cX10_mostAlike : ByteArray := prog_1_method_46_code
def yX10_mostAlike : MethodName := ⟨RX10, "mostAlike", "(I)I"⟩
abbrev cX10_tryWeigh : ByteArray := prog_1_method_47_code
def yX10_tryWeigh : MethodName := ⟨RX10, "tryWeigh", "(II)I"⟩
abbrev cX10_tryTurn : ByteArray := prog_1_method_48_code
def yX10_tryTurn : MethodName := ⟨RX10, "tryTurn", "(II)I"⟩
abbrev cX10_tryPass : ByteArray := prog_1_method_49_code
def yX10_tryPass : MethodName := ⟨RX10, "tryPass", "()I"⟩
abbrev cX10_runOnce : ByteArray := prog_1_method_50_code
def yX10_runOnce : MethodName := ⟨RX10, "runOnce", "(LScansionDesk$Clauses;I)Z"⟩
abbrev cX10_setOrderWords : ByteArray := prog_1_method_51_code
def yX10_setOrderWords : MethodName := ⟨RX10, "setOrderWords", "(Z)V"⟩
abbrev cX10_nextDraw : ByteArray := prog_1_method_52_code
def yX10_nextDraw : MethodName := ⟨RX10, "nextDraw", "(I)I"⟩
abbrev cX10_changeByDraws : ByteArray := prog_1_method_53_code
def yX10_changeByDraws : MethodName := ⟨RX10, "changeByDraws", "(LScansionDesk$State;III)V"⟩
def RX11 : String := "ScansionDeskModel"
def TX11 : u_T := fun k => match k with
  | 0 => ("ScansionDeskModel", "thrown", "I", false)
  | 1 => ("ScansionDeskModel", "status", "I", false)
  | 2 => ("ScansionDeskModel", "refusals", "[I", true)
  | 3 => ("ScansionDeskModel", "row", "[I", true)
  | 4 => ("ScansionDeskModel", "images", "[I", true)
  | 5 => ("ScansionDeskModel", "isKept", "[Z", true)
  | 6 => ("ScansionDeskModel", "undos", "[I", true)
  | 7 => ("ScansionDeskModel", "sorts", "[I", true)
  | 8 => ("ScansionDeskModel", "nUndo", "I", false)
  | 9 => ("ScansionDeskModel", "undosBefore", "[I", true)
  | 10 => ("ScansionDeskModel", "sortsBefore", "[I", true)
  | 11 => ("ScansionDeskModel", "mutes", "I", false)
  | 12 => ("ScansionDeskModel", "tape", "[I", true)
  | 13 => ("ScansionDeskModel", "taped", "I", false)
  | 14 => ("ScansionDeskModel", "from", "I", false)
  | 15 => ("ScansionDeskModel", "to", "I", false)
  | 16 => ("ScansionDeskModel", "sort", "I", false)
  | 17 => ("ScansionDeskModel", "worth", "J", false)
  | 18 => ("ScansionDeskModel", "fault", "I", false)
  | 19 => ("ScansionDeskModel", "bad", "Z", false)
  | 20 => ("ScansionDeskModel", "ordered", "Z", false)
  | 21 => ("ScansionDeskModel", "nClauses", "I", false)
  | 22 => ("ScansionDeskModel", "nClause", "[I", true)
  | 23 => ("ScansionDeskModel", "nCode", "I", false)
  | 24 => ("ScansionDeskModel", "nOp", "[I", true)
  | 25 => ("ScansionDeskModel", "nArg", "[I", true)
  | 26 => ("ScansionDeskModel", "nLeaves", "I", false)
  | 27 => ("ScansionDeskModel", "pile", "[I", true)
  | 28 => ("ScansionDeskModel", "pileAt", "[I", true)
  | 29 => ("ScansionDeskModel", "piled", "I", false)
  | 30 => ("ScansionDeskModel", "opened", "I", false)
  | 31 => ("ScansionDeskModel", "words", "[J", true)
  | 32 => ("ScansionDeskModel", "orderWords", "[J", true)
  | 33 => ("ScansionDeskModel", "heads", "[J", true)
  | 34 => ("ScansionDeskModel", "law", "I", false)
  | 35 => ("ScansionDeskModel", "set", "[J", true)
  | 36 => ("ScansionDeskModel", "now", "[J", true)
  | 37 => ("ScansionDeskModel", "rest", "[J", true)
  | 38 => ("ScansionDeskModel", "broken", "Z", false)
  | 39 => ("ScansionDeskModel", "value", "J", false)
  | 40 => ("ScansionDeskModel", "fitsNow", "I", false)
  | 41 => ("ScansionDeskModel", "sum", "J", false)
  | 42 => ("ScansionDeskModel", "stepWords", "[J", true)
  | 43 => ("ScansionDeskModel", "raw", "[I", true)
  | 44 => ("ScansionDeskModel", "nRaw", "I", false)
  | 45 => ("ScansionDeskModel", "units", "[I", true)
  | 46 => ("ScansionDeskModel", "choices", "[I", true)
  | 47 => ("ScansionDeskModel", "deep", "I", false)
  | 48 => ("ScansionDeskModel", "heap", "[I", true)
  | 49 => ("ScansionDeskModel", "full", "[I", true)
  | 50 => ("ScansionDeskModel", "steps", "[I", true)
  | 51 => ("ScansionDeskModel", "nSteps", "I", false)
  | 52 => ("ScansionDeskModel", "follows", "[Z", true)
  | 53 => ("ScansionDeskModel", "isFirst", "[Z", true)
  | 54 => ("ScansionDeskModel", "isLast", "[Z", true)
  | 55 => ("ScansionDeskModel", "prices", "[I", true)
  | 56 => ("ScansionDeskModel", "left", "[I", true)
  | 57 => ("ScansionDeskModel", "states", "[Z", true)
  | 58 => ("ScansionDeskModel", "statesThen", "[Z", true)
  | 59 => ("ScansionDeskModel", "reading", "[I", true)
  | 60 => ("ScansionDeskModel", "reached", "[Z", true)
  | 61 => ("ScansionDeskModel", "readings", "[I", true)
  | 62 => ("ScansionDeskModel", "parts", "[J", true)
  | 63 => ("ScansionDeskModel", "acts", "[J", true)
  | 64 => ("ScansionDeskModel", "nOrder", "[I", true)
  | 65 => ("ScansionDeskModel", "done", "I", false)
  | 66 => ("ScansionDeskModel", "latest", "I", false)
  | 67 => ("ScansionDeskModel", "stopped", "I", false)
  | 68 => ("ScansionDeskModel", "off", "Z", false)
  | 69 => ("ScansionDeskModel", "state", "J", false)
  | 70 => ("ScansionDeskModel", "drawn", "[I", true)
  | _ => ("ScansionDeskModel", "drawnSyllables", "I", false)
def tyX11 : Nat → FieldType := fun k => match k with
  | 0 => .int
  | 1 => .int
  | 2 => .array .int
  | 3 => .array .int
  | 4 => .array .int
  | 5 => .array .boolean
  | 6 => .array .int
  | 7 => .array .int
  | 8 => .int
  | 9 => .array .int
  | 10 => .array .int
  | 11 => .int
  | 12 => .array .int
  | 13 => .int
  | 14 => .int
  | 15 => .int
  | 16 => .int
  | 17 => .long
  | 18 => .int
  | 19 => .boolean
  | 20 => .boolean
  | 21 => .int
  | 22 => .array .int
  | 23 => .int
  | 24 => .array .int
  | 25 => .array .int
  | 26 => .int
  | 27 => .array .int
  | 28 => .array .int
  | 29 => .int
  | 30 => .int
  | 31 => .array .long
  | 32 => .array .long
  | 33 => .array .long
  | 34 => .int
  | 35 => .array .long
  | 36 => .array .long
  | 37 => .array .long
  | 38 => .boolean
  | 39 => .long
  | 40 => .int
  | 41 => .long
  | 42 => .array .long
  | 43 => .array .int
  | 44 => .int
  | 45 => .array .int
  | 46 => .array .int
  | 47 => .int
  | 48 => .array .int
  | 49 => .array .int
  | 50 => .array .int
  | 51 => .int
  | 52 => .array .boolean
  | 53 => .array .boolean
  | 54 => .array .boolean
  | 55 => .array .int
  | 56 => .array .int
  | 57 => .array .boolean
  | 58 => .array .boolean
  | 59 => .array .int
  | 60 => .array .boolean
  | 61 => .array .int
  | 62 => .array .long
  | 63 => .array .long
  | 64 => .array .int
  | 65 => .int
  | 66 => .int
  | 67 => .int
  | 68 => .boolean
  | 69 => .long
  | 70 => .array .int
  | _ => .int
abbrev wsX110 : List Cond := u_ws RX11 TX11 72
theorem nmX11 : ∀ a, a < 72 → ∀ b, b < 72 → a ≠ b → (TX11 a).2.1 ≠ (TX11 b).2.1 := by decide +kernel
theorem tyX11_ok : ∀ k, k < 72 → parseFieldDescriptor (TX11 k).2.2.1 = some (tyX11 k) := by decide +kernel
abbrev cX11_init : ByteArray := prog_13_method_1_code
def yX11_init : MethodName := ⟨RX11, "<init>", "()V"⟩
abbrev cX11_in : ByteArray := prog_13_method_3_code
def yX11_in : MethodName := ⟨RX11, "in", "(JJJ)Z"⟩
abbrev cX11_is : ByteArray := prog_13_method_4_code
def yX11_is : MethodName := ⟨RX11, "is", "(II)Z"⟩
abbrev cX11_bounded : ByteArray := prog_13_method_5_code
def yX11_bounded : MethodName := ⟨RX11, "bounded", "(JII)I"⟩
abbrev cX11_tell : ByteArray := prog_13_method_6_code
def yX11_tell : MethodName := ⟨RX11, "tell", "(I)I"⟩
abbrev cX11_change : ByteArray := prog_13_method_7_code
def yX11_change : MethodName := ⟨RX11, "change", "(II)I"⟩
abbrev cX11_lasting : ByteArray := prog_13_method_8_code
def yX11_lasting : MethodName := ⟨RX11, "lasting", "(I)I"⟩
abbrev cX11_keepAll : ByteArray := prog_13_method_9_code
def yX11_keepAll : MethodName := ⟨RX11, "keepAll", "(I)V"⟩
abbrev cX11_putBack : ByteArray := prog_13_method_10_code
def yX11_putBack : MethodName := ⟨RX11, "putBack", "(I)V"⟩
abbrev cX11_remember : ByteArray := prog_13_method_11_code
def yX11_remember : MethodName := ⟨RX11, "remember", "(I)V"⟩
abbrev cX11_undo : ByteArray := prog_13_method_12_code
def yX11_undo : MethodName := ⟨RX11, "undo", "()I"⟩
abbrev cX11_image : ByteArray := prog_13_method_13_code
def yX11_image : MethodName := ⟨RX11, "image", "(I)I"⟩
abbrev cX11_back : ByteArray := prog_13_method_14_code
def yX11_back : MethodName := ⟨RX11, "back", "(I)I"⟩
abbrev cX11_isSyllable : ByteArray := prog_13_method_15_code
def yX11_isSyllable : MethodName := ⟨RX11, "isSyllable", "(I)Z"⟩
abbrev cX11_isMetre : ByteArray := prog_13_method_16_code
def yX11_isMetre : MethodName := ⟨RX11, "isMetre", "(I)Z"⟩
abbrev cX11_comes : ByteArray := prog_13_method_17_code
def yX11_comes : MethodName := ⟨RX11, "comes", "(III)I"⟩
abbrev cX11_syllable : ByteArray := prog_13_method_18_code
def yX11_syllable : MethodName := ⟨RX11, "syllable", "(III)I"⟩
abbrev cX11_of : ByteArray := prog_13_method_19_code
def yX11_of : MethodName := ⟨RX11, "of", "(II)I"⟩
abbrev cX11_terms : ByteArray := prog_13_method_20_code
def yX11_terms : MethodName := ⟨RX11, "terms", "(II)I"⟩
abbrev cX11_row : ByteArray := prog_13_method_21_code
def yX11_row : MethodName := ⟨RX11, "row", "()I"⟩
abbrev cX11_mutes : ByteArray := prog_13_method_22_code
def yX11_mutes : MethodName := ⟨RX11, "mutes", "()I"⟩
abbrev cX11_four : ByteArray := prog_13_method_23_code
def yX11_four : MethodName := ⟨RX11, "four", "(I)V"⟩
abbrev cX11_feed : ByteArray := prog_13_method_24_code
def yX11_feed : MethodName := ⟨RX11, "feed", "(IIIII)I"⟩
abbrev cX11_end : ByteArray := prog_13_method_25_code
def yX11_end : MethodName := ⟨RX11, "end", "(I)I"⟩
abbrev cX11_isSmall : ByteArray := prog_13_method_26_code
def yX11_isSmall : MethodName := ⟨RX11, "isSmall", "(I)Z"⟩
abbrev cX11_isDigit : ByteArray := prog_13_method_27_code
def yX11_isDigit : MethodName := ⟨RX11, "isDigit", "(I)Z"⟩
abbrev cX11_begin : ByteArray := prog_13_method_28_code
def yX11_begin : MethodName := ⟨RX11, "begin", "()V"⟩
abbrev cX11_next : ByteArray := prog_13_method_29_code
def yX11_next : MethodName := ⟨RX11, "next", "()V"⟩
abbrev cX11_isWord : ByteArray := prog_13_method_30_code
def yX11_isWord : MethodName := ⟨RX11, "isWord", "(J)Z"⟩
abbrev cX11_isSign : ByteArray := prog_13_method_31_code
def yX11_isSign : MethodName := ⟨RX11, "isSign", "(I)Z"⟩
abbrev cX11_must : ByteArray := prog_13_method_32_code
def yX11_must : MethodName := ⟨RX11, "must", "(Z)V"⟩
abbrev cX11_number : ByteArray := prog_13_method_33_code
def yX11_number : MethodName := ⟨RX11, "number", "(JJ)I"⟩
abbrev cX11_fault : ByteArray := prog_13_method_34_code
def yX11_fault : MethodName := ⟨RX11, "fault", "()I"⟩
abbrev cX11_emit : ByteArray := prog_13_method_35_code
def yX11_emit : MethodName := ⟨RX11, "emit", "(II)V"⟩
abbrev cX11_push : ByteArray := prog_13_method_36_code
def yX11_push : MethodName := ⟨RX11, "push", "(II)V"⟩
abbrev cX11_binds : ByteArray := prog_13_method_37_code
def yX11_binds : MethodName := ⟨RX11, "binds", "(I)I"⟩
abbrev cX11_settle : ByteArray := prog_13_method_38_code
def yX11_settle : MethodName := ⟨RX11, "settle", "(I)V"⟩
abbrev cX11_inner : ByteArray := prog_13_method_39_code
def yX11_inner : MethodName := ⟨RX11, "inner", "()I"⟩
abbrev cX11_isCompared : ByteArray := prog_13_method_40_code
def yX11_isCompared : MethodName := ⟨RX11, "isCompared", "()Z"⟩
abbrev cX11_partAt : ByteArray := prog_13_method_41_code
def yX11_partAt : MethodName := ⟨RX11, "partAt", "()I"⟩
abbrev cX11_orderPartAt : ByteArray := prog_13_method_42_code
def yX11_orderPartAt : MethodName := ⟨RX11, "orderPartAt", "()I"⟩
abbrev cX11_openBracket : ByteArray := prog_13_method_43_code
def yX11_openBracket : MethodName := ⟨RX11, "openBracket", "(I)V"⟩
abbrev cX11_leaf : ByteArray := prog_13_method_44_code
def yX11_leaf : MethodName := ⟨RX11, "leaf", "(ZII)V"⟩
abbrev cX11_readPart : ByteArray := prog_13_method_45_code
def yX11_readPart : MethodName := ⟨RX11, "readPart", "()I"⟩
abbrev cX11_readPlain : ByteArray := prog_13_method_46_code
def yX11_readPlain : MethodName := ⟨RX11, "readPlain", "()I"⟩
abbrev cX11_behindSum : ByteArray := prog_13_method_47_code
def yX11_behindSum : MethodName := ⟨RX11, "behindSum", "(Z)I"⟩
abbrev cX11_behindTest : ByteArray := prog_13_method_48_code
def yX11_behindTest : MethodName := ⟨RX11, "behindTest", "()I"⟩
abbrev cX11_readExpression : ByteArray := prog_13_method_49_code
def yX11_readExpression : MethodName := ⟨RX11, "readExpression", "(Z)V"⟩
abbrev cX11_beginText : ByteArray := prog_13_method_50_code
def yX11_beginText : MethodName := ⟨RX11, "beginText", "(Z)V"⟩
abbrev cX11_endText : ByteArray := prog_13_method_51_code
def yX11_endText : MethodName := ⟨RX11, "endText", "()V"⟩
abbrev cX11_readLaw : ByteArray := prog_13_method_52_code
def yX11_readLaw : MethodName := ⟨RX11, "readLaw", "()V"⟩
abbrev cX11_law : ByteArray := prog_13_method_53_code
def yX11_law : MethodName := ⟨RX11, "law", "()I"⟩
abbrev cX11_isLaw : ByteArray := prog_13_method_54_code
def yX11_isLaw : MethodName := ⟨RX11, "isLaw", "(I)Z"⟩
abbrev cX11_force : ByteArray := prog_13_method_55_code
def yX11_force : MethodName := ⟨RX11, "force", "(I)I"⟩
abbrev cX11_reckon : ByteArray := prog_13_method_56_code
def yX11_reckon : MethodName := ⟨RX11, "reckon", "(IJJ)J"⟩
abbrev cX11_reckonAll : ByteArray := prog_13_method_57_code
def yX11_reckonAll : MethodName := ⟨RX11, "reckonAll", "(II)V"⟩
abbrev cX11_isSo : ByteArray := prog_13_method_58_code
def yX11_isSo : MethodName := ⟨RX11, "isSo", "(I)Z"⟩
abbrev cX11_tells : ByteArray := prog_13_method_59_code
def yX11_tells : MethodName := ⟨RX11, "tells", "(IIIJ)J"⟩
abbrev cX11_canRead : ByteArray := prog_13_method_60_code
def yX11_canRead : MethodName := ⟨RX11, "canRead", "(II)Z"⟩
abbrev cX11_costsAs : ByteArray := prog_13_method_61_code
def yX11_costsAs : MethodName := ⟨RX11, "costsAs", "(II)I"⟩
abbrev cX11_sign : ByteArray := prog_13_method_62_code
def yX11_sign : MethodName := ⟨RX11, "sign", "(I)V"⟩
abbrev cX11_stepAt : ByteArray := prog_13_method_63_code
def yX11_stepAt : MethodName := ⟨RX11, "stepAt", "()I"⟩
abbrev cX11_beginMetre : ByteArray := prog_13_method_64_code
def yX11_beginMetre : MethodName := ⟨RX11, "beginMetre", "()V"⟩
abbrev cX11_endUnit : ByteArray := prog_13_method_65_code
def yX11_endUnit : MethodName := ⟨RX11, "endUnit", "()V"⟩
abbrev cX11_endChoice : ByteArray := prog_13_method_66_code
def yX11_endChoice : MethodName := ⟨RX11, "endChoice", "()V"⟩
abbrev cX11_beginUnit : ByteArray := prog_13_method_67_code
def yX11_beginUnit : MethodName := ⟨RX11, "beginUnit", "()Z"⟩
abbrev cX11_readMetre : ByteArray := prog_13_method_68_code
def yX11_readMetre : MethodName := ⟨RX11, "readMetre", "()V"⟩
abbrev cX11_stepsOfRaw : ByteArray := prog_13_method_69_code
def yX11_stepsOfRaw : MethodName := ⟨RX11, "stepsOfRaw", "()I"⟩
abbrev cX11_writeOut : ByteArray := prog_13_method_70_code
def yX11_writeOut : MethodName := ⟨RX11, "writeOut", "()I"⟩
abbrev cX11_repeat : ByteArray := prog_13_method_71_code
def yX11_repeat : MethodName := ⟨RX11, "repeat", "(III)I"⟩
abbrev cX11_metre : ByteArray := prog_13_method_72_code
def yX11_metre : MethodName := ⟨RX11, "metre", "()I"⟩
abbrev cX11_layMetre : ByteArray := prog_13_method_73_code
def yX11_layMetre : MethodName := ⟨RX11, "layMetre", "(I)V"⟩
abbrev cX11_join : ByteArray := prog_13_method_74_code
def yX11_join : MethodName := ⟨RX11, "join", "(III)V"⟩
abbrev cX11_isOver : ByteArray := prog_13_method_75_code
def yX11_isOver : MethodName := ⟨RX11, "isOver", "(I)Z"⟩
abbrev cX11_layPrices : ByteArray := prog_13_method_76_code
def yX11_layPrices : MethodName := ⟨RX11, "layPrices", "(I)V"⟩
abbrev cX11_stepPrice : ByteArray := prog_13_method_77_code
def yX11_stepPrice : MethodName := ⟨RX11, "stepPrice", "(II)I"⟩
abbrev cX11_canCut : ByteArray := prog_13_method_78_code
def yX11_canCut : MethodName := ⟨RX11, "canCut", "(I)Z"⟩
abbrev cX11_leftFrom : ByteArray := prog_13_method_79_code
def yX11_leftFrom : MethodName := ⟨RX11, "leftFrom", "(II)I"⟩
abbrev cX11_layLeft : ByteArray := prog_13_method_80_code
def yX11_layLeft : MethodName := ⟨RX11, "layLeft", "()I"⟩
abbrev cX11_leastOf : ByteArray := prog_13_method_81_code
def yX11_leastOf : MethodName := ⟨RX11, "leastOf", "(II)I"⟩
abbrev cX11_passCuts : ByteArray := prog_13_method_82_code
def yX11_passCuts : MethodName := ⟨RX11, "passCuts", "(II)V"⟩
abbrev cX11_goesAs : ByteArray := prog_13_method_83_code
def yX11_goesAs : MethodName := ⟨RX11, "goesAs", "(II)Z"⟩
abbrev cX11_layThen : ByteArray := prog_13_method_84_code
def yX11_layThen : MethodName := ⟨RX11, "layThen", "(III)Z"⟩
abbrev cX11_readBest : ByteArray := prog_13_method_85_code
def yX11_readBest : MethodName := ⟨RX11, "readBest", "()V"⟩
abbrev cX11_steps : ByteArray := prog_13_method_86_code
def yX11_steps : MethodName := ⟨RX11, "steps", "(I)I"⟩
abbrev cX11_best : ByteArray := prog_13_method_87_code
def yX11_best : MethodName := ⟨RX11, "best", "(II)I"⟩
abbrev cX11_elisions : ByteArray := prog_13_method_88_code
def yX11_elisions : MethodName := ⟨RX11, "elisions", "(I)I"⟩
abbrev cX11_mend : ByteArray := prog_13_method_89_code
def yX11_mend : MethodName := ⟨RX11, "mend", "(I)I"⟩
abbrev cX11_isReached : ByteArray := prog_13_method_90_code
def yX11_isReached : MethodName := ⟨RX11, "isReached", "(II)Z"⟩
abbrev cX11_reach : ByteArray := prog_13_method_91_code
def yX11_reach : MethodName := ⟨RX11, "reach", "(I)I"⟩
abbrev cX11_length : ByteArray := prog_13_method_92_code
def yX11_length : MethodName := ⟨RX11, "length", "(II)I"⟩
abbrev cX11_fitting : ByteArray := prog_13_method_93_code
def yX11_fitting : MethodName := ⟨RX11, "fitting", "()I"⟩
abbrev cX11_many : ByteArray := prog_13_method_94_code
def yX11_many : MethodName := ⟨RX11, "many", "(I)I"⟩
abbrev cX11_fits : ByteArray := prog_13_method_95_code
def yX11_fits : MethodName := ⟨RX11, "fits", "()I"⟩
abbrev cX11_compare : ByteArray := prog_13_method_96_code
def yX11_compare : MethodName := ⟨RX11, "compare", "(II)I"⟩
abbrev cX11_weighNow : ByteArray := prog_13_method_97_code
def yX11_weighNow : MethodName := ⟨RX11, "weighNow", "(II)I"⟩
abbrev cX11_weigh : ByteArray := prog_13_method_98_code
def yX11_weigh : MethodName := ⟨RX11, "weigh", "(II)I"⟩
abbrev cX11_toggle : ByteArray := prog_13_method_99_code
def yX11_toggle : MethodName := ⟨RX11, "toggle", "(III)I"⟩
abbrev cX11_ends : ByteArray := prog_13_method_100_code
def yX11_ends : MethodName := ⟨RX11, "ends", "(I)I"⟩
abbrev cX11_meets : ByteArray := prog_13_method_101_code
def yX11_meets : MethodName := ⟨RX11, "meets", "(I)I"⟩
abbrev cX11_passNow : ByteArray := prog_13_method_102_code
def yX11_passNow : MethodName := ⟨RX11, "passNow", "()I"⟩
abbrev cX11_pass : ByteArray := prog_13_method_103_code
def yX11_pass : MethodName := ⟨RX11, "pass", "()I"⟩
abbrev cX11_heard : ByteArray := prog_13_method_104_code
def yX11_heard : MethodName := ⟨RX11, "heard", "(II)I"⟩
abbrev cX11_forget : ByteArray := prog_13_method_105_code
def yX11_forget : MethodName := ⟨RX11, "forget", "()I"⟩
abbrev cX11_isHeard : ByteArray := prog_13_method_106_code
def yX11_isHeard : MethodName := ⟨RX11, "isHeard", "(I)Z"⟩
abbrev cX11_thatCanBe : ByteArray := prog_13_method_107_code
def yX11_thatCanBe : MethodName := ⟨RX11, "thatCanBe", "()I"⟩
abbrev cX11_canBe : ByteArray := prog_13_method_108_code
def yX11_canBe : MethodName := ⟨RX11, "canBe", "()I"⟩
abbrev cX11_mostAlike : ByteArray := prog_13_method_109_code
def yX11_mostAlike : MethodName := ⟨RX11, "mostAlike", "(II)I"⟩
abbrev cX11_listen : ByteArray := prog_13_method_110_code
def yX11_listen : MethodName := ⟨RX11, "listen", "(I)I"⟩
abbrev cX11_few : ByteArray := prog_13_method_111_code
def yX11_few : MethodName := ⟨RX11, "few", "(II)J"⟩
abbrev cX11_readSum : ByteArray := prog_13_method_112_code
def yX11_readSum : MethodName := ⟨RX11, "readSum", "(I)V"⟩
abbrev cX11_readOrder : ByteArray := prog_13_method_113_code
def yX11_readOrder : MethodName := ⟨RX11, "readOrder", "()V"⟩
abbrev cX11_sumOf : ByteArray := prog_13_method_114_code
def yX11_sumOf : MethodName := ⟨RX11, "sumOf", "(I)I"⟩
abbrev cX11_act : ByteArray := prog_13_method_115_code
def yX11_act : MethodName := ⟨RX11, "act", "(III)I"⟩
abbrev cX11_run : ByteArray := prog_13_method_116_code
def yX11_run : MethodName := ⟨RX11, "run", "(I)I"⟩
abbrev cX11_orders : ByteArray := prog_13_method_117_code
def yX11_orders : MethodName := ⟨RX11, "orders", "()I"⟩
abbrev cX11_giveBack : ByteArray := prog_13_method_118_code
def yX11_giveBack : MethodName := ⟨RX11, "giveBack", "(I)V"⟩
abbrev cX11_stopped : ByteArray := prog_13_method_119_code
def yX11_stopped : MethodName := ⟨RX11, "stopped", "()I"⟩
abbrev cX11_draw : ByteArray := prog_13_method_120_code
def yX11_draw : MethodName := ⟨RX11, "draw", "(I)I"⟩
abbrev cX11_weeks : ByteArray := prog_13_method_121_code
def yX11_weeks : MethodName := ⟨RX11, "weeks", "(II)I"⟩
abbrev cX11_drawn : ByteArray := prog_13_method_122_code
def yX11_drawn : MethodName := ⟨RX11, "drawn", "(II)I"⟩
abbrev cX11_count : ByteArray := prog_13_method_123_code
def yX11_count : MethodName := ⟨RX11, "count", "(I)I"⟩
abbrev cX11_status : ByteArray := prog_13_method_124_code
def yX11_status : MethodName := ⟨RX11, "status", "()I"⟩
def RJx145de : String := "java/io/Serializable"
def TJx145de : u_T := fun k => match k with
  | _ => ("", "", "", false)
def tyJx145de : Nat → FieldType := fun k => match k with
  | _ => .int
abbrev wsJx145de0 : List Cond := u_ws RJx145de TJx145de 0
theorem nmJx145de : ∀ a, a < 0 → ∀ b, b < 0 → a ≠ b → (TJx145de a).2.1 ≠ (TJx145de b).2.1 := by decide +kernel
theorem tyJx145de_ok : ∀ k, k < 0 → parseFieldDescriptor (TJx145de k).2.2.1 = some (tyJx145de k) := by decide +kernel
def RJx9f9b0 : String := "java/lang/CharSequence"
def TJx9f9b0 : u_T := fun k => match k with
  | _ => ("", "", "", false)
def tyJx9f9b0 : Nat → FieldType := fun k => match k with
  | _ => .int
abbrev wsJx9f9b00 : List Cond := u_ws RJx9f9b0 TJx9f9b0 0
theorem nmJx9f9b0 : ∀ a, a < 0 → ∀ b, b < 0 → a ≠ b → (TJx9f9b0 a).2.1 ≠ (TJx9f9b0 b).2.1 := by decide +kernel
theorem tyJx9f9b0_ok : ∀ k, k < 0 → parseFieldDescriptor (TJx9f9b0 k).2.2.1 = some (tyJx9f9b0 k) := by decide +kernel
def RJx8e188 : String := "java/lang/Cloneable"
def TJx8e188 : u_T := fun k => match k with
  | _ => ("", "", "", false)
def tyJx8e188 : Nat → FieldType := fun k => match k with
  | _ => .int
abbrev wsJx8e1880 : List Cond := u_ws RJx8e188 TJx8e188 0
theorem nmJx8e188 : ∀ a, a < 0 → ∀ b, b < 0 → a ≠ b → (TJx8e188 a).2.1 ≠ (TJx8e188 b).2.1 := by decide +kernel
theorem tyJx8e188_ok : ∀ k, k < 0 → parseFieldDescriptor (TJx8e188 k).2.2.1 = some (tyJx8e188 k) := by decide +kernel
def RJxb160c : String := "java/lang/Comparable"
def TJxb160c : u_T := fun k => match k with
  | _ => ("", "", "", false)
def tyJxb160c : Nat → FieldType := fun k => match k with
  | _ => .int
abbrev wsJxb160c0 : List Cond := u_ws RJxb160c TJxb160c 0
theorem nmJxb160c : ∀ a, a < 0 → ∀ b, b < 0 → a ≠ b → (TJxb160c a).2.1 ≠ (TJxb160c b).2.1 := by decide +kernel
theorem tyJxb160c_ok : ∀ k, k < 0 → parseFieldDescriptor (TJxb160c k).2.2.1 = some (tyJxb160c k) := by decide +kernel
def RJ6 : String := "java/lang/Integer"
def TJ6 : u_T := fun k => match k with
  | _ => ("", "", "", false)
def tyJ6 : Nat → FieldType := fun k => match k with
  | _ => .int
abbrev wsJ60 : List Cond := u_ws RJ6 TJ6 0
theorem nmJ6 : ∀ a, a < 0 → ∀ b, b < 0 → a ≠ b → (TJ6 a).2.1 ≠ (TJ6 b).2.1 := by decide +kernel
theorem tyJ6_ok : ∀ k, k < 0 → parseFieldDescriptor (TJ6 k).2.2.1 = some (tyJ6 k) := by decide +kernel
abbrev cJ6_bitCount_0f7a4 : ByteArray := prog_15_method_49_code
def yJ6_bitCount_0f7a4 : MethodName := ⟨RJ6, "bitCount", "(I)I"⟩
def RJ9 : String := "java/lang/Math"
def TJ9 : u_T := fun k => match k with
  | _ => ("", "", "", false)
def tyJ9 : Nat → FieldType := fun k => match k with
  | _ => .int
abbrev wsJ90 : List Cond := u_ws RJ9 TJ9 0
theorem nmJ9 : ∀ a, a < 0 → ∀ b, b < 0 → a ≠ b → (TJ9 a).2.1 ≠ (TJ9 b).2.1 := by decide +kernel
theorem tyJ9_ok : ∀ k, k < 0 → parseFieldDescriptor (TJ9 k).2.2.1 = some (tyJ9 k) := by decide +kernel
abbrev cJ9_max_7cf53 : ByteArray := prog_16_method_65_code
def yJ9_max_7cf53 : MethodName := ⟨RJ9, "max", "(II)I"⟩
abbrev cJ9_min_7cf53 : ByteArray := prog_16_method_69_code
def yJ9_min_7cf53 : MethodName := ⟨RJ9, "min", "(II)I"⟩
abbrev cJ9_min_f86c9 : ByteArray := prog_16_method_70_code
def yJ9_min_f86c9 : MethodName := ⟨RJ9, "min", "(JJ)J"⟩
def RJ0 : String := "java/lang/String"
def TJ0 : u_T := fun k => match k with
  | _ => ("", "", "", false)
def tyJ0 : Nat → FieldType := fun k => match k with
  | _ => .int
abbrev wsJ00 : List Cond := u_ws RJ0 TJ0 0
theorem nmJ0 : ∀ a, a < 0 → ∀ b, b < 0 → a ≠ b → (TJ0 a).2.1 ≠ (TJ0 b).2.1 := by decide +kernel
theorem tyJ0_ok : ∀ k, k < 0 → parseFieldDescriptor (TJ0 k).2.2.1 = some (tyJ0 k) := by decide +kernel
abbrev cJ0_length_8abf5 : ByteArray := prog_17_method_54_code
def yJ0_length_8abf5 : MethodName := ⟨RJ0, "length", "()I"⟩
abbrev cJ0_charAt_5068e : ByteArray := prog_17_method_56_code
def yJ0_charAt_5068e : MethodName := ⟨RJ0, "charAt", "(I)C"⟩
abbrev cJ0_coder_7d493 : ByteArray := prog_17_method_152_code
def yJ0_coder_7d493 : MethodName := ⟨RJ0, "coder", "()B"⟩
abbrev cJ0_isLatin1_aae02 : ByteArray := prog_17_method_154_code
def yJ0_isLatin1_aae02 : MethodName := ⟨RJ0, "isLatin1", "()Z"⟩
abbrev cJ0_checkIndex_df160 : ByteArray := prog_17_method_155_code
def yJ0_checkIndex_df160 : MethodName := ⟨RJ0, "checkIndex", "(II)V"⟩
def RJ1 : String := "java/lang/StringLatin1"
def TJ1 : u_T := fun k => match k with
  | _ => ("", "", "", false)
def tyJ1 : Nat → FieldType := fun k => match k with
  | _ => .int
abbrev wsJ10 : List Cond := u_ws RJ1 TJ1 0
theorem nmJ1 : ∀ a, a < 0 → ∀ b, b < 0 → a ≠ b → (TJ1 a).2.1 ≠ (TJ1 b).2.1 := by decide +kernel
theorem tyJ1_ok : ∀ k, k < 0 → parseFieldDescriptor (TJ1 k).2.2.1 = some (tyJ1 k) := by decide +kernel
abbrev cJ1_charAt_3b067 : ByteArray := prog_18_method_2_code
def yJ1_charAt_3b067 : MethodName := ⟨RJ1, "charAt", "([BI)C"⟩
def RJ2 : String := "java/lang/StringUTF16"
def TJ2 : u_T := fun k => match k with
  | _ => ("", "", "", false)
def tyJ2 : Nat → FieldType := fun k => match k with
  | _ => .int
abbrev wsJ20 : List Cond := u_ws RJ2 TJ2 0
theorem nmJ2 : ∀ a, a < 0 → ∀ b, b < 0 → a ≠ b → (TJ2 a).2.1 ≠ (TJ2 b).2.1 := by decide +kernel
theorem tyJ2_ok : ∀ k, k < 0 → parseFieldDescriptor (TJ2 k).2.2.1 = some (tyJ2 k) := by decide +kernel
abbrev cJ2_getChar_3b067 : ByteArray := prog_19_method_5_code
def yJ2_getChar_3b067 : MethodName := ⟨RJ2, "getChar", "([BI)C"⟩
abbrev cJ2_length_9d52b : ByteArray := prog_19_method_6_code
def yJ2_length_9d52b : MethodName := ⟨RJ2, "length", "([B)I"⟩
abbrev cJ2_charAt_3b067 : ByteArray := prog_19_method_83_code
def yJ2_charAt_3b067 : MethodName := ⟨RJ2, "charAt", "([BI)C"⟩
abbrev cJ2_checkIndex_2214a : ByteArray := prog_19_method_91_code
def yJ2_checkIndex_2214a : MethodName := ⟨RJ2, "checkIndex", "(I[B)V"⟩
def RJ10 : String := "java/lang/System"
def TJ10 : u_T := fun k => match k with
  | _ => ("", "", "", false)
def tyJ10 : Nat → FieldType := fun k => match k with
  | _ => .int
abbrev wsJ100 : List Cond := u_ws RJ10 TJ10 0
theorem nmJ10 : ∀ a, a < 0 → ∀ b, b < 0 → a ≠ b → (TJ10 a).2.1 ≠ (TJ10 b).2.1 := by decide +kernel
theorem tyJ10_ok : ∀ k, k < 0 → parseFieldDescriptor (TJ10 k).2.2.1 = some (tyJ10 k) := by decide +kernel
def RJxfd54e : String := "java/lang/constant/Constable"
def TJxfd54e : u_T := fun k => match k with
  | _ => ("", "", "", false)
def tyJxfd54e : Nat → FieldType := fun k => match k with
  | _ => .int
abbrev wsJxfd54e0 : List Cond := u_ws RJxfd54e TJxfd54e 0
theorem nmJxfd54e : ∀ a, a < 0 → ∀ b, b < 0 → a ≠ b → (TJxfd54e a).2.1 ≠ (TJxfd54e b).2.1 := by decide +kernel
theorem tyJxfd54e_ok : ∀ k, k < 0 → parseFieldDescriptor (TJxfd54e k).2.2.1 = some (tyJxfd54e k) := by decide +kernel
def RJx3cf43 : String := "java/lang/constant/ConstantDesc"
def TJx3cf43 : u_T := fun k => match k with
  | _ => ("", "", "", false)
def tyJx3cf43 : Nat → FieldType := fun k => match k with
  | _ => .int
abbrev wsJx3cf430 : List Cond := u_ws RJx3cf43 TJx3cf43 0
theorem nmJx3cf43 : ∀ a, a < 0 → ∀ b, b < 0 → a ≠ b → (TJx3cf43 a).2.1 ≠ (TJx3cf43 b).2.1 := by decide +kernel
theorem tyJx3cf43_ok : ∀ k, k < 0 → parseFieldDescriptor (TJx3cf43 k).2.2.1 = some (tyJx3cf43 k) := by decide +kernel
def RJ7 : String := "java/util/Arrays"
def TJ7 : u_T := fun k => match k with
  | _ => ("", "", "", false)
def tyJ7 : Nat → FieldType := fun k => match k with
  | _ => .int
abbrev wsJ70 : List Cond := u_ws RJ7 TJ7 0
theorem nmJ7 : ∀ a, a < 0 → ∀ b, b < 0 → a ≠ b → (TJ7 a).2.1 ≠ (TJ7 b).2.1 := by decide +kernel
theorem tyJ7_ok : ∀ k, k < 0 → parseFieldDescriptor (TJ7 k).2.2.1 = some (tyJ7 k) := by decide +kernel
abbrev cJ7_fill_d0a16 : ByteArray := prog_21_method_101_code
def yJ7_fill_d0a16 : MethodName := ⟨RJ7, "fill", "([JJ)V"⟩
abbrev cJ7_fill_53178 : ByteArray := prog_21_method_103_code
def yJ7_fill_53178 : MethodName := ⟨RJ7, "fill", "([II)V"⟩
abbrev cJ7_copyOf_59c91 : ByteArray := prog_21_method_123_code
def yJ7_copyOf_59c91 : MethodName := ⟨RJ7, "copyOf", "([II)[I"⟩
def RJ3 : String := "jdk/internal/util/Preconditions"
def TJ3 : u_T := fun k => match k with
  | _ => ("", "", "", false)
def tyJ3 : Nat → FieldType := fun k => match k with
  | _ => .int
abbrev wsJ30 : List Cond := u_ws RJ3 TJ3 0
theorem nmJ3 : ∀ a, a < 0 → ∀ b, b < 0 → a ≠ b → (TJ3 a).2.1 ≠ (TJ3 b).2.1 := by decide +kernel
theorem tyJ3_ok : ∀ k, k < 0 → parseFieldDescriptor (TJ3 k).2.2.1 = some (tyJ3 k) := by decide +kernel
abbrev cJ3_checkIndex_8e157 : ByteArray := prog_22_method_11_code
def yJ3_checkIndex_8e157 : MethodName := ⟨RJ3, "checkIndex", "(IILjava/util/function/BiFunction;)I"⟩
def RL : String := "ScansionDeskLaw"
abbrev cL_law : ByteArray := code
def yL_law : MethodName := ⟨RL, "law", "([I)Z"⟩
def wsL_law_r1 : List Cond := [Cond.classLink RL 7 RX10, Cond.instantiable RX10 20, Cond.initialized RX10, Cond.classLink RL 10 RX11, Cond.instantiable RX11 72, Cond.initialized RX11, Cond.methodLink RL 9 yX10_init, Cond.instanceMethod yX10_init, Cond.code yX10_init cX10_init 1 none, Cond.methodLink RX10 3 objectInit, Cond.instanceMethod objectInit, Cond.code objectInit ⟨#[0xb1]⟩ 1 none, Cond.classLink RX10 9 RX7, Cond.instantiable RX7 11, Cond.initialized RX7, Cond.fieldLink RX10 12 "ScansionDesk" "now" "LScansionDesk$State;", Cond.fieldLink RX10 16 "ScansionDesk" "aheadOfOrders" "LScansionDesk$State;", Cond.fieldLink RX10 19 "ScansionDesk" "afterWeeks" "LScansionDesk$State;", Cond.fieldLink RX10 22 "ScansionDesk" "images" "[LScansionDesk$State;", Cond.classLink RX10 26 RX2, Cond.instantiable RX2 4, Cond.initialized RX2, Cond.fieldLink RX10 29 "ScansionDesk" "history" "LScansionDesk$History;", Cond.fieldLink RX10 33 "ScansionDesk" "historyAheadOfOrders" "LScansionDesk$History;"]
def wsL_law_r2 : List Cond := [Cond.classLink RX10 36 RX8, Cond.instantiable RX8 2, Cond.initialized RX8, Cond.fieldLink RX10 39 "ScansionDesk" "tape" "LScansionDesk$Tape;", Cond.classLink RX10 43 RX9, Cond.instantiable RX9 6, Cond.initialized RX9, Cond.fieldLink RX10 46 "ScansionDesk" "tokens" "LScansionDesk$Tokens;", Cond.classLink RX10 50 RX4, Cond.instantiable RX4 11, Cond.initialized RX4, Cond.fieldLink RX10 53 "ScansionDesk" "metreReader" "LScansionDesk$MetreReader;", Cond.classLink RX10 57 RX0, Cond.instantiable RX0 3, Cond.initialized RX0, Cond.fieldLink RX10 60 "ScansionDesk" "clauseReader" "LScansionDesk$ClauseReader;", Cond.classLink RX10 64 RX5, Cond.instantiable RX5 1, Cond.initialized RX5, Cond.fieldLink RX10 67 "ScansionDesk" "reckoner" "LScansionDesk$Reckoner;", Cond.classLink RX10 71 RX6, Cond.instantiable RX6 11, Cond.initialized RX6, Cond.fieldLink RX10 74 "ScansionDesk" "scansion" "LScansionDesk$Scansion;"]
def wsL_law_r3 : List Cond := [Cond.arrayClass .int, Cond.fieldLink RX10 78 "ScansionDesk" "orderWords" "[I", Cond.arrayClass .long, Cond.fieldLink RX10 82 "ScansionDesk" "bestReadings" "[J", Cond.fieldLink RX10 86 "ScansionDesk" "chances" "[J", Cond.fieldLink RX10 89 "ScansionDesk" "REFUSAL_CODES" "[I", Cond.fieldLink RX10 92 "ScansionDesk" "refusals" "[I", Cond.fieldLink RX10 95 "ScansionDesk" "latestFault" "I", Cond.fieldLink RX10 99 "ScansionDesk" "latestStop" "I", Cond.instanceMethod yX7_init, Cond.code yX7_init cX7_init 1 none, Cond.methodLink RX7 3 objectInit, Cond.fieldLink RX7 9 "ScansionDesk$State" "facts" "[I", Cond.fieldLink RX7 15 "ScansionDesk$State" "terms" "[I", Cond.fieldLink RX7 18 "ScansionDesk$State" "heardAt" "[I", Cond.fieldLink RX7 21 "ScansionDesk$State" "heardAs" "[I", Cond.classLink RX7 24 RX3, Cond.fieldLink RX7 26 "ScansionDesk$State" "metres" "[LScansionDesk$Metre;", Cond.classLink RX7 30 RX1, Cond.fieldLink RX7 32 "ScansionDesk$State" "laws" "[LScansionDesk$Clauses;", Cond.fieldLink RX7 36 "ScansionDesk$State" "force" "I", Cond.instanceMethod yX2_init, Cond.code yX2_init cX2_init 1 none, Cond.methodLink RX2 3 objectInit]
def wsL_law_r4 : List Cond := [Cond.fieldLink RX2 9 "ScansionDesk$History" "kinds" "[I", Cond.fieldLink RX2 15 "ScansionDesk$History" "syllables" "[I", Cond.fieldLink RX2 18 "ScansionDesk$History" "weights" "[I", Cond.instanceMethod yX8_init, Cond.code yX8_init cX8_init 1 none, Cond.methodLink RX8 3 objectInit, Cond.fieldLink RX8 9 "ScansionDesk$Tape" "bytes" "[I", Cond.instanceMethod yX9_init, Cond.code yX9_init cX9_init 1 none, Cond.methodLink RX9 3 objectInit, Cond.fieldLink RX9 9 "ScansionDesk$Tokens" "codes" "[I", Cond.fieldLink RX9 15 "ScansionDesk$Tokens" "values" "[I", Cond.fieldLink RX9 18 "ScansionDesk$Tokens" "places" "[I", Cond.fieldLink RX9 21 "ScansionDesk$Tokens" "fault" "I", Cond.instanceMethod yX4_init, Cond.code yX4_init cX4_init 1 none, Cond.methodLink RX4 3 objectInit, Cond.fieldLink RX4 11 "ScansionDesk$MetreReader" "unitTimes" "[I", Cond.fieldLink RX4 15 "ScansionDesk$MetreReader" "unitBefore" "[I", Cond.fieldLink RX4 18 "ScansionDesk$MetreReader" "lastUnit" "[I", Cond.fieldLink RX4 21 "ScansionDesk$MetreReader" "choiceBefore" "[I", Cond.fieldLink RX4 24 "ScansionDesk$MetreReader" "lastChoice" "[I", Cond.fieldLink RX4 27 "ScansionDesk$MetreReader" "kinds" "[I", Cond.fieldLink RX4 30 "ScansionDesk$MetreReader" "nexts" "[I"]
def wsL_law_r5 : List Cond := [Cond.fieldLink RX4 33 "ScansionDesk$MetreReader" "others" "[I", Cond.fieldLink RX4 36 "ScansionDesk$MetreReader" "fewest" "[I", Cond.fieldLink RX4 39 "ScansionDesk$MetreReader" "most" "[I", Cond.instanceMethod yX0_init, Cond.code yX0_init cX0_init 1 none, Cond.methodLink RX0 3 objectInit, Cond.classLink RX0 9 RX1, Cond.instantiable RX1 5, Cond.initialized RX1, Cond.fieldLink RX0 20 "ScansionDesk$ClauseReader" "text" "LScansionDesk$Clauses;", Cond.methodLink RX0 13 yX1_fieldsFor, Cond.static yX1_fieldsFor, Cond.code yX1_fieldsFor cX1_fieldsFor 1 (some (.array .int)), Cond.methodLink RX1 18 Lib.Math.max.name, Cond.static Lib.Math.max.name, Cond.initialized "java/lang/Math", Cond.code Lib.Math.max.name Lib.Math.max.code 2 (some .int), Cond.methodLink RX0 17 yX1_init, Cond.instanceMethod yX1_init, Cond.code yX1_init cX1_init 3 none, Cond.methodLink RX1 3 objectInit, Cond.fieldLink RX1 9 "ScansionDesk$Clauses" "code" "[I", Cond.fieldLink RX1 15 "ScansionDesk$Clauses" "fields" "[I", Cond.instanceMethod yX5_init]
def wsL_law_r6 : List Cond := [Cond.code yX5_init cX5_init 1 none, Cond.methodLink RX5 3 objectInit, Cond.fieldLink RX5 9 "ScansionDesk$Reckoner" "stack" "[I", Cond.instanceMethod yX6_init, Cond.code yX6_init cX6_init 1 none, Cond.methodLink RX6 3 objectInit, Cond.classLink RX6 9 RX5, Cond.fieldLink RX6 12 "ScansionDesk$Scansion" "reckoner" "LScansionDesk$Reckoner;", Cond.fieldLink RX6 18 "ScansionDesk$Scansion" "lawWords" "[I", Cond.fieldLink RX6 22 "ScansionDesk$Scansion" "can" "[I", Cond.fieldLink RX6 25 "ScansionDesk$Scansion" "costs" "[I", Cond.fieldLink RX6 28 "ScansionDesk$Scansion" "prices" "[J", Cond.fieldLink RX6 32 "ScansionDesk$Scansion" "flow" "[I", Cond.fieldLink RX6 35 "ScansionDesk$Scansion" "here" "[J", Cond.fieldLink RX6 38 "ScansionDesk$Scansion" "ahead" "[J", Cond.methodLink RL 12 yX11_init, Cond.instanceMethod yX11_init, Cond.code yX11_init cX11_init 1 none, Cond.methodLink RX11 1 objectInit, Cond.fieldLink RX11 7 "ScansionDeskModel" "refusals" "[I", Cond.fieldLink RX11 13 "ScansionDeskModel" "row" "[I", Cond.fieldLink RX11 16 "ScansionDeskModel" "images" "[I", Cond.arrayClass .boolean, Cond.fieldLink RX11 19 "ScansionDeskModel" "isKept" "[Z"]
def wsL_law_r7 : List Cond := [Cond.fieldLink RX11 23 "ScansionDeskModel" "undos" "[I", Cond.fieldLink RX11 26 "ScansionDeskModel" "sorts" "[I", Cond.fieldLink RX11 29 "ScansionDeskModel" "undosBefore" "[I", Cond.fieldLink RX11 32 "ScansionDeskModel" "sortsBefore" "[I", Cond.fieldLink RX11 35 "ScansionDeskModel" "tape" "[I", Cond.fieldLink RX11 38 "ScansionDeskModel" "fault" "I", Cond.fieldLink RX11 42 "ScansionDeskModel" "nClause" "[I", Cond.fieldLink RX11 45 "ScansionDeskModel" "nOp" "[I", Cond.fieldLink RX11 48 "ScansionDeskModel" "nArg" "[I", Cond.fieldLink RX11 51 "ScansionDeskModel" "pile" "[I", Cond.fieldLink RX11 54 "ScansionDeskModel" "pileAt" "[I", Cond.constantLong RX11 57 (17171557), Cond.constantLong RX11 59 (777297172), Cond.constantLong RX11 61 (51), Cond.constantLong RX11 63 (178323), Cond.constantLong RX11 65 (13801107), Cond.constantLong RX11 67 (3659220), Cond.constantLong RX11 69 (4153), Cond.constantLong RX11 71 (441828), Cond.fieldLink RX11 73 "ScansionDeskModel" "words" "[J", Cond.constantLong RX11 77 (146885), Cond.constantLong RX11 79 (404362868), Cond.constantLong RX11 81 (20022739), Cond.fieldLink RX11 83 "ScansionDeskModel" "orderWords" "[J"]
def wsL_law_r8 : List Cond := [Cond.constantLong RX11 86 (3657363), Cond.constantLong RX11 88 (46546675), Cond.constantLong RX11 90 (67155), Cond.fieldLink RX11 92 "ScansionDeskModel" "heads" "[J", Cond.fieldLink RX11 95 "ScansionDeskModel" "set" "[J", Cond.fieldLink RX11 98 "ScansionDeskModel" "now" "[J", Cond.fieldLink RX11 101 "ScansionDeskModel" "rest" "[J", Cond.constantLong RX11 104 (409031), Cond.constantLong RX11 106 (20201044), Cond.constantLong RX11 108 (1497), Cond.constantLong RX11 110 (3764), Cond.fieldLink RX11 112 "ScansionDeskModel" "stepWords" "[J", Cond.fieldLink RX11 115 "ScansionDeskModel" "raw" "[I", Cond.fieldLink RX11 118 "ScansionDeskModel" "units" "[I", Cond.fieldLink RX11 121 "ScansionDeskModel" "choices" "[I", Cond.fieldLink RX11 124 "ScansionDeskModel" "heap" "[I", Cond.fieldLink RX11 127 "ScansionDeskModel" "full" "[I", Cond.fieldLink RX11 130 "ScansionDeskModel" "steps" "[I", Cond.constant RX11 133 (40401), Cond.fieldLink RX11 134 "ScansionDeskModel" "follows" "[Z", Cond.fieldLink RX11 137 "ScansionDeskModel" "isFirst" "[Z", Cond.fieldLink RX11 140 "ScansionDeskModel" "isLast" "[Z", Cond.fieldLink RX11 143 "ScansionDeskModel" "prices" "[I", Cond.fieldLink RX11 146 "ScansionDeskModel" "left" "[I"]
def wsL_law_r9 : List Cond := [Cond.fieldLink RX11 149 "ScansionDeskModel" "states" "[Z", Cond.fieldLink RX11 152 "ScansionDeskModel" "statesThen" "[Z", Cond.fieldLink RX11 155 "ScansionDeskModel" "reading" "[I", Cond.fieldLink RX11 158 "ScansionDeskModel" "reached" "[Z", Cond.fieldLink RX11 161 "ScansionDeskModel" "readings" "[I", Cond.fieldLink RX11 164 "ScansionDeskModel" "parts" "[J", Cond.constantLong RX11 167 (24290536), Cond.constantLong RX11 169 (5572), Cond.constantLong RX11 171 (431284), Cond.constantLong RX11 173 (525939), Cond.fieldLink RX11 175 "ScansionDeskModel" "acts" "[J", Cond.fieldLink RX11 178 "ScansionDeskModel" "nOrder" "[I", Cond.fieldLink RX11 181 "ScansionDeskModel" "stopped" "I", Cond.fieldLink RX11 184 "ScansionDeskModel" "drawn" "[I", Cond.fieldLink RX11 187 "ScansionDeskModel" "drawnSyllables" "I", Cond.methodLink RL 13 yX10_syllable, Cond.instanceMethod yX10_syllable, Cond.selects RX10 yX10_syllable yX10_syllable, Cond.code yX10_syllable cX10_syllable 4 (some .int), Cond.fieldLink RX10 113 "ScansionDesk$History" "size" "I", Cond.fieldLink RX10 116 "ScansionDesk$State" "size" "I", Cond.methodLink RX10 102 yX7_isSyllable, Cond.static yX7_isSyllable, Cond.code yX7_isSyllable cX7_isSyllable 3 (some .boolean)]
def wsL_law_r10 : List Cond := [Cond.methodLink RX10 106 yX10_refuse, Cond.instanceMethod yX10_refuse, Cond.selects RX10 yX10_refuse yX10_refuse, Cond.code yX10_refuse cX10_refuse 3 (some .int), Cond.fieldLink RX10 345 "ScansionDesk" "latestRefusal" "I", Cond.methodLink RX10 110 yX7_addSyllable, Cond.instanceMethod yX7_addSyllable, Cond.selects RX7 yX7_addSyllable yX7_addSyllable, Cond.code yX7_addSyllable cX7_addSyllable 5 (some .boolean), Cond.fieldLink RX7 49 "ScansionDesk$State" "size" "I", Cond.methodLink RX7 61 yX7_isSyllable, Cond.methodLink RX10 117 yX10_accept, Cond.instanceMethod yX10_accept, Cond.selects RX10 yX10_accept yX10_accept, Cond.code yX10_accept cX10_accept 2 (some .int), Cond.methodLink RL 17 yX11_syllable, Cond.instanceMethod yX11_syllable, Cond.selects RX11 yX11_syllable yX11_syllable, Cond.code yX11_syllable cX11_syllable 4 (some .int), Cond.fieldLink RX11 190 "ScansionDeskModel" "thrown" "I", Cond.methodLink RX11 219 yX11_comes, Cond.instanceMethod yX11_comes, Cond.selects RX11 yX11_comes yX11_comes, Cond.code yX11_comes cX11_comes 5 (some .int)]
def wsL_law_r11 : List Cond := [Cond.constantLong RX11 217 (2), Cond.methodLink RX11 210 yX11_in, Cond.static yX11_in, Cond.code yX11_in cX11_in 6 (some .boolean), Cond.methodLink RX11 214 yX11_lasting, Cond.instanceMethod yX11_lasting, Cond.selects RX11 yX11_lasting yX11_lasting, Cond.code yX11_lasting cX11_lasting 2 (some .int), Cond.fieldLink RX11 196 "ScansionDeskModel" "nUndo" "I", Cond.methodLink RX11 199 yX11_tell, Cond.instanceMethod yX11_tell, Cond.selects RX11 yX11_tell yX11_tell, Cond.code yX11_tell cX11_tell 2 (some .int), Cond.fieldLink RX11 193 "ScansionDeskModel" "status" "I", Cond.methodLink RL 18 yX10_of, Cond.instanceMethod yX10_of, Cond.selects RX10 yX10_of yX10_of, Cond.code yX10_of cX10_of 4 (some .int), Cond.fieldLink RX10 128 "ScansionDesk$State" "force" "I", Cond.methodLink RX10 120 yX7_hasSyllable, Cond.instanceMethod yX7_hasSyllable, Cond.selects RX7 yX7_hasSyllable yX7_hasSyllable, Cond.code yX7_hasSyllable cX7_hasSyllable 2 (some .boolean), Cond.methodLink RX10 124 yX7_told]
def wsL_law_r12 : List Cond := [Cond.instanceMethod yX7_told, Cond.selects RX7 yX7_told yX7_told, Cond.code yX7_told cX7_told 4 (some .int), Cond.methodLink RX10 131 yX7_lawAt, Cond.instanceMethod yX7_lawAt, Cond.selects RX7 yX7_lawAt yX7_lawAt, Cond.code yX7_lawAt cX7_lawAt 2 (some (.object "ScansionDesk$Clauses")), Cond.fieldLink RX7 58 "ScansionDesk$State" "lawCount" "I", Cond.methodLink RX10 135 yX6_lookAt, Cond.instanceMethod yX6_lookAt, Cond.selects RX6 yX6_lookAt yX6_lookAt, Cond.code yX6_lookAt cX6_lookAt 5 none, Cond.fieldLink RX6 41 "ScansionDesk$State" "size" "I", Cond.fieldLink RX6 47 "ScansionDesk$Scansion" "size" "I", Cond.fieldLink RX6 54 "ScansionDesk$Scansion" "cuts" "I", Cond.methodLink RX6 48 yJ7_fill_53178, Cond.static yJ7_fill_53178, Cond.initialized RJ7, Cond.code yJ7_fill_53178 cJ7_fill_53178 4 none, Cond.methodLink RX6 57 yX7_termOf, Cond.instanceMethod yX7_termOf, Cond.selects RX7 yX7_termOf yX7_termOf, Cond.code yX7_termOf cX7_termOf 2 (some .int), Cond.methodLink RX6 61 yX7_told]
def wsL_law_r13 : List Cond := [Cond.methodLink RX6 65 yX6_judge, Cond.instanceMethod yX6_judge, Cond.selects RX6 yX6_judge yX6_judge, Cond.code yX6_judge cX6_judge 13 none, Cond.fieldLink RX6 69 "ScansionDesk$Clauses" "count" "I", Cond.fieldLink RX6 75 "ScansionDesk$Clauses" "code" "[I", Cond.constant RX6 84 (-2000000000), Cond.methodLink RX6 85 Lib.Math.min.name, Cond.static Lib.Math.min.name, Cond.code Lib.Math.min.name Lib.Math.min.code 2 (some .int), Cond.methodLink RX6 90 Lib.Math.max.name, Cond.methodLink RX6 74 yX1_told, Cond.instanceMethod yX1_told, Cond.selects RX1 yX1_told yX1_told, Cond.code yX1_told cX1_told 4 (some .int), Cond.methodLink RX6 78 yX5_reckon, Cond.instanceMethod yX5_reckon, Cond.selects RX5 yX5_reckon yX5_reckon, Cond.code yX5_reckon cX5_reckon 9 (some .int), Cond.constant RX5 15 (-2000000000), Cond.methodLink RX5 16 Lib.Math.max.name, Cond.methodLink RX5 22 yX5_combine, Cond.static yX5_combine, Cond.code yX5_combine cX5_combine 7 (some .int)]
def wsL_law_r14 : List Cond := [Cond.constantLong RX5 26 (-1000000000), Cond.constantLong RX5 28 (1000000000), Cond.methodLink RX10 139 yX6_canRead, Cond.instanceMethod yX6_canRead, Cond.selects RX6 yX6_canRead yX6_canRead, Cond.code yX6_canRead cX6_canRead 3 (some .int), Cond.methodLink RX10 142 yX6_costOf, Cond.instanceMethod yX6_costOf, Cond.selects RX6 yX6_costOf yX6_costOf, Cond.code yX6_costOf cX6_costOf 4 (some .int), Cond.methodLink RL 22 yX11_of, Cond.instanceMethod yX11_of, Cond.selects RX11 yX11_of yX11_of, Cond.code yX11_of cX11_of 3 (some .int), Cond.constantLong RX11 227 (3), Cond.constantLong RX11 229 (5), Cond.constantLong RX11 235 (6), Cond.constantLong RX11 237 (8), Cond.methodLink RX11 223 yX11_isSyllable, Cond.instanceMethod yX11_isSyllable, Cond.selects RX11 yX11_isSyllable yX11_isSyllable, Cond.code yX11_isSyllable cX11_isSyllable 2 (some .boolean), Cond.methodLink RX11 231 yX11_canRead, Cond.instanceMethod yX11_canRead]
def wsL_law_r15 : List Cond := [Cond.selects RX11 yX11_canRead yX11_canRead, Cond.code yX11_canRead cX11_canRead 5 (some .boolean), Cond.methodLink RX11 447 yX11_tells, Cond.instanceMethod yX11_tells, Cond.selects RX11 yX11_tells yX11_tells, Cond.code yX11_tells cX11_tells 10 (some .long), Cond.fieldLink RX11 418 "ScansionDeskModel" "law" "I", Cond.fieldLink RX11 441 "ScansionDeskModel" "sum" "J", Cond.methodLink RX11 444 yX11_isSo, Cond.instanceMethod yX11_isSo, Cond.selects RX11 yX11_isSo yX11_isSo, Cond.code yX11_isSo cX11_isSo 2 (some .boolean), Cond.fieldLink RX11 415 "ScansionDeskModel" "broken" "Z", Cond.fieldLink RX11 435 "ScansionDeskModel" "value" "J", Cond.methodLink RX11 438 yX11_reckonAll, Cond.instanceMethod yX11_reckonAll, Cond.selects RX11 yX11_reckonAll yX11_reckonAll, Cond.code yX11_reckonAll cX11_reckonAll 7 none, Cond.fieldLink RX11 341 "ScansionDeskModel" "ordered" "Z", Cond.fieldLink RX11 424 "ScansionDeskModel" "fitsNow" "I", Cond.constantLong RX11 291 (-1), Cond.constantLong RX11 431 (-1000000000), Cond.constantLong RX11 433 (1000000000), Cond.methodLink RX11 421 yX11_isMetre]
def wsL_law_r16 : List Cond := [Cond.instanceMethod yX11_isMetre, Cond.selects RX11 yX11_isMetre yX11_isMetre, Cond.code yX11_isMetre cX11_isMetre 2 (some .boolean), Cond.methodLink RX11 427 yX11_reckon, Cond.instanceMethod yX11_reckon, Cond.selects RX11 yX11_reckon yX11_reckon, Cond.code yX11_reckon cX11_reckon 6 (some .long), Cond.methodLink RX11 239 yX11_costsAs, Cond.instanceMethod yX11_costsAs, Cond.selects RX11 yX11_costsAs yX11_costsAs, Cond.code yX11_costsAs cX11_costsAs 4 (some .int), Cond.methodLink RX11 451 yX11_bounded, Cond.static yX11_bounded, Cond.code yX11_bounded cX11_bounded 4 (some .int), Cond.methodLink RL 23 yX10_terms, Cond.instanceMethod yX10_terms, Cond.selects RX10 yX10_terms yX10_terms, Cond.code yX10_terms cX10_terms 4 (some .int), Cond.fieldLink RX10 145 "ScansionDesk" "HIGHEST_TERMS" "[I", Cond.methodLink RX10 148 yX7_termOf, Cond.methodLink RX10 151 yX7_setTerm, Cond.instanceMethod yX7_setTerm, Cond.selects RX7 yX7_setTerm yX7_setTerm, Cond.code yX7_setTerm cX7_setTerm 3 none]
def wsL_law_r17 : List Cond := [Cond.methodLink RL 26 yX11_terms, Cond.instanceMethod yX11_terms, Cond.selects RX11 yX11_terms yX11_terms, Cond.code yX11_terms cX11_terms 4 (some .int), Cond.constantLong RX11 243 (999), Cond.constantLong RX11 245 (10), Cond.constantLong RX11 247 (9), Cond.methodLink RX11 249 yX11_change, Cond.instanceMethod yX11_change, Cond.selects RX11 yX11_change yX11_change, Cond.code yX11_change cX11_change 4 (some .int), Cond.methodLink RL 27 yX10_feed, Cond.instanceMethod yX10_feed, Cond.selects RX10 yX10_feed yX10_feed, Cond.code yX10_feed cX10_feed 6 (some .int), Cond.fieldLink RX10 163 "ScansionDesk$Tape" "size" "I", Cond.methodLink RX10 155 yX8_hasRoomForFive, Cond.instanceMethod yX8_hasRoomForFive, Cond.selects RX8 yX8_hasRoomForFive yX8_hasRoomForFive, Cond.code yX8_hasRoomForFive cX8_hasRoomForFive 1 (some .boolean), Cond.fieldLink RX8 15 "ScansionDesk$Tape" "size" "I", Cond.methodLink RX10 159 yX8_addFour, Cond.instanceMethod yX8_addFour, Cond.selects RX8 yX8_addFour yX8_addFour]
def wsL_law_r18 : List Cond := [Cond.code yX8_addFour cX8_addFour 3 none, Cond.methodLink RL 31 yX11_feed, Cond.instanceMethod yX11_feed, Cond.selects RX11 yX11_feed yX11_feed, Cond.code yX11_feed cX11_feed 6 (some .int), Cond.fieldLink RX11 252 "ScansionDeskModel" "taped" "I", Cond.methodLink RX11 258 yX11_four, Cond.instanceMethod yX11_four, Cond.selects RX11 yX11_four yX11_four, Cond.code yX11_four cX11_four 3 none, Cond.methodLink RL 32 yX10_end, Cond.instanceMethod yX10_end, Cond.selects RX10 yX10_end yX10_end, Cond.code yX10_end cX10_end 2 (some .int), Cond.methodLink RL 36 yX11_end, Cond.instanceMethod yX11_end, Cond.selects RX11 yX11_end yX11_end, Cond.code yX11_end cX11_end 2 (some .int), Cond.methodLink RL 37 yX10_row, Cond.instanceMethod yX10_row, Cond.selects RX10 yX10_row yX10_row, Cond.code yX10_row cX10_row 4 (some .int), Cond.fieldLink RX10 167 "ScansionDesk" "latestMutes" "I", Cond.methodLink RX10 164 yX8_byteAt]
def wsL_law_r19 : List Cond := [Cond.instanceMethod yX8_byteAt, Cond.selects RX8 yX8_byteAt yX8_byteAt, Cond.code yX8_byteAt cX8_byteAt 2 (some .int), Cond.methodLink RL 41 yX11_row, Cond.instanceMethod yX11_row, Cond.selects RX11 yX11_row yX11_row, Cond.code yX11_row cX11_row 4 (some .int), Cond.fieldLink RX11 255 "ScansionDeskModel" "mutes" "I", Cond.methodLink RL 42 yX10_mutes, Cond.instanceMethod yX10_mutes, Cond.selects RX10 yX10_mutes yX10_mutes, Cond.code yX10_mutes cX10_mutes 1 (some .int), Cond.methodLink RL 45 yX11_mutes, Cond.instanceMethod yX11_mutes, Cond.selects RX11 yX11_mutes yX11_mutes, Cond.code yX11_mutes cX11_mutes 1 (some .int), Cond.methodLink RL 46 yX10_metre, Cond.instanceMethod yX10_metre, Cond.selects RX10 yX10_metre yX10_metre, Cond.code yX10_metre cX10_metre 2 (some .int), Cond.fieldLink RX10 170 "ScansionDesk$State" "metreCount" "I", Cond.fieldLink RX10 181 "ScansionDesk$Tokens" "fault" "I", Cond.methodLink RX10 173 yX9_readTape, Cond.instanceMethod yX9_readTape]
def wsL_law_r20 : List Cond := [Cond.selects RX9 yX9_readTape yX9_readTape, Cond.code yX9_readTape cX9_readTape 5 none, Cond.fieldLink RX9 25 "ScansionDesk$Tokens" "size" "I", Cond.fieldLink RX9 28 "ScansionDesk$Tokens" "at" "I", Cond.fieldLink RX9 31 "ScansionDesk$Tape" "size" "I", Cond.methodLink RX9 60 Lib.Math.max.name, Cond.methodLink RX9 34 yX9_endOfToken, Cond.static yX9_endOfToken, Cond.code yX9_endOfToken cX9_endOfToken 4 (some .int), Cond.methodLink RX9 38 yX8_byteAt, Cond.methodLink RX9 42 yX9_isLetter, Cond.static yX9_isLetter, Cond.code yX9_isLetter cX9_isLetter 1 (some .boolean), Cond.methodLink RX9 54 yX9_isDigit, Cond.static yX9_isDigit, Cond.code yX9_isDigit cX9_isDigit 1 (some .boolean), Cond.methodLink RX9 46 yX9_wordCode, Cond.static yX9_wordCode, Cond.code yX9_wordCode cX9_wordCode 8 (some .int), Cond.methodLink RX9 68 yJ0_length_8abf5, Cond.instanceMethod yJ0_length_8abf5, Cond.selects RJ0 yJ0_length_8abf5 yJ0_length_8abf5, Cond.initialized RJ0, Cond.code yJ0_length_8abf5 cJ0_length_8abf5 1 (some .int)]
def wsL_law_r21 : List Cond := [Cond.fieldLink RJ0 9 "java/lang/String" "value" "[B", Cond.methodLink RJ0 335 yJ0_coder_7d493, Cond.instanceMethod yJ0_coder_7d493, Cond.selects RJ0 yJ0_coder_7d493 yJ0_coder_7d493, Cond.code yJ0_coder_7d493 cJ0_coder_7d493 1 (some .byte), Cond.fieldLink RJ0 38 "java/lang/String" "COMPACT_STRINGS" "Z", Cond.fieldLink RJ0 15 "java/lang/String" "coder" "B", Cond.methodLink RX9 74 yJ0_charAt_5068e, Cond.instanceMethod yJ0_charAt_5068e, Cond.selects RJ0 yJ0_charAt_5068e yJ0_charAt_5068e, Cond.code yJ0_charAt_5068e cJ0_charAt_5068e 2 (some .char), Cond.methodLink RJ0 492 yJ0_isLatin1_aae02, Cond.instanceMethod yJ0_isLatin1_aae02, Cond.selects RJ0 yJ0_isLatin1_aae02 yJ0_isLatin1_aae02, Cond.code yJ0_isLatin1_aae02 cJ0_isLatin1_aae02 1 (some .boolean), Cond.methodLink RJ0 495 yJ1_charAt_3b067, Cond.static yJ1_charAt_3b067, Cond.initialized RJ1, Cond.code yJ1_charAt_3b067 cJ1_charAt_3b067 2 (some .char), Cond.methodLink RJ1 9 yJ0_checkIndex_df160, Cond.static yJ0_checkIndex_df160, Cond.code yJ0_checkIndex_df160 cJ0_checkIndex_df160 2 none, Cond.fieldLink RJ0 1053 "jdk/internal/util/Preconditions" "SIOOBE_FORMATTER" "Ljava/util/function/BiFunction;", Cond.methodLink RJ0 1059 yJ3_checkIndex_8e157]
def wsL_law_r22 : List Cond := [Cond.static yJ3_checkIndex_8e157, Cond.initialized RJ3, Cond.code yJ3_checkIndex_8e157 cJ3_checkIndex_8e157 3 (some .int), Cond.methodLink RJ0 498 yJ2_charAt_3b067, Cond.static yJ2_charAt_3b067, Cond.initialized RJ2, Cond.code yJ2_charAt_3b067 cJ2_charAt_3b067 2 (some .char), Cond.methodLink RJ2 67 yJ2_checkIndex_2214a, Cond.static yJ2_checkIndex_2214a, Cond.code yJ2_checkIndex_2214a cJ2_checkIndex_2214a 2 none, Cond.methodLink RJ2 48 yJ2_length_9d52b, Cond.static yJ2_length_9d52b, Cond.code yJ2_length_9d52b cJ2_length_9d52b 1 (some .int), Cond.methodLink RJ2 414 yJ0_checkIndex_df160, Cond.methodLink RJ2 71 yJ2_getChar_3b067, Cond.static yJ2_getChar_3b067, Cond.code yJ2_getChar_3b067 cJ2_getChar_3b067 2 (some .char), Cond.fieldLink RJ2 44 "java/lang/StringUTF16" "$assertionsDisabled" "Z", Cond.fieldLink RJ2 59 "java/lang/StringUTF16" "HI_BYTE_SHIFT" "I", Cond.fieldLink RJ2 63 "java/lang/StringUTF16" "LO_BYTE_SHIFT" "I", Cond.methodLink RX9 50 yX9_addToken, Cond.instanceMethod yX9_addToken, Cond.selects RX9 yX9_addToken yX9_addToken, Cond.code yX9_addToken cX9_addToken 4 none]
def wsL_law_r23 : List Cond := [Cond.methodLink RX9 57 yX9_numberAt, Cond.static yX9_numberAt, Cond.code yX9_numberAt cX9_numberAt 5 (some .int), Cond.methodLink RX9 78 Lib.Math.min.name, Cond.methodLink RX10 177 yX4_readText, Cond.instanceMethod yX4_readText, Cond.selects RX4 yX4_readText yX4_readText, Cond.code yX4_readText cX4_readText 4 (some (.object "ScansionDesk$Metre")), Cond.fieldLink RX4 55 "ScansionDesk$Tokens" "fault" "I", Cond.fieldLink RX4 59 "ScansionDesk$MetreReader" "size" "I", Cond.classLink RX4 62 RX3, Cond.instantiable RX3 6, Cond.initialized RX3, Cond.methodLink RX4 42 yX4_readMetre, Cond.instanceMethod yX4_readMetre, Cond.selects RX4 yX4_readMetre yX4_readMetre, Cond.code yX4_readMetre cX4_readMetre 9 (some .int), Cond.fieldLink RX4 81 "ScansionDesk$Tokens" "at" "I", Cond.methodLink RX4 87 Lib.Math.min.name, Cond.methodLink RX4 84 yX4_readChoice, Cond.instanceMethod yX4_readChoice, Cond.selects RX4 yX4_readChoice yX4_readChoice, Cond.methodLink RX4 93 yX4_put, Cond.static yX4_put]
def wsL_law_r24 : List Cond := [Cond.code yX4_put cX4_put 3 none, Cond.methodLink RX4 97 yX9_skip, Cond.instanceMethod yX9_skip, Cond.selects RX9 yX9_skip yX9_skip, Cond.code yX9_skip cX9_skip 3 (some .boolean), Cond.code yX4_readChoice cX4_readChoice 9 (some .int), Cond.methodLink RX4 101 yX4_readUnit, Cond.instanceMethod yX4_readUnit, Cond.selects RX4 yX4_readUnit yX4_readUnit, Cond.methodLink RX4 104 yX9_codeAt, Cond.instanceMethod yX9_codeAt, Cond.selects RX9 yX9_codeAt yX9_codeAt, Cond.code yX9_codeAt cX9_codeAt 2 (some .int), Cond.methodLink RX4 108 yX4_beginsUnit, Cond.static yX4_beginsUnit, Cond.code yX4_beginsUnit cX4_beginsUnit 1 (some .boolean), Cond.methodLink RX4 111 yX4_isStep, Cond.static yX4_isStep, Cond.code yX4_isStep cX4_isStep 1 (some .boolean), Cond.code yX4_readUnit cX4_readUnit 6 (some .int), Cond.methodLink RX4 48 yX9_expect, Cond.instanceMethod yX9_expect, Cond.selects RX9 yX9_expect yX9_expect, Cond.code yX9_expect cX9_expect 2 none]
def wsL_law_r25 : List Cond := [Cond.methodLink RX9 81 yX9_skip, Cond.methodLink RX9 84 yX9_fail, Cond.instanceMethod yX9_fail, Cond.selects RX9 yX9_fail yX9_fail, Cond.code yX9_fail cX9_fail 1 none, Cond.methodLink RX4 52 yX9_fail, Cond.methodLink RX4 114 yX9_takeNumber, Cond.instanceMethod yX9_takeNumber, Cond.selects RX9 yX9_takeNumber yX9_takeNumber, Cond.code yX9_takeNumber cX9_takeNumber 4 (some .int), Cond.methodLink RX4 64 yX4_addNode, Cond.instanceMethod yX4_addNode, Cond.selects RX4 yX4_addNode yX4_addNode, Cond.code yX4_addNode cX4_addNode 7 (some .int), Cond.methodLink RX4 124 Lib.Math.max.name, Cond.methodLink RX4 117 yX4_get, Cond.static yX4_get, Cond.code yX4_get cX4_get 2 (some .int), Cond.methodLink RX4 68 yX4_writeMetre, Cond.instanceMethod yX4_writeMetre, Cond.selects RX4 yX4_writeMetre yX4_writeMetre, Cond.code yX4_writeMetre cX4_writeMetre 9 (some .int), Cond.methodLink RX4 121 yX4_writeChoice, Cond.instanceMethod yX4_writeChoice]
def wsL_law_r26 : List Cond := [Cond.selects RX4 yX4_writeChoice yX4_writeChoice, Cond.code yX4_writeChoice cX4_writeChoice 11 (some .int), Cond.methodLink RX4 72 yJ7_copyOf_59c91, Cond.static yJ7_copyOf_59c91, Cond.code yJ7_copyOf_59c91 cJ7_copyOf_59c91 3 (some (.array .int)), Cond.methodLink RJ7 316 ⟨"[I", "clone", "()Ljava/lang/Object;"⟩, Cond.sameMethod "[I" "java/lang/Object" "clone" "()Ljava/lang/Object;", Cond.native ⟨"java/lang/Object", "clone", "()Ljava/lang/Object;"⟩, Cond.instanceMethod ⟨"java/lang/Object", "clone", "()Ljava/lang/Object;"⟩, Cond.selects "[I" ⟨"[I", "clone", "()Ljava/lang/Object;"⟩ ⟨"java/lang/Object", "clone", "()Ljava/lang/Object;"⟩, Cond.classLink RJ7 317 "[I", Cond.methodLink RJ7 304 Lib.Math.min.name, Cond.methodLink RJ7 150 arraycopyName, Cond.native arraycopyName, Cond.static arraycopyName, Cond.initialized "java/lang/System", Cond.methodLink RX4 78 yX3_init, Cond.instanceMethod yX3_init, Cond.code yX3_init cX3_init 7 none, Cond.methodLink RX3 1 objectInit, Cond.fieldLink RX3 7 "ScansionDesk$Metre" "kinds" "[I", Cond.fieldLink RX3 13 "ScansionDesk$Metre" "nexts" "[I", Cond.fieldLink RX3 16 "ScansionDesk$Metre" "others" "[I", Cond.fieldLink RX3 19 "ScansionDesk$Metre" "steps" "I"]
def wsL_law_r27 : List Cond := [Cond.fieldLink RX3 23 "ScansionDesk$Metre" "shortest" "I", Cond.fieldLink RX3 26 "ScansionDesk$Metre" "longest" "I", Cond.methodLink RX10 184 yX7_addMetre, Cond.instanceMethod yX7_addMetre, Cond.selects RX7 yX7_addMetre yX7_addMetre, Cond.code yX7_addMetre cX7_addMetre 2 none, Cond.fieldLink RX7 55 "ScansionDesk$State" "metreCount" "I", Cond.methodLink RL 49 yX11_metre, Cond.instanceMethod yX11_metre, Cond.selects RX11 yX11_metre yX11_metre, Cond.code yX11_metre cX11_metre 4 (some .int), Cond.fieldLink RX11 264 "ScansionDeskModel" "bad" "Z", Cond.methodLink RX11 485 yX11_readMetre, Cond.instanceMethod yX11_readMetre, Cond.selects RX11 yX11_readMetre yX11_readMetre, Cond.code yX11_readMetre cX11_readMetre 3 none, Cond.fieldLink RX11 455 "ScansionDeskModel" "nRaw" "I", Cond.fieldLink RX11 458 "ScansionDeskModel" "deep" "I", Cond.constantLong RX11 380 (498), Cond.fieldLink RX11 284 "ScansionDeskModel" "sort" "I", Cond.methodLink RX11 392 yX11_begin, Cond.instanceMethod yX11_begin, Cond.selects RX11 yX11_begin yX11_begin, Cond.code yX11_begin cX11_begin 1 none]
def wsL_law_r28 : List Cond := [Cond.fieldLink RX11 261 "ScansionDeskModel" "to" "I", Cond.methodLink RX11 268 yX11_next, Cond.instanceMethod yX11_next, Cond.selects RX11 yX11_next yX11_next, Cond.code yX11_next cX11_next 1 none, Cond.fieldLink RX11 271 "ScansionDeskModel" "from" "I", Cond.fieldLink RX11 274 "ScansionDeskModel" "worth" "J", Cond.constantLong RX11 287 (32), Cond.constantLong RX11 289 (96), Cond.constantLong RX11 293 (1000000), Cond.constantLong RX11 295 (48), Cond.methodLink RX11 278 yX11_isSmall, Cond.static yX11_isSmall, Cond.code yX11_isSmall cX11_isSmall 1 (some .boolean), Cond.methodLink RX11 281 yX11_isDigit, Cond.static yX11_isDigit, Cond.code yX11_isDigit cX11_isDigit 1 (some .boolean), Cond.methodLink RX11 466 yX11_beginMetre, Cond.instanceMethod yX11_beginMetre, Cond.selects RX11 yX11_beginMetre yX11_beginMetre, Cond.code yX11_beginMetre cX11_beginMetre 1 none, Cond.methodLink RX11 472 yX11_beginUnit, Cond.instanceMethod yX11_beginUnit, Cond.selects RX11 yX11_beginUnit yX11_beginUnit]
def wsL_law_r29 : List Cond := [Cond.code yX11_beginUnit cX11_beginUnit 2 (some .boolean), Cond.methodLink RX11 335 yX11_isSign, Cond.instanceMethod yX11_isSign, Cond.selects RX11 yX11_isSign yX11_isSign, Cond.code yX11_isSign cX11_isSign 2 (some .boolean), Cond.methodLink RX11 297 yX11_must, Cond.instanceMethod yX11_must, Cond.selects RX11 yX11_must yX11_must, Cond.code yX11_must cX11_must 2 none, Cond.methodLink RX11 469 yX11_stepAt, Cond.instanceMethod yX11_stepAt, Cond.selects RX11 yX11_stepAt yX11_stepAt, Cond.code yX11_stepAt cX11_stepAt 3 (some .int), Cond.methodLink RX11 322 yX11_isWord, Cond.instanceMethod yX11_isWord, Cond.selects RX11 yX11_isWord yX11_isWord, Cond.code yX11_isWord cX11_isWord 3 (some .boolean), Cond.methodLink RX11 463 yX11_sign, Cond.instanceMethod yX11_sign, Cond.selects RX11 yX11_sign yX11_sign, Cond.code yX11_sign cX11_sign 2 none, Cond.methodLink RX11 475 yX11_endUnit, Cond.instanceMethod yX11_endUnit, Cond.selects RX11 yX11_endUnit yX11_endUnit]
def wsL_law_r30 : List Cond := [Cond.code yX11_endUnit cX11_endUnit 2 none, Cond.constantLong RX11 461 (21279923), Cond.methodLink RX11 359 yX11_number, Cond.instanceMethod yX11_number, Cond.selects RX11 yX11_number yX11_number, Cond.code yX11_number cX11_number 6 (some .int), Cond.methodLink RX11 478 yX11_endChoice, Cond.instanceMethod yX11_endChoice, Cond.selects RX11 yX11_endChoice yX11_endChoice, Cond.code yX11_endChoice cX11_endChoice 1 none, Cond.methodLink RX11 488 yX11_stepsOfRaw, Cond.instanceMethod yX11_stepsOfRaw, Cond.selects RX11 yX11_stepsOfRaw yX11_stepsOfRaw, Cond.code yX11_stepsOfRaw cX11_stepsOfRaw 4 (some .int), Cond.constant RX11 481 (1000000), Cond.methodLink RX11 491 yX11_writeOut, Cond.instanceMethod yX11_writeOut, Cond.selects RX11 yX11_writeOut yX11_writeOut, Cond.code yX11_writeOut cX11_writeOut 5 (some .int), Cond.methodLink RX11 482 yX11_repeat, Cond.instanceMethod yX11_repeat, Cond.selects RX11 yX11_repeat yX11_repeat, Cond.code yX11_repeat cX11_repeat 7 (some .int), Cond.methodLink RL 50 yX10_law]
def wsL_law_r31 : List Cond := [Cond.instanceMethod yX10_law, Cond.selects RX10 yX10_law yX10_law, Cond.code yX10_law cX10_law 2 (some .int), Cond.fieldLink RX10 188 "ScansionDesk$State" "lawCount" "I", Cond.fieldLink RX10 194 "ScansionDesk$ClauseReader" "text" "LScansionDesk$Clauses;", Cond.methodLink RX10 191 yX0_readText, Cond.instanceMethod yX0_readText, Cond.selects RX0 yX0_readText yX0_readText, Cond.code yX0_readText cX0_readText 5 (some .boolean), Cond.fieldLink RX0 24 "ScansionDesk$Clauses" "count" "I", Cond.fieldLink RX0 28 "ScansionDesk$Clauses" "codeSize" "I", Cond.fieldLink RX0 31 "ScansionDesk$Clauses" "asksScans" "Z", Cond.fieldLink RX0 35 "ScansionDesk$ClauseReader" "forOrders" "Z", Cond.fieldLink RX0 38 "ScansionDesk$ClauseReader" "parts" "I", Cond.fieldLink RX0 58 "ScansionDesk$Tokens" "fault" "I", Cond.methodLink RX0 41 yX0_readClause, Cond.instanceMethod yX0_readClause, Cond.selects RX0 yX0_readClause yX0_readClause, Cond.code yX0_readClause cX0_readClause 5 none, Cond.fieldLink RX0 61 "ScansionDesk$Tokens" "at" "I", Cond.methodLink RX0 64 yX9_codeAt, Cond.methodLink RX0 51 yX9_fail, Cond.methodLink RX0 45 yX9_skip, Cond.methodLink RX0 68 yX1_tell]
def wsL_law_r32 : List Cond := [Cond.instanceMethod yX1_tell, Cond.selects RX1 yX1_tell yX1_tell, Cond.code yX1_tell cX1_tell 5 none, Cond.methodLink RX0 72 yX0_readSum, Cond.instanceMethod yX0_readSum, Cond.selects RX0 yX0_readSum yX0_readSum, Cond.code yX0_readSum cX0_readSum 8 none, Cond.methodLink RX0 101 yX0_readPart, Cond.instanceMethod yX0_readPart, Cond.selects RX0 yX0_readPart yX0_readPart, Cond.methodLink RX0 77 yX1_write, Cond.instanceMethod yX1_write, Cond.selects RX1 yX1_write yX1_write, Cond.code yX1_write cX1_write 3 (some .int), Cond.fieldLink RX1 24 "ScansionDesk$Clauses" "codeSize" "I", Cond.methodLink RX0 104 yX0_scalingOp, Cond.static yX0_scalingOp, Cond.code yX0_scalingOp cX0_scalingOp 1 (some .int), Cond.code yX0_readPart cX0_readPart 4 none, Cond.methodLink RX0 54 yX9_expect, Cond.methodLink RX0 87 yX9_takeNumber, Cond.methodLink RX0 107 yX0_readOrderWord, Cond.instanceMethod yX0_readOrderWord, Cond.selects RX0 yX0_readOrderWord yX0_readOrderWord]
def wsL_law_r33 : List Cond := [Cond.code yX0_readOrderWord cX0_readOrderWord 4 none, Cond.methodLink RX0 111 yX0_readLawWord, Cond.instanceMethod yX0_readLawWord, Cond.selects RX0 yX0_readLawWord yX0_readLawWord, Cond.code yX0_readLawWord cX0_readLawWord 3 none, Cond.methodLink RX0 81 yX0_readTimes, Cond.instanceMethod yX0_readTimes, Cond.selects RX0 yX0_readTimes yX0_readTimes, Cond.code yX0_readTimes cX0_readTimes 4 none, Cond.methodLink RX0 84 yX0_readTest, Cond.instanceMethod yX0_readTest, Cond.selects RX0 yX0_readTest yX0_readTest, Cond.code yX0_readTest cX0_readTest 9 none, Cond.methodLink RX0 90 yX0_skipNots, Cond.static yX0_skipNots, Cond.code yX0_skipNots cX0_skipNots 3 (some .boolean), Cond.methodLink RX0 94 yX0_readComparison, Cond.static yX0_readComparison, Cond.code yX0_readComparison cX0_readComparison 1 (some .int), Cond.methodLink RX0 98 yX1_aim, Cond.instanceMethod yX1_aim, Cond.selects RX1 yX1_aim yX1_aim, Cond.code yX1_aim cX1_aim 2 none, Cond.methodLink RX10 198 yX1_compact]
def wsL_law_r34 : List Cond := [Cond.instanceMethod yX1_compact, Cond.selects RX1 yX1_compact yX1_compact, Cond.code yX1_compact cX1_compact 2 (some (.object "ScansionDesk$Clauses")), Cond.classLink RX1 10 RX1, Cond.fieldLink RX1 36 "ScansionDesk$Clauses" "count" "I", Cond.methodLink RX1 30 yJ7_copyOf_59c91, Cond.methodLink RX1 39 yX1_init, Cond.methodLink RX10 204 yX7_addLaw, Cond.instanceMethod yX7_addLaw, Cond.selects RX7 yX7_addLaw yX7_addLaw, Cond.code yX7_addLaw cX7_addLaw 2 none, Cond.methodLink RL 53 yX11_law, Cond.instanceMethod yX11_law, Cond.selects RX11 yX11_law yX11_law, Cond.code yX11_law cX11_law 3 (some .int), Cond.fieldLink RX11 395 "ScansionDeskModel" "nClauses" "I", Cond.fieldLink RX11 301 "ScansionDeskModel" "nCode" "I", Cond.methodLink RX11 403 yX11_beginText, Cond.instanceMethod yX11_beginText, Cond.selects RX11 yX11_beginText yX11_beginText, Cond.code yX11_beginText cX11_beginText 2 none, Cond.fieldLink RX11 332 "ScansionDeskModel" "nLeaves" "I", Cond.methodLink RX11 406 yX11_readLaw, Cond.instanceMethod yX11_readLaw]
def wsL_law_r35 : List Cond := [Cond.selects RX11 yX11_readLaw yX11_readLaw, Cond.code yX11_readLaw cX11_readLaw 4 none, Cond.constantLong RX11 401 (294), Cond.methodLink RX11 398 yX11_readExpression, Cond.instanceMethod yX11_readExpression, Cond.selects RX11 yX11_readExpression yX11_readExpression, Cond.code yX11_readExpression cX11_readExpression 3 none, Cond.fieldLink RX11 304 "ScansionDeskModel" "piled" "I", Cond.fieldLink RX11 326 "ScansionDeskModel" "opened" "I", Cond.methodLink RX11 382 yX11_readPlain, Cond.instanceMethod yX11_readPlain, Cond.selects RX11 yX11_readPlain yX11_readPlain, Cond.code yX11_readPlain cX11_readPlain 1 (some .int), Cond.constantLong RX11 363 (14836), Cond.methodLink RX11 329 yX11_push, Cond.instanceMethod yX11_push, Cond.selects RX11 yX11_push yX11_push, Cond.code yX11_push cX11_push 3 none, Cond.methodLink RX11 338 yX11_openBracket, Cond.instanceMethod yX11_openBracket, Cond.selects RX11 yX11_openBracket yX11_openBracket, Cond.code yX11_openBracket cX11_openBracket 2 none, Cond.methodLink RX11 365 yX11_readPart, Cond.instanceMethod yX11_readPart]
def wsL_law_r36 : List Cond := [Cond.selects RX11 yX11_readPart yX11_readPart, Cond.code yX11_readPart cX11_readPart 4 (some .int), Cond.constantLong RX11 351 (1000), Cond.constantLong RX11 357 (19), Cond.methodLink RX11 344 yX11_orderPartAt, Cond.instanceMethod yX11_orderPartAt, Cond.selects RX11 yX11_orderPartAt yX11_orderPartAt, Cond.code yX11_orderPartAt cX11_orderPartAt 3 (some .int), Cond.methodLink RX11 348 yX11_partAt, Cond.instanceMethod yX11_partAt, Cond.selects RX11 yX11_partAt yX11_partAt, Cond.code yX11_partAt cX11_partAt 3 (some .int), Cond.methodLink RX11 353 yX11_leaf, Cond.instanceMethod yX11_leaf, Cond.selects RX11 yX11_leaf yX11_leaf, Cond.code yX11_leaf cX11_leaf 4 none, Cond.methodLink RX11 310 yX11_emit, Cond.instanceMethod yX11_emit, Cond.selects RX11 yX11_emit yX11_emit, Cond.code yX11_emit cX11_emit 3 none, Cond.methodLink RX11 385 yX11_behindSum, Cond.instanceMethod yX11_behindSum, Cond.selects RX11 yX11_behindSum yX11_behindSum, Cond.code yX11_behindSum cX11_behindSum 4 (some .int)]
def wsL_law_r37 : List Cond := [Cond.methodLink RX11 307 yX11_binds, Cond.static yX11_binds, Cond.code yX11_binds cX11_binds 1 (some .int), Cond.methodLink RX11 368 yX11_settle, Cond.instanceMethod yX11_settle, Cond.selects RX11 yX11_settle yX11_settle, Cond.code yX11_settle cX11_settle 2 none, Cond.methodLink RX11 371 yX11_inner, Cond.instanceMethod yX11_inner, Cond.selects RX11 yX11_inner yX11_inner, Cond.code yX11_inner cX11_inner 3 (some .int), Cond.methodLink RX11 374 yX11_isCompared, Cond.instanceMethod yX11_isCompared, Cond.selects RX11 yX11_isCompared yX11_isCompared, Cond.code yX11_isCompared cX11_isCompared 2 (some .boolean), Cond.constantLong RX11 314 (20), Cond.constantLong RX11 316 (24), Cond.constantLong RX11 318 (25), Cond.constantLong RX11 320 (27), Cond.methodLink RX11 389 yX11_behindTest, Cond.instanceMethod yX11_behindTest, Cond.selects RX11 yX11_behindTest yX11_behindTest, Cond.code yX11_behindTest cX11_behindTest 2 (some .int), Cond.constantLong RX11 378 (1476)]
def wsL_law_r38 : List Cond := [Cond.methodLink RX11 409 yX11_endText, Cond.instanceMethod yX11_endText, Cond.selects RX11 yX11_endText yX11_endText, Cond.code yX11_endText cX11_endText 1 none, Cond.methodLink RL 54 yX10_orders, Cond.instanceMethod yX10_orders, Cond.selects RX10 yX10_orders yX10_orders, Cond.code yX10_orders cX10_orders 6 (some .int), Cond.fieldLink RX10 215 "ScansionDesk$Clauses" "asksScans" "Z", Cond.fieldLink RX10 223 "ScansionDesk$Clauses" "count" "I", Cond.methodLink RX10 208 yX7_copyFrom, Cond.instanceMethod yX7_copyFrom, Cond.selects RX7 yX7_copyFrom yX7_copyFrom, Cond.code yX7_copyFrom cX7_copyFrom 3 none, Cond.methodLink RX7 40 arraycopyName, Cond.fieldLink RX7 52 "ScansionDesk$State" "heardCount" "I", Cond.methodLink RX10 212 yX2_copyFrom, Cond.instanceMethod yX2_copyFrom, Cond.selects RX2 yX2_copyFrom yX2_copyFrom, Cond.code yX2_copyFrom cX2_copyFrom 2 none, Cond.methodLink RX2 21 arraycopyName, Cond.fieldLink RX2 27 "ScansionDesk$History" "size" "I", Cond.methodLink RX10 219 yX10_setOrderWords, Cond.instanceMethod yX10_setOrderWords]
def wsL_law_r39 : List Cond := [Cond.selects RX10 yX10_setOrderWords yX10_setOrderWords, Cond.code yX10_setOrderWords cX10_setOrderWords 4 none, Cond.methodLink RX10 296 yX10_fittingMetres, Cond.instanceMethod yX10_fittingMetres, Cond.selects RX10 yX10_fittingMetres yX10_fittingMetres, Cond.code yX10_fittingMetres cX10_fittingMetres 2 (some .int), Cond.methodLink RX10 311 yX10_takingMetres, Cond.instanceMethod yX10_takingMetres, Cond.selects RX10 yX10_takingMetres yX10_takingMetres, Cond.code yX10_takingMetres cX10_takingMetres 5 (some .int), Cond.methodLink RX10 260 yX7_metreAt, Cond.instanceMethod yX7_metreAt, Cond.selects RX7 yX7_metreAt yX7_metreAt, Cond.code yX7_metreAt cX7_metreAt 2 (some (.object "ScansionDesk$Metre")), Cond.methodLink RX10 348 yX6_takes, Cond.instanceMethod yX6_takes, Cond.selects RX6 yX6_takes yX6_takes, Cond.code yX6_takes cX6_takes 2 (some .boolean), Cond.methodLink RX6 106 yX6_flowThrough, Cond.instanceMethod yX6_flowThrough, Cond.selects RX6 yX6_flowThrough yX6_flowThrough, Cond.code yX6_flowThrough cX6_flowThrough 6 none, Cond.fieldLink RX6 110 "ScansionDesk$Scansion" "reached" "I", Cond.fieldLink RX6 113 "ScansionDesk$Metre" "kinds" "[I"]
def wsL_law_r40 : List Cond := [Cond.fieldLink RX6 125 "ScansionDesk$Metre" "nexts" "[I", Cond.fieldLink RX6 128 "ScansionDesk$Metre" "others" "[I", Cond.methodLink RX6 118 yX6_spread, Cond.instanceMethod yX6_spread, Cond.selects RX6 yX6_spread yX6_spread, Cond.code yX6_spread cX6_spread 3 none, Cond.methodLink RX6 122 yX6_withElided, Cond.instanceMethod yX6_withElided, Cond.selects RX6 yX6_withElided yX6_withElided, Cond.code yX6_withElided cX6_withElided 3 (some .int), Cond.methodLink RX10 226 yX1_told, Cond.methodLink RX10 227 yX10_runOnce, Cond.instanceMethod yX10_runOnce, Cond.selects RX10 yX10_runOnce yX10_runOnce, Cond.code yX10_runOnce cX10_runOnce 7 (some .boolean), Cond.fieldLink RX10 364 "ScansionDesk$Clauses" "code" "[I", Cond.methodLink RX10 367 yX5_reckon, Cond.methodLink RX10 231 yX10_tryWeigh, Cond.instanceMethod yX10_tryWeigh, Cond.selects RX10 yX10_tryWeigh yX10_tryWeigh, Cond.code yX10_tryWeigh cX10_tryWeigh 4 (some .int), Cond.methodLink RX10 253 yX7_setTold, Cond.instanceMethod yX7_setTold, Cond.selects RX7 yX7_setTold yX7_setTold]
def wsL_law_r41 : List Cond := [Cond.code yX7_setTold cX7_setTold 5 none, Cond.methodLink RX10 361 yX2_add, Cond.instanceMethod yX2_add, Cond.selects RX2 yX2_add yX2_add, Cond.code yX2_add cX2_add 4 none, Cond.methodLink RX2 31 yX2_dropOldest, Cond.instanceMethod yX2_dropOldest, Cond.selects RX2 yX2_dropOldest yX2_dropOldest, Cond.code yX2_dropOldest cX2_dropOldest 2 none, Cond.methodLink RX10 237 yX10_tryTurn, Cond.instanceMethod yX10_tryTurn, Cond.selects RX10 yX10_tryTurn yX10_tryTurn, Cond.code yX10_tryTurn cX10_tryTurn 3 (some .int), Cond.methodLink RX10 257 yX7_turn, Cond.instanceMethod yX7_turn, Cond.selects RX7 yX7_turn yX7_turn, Cond.code yX7_turn cX7_turn 4 (some .int), Cond.methodLink RX7 65 yX7_told, Cond.methodLink RX7 69 yX7_setTold, Cond.methodLink RX10 240 yX10_tryPass, Cond.instanceMethod yX10_tryPass, Cond.selects RX10 yX10_tryPass yX10_tryPass, Cond.code yX10_tryPass cX10_tryPass 3 (some .int), Cond.methodLink RX10 340 yJ6_bitCount_0f7a4]
def wsL_law_r42 : List Cond := [Cond.static yJ6_bitCount_0f7a4, Cond.initialized RJ6, Cond.code yJ6_bitCount_0f7a4 cJ6_bitCount_0f7a4 1 (some .int), Cond.constant RJ6 265 (1431655765), Cond.constant RJ6 266 (858993459), Cond.constant RJ6 267 (252645135), Cond.methodLink RL 57 yX11_orders, Cond.instanceMethod yX11_orders, Cond.selects RX11 yX11_orders yX11_orders, Cond.code yX11_orders cX11_orders 4 (some .int), Cond.fieldLink RX11 584 "ScansionDeskModel" "done" "I", Cond.fieldLink RX11 587 "ScansionDeskModel" "latest" "I", Cond.methodLink RX11 596 yX11_readOrder, Cond.instanceMethod yX11_readOrder, Cond.selects RX11 yX11_readOrder yX11_readOrder, Cond.code yX11_readOrder cX11_readOrder 4 none, Cond.constantLong RX11 579 (655), Cond.methodLink RX11 576 yX11_readSum, Cond.instanceMethod yX11_readSum, Cond.selects RX11 yX11_readSum yX11_readSum, Cond.code yX11_readSum cX11_readSum 2 none, Cond.methodLink RX11 203 yX11_keepAll, Cond.instanceMethod yX11_keepAll, Cond.selects RX11 yX11_keepAll yX11_keepAll]
def wsL_law_r43 : List Cond := [Cond.code yX11_keepAll cX11_keepAll 3 none, Cond.methodLink RX11 599 yX11_run, Cond.instanceMethod yX11_run, Cond.selects RX11 yX11_run yX11_run, Cond.code yX11_run cX11_run 5 (some .int), Cond.fieldLink RX11 581 "ScansionDeskModel" "off" "Z", Cond.methodLink RX11 542 yX11_fitting, Cond.instanceMethod yX11_fitting, Cond.selects RX11 yX11_fitting yX11_fitting, Cond.code yX11_fitting cX11_fitting 3 (some .int), Cond.methodLink RX11 533 yX11_leastOf, Cond.instanceMethod yX11_leastOf, Cond.selects RX11 yX11_leastOf yX11_leastOf, Cond.code yX11_leastOf cX11_leastOf 4 (some .int), Cond.constant RX11 501 (100000000), Cond.methodLink RX11 514 yX11_layMetre, Cond.instanceMethod yX11_layMetre, Cond.selects RX11 yX11_layMetre yX11_layMetre, Cond.code yX11_layMetre cX11_layMetre 7 none, Cond.fieldLink RX11 494 "ScansionDeskModel" "nSteps" "I", Cond.methodLink RX11 497 yX11_join, Cond.instanceMethod yX11_join, Cond.selects RX11 yX11_join yX11_join, Cond.code yX11_join cX11_join 6 none]
def wsL_law_r44 : List Cond := [Cond.methodLink RX11 517 yX11_layPrices, Cond.instanceMethod yX11_layPrices, Cond.selects RX11 yX11_layPrices yX11_layPrices, Cond.code yX11_layPrices cX11_layPrices 6 none, Cond.methodLink RX11 520 yX11_layLeft, Cond.instanceMethod yX11_layLeft, Cond.selects RX11 yX11_layLeft yX11_layLeft, Cond.code yX11_layLeft cX11_layLeft 3 (some .int), Cond.methodLink RX11 511 yX11_leftFrom, Cond.instanceMethod yX11_leftFrom, Cond.selects RX11 yX11_leftFrom yX11_leftFrom, Cond.code yX11_leftFrom cX11_leftFrom 7 (some .int), Cond.methodLink RX11 502 yX11_isOver, Cond.instanceMethod yX11_isOver, Cond.selects RX11 yX11_isOver yX11_isOver, Cond.code yX11_isOver cX11_isOver 2 (some .boolean), Cond.methodLink RX11 505 yX11_canCut, Cond.instanceMethod yX11_canCut, Cond.selects RX11 yX11_canCut yX11_canCut, Cond.code yX11_canCut cX11_canCut 2 (some .boolean), Cond.methodLink RX11 508 yX11_stepPrice, Cond.instanceMethod yX11_stepPrice, Cond.selects RX11 yX11_stepPrice yX11_stepPrice, Cond.code yX11_stepPrice cX11_stepPrice 5 (some .int)]
def wsL_law_r45 : List Cond := [Cond.methodLink RX11 590 yX11_sumOf, Cond.instanceMethod yX11_sumOf, Cond.selects RX11 yX11_sumOf yX11_sumOf, Cond.code yX11_sumOf cX11_sumOf 2 (some .int), Cond.methodLink RX11 593 yX11_act, Cond.instanceMethod yX11_act, Cond.selects RX11 yX11_act yX11_act, Cond.code yX11_act cX11_act 4 (some .int), Cond.methodLink RX11 548 yX11_weighNow, Cond.instanceMethod yX11_weighNow, Cond.selects RX11 yX11_weighNow yX11_weighNow, Cond.code yX11_weighNow cX11_weighNow 4 (some .int), Cond.methodLink RX11 545 yX11_remember, Cond.instanceMethod yX11_remember, Cond.selects RX11 yX11_remember yX11_remember, Cond.code yX11_remember cX11_remember 3 none, Cond.methodLink RX11 551 yX11_toggle, Cond.instanceMethod yX11_toggle, Cond.selects RX11 yX11_toggle yX11_toggle, Cond.code yX11_toggle cX11_toggle 4 (some .int), Cond.methodLink RX11 557 yX11_passNow, Cond.instanceMethod yX11_passNow, Cond.selects RX11 yX11_passNow yX11_passNow, Cond.code yX11_passNow cX11_passNow 2 (some .int)]
def wsL_law_r46 : List Cond := [Cond.methodLink RX11 554 yX11_many, Cond.instanceMethod yX11_many, Cond.selects RX11 yX11_many yX11_many, Cond.code yX11_many cX11_many 4 (some .int), Cond.methodLink RX11 602 yX11_giveBack, Cond.instanceMethod yX11_giveBack, Cond.selects RX11 yX11_giveBack yX11_giveBack, Cond.code yX11_giveBack cX11_giveBack 3 none, Cond.methodLink RX11 207 yX11_putBack, Cond.instanceMethod yX11_putBack, Cond.selects RX11 yX11_putBack yX11_putBack, Cond.code yX11_putBack cX11_putBack 3 none, Cond.methodLink RL 58 yX10_fault, Cond.instanceMethod yX10_fault, Cond.selects RX10 yX10_fault yX10_fault, Cond.code yX10_fault cX10_fault 1 (some .int), Cond.methodLink RL 61 yX11_fault, Cond.instanceMethod yX11_fault, Cond.selects RX11 yX11_fault yX11_fault, Cond.code yX11_fault cX11_fault 1 (some .int), Cond.methodLink RL 62 yX10_stopped, Cond.instanceMethod yX10_stopped, Cond.selects RX10 yX10_stopped yX10_stopped, Cond.code yX10_stopped cX10_stopped 1 (some .int)]
def wsL_law_r47 : List Cond := [Cond.methodLink RL 65 yX11_stopped, Cond.instanceMethod yX11_stopped, Cond.selects RX11 yX11_stopped yX11_stopped, Cond.code yX11_stopped cX11_stopped 1 (some .int), Cond.methodLink RL 66 yX10_force, Cond.instanceMethod yX10_force, Cond.selects RX10 yX10_force yX10_force, Cond.code yX10_force cX10_force 3 (some .int), Cond.methodLink RL 69 yX11_force, Cond.instanceMethod yX11_force, Cond.selects RX11 yX11_force yX11_force, Cond.code yX11_force cX11_force 2 (some .int), Cond.methodLink RX11 412 yX11_isLaw, Cond.instanceMethod yX11_isLaw, Cond.selects RX11 yX11_isLaw yX11_isLaw, Cond.code yX11_isLaw cX11_isLaw 2 (some .boolean), Cond.methodLink RL 70 yX10_weigh, Cond.instanceMethod yX10_weigh, Cond.selects RX10 yX10_weigh yX10_weigh, Cond.code yX10_weigh cX10_weigh 3 (some .int), Cond.methodLink RX10 234 yX10_settle, Cond.instanceMethod yX10_settle, Cond.selects RX10 yX10_settle yX10_settle, Cond.code yX10_settle cX10_settle 2 (some .int)]
def wsL_law_r48 : List Cond := [Cond.methodLink RL 73 yX11_weigh, Cond.instanceMethod yX11_weigh, Cond.selects RX11 yX11_weigh yX11_weigh, Cond.code yX11_weigh cX11_weigh 3 (some .int), Cond.methodLink RL 74 yX10_ends, Cond.instanceMethod yX10_ends, Cond.selects RX10 yX10_ends yX10_ends, Cond.code yX10_ends cX10_ends 2 (some .int), Cond.methodLink RL 77 yX11_ends, Cond.instanceMethod yX11_ends, Cond.selects RX11 yX11_ends yX11_ends, Cond.code yX11_ends cX11_ends 2 (some .int), Cond.methodLink RL 78 yX10_meets, Cond.instanceMethod yX10_meets, Cond.selects RX10 yX10_meets yX10_meets, Cond.code yX10_meets cX10_meets 2 (some .int), Cond.methodLink RL 81 yX11_meets, Cond.instanceMethod yX11_meets, Cond.selects RX11 yX11_meets yX11_meets, Cond.code yX11_meets cX11_meets 2 (some .int), Cond.methodLink RL 82 yX10_pass, Cond.instanceMethod yX10_pass, Cond.selects RX10 yX10_pass yX10_pass, Cond.code yX10_pass cX10_pass 1 (some .int)]
def wsL_law_r49 : List Cond := [Cond.methodLink RL 85 yX11_pass, Cond.instanceMethod yX11_pass, Cond.selects RX11 yX11_pass yX11_pass, Cond.code yX11_pass cX11_pass 1 (some .int), Cond.methodLink RL 86 yX10_undo, Cond.instanceMethod yX10_undo, Cond.selects RX10 yX10_undo yX10_undo, Cond.code yX10_undo cX10_undo 3 (some .int), Cond.methodLink RX10 244 yX2_latestKind, Cond.instanceMethod yX2_latestKind, Cond.selects RX2 yX2_latestKind yX2_latestKind, Cond.code yX2_latestKind cX2_latestKind 1 (some .int), Cond.methodLink RX2 34 yX2_latestIn, Cond.instanceMethod yX2_latestIn, Cond.selects RX2 yX2_latestIn yX2_latestIn, Cond.code yX2_latestIn cX2_latestIn 2 (some .int), Cond.methodLink RX10 247 yX2_latestSyllable, Cond.instanceMethod yX2_latestSyllable, Cond.selects RX2 yX2_latestSyllable yX2_latestSyllable, Cond.code yX2_latestSyllable cX2_latestSyllable 1 (some .int), Cond.methodLink RX10 250 yX2_latestWeight, Cond.instanceMethod yX2_latestWeight, Cond.selects RX2 yX2_latestWeight yX2_latestWeight, Cond.code yX2_latestWeight cX2_latestWeight 1 (some .int)]
def wsL_law_r50 : List Cond := [Cond.methodLink RL 89 yX11_undo, Cond.instanceMethod yX11_undo, Cond.selects RX11 yX11_undo yX11_undo, Cond.code yX11_undo cX11_undo 1 (some .int), Cond.methodLink RL 90 yX10_steps, Cond.instanceMethod yX10_steps, Cond.selects RX10 yX10_steps yX10_steps, Cond.code yX10_steps cX10_steps 3 (some .int), Cond.fieldLink RX10 264 "ScansionDesk$Metre" "steps" "I", Cond.methodLink RL 93 yX11_steps, Cond.instanceMethod yX11_steps, Cond.selects RX11 yX11_steps yX11_steps, Cond.code yX11_steps cX11_steps 2 (some .int), Cond.methodLink RL 94 yX10_best, Cond.instanceMethod yX10_best, Cond.selects RX10 yX10_best yX10_best, Cond.code yX10_best cX10_best 5 (some .int), Cond.constantLong RX10 273 (1152921504606846976), Cond.methodLink RX10 269 yX10_bestReading, Cond.instanceMethod yX10_bestReading, Cond.selects RX10 yX10_bestReading yX10_bestReading, Cond.code yX10_bestReading cX10_bestReading 4 (some .long), Cond.methodLink RX10 352 yX6_least, Cond.instanceMethod yX6_least]
def wsL_law_r51 : List Cond := [Cond.selects RX6 yX6_least yX6_least, Cond.code yX6_least cX6_least 6 (some .long), Cond.constantLong RX6 139 (1152921504606846976), Cond.methodLink RX6 131 yX6_setPrices, Cond.instanceMethod yX6_setPrices, Cond.selects RX6 yX6_setPrices yX6_setPrices, Cond.code yX6_setPrices cX6_setPrices 5 none, Cond.methodLink RX6 152 yX6_canRead, Cond.methodLink RX6 155 yX6_priceByCost, Cond.instanceMethod yX6_priceByCost, Cond.selects RX6 yX6_priceByCost yX6_priceByCost, Cond.code yX6_priceByCost cX6_priceByCost 3 (some .long), Cond.methodLink RX6 158 yX6_costOf, Cond.methodLink RX6 135 yX6_leastFrom, Cond.instanceMethod yX6_leastFrom, Cond.selects RX6 yX6_leastFrom yX6_leastFrom, Cond.code yX6_leastFrom cX6_leastFrom 8 (some .long), Cond.methodLink RX6 149 Lib.MathLoose.min_long.x, Cond.static Lib.MathLoose.min_long.x, Cond.code Lib.MathLoose.min_long.x Lib.MathLoose.min_long.code 4 (some .long), Cond.methodLink RX6 141 yX6_priceOf, Cond.instanceMethod yX6_priceOf, Cond.selects RX6 yX6_priceOf yX6_priceOf, Cond.code yX6_priceOf cX6_priceOf 4 (some .long)]
def wsL_law_r52 : List Cond := [Cond.methodLink RX6 145 yX6_leastIn, Cond.static yX6_leastIn, Cond.code yX6_leastIn cX6_leastIn 2 (some .long), Cond.methodLink RX10 275 yX6_costIn, Cond.static yX6_costIn, Cond.code yX6_costIn cX6_costIn 2 (some .int), Cond.methodLink RX10 279 yX6_wayIn, Cond.static yX6_wayIn, Cond.code yX6_wayIn cX6_wayIn 3 (some .int), Cond.methodLink RL 97 yX11_best, Cond.instanceMethod yX11_best, Cond.selects RX11 yX11_best yX11_best, Cond.code yX11_best cX11_best 4 (some .int), Cond.methodLink RX11 536 yX11_readBest, Cond.instanceMethod yX11_readBest, Cond.selects RX11 yX11_readBest yX11_readBest, Cond.code yX11_readBest cX11_readBest 5 none, Cond.methodLink RX11 526 yX11_passCuts, Cond.instanceMethod yX11_passCuts, Cond.selects RX11 yX11_passCuts yX11_passCuts, Cond.code yX11_passCuts cX11_passCuts 5 none, Cond.methodLink RX11 529 yX11_layThen, Cond.instanceMethod yX11_layThen, Cond.selects RX11 yX11_layThen yX11_layThen]
def wsL_law_r53 : List Cond := [Cond.code yX11_layThen cX11_layThen 8 (some .boolean), Cond.methodLink RX11 523 yX11_goesAs, Cond.static yX11_goesAs, Cond.code yX11_goesAs cX11_goesAs 2 (some .boolean), Cond.methodLink RL 98 yX10_elisions, Cond.instanceMethod yX10_elisions, Cond.selects RX10 yX10_elisions yX10_elisions, Cond.code yX10_elisions cX10_elisions 2 (some .int), Cond.methodLink RX10 283 yX10_fewestBy, Cond.instanceMethod yX10_fewestBy, Cond.selects RX10 yX10_fewestBy yX10_fewestBy, Cond.code yX10_fewestBy cX10_fewestBy 6 (some .int), Cond.methodLink RL 101 yX11_elisions, Cond.instanceMethod yX11_elisions, Cond.selects RX11 yX11_elisions yX11_elisions, Cond.code yX11_elisions cX11_elisions 2 (some .int), Cond.methodLink RL 102 yX10_mend, Cond.instanceMethod yX10_mend, Cond.selects RX10 yX10_mend yX10_mend, Cond.code yX10_mend cX10_mend 2 (some .int), Cond.methodLink RL 105 yX11_mend, Cond.instanceMethod yX11_mend, Cond.selects RX11 yX11_mend yX11_mend, Cond.code yX11_mend cX11_mend 2 (some .int)]
def wsL_law_r54 : List Cond := [Cond.methodLink RL 106 yX10_reach, Cond.instanceMethod yX10_reach, Cond.selects RX10 yX10_reach yX10_reach, Cond.code yX10_reach cX10_reach 3 (some .int), Cond.methodLink RX10 286 yX6_reachOf, Cond.instanceMethod yX6_reachOf, Cond.selects RX6 yX6_reachOf yX6_reachOf, Cond.code yX6_reachOf cX6_reachOf 4 (some .int), Cond.methodLink RL 109 yX11_reach, Cond.instanceMethod yX11_reach, Cond.selects RX11 yX11_reach yX11_reach, Cond.code yX11_reach cX11_reach 5 (some .int), Cond.methodLink RX11 539 yX11_isReached, Cond.instanceMethod yX11_isReached, Cond.selects RX11 yX11_isReached yX11_isReached, Cond.code yX11_isReached cX11_isReached 5 (some .boolean), Cond.methodLink RL 110 yX10_length, Cond.instanceMethod yX10_length, Cond.selects RX10 yX10_length yX10_length, Cond.code yX10_length cX10_length 4 (some .int), Cond.fieldLink RX10 290 "ScansionDesk$Metre" "shortest" "I", Cond.fieldLink RX10 293 "ScansionDesk$Metre" "longest" "I", Cond.methodLink RL 113 yX11_length, Cond.instanceMethod yX11_length]
def wsL_law_r55 : List Cond := [Cond.selects RX11 yX11_length yX11_length, Cond.code yX11_length cX11_length 9 (some .int), Cond.methodLink RL 114 yX10_fits, Cond.instanceMethod yX10_fits, Cond.selects RX10 yX10_fits yX10_fits, Cond.code yX10_fits cX10_fits 1 (some .int), Cond.methodLink RL 117 yX11_fits, Cond.instanceMethod yX11_fits, Cond.selects RX11 yX11_fits yX11_fits, Cond.code yX11_fits cX11_fits 1 (some .int), Cond.methodLink RL 118 yX10_heard, Cond.instanceMethod yX10_heard, Cond.selects RX10 yX10_heard yX10_heard, Cond.code yX10_heard cX10_heard 3 (some .int), Cond.fieldLink RX10 304 "ScansionDesk$State" "heardCount" "I", Cond.methodLink RX10 300 yX7_addHeard, Cond.instanceMethod yX7_addHeard, Cond.selects RX7 yX7_addHeard yX7_addHeard, Cond.code yX7_addHeard cX7_addHeard 3 (some .boolean), Cond.methodLink RL 121 yX11_heard, Cond.instanceMethod yX11_heard, Cond.selects RX11 yX11_heard yX11_heard, Cond.code yX11_heard cX11_heard 4 (some .int), Cond.methodLink RL 122 yX10_forget]
def wsL_law_r56 : List Cond := [Cond.instanceMethod yX10_forget, Cond.selects RX10 yX10_forget yX10_forget, Cond.code yX10_forget cX10_forget 2 (some .int), Cond.methodLink RL 125 yX11_forget, Cond.instanceMethod yX11_forget, Cond.selects RX11 yX11_forget yX11_forget, Cond.code yX11_forget cX11_forget 2 (some .int), Cond.methodLink RL 126 yX10_canBe, Cond.instanceMethod yX10_canBe, Cond.selects RX10 yX10_canBe yX10_canBe, Cond.code yX10_canBe cX10_canBe 1 (some .int), Cond.methodLink RX10 307 yX6_hear, Cond.instanceMethod yX6_hear, Cond.selects RX6 yX6_hear yX6_hear, Cond.code yX6_hear cX6_hear 5 (some .boolean), Cond.fieldLink RX6 93 "ScansionDesk$State" "heardCount" "I", Cond.methodLink RX6 96 yX7_heardPlace, Cond.instanceMethod yX7_heardPlace, Cond.selects RX7 yX7_heardPlace yX7_heardPlace, Cond.code yX7_heardPlace cX7_heardPlace 2 (some .int), Cond.methodLink RX6 99 yX7_hasSyllable, Cond.methodLink RX6 103 yX7_heardWay, Cond.instanceMethod yX7_heardWay, Cond.selects RX7 yX7_heardWay yX7_heardWay]
def wsL_law_r57 : List Cond := [Cond.code yX7_heardWay cX7_heardWay 2 (some .int), Cond.methodLink RL 129 yX11_canBe, Cond.instanceMethod yX11_canBe, Cond.selects RX11 yX11_canBe yX11_canBe, Cond.code yX11_canBe cX11_canBe 1 (some .int), Cond.methodLink RX11 563 yX11_thatCanBe, Cond.instanceMethod yX11_thatCanBe, Cond.selects RX11 yX11_thatCanBe yX11_thatCanBe, Cond.code yX11_thatCanBe cX11_thatCanBe 3 (some .int), Cond.methodLink RX11 560 yX11_isHeard, Cond.instanceMethod yX11_isHeard, Cond.selects RX11 yX11_isHeard yX11_isHeard, Cond.code yX11_isHeard cX11_isHeard 6 (some .boolean), Cond.methodLink RL 130 yX10_listen, Cond.instanceMethod yX10_listen, Cond.selects RX10 yX10_listen yX10_listen, Cond.code yX10_listen cX10_listen 7 (some .int), Cond.methodLink RX10 314 yX10_canBe, Cond.methodLink RX10 317 yX10_mostAlike, Cond.instanceMethod yX10_mostAlike, Cond.selects RX10 yX10_mostAlike yX10_mostAlike, Cond.code yX10_mostAlike cX10_mostAlike 6 (some .int), Cond.methodLink RX10 356 Lib.Math.max.name, Cond.methodLink RL 133 yX11_listen]
def wsL_law_r58 : List Cond := [Cond.instanceMethod yX11_listen, Cond.selects RX11 yX11_listen yX11_listen, Cond.code yX11_listen cX11_listen 7 (some .int), Cond.methodLink RX11 566 yX11_is, Cond.static yX11_is, Cond.code yX11_is cX11_is 2 (some .boolean), Cond.methodLink RX11 569 yX11_mostAlike, Cond.instanceMethod yX11_mostAlike, Cond.selects RX11 yX11_mostAlike yX11_mostAlike, Cond.code yX11_mostAlike cX11_mostAlike 7 (some .int), Cond.methodLink RL 134 yX10_few, Cond.instanceMethod yX10_few, Cond.selects RX10 yX10_few yX10_few, Cond.code yX10_few cX10_few 8 (some .long), Cond.constantLong RX10 320 (-1), Cond.constantLong RX10 328 (1000000000000), Cond.constantLong RX10 330 (10), Cond.methodLink RX10 322 yJ7_fill_d0a16, Cond.static yJ7_fill_d0a16, Cond.code yJ7_fill_d0a16 cJ7_fill_d0a16 5 none, Cond.methodLink RL 138 yX11_few, Cond.instanceMethod yX11_few, Cond.selects RX11 yX11_few yX11_few, Cond.code yX11_few cX11_few 8 (some .long)]
def wsL_law_r59 : List Cond := [Cond.constantLong RX11 572 (99), Cond.constantLong RX11 574 (1000000000000), Cond.methodLink RL 139 yX10_compare, Cond.instanceMethod yX10_compare, Cond.selects RX10 yX10_compare yX10_compare, Cond.code yX10_compare cX10_compare 5 (some .int), Cond.methodLink RL 142 yX11_compare, Cond.instanceMethod yX11_compare, Cond.selects RX11 yX11_compare yX11_compare, Cond.code yX11_compare cX11_compare 5 (some .int), Cond.methodLink RL 143 yX10_weeks, Cond.instanceMethod yX10_weeks, Cond.selects RX10 yX10_weeks yX10_weeks, Cond.code yX10_weeks cX10_weeks 9 (some .int), Cond.constant RX10 332 (1000000), Cond.methodLink RX10 333 yX10_nextDraw, Cond.static yX10_nextDraw, Cond.code yX10_nextDraw cX10_nextDraw 1 (some .int), Cond.constant RX10 371 (1000003), Cond.methodLink RX10 336 yX10_changeByDraws, Cond.static yX10_changeByDraws, Cond.code yX10_changeByDraws cX10_changeByDraws 4 none, Cond.methodLink RL 146 yX11_weeks, Cond.instanceMethod yX11_weeks]
def wsL_law_r60 : List Cond := [Cond.selects RX11 yX11_weeks yX11_weeks, Cond.code yX11_weeks cX11_weeks 9 (some .int), Cond.constantLong RX11 614 (60), Cond.fieldLink RX11 605 "ScansionDeskModel" "state" "J", Cond.methodLink RX11 616 yX11_draw, Cond.instanceMethod yX11_draw, Cond.selects RX11 yX11_draw yX11_draw, Cond.code yX11_draw cX11_draw 2 (some .int), Cond.constantLong RX11 608 (1103), Cond.constantLong RX11 610 (12345), Cond.constantLong RX11 612 (1000003), Cond.methodLink RL 147 yX10_drawn, Cond.instanceMethod yX10_drawn, Cond.selects RX10 yX10_drawn yX10_drawn, Cond.code yX10_drawn cX10_drawn 3 (some .int), Cond.methodLink RL 150 yX11_drawn, Cond.instanceMethod yX11_drawn, Cond.selects RX11 yX11_drawn yX11_drawn, Cond.code yX11_drawn cX11_drawn 3 (some .int), Cond.methodLink RL 151 yX10_image, Cond.instanceMethod yX10_image, Cond.selects RX10 yX10_image yX10_image, Cond.code yX10_image cX10_image 3 (some .int), Cond.methodLink RL 154 yX11_image]
def wsL_law_r61 : List Cond := [Cond.instanceMethod yX11_image, Cond.selects RX11 yX11_image yX11_image, Cond.code yX11_image cX11_image 3 (some .int), Cond.methodLink RL 155 yX10_back, Cond.instanceMethod yX10_back, Cond.selects RX10 yX10_back yX10_back, Cond.code yX10_back cX10_back 3 (some .int), Cond.methodLink RL 158 yX11_back, Cond.instanceMethod yX11_back, Cond.selects RX11 yX11_back yX11_back, Cond.code yX11_back cX11_back 3 (some .int), Cond.methodLink RL 159 yX10_count, Cond.instanceMethod yX10_count, Cond.selects RX10 yX10_count yX10_count, Cond.code yX10_count cX10_count 2 (some .int), Cond.methodLink RL 162 yX11_count, Cond.instanceMethod yX11_count, Cond.selects RX11 yX11_count yX11_count, Cond.code yX11_count cX11_count 2 (some .int), Cond.constantLong RX11 619 (12), Cond.constantLong RX11 621 (14), Cond.methodLink RL 163 yX10_status, Cond.instanceMethod yX10_status, Cond.selects RX10 yX10_status yX10_status]
def wsL_law_r62 : List Cond := [Cond.code yX10_status cX10_status 1 (some .int), Cond.methodLink RL 166 yX11_status, Cond.instanceMethod yX11_status, Cond.selects RX11 yX11_status yX11_status, Cond.code yX11_status cX11_status 1 (some .int)]
abbrev vwCl : List vw_C := [(RX0, TX0, 3), (RX1, TX1, 5), (RX2, TX2, 4), (RX3, TX3, 6), (RX4, TX4, 11), (RX5, TX5, 1), (RX6, TX6, 11), (RX7, TX7, 11), (RX8, TX8, 2), (RX9, TX9, 6), (RX10, TX10, 20), (RX11, TX11, 72)]
end
section
def zt : Nat → List Cond
  | 0 => k2_sels lw_privs
  | 1 => tables_1_1
  | 2 => tables_1_2
  | 3 => tables_1_3
  | 4 => tables_1_4
  | 5 => tables_1_5
  | 6 => tables_1_6
  | 7 => tables_1_7
  | 8 => tables_1_8
  | _ => []
theorem zt_in (k : Nat) : ∀ w ∈ zt k, w ∈ lw_tbl := by
  intro w h
  show w ∈ k2_sels lw_privs ++ (tables_1_1 ++ (tables_1_2 ++ (tables_1_3 ++ (tables_1_4 ++ (tables_1_5 ++ (tables_1_6 ++ (tables_1_7 ++ tables_1_8)))))))
  simp only [List.mem_append]
  match k, h with
  | 0, h => exact Or.inl h
  | 1, h => exact Or.inr (Or.inl h)
  | 2, h => exact Or.inr (Or.inr (Or.inl h))
  | 3, h => exact Or.inr (Or.inr (Or.inr (Or.inl h)))
  | 4, h => exact Or.inr (Or.inr (Or.inr (Or.inr (Or.inl h))))
  | 5, h => exact Or.inr (Or.inr (Or.inr (Or.inr (Or.inr (Or.inl h)))))
  | 6, h => exact Or.inr (Or.inr (Or.inr (Or.inr (Or.inr (Or.inr (Or.inl h))))))
  | 7, h => exact Or.inr (Or.inr (Or.inr (Or.inr (Or.inr (Or.inr (Or.inr (Or.inl h)))))))
  | 8, h => exact Or.inr (Or.inr (Or.inr (Or.inr (Or.inr (Or.inr (Or.inr (Or.inr (h))))))))
  | _ + 9, h => exact absurd h List.not_mem_nil
def zpl (p : Nat × Nat) : Option Cond := (zt p.1)[p.2]?
theorem zpl_in (r : List Cond) (ps : List (Nat × Nat)) (h : r = ps.filterMap zpl) : ∀ w ∈ r, w ∈ lw_tbl := by
  intro w hw
  rw [h] at hw
  obtain ⟨p, -, hp⟩ := List.mem_filterMap.mp hw
  exact zt_in p.1 w (List.mem_of_getElem? hp)
theorem zin_1 : ∀ w ∈ wsL_law_r1, w ∈ lw_tbl := zpl_in _ [(1, 21), (1, 22), (1, 1), (5, 82), (5, 83), (1, 12), (1, 23), (1, 24), (1, 25), (1, 26), (1, 27), (1, 28), (1, 29), (1, 30), (1, 2), (2, 54), (2, 55), (2, 56), (2, 57), (1, 82), (1, 83), (1, 3), (2, 58), (2, 59)] rfl
theorem zgd_1 : wsL_law_r1.all goodWord = true := by decide +kernel
theorem zin_2 : ∀ w ∈ wsL_law_r2, w ∈ lw_tbl := zpl_in _ [(1, 102), (1, 103), (1, 4), (2, 60), (1, 117), (1, 118), (1, 5), (2, 61), (1, 147), (1, 148), (1, 6), (2, 62), (1, 187), (1, 188), (1, 7), (2, 63), (1, 239), (2, 0), (1, 10), (2, 64), (2, 9), (2, 10), (1, 11), (2, 65)] rfl
theorem zgd_2 : wsL_law_r2.all goodWord = true := by decide +kernel
theorem zin_3 : ∀ w ∈ wsL_law_r3, w ∈ lw_tbl := zpl_in _ [(1, 80), (2, 66), (2, 51), (2, 67), (2, 68), (2, 52), (2, 69), (2, 71), (2, 73), (1, 32), (1, 33), (1, 34), (1, 39), (1, 40), (1, 41), (1, 42), (1, 35), (1, 43), (1, 37), (1, 44), (1, 55), (1, 85), (1, 86), (1, 87)] rfl
theorem zgd_3 : wsL_law_r3.all goodWord = true := by decide +kernel
theorem zin_4 : ∀ w ∈ wsL_law_r4, w ∈ lw_tbl := zpl_in _ [(1, 88), (1, 89), (1, 90), (1, 105), (1, 106), (1, 107), (1, 108), (1, 120), (1, 121), (1, 122), (1, 123), (1, 124), (1, 125), (1, 130), (1, 150), (1, 151), (1, 152), (1, 153), (1, 154), (1, 155), (1, 156), (1, 157), (1, 158), (1, 159)] rfl
theorem zgd_4 : wsL_law_r4.all goodWord = true := by decide +kernel
theorem zin_5 : ∀ w ∈ wsL_law_r5, w ∈ lw_tbl := zpl_in _ [(1, 160), (1, 161), (1, 162), (1, 190), (1, 191), (1, 192), (1, 193), (1, 194), (1, 8), (1, 228), (1, 195), (1, 196), (1, 197), (1, 198), (1, 199), (1, 9), (1, 200), (1, 201), (1, 202), (1, 203), (1, 204), (1, 205), (1, 208), (2, 2)] rfl
theorem zgd_5 : wsL_law_r5.all goodWord = true := by decide +kernel
theorem zin_6 : ∀ w ∈ wsL_law_r6, w ∈ lw_tbl := zpl_in _ [(2, 3), (2, 4), (2, 5), (2, 12), (2, 13), (2, 14), (2, 15), (2, 17), (2, 18), (2, 19), (2, 20), (2, 21), (2, 22), (2, 23), (2, 24), (5, 84), (5, 85), (5, 86), (5, 87), (5, 113), (5, 114), (5, 115), (6, 88), (5, 116)] rfl
theorem zgd_6 : wsL_law_r6.all goodWord = true := by decide +kernel
theorem zin_7 : ∀ w ∈ wsL_law_r7, w ∈ lw_tbl := zpl_in _ [(5, 117), (5, 118), (5, 120), (5, 121), (5, 123), (5, 129), (5, 133), (5, 135), (5, 136), (5, 138), (5, 139), (5, 88), (5, 89), (5, 90), (5, 91), (5, 92), (5, 93), (5, 94), (5, 95), (5, 142), (5, 96), (5, 97), (5, 98), (5, 143)] rfl
theorem zgd_7 : wsL_law_r7.all goodWord = true := by decide +kernel
theorem zin_8 : ∀ w ∈ wsL_law_r8, w ∈ lw_tbl := zpl_in _ [(5, 99), (5, 100), (5, 101), (5, 144), (5, 146), (5, 147), (5, 148), (5, 102), (5, 103), (5, 104), (5, 105), (5, 153), (5, 154), (5, 156), (5, 157), (5, 159), (5, 160), (5, 161), (5, 106), (5, 163), (5, 164), (5, 165), (5, 166), (5, 167)] rfl
theorem zgd_8 : wsL_law_r8.all goodWord = true := by decide +kernel
theorem zin_9 : ∀ w ∈ wsL_law_r9, w ∈ lw_tbl := zpl_in _ [(5, 168), (5, 169), (5, 170), (5, 171), (5, 172), (5, 173), (5, 107), (5, 108), (5, 109), (5, 110), (5, 174), (5, 175), (5, 178), (5, 181), (5, 182), (2, 115), (2, 116), (2, 117), (2, 118), (1, 91), (1, 46), (2, 119), (2, 120), (2, 121)] rfl
theorem zgd_9 : wsL_law_r9.all goodWord = true := by decide +kernel
theorem zin_10 : ∀ w ∈ wsL_law_r10, w ∈ lw_tbl := zpl_in _ [(2, 122), (2, 124), (0, 0), (2, 125), (2, 70), (2, 126), (2, 127), (2, 128), (2, 129), (1, 47), (2, 130), (2, 131), (2, 133), (0, 1), (2, 134), (6, 116), (6, 117), (6, 118), (6, 119), (5, 111), (6, 120), (6, 122), (0, 40), (6, 123)] rfl
theorem zgd_10 : wsL_law_r10.all goodWord = true := by decide +kernel
theorem zin_11 : ∀ w ∈ wsL_law_r11, w ∈ lw_tbl := zpl_in _ [(6, 124), (6, 105), (6, 106), (6, 107), (6, 112), (6, 114), (0, 39), (6, 115), (5, 119), (6, 93), (6, 95), (0, 37), (6, 96), (5, 112), (2, 135), (2, 136), (2, 137), (2, 138), (1, 56), (2, 139), (2, 140), (2, 141), (2, 142), (2, 143)] rfl
theorem zgd_11 : wsL_law_r11.all goodWord = true := by decide +kernel
theorem zin_12 : ∀ w ∈ wsL_law_r12, w ∈ lw_tbl := zpl_in _ [(2, 144), (2, 145), (2, 146), (2, 147), (2, 148), (2, 149), (2, 150), (1, 53), (2, 151), (2, 152), (2, 153), (2, 154), (1, 45), (2, 25), (2, 26), (2, 155), (2, 156), (1, 13), (2, 157), (2, 158), (2, 159), (2, 160), (2, 161), (2, 162)] rfl
theorem zgd_12 : wsL_law_r12.all goodWord = true := by decide +kernel
theorem zin_13 : ∀ w ∈ wsL_law_r13, w ∈ lw_tbl := zpl_in _ [(2, 163), (2, 165), (0, 2), (2, 166), (1, 210), (1, 206), (2, 182), (2, 183), (2, 184), (2, 185), (2, 186), (2, 167), (2, 168), (2, 169), (2, 170), (2, 171), (2, 172), (2, 173), (2, 174), (2, 175), (2, 176), (2, 177), (2, 178), (2, 179)] rfl
theorem zgd_13 : wsL_law_r13.all goodWord = true := by decide +kernel
theorem zin_14 : ∀ w ∈ wsL_law_r14, w ∈ lw_tbl := zpl_in _ [(2, 180), (2, 181), (2, 187), (2, 188), (2, 189), (2, 190), (2, 191), (2, 192), (2, 193), (2, 194), (6, 125), (6, 126), (6, 127), (6, 128), (6, 133), (6, 134), (6, 162), (6, 163), (6, 129), (6, 131), (0, 41), (6, 132), (6, 135), (6, 137)] rfl
theorem zgd_14 : wsL_law_r14.all goodWord = true := by decide +kernel
theorem zin_15 : ∀ w ∈ wsL_law_r15, w ∈ lw_tbl := zpl_in _ [(0, 42), (6, 138), (6, 139), (6, 141), (0, 43), (6, 142), (5, 145), (5, 152), (6, 143), (6, 145), (0, 44), (6, 146), (5, 149), (5, 150), (6, 147), (6, 149), (0, 45), (6, 150), (5, 131), (5, 151), (6, 155), (6, 160), (6, 161), (6, 151)] rfl
theorem zgd_15 : wsL_law_r15.all goodWord = true := by decide +kernel
theorem zin_16 : ∀ w ∈ wsL_law_r16, w ∈ lw_tbl := zpl_in _ [(6, 153), (0, 46), (6, 154), (6, 156), (6, 158), (0, 47), (6, 159), (6, 164), (6, 166), (0, 48), (6, 167), (6, 168), (6, 169), (6, 170), (2, 195), (2, 196), (2, 197), (2, 198), (2, 199), (2, 201), (2, 202), (2, 203), (2, 204), (2, 205)] rfl
theorem zgd_16 : wsL_law_r16.all goodWord = true := by decide +kernel
theorem zin_17 : ∀ w ∈ wsL_law_r17, w ∈ lw_tbl := zpl_in _ [(6, 171), (6, 172), (6, 173), (6, 174), (6, 175), (6, 176), (6, 177), (6, 178), (6, 180), (0, 49), (6, 181), (2, 206), (2, 207), (2, 208), (2, 209), (1, 111), (2, 210), (2, 211), (2, 212), (2, 213), (1, 109), (2, 214), (2, 215), (2, 216)] rfl
theorem zgd_17 : wsL_law_r17.all goodWord = true := by decide +kernel
theorem zin_18 : ∀ w ∈ wsL_law_r18, w ∈ lw_tbl := zpl_in _ [(2, 217), (6, 190), (6, 191), (6, 192), (6, 193), (5, 124), (6, 194), (6, 196), (0, 50), (6, 197), (2, 218), (2, 219), (2, 220), (2, 221), (6, 198), (6, 199), (6, 200), (6, 201), (2, 222), (2, 223), (2, 224), (2, 225), (2, 72), (2, 226)] rfl
theorem zgd_18 : wsL_law_r18.all goodWord = true := by decide +kernel
theorem zin_19 : ∀ w ∈ wsL_law_r19, w ∈ lw_tbl := zpl_in _ [(2, 227), (2, 228), (2, 229), (6, 182), (6, 183), (6, 184), (6, 185), (5, 122), (2, 230), (2, 231), (2, 232), (2, 233), (6, 186), (6, 187), (6, 188), (6, 189), (2, 234), (2, 235), (2, 236), (2, 237), (1, 52), (1, 133), (2, 238), (2, 239)] rfl
theorem zgd_19 : wsL_law_r19.all goodWord = true := by decide +kernel
theorem zin_20 : ∀ w ∈ wsL_law_r20, w ∈ lw_tbl := zpl_in _ [(3, 0), (3, 1), (1, 126), (1, 127), (1, 110), (3, 72), (3, 2), (3, 3), (3, 4), (3, 5), (3, 6), (3, 7), (3, 8), (3, 9), (3, 10), (3, 11), (3, 12), (3, 13), (3, 14), (3, 16), (3, 17), (3, 18), (1, 14), (3, 19)] rfl
theorem zgd_20 : wsL_law_r20.all goodWord = true := by decide +kernel
theorem zin_21 : ∀ w ∈ wsL_law_r21, w ∈ lw_tbl := zpl_in _ [(8, 127), (3, 20), (3, 21), (3, 22), (3, 23), (3, 24), (8, 128), (3, 26), (3, 27), (3, 28), (3, 29), (3, 30), (3, 31), (3, 32), (3, 33), (3, 34), (3, 35), (1, 15), (3, 36), (3, 37), (3, 38), (3, 39), (3, 40), (3, 42)] rfl
theorem zgd_21 : wsL_law_r21.all goodWord = true := by decide +kernel
theorem zin_22 : ∀ w ∈ wsL_law_r22, w ∈ lw_tbl := zpl_in _ [(3, 43), (1, 16), (3, 44), (3, 45), (3, 46), (1, 17), (3, 47), (3, 48), (3, 49), (3, 50), (3, 51), (3, 52), (3, 53), (3, 54), (3, 55), (3, 56), (3, 57), (3, 58), (3, 60), (3, 62), (3, 64), (3, 66), (0, 3), (3, 67)] rfl
theorem zgd_22 : wsL_law_r22.all goodWord = true := by decide +kernel
theorem zin_23 : ∀ w ∈ wsL_law_r23, w ∈ lw_tbl := zpl_in _ [(3, 68), (3, 69), (3, 70), (3, 71), (3, 73), (3, 74), (3, 75), (3, 76), (1, 131), (1, 163), (3, 137), (3, 138), (1, 18), (3, 77), (3, 79), (0, 4), (3, 80), (1, 129), (3, 117), (3, 81), (3, 83), (0, 5), (3, 114), (3, 115)] rfl
theorem zgd_23 : wsL_law_r23.all goodWord = true := by decide +kernel
theorem zin_24 : ∀ w ∈ wsL_law_r24, w ∈ lw_tbl := zpl_in _ [(3, 116), (3, 109), (3, 98), (3, 99), (3, 100), (3, 84), (3, 85), (3, 87), (0, 6), (3, 89), (3, 90), (3, 91), (3, 92), (3, 118), (3, 119), (3, 120), (3, 105), (3, 106), (3, 107), (3, 88), (3, 93), (3, 94), (3, 95), (3, 96)] rfl
theorem zgd_24 : wsL_law_r24.all goodWord = true := by decide +kernel
theorem zin_25 : ∀ w ∈ wsL_law_r25, w ∈ lw_tbl := zpl_in _ [(3, 97), (3, 101), (3, 102), (3, 103), (3, 104), (3, 108), (3, 110), (3, 111), (3, 112), (3, 113), (3, 121), (3, 123), (0, 7), (3, 124), (3, 128), (3, 125), (3, 126), (3, 127), (3, 129), (3, 131), (0, 8), (3, 132), (3, 133), (3, 135)] rfl
theorem zgd_25 : wsL_law_r25.all goodWord = true := by decide +kernel
theorem zin_26 : ∀ w ∈ wsL_law_r26, w ∈ lw_tbl := zpl_in _ [(0, 9), (3, 136), (3, 139), (3, 140), (3, 141), (3, 142), (3, 143), (3, 144), (3, 145), (3, 146), (3, 148), (3, 149), (3, 150), (3, 152), (3, 151), (1, 19), (3, 153), (3, 154), (3, 155), (3, 156), (3, 157), (3, 159), (3, 161), (3, 163)] rfl
theorem zgd_26 : wsL_law_r26.all goodWord = true := by decide +kernel
theorem zin_27 : ∀ w ∈ wsL_law_r27, w ∈ lw_tbl := zpl_in _ [(3, 165), (3, 167), (3, 183), (3, 184), (3, 185), (3, 186), (1, 51), (7, 93), (7, 94), (7, 95), (7, 96), (5, 130), (7, 97), (7, 99), (0, 75), (7, 100), (5, 155), (5, 158), (7, 79), (5, 127), (6, 214), (6, 216), (0, 52), (6, 217)] rfl
theorem zgd_27 : wsL_law_r27.all goodWord = true := by decide +kernel
theorem zin_28 : ∀ w ∈ wsL_law_r28, w ∈ lw_tbl := zpl_in _ [(5, 126), (6, 218), (6, 220), (0, 53), (6, 221), (5, 125), (5, 128), (6, 228), (6, 229), (6, 230), (6, 231), (6, 222), (6, 223), (6, 224), (6, 225), (6, 226), (6, 227), (7, 101), (7, 103), (0, 76), (7, 104), (7, 105), (7, 107), (0, 77)] rfl
theorem zgd_28 : wsL_law_r28.all goodWord = true := by decide +kernel
theorem zin_29 : ∀ w ∈ wsL_law_r29, w ∈ lw_tbl := zpl_in _ [(7, 108), (7, 17), (7, 19), (0, 60), (7, 20), (7, 0), (7, 2), (0, 56), (7, 3), (7, 109), (7, 111), (0, 78), (7, 112), (6, 236), (6, 238), (0, 55), (6, 239), (7, 113), (7, 115), (0, 79), (7, 116), (7, 117), (7, 119), (0, 80)] rfl
theorem zgd_29 : wsL_law_r29.all goodWord = true := by decide +kernel
theorem zin_30 : ∀ w ∈ wsL_law_r30, w ∈ lw_tbl := zpl_in _ [(7, 120), (7, 121), (7, 47), (7, 49), (0, 67), (7, 50), (7, 122), (7, 124), (0, 81), (7, 125), (7, 126), (7, 128), (0, 82), (7, 129), (7, 130), (7, 131), (7, 133), (0, 83), (7, 134), (7, 135), (7, 137), (0, 84), (7, 138), (3, 187)] rfl
theorem zgd_30 : wsL_law_r30.all goodWord = true := by decide +kernel
theorem zin_31 : ∀ w ∈ wsL_law_r31, w ∈ lw_tbl := zpl_in _ [(3, 188), (3, 189), (3, 190), (1, 54), (1, 229), (3, 191), (3, 192), (3, 193), (3, 194), (1, 209), (1, 213), (1, 215), (1, 230), (1, 231), (1, 132), (3, 195), (3, 197), (0, 10), (3, 198), (1, 128), (3, 199), (3, 200), (3, 201), (3, 202)] rfl
theorem zgd_31 : wsL_law_r31.all goodWord = true := by decide +kernel
theorem zin_32 : ∀ w ∈ wsL_law_r32, w ∈ lw_tbl := zpl_in _ [(3, 203), (3, 204), (3, 205), (3, 206), (3, 208), (0, 11), (3, 209), (3, 210), (3, 212), (0, 12), (3, 216), (3, 217), (3, 218), (3, 219), (1, 214), (3, 228), (3, 229), (3, 230), (3, 213), (3, 214), (3, 215), (3, 220), (3, 222), (0, 13)] rfl
theorem zgd_32 : wsL_law_r32.all goodWord = true := by decide +kernel
theorem zin_33 : ∀ w ∈ wsL_law_r33, w ∈ lw_tbl := zpl_in _ [(3, 223), (3, 224), (3, 226), (0, 14), (3, 227), (3, 231), (3, 233), (0, 15), (3, 234), (3, 235), (3, 237), (0, 16), (3, 238), (3, 239), (4, 0), (4, 1), (4, 2), (4, 3), (4, 4), (4, 5), (4, 6), (4, 7), (4, 8), (4, 9)] rfl
theorem zgd_33 : wsL_law_r33.all goodWord = true := by decide +kernel
theorem zin_34 : ∀ w ∈ wsL_law_r34, w ∈ lw_tbl := zpl_in _ [(4, 10), (4, 11), (4, 12), (4, 13), (1, 211), (4, 14), (4, 15), (4, 16), (4, 17), (4, 18), (4, 19), (6, 206), (6, 207), (6, 208), (6, 209), (5, 132), (5, 134), (6, 210), (6, 212), (0, 51), (6, 213), (5, 137), (6, 232), (6, 234)] rfl
theorem zgd_34 : wsL_law_r34.all goodWord = true := by decide +kernel
theorem zin_35 : ∀ w ∈ wsL_law_r35, w ∈ lw_tbl := zpl_in _ [(0, 54), (6, 235), (7, 80), (7, 4), (7, 6), (0, 57), (7, 7), (5, 140), (5, 141), (7, 8), (7, 10), (0, 58), (7, 11), (7, 12), (7, 13), (7, 15), (0, 59), (7, 16), (7, 21), (7, 23), (0, 61), (7, 24), (7, 25), (7, 27)] rfl
theorem zgd_35 : wsL_law_r35.all goodWord = true := by decide +kernel
theorem zin_36 : ∀ w ∈ wsL_law_r36, w ∈ lw_tbl := zpl_in _ [(0, 62), (7, 28), (7, 37), (7, 46), (7, 29), (7, 31), (0, 63), (7, 32), (7, 33), (7, 35), (0, 64), (7, 36), (7, 38), (7, 40), (0, 65), (7, 41), (7, 42), (7, 44), (0, 66), (7, 45), (7, 51), (7, 53), (0, 68), (7, 54)] rfl
theorem zgd_36 : wsL_law_r36.all goodWord = true := by decide +kernel
theorem zin_37 : ∀ w ∈ wsL_law_r37, w ∈ lw_tbl := zpl_in _ [(7, 55), (7, 56), (7, 57), (7, 58), (7, 60), (0, 69), (7, 61), (7, 62), (7, 64), (0, 70), (7, 65), (7, 66), (7, 68), (0, 71), (7, 69), (7, 70), (7, 71), (7, 72), (7, 73), (7, 74), (7, 76), (0, 72), (7, 77), (7, 78)] rfl
theorem zgd_37 : wsL_law_r37.all goodWord = true := by decide +kernel
theorem zin_38 : ∀ w ∈ wsL_law_r38, w ∈ lw_tbl := zpl_in _ [(7, 81), (7, 83), (0, 73), (7, 84), (4, 20), (4, 21), (4, 22), (4, 23), (1, 216), (1, 212), (4, 24), (4, 25), (4, 26), (4, 27), (4, 28), (1, 48), (4, 30), (4, 31), (4, 32), (4, 33), (4, 34), (1, 92), (4, 35), (4, 37)] rfl
theorem zgd_38 : wsL_law_r38.all goodWord = true := by decide +kernel
theorem zin_39 : ∀ w ∈ wsL_law_r39, w ∈ lw_tbl := zpl_in _ [(0, 17), (4, 38), (4, 39), (4, 41), (0, 18), (4, 42), (4, 43), (4, 45), (0, 19), (4, 46), (4, 47), (4, 48), (4, 49), (4, 50), (4, 51), (4, 52), (4, 53), (4, 54), (4, 55), (4, 57), (0, 20), (4, 58), (2, 27), (3, 158)] rfl
theorem zgd_39 : wsL_law_r39.all goodWord = true := by decide +kernel
theorem zin_40 : ∀ w ∈ wsL_law_r40, w ∈ lw_tbl := zpl_in _ [(3, 160), (3, 162), (4, 59), (4, 61), (0, 21), (4, 62), (4, 63), (4, 65), (0, 22), (4, 66), (4, 67), (4, 68), (4, 70), (0, 23), (4, 71), (1, 207), (4, 72), (4, 73), (4, 75), (0, 24), (4, 76), (4, 77), (4, 78), (4, 79)] rfl
theorem zgd_40 : wsL_law_r40.all goodWord = true := by decide +kernel
theorem zin_41 : ∀ w ∈ wsL_law_r41, w ∈ lw_tbl := zpl_in _ [(4, 80), (4, 81), (4, 82), (4, 83), (4, 84), (4, 85), (4, 87), (0, 25), (4, 88), (4, 89), (4, 91), (0, 26), (4, 92), (4, 93), (4, 94), (4, 95), (4, 96), (4, 97), (4, 98), (4, 99), (4, 101), (0, 27), (4, 102), (4, 103)] rfl
theorem zgd_41 : wsL_law_r41.all goodWord = true := by decide +kernel
theorem zin_42 : ∀ w ∈ wsL_law_r42, w ∈ lw_tbl := zpl_in _ [(4, 104), (1, 20), (4, 105), (4, 106), (4, 107), (4, 108), (8, 68), (8, 69), (8, 70), (8, 71), (5, 176), (5, 177), (8, 72), (8, 74), (0, 108), (8, 75), (8, 80), (8, 76), (8, 78), (0, 109), (8, 79), (8, 3), (8, 5), (0, 101)] rfl
theorem zgd_42 : wsL_law_r42.all goodWord = true := by decide +kernel
theorem zin_43 : ∀ w ∈ wsL_law_r43, w ∈ lw_tbl := zpl_in _ [(8, 6), (8, 81), (8, 83), (0, 110), (8, 84), (5, 179), (7, 223), (7, 225), (0, 98), (7, 226), (7, 155), (7, 157), (0, 87), (7, 158), (7, 163), (7, 143), (7, 145), (0, 85), (7, 146), (5, 162), (7, 147), (7, 149), (0, 86), (7, 150)] rfl
theorem zgd_43 : wsL_law_r43.all goodWord = true := by decide +kernel
theorem zin_44 : ∀ w ∈ wsL_law_r44, w ∈ lw_tbl := zpl_in _ [(7, 159), (7, 161), (0, 88), (7, 162), (7, 164), (7, 166), (0, 89), (7, 167), (7, 168), (7, 170), (0, 90), (7, 171), (7, 172), (7, 174), (0, 91), (7, 175), (7, 176), (7, 178), (0, 92), (7, 179), (7, 180), (7, 182), (0, 93), (7, 183)] rfl
theorem zgd_44 : wsL_law_r44.all goodWord = true := by decide +kernel
theorem zin_45 : ∀ w ∈ wsL_law_r45, w ∈ lw_tbl := zpl_in _ [(8, 85), (8, 87), (0, 111), (8, 88), (8, 89), (8, 91), (0, 112), (8, 92), (7, 235), (7, 237), (0, 99), (7, 238), (7, 239), (8, 1), (0, 100), (8, 2), (8, 11), (8, 13), (0, 102), (8, 14), (8, 23), (8, 25), (0, 103), (8, 26)] rfl
theorem zgd_45 : wsL_law_r45.all goodWord = true := by decide +kernel
theorem zin_46 : ∀ w ∈ wsL_law_r46, w ∈ lw_tbl := zpl_in _ [(8, 27), (8, 29), (0, 104), (8, 30), (8, 93), (8, 95), (0, 113), (8, 96), (6, 97), (6, 99), (0, 38), (6, 100), (4, 109), (4, 110), (4, 111), (4, 112), (6, 202), (6, 203), (6, 204), (6, 205), (4, 113), (4, 114), (4, 115), (4, 116)] rfl
theorem zgd_46 : wsL_law_r46.all goodWord = true := by decide +kernel
theorem zin_47 : ∀ w ∈ wsL_law_r47, w ∈ lw_tbl := zpl_in _ [(8, 97), (8, 98), (8, 99), (8, 100), (4, 117), (4, 118), (4, 119), (4, 120), (7, 85), (7, 86), (7, 87), (7, 88), (7, 89), (7, 91), (0, 74), (7, 92), (4, 121), (4, 122), (4, 123), (4, 124), (4, 125), (4, 127), (0, 28), (4, 128)] rfl
theorem zgd_47 : wsL_law_r47.all goodWord = true := by decide +kernel
theorem zin_48 : ∀ w ∈ wsL_law_r48, w ∈ lw_tbl := zpl_in _ [(7, 231), (7, 232), (7, 233), (7, 234), (4, 129), (4, 130), (4, 131), (4, 132), (8, 7), (8, 8), (8, 9), (8, 10), (4, 133), (4, 134), (4, 135), (4, 136), (8, 15), (8, 16), (8, 17), (8, 18), (4, 137), (4, 138), (4, 139), (4, 140)] rfl
theorem zgd_48 : wsL_law_r48.all goodWord = true := by decide +kernel
theorem zin_49 : ∀ w ∈ wsL_law_r49, w ∈ lw_tbl := zpl_in _ [(8, 19), (8, 20), (8, 21), (8, 22), (4, 141), (4, 142), (4, 143), (4, 144), (4, 145), (4, 146), (4, 147), (4, 148), (4, 149), (4, 151), (0, 29), (4, 152), (4, 153), (4, 154), (4, 155), (4, 156), (4, 157), (4, 158), (4, 159), (4, 160)] rfl
theorem zgd_49 : wsL_law_r49.all goodWord = true := by decide +kernel
theorem zin_50 : ∀ w ∈ wsL_law_r50, w ∈ lw_tbl := zpl_in _ [(6, 89), (6, 90), (6, 91), (6, 92), (4, 161), (4, 162), (4, 163), (4, 164), (3, 164), (7, 139), (7, 140), (7, 141), (7, 142), (4, 165), (4, 166), (4, 167), (4, 168), (4, 173), (4, 169), (4, 171), (0, 30), (4, 172), (4, 174), (4, 175)] rfl
theorem zgd_50 : wsL_law_r50.all goodWord = true := by decide +kernel
theorem zin_51 : ∀ w ∈ wsL_law_r51, w ∈ lw_tbl := zpl_in _ [(4, 176), (4, 177), (4, 183), (4, 178), (4, 180), (0, 31), (4, 181), (4, 182), (4, 184), (4, 186), (0, 32), (4, 187), (4, 188), (4, 189), (4, 191), (0, 33), (4, 192), (4, 200), (4, 201), (4, 202), (4, 193), (4, 195), (0, 34), (4, 196)] rfl
theorem zgd_51 : wsL_law_r51.all goodWord = true := by decide +kernel
theorem zin_52 : ∀ w ∈ wsL_law_r52, w ∈ lw_tbl := zpl_in _ [(4, 197), (4, 198), (4, 199), (4, 203), (4, 204), (4, 205), (4, 206), (4, 207), (4, 208), (7, 151), (7, 152), (7, 153), (7, 154), (7, 184), (7, 186), (0, 94), (7, 187), (7, 188), (7, 190), (0, 95), (7, 191), (7, 192), (7, 194), (0, 96)] rfl
theorem zgd_52 : wsL_law_r52.all goodWord = true := by decide +kernel
theorem zin_53 : ∀ w ∈ wsL_law_r53, w ∈ lw_tbl := zpl_in _ [(7, 195), (7, 196), (7, 197), (7, 198), (4, 209), (4, 210), (4, 211), (4, 212), (4, 213), (4, 215), (0, 35), (4, 216), (7, 199), (7, 200), (7, 201), (7, 202), (4, 217), (4, 218), (4, 219), (4, 220), (7, 203), (7, 204), (7, 205), (7, 206)] rfl
theorem zgd_53 : wsL_law_r53.all goodWord = true := by decide +kernel
theorem zin_54 : ∀ w ∈ wsL_law_r54, w ∈ lw_tbl := zpl_in _ [(4, 221), (4, 222), (4, 223), (4, 224), (4, 225), (4, 226), (4, 227), (4, 228), (7, 207), (7, 208), (7, 209), (7, 210), (7, 211), (7, 213), (0, 97), (7, 214), (4, 229), (4, 230), (4, 231), (4, 232), (3, 166), (3, 168), (7, 215), (7, 216)] rfl
theorem zgd_54 : wsL_law_r54.all goodWord = true := by decide +kernel
theorem zin_55 : ∀ w ∈ wsL_law_r55, w ∈ lw_tbl := zpl_in _ [(7, 217), (7, 218), (4, 233), (4, 234), (4, 235), (4, 236), (7, 219), (7, 220), (7, 221), (7, 222), (4, 237), (4, 238), (4, 239), (5, 0), (1, 50), (5, 1), (5, 2), (5, 3), (5, 4), (8, 31), (8, 32), (8, 33), (8, 34), (5, 5)] rfl
theorem zgd_55 : wsL_law_r55.all goodWord = true := by decide +kernel
theorem zin_56 : ∀ w ∈ wsL_law_r56, w ∈ lw_tbl := zpl_in _ [(5, 6), (5, 7), (5, 8), (8, 35), (8, 36), (8, 37), (8, 38), (5, 9), (5, 10), (5, 11), (5, 12), (5, 13), (5, 14), (5, 15), (5, 16), (1, 49), (5, 17), (5, 18), (5, 19), (5, 20), (5, 21), (5, 22), (5, 23), (5, 24)] rfl
theorem zgd_56 : wsL_law_r56.all goodWord = true := by decide +kernel
theorem zin_57 : ∀ w ∈ wsL_law_r57, w ∈ lw_tbl := zpl_in _ [(5, 25), (8, 39), (8, 40), (8, 41), (8, 42), (8, 43), (8, 45), (0, 105), (8, 46), (8, 47), (8, 49), (0, 106), (8, 50), (5, 26), (5, 27), (5, 28), (5, 29), (5, 30), (5, 31), (5, 33), (0, 36), (5, 34), (5, 35), (8, 51)] rfl
theorem zgd_57 : wsL_law_r57.all goodWord = true := by decide +kernel
theorem zin_58 : ∀ w ∈ wsL_law_r58, w ∈ lw_tbl := zpl_in _ [(8, 52), (8, 53), (8, 54), (8, 55), (8, 56), (8, 57), (8, 58), (8, 60), (0, 107), (8, 61), (5, 36), (5, 37), (5, 38), (5, 39), (5, 40), (5, 44), (5, 45), (5, 41), (5, 42), (5, 43), (8, 62), (8, 63), (8, 64), (8, 65)] rfl
theorem zgd_58 : wsL_law_r58.all goodWord = true := by decide +kernel
theorem zin_59 : ∀ w ∈ wsL_law_r59, w ∈ lw_tbl := zpl_in _ [(8, 66), (8, 67), (5, 46), (5, 47), (5, 48), (5, 49), (7, 227), (7, 228), (7, 229), (7, 230), (5, 50), (5, 51), (5, 52), (5, 53), (5, 54), (5, 55), (5, 56), (5, 57), (5, 58), (5, 59), (5, 60), (5, 61), (8, 101), (8, 102)] rfl
theorem zgd_59 : wsL_law_r59.all goodWord = true := by decide +kernel
theorem zin_60 : ∀ w ∈ wsL_law_r60, w ∈ lw_tbl := zpl_in _ [(8, 103), (8, 104), (8, 105), (5, 180), (8, 106), (8, 108), (0, 114), (8, 109), (8, 110), (8, 111), (8, 112), (5, 62), (5, 63), (5, 64), (5, 65), (8, 113), (8, 114), (8, 115), (8, 116), (5, 66), (5, 67), (5, 68), (5, 69), (6, 101)] rfl
theorem zgd_60 : wsL_law_r60.all goodWord = true := by decide +kernel
theorem zin_61 : ∀ w ∈ wsL_law_r61, w ∈ lw_tbl := zpl_in _ [(6, 102), (6, 103), (6, 104), (5, 70), (5, 71), (5, 72), (5, 73), (6, 108), (6, 109), (6, 110), (6, 111), (5, 74), (5, 75), (5, 76), (5, 77), (8, 117), (8, 118), (8, 119), (8, 120), (8, 121), (8, 122), (5, 78), (5, 79), (5, 80)] rfl
theorem zgd_61 : wsL_law_r61.all goodWord = true := by decide +kernel
theorem zin_62 : ∀ w ∈ wsL_law_r62, w ∈ lw_tbl := zpl_in _ [(5, 81), (8, 123), (8, 124), (8, 125), (8, 126)] rfl
theorem zgd_62 : wsL_law_r62.all goodWord = true := by decide +kernel
theorem zin_100 : ∀ w ∈ wsX00, w ∈ lw_tbl := zpl_in _ [(1, 232), (1, 234), (1, 236)] rfl
theorem zgd_100 : (wsX00).all goodWord = true := by decide +kernel
theorem zin_101 : ∀ w ∈ wsX10, w ∈ lw_tbl := zpl_in _ [(1, 217), (1, 219), (1, 221), (1, 223), (1, 225)] rfl
theorem zgd_101 : (wsX10).all goodWord = true := by decide +kernel
theorem zin_102 : ∀ w ∈ wsX20, w ∈ lw_tbl := zpl_in _ [(1, 93), (1, 95), (1, 97), (1, 99)] rfl
theorem zgd_102 : (wsX20).all goodWord = true := by decide +kernel
theorem zin_103 : ∀ w ∈ wsX30, w ∈ lw_tbl := zpl_in _ [(3, 169), (3, 171), (3, 173), (3, 175), (3, 177), (3, 179)] rfl
theorem zgd_103 : (wsX30).all goodWord = true := by decide +kernel
theorem zin_104 : ∀ w ∈ wsX40, w ∈ lw_tbl := zpl_in _ [(1, 164), (1, 166), (1, 168), (1, 170), (1, 172), (1, 174), (1, 176), (1, 178), (1, 180), (1, 182), (1, 184)] rfl
theorem zgd_104 : (wsX40).all goodWord = true := by decide +kernel
theorem zin_105 : ∀ w ∈ wsX50, w ∈ lw_tbl := zpl_in _ [(2, 6)] rfl
theorem zgd_105 : (wsX50).all goodWord = true := by decide +kernel
theorem zin_106 : ∀ w ∈ wsX60, w ∈ lw_tbl := zpl_in _ [(2, 28), (2, 30), (2, 32), (2, 34), (2, 36), (2, 38), (2, 40), (2, 42), (2, 44), (2, 46), (2, 48)] rfl
theorem zgd_106 : (wsX60).all goodWord = true := by decide +kernel
theorem zin_107 : ∀ w ∈ wsX70, w ∈ lw_tbl := zpl_in _ [(1, 57), (1, 59), (1, 61), (1, 63), (1, 65), (1, 67), (1, 69), (1, 71), (1, 73), (1, 75), (1, 77)] rfl
theorem zgd_107 : (wsX70).all goodWord = true := by decide +kernel
theorem zin_108 : ∀ w ∈ wsX80, w ∈ lw_tbl := zpl_in _ [(1, 112), (1, 114)] rfl
theorem zgd_108 : (wsX80).all goodWord = true := by decide +kernel
theorem zin_109 : ∀ w ∈ wsX90, w ∈ lw_tbl := zpl_in _ [(1, 134), (1, 136), (1, 138), (1, 140), (1, 142), (1, 144)] rfl
theorem zgd_109 : (wsX90).all goodWord = true := by decide +kernel
theorem zin_110 : ∀ w ∈ wsX100, w ∈ lw_tbl := zpl_in _ [(2, 74), (2, 76), (2, 78), (2, 80), (2, 82), (2, 84), (2, 86), (2, 88), (2, 90), (2, 92), (2, 94), (2, 96), (2, 98), (2, 100), (2, 102), (2, 104), (2, 106), (2, 108), (2, 110), (2, 112)] rfl
theorem zgd_110 : (wsX100).all goodWord = true := by decide +kernel
theorem zin_111 : ∀ w ∈ wsX110, w ∈ lw_tbl := zpl_in _ [(5, 183), (5, 185), (5, 187), (5, 189), (5, 191), (5, 193), (5, 195), (5, 197), (5, 199), (5, 201), (5, 203), (5, 205), (5, 207), (5, 209), (5, 211), (5, 213), (5, 215), (5, 217), (5, 219), (5, 221), (5, 223), (5, 225), (5, 227), (5, 229), (5, 231), (5, 233), (5, 235), (5, 237), (5, 239), (6, 1), (6, 3), (6, 5), (6, 7), (6, 9), (6, 11), (6, 13), (6, 15), (6, 17), (6, 19), (6, 21), (6, 23), (6, 25), (6, 27), (6, 29), (6, 31), (6, 33), (6, 35), (6, 37), (6, 39), (6, 41), (6, 43), (6, 45), (6, 47), (6, 49), (6, 51), (6, 53), (6, 55), (6, 57), (6, 59), (6, 61), (6, 63), (6, 65), (6, 67), (6, 69), (6, 71), (6, 73), (6, 75), (6, 77), (6, 79), (6, 81), (6, 83), (6, 85)] rfl
theorem zgd_111 : (wsX110).all goodWord = true := by decide +kernel
def zchunks : List (List Cond) := [wsL_law_r1, wsL_law_r2, wsL_law_r3, wsL_law_r4, wsL_law_r5, wsL_law_r6, wsL_law_r7, wsL_law_r8, wsL_law_r9, wsL_law_r10, wsL_law_r11, wsL_law_r12, wsL_law_r13, wsL_law_r14, wsL_law_r15, wsL_law_r16, wsL_law_r17, wsL_law_r18, wsL_law_r19, wsL_law_r20, wsL_law_r21, wsL_law_r22, wsL_law_r23, wsL_law_r24, wsL_law_r25, wsL_law_r26, wsL_law_r27, wsL_law_r28, wsL_law_r29, wsL_law_r30, wsL_law_r31, wsL_law_r32, wsL_law_r33, wsL_law_r34, wsL_law_r35, wsL_law_r36, wsL_law_r37, wsL_law_r38, wsL_law_r39, wsL_law_r40, wsL_law_r41, wsL_law_r42, wsL_law_r43, wsL_law_r44, wsL_law_r45, wsL_law_r46, wsL_law_r47, wsL_law_r48, wsL_law_r49, wsL_law_r50, wsL_law_r51, wsL_law_r52, wsL_law_r53, wsL_law_r54, wsL_law_r55, wsL_law_r56, wsL_law_r57, wsL_law_r58, wsL_law_r59, wsL_law_r60, wsL_law_r61, wsL_law_r62, wsX00, wsX10, wsX20, wsX30, wsX40, wsX50, wsX60, wsX70, wsX80, wsX90, wsX100, wsX110]
/-- every word that the program needs -/
def zG : List Cond := zchunks.flatten
theorem zchunks_ok : ∀ l ∈ zchunks, (∀ w ∈ l, w ∈ lw_tbl) ∧ l.all goodWord = true := List.forall_mem_cons.mpr ⟨⟨zin_1, zgd_1⟩, List.forall_mem_cons.mpr ⟨⟨zin_2, zgd_2⟩, List.forall_mem_cons.mpr ⟨⟨zin_3, zgd_3⟩, List.forall_mem_cons.mpr ⟨⟨zin_4, zgd_4⟩, List.forall_mem_cons.mpr ⟨⟨zin_5, zgd_5⟩, List.forall_mem_cons.mpr ⟨⟨zin_6, zgd_6⟩, List.forall_mem_cons.mpr ⟨⟨zin_7, zgd_7⟩, List.forall_mem_cons.mpr ⟨⟨zin_8, zgd_8⟩, List.forall_mem_cons.mpr ⟨⟨zin_9, zgd_9⟩, List.forall_mem_cons.mpr ⟨⟨zin_10, zgd_10⟩, List.forall_mem_cons.mpr ⟨⟨zin_11, zgd_11⟩, List.forall_mem_cons.mpr ⟨⟨zin_12, zgd_12⟩, List.forall_mem_cons.mpr ⟨⟨zin_13, zgd_13⟩, List.forall_mem_cons.mpr ⟨⟨zin_14, zgd_14⟩, List.forall_mem_cons.mpr ⟨⟨zin_15, zgd_15⟩, List.forall_mem_cons.mpr ⟨⟨zin_16, zgd_16⟩, List.forall_mem_cons.mpr ⟨⟨zin_17, zgd_17⟩, List.forall_mem_cons.mpr ⟨⟨zin_18, zgd_18⟩, List.forall_mem_cons.mpr ⟨⟨zin_19, zgd_19⟩, List.forall_mem_cons.mpr ⟨⟨zin_20, zgd_20⟩, List.forall_mem_cons.mpr ⟨⟨zin_21, zgd_21⟩, List.forall_mem_cons.mpr ⟨⟨zin_22, zgd_22⟩, List.forall_mem_cons.mpr ⟨⟨zin_23, zgd_23⟩, List.forall_mem_cons.mpr ⟨⟨zin_24, zgd_24⟩, List.forall_mem_cons.mpr ⟨⟨zin_25, zgd_25⟩, List.forall_mem_cons.mpr ⟨⟨zin_26, zgd_26⟩, List.forall_mem_cons.mpr ⟨⟨zin_27, zgd_27⟩, List.forall_mem_cons.mpr ⟨⟨zin_28, zgd_28⟩, List.forall_mem_cons.mpr ⟨⟨zin_29, zgd_29⟩, List.forall_mem_cons.mpr ⟨⟨zin_30, zgd_30⟩, List.forall_mem_cons.mpr ⟨⟨zin_31, zgd_31⟩, List.forall_mem_cons.mpr ⟨⟨zin_32, zgd_32⟩, List.forall_mem_cons.mpr ⟨⟨zin_33, zgd_33⟩, List.forall_mem_cons.mpr ⟨⟨zin_34, zgd_34⟩, List.forall_mem_cons.mpr ⟨⟨zin_35, zgd_35⟩, List.forall_mem_cons.mpr ⟨⟨zin_36, zgd_36⟩, List.forall_mem_cons.mpr ⟨⟨zin_37, zgd_37⟩, List.forall_mem_cons.mpr ⟨⟨zin_38, zgd_38⟩, List.forall_mem_cons.mpr ⟨⟨zin_39, zgd_39⟩, List.forall_mem_cons.mpr ⟨⟨zin_40, zgd_40⟩, List.forall_mem_cons.mpr ⟨⟨zin_41, zgd_41⟩, List.forall_mem_cons.mpr ⟨⟨zin_42, zgd_42⟩, List.forall_mem_cons.mpr ⟨⟨zin_43, zgd_43⟩, List.forall_mem_cons.mpr ⟨⟨zin_44, zgd_44⟩, List.forall_mem_cons.mpr ⟨⟨zin_45, zgd_45⟩, List.forall_mem_cons.mpr ⟨⟨zin_46, zgd_46⟩, List.forall_mem_cons.mpr ⟨⟨zin_47, zgd_47⟩, List.forall_mem_cons.mpr ⟨⟨zin_48, zgd_48⟩, List.forall_mem_cons.mpr ⟨⟨zin_49, zgd_49⟩, List.forall_mem_cons.mpr ⟨⟨zin_50, zgd_50⟩, List.forall_mem_cons.mpr ⟨⟨zin_51, zgd_51⟩, List.forall_mem_cons.mpr ⟨⟨zin_52, zgd_52⟩, List.forall_mem_cons.mpr ⟨⟨zin_53, zgd_53⟩, List.forall_mem_cons.mpr ⟨⟨zin_54, zgd_54⟩, List.forall_mem_cons.mpr ⟨⟨zin_55, zgd_55⟩, List.forall_mem_cons.mpr ⟨⟨zin_56, zgd_56⟩, List.forall_mem_cons.mpr ⟨⟨zin_57, zgd_57⟩, List.forall_mem_cons.mpr ⟨⟨zin_58, zgd_58⟩, List.forall_mem_cons.mpr ⟨⟨zin_59, zgd_59⟩, List.forall_mem_cons.mpr ⟨⟨zin_60, zgd_60⟩, List.forall_mem_cons.mpr ⟨⟨zin_61, zgd_61⟩, List.forall_mem_cons.mpr ⟨⟨zin_62, zgd_62⟩, List.forall_mem_cons.mpr ⟨⟨zin_100, zgd_100⟩, List.forall_mem_cons.mpr ⟨⟨zin_101, zgd_101⟩, List.forall_mem_cons.mpr ⟨⟨zin_102, zgd_102⟩, List.forall_mem_cons.mpr ⟨⟨zin_103, zgd_103⟩, List.forall_mem_cons.mpr ⟨⟨zin_104, zgd_104⟩, List.forall_mem_cons.mpr ⟨⟨zin_105, zgd_105⟩, List.forall_mem_cons.mpr ⟨⟨zin_106, zgd_106⟩, List.forall_mem_cons.mpr ⟨⟨zin_107, zgd_107⟩, List.forall_mem_cons.mpr ⟨⟨zin_108, zgd_108⟩, List.forall_mem_cons.mpr ⟨⟨zin_109, zgd_109⟩, List.forall_mem_cons.mpr ⟨⟨zin_110, zgd_110⟩, List.forall_mem_cons.mpr ⟨⟨zin_111, zgd_111⟩, fun _ h => absurd h List.not_mem_nil⟩⟩⟩⟩⟩⟩⟩⟩⟩⟩⟩⟩⟩⟩⟩⟩⟩⟩⟩⟩⟩⟩⟩⟩⟩⟩⟩⟩⟩⟩⟩⟩⟩⟩⟩⟩⟩⟩⟩⟩⟩⟩⟩⟩⟩⟩⟩⟩⟩⟩⟩⟩⟩⟩⟩⟩⟩⟩⟩⟩⟩⟩⟩⟩⟩⟩⟩⟩⟩⟩⟩⟩⟩⟩
theorem zG_in : ∀ w ∈ zG, w ∈ lw_tbl := fun w h => by
  obtain ⟨l, hl, hw⟩ := List.mem_flatten.mp h
  exact (zchunks_ok l hl).1 w hw
theorem zG_good : ∀ w ∈ zG, goodWord w = true := fun w h => by
  obtain ⟨l, hl, hw⟩ := List.mem_flatten.mp h
  exact List.all_eq_true.mp (zchunks_ok l hl).2 w hw
end
section
/-! the program as data, printed by wip/whole/mktables.py -/
abbrev zE : Type := Instr × Nat × Nat × Nat × Value × List (Int32 × Nat) × List Nat
/-- yX0_init -/
def zc_0 : List (Nat × zE) := [(0, (.aload_n 0, 1, 0, 0, .null, [], [])),
  (1, (.invokespecial 3, 4, 9000, 0, .null, [], [405])),
  (4, (.aload_n 0, 5, 0, 0, .null, [], [])),
  (5, (.new 9, 8, 1, 0, .null, [], [406, 407, 408])),
  (8, (.dup, 9, 0, 0, .null, [], [])),
  (9, (.sipush 436, 12, 0, 0, (.int 436), [], [])),
  (12, (.newarray .int, 14, 0, 0, .null, [], [200])),
  (14, (.bipush 12, 16, 0, 0, (.int 12), [], [])),
  (16, (.invokestatic 13, 19, 13, 1, .null, [], [410, 411, 408, 412])),
  (19, (.invokespecial 17, 22, 12, 2, .null, [], [417, 418, 408, 419])),
  (22, (.putfield 20, 25, 0, 0, (.int 3), [], [409])),
  (25, (.return_, 26, 0, 0, .null, [], []))]
/-- yX0_readText -/
def zc_1 : List (Nat × zE) := [(0, (.aload_n 0, 1, 0, 0, .null, [], [])),
  (1, (.getfield 20, 4, 0, 0, (.int 3), [], [409])),
  (4, (.iconst 0, 5, 0, 0, (.int 0), [], [])),
  (5, (.putfield 24, 8, 1, 2, (.int 0), [], [3009])),
  (8, (.aload_n 0, 9, 0, 0, .null, [], [])),
  (9, (.getfield 20, 12, 0, 0, (.int 3), [], [409])),
  (12, (.iconst 0, 13, 0, 0, (.int 0), [], [])),
  (13, (.putfield 28, 16, 1, 3, (.int 0), [], [3010])),
  (16, (.aload_n 0, 17, 0, 0, .null, [], [])),
  (17, (.getfield 20, 20, 0, 0, (.int 3), [], [409])),
  (20, (.iconst 0, 21, 0, 0, (.int 0), [], [])),
  (21, (.putfield 31, 24, 1, 4, (.int 1), [], [3011])),
  (24, (.aload_n 0, 25, 0, 0, .null, [], [])),
  (25, (.iload_n 2, 26, 2, 0, .null, [], [])),
  (26, (.putfield 35, 29, 0, 1, (.int 1), [], [3012])),
  (29, (.aload_n 0, 30, 0, 0, .null, [], [])),
  (30, (.iconst 0, 31, 0, 0, (.int 0), [], [])),
  (31, (.putfield 38, 34, 0, 2, (.int 0), [], [3013])),
  (34, (.iconst 1, 35, 0, 0, (.int 1), [], [])),
  (35, (.istore_n 3, 36, 3, 0, .null, [], [])),
  (36, (.iconst 0, 37, 0, 0, (.int 0), [], [])),
  (37, (.istore 4, 39, 4, 0, .null, [], [])),
  (39, (.iload_n 3, 40, 3, 0, .null, [], [])),
  (40, (.ifCond .eq 43, 43, 83, 0, .null, [], [])),
  (43, (.iload 4, 45, 4, 0, .null, [], [])),
  (45, (.bipush 12, 47, 0, 0, (.int 12), [], [])),
  (47, (.if_icmp .ge 36, 50, 83, 0, .null, [], [])),
  (50, (.aload_n 0, 51, 0, 0, .null, [], [])),
  (51, (.aload_n 1, 52, 1, 0, .null, [], [])),
  (52, (.iload 4, 54, 4, 0, .null, [], [])),
  (54, (.invokevirtual 41, 57, 2, 2, .null, [], [3015, 3016, 3017, 114, 3018])),
  (57, (.aload_n 0, 58, 0, 0, .null, [], [])),
  (58, (.getfield 20, 61, 0, 0, (.int 3), [], [409])),
  (61, (.dup, 62, 0, 0, .null, [], [])),
  (62, (.getfield 24, 65, 1, 2, (.int 0), [], [3009])),
  (65, (.iconst 1, 66, 0, 0, (.int 1), [], [])),
  (66, (.iadd, 67, 0, 0, .null, [], [])),
  (67, (.putfield 24, 70, 1, 2, (.int 0), [], [3009])),
  (70, (.aload_n 1, 71, 1, 0, .null, [], [])),
  (71, (.bipush 59, 73, 0, 0, (.int 59), [], [])),
  (73, (.invokevirtual 45, 76, 93, 1, .null, [], [3022, 2302, 2303, 106, 2304])),
  (76, (.istore_n 3, 77, 3, 0, .null, [], [])),
  (77, (.iinc 4 1, 80, 4, 0, (.int 1), [], [])),
  (80, (.goto (-41), 83, 39, 0, .null, [], [])),
  (83, (.iload_n 3, 84, 3, 0, .null, [], [])),
  (84, (.ifCond .eq 7, 87, 91, 0, .null, [], [])),
  (87, (.aload_n 1, 88, 1, 0, .null, [], [])),
  (88, (.invokevirtual 51, 91, 92, 0, .null, [], [3021, 2402, 2403, 106, 2404])),
  (91, (.aload_n 1, 92, 1, 0, .null, [], [])),
  (92, (.sipush 301, 95, 0, 0, (.int 301), [], [])),
  (95, (.invokevirtual 54, 98, 94, 1, .null, [], [3119, 2321, 2322, 106, 2323])),
  (98, (.aload_n 1, 99, 1, 0, .null, [], [])),
  (99, (.getfield 58, 102, 9, 5, (.int 0), [], [3014])),
  (102, (.iconst (-1), 103, 0, 0, (.int (-1)), [], [])),
  (103, (.if_icmp .ne 7, 106, 110, 0, .null, [], [])),
  (106, (.iconst 1, 107, 0, 0, (.int 1), [], [])),
  (107, (.goto 4, 110, 111, 0, .null, [], [])),
  (110, (.iconst 0, 111, 0, 0, (.int 0), [], [])),
  (111, (.ireturn, 112, 1, 0, .null, [], []))]
def zc_2_0 : List (Nat × zE) := [(0, (.aload_n 1, 1, 1, 0, .null, [], [])),
  (1, (.aload_n 1, 2, 1, 0, .null, [], [])),
  (2, (.getfield 61, 5, 9, 4, (.int 0), [], [3019])),
  (5, (.invokevirtual 64, 8, 91, 1, .null, [], [3020, 2310, 2311, 106, 2312])),
  (8, (.istore_n 3, 9, 3, 0, .null, [], [])),
  (9, (.aload_n 0, 10, 0, 0, .null, [], [])),
  (10, (.getfield 35, 13, 0, 1, (.int 1), [], [3012])),
  (13, (.ifCond .eq 32, 16, 45, 0, .null, [], [])),
  (16, (.iload_n 3, 17, 3, 0, .null, [], [])),
  (17, (.sipush 276, 20, 0, 0, (.int 276), [], [])),
  (20, (.if_icmp .lt 21, 23, 41, 0, .null, [], [])),
  (23, (.iload_n 3, 24, 3, 0, .null, [], [])),
  (24, (.sipush 280, 27, 0, 0, (.int 280), [], [])),
  (27, (.if_icmp .gt 14, 30, 41, 0, .null, [], [])),
  (30, (.iload_n 3, 31, 3, 0, .null, [], [])),
  (31, (.sipush 277, 34, 0, 0, (.int 277), [], [])),
  (34, (.if_icmp .eq 7, 37, 41, 0, .null, [], [])),
  (37, (.iconst 1, 38, 0, 0, (.int 1), [], [])),
  (38, (.goto 26, 41, 64, 0, .null, [], [])),
  (41, (.iconst 0, 42, 0, 0, (.int 0), [], [])),
  (42, (.goto 22, 45, 64, 0, .null, [], [])),
  (45, (.iload_n 3, 46, 3, 0, .null, [], [])),
  (46, (.sipush 262, 49, 0, 0, (.int 262), [], [])),
  (49, (.if_icmp .lt 14, 52, 63, 0, .null, [], [])),
  (52, (.iload_n 3, 53, 3, 0, .null, [], [])),
  (53, (.sipush 264, 56, 0, 0, (.int 264), [], [])),
  (56, (.if_icmp .gt 7, 59, 63, 0, .null, [], [])),
  (59, (.iconst 1, 60, 0, 0, (.int 1), [], [])),
  (60, (.goto 4, 63, 64, 0, .null, [], [])),
  (63, (.iconst 0, 64, 0, 0, (.int 0), [], [])),
  (64, (.istore 4, 66, 4, 0, .null, [], [])),
  (66, (.iload 4, 68, 4, 0, .null, [], [])),
  (68, (.ifCond .ne 8, 71, 76, 0, .null, [], [])),
  (71, (.aload_n 1, 72, 1, 0, .null, [], [])),
  (72, (.invokevirtual 51, 75, 92, 0, .null, [], [3021, 2402, 2403, 106, 2404])),
  (75, (.return_, 76, 0, 0, .null, [], [])),
  (76, (.aload_n 1, 77, 1, 0, .null, [], [])),
  (77, (.iload_n 3, 78, 3, 0, .null, [], [])),
  (78, (.invokevirtual 45, 81, 93, 1, .null, [], [3022, 2302, 2303, 106, 2304])),
  (81, (.pop, 82, 0, 0, .null, [], [])),
  (82, (.aload_n 0, 83, 0, 0, .null, [], [])),
  (83, (.getfield 20, 86, 0, 0, (.int 3), [], [409])),
  (86, (.iload_n 2, 87, 2, 0, .null, [], [])),
  (87, (.iconst 0, 88, 0, 0, (.int 0), [], [])),
  (88, (.iload_n 3, 89, 3, 0, .null, [], [])),
  (89, (.invokevirtual 68, 92, 15, 3, .null, [], [3023, 3100, 3101, 408, 3102])),
  (92, (.aload_n 0, 93, 0, 0, .null, [], [])),
  (93, (.getfield 20, 96, 0, 0, (.int 3), [], [409])),
  (96, (.iload_n 2, 97, 2, 0, .null, [], [])),
  (97, (.iconst 2, 98, 0, 0, (.int 2), [], [])),
  (98, (.iconst (-1), 99, 0, 0, (.int (-1)), [], [])),
  (99, (.invokevirtual 68, 102, 15, 3, .null, [], [3023, 3100, 3101, 408, 3102])),
  (102, (.aload_n 0, 103, 0, 0, .null, [], [])),
  (103, (.getfield 20, 106, 0, 0, (.int 3), [], [409])),
  (106, (.iload_n 2, 107, 2, 0, .null, [], [])),
  (107, (.iconst 3, 108, 0, 0, (.int 3), [], [])),
  (108, (.iconst (-1), 109, 0, 0, (.int (-1)), [], [])),
  (109, (.invokevirtual 68, 112, 15, 3, .null, [], [3023, 3100, 3101, 408, 3102])),
  (112, (.aload_n 0, 113, 0, 0, .null, [], [])),
  (113, (.getfield 20, 116, 0, 0, (.int 3), [], [409])),
  (116, (.iload_n 2, 117, 2, 0, .null, [], [])),
  (117, (.iconst 1, 118, 0, 0, (.int 1), [], [])),
  (118, (.iconst 1, 119, 0, 0, (.int 1), [], [])),
  (119, (.invokevirtual 68, 122, 15, 3, .null, [], [3023, 3100, 3101, 408, 3102])),
  (122, (.aload_n 0, 123, 0, 0, .null, [], [])),
  (123, (.getfield 20, 126, 0, 0, (.int 3), [], [409])),
  (126, (.iload_n 2, 127, 2, 0, .null, [], [])),
  (127, (.iconst 4, 128, 0, 0, (.int 4), [], [])),
  (128, (.iconst (-1), 129, 0, 0, (.int (-1)), [], [])),
  (129, (.invokevirtual 68, 132, 15, 3, .null, [], [3023, 3100, 3101, 408, 3102])),
  (132, (.iload_n 3, 133, 3, 0, .null, [], [])),
  (133, (.sipush 263, 136, 0, 0, (.int 263), [], [])),
  (136, (.if_icmp .eq 50, 139, 186, 0, .null, [], [])),
  (139, (.iload_n 3, 140, 3, 0, .null, [], [])),
  (140, (.sipush 264, 143, 0, 0, (.int 264), [], [])),
  (143, (.if_icmp .eq 43, 146, 186, 0, .null, [], [])),
  (146, (.iload_n 3, 147, 3, 0, .null, [], [])),
  (147, (.sipush 280, 150, 0, 0, (.int 280), [], [])),
  (150, (.if_icmp .eq 36, 153, 186, 0, .null, [], [])),
  (153, (.aload_n 0, 154, 0, 0, .null, [], [])),
  (154, (.getfield 20, 157, 0, 0, (.int 3), [], [409])),
  (157, (.iload_n 2, 158, 2, 0, .null, [], [])),
  (158, (.iconst 2, 159, 0, 0, (.int 2), [], [])),
  (159, (.aload_n 0, 160, 0, 0, .null, [], [])),
  (160, (.getfield 20, 163, 0, 0, (.int 3), [], [409])),
  (163, (.getfield 28, 166, 1, 3, (.int 0), [], [3010])),
  (166, (.invokevirtual 68, 169, 15, 3, .null, [], [3023, 3100, 3101, 408, 3102])),
  (169, (.aload_n 0, 170, 0, 0, .null, [], [])),
  (170, (.aload_n 1, 171, 1, 0, .null, [], [])),
  (171, (.iconst 0, 172, 0, 0, (.int 0), [], [])),
  (172, (.invokevirtual 72, 175, 7, 2, .null, [], [3103, 3104, 3105, 114, 3106])),
  (175, (.aload_n 0, 176, 0, 0, .null, [], [])),
  (176, (.getfield 20, 179, 0, 0, (.int 3), [], [409])),
  (179, (.bipush 13, 181, 0, 0, (.int 13), [], [])),
  (181, (.iconst 0, 182, 0, 0, (.int 0), [], [])),
  (182, (.invokevirtual 77, 185, 16, 2, .null, [], [3110, 3111, 3112, 408, 3113])),
  (185, (.pop, 186, 0, 0, .null, [], [])),
  (186, (.iload_n 3, 187, 3, 0, .null, [], [])),
  (187, (.sipush 276, 190, 0, 0, (.int 276), [], [])),
  (190, (.if_icmp .ne 43, 193, 233, 0, .null, [], [])),
  (193, (.aload_n 1, 194, 1, 0, .null, [], [])),
  (194, (.sipush 277, 197, 0, 0, (.int 277), [], [])),
  (197, (.invokevirtual 54, 200, 94, 1, .null, [], [3119, 2321, 2322, 106, 2323])),
  (200, (.aload_n 0, 201, 0, 0, .null, [], [])),
  (201, (.getfield 20, 204, 0, 0, (.int 3), [], [409])),
  (204, (.iload_n 2, 205, 2, 0, .null, [], [])),
  (205, (.iconst 3, 206, 0, 0, (.int 3), [], [])),
  (206, (.aload_n 0, 207, 0, 0, .null, [], [])),
  (207, (.getfield 20, 210, 0, 0, (.int 3), [], [409])),
  (210, (.getfield 28, 213, 1, 3, (.int 0), [], [3010])),
  (213, (.invokevirtual 68, 216, 15, 3, .null, [], [3023, 3100, 3101, 408, 3102])),
  (216, (.aload_n 0, 217, 0, 0, .null, [], [])),
  (217, (.aload_n 1, 218, 1, 0, .null, [], [])),
  (218, (.iconst 0, 219, 0, 0, (.int 0), [], [])),
  (219, (.invokevirtual 72, 222, 7, 2, .null, [], [3103, 3104, 3105, 114, 3106])),
  (222, (.aload_n 0, 223, 0, 0, .null, [], [])),
  (223, (.getfield 20, 226, 0, 0, (.int 3), [], [409])),
  (226, (.bipush 13, 228, 0, 0, (.int 13), [], [])),
  (228, (.iconst 0, 229, 0, 0, (.int 0), [], [])),
  (229, (.invokevirtual 77, 232, 16, 2, .null, [], [3110, 3111, 3112, 408, 3113]))]
def zc_2_1 : List (Nat × zE) := [(232, (.pop, 233, 0, 0, .null, [], [])),
  (233, (.aload_n 0, 234, 0, 0, .null, [], [])),
  (234, (.getfield 35, 237, 0, 1, (.int 1), [], [3012])),
  (237, (.ifCond .eq 19, 240, 256, 0, .null, [], [])),
  (240, (.aload_n 1, 241, 1, 0, .null, [], [])),
  (241, (.sipush 261, 244, 0, 0, (.int 261), [], [])),
  (244, (.invokevirtual 45, 247, 93, 1, .null, [], [3022, 2302, 2303, 106, 2304])),
  (247, (.ifCond .eq 9, 250, 256, 0, .null, [], [])),
  (250, (.aload_n 0, 251, 0, 0, .null, [], [])),
  (251, (.aload_n 1, 252, 1, 0, .null, [], [])),
  (252, (.iload_n 2, 253, 2, 0, .null, [], [])),
  (253, (.invokevirtual 81, 256, 3, 2, .null, [], [3205, 3206, 3207, 114, 3208])),
  (256, (.aload_n 1, 257, 1, 0, .null, [], [])),
  (257, (.sipush 265, 260, 0, 0, (.int 265), [], [])),
  (260, (.invokevirtual 45, 263, 93, 1, .null, [], [3022, 2302, 2303, 106, 2304])),
  (263, (.ifCond .eq 36, 266, 299, 0, .null, [], [])),
  (266, (.aload_n 0, 267, 0, 0, .null, [], [])),
  (267, (.getfield 20, 270, 0, 0, (.int 3), [], [409])),
  (270, (.iload_n 2, 271, 2, 0, .null, [], [])),
  (271, (.iconst 4, 272, 0, 0, (.int 4), [], [])),
  (272, (.aload_n 0, 273, 0, 0, .null, [], [])),
  (273, (.getfield 20, 276, 0, 0, (.int 3), [], [409])),
  (276, (.getfield 28, 279, 1, 3, (.int 0), [], [3010])),
  (279, (.invokevirtual 68, 282, 15, 3, .null, [], [3023, 3100, 3101, 408, 3102])),
  (282, (.aload_n 0, 283, 0, 0, .null, [], [])),
  (283, (.aload_n 1, 284, 1, 0, .null, [], [])),
  (284, (.iconst 0, 285, 0, 0, (.int 0), [], [])),
  (285, (.invokevirtual 84, 288, 4, 2, .null, [], [3209, 3210, 3211, 114, 3212])),
  (288, (.aload_n 0, 289, 0, 0, .null, [], [])),
  (289, (.getfield 20, 292, 0, 0, (.int 3), [], [409])),
  (292, (.bipush 13, 294, 0, 0, (.int 13), [], [])),
  (294, (.iconst 0, 295, 0, 0, (.int 0), [], [])),
  (295, (.invokevirtual 77, 298, 16, 2, .null, [], [3110, 3111, 3112, 408, 3113])),
  (298, (.pop, 299, 0, 0, .null, [], [])),
  (299, (.return_, 300, 0, 0, .null, [], []))]
/-- yX0_readClause -/
def zc_2 : List (Nat × zE) := zc_2_0 ++ zc_2_1
/-- yX0_readTimes -/
def zc_3 : List (Nat × zE) := [(0, (.aload_n 1, 1, 1, 0, .null, [], [])),
  (1, (.iconst 1, 2, 0, 0, (.int 1), [], [])),
  (2, (.bipush 20, 4, 0, 0, (.int 20), [], [])),
  (4, (.invokevirtual 87, 7, 95, 2, .null, [], [3120, 2407, 2408, 106, 2409])),
  (7, (.istore_n 3, 8, 3, 0, .null, [], [])),
  (8, (.iload_n 3, 9, 3, 0, .null, [], [])),
  (9, (.iconst (-1), 10, 0, 0, (.int (-1)), [], [])),
  (10, (.if_icmp .ne 7, 13, 17, 0, .null, [], [])),
  (13, (.aload_n 1, 14, 1, 0, .null, [], [])),
  (14, (.invokevirtual 51, 17, 92, 0, .null, [], [3021, 2402, 2403, 106, 2404])),
  (17, (.aload_n 0, 18, 0, 0, .null, [], [])),
  (18, (.getfield 20, 21, 0, 0, (.int 3), [], [409])),
  (21, (.iload_n 2, 22, 2, 0, .null, [], [])),
  (22, (.iconst 1, 23, 0, 0, (.int 1), [], [])),
  (23, (.iload_n 3, 24, 3, 0, .null, [], [])),
  (24, (.invokevirtual 68, 27, 15, 3, .null, [], [3023, 3100, 3101, 408, 3102])),
  (27, (.return_, 28, 0, 0, .null, [], []))]
/-- yX0_readTest -/
def zc_4 : List (Nat × zE) := [(0, (.iconst (-1), 1, 0, 0, (.int (-1)), [], [])),
  (1, (.istore_n 3, 2, 3, 0, .null, [], [])),
  (2, (.iconst (-1), 3, 0, 0, (.int (-1)), [], [])),
  (3, (.istore 4, 5, 4, 0, .null, [], [])),
  (5, (.iconst 1, 6, 0, 0, (.int 1), [], [])),
  (6, (.istore 5, 8, 5, 0, .null, [], [])),
  (8, (.iconst 0, 9, 0, 0, (.int 0), [], [])),
  (9, (.istore 6, 11, 6, 0, .null, [], [])),
  (11, (.iload 5, 13, 5, 0, .null, [], [])),
  (13, (.ifCond .eq 174, 16, 187, 0, .null, [], [])),
  (16, (.iload 6, 18, 6, 0, .null, [], [])),
  (18, (.sipush 400, 21, 0, 0, (.int 400), [], [])),
  (21, (.if_icmp .ge 166, 24, 187, 0, .null, [], [])),
  (24, (.aload_n 1, 25, 1, 0, .null, [], [])),
  (25, (.invokestatic 90, 28, 5, 1, .null, [], [3213, 3214, 114, 3215])),
  (28, (.istore 7, 30, 7, 0, .null, [], [])),
  (30, (.iload_n 2, 31, 2, 0, .null, [], [])),
  (31, (.bipush 8, 33, 0, 0, (.int 8), [], [])),
  (33, (.if_icmp .ge 29, 36, 62, 0, .null, [], [])),
  (36, (.aload_n 1, 37, 1, 0, .null, [], [])),
  (37, (.bipush 40, 39, 0, 0, (.int 40), [], [])),
  (39, (.invokevirtual 45, 42, 93, 1, .null, [], [3022, 2302, 2303, 106, 2304])),
  (42, (.ifCond .eq 20, 45, 62, 0, .null, [], [])),
  (45, (.aload_n 0, 46, 0, 0, .null, [], [])),
  (46, (.aload_n 1, 47, 1, 0, .null, [], [])),
  (47, (.iload_n 2, 48, 2, 0, .null, [], [])),
  (48, (.iconst 1, 49, 0, 0, (.int 1), [], [])),
  (49, (.iadd, 50, 0, 0, .null, [], [])),
  (50, (.invokevirtual 84, 53, 4, 2, .null, [], [3209, 3210, 3211, 114, 3212])),
  (53, (.aload_n 1, 54, 1, 0, .null, [], [])),
  (54, (.bipush 41, 56, 0, 0, (.int 41), [], [])),
  (56, (.invokevirtual 54, 59, 94, 1, .null, [], [3119, 2321, 2322, 106, 2323])),
  (59, (.goto 32, 62, 91, 0, .null, [], [])),
  (62, (.aload_n 0, 63, 0, 0, .null, [], [])),
  (63, (.aload_n 1, 64, 1, 0, .null, [], [])),
  (64, (.iload_n 2, 65, 2, 0, .null, [], [])),
  (65, (.invokevirtual 72, 68, 7, 2, .null, [], [3103, 3104, 3105, 114, 3106])),
  (68, (.aload_n 1, 69, 1, 0, .null, [], [])),
  (69, (.invokestatic 94, 72, 6, 1, .null, [], [3216, 3217, 114, 3218])),
  (72, (.istore 8, 74, 8, 0, .null, [], [])),
  (74, (.aload_n 0, 75, 0, 0, .null, [], [])),
  (75, (.aload_n 1, 76, 1, 0, .null, [], [])),
  (76, (.iload_n 2, 77, 2, 0, .null, [], [])),
  (77, (.invokevirtual 72, 80, 7, 2, .null, [], [3103, 3104, 3105, 114, 3106])),
  (80, (.aload_n 0, 81, 0, 0, .null, [], [])),
  (81, (.getfield 20, 84, 0, 0, (.int 3), [], [409])),
  (84, (.iload 8, 86, 8, 0, .null, [], [])),
  (86, (.iconst 0, 87, 0, 0, (.int 0), [], [])),
  (87, (.invokevirtual 77, 90, 16, 2, .null, [], [3110, 3111, 3112, 408, 3113])),
  (90, (.pop, 91, 0, 0, .null, [], [])),
  (91, (.iload 7, 93, 7, 0, .null, [], [])),
  (93, (.ifCond .eq 14, 96, 107, 0, .null, [], [])),
  (96, (.aload_n 0, 97, 0, 0, .null, [], [])),
  (97, (.getfield 20, 100, 0, 0, (.int 3), [], [409])),
  (100, (.bipush 10, 102, 0, 0, (.int 10), [], [])),
  (102, (.iconst 0, 103, 0, 0, (.int 0), [], [])),
  (103, (.invokevirtual 77, 106, 16, 2, .null, [], [3110, 3111, 3112, 408, 3113])),
  (106, (.pop, 107, 0, 0, .null, [], [])),
  (107, (.aload_n 0, 108, 0, 0, .null, [], [])),
  (108, (.getfield 20, 111, 0, 0, (.int 3), [], [409])),
  (111, (.iload 4, 113, 4, 0, .null, [], [])),
  (113, (.invokevirtual 98, 116, 17, 1, .null, [], [3219, 3220, 3221, 408, 3222])),
  (116, (.iconst (-1), 117, 0, 0, (.int (-1)), [], [])),
  (117, (.istore 4, 119, 4, 0, .null, [], [])),
  (119, (.aload_n 1, 120, 1, 0, .null, [], [])),
  (120, (.sipush 266, 123, 0, 0, (.int 266), [], [])),
  (123, (.invokevirtual 45, 126, 93, 1, .null, [], [3022, 2302, 2303, 106, 2304])),
  (126, (.ifCond .eq 18, 129, 144, 0, .null, [], [])),
  (129, (.aload_n 0, 130, 0, 0, .null, [], [])),
  (130, (.getfield 20, 133, 0, 0, (.int 3), [], [409])),
  (133, (.bipush 12, 135, 0, 0, (.int 12), [], [])),
  (135, (.iconst 0, 136, 0, 0, (.int 0), [], [])),
  (136, (.invokevirtual 77, 139, 16, 2, .null, [], [3110, 3111, 3112, 408, 3113])),
  (139, (.istore 4, 141, 4, 0, .null, [], [])),
  (141, (.goto 40, 144, 181, 0, .null, [], [])),
  (144, (.aload_n 0, 145, 0, 0, .null, [], [])),
  (145, (.getfield 20, 148, 0, 0, (.int 3), [], [409])),
  (148, (.iload_n 3, 149, 3, 0, .null, [], [])),
  (149, (.invokevirtual 98, 152, 17, 1, .null, [], [3219, 3220, 3221, 408, 3222])),
  (152, (.aload_n 1, 153, 1, 0, .null, [], [])),
  (153, (.sipush 260, 156, 0, 0, (.int 260), [], [])),
  (156, (.invokevirtual 45, 159, 93, 1, .null, [], [3022, 2302, 2303, 106, 2304])),
  (159, (.istore 5, 161, 5, 0, .null, [], [])),
  (161, (.iload 5, 163, 5, 0, .null, [], [])),
  (163, (.ifCond .eq 16, 166, 179, 0, .null, [], [])),
  (166, (.aload_n 0, 167, 0, 0, .null, [], [])),
  (167, (.getfield 20, 170, 0, 0, (.int 3), [], [409])),
  (170, (.bipush 11, 172, 0, 0, (.int 11), [], [])),
  (172, (.iconst 0, 173, 0, 0, (.int 0), [], [])),
  (173, (.invokevirtual 77, 176, 16, 2, .null, [], [3110, 3111, 3112, 408, 3113])),
  (176, (.goto 4, 179, 180, 0, .null, [], [])),
  (179, (.iconst (-1), 180, 0, 0, (.int (-1)), [], [])),
  (180, (.istore_n 3, 181, 3, 0, .null, [], [])),
  (181, (.iinc 6 1, 184, 6, 0, (.int 1), [], [])),
  (184, (.goto (-173), 187, 11, 0, .null, [], [])),
  (187, (.return_, 188, 0, 0, .null, [], []))]
/-- yX0_skipNots -/
def zc_5 : List (Nat × zE) := [(0, (.iconst 0, 1, 0, 0, (.int 0), [], [])),
  (1, (.istore_n 1, 2, 1, 0, .null, [], [])),
  (2, (.iconst 0, 3, 0, 0, (.int 0), [], [])),
  (3, (.istore_n 2, 4, 2, 0, .null, [], [])),
  (4, (.iload_n 2, 5, 2, 0, .null, [], [])),
  (5, (.sipush 400, 8, 0, 0, (.int 400), [], [])),
  (8, (.if_icmp .ge 29, 11, 37, 0, .null, [], [])),
  (11, (.aload_n 0, 12, 0, 0, .null, [], [])),
  (12, (.sipush 267, 15, 0, 0, (.int 267), [], [])),
  (15, (.invokevirtual 45, 18, 93, 1, .null, [], [3022, 2302, 2303, 106, 2304])),
  (18, (.ifCond .eq 19, 21, 37, 0, .null, [], [])),
  (21, (.iload_n 1, 22, 1, 0, .null, [], [])),
  (22, (.ifCond .ne 7, 25, 29, 0, .null, [], [])),
  (25, (.iconst 1, 26, 0, 0, (.int 1), [], [])),
  (26, (.goto 4, 29, 30, 0, .null, [], [])),
  (29, (.iconst 0, 30, 0, 0, (.int 0), [], [])),
  (30, (.istore_n 1, 31, 1, 0, .null, [], [])),
  (31, (.iinc 2 1, 34, 2, 0, (.int 1), [], [])),
  (34, (.goto (-30), 37, 4, 0, .null, [], [])),
  (37, (.iload_n 1, 38, 1, 0, .null, [], [])),
  (38, (.ireturn, 39, 1, 0, .null, [], []))]
/-- yX0_readComparison -/
def zc_6 : List (Nat × zE) := [(0, (.aload_n 0, 1, 0, 0, .null, [], [])),
  (1, (.bipush 60, 3, 0, 0, (.int 60), [], [])),
  (3, (.invokevirtual 45, 6, 93, 1, .null, [], [3022, 2302, 2303, 106, 2304])),
  (6, (.ifCond .eq 6, 9, 12, 0, .null, [], [])),
  (9, (.bipush 7, 11, 0, 0, (.int 7), [], [])),
  (11, (.ireturn, 12, 0, 0, .null, [], [])),
  (12, (.aload_n 0, 13, 0, 0, .null, [], [])),
  (13, (.bipush 62, 15, 0, 0, (.int 62), [], [])),
  (15, (.invokevirtual 45, 18, 93, 1, .null, [], [3022, 2302, 2303, 106, 2304])),
  (18, (.ifCond .eq 6, 21, 24, 0, .null, [], [])),
  (21, (.bipush 8, 23, 0, 0, (.int 8), [], [])),
  (23, (.ireturn, 24, 0, 0, .null, [], [])),
  (24, (.aload_n 0, 25, 0, 0, .null, [], [])),
  (25, (.bipush 61, 27, 0, 0, (.int 61), [], [])),
  (27, (.invokevirtual 54, 30, 94, 1, .null, [], [3119, 2321, 2322, 106, 2323])),
  (30, (.bipush 9, 32, 0, 0, (.int 9), [], [])),
  (32, (.ireturn, 33, 0, 0, .null, [], []))]
/-- yX0_readSum -/
def zc_7 : List (Nat × zE) := [(0, (.iconst (-1), 1, 0, 0, (.int (-1)), [], [])),
  (1, (.istore_n 3, 2, 3, 0, .null, [], [])),
  (2, (.iconst (-1), 3, 0, 0, (.int (-1)), [], [])),
  (3, (.istore 4, 5, 4, 0, .null, [], [])),
  (5, (.iconst 1, 6, 0, 0, (.int 1), [], [])),
  (6, (.istore 5, 8, 5, 0, .null, [], [])),
  (8, (.iconst 0, 9, 0, 0, (.int 0), [], [])),
  (9, (.istore 6, 11, 6, 0, .null, [], [])),
  (11, (.iload 5, 13, 5, 0, .null, [], [])),
  (13, (.ifCond .eq 129, 16, 142, 0, .null, [], [])),
  (16, (.iload 6, 18, 6, 0, .null, [], [])),
  (18, (.sipush 400, 21, 0, 0, (.int 400), [], [])),
  (21, (.if_icmp .ge 121, 24, 142, 0, .null, [], [])),
  (24, (.aload_n 0, 25, 0, 0, .null, [], [])),
  (25, (.aload_n 1, 26, 1, 0, .null, [], [])),
  (26, (.iload_n 2, 27, 2, 0, .null, [], [])),
  (27, (.invokevirtual 101, 30, 9, 2, .null, [], [3107, 3108, 3109, 114, 3118])),
  (30, (.iload 4, 32, 4, 0, .null, [], [])),
  (32, (.iconst (-1), 33, 0, 0, (.int (-1)), [], [])),
  (33, (.if_icmp .eq 14, 36, 47, 0, .null, [], [])),
  (36, (.aload_n 0, 37, 0, 0, .null, [], [])),
  (37, (.getfield 20, 40, 0, 0, (.int 3), [], [409])),
  (40, (.iload 4, 42, 4, 0, .null, [], [])),
  (42, (.iconst 0, 43, 0, 0, (.int 0), [], [])),
  (43, (.invokevirtual 77, 46, 16, 2, .null, [], [3110, 3111, 3112, 408, 3113])),
  (46, (.pop, 47, 0, 0, .null, [], [])),
  (47, (.aload_n 1, 48, 1, 0, .null, [], [])),
  (48, (.aload_n 1, 49, 1, 0, .null, [], [])),
  (49, (.getfield 61, 52, 9, 4, (.int 0), [], [3019])),
  (52, (.invokevirtual 64, 55, 91, 1, .null, [], [3020, 2310, 2311, 106, 2312])),
  (55, (.istore 7, 57, 7, 0, .null, [], [])),
  (57, (.iload 7, 59, 7, 0, .null, [], [])),
  (59, (.invokestatic 104, 62, 8, 1, .null, [], [3115, 3116, 114, 3117])),
  (62, (.istore 4, 64, 4, 0, .null, [], [])),
  (64, (.iload 4, 66, 4, 0, .null, [], [])),
  (66, (.iconst (-1), 67, 0, 0, (.int (-1)), [], [])),
  (67, (.if_icmp .ne 42, 70, 109, 0, .null, [], [])),
  (70, (.iload_n 3, 71, 3, 0, .null, [], [])),
  (71, (.iconst (-1), 72, 0, 0, (.int (-1)), [], [])),
  (72, (.if_icmp .eq 13, 75, 85, 0, .null, [], [])),
  (75, (.aload_n 0, 76, 0, 0, .null, [], [])),
  (76, (.getfield 20, 79, 0, 0, (.int 3), [], [409])),
  (79, (.iload_n 3, 80, 3, 0, .null, [], [])),
  (80, (.iconst 0, 81, 0, 0, (.int 0), [], [])),
  (81, (.invokevirtual 77, 84, 16, 2, .null, [], [3110, 3111, 3112, 408, 3113])),
  (84, (.pop, 85, 0, 0, .null, [], [])),
  (85, (.iload 7, 87, 7, 0, .null, [], [])),
  (87, (.bipush 43, 89, 0, 0, (.int 43), [], [])),
  (89, (.if_icmp .ne 7, 92, 96, 0, .null, [], [])),
  (92, (.iconst 2, 93, 0, 0, (.int 2), [], [])),
  (93, (.goto 15, 96, 108, 0, .null, [], [])),
  (96, (.iload 7, 98, 7, 0, .null, [], [])),
  (98, (.bipush 45, 100, 0, 0, (.int 45), [], [])),
  (100, (.if_icmp .ne 7, 103, 107, 0, .null, [], [])),
  (103, (.iconst 3, 104, 0, 0, (.int 3), [], [])),
  (104, (.goto 4, 107, 108, 0, .null, [], [])),
  (107, (.iconst (-1), 108, 0, 0, (.int (-1)), [], [])),
  (108, (.istore_n 3, 109, 3, 0, .null, [], [])),
  (109, (.iload 4, 111, 4, 0, .null, [], [])),
  (111, (.iconst (-1), 112, 0, 0, (.int (-1)), [], [])),
  (112, (.if_icmp .ne 8, 115, 120, 0, .null, [], [])),
  (115, (.iload_n 3, 116, 3, 0, .null, [], [])),
  (116, (.iconst (-1), 117, 0, 0, (.int (-1)), [], [])),
  (117, (.if_icmp .eq 16, 120, 133, 0, .null, [], [])),
  (120, (.aload_n 1, 121, 1, 0, .null, [], [])),
  (121, (.iload 7, 123, 7, 0, .null, [], [])),
  (123, (.invokevirtual 45, 126, 93, 1, .null, [], [3022, 2302, 2303, 106, 2304])),
  (126, (.ifCond .eq 7, 129, 133, 0, .null, [], [])),
  (129, (.iconst 1, 130, 0, 0, (.int 1), [], [])),
  (130, (.goto 4, 133, 134, 0, .null, [], [])),
  (133, (.iconst 0, 134, 0, 0, (.int 0), [], [])),
  (134, (.istore 5, 136, 5, 0, .null, [], [])),
  (136, (.iinc 6 1, 139, 6, 0, (.int 1), [], [])),
  (139, (.goto (-128), 142, 11, 0, .null, [], [])),
  (142, (.return_, 143, 0, 0, .null, [], []))]
/-- yX0_scalingOp -/
def zc_8 : List (Nat × zE) := [(0, (.iload_n 0, 1, 0, 0, .null, [], [])),
  (1, (.lookupswitch 42 #[(37, 39), (42, 35), (47, 37)], 36, 43, 0, .null, [(37, 40), (42, 36), (47, 38)], [])),
  (36, (.iconst 4, 37, 0, 0, (.int 4), [], [])),
  (37, (.ireturn, 38, 0, 0, .null, [], [])),
  (38, (.iconst 5, 39, 0, 0, (.int 5), [], [])),
  (39, (.ireturn, 40, 0, 0, .null, [], [])),
  (40, (.bipush 6, 42, 0, 0, (.int 6), [], [])),
  (42, (.ireturn, 43, 0, 0, .null, [], [])),
  (43, (.iconst (-1), 44, 0, 0, (.int (-1)), [], [])),
  (44, (.ireturn, 45, 0, 0, .null, [], []))]
/-- yX0_readPart -/
def zc_9 : List (Nat × zE) := [(0, (.iload_n 2, 1, 2, 0, .null, [], [])),
  (1, (.bipush 8, 3, 0, 0, (.int 8), [], [])),
  (3, (.if_icmp .ge 27, 6, 30, 0, .null, [], [])),
  (6, (.aload_n 1, 7, 1, 0, .null, [], [])),
  (7, (.bipush 91, 9, 0, 0, (.int 91), [], [])),
  (9, (.invokevirtual 45, 12, 93, 1, .null, [], [3022, 2302, 2303, 106, 2304])),
  (12, (.ifCond .eq 18, 15, 30, 0, .null, [], [])),
  (15, (.aload_n 0, 16, 0, 0, .null, [], [])),
  (16, (.aload_n 1, 17, 1, 0, .null, [], [])),
  (17, (.iload_n 2, 18, 2, 0, .null, [], [])),
  (18, (.iconst 1, 19, 0, 0, (.int 1), [], [])),
  (19, (.iadd, 20, 0, 0, .null, [], [])),
  (20, (.invokevirtual 72, 23, 7, 2, .null, [], [3103, 3104, 3105, 114, 3106])),
  (23, (.aload_n 1, 24, 1, 0, .null, [], [])),
  (24, (.bipush 93, 26, 0, 0, (.int 93), [], [])),
  (26, (.invokevirtual 54, 29, 94, 1, .null, [], [3119, 2321, 2322, 106, 2323])),
  (29, (.return_, 30, 0, 0, .null, [], [])),
  (30, (.aload_n 0, 31, 0, 0, .null, [], [])),
  (31, (.getfield 38, 34, 0, 2, (.int 0), [], [3013])),
  (34, (.bipush 50, 36, 0, 0, (.int 50), [], [])),
  (36, (.if_icmp .lt 8, 39, 44, 0, .null, [], [])),
  (39, (.aload_n 1, 40, 1, 0, .null, [], [])),
  (40, (.invokevirtual 51, 43, 92, 0, .null, [], [3021, 2402, 2403, 106, 2404])),
  (43, (.return_, 44, 0, 0, .null, [], [])),
  (44, (.aload_n 0, 45, 0, 0, .null, [], [])),
  (45, (.dup, 46, 0, 0, .null, [], [])),
  (46, (.getfield 38, 49, 0, 2, (.int 0), [], [3013])),
  (49, (.iconst 1, 50, 0, 0, (.int 1), [], [])),
  (50, (.iadd, 51, 0, 0, .null, [], [])),
  (51, (.putfield 38, 54, 0, 2, (.int 0), [], [3013])),
  (54, (.aload_n 1, 55, 1, 0, .null, [], [])),
  (55, (.iconst 0, 56, 0, 0, (.int 0), [], [])),
  (56, (.sipush 1000, 59, 0, 0, (.int 1000), [], [])),
  (59, (.invokevirtual 87, 62, 95, 2, .null, [], [3120, 2407, 2408, 106, 2409])),
  (62, (.istore_n 3, 63, 3, 0, .null, [], [])),
  (63, (.iload_n 3, 64, 3, 0, .null, [], [])),
  (64, (.iconst (-1), 65, 0, 0, (.int (-1)), [], [])),
  (65, (.if_icmp .eq 16, 68, 81, 0, .null, [], [])),
  (68, (.aload_n 0, 69, 0, 0, .null, [], [])),
  (69, (.getfield 20, 72, 0, 0, (.int 3), [], [409])),
  (72, (.iconst 0, 73, 0, 0, (.int 0), [], [])),
  (73, (.iload_n 3, 74, 3, 0, .null, [], [])),
  (74, (.invokevirtual 77, 77, 16, 2, .null, [], [3110, 3111, 3112, 408, 3113])),
  (77, (.pop, 78, 0, 0, .null, [], [])),
  (78, (.goto 23, 81, 101, 0, .null, [], [])),
  (81, (.aload_n 0, 82, 0, 0, .null, [], [])),
  (82, (.getfield 35, 85, 0, 1, (.int 1), [], [3012])),
  (85, (.ifCond .eq 11, 88, 96, 0, .null, [], [])),
  (88, (.aload_n 0, 89, 0, 0, .null, [], [])),
  (89, (.aload_n 1, 90, 1, 0, .null, [], [])),
  (90, (.invokevirtual 107, 93, 11, 1, .null, [], [3121, 3122, 3123, 114, 3200])),
  (93, (.goto 8, 96, 101, 0, .null, [], [])),
  (96, (.aload_n 0, 97, 0, 0, .null, [], [])),
  (97, (.aload_n 1, 98, 1, 0, .null, [], [])),
  (98, (.invokevirtual 111, 101, 10, 1, .null, [], [3201, 3202, 3203, 114, 3204])),
  (101, (.return_, 102, 0, 0, .null, [], []))]
/-- yX0_readLawWord -/
def zc_10 : List (Nat × zE) := [(0, (.aload_n 1, 1, 1, 0, .null, [], [])),
  (1, (.aload_n 1, 2, 1, 0, .null, [], [])),
  (2, (.getfield 61, 5, 9, 4, (.int 0), [], [3019])),
  (5, (.invokevirtual 64, 8, 91, 1, .null, [], [3020, 2310, 2311, 106, 2312])),
  (8, (.istore_n 2, 9, 2, 0, .null, [], [])),
  (9, (.iload_n 2, 10, 2, 0, .null, [], [])),
  (10, (.sipush 268, 13, 0, 0, (.int 268), [], [])),
  (13, (.if_icmp .lt 10, 16, 23, 0, .null, [], [])),
  (16, (.iload_n 2, 17, 2, 0, .null, [], [])),
  (17, (.sipush 275, 20, 0, 0, (.int 275), [], [])),
  (20, (.if_icmp .le 10, 23, 30, 0, .null, [], [])),
  (23, (.aload_n 1, 24, 1, 0, .null, [], [])),
  (24, (.invokevirtual 51, 27, 92, 0, .null, [], [3021, 2402, 2403, 106, 2404])),
  (27, (.goto 25, 30, 52, 0, .null, [], [])),
  (30, (.aload_n 1, 31, 1, 0, .null, [], [])),
  (31, (.iload_n 2, 32, 2, 0, .null, [], [])),
  (32, (.invokevirtual 45, 35, 93, 1, .null, [], [3022, 2302, 2303, 106, 2304])),
  (35, (.ifCond .eq 17, 38, 52, 0, .null, [], [])),
  (38, (.aload_n 0, 39, 0, 0, .null, [], [])),
  (39, (.getfield 20, 42, 0, 0, (.int 3), [], [409])),
  (42, (.iconst 1, 43, 0, 0, (.int 1), [], [])),
  (43, (.iload_n 2, 44, 2, 0, .null, [], [])),
  (44, (.sipush 268, 47, 0, 0, (.int 268), [], [])),
  (47, (.isub, 48, 0, 0, .null, [], [])),
  (48, (.invokevirtual 77, 51, 16, 2, .null, [], [3110, 3111, 3112, 408, 3113])),
  (51, (.pop, 52, 0, 0, .null, [], [])),
  (52, (.return_, 53, 0, 0, .null, [], []))]
/-- yX0_readOrderWord -/
def zc_11 : List (Nat × zE) := [(0, (.iconst (-1), 1, 0, 0, (.int (-1)), [], [])),
  (1, (.istore_n 2, 2, 2, 0, .null, [], [])),
  (2, (.aload_n 1, 3, 1, 0, .null, [], [])),
  (3, (.sipush 274, 6, 0, 0, (.int 274), [], [])),
  (6, (.invokevirtual 45, 9, 93, 1, .null, [], [3022, 2302, 2303, 106, 2304])),
  (9, (.ifCond .eq 8, 12, 17, 0, .null, [], [])),
  (12, (.iconst 0, 13, 0, 0, (.int 0), [], [])),
  (13, (.istore_n 2, 14, 2, 0, .null, [], [])),
  (14, (.goto 121, 17, 135, 0, .null, [], [])),
  (17, (.aload_n 1, 18, 1, 0, .null, [], [])),
  (18, (.sipush 281, 21, 0, 0, (.int 281), [], [])),
  (21, (.invokevirtual 45, 24, 93, 1, .null, [], [3022, 2302, 2303, 106, 2304])),
  (24, (.ifCond .eq 8, 27, 32, 0, .null, [], [])),
  (27, (.iconst 1, 28, 0, 0, (.int 1), [], [])),
  (28, (.istore_n 2, 29, 2, 0, .null, [], [])),
  (29, (.goto 106, 32, 135, 0, .null, [], [])),
  (32, (.aload_n 1, 33, 1, 0, .null, [], [])),
  (33, (.sipush 282, 36, 0, 0, (.int 282), [], [])),
  (36, (.invokevirtual 45, 39, 93, 1, .null, [], [3022, 2302, 2303, 106, 2304])),
  (39, (.ifCond .eq 8, 42, 47, 0, .null, [], [])),
  (42, (.iconst 2, 43, 0, 0, (.int 2), [], [])),
  (43, (.istore_n 2, 44, 2, 0, .null, [], [])),
  (44, (.goto 91, 47, 135, 0, .null, [], [])),
  (47, (.aload_n 1, 48, 1, 0, .null, [], [])),
  (48, (.sipush 273, 51, 0, 0, (.int 273), [], [])),
  (51, (.invokevirtual 45, 54, 93, 1, .null, [], [3022, 2302, 2303, 106, 2304])),
  (54, (.ifCond .eq 8, 57, 62, 0, .null, [], [])),
  (57, (.iconst 3, 58, 0, 0, (.int 3), [], [])),
  (58, (.istore_n 2, 59, 2, 0, .null, [], [])),
  (59, (.goto 76, 62, 135, 0, .null, [], [])),
  (62, (.aload_n 1, 63, 1, 0, .null, [], [])),
  (63, (.sipush 269, 66, 0, 0, (.int 269), [], [])),
  (66, (.invokevirtual 45, 69, 93, 1, .null, [], [3022, 2302, 2303, 106, 2304])),
  (69, (.ifCond .eq 27, 72, 96, 0, .null, [], [])),
  (72, (.aload_n 1, 73, 1, 0, .null, [], [])),
  (73, (.iconst 0, 74, 0, 0, (.int 0), [], [])),
  (74, (.bipush 19, 76, 0, 0, (.int 19), [], [])),
  (76, (.invokevirtual 87, 79, 95, 2, .null, [], [3120, 2407, 2408, 106, 2409])),
  (79, (.istore_n 3, 80, 3, 0, .null, [], [])),
  (80, (.iload_n 3, 81, 3, 0, .null, [], [])),
  (81, (.iconst (-1), 82, 0, 0, (.int (-1)), [], [])),
  (82, (.if_icmp .ne 7, 85, 89, 0, .null, [], [])),
  (85, (.iconst (-1), 86, 0, 0, (.int (-1)), [], [])),
  (86, (.goto 6, 89, 92, 0, .null, [], [])),
  (89, (.iconst 4, 90, 0, 0, (.int 4), [], [])),
  (90, (.iload_n 3, 91, 3, 0, .null, [], [])),
  (91, (.iadd, 92, 0, 0, .null, [], [])),
  (92, (.istore_n 2, 93, 2, 0, .null, [], [])),
  (93, (.goto 42, 96, 135, 0, .null, [], [])),
  (96, (.aload_n 1, 97, 1, 0, .null, [], [])),
  (97, (.sipush 283, 100, 0, 0, (.int 283), [], [])),
  (100, (.invokevirtual 45, 103, 93, 1, .null, [], [3022, 2302, 2303, 106, 2304])),
  (103, (.ifCond .eq 32, 106, 135, 0, .null, [], [])),
  (106, (.aload_n 1, 107, 1, 0, .null, [], [])),
  (107, (.iconst 0, 108, 0, 0, (.int 0), [], [])),
  (108, (.iconst 5, 109, 0, 0, (.int 5), [], [])),
  (109, (.invokevirtual 87, 112, 95, 2, .null, [], [3120, 2407, 2408, 106, 2409])),
  (112, (.istore_n 3, 113, 3, 0, .null, [], [])),
  (113, (.iload_n 3, 114, 3, 0, .null, [], [])),
  (114, (.iconst (-1), 115, 0, 0, (.int (-1)), [], [])),
  (115, (.if_icmp .ne 7, 118, 122, 0, .null, [], [])),
  (118, (.iconst (-1), 119, 0, 0, (.int (-1)), [], [])),
  (119, (.goto 7, 122, 126, 0, .null, [], [])),
  (122, (.bipush 24, 124, 0, 0, (.int 24), [], [])),
  (124, (.iload_n 3, 125, 3, 0, .null, [], [])),
  (125, (.iadd, 126, 0, 0, .null, [], [])),
  (126, (.istore_n 2, 127, 2, 0, .null, [], [])),
  (127, (.aload_n 0, 128, 0, 0, .null, [], [])),
  (128, (.getfield 20, 131, 0, 0, (.int 3), [], [409])),
  (131, (.iconst 1, 132, 0, 0, (.int 1), [], [])),
  (132, (.putfield 31, 135, 1, 4, (.int 1), [], [3011])),
  (135, (.iload_n 2, 136, 2, 0, .null, [], [])),
  (136, (.iconst (-1), 137, 0, 0, (.int (-1)), [], [])),
  (137, (.if_icmp .ne 10, 140, 147, 0, .null, [], [])),
  (140, (.aload_n 1, 141, 1, 0, .null, [], [])),
  (141, (.invokevirtual 51, 144, 92, 0, .null, [], [3021, 2402, 2403, 106, 2404])),
  (144, (.goto 13, 147, 157, 0, .null, [], [])),
  (147, (.aload_n 0, 148, 0, 0, .null, [], [])),
  (148, (.getfield 20, 151, 0, 0, (.int 3), [], [409])),
  (151, (.iconst 1, 152, 0, 0, (.int 1), [], [])),
  (152, (.iload_n 2, 153, 2, 0, .null, [], [])),
  (153, (.invokevirtual 77, 156, 16, 2, .null, [], [3110, 3111, 3112, 408, 3113])),
  (156, (.pop, 157, 0, 0, .null, [], [])),
  (157, (.return_, 158, 0, 0, .null, [], []))]
/-- yX1_init -/
def zc_12 : List (Nat × zE) := [(0, (.aload_n 0, 1, 0, 0, .null, [], [])),
  (1, (.invokespecial 3, 4, 9000, 0, .null, [], [420])),
  (4, (.aload_n 0, 5, 0, 0, .null, [], [])),
  (5, (.aload_n 1, 6, 1, 0, .null, [], [])),
  (6, (.putfield 9, 9, 1, 0, (.int 3), [], [421])),
  (9, (.aload_n 0, 10, 0, 0, .null, [], [])),
  (10, (.aload_n 2, 11, 2, 0, .null, [], [])),
  (11, (.putfield 15, 14, 1, 1, (.int 3), [], [422])),
  (14, (.return_, 15, 0, 0, .null, [], []))]
/-- yX1_fieldsFor -/
def zc_13 : List (Nat × zE) := [(0, (.iconst 5, 1, 0, 0, (.int 5), [], [])),
  (1, (.iconst 0, 2, 0, 0, (.int 0), [], [])),
  (2, (.iload_n 0, 3, 0, 0, .null, [], [])),
  (3, (.invokestatic 18, 6, 272, 2, .null, [], [413, 414, 415, 416])),
  (6, (.imul, 7, 0, 0, .null, [], [])),
  (7, (.newarray .int, 9, 0, 0, .null, [], [200])),
  (9, (.areturn, 10, 0, 0, .null, [], []))]
/-- yX1_told -/
def zc_14 : List (Nat × zE) := [(0, (.iconst 5, 1, 0, 0, (.int 5), [], [])),
  (1, (.iload_n 1, 2, 1, 0, .null, [], [])),
  (2, (.imul, 3, 0, 0, .null, [], [])),
  (3, (.iload_n 2, 4, 2, 0, .null, [], [])),
  (4, (.iadd, 5, 0, 0, .null, [], [])),
  (5, (.istore_n 3, 6, 3, 0, .null, [], [])),
  (6, (.iload_n 1, 7, 1, 0, .null, [], [])),
  (7, (.ifCond .lt 25, 10, 32, 0, .null, [], [])),
  (10, (.iload_n 3, 11, 3, 0, .null, [], [])),
  (11, (.ifCond .lt 21, 14, 32, 0, .null, [], [])),
  (14, (.iload_n 3, 15, 3, 0, .null, [], [])),
  (15, (.aload_n 0, 16, 0, 0, .null, [], [])),
  (16, (.getfield 15, 19, 1, 1, (.int 3), [], [422])),
  (19, (.arraylength, 20, 0, 0, .null, [], [])),
  (20, (.if_icmp .ge 12, 23, 32, 0, .null, [], [])),
  (23, (.aload_n 0, 24, 0, 0, .null, [], [])),
  (24, (.getfield 15, 27, 1, 1, (.int 3), [], [422])),
  (27, (.iload_n 3, 28, 3, 0, .null, [], [])),
  (28, (.iaload, 29, 0, 0, .null, [], [])),
  (29, (.goto 4, 32, 33, 0, .null, [], [])),
  (32, (.iconst (-1), 33, 0, 0, (.int (-1)), [], [])),
  (33, (.ireturn, 34, 0, 0, .null, [], []))]
/-- yX1_tell -/
def zc_15 : List (Nat × zE) := [(0, (.iconst 5, 1, 0, 0, (.int 5), [], [])),
  (1, (.iload_n 1, 2, 1, 0, .null, [], [])),
  (2, (.imul, 3, 0, 0, .null, [], [])),
  (3, (.iload_n 2, 4, 2, 0, .null, [], [])),
  (4, (.iadd, 5, 0, 0, .null, [], [])),
  (5, (.istore 4, 7, 4, 0, .null, [], [])),
  (7, (.iload_n 1, 8, 1, 0, .null, [], [])),
  (8, (.ifCond .lt 26, 11, 34, 0, .null, [], [])),
  (11, (.iload 4, 13, 4, 0, .null, [], [])),
  (13, (.ifCond .lt 21, 16, 34, 0, .null, [], [])),
  (16, (.iload 4, 18, 4, 0, .null, [], [])),
  (18, (.aload_n 0, 19, 0, 0, .null, [], [])),
  (19, (.getfield 15, 22, 1, 1, (.int 3), [], [422])),
  (22, (.arraylength, 23, 0, 0, .null, [], [])),
  (23, (.if_icmp .ge 11, 26, 34, 0, .null, [], [])),
  (26, (.aload_n 0, 27, 0, 0, .null, [], [])),
  (27, (.getfield 15, 30, 1, 1, (.int 3), [], [422])),
  (30, (.iload 4, 32, 4, 0, .null, [], [])),
  (32, (.iload_n 3, 33, 3, 0, .null, [], [])),
  (33, (.iastore, 34, 0, 0, .null, [], [])),
  (34, (.return_, 35, 0, 0, .null, [], []))]
/-- yX1_write -/
def zc_16 : List (Nat × zE) := [(0, (.aload_n 0, 1, 0, 0, .null, [], [])),
  (1, (.getfield 24, 4, 1, 3, (.int 0), [], [3114])),
  (4, (.ifCond .lt 15, 7, 19, 0, .null, [], [])),
  (7, (.aload_n 0, 8, 0, 0, .null, [], [])),
  (8, (.getfield 24, 11, 1, 3, (.int 0), [], [3114])),
  (11, (.aload_n 0, 12, 0, 0, .null, [], [])),
  (12, (.getfield 9, 15, 1, 0, (.int 3), [], [421])),
  (15, (.arraylength, 16, 0, 0, .null, [], [])),
  (16, (.if_icmp .lt 5, 19, 21, 0, .null, [], [])),
  (19, (.iconst (-1), 20, 0, 0, (.int (-1)), [], [])),
  (20, (.ireturn, 21, 0, 0, .null, [], [])),
  (21, (.aload_n 0, 22, 0, 0, .null, [], [])),
  (22, (.getfield 9, 25, 1, 0, (.int 3), [], [421])),
  (25, (.aload_n 0, 26, 0, 0, .null, [], [])),
  (26, (.getfield 24, 29, 1, 3, (.int 0), [], [3114])),
  (29, (.iload_n 2, 30, 2, 0, .null, [], [])),
  (30, (.bipush 16, 32, 0, 0, (.int 16), [], [])),
  (32, (.imul, 33, 0, 0, .null, [], [])),
  (33, (.iload_n 1, 34, 1, 0, .null, [], [])),
  (34, (.iadd, 35, 0, 0, .null, [], [])),
  (35, (.iastore, 36, 0, 0, .null, [], [])),
  (36, (.aload_n 0, 37, 0, 0, .null, [], [])),
  (37, (.dup, 38, 0, 0, .null, [], [])),
  (38, (.getfield 24, 41, 1, 3, (.int 0), [], [3114])),
  (41, (.iconst 1, 42, 0, 0, (.int 1), [], [])),
  (42, (.iadd, 43, 0, 0, .null, [], [])),
  (43, (.putfield 24, 46, 1, 3, (.int 0), [], [3114])),
  (46, (.aload_n 0, 47, 0, 0, .null, [], [])),
  (47, (.getfield 24, 50, 1, 3, (.int 0), [], [3114])),
  (50, (.iconst 1, 51, 0, 0, (.int 1), [], [])),
  (51, (.isub, 52, 0, 0, .null, [], [])),
  (52, (.ireturn, 53, 0, 0, .null, [], []))]
/-- yX1_aim -/
def zc_17 : List (Nat × zE) := [(0, (.iload_n 1, 1, 1, 0, .null, [], [])),
  (1, (.ifCond .lt 36, 4, 37, 0, .null, [], [])),
  (4, (.iload_n 1, 5, 1, 0, .null, [], [])),
  (5, (.aload_n 0, 6, 0, 0, .null, [], [])),
  (6, (.getfield 24, 9, 1, 3, (.int 0), [], [3114])),
  (9, (.if_icmp .ge 28, 12, 37, 0, .null, [], [])),
  (12, (.iload_n 1, 13, 1, 0, .null, [], [])),
  (13, (.aload_n 0, 14, 0, 0, .null, [], [])),
  (14, (.getfield 9, 17, 1, 0, (.int 3), [], [421])),
  (17, (.arraylength, 18, 0, 0, .null, [], [])),
  (18, (.if_icmp .ge 19, 21, 37, 0, .null, [], [])),
  (21, (.aload_n 0, 22, 0, 0, .null, [], [])),
  (22, (.getfield 9, 25, 1, 0, (.int 3), [], [421])),
  (25, (.iload_n 1, 26, 1, 0, .null, [], [])),
  (26, (.dup2, 27, 0, 0, .null, [], [])),
  (27, (.iaload, 28, 0, 0, .null, [], [])),
  (28, (.aload_n 0, 29, 0, 0, .null, [], [])),
  (29, (.getfield 24, 32, 1, 3, (.int 0), [], [3114])),
  (32, (.bipush 16, 34, 0, 0, (.int 16), [], [])),
  (34, (.imul, 35, 0, 0, .null, [], [])),
  (35, (.iadd, 36, 0, 0, .null, [], [])),
  (36, (.iastore, 37, 0, 0, .null, [], [])),
  (37, (.return_, 38, 0, 0, .null, [], []))]
/-- yX1_compact -/
def zc_18 : List (Nat × zE) := [(0, (.new 10, 3, 1, 0, .null, [], [3303, 407, 408])),
  (3, (.dup, 4, 0, 0, .null, [], [])),
  (4, (.aload_n 0, 5, 0, 0, .null, [], [])),
  (5, (.getfield 9, 8, 1, 0, (.int 3), [], [421])),
  (8, (.iconst 0, 9, 0, 0, (.int 0), [], [])),
  (9, (.aload_n 0, 10, 0, 0, .null, [], [])),
  (10, (.getfield 24, 13, 1, 3, (.int 0), [], [3114])),
  (13, (.invokestatic 18, 16, 272, 2, .null, [], [413, 414, 415, 416])),
  (16, (.invokestatic 30, 19, 276, 2, .null, [], [3305, 2503, 1117, 2504])),
  (19, (.aload_n 0, 20, 0, 0, .null, [], [])),
  (20, (.getfield 15, 23, 1, 1, (.int 3), [], [422])),
  (23, (.iconst 5, 24, 0, 0, (.int 5), [], [])),
  (24, (.iconst 0, 25, 0, 0, (.int 0), [], [])),
  (25, (.aload_n 0, 26, 0, 0, .null, [], [])),
  (26, (.getfield 36, 29, 1, 2, (.int 0), [], [3304])),
  (29, (.invokestatic 18, 32, 272, 2, .null, [], [413, 414, 415, 416])),
  (32, (.imul, 33, 0, 0, .null, [], [])),
  (33, (.invokestatic 30, 36, 276, 2, .null, [], [3305, 2503, 1117, 2504])),
  (36, (.invokespecial 39, 39, 12, 2, .null, [], [3306, 418, 408, 419])),
  (39, (.astore_n 1, 40, 1, 0, .null, [], [])),
  (40, (.aload_n 1, 41, 1, 0, .null, [], [])),
  (41, (.aload_n 0, 42, 0, 0, .null, [], [])),
  (42, (.getfield 36, 45, 1, 2, (.int 0), [], [3304])),
  (45, (.putfield 36, 48, 1, 2, (.int 0), [], [3304])),
  (48, (.aload_n 1, 49, 1, 0, .null, [], [])),
  (49, (.aload_n 0, 50, 0, 0, .null, [], [])),
  (50, (.getfield 24, 53, 1, 3, (.int 0), [], [3114])),
  (53, (.putfield 24, 56, 1, 3, (.int 0), [], [3114])),
  (56, (.aload_n 1, 57, 1, 0, .null, [], [])),
  (57, (.areturn, 58, 0, 0, .null, [], []))]
/-- yX2_init -/
def zc_19 : List (Nat × zE) := [(0, (.aload_n 0, 1, 0, 0, .null, [], [])),
  (1, (.invokespecial 3, 4, 9000, 0, .null, [], [223])),
  (4, (.aload_n 0, 5, 0, 0, .null, [], [])),
  (5, (.bipush 16, 7, 0, 0, (.int 16), [], [])),
  (7, (.newarray .int, 9, 0, 0, .null, [], [200])),
  (9, (.putfield 9, 12, 2, 0, (.int 3), [], [300])),
  (12, (.aload_n 0, 13, 0, 0, .null, [], [])),
  (13, (.bipush 16, 15, 0, 0, (.int 16), [], [])),
  (15, (.newarray .int, 17, 0, 0, .null, [], [200])),
  (17, (.putfield 15, 20, 2, 1, (.int 3), [], [301])),
  (20, (.aload_n 0, 21, 0, 0, .null, [], [])),
  (21, (.bipush 16, 23, 0, 0, (.int 16), [], [])),
  (23, (.newarray .int, 25, 0, 0, .null, [], [200])),
  (25, (.putfield 18, 28, 2, 2, (.int 3), [], [302])),
  (28, (.return_, 29, 0, 0, .null, [], []))]
/-- yX2_copyFrom -/
def zc_20 : List (Nat × zE) := [(0, (.aload_n 1, 1, 1, 0, .null, [], [])),
  (1, (.getfield 9, 4, 2, 0, (.int 3), [], [300])),
  (4, (.iconst 0, 5, 0, 0, (.int 0), [], [])),
  (5, (.aload_n 0, 6, 0, 0, .null, [], [])),
  (6, (.getfield 9, 9, 2, 0, (.int 3), [], [300])),
  (9, (.iconst 0, 10, 0, 0, (.int 0), [], [])),
  (10, (.bipush 16, 12, 0, 0, (.int 16), [], [])),
  (12, (.invokestatic 21, 15, 9001, 0, .null, [], [3720])),
  (15, (.aload_n 1, 16, 1, 0, .null, [], [])),
  (16, (.getfield 15, 19, 2, 1, (.int 3), [], [301])),
  (19, (.iconst 0, 20, 0, 0, (.int 0), [], [])),
  (20, (.aload_n 0, 21, 0, 0, .null, [], [])),
  (21, (.getfield 15, 24, 2, 1, (.int 3), [], [301])),
  (24, (.iconst 0, 25, 0, 0, (.int 0), [], [])),
  (25, (.bipush 16, 27, 0, 0, (.int 16), [], [])),
  (27, (.invokestatic 21, 30, 9001, 0, .null, [], [3720])),
  (30, (.aload_n 1, 31, 1, 0, .null, [], [])),
  (31, (.getfield 18, 34, 2, 2, (.int 3), [], [302])),
  (34, (.iconst 0, 35, 0, 0, (.int 0), [], [])),
  (35, (.aload_n 0, 36, 0, 0, .null, [], [])),
  (36, (.getfield 18, 39, 2, 2, (.int 3), [], [302])),
  (39, (.iconst 0, 40, 0, 0, (.int 0), [], [])),
  (40, (.bipush 16, 42, 0, 0, (.int 16), [], [])),
  (42, (.invokestatic 21, 45, 9001, 0, .null, [], [3720])),
  (45, (.aload_n 0, 46, 0, 0, .null, [], [])),
  (46, (.aload_n 1, 47, 1, 0, .null, [], [])),
  (47, (.getfield 27, 50, 2, 3, (.int 0), [], [3721])),
  (50, (.putfield 27, 53, 2, 3, (.int 0), [], [3721])),
  (53, (.return_, 54, 0, 0, .null, [], []))]
/-- yX2_add -/
def zc_21 : List (Nat × zE) := [(0, (.aload_n 0, 1, 0, 0, .null, [], [])),
  (1, (.getfield 27, 4, 2, 3, (.int 0), [], [3721])),
  (4, (.bipush 16, 6, 0, 0, (.int 16), [], [])),
  (6, (.if_icmp .lt 7, 9, 13, 0, .null, [], [])),
  (9, (.aload_n 0, 10, 0, 0, .null, [], [])),
  (10, (.invokevirtual 31, 13, 22, 0, .null, [], [4005, 4006, 4007, 21, 4008])),
  (13, (.aload_n 0, 14, 0, 0, .null, [], [])),
  (14, (.getfield 27, 17, 2, 3, (.int 0), [], [3721])),
  (17, (.ifCond .lt 52, 20, 69, 0, .null, [], [])),
  (20, (.aload_n 0, 21, 0, 0, .null, [], [])),
  (21, (.getfield 27, 24, 2, 3, (.int 0), [], [3721])),
  (24, (.bipush 16, 26, 0, 0, (.int 16), [], [])),
  (26, (.if_icmp .ge 43, 29, 69, 0, .null, [], [])),
  (29, (.aload_n 0, 30, 0, 0, .null, [], [])),
  (30, (.getfield 9, 33, 2, 0, (.int 3), [], [300])),
  (33, (.aload_n 0, 34, 0, 0, .null, [], [])),
  (34, (.getfield 27, 37, 2, 3, (.int 0), [], [3721])),
  (37, (.iload_n 1, 38, 1, 0, .null, [], [])),
  (38, (.iastore, 39, 0, 0, .null, [], [])),
  (39, (.aload_n 0, 40, 0, 0, .null, [], [])),
  (40, (.getfield 15, 43, 2, 1, (.int 3), [], [301])),
  (43, (.aload_n 0, 44, 0, 0, .null, [], [])),
  (44, (.getfield 27, 47, 2, 3, (.int 0), [], [3721])),
  (47, (.iload_n 2, 48, 2, 0, .null, [], [])),
  (48, (.iastore, 49, 0, 0, .null, [], [])),
  (49, (.aload_n 0, 50, 0, 0, .null, [], [])),
  (50, (.getfield 18, 53, 2, 2, (.int 3), [], [302])),
  (53, (.aload_n 0, 54, 0, 0, .null, [], [])),
  (54, (.getfield 27, 57, 2, 3, (.int 0), [], [3721])),
  (57, (.iload_n 3, 58, 3, 0, .null, [], [])),
  (58, (.iastore, 59, 0, 0, .null, [], [])),
  (59, (.aload_n 0, 60, 0, 0, .null, [], [])),
  (60, (.dup, 61, 0, 0, .null, [], [])),
  (61, (.getfield 27, 64, 2, 3, (.int 0), [], [3721])),
  (64, (.iconst 1, 65, 0, 0, (.int 1), [], [])),
  (65, (.iadd, 66, 0, 0, .null, [], [])),
  (66, (.putfield 27, 69, 2, 3, (.int 0), [], [3721])),
  (69, (.return_, 70, 0, 0, .null, [], []))]
/-- yX2_dropOldest -/
def zc_22 : List (Nat × zE) := [(0, (.iconst 1, 1, 0, 0, (.int 1), [], [])),
  (1, (.istore_n 1, 2, 1, 0, .null, [], [])),
  (2, (.iload_n 1, 3, 1, 0, .null, [], [])),
  (3, (.bipush 16, 5, 0, 0, (.int 16), [], [])),
  (5, (.if_icmp .ge 51, 8, 56, 0, .null, [], [])),
  (8, (.aload_n 0, 9, 0, 0, .null, [], [])),
  (9, (.getfield 9, 12, 2, 0, (.int 3), [], [300])),
  (12, (.iload_n 1, 13, 1, 0, .null, [], [])),
  (13, (.iconst 1, 14, 0, 0, (.int 1), [], [])),
  (14, (.isub, 15, 0, 0, .null, [], [])),
  (15, (.aload_n 0, 16, 0, 0, .null, [], [])),
  (16, (.getfield 9, 19, 2, 0, (.int 3), [], [300])),
  (19, (.iload_n 1, 20, 1, 0, .null, [], [])),
  (20, (.iaload, 21, 0, 0, .null, [], [])),
  (21, (.iastore, 22, 0, 0, .null, [], [])),
  (22, (.aload_n 0, 23, 0, 0, .null, [], [])),
  (23, (.getfield 15, 26, 2, 1, (.int 3), [], [301])),
  (26, (.iload_n 1, 27, 1, 0, .null, [], [])),
  (27, (.iconst 1, 28, 0, 0, (.int 1), [], [])),
  (28, (.isub, 29, 0, 0, .null, [], [])),
  (29, (.aload_n 0, 30, 0, 0, .null, [], [])),
  (30, (.getfield 15, 33, 2, 1, (.int 3), [], [301])),
  (33, (.iload_n 1, 34, 1, 0, .null, [], [])),
  (34, (.iaload, 35, 0, 0, .null, [], [])),
  (35, (.iastore, 36, 0, 0, .null, [], [])),
  (36, (.aload_n 0, 37, 0, 0, .null, [], [])),
  (37, (.getfield 18, 40, 2, 2, (.int 3), [], [302])),
  (40, (.iload_n 1, 41, 1, 0, .null, [], [])),
  (41, (.iconst 1, 42, 0, 0, (.int 1), [], [])),
  (42, (.isub, 43, 0, 0, .null, [], [])),
  (43, (.aload_n 0, 44, 0, 0, .null, [], [])),
  (44, (.getfield 18, 47, 2, 2, (.int 3), [], [302])),
  (47, (.iload_n 1, 48, 1, 0, .null, [], [])),
  (48, (.iaload, 49, 0, 0, .null, [], [])),
  (49, (.iastore, 50, 0, 0, .null, [], [])),
  (50, (.iinc 1 1, 53, 1, 0, (.int 1), [], [])),
  (53, (.goto (-51), 56, 2, 0, .null, [], [])),
  (56, (.aload_n 0, 57, 0, 0, .null, [], [])),
  (57, (.bipush 15, 59, 0, 0, (.int 15), [], [])),
  (59, (.putfield 27, 62, 2, 3, (.int 0), [], [3721])),
  (62, (.return_, 63, 0, 0, .null, [], []))]
/-- yX2_latestKind -/
def zc_23 : List (Nat × zE) := [(0, (.aload_n 0, 1, 0, 0, .null, [], [])),
  (1, (.aload_n 0, 2, 0, 0, .null, [], [])),
  (2, (.getfield 9, 5, 2, 0, (.int 3), [], [300])),
  (5, (.invokevirtual 34, 8, 26, 1, .null, [], [4812, 4813, 4814, 21, 4815])),
  (8, (.ireturn, 9, 0, 0, .null, [], []))]
/-- yX2_latestSyllable -/
def zc_24 : List (Nat × zE) := [(0, (.aload_n 0, 1, 0, 0, .null, [], [])),
  (1, (.aload_n 0, 2, 0, 0, .null, [], [])),
  (2, (.getfield 15, 5, 2, 1, (.int 3), [], [301])),
  (5, (.invokevirtual 34, 8, 26, 1, .null, [], [4812, 4813, 4814, 21, 4815])),
  (8, (.ireturn, 9, 0, 0, .null, [], []))]
/-- yX2_latestWeight -/
def zc_25 : List (Nat × zE) := [(0, (.aload_n 0, 1, 0, 0, .null, [], [])),
  (1, (.aload_n 0, 2, 0, 0, .null, [], [])),
  (2, (.getfield 18, 5, 2, 2, (.int 3), [], [302])),
  (5, (.invokevirtual 34, 8, 26, 1, .null, [], [4812, 4813, 4814, 21, 4815])),
  (8, (.ireturn, 9, 0, 0, .null, [], []))]
/-- yX2_latestIn -/
def zc_26 : List (Nat × zE) := [(0, (.aload_n 0, 1, 0, 0, .null, [], [])),
  (1, (.getfield 27, 4, 2, 3, (.int 0), [], [3721])),
  (4, (.ifCond .le 23, 7, 27, 0, .null, [], [])),
  (7, (.aload_n 0, 8, 0, 0, .null, [], [])),
  (8, (.getfield 27, 11, 2, 3, (.int 0), [], [3721])),
  (11, (.aload_n 1, 12, 1, 0, .null, [], [])),
  (12, (.arraylength, 13, 0, 0, .null, [], [])),
  (13, (.if_icmp .gt 14, 16, 27, 0, .null, [], [])),
  (16, (.aload_n 1, 17, 1, 0, .null, [], [])),
  (17, (.aload_n 0, 18, 0, 0, .null, [], [])),
  (18, (.getfield 27, 21, 2, 3, (.int 0), [], [3721])),
  (21, (.iconst 1, 22, 0, 0, (.int 1), [], [])),
  (22, (.isub, 23, 0, 0, .null, [], [])),
  (23, (.iaload, 24, 0, 0, .null, [], [])),
  (24, (.goto 4, 27, 28, 0, .null, [], [])),
  (27, (.iconst (-1), 28, 0, 0, (.int (-1)), [], [])),
  (28, (.ireturn, 29, 0, 0, .null, [], []))]
/-- yX3_init -/
def zc_27 : List (Nat × zE) := [(0, (.aload_n 0, 1, 0, 0, .null, [], [])),
  (1, (.invokespecial 1, 4, 9000, 0, .null, [], [2519])),
  (4, (.aload_n 0, 5, 0, 0, .null, [], [])),
  (5, (.aload_n 1, 6, 1, 0, .null, [], [])),
  (6, (.putfield 7, 9, 3, 0, (.int 3), [], [2520])),
  (9, (.aload_n 0, 10, 0, 0, .null, [], [])),
  (10, (.aload_n 2, 11, 2, 0, .null, [], [])),
  (11, (.putfield 13, 14, 3, 1, (.int 3), [], [2521])),
  (14, (.aload_n 0, 15, 0, 0, .null, [], [])),
  (15, (.aload_n 3, 16, 3, 0, .null, [], [])),
  (16, (.putfield 16, 19, 3, 2, (.int 3), [], [2522])),
  (19, (.aload_n 0, 20, 0, 0, .null, [], [])),
  (20, (.iload 4, 22, 4, 0, .null, [], [])),
  (22, (.putfield 19, 25, 3, 3, (.int 0), [], [2523])),
  (25, (.aload_n 0, 26, 0, 0, .null, [], [])),
  (26, (.iload 5, 28, 5, 0, .null, [], [])),
  (28, (.putfield 23, 31, 3, 4, (.int 0), [], [2600])),
  (31, (.aload_n 0, 32, 0, 0, .null, [], [])),
  (32, (.iload 6, 34, 6, 0, .null, [], [])),
  (34, (.putfield 26, 37, 3, 5, (.int 0), [], [2601])),
  (37, (.return_, 38, 0, 0, .null, [], []))]
/-- yX4_init -/
def zc_28 : List (Nat × zE) := [(0, (.aload_n 0, 1, 0, 0, .null, [], [])),
  (1, (.invokespecial 3, 4, 9000, 0, .null, [], [316])),
  (4, (.aload_n 0, 5, 0, 0, .null, [], [])),
  (5, (.sipush 402, 8, 0, 0, (.int 402), [], [])),
  (8, (.newarray .int, 10, 0, 0, .null, [], [200])),
  (10, (.putfield 11, 13, 4, 0, (.int 3), [], [317])),
  (13, (.aload_n 0, 14, 0, 0, .null, [], [])),
  (14, (.sipush 402, 17, 0, 0, (.int 402), [], [])),
  (17, (.newarray .int, 19, 0, 0, .null, [], [200])),
  (19, (.putfield 15, 22, 4, 1, (.int 3), [], [318])),
  (22, (.aload_n 0, 23, 0, 0, .null, [], [])),
  (23, (.sipush 402, 26, 0, 0, (.int 402), [], [])),
  (26, (.newarray .int, 28, 0, 0, .null, [], [200])),
  (28, (.putfield 18, 31, 4, 2, (.int 3), [], [319])),
  (31, (.aload_n 0, 32, 0, 0, .null, [], [])),
  (32, (.sipush 402, 35, 0, 0, (.int 402), [], [])),
  (35, (.newarray .int, 37, 0, 0, .null, [], [200])),
  (37, (.putfield 21, 40, 4, 3, (.int 3), [], [320])),
  (40, (.aload_n 0, 41, 0, 0, .null, [], [])),
  (41, (.sipush 402, 44, 0, 0, (.int 402), [], [])),
  (44, (.newarray .int, 46, 0, 0, .null, [], [200])),
  (46, (.putfield 24, 49, 4, 4, (.int 3), [], [321])),
  (49, (.aload_n 0, 50, 0, 0, .null, [], [])),
  (50, (.sipush 400, 53, 0, 0, (.int 400), [], [])),
  (53, (.newarray .int, 55, 0, 0, .null, [], [200])),
  (55, (.putfield 27, 58, 4, 5, (.int 3), [], [322])),
  (58, (.aload_n 0, 59, 0, 0, .null, [], [])),
  (59, (.sipush 400, 62, 0, 0, (.int 400), [], [])),
  (62, (.newarray .int, 64, 0, 0, .null, [], [200])),
  (64, (.putfield 30, 67, 4, 6, (.int 3), [], [323])),
  (67, (.aload_n 0, 68, 0, 0, .null, [], [])),
  (68, (.sipush 400, 71, 0, 0, (.int 400), [], [])),
  (71, (.newarray .int, 73, 0, 0, .null, [], [200])),
  (73, (.putfield 33, 76, 4, 7, (.int 3), [], [400])),
  (76, (.aload_n 0, 77, 0, 0, .null, [], [])),
  (77, (.sipush 400, 80, 0, 0, (.int 400), [], [])),
  (80, (.newarray .int, 82, 0, 0, .null, [], [200])),
  (82, (.putfield 36, 85, 4, 8, (.int 3), [], [401])),
  (85, (.aload_n 0, 86, 0, 0, .null, [], [])),
  (86, (.sipush 400, 89, 0, 0, (.int 400), [], [])),
  (89, (.newarray .int, 91, 0, 0, .null, [], [200])),
  (91, (.putfield 39, 94, 4, 9, (.int 3), [], [402])),
  (94, (.return_, 95, 0, 0, .null, [], []))]
/-- yX4_readText -/
def zc_29 : List (Nat × zE) := [(0, (.aload_n 0, 1, 0, 0, .null, [], [])),
  (1, (.aload_n 1, 2, 1, 0, .null, [], [])),
  (2, (.sipush 401, 5, 0, 0, (.int 401), [], [])),
  (5, (.iconst 0, 6, 0, 0, (.int 0), [], [])),
  (6, (.invokevirtual 42, 9, 30, 3, .null, [], [2213, 2214, 2215, 110, 2216])),
  (9, (.istore_n 2, 10, 2, 0, .null, [], [])),
  (10, (.aload_n 1, 11, 1, 0, .null, [], [])),
  (11, (.sipush 301, 14, 0, 0, (.int 301), [], [])),
  (14, (.invokevirtual 48, 17, 94, 1, .null, [], [2320, 2321, 2322, 106, 2323])),
  (17, (.iload_n 2, 18, 2, 0, .null, [], [])),
  (18, (.sipush 200, 21, 0, 0, (.int 200), [], [])),
  (21, (.if_icmp .le 7, 24, 28, 0, .null, [], [])),
  (24, (.aload_n 1, 25, 1, 0, .null, [], [])),
  (25, (.invokevirtual 52, 28, 92, 0, .null, [], [2405, 2402, 2403, 106, 2404])),
  (28, (.aload_n 1, 29, 1, 0, .null, [], [])),
  (29, (.getfield 55, 32, 9, 5, (.int 0), [], [2208])),
  (32, (.iconst (-1), 33, 0, 0, (.int (-1)), [], [])),
  (33, (.if_icmp .eq 5, 36, 38, 0, .null, [], [])),
  (36, (.aconst_null, 37, 0, 0, .null, [], [])),
  (37, (.areturn, 38, 0, 0, .null, [], [])),
  (38, (.aload_n 0, 39, 0, 0, .null, [], [])),
  (39, (.iconst 0, 40, 0, 0, (.int 0), [], [])),
  (40, (.putfield 59, 43, 4, 10, (.int 0), [], [2209])),
  (43, (.aload_n 0, 44, 0, 0, .null, [], [])),
  (44, (.aload_n 1, 45, 1, 0, .null, [], [])),
  (45, (.sipush 401, 48, 0, 0, (.int 401), [], [])),
  (48, (.aload_n 0, 49, 0, 0, .null, [], [])),
  (49, (.iconst 0, 50, 0, 0, (.int 0), [], [])),
  (50, (.iconst (-1), 51, 0, 0, (.int (-1)), [], [])),
  (51, (.iconst (-1), 52, 0, 0, (.int (-1)), [], [])),
  (52, (.invokevirtual 64, 55, 37, 3, .null, [], [2410, 2411, 2412, 110, 2413])),
  (55, (.iconst 0, 56, 0, 0, (.int 0), [], [])),
  (56, (.invokevirtual 68, 59, 35, 4, .null, [], [2418, 2419, 2420, 110, 2421])),
  (59, (.istore_n 3, 60, 3, 0, .null, [], [])),
  (60, (.iload_n 3, 61, 3, 0, .null, [], [])),
  (61, (.aload_n 0, 62, 0, 0, .null, [], [])),
  (62, (.getfield 59, 65, 4, 10, (.int 0), [], [2209])),
  (65, (.iconst 1, 66, 0, 0, (.int 1), [], [])),
  (66, (.isub, 67, 0, 0, .null, [], [])),
  (67, (.if_icmp .ne 7, 70, 74, 0, .null, [], [])),
  (70, (.iload_n 3, 71, 3, 0, .null, [], [])),
  (71, (.ifCond .ge 5, 74, 76, 0, .null, [], [])),
  (74, (.aconst_null, 75, 0, 0, .null, [], [])),
  (75, (.areturn, 76, 0, 0, .null, [], [])),
  (76, (.new 62, 79, 3, 0, .null, [], [2210, 2211, 2212])),
  (79, (.dup, 80, 0, 0, .null, [], [])),
  (80, (.aload_n 0, 81, 0, 0, .null, [], [])),
  (81, (.getfield 27, 84, 4, 5, (.int 3), [], [322])),
  (84, (.aload_n 0, 85, 0, 0, .null, [], [])),
  (85, (.getfield 59, 88, 4, 10, (.int 0), [], [2209])),
  (88, (.invokestatic 72, 91, 276, 2, .null, [], [2502, 2503, 1117, 2504])),
  (91, (.aload_n 0, 92, 0, 0, .null, [], [])),
  (92, (.getfield 30, 95, 4, 6, (.int 3), [], [323])),
  (95, (.aload_n 0, 96, 0, 0, .null, [], [])),
  (96, (.getfield 59, 99, 4, 10, (.int 0), [], [2209])),
  (99, (.invokestatic 72, 102, 276, 2, .null, [], [2502, 2503, 1117, 2504])),
  (102, (.aload_n 0, 103, 0, 0, .null, [], [])),
  (103, (.getfield 33, 106, 4, 7, (.int 3), [], [400])),
  (106, (.aload_n 0, 107, 0, 0, .null, [], [])),
  (107, (.getfield 59, 110, 4, 10, (.int 0), [], [2209])),
  (110, (.invokestatic 72, 113, 276, 2, .null, [], [2502, 2503, 1117, 2504])),
  (113, (.iload_n 2, 114, 2, 0, .null, [], [])),
  (114, (.aload_n 0, 115, 0, 0, .null, [], [])),
  (115, (.getfield 36, 118, 4, 8, (.int 3), [], [401])),
  (118, (.iload_n 3, 119, 3, 0, .null, [], [])),
  (119, (.iaload, 120, 0, 0, .null, [], [])),
  (120, (.aload_n 0, 121, 0, 0, .null, [], [])),
  (121, (.getfield 39, 124, 4, 9, (.int 3), [], [402])),
  (124, (.iload_n 3, 125, 3, 0, .null, [], [])),
  (125, (.iaload, 126, 0, 0, .null, [], [])),
  (126, (.invokespecial 78, 129, 27, 6, .null, [], [2516, 2517, 2212, 2518])),
  (129, (.areturn, 130, 0, 0, .null, [], []))]
/-- yX4_readMetre -/
def zc_30 : List (Nat × zE) := [(0, (.iconst 0, 1, 0, 0, (.int 0), [], [])),
  (1, (.istore 4, 3, 4, 0, .null, [], [])),
  (3, (.iconst (-1), 4, 0, 0, (.int (-1)), [], [])),
  (4, (.istore 5, 6, 5, 0, .null, [], [])),
  (6, (.iconst 1, 7, 0, 0, (.int 1), [], [])),
  (7, (.istore 6, 9, 6, 0, .null, [], [])),
  (9, (.iconst 0, 10, 0, 0, (.int 0), [], [])),
  (10, (.istore 7, 12, 7, 0, .null, [], [])),
  (12, (.iload 6, 14, 6, 0, .null, [], [])),
  (14, (.ifCond .eq 66, 17, 80, 0, .null, [], [])),
  (17, (.iload 7, 19, 7, 0, .null, [], [])),
  (19, (.sipush 400, 22, 0, 0, (.int 400), [], [])),
  (22, (.if_icmp .ge 58, 25, 80, 0, .null, [], [])),
  (25, (.aload_n 1, 26, 1, 0, .null, [], [])),
  (26, (.getfield 81, 29, 9, 4, (.int 0), [], [2217])),
  (29, (.istore 8, 31, 8, 0, .null, [], [])),
  (31, (.sipush 201, 34, 0, 0, (.int 201), [], [])),
  (34, (.iload 4, 36, 4, 0, .null, [], [])),
  (36, (.aload_n 0, 37, 0, 0, .null, [], [])),
  (37, (.aload_n 1, 38, 1, 0, .null, [], [])),
  (38, (.iload 8, 40, 8, 0, .null, [], [])),
  (40, (.iload_n 3, 41, 3, 0, .null, [], [])),
  (41, (.invokevirtual 84, 44, 31, 3, .null, [], [2219, 2220, 2221, 110, 2305])),
  (44, (.iadd, 45, 0, 0, .null, [], [])),
  (45, (.invokestatic 87, 48, 273, 2, .null, [], [2218, 1208, 415, 1209])),
  (48, (.istore 4, 50, 4, 0, .null, [], [])),
  (50, (.aload_n 0, 51, 0, 0, .null, [], [])),
  (51, (.getfield 21, 54, 4, 3, (.int 3), [], [320])),
  (54, (.iload 8, 56, 8, 0, .null, [], [])),
  (56, (.iload 5, 58, 5, 0, .null, [], [])),
  (58, (.invokestatic 93, 61, 39, 3, .null, [], [2222, 2223, 110, 2300])),
  (61, (.iload 8, 63, 8, 0, .null, [], [])),
  (63, (.istore 5, 65, 5, 0, .null, [], [])),
  (65, (.aload_n 1, 66, 1, 0, .null, [], [])),
  (66, (.sipush 260, 69, 0, 0, (.int 260), [], [])),
  (69, (.invokevirtual 97, 72, 93, 1, .null, [], [2301, 2302, 2303, 106, 2304])),
  (72, (.istore 6, 74, 6, 0, .null, [], [])),
  (74, (.iinc 7 1, 77, 7, 0, (.int 1), [], [])),
  (77, (.goto (-65), 80, 12, 0, .null, [], [])),
  (80, (.aload_n 0, 81, 0, 0, .null, [], [])),
  (81, (.getfield 24, 84, 4, 4, (.int 3), [], [321])),
  (84, (.iload_n 2, 85, 2, 0, .null, [], [])),
  (85, (.iload 5, 87, 5, 0, .null, [], [])),
  (87, (.invokestatic 93, 90, 39, 3, .null, [], [2222, 2223, 110, 2300])),
  (90, (.iload 4, 92, 4, 0, .null, [], [])),
  (92, (.ireturn, 93, 0, 0, .null, [], []))]
/-- yX4_readChoice -/
def zc_31 : List (Nat × zE) := [(0, (.iconst 0, 1, 0, 0, (.int 0), [], [])),
  (1, (.istore 4, 3, 4, 0, .null, [], [])),
  (3, (.iconst (-1), 4, 0, 0, (.int (-1)), [], [])),
  (4, (.istore 5, 6, 5, 0, .null, [], [])),
  (6, (.iconst 1, 7, 0, 0, (.int 1), [], [])),
  (7, (.istore 6, 9, 6, 0, .null, [], [])),
  (9, (.iconst 0, 10, 0, 0, (.int 0), [], [])),
  (10, (.istore 7, 12, 7, 0, .null, [], [])),
  (12, (.iload 6, 14, 6, 0, .null, [], [])),
  (14, (.ifCond .eq 86, 17, 100, 0, .null, [], [])),
  (17, (.iload 7, 19, 7, 0, .null, [], [])),
  (19, (.sipush 400, 22, 0, 0, (.int 400), [], [])),
  (22, (.if_icmp .ge 78, 25, 100, 0, .null, [], [])),
  (25, (.aload_n 1, 26, 1, 0, .null, [], [])),
  (26, (.getfield 81, 29, 9, 4, (.int 0), [], [2217])),
  (29, (.istore 8, 31, 8, 0, .null, [], [])),
  (31, (.sipush 201, 34, 0, 0, (.int 201), [], [])),
  (34, (.iload 4, 36, 4, 0, .null, [], [])),
  (36, (.aload_n 0, 37, 0, 0, .null, [], [])),
  (37, (.aload_n 1, 38, 1, 0, .null, [], [])),
  (38, (.iload 8, 40, 8, 0, .null, [], [])),
  (40, (.iload_n 3, 41, 3, 0, .null, [], [])),
  (41, (.invokevirtual 101, 44, 32, 3, .null, [], [2306, 2307, 2308, 110, 2319])),
  (44, (.iadd, 45, 0, 0, .null, [], [])),
  (45, (.invokestatic 87, 48, 273, 2, .null, [], [2218, 1208, 415, 1209])),
  (48, (.istore 4, 50, 4, 0, .null, [], [])),
  (50, (.aload_n 0, 51, 0, 0, .null, [], [])),
  (51, (.getfield 15, 54, 4, 1, (.int 3), [], [318])),
  (54, (.iload 8, 56, 8, 0, .null, [], [])),
  (56, (.iload 5, 58, 5, 0, .null, [], [])),
  (58, (.invokestatic 93, 61, 39, 3, .null, [], [2222, 2223, 110, 2300])),
  (61, (.iload 8, 63, 8, 0, .null, [], [])),
  (63, (.istore 5, 65, 5, 0, .null, [], [])),
  (65, (.aload_n 1, 66, 1, 0, .null, [], [])),
  (66, (.getfield 55, 69, 9, 5, (.int 0), [], [2208])),
  (69, (.iconst (-1), 70, 0, 0, (.int (-1)), [], [])),
  (70, (.if_icmp .ne 21, 73, 91, 0, .null, [], [])),
  (73, (.aload_n 1, 74, 1, 0, .null, [], [])),
  (74, (.aload_n 1, 75, 1, 0, .null, [], [])),
  (75, (.getfield 81, 78, 9, 4, (.int 0), [], [2217])),
  (78, (.invokevirtual 104, 81, 91, 1, .null, [], [2309, 2310, 2311, 106, 2312])),
  (81, (.invokestatic 108, 84, 34, 1, .null, [], [2313, 2314, 110, 2315])),
  (84, (.ifCond .eq 7, 87, 91, 0, .null, [], [])),
  (87, (.iconst 1, 88, 0, 0, (.int 1), [], [])),
  (88, (.goto 4, 91, 92, 0, .null, [], [])),
  (91, (.iconst 0, 92, 0, 0, (.int 0), [], [])),
  (92, (.istore 6, 94, 6, 0, .null, [], [])),
  (94, (.iinc 7 1, 97, 7, 0, (.int 1), [], [])),
  (97, (.goto (-85), 100, 12, 0, .null, [], [])),
  (100, (.aload_n 0, 101, 0, 0, .null, [], [])),
  (101, (.getfield 18, 104, 4, 2, (.int 3), [], [319])),
  (104, (.iload_n 2, 105, 2, 0, .null, [], [])),
  (105, (.iload 5, 107, 5, 0, .null, [], [])),
  (107, (.invokestatic 93, 110, 39, 3, .null, [], [2222, 2223, 110, 2300])),
  (110, (.iload 4, 112, 4, 0, .null, [], [])),
  (112, (.ireturn, 113, 0, 0, .null, [], []))]
/-- yX4_readUnit -/
def zc_32 : List (Nat × zE) := [(0, (.iconst 1, 1, 0, 0, (.int 1), [], [])),
  (1, (.istore 4, 3, 4, 0, .null, [], [])),
  (3, (.aload_n 1, 4, 1, 0, .null, [], [])),
  (4, (.iload_n 2, 5, 2, 0, .null, [], [])),
  (5, (.invokevirtual 104, 8, 91, 1, .null, [], [2309, 2310, 2311, 106, 2312])),
  (8, (.bipush 40, 10, 0, 0, (.int 40), [], [])),
  (10, (.if_icmp .ne 35, 13, 45, 0, .null, [], [])),
  (13, (.iload_n 3, 14, 3, 0, .null, [], [])),
  (14, (.bipush 8, 16, 0, 0, (.int 8), [], [])),
  (16, (.if_icmp .ge 29, 19, 45, 0, .null, [], [])),
  (19, (.aload_n 1, 20, 1, 0, .null, [], [])),
  (20, (.bipush 40, 22, 0, 0, (.int 40), [], [])),
  (22, (.invokevirtual 48, 25, 94, 1, .null, [], [2320, 2321, 2322, 106, 2323])),
  (25, (.aload_n 0, 26, 0, 0, .null, [], [])),
  (26, (.aload_n 1, 27, 1, 0, .null, [], [])),
  (27, (.iload_n 2, 28, 2, 0, .null, [], [])),
  (28, (.iload_n 3, 29, 3, 0, .null, [], [])),
  (29, (.iconst 1, 30, 0, 0, (.int 1), [], [])),
  (30, (.iadd, 31, 0, 0, .null, [], [])),
  (31, (.invokevirtual 42, 34, 30, 3, .null, [], [2213, 2214, 2215, 110, 2216])),
  (34, (.istore 4, 36, 4, 0, .null, [], [])),
  (36, (.aload_n 1, 37, 1, 0, .null, [], [])),
  (37, (.bipush 41, 39, 0, 0, (.int 41), [], [])),
  (39, (.invokevirtual 48, 42, 94, 1, .null, [], [2320, 2321, 2322, 106, 2323])),
  (42, (.goto 30, 45, 72, 0, .null, [], [])),
  (45, (.aload_n 1, 46, 1, 0, .null, [], [])),
  (46, (.iload_n 2, 47, 2, 0, .null, [], [])),
  (47, (.invokevirtual 104, 50, 91, 1, .null, [], [2309, 2310, 2311, 106, 2312])),
  (50, (.invokestatic 111, 53, 33, 1, .null, [], [2316, 2317, 110, 2318])),
  (53, (.ifCond .eq 15, 56, 68, 0, .null, [], [])),
  (56, (.aload_n 1, 57, 1, 0, .null, [], [])),
  (57, (.aload_n 1, 58, 1, 0, .null, [], [])),
  (58, (.iload_n 2, 59, 2, 0, .null, [], [])),
  (59, (.invokevirtual 104, 62, 91, 1, .null, [], [2309, 2310, 2311, 106, 2312])),
  (62, (.invokevirtual 48, 65, 94, 1, .null, [], [2320, 2321, 2322, 106, 2323])),
  (65, (.goto 7, 68, 72, 0, .null, [], [])),
  (68, (.aload_n 1, 69, 1, 0, .null, [], [])),
  (69, (.invokevirtual 52, 72, 92, 0, .null, [], [2405, 2402, 2403, 106, 2404])),
  (72, (.aload_n 1, 73, 1, 0, .null, [], [])),
  (73, (.sipush 261, 76, 0, 0, (.int 261), [], [])),
  (76, (.invokevirtual 97, 79, 93, 1, .null, [], [2301, 2302, 2303, 106, 2304])),
  (79, (.ifCond .eq 13, 82, 92, 0, .null, [], [])),
  (82, (.aload_n 1, 83, 1, 0, .null, [], [])),
  (83, (.iconst 1, 84, 0, 0, (.int 1), [], [])),
  (84, (.bipush 9, 86, 0, 0, (.int 9), [], [])),
  (86, (.invokevirtual 114, 89, 95, 2, .null, [], [2406, 2407, 2408, 106, 2409])),
  (89, (.goto 4, 92, 93, 0, .null, [], [])),
  (92, (.iconst 1, 93, 0, 0, (.int 1), [], [])),
  (93, (.istore 5, 95, 5, 0, .null, [], [])),
  (95, (.iload 5, 97, 5, 0, .null, [], [])),
  (97, (.iconst (-1), 98, 0, 0, (.int (-1)), [], [])),
  (98, (.if_icmp .ne 7, 101, 105, 0, .null, [], [])),
  (101, (.aload_n 1, 102, 1, 0, .null, [], [])),
  (102, (.invokevirtual 52, 105, 92, 0, .null, [], [2405, 2402, 2403, 106, 2404])),
  (105, (.aload_n 0, 106, 0, 0, .null, [], [])),
  (106, (.getfield 11, 109, 4, 0, (.int 3), [], [317])),
  (109, (.iload_n 2, 110, 2, 0, .null, [], [])),
  (110, (.iload 5, 112, 5, 0, .null, [], [])),
  (112, (.invokestatic 93, 115, 39, 3, .null, [], [2222, 2223, 110, 2300])),
  (115, (.sipush 201, 118, 0, 0, (.int 201), [], [])),
  (118, (.iload 4, 120, 4, 0, .null, [], [])),
  (120, (.iload 5, 122, 5, 0, .null, [], [])),
  (122, (.imul, 123, 0, 0, .null, [], [])),
  (123, (.invokestatic 87, 126, 273, 2, .null, [], [2218, 1208, 415, 1209])),
  (126, (.ireturn, 127, 0, 0, .null, [], []))]
/-- yX4_isStep -/
def zc_33 : List (Nat × zE) := [(0, (.iload_n 0, 1, 0, 0, .null, [], [])),
  (1, (.sipush 256, 4, 0, 0, (.int 256), [], [])),
  (4, (.if_icmp .lt 14, 7, 18, 0, .null, [], [])),
  (7, (.iload_n 0, 8, 0, 0, .null, [], [])),
  (8, (.sipush 259, 11, 0, 0, (.int 259), [], [])),
  (11, (.if_icmp .gt 7, 14, 18, 0, .null, [], [])),
  (14, (.iconst 1, 15, 0, 0, (.int 1), [], [])),
  (15, (.goto 4, 18, 19, 0, .null, [], [])),
  (18, (.iconst 0, 19, 0, 0, (.int 0), [], [])),
  (19, (.ireturn, 20, 1, 0, .null, [], []))]
/-- yX4_beginsUnit -/
def zc_34 : List (Nat × zE) := [(0, (.iload_n 0, 1, 0, 0, .null, [], [])),
  (1, (.bipush 40, 3, 0, 0, (.int 40), [], [])),
  (3, (.if_icmp .eq 10, 6, 13, 0, .null, [], [])),
  (6, (.iload_n 0, 7, 0, 0, .null, [], [])),
  (7, (.invokestatic 111, 10, 33, 1, .null, [], [2316, 2317, 110, 2318])),
  (10, (.ifCond .eq 7, 13, 17, 0, .null, [], [])),
  (13, (.iconst 1, 14, 0, 0, (.int 1), [], [])),
  (14, (.goto 4, 17, 18, 0, .null, [], [])),
  (17, (.iconst 0, 18, 0, 0, (.int 0), [], [])),
  (18, (.ireturn, 19, 1, 0, .null, [], []))]
/-- yX4_writeMetre -/
def zc_35 : List (Nat × zE) := [(0, (.iload 4, 2, 4, 0, .null, [], [])),
  (2, (.bipush 8, 4, 0, 0, (.int 8), [], [])),
  (4, (.if_icmp .le 5, 7, 9, 0, .null, [], [])),
  (7, (.iconst (-1), 8, 0, 0, (.int (-1)), [], [])),
  (8, (.ireturn, 9, 0, 0, .null, [], [])),
  (9, (.iconst (-1), 10, 0, 0, (.int (-1)), [], [])),
  (10, (.istore 5, 12, 5, 0, .null, [], [])),
  (12, (.aload_n 0, 13, 0, 0, .null, [], [])),
  (13, (.getfield 24, 16, 4, 4, (.int 3), [], [321])),
  (16, (.iload_n 2, 17, 2, 0, .null, [], [])),
  (17, (.invokestatic 117, 20, 38, 2, .null, [], [2415, 2416, 110, 2417])),
  (20, (.istore 6, 22, 6, 0, .null, [], [])),
  (22, (.iconst 0, 23, 0, 0, (.int 0), [], [])),
  (23, (.istore 7, 25, 7, 0, .null, [], [])),
  (25, (.iload 6, 27, 6, 0, .null, [], [])),
  (27, (.ifCond .lt 62, 30, 89, 0, .null, [], [])),
  (30, (.iload 7, 32, 7, 0, .null, [], [])),
  (32, (.sipush 400, 35, 0, 0, (.int 400), [], [])),
  (35, (.if_icmp .ge 54, 38, 89, 0, .null, [], [])),
  (38, (.aload_n 0, 39, 0, 0, .null, [], [])),
  (39, (.aload_n 1, 40, 1, 0, .null, [], [])),
  (40, (.iload 6, 42, 6, 0, .null, [], [])),
  (42, (.iload_n 3, 43, 3, 0, .null, [], [])),
  (43, (.iload 4, 45, 4, 0, .null, [], [])),
  (45, (.invokevirtual 121, 48, 36, 4, .null, [], [2422, 2423, 2500, 110, 2501])),
  (48, (.istore 8, 50, 8, 0, .null, [], [])),
  (50, (.iload 5, 52, 5, 0, .null, [], [])),
  (52, (.iconst (-1), 53, 0, 0, (.int (-1)), [], [])),
  (53, (.if_icmp .ne 8, 56, 61, 0, .null, [], [])),
  (56, (.iload 8, 58, 8, 0, .null, [], [])),
  (58, (.goto 12, 61, 70, 0, .null, [], [])),
  (61, (.aload_n 0, 62, 0, 0, .null, [], [])),
  (62, (.iconst 5, 63, 0, 0, (.int 5), [], [])),
  (63, (.iload 8, 65, 8, 0, .null, [], [])),
  (65, (.iload 5, 67, 5, 0, .null, [], [])),
  (67, (.invokevirtual 64, 70, 37, 3, .null, [], [2410, 2411, 2412, 110, 2413])),
  (70, (.istore 5, 72, 5, 0, .null, [], [])),
  (72, (.aload_n 0, 73, 0, 0, .null, [], [])),
  (73, (.getfield 21, 76, 4, 3, (.int 3), [], [320])),
  (76, (.iload 6, 78, 6, 0, .null, [], [])),
  (78, (.invokestatic 117, 81, 38, 2, .null, [], [2415, 2416, 110, 2417])),
  (81, (.istore 6, 83, 6, 0, .null, [], [])),
  (83, (.iinc 7 1, 86, 7, 0, (.int 1), [], [])),
  (86, (.goto (-61), 89, 25, 0, .null, [], [])),
  (89, (.iload 5, 91, 5, 0, .null, [], [])),
  (91, (.ireturn, 92, 0, 0, .null, [], []))]
/-- yX4_writeChoice -/
def zc_36 : List (Nat × zE) := [(0, (.iload_n 3, 1, 3, 0, .null, [], [])),
  (1, (.istore 5, 3, 5, 0, .null, [], [])),
  (3, (.aload_n 0, 4, 0, 0, .null, [], [])),
  (4, (.getfield 18, 7, 4, 2, (.int 3), [], [319])),
  (7, (.iload_n 2, 8, 2, 0, .null, [], [])),
  (8, (.invokestatic 117, 11, 38, 2, .null, [], [2415, 2416, 110, 2417])),
  (11, (.istore 6, 13, 6, 0, .null, [], [])),
  (13, (.iconst 0, 14, 0, 0, (.int 0), [], [])),
  (14, (.istore 7, 16, 7, 0, .null, [], [])),
  (16, (.iload 6, 18, 6, 0, .null, [], [])),
  (18, (.ifCond .lt 103, 21, 121, 0, .null, [], [])),
  (21, (.iload 7, 23, 7, 0, .null, [], [])),
  (23, (.sipush 400, 26, 0, 0, (.int 400), [], [])),
  (26, (.if_icmp .ge 95, 29, 121, 0, .null, [], [])),
  (29, (.aload_n 1, 30, 1, 0, .null, [], [])),
  (30, (.iload 6, 32, 6, 0, .null, [], [])),
  (32, (.invokevirtual 104, 35, 91, 1, .null, [], [2309, 2310, 2311, 106, 2312])),
  (35, (.istore 8, 37, 8, 0, .null, [], [])),
  (37, (.aload_n 0, 38, 0, 0, .null, [], [])),
  (38, (.getfield 11, 41, 4, 0, (.int 3), [], [317])),
  (41, (.iload 6, 43, 6, 0, .null, [], [])),
  (43, (.invokestatic 117, 46, 38, 2, .null, [], [2415, 2416, 110, 2417])),
  (46, (.istore 9, 48, 9, 0, .null, [], [])),
  (48, (.iconst 0, 49, 0, 0, (.int 0), [], [])),
  (49, (.istore 10, 51, 10, 0, .null, [], [])),
  (51, (.iload 10, 53, 10, 0, .null, [], [])),
  (53, (.iload 9, 55, 9, 0, .null, [], [])),
  (55, (.if_icmp .ge 49, 58, 104, 0, .null, [], [])),
  (58, (.iload 8, 60, 8, 0, .null, [], [])),
  (60, (.bipush 40, 62, 0, 0, (.int 40), [], [])),
  (62, (.if_icmp .ne 19, 65, 81, 0, .null, [], [])),
  (65, (.aload_n 0, 66, 0, 0, .null, [], [])),
  (66, (.aload_n 1, 67, 1, 0, .null, [], [])),
  (67, (.iload 6, 69, 6, 0, .null, [], [])),
  (69, (.iload 5, 71, 5, 0, .null, [], [])),
  (71, (.iload 4, 73, 4, 0, .null, [], [])),
  (73, (.iconst 1, 74, 0, 0, (.int 1), [], [])),
  (74, (.iadd, 75, 0, 0, .null, [], [])),
  (75, (.invokevirtual 68, 78, 35, 4, .null, [], [2418, 2419, 2420, 110, 2421])),
  (78, (.goto 18, 81, 96, 0, .null, [], [])),
  (81, (.aload_n 0, 82, 0, 0, .null, [], [])),
  (82, (.iload 8, 84, 8, 0, .null, [], [])),
  (84, (.sipush 256, 87, 0, 0, (.int 256), [], [])),
  (87, (.isub, 88, 0, 0, .null, [], [])),
  (88, (.iconst 1, 89, 0, 0, (.int 1), [], [])),
  (89, (.iadd, 90, 0, 0, .null, [], [])),
  (90, (.iload 5, 92, 5, 0, .null, [], [])),
  (92, (.iconst (-1), 93, 0, 0, (.int (-1)), [], [])),
  (93, (.invokevirtual 64, 96, 37, 3, .null, [], [2410, 2411, 2412, 110, 2413])),
  (96, (.istore 5, 98, 5, 0, .null, [], [])),
  (98, (.iinc 10 1, 101, 10, 0, (.int 1), [], [])),
  (101, (.goto (-50), 104, 51, 0, .null, [], [])),
  (104, (.aload_n 0, 105, 0, 0, .null, [], [])),
  (105, (.getfield 15, 108, 4, 1, (.int 3), [], [318])),
  (108, (.iload 6, 110, 6, 0, .null, [], [])),
  (110, (.invokestatic 117, 113, 38, 2, .null, [], [2415, 2416, 110, 2417])),
  (113, (.istore 6, 115, 6, 0, .null, [], [])),
  (115, (.iinc 7 1, 118, 7, 0, (.int 1), [], [])),
  (118, (.goto (-102), 121, 16, 0, .null, [], [])),
  (121, (.iload 5, 123, 5, 0, .null, [], [])),
  (123, (.ireturn, 124, 0, 0, .null, [], []))]
/-- yX4_addNode -/
def zc_37 : List (Nat × zE) := [(0, (.aload_n 0, 1, 0, 0, .null, [], [])),
  (1, (.getfield 59, 4, 4, 10, (.int 0), [], [2209])),
  (4, (.ifCond .lt 13, 7, 17, 0, .null, [], [])),
  (7, (.aload_n 0, 8, 0, 0, .null, [], [])),
  (8, (.getfield 59, 11, 4, 10, (.int 0), [], [2209])),
  (11, (.sipush 400, 14, 0, 0, (.int 400), [], [])),
  (14, (.if_icmp .lt 5, 17, 19, 0, .null, [], [])),
  (17, (.iconst (-1), 18, 0, 0, (.int (-1)), [], [])),
  (18, (.ireturn, 19, 0, 0, .null, [], [])),
  (19, (.aload_n 0, 20, 0, 0, .null, [], [])),
  (20, (.getfield 27, 23, 4, 5, (.int 3), [], [322])),
  (23, (.aload_n 0, 24, 0, 0, .null, [], [])),
  (24, (.getfield 59, 27, 4, 10, (.int 0), [], [2209])),
  (27, (.iload_n 1, 28, 1, 0, .null, [], [])),
  (28, (.iastore, 29, 0, 0, .null, [], [])),
  (29, (.aload_n 0, 30, 0, 0, .null, [], [])),
  (30, (.getfield 30, 33, 4, 6, (.int 3), [], [323])),
  (33, (.aload_n 0, 34, 0, 0, .null, [], [])),
  (34, (.getfield 59, 37, 4, 10, (.int 0), [], [2209])),
  (37, (.iload_n 2, 38, 2, 0, .null, [], [])),
  (38, (.iastore, 39, 0, 0, .null, [], [])),
  (39, (.aload_n 0, 40, 0, 0, .null, [], [])),
  (40, (.getfield 33, 43, 4, 7, (.int 3), [], [400])),
  (43, (.aload_n 0, 44, 0, 0, .null, [], [])),
  (44, (.getfield 59, 47, 4, 10, (.int 0), [], [2209])),
  (47, (.iload_n 3, 48, 3, 0, .null, [], [])),
  (48, (.iastore, 49, 0, 0, .null, [], [])),
  (49, (.iload_n 1, 50, 1, 0, .null, [], [])),
  (50, (.ifCond .eq 13, 53, 63, 0, .null, [], [])),
  (53, (.iload_n 1, 54, 1, 0, .null, [], [])),
  (54, (.iconst 4, 55, 0, 0, (.int 4), [], [])),
  (55, (.if_icmp .eq 8, 58, 63, 0, .null, [], [])),
  (58, (.iload_n 1, 59, 1, 0, .null, [], [])),
  (59, (.iconst 5, 60, 0, 0, (.int 5), [], [])),
  (60, (.if_icmp .ne 7, 63, 67, 0, .null, [], [])),
  (63, (.iconst 0, 64, 0, 0, (.int 0), [], [])),
  (64, (.goto 4, 67, 68, 0, .null, [], [])),
  (67, (.iconst 1, 68, 0, 0, (.int 1), [], [])),
  (68, (.istore 4, 70, 4, 0, .null, [], [])),
  (70, (.iload 4, 72, 4, 0, .null, [], [])),
  (72, (.iconst 0, 73, 0, 0, (.int 0), [], [])),
  (73, (.aload_n 0, 74, 0, 0, .null, [], [])),
  (74, (.getfield 36, 77, 4, 8, (.int 3), [], [401])),
  (77, (.iload_n 2, 78, 2, 0, .null, [], [])),
  (78, (.invokestatic 117, 81, 38, 2, .null, [], [2415, 2416, 110, 2417])),
  (81, (.invokestatic 124, 84, 272, 2, .null, [], [2414, 414, 415, 416])),
  (84, (.iadd, 85, 0, 0, .null, [], [])),
  (85, (.istore 5, 87, 5, 0, .null, [], [])),
  (87, (.iload 4, 89, 4, 0, .null, [], [])),
  (89, (.iconst 0, 90, 0, 0, (.int 0), [], [])),
  (90, (.aload_n 0, 91, 0, 0, .null, [], [])),
  (91, (.getfield 39, 94, 4, 9, (.int 3), [], [402])),
  (94, (.iload_n 2, 95, 2, 0, .null, [], [])),
  (95, (.invokestatic 117, 98, 38, 2, .null, [], [2415, 2416, 110, 2417])),
  (98, (.invokestatic 124, 101, 272, 2, .null, [], [2414, 414, 415, 416])),
  (101, (.iadd, 102, 0, 0, .null, [], [])),
  (102, (.istore 6, 104, 6, 0, .null, [], [])),
  (104, (.aload_n 0, 105, 0, 0, .null, [], [])),
  (105, (.getfield 36, 108, 4, 8, (.int 3), [], [401])),
  (108, (.aload_n 0, 109, 0, 0, .null, [], [])),
  (109, (.getfield 59, 112, 4, 10, (.int 0), [], [2209])),
  (112, (.iload_n 1, 113, 1, 0, .null, [], [])),
  (113, (.iconst 5, 114, 0, 0, (.int 5), [], [])),
  (114, (.if_icmp .ne 19, 117, 133, 0, .null, [], [])),
  (117, (.iload 5, 119, 5, 0, .null, [], [])),
  (119, (.aload_n 0, 120, 0, 0, .null, [], [])),
  (120, (.getfield 36, 123, 4, 8, (.int 3), [], [401])),
  (123, (.iload_n 3, 124, 3, 0, .null, [], [])),
  (124, (.invokestatic 117, 127, 38, 2, .null, [], [2415, 2416, 110, 2417])),
  (127, (.invokestatic 87, 130, 273, 2, .null, [], [2218, 1208, 415, 1209])),
  (130, (.goto 5, 133, 135, 0, .null, [], [])),
  (133, (.iload 5, 135, 5, 0, .null, [], [])),
  (135, (.iastore, 136, 0, 0, .null, [], [])),
  (136, (.aload_n 0, 137, 0, 0, .null, [], [])),
  (137, (.getfield 39, 140, 4, 9, (.int 3), [], [402])),
  (140, (.aload_n 0, 141, 0, 0, .null, [], [])),
  (141, (.getfield 59, 144, 4, 10, (.int 0), [], [2209])),
  (144, (.iload_n 1, 145, 1, 0, .null, [], [])),
  (145, (.iconst 5, 146, 0, 0, (.int 5), [], [])),
  (146, (.if_icmp .ne 19, 149, 165, 0, .null, [], [])),
  (149, (.iload 6, 151, 6, 0, .null, [], [])),
  (151, (.aload_n 0, 152, 0, 0, .null, [], [])),
  (152, (.getfield 39, 155, 4, 9, (.int 3), [], [402])),
  (155, (.iload_n 3, 156, 3, 0, .null, [], [])),
  (156, (.invokestatic 117, 159, 38, 2, .null, [], [2415, 2416, 110, 2417])),
  (159, (.invokestatic 124, 162, 272, 2, .null, [], [2414, 414, 415, 416])),
  (162, (.goto 5, 165, 167, 0, .null, [], [])),
  (165, (.iload 6, 167, 6, 0, .null, [], [])),
  (167, (.iastore, 168, 0, 0, .null, [], [])),
  (168, (.aload_n 0, 169, 0, 0, .null, [], [])),
  (169, (.dup, 170, 0, 0, .null, [], [])),
  (170, (.getfield 59, 173, 4, 10, (.int 0), [], [2209])),
  (173, (.iconst 1, 174, 0, 0, (.int 1), [], [])),
  (174, (.iadd, 175, 0, 0, .null, [], [])),
  (175, (.putfield 59, 178, 4, 10, (.int 0), [], [2209])),
  (178, (.aload_n 0, 179, 0, 0, .null, [], [])),
  (179, (.getfield 59, 182, 4, 10, (.int 0), [], [2209])),
  (182, (.iconst 1, 183, 0, 0, (.int 1), [], [])),
  (183, (.isub, 184, 0, 0, .null, [], [])),
  (184, (.ireturn, 185, 0, 0, .null, [], []))]
/-- yX4_get -/
def zc_38 : List (Nat × zE) := [(0, (.iload_n 1, 1, 1, 0, .null, [], [])),
  (1, (.ifCond .lt 15, 4, 16, 0, .null, [], [])),
  (4, (.iload_n 1, 5, 1, 0, .null, [], [])),
  (5, (.aload_n 0, 6, 0, 0, .null, [], [])),
  (6, (.arraylength, 7, 0, 0, .null, [], [])),
  (7, (.if_icmp .ge 9, 10, 16, 0, .null, [], [])),
  (10, (.aload_n 0, 11, 0, 0, .null, [], [])),
  (11, (.iload_n 1, 12, 1, 0, .null, [], [])),
  (12, (.iaload, 13, 0, 0, .null, [], [])),
  (13, (.goto 4, 16, 17, 0, .null, [], [])),
  (16, (.iconst (-1), 17, 0, 0, (.int (-1)), [], [])),
  (17, (.ireturn, 18, 0, 0, .null, [], []))]
/-- yX4_put -/
def zc_39 : List (Nat × zE) := [(0, (.iload_n 1, 1, 1, 0, .null, [], [])),
  (1, (.ifCond .lt 13, 4, 14, 0, .null, [], [])),
  (4, (.iload_n 1, 5, 1, 0, .null, [], [])),
  (5, (.aload_n 0, 6, 0, 0, .null, [], [])),
  (6, (.arraylength, 7, 0, 0, .null, [], [])),
  (7, (.if_icmp .ge 7, 10, 14, 0, .null, [], [])),
  (10, (.aload_n 0, 11, 0, 0, .null, [], [])),
  (11, (.iload_n 1, 12, 1, 0, .null, [], [])),
  (12, (.iload_n 2, 13, 2, 0, .null, [], [])),
  (13, (.iastore, 14, 0, 0, .null, [], [])),
  (14, (.return_, 15, 0, 0, .null, [], []))]
/-- yX5_init -/
def zc_40 : List (Nat × zE) := [(0, (.aload_n 0, 1, 0, 0, .null, [], [])),
  (1, (.invokespecial 3, 4, 9000, 0, .null, [], [501])),
  (4, (.aload_n 0, 5, 0, 0, .null, [], [])),
  (5, (.bipush 51, 7, 0, 0, (.int 51), [], [])),
  (7, (.newarray .int, 9, 0, 0, .null, [], [200])),
  (9, (.putfield 9, 12, 5, 0, (.int 3), [], [502])),
  (12, (.return_, 13, 0, 0, .null, [], []))]
def zc_41_0 : List (Nat × zE) := [(0, (.iconst 0, 1, 0, 0, (.int 0), [], [])),
  (1, (.istore 4, 3, 4, 0, .null, [], [])),
  (3, (.iload_n 2, 4, 2, 0, .null, [], [])),
  (4, (.istore 5, 6, 5, 0, .null, [], [])),
  (6, (.iload 5, 8, 5, 0, .null, [], [])),
  (8, (.ifCond .lt 306, 11, 314, 0, .null, [], [])),
  (11, (.iload 5, 13, 5, 0, .null, [], [])),
  (13, (.aload_n 1, 14, 1, 0, .null, [], [])),
  (14, (.arraylength, 15, 0, 0, .null, [], [])),
  (15, (.if_icmp .ge 299, 18, 314, 0, .null, [], [])),
  (18, (.aload_n 1, 19, 1, 0, .null, [], [])),
  (19, (.iload 5, 21, 5, 0, .null, [], [])),
  (21, (.iaload, 22, 0, 0, .null, [], [])),
  (22, (.bipush 16, 24, 0, 0, (.int 16), [], [])),
  (24, (.irem, 25, 0, 0, .null, [], [])),
  (25, (.istore 6, 27, 6, 0, .null, [], [])),
  (27, (.aload_n 1, 28, 1, 0, .null, [], [])),
  (28, (.iload 5, 30, 5, 0, .null, [], [])),
  (30, (.iaload, 31, 0, 0, .null, [], [])),
  (31, (.bipush 16, 33, 0, 0, (.int 16), [], [])),
  (33, (.idiv, 34, 0, 0, .null, [], [])),
  (34, (.istore 7, 36, 7, 0, .null, [], [])),
  (36, (.iload 6, 38, 6, 0, .null, [], [])),
  (38, (.ifCond .eq 9, 41, 47, 0, .null, [], [])),
  (41, (.iload 6, 43, 6, 0, .null, [], [])),
  (43, (.iconst 1, 44, 0, 0, (.int 1), [], [])),
  (44, (.if_icmp .ne 61, 47, 105, 0, .null, [], [])),
  (47, (.iload 4, 49, 4, 0, .null, [], [])),
  (49, (.aload_n 0, 50, 0, 0, .null, [], [])),
  (50, (.getfield 9, 53, 5, 0, (.int 3), [], [502])),
  (53, (.arraylength, 54, 0, 0, .null, [], [])),
  (54, (.if_icmp .ge 21, 57, 75, 0, .null, [], [])),
  (57, (.iload 7, 59, 7, 0, .null, [], [])),
  (59, (.ifCond .lt 16, 62, 75, 0, .null, [], [])),
  (62, (.iload 6, 64, 6, 0, .null, [], [])),
  (64, (.iconst 1, 65, 0, 0, (.int 1), [], [])),
  (65, (.if_icmp .ne 13, 68, 78, 0, .null, [], [])),
  (68, (.iload 7, 70, 7, 0, .null, [], [])),
  (70, (.aload_n 3, 71, 3, 0, .null, [], [])),
  (71, (.arraylength, 72, 0, 0, .null, [], [])),
  (72, (.if_icmp .lt 6, 75, 78, 0, .null, [], [])),
  (75, (.ldc 15, 77, 0, 0, (.int (-2000000000)), [], [1219])),
  (77, (.ireturn, 78, 0, 0, .null, [], [])),
  (78, (.aload_n 0, 79, 0, 0, .null, [], [])),
  (79, (.getfield 9, 82, 5, 0, (.int 3), [], [502])),
  (82, (.iload 4, 84, 4, 0, .null, [], [])),
  (84, (.iload 6, 86, 6, 0, .null, [], [])),
  (86, (.ifCond .ne 8, 89, 94, 0, .null, [], [])),
  (89, (.iload 7, 91, 7, 0, .null, [], [])),
  (91, (.goto 7, 94, 98, 0, .null, [], [])),
  (94, (.aload_n 3, 95, 3, 0, .null, [], [])),
  (95, (.iload 7, 97, 7, 0, .null, [], [])),
  (97, (.iaload, 98, 0, 0, .null, [], [])),
  (98, (.iastore, 99, 0, 0, .null, [], [])),
  (99, (.iinc 4 1, 102, 4, 0, (.int 1), [], [])),
  (102, (.goto 206, 105, 308, 0, .null, [], [])),
  (105, (.iload 4, 107, 4, 0, .null, [], [])),
  (107, (.iconst 1, 108, 0, 0, (.int 1), [], [])),
  (108, (.if_icmp .ge 6, 111, 114, 0, .null, [], [])),
  (111, (.ldc 15, 113, 0, 0, (.int (-2000000000)), [], [1219])),
  (113, (.ireturn, 114, 0, 0, .null, [], [])),
  (114, (.iload 6, 116, 6, 0, .null, [], [])),
  (116, (.bipush 13, 118, 0, 0, (.int 13), [], [])),
  (118, (.if_icmp .ne 13, 121, 131, 0, .null, [], [])),
  (121, (.aload_n 0, 122, 0, 0, .null, [], [])),
  (122, (.getfield 9, 125, 5, 0, (.int 3), [], [502])),
  (125, (.iload 4, 127, 4, 0, .null, [], [])),
  (127, (.iconst 1, 128, 0, 0, (.int 1), [], [])),
  (128, (.isub, 129, 0, 0, .null, [], [])),
  (129, (.iaload, 130, 0, 0, .null, [], [])),
  (130, (.ireturn, 131, 0, 0, .null, [], [])),
  (131, (.iload 6, 133, 6, 0, .null, [], [])),
  (133, (.bipush 10, 135, 0, 0, (.int 10), [], [])),
  (135, (.if_icmp .ne 26, 138, 161, 0, .null, [], [])),
  (138, (.aload_n 0, 139, 0, 0, .null, [], [])),
  (139, (.getfield 9, 142, 5, 0, (.int 3), [], [502])),
  (142, (.iload 4, 144, 4, 0, .null, [], [])),
  (144, (.iconst 1, 145, 0, 0, (.int 1), [], [])),
  (145, (.isub, 146, 0, 0, .null, [], [])),
  (146, (.iconst 1, 147, 0, 0, (.int 1), [], [])),
  (147, (.aload_n 0, 148, 0, 0, .null, [], [])),
  (148, (.getfield 9, 151, 5, 0, (.int 3), [], [502])),
  (151, (.iload 4, 153, 4, 0, .null, [], [])),
  (153, (.iconst 1, 154, 0, 0, (.int 1), [], [])),
  (154, (.isub, 155, 0, 0, .null, [], [])),
  (155, (.iaload, 156, 0, 0, .null, [], [])),
  (156, (.isub, 157, 0, 0, .null, [], [])),
  (157, (.iastore, 158, 0, 0, .null, [], [])),
  (158, (.goto 150, 161, 308, 0, .null, [], [])),
  (161, (.iload 6, 163, 6, 0, .null, [], [])),
  (163, (.bipush 11, 165, 0, 0, (.int 11), [], [])),
  (165, (.if_icmp .eq 10, 168, 175, 0, .null, [], [])),
  (168, (.iload 6, 170, 6, 0, .null, [], [])),
  (170, (.bipush 12, 172, 0, 0, (.int 12), [], [])),
  (172, (.if_icmp .ne 74, 175, 246, 0, .null, [], [])),
  (175, (.aload_n 0, 176, 0, 0, .null, [], [])),
  (176, (.getfield 9, 179, 5, 0, (.int 3), [], [502])),
  (179, (.iload 4, 181, 4, 0, .null, [], [])),
  (181, (.iconst 1, 182, 0, 0, (.int 1), [], [])),
  (182, (.isub, 183, 0, 0, .null, [], [])),
  (183, (.iaload, 184, 0, 0, .null, [], [])),
  (184, (.iload 6, 186, 6, 0, .null, [], [])),
  (186, (.bipush 11, 188, 0, 0, (.int 11), [], [])),
  (188, (.if_icmp .ne 7, 191, 195, 0, .null, [], [])),
  (191, (.iconst 1, 192, 0, 0, (.int 1), [], [])),
  (192, (.goto 4, 195, 196, 0, .null, [], [])),
  (195, (.iconst 0, 196, 0, 0, (.int 0), [], [])),
  (196, (.if_icmp .ne 7, 199, 203, 0, .null, [], [])),
  (199, (.iconst 1, 200, 0, 0, (.int 1), [], [])),
  (200, (.goto 4, 203, 204, 0, .null, [], [])),
  (203, (.iconst 0, 204, 0, 0, (.int 0), [], [])),
  (204, (.istore 8, 206, 8, 0, .null, [], [])),
  (206, (.iload 8, 208, 8, 0, .null, [], [])),
  (208, (.ifCond .eq 8, 211, 216, 0, .null, [], [])),
  (211, (.iload 4, 213, 4, 0, .null, [], [])),
  (213, (.goto 7, 216, 220, 0, .null, [], [])),
  (216, (.iload 4, 218, 4, 0, .null, [], [])),
  (218, (.iconst 1, 219, 0, 0, (.int 1), [], [])),
  (219, (.isub, 220, 0, 0, .null, [], [])),
  (220, (.istore 4, 222, 4, 0, .null, [], []))]
def zc_41_1 : List (Nat × zE) := [(222, (.iload 8, 224, 8, 0, .null, [], [])),
  (224, (.ifCond .eq 15, 227, 239, 0, .null, [], [])),
  (227, (.iload 5, 229, 5, 0, .null, [], [])),
  (229, (.iload 7, 231, 7, 0, .null, [], [])),
  (231, (.iconst 1, 232, 0, 0, (.int 1), [], [])),
  (232, (.isub, 233, 0, 0, .null, [], [])),
  (233, (.invokestatic 16, 236, 272, 2, .null, [], [1220, 414, 415, 416])),
  (236, (.goto 5, 239, 241, 0, .null, [], [])),
  (239, (.iload 5, 241, 5, 0, .null, [], [])),
  (241, (.istore 5, 243, 5, 0, .null, [], [])),
  (243, (.goto 65, 246, 308, 0, .null, [], [])),
  (246, (.iload 4, 248, 4, 0, .null, [], [])),
  (248, (.iconst 2, 249, 0, 0, (.int 2), [], [])),
  (249, (.if_icmp .ge 8, 252, 257, 0, .null, [], [])),
  (252, (.ldc 15, 254, 0, 0, (.int (-2000000000)), [], [1219])),
  (254, (.goto 28, 257, 282, 0, .null, [], [])),
  (257, (.iload 6, 259, 6, 0, .null, [], [])),
  (259, (.aload_n 0, 260, 0, 0, .null, [], [])),
  (260, (.getfield 9, 263, 5, 0, (.int 3), [], [502])),
  (263, (.iload 4, 265, 4, 0, .null, [], [])),
  (265, (.iconst 2, 266, 0, 0, (.int 2), [], [])),
  (266, (.isub, 267, 0, 0, .null, [], [])),
  (267, (.iaload, 268, 0, 0, .null, [], [])),
  (268, (.i2l, 269, 0, 0, .null, [], [])),
  (269, (.aload_n 0, 270, 0, 0, .null, [], [])),
  (270, (.getfield 9, 273, 5, 0, (.int 3), [], [502])),
  (273, (.iload 4, 275, 4, 0, .null, [], [])),
  (275, (.iconst 1, 276, 0, 0, (.int 1), [], [])),
  (276, (.isub, 277, 0, 0, .null, [], [])),
  (277, (.iaload, 278, 0, 0, .null, [], [])),
  (278, (.i2l, 279, 0, 0, .null, [], [])),
  (279, (.invokestatic 22, 282, 42, 3, .null, [], [1221, 1222, 118, 1223])),
  (282, (.istore 8, 284, 8, 0, .null, [], [])),
  (284, (.iload 8, 286, 8, 0, .null, [], [])),
  (286, (.ldc 15, 288, 0, 0, (.int (-2000000000)), [], [1219])),
  (288, (.if_icmp .ne 6, 291, 294, 0, .null, [], [])),
  (291, (.ldc 15, 293, 0, 0, (.int (-2000000000)), [], [1219])),
  (293, (.ireturn, 294, 0, 0, .null, [], [])),
  (294, (.iinc 4 (-1), 297, 4, 0, (.int (-1)), [], [])),
  (297, (.aload_n 0, 298, 0, 0, .null, [], [])),
  (298, (.getfield 9, 301, 5, 0, (.int 3), [], [502])),
  (301, (.iload 4, 303, 4, 0, .null, [], [])),
  (303, (.iconst 1, 304, 0, 0, (.int 1), [], [])),
  (304, (.isub, 305, 0, 0, .null, [], [])),
  (305, (.iload 8, 307, 8, 0, .null, [], [])),
  (307, (.iastore, 308, 0, 0, .null, [], [])),
  (308, (.iinc 5 1, 311, 5, 0, (.int 1), [], [])),
  (311, (.goto (-305), 314, 6, 0, .null, [], [])),
  (314, (.ldc 15, 316, 0, 0, (.int (-2000000000)), [], [1219])),
  (316, (.ireturn, 317, 0, 0, .null, [], []))]
/-- yX5_reckon -/
def zc_41 : List (Nat × zE) := zc_41_0 ++ zc_41_1
/-- yX5_combine -/
def zc_42 : List (Nat × zE) := [(0, (.lload_n 3, 1, 3, 0, .null, [], [])),
  (1, (.lconst 0, 2, 0, 0, (.long 0), [], [])),
  (2, (.lcmp, 3, 0, 0, .null, [], [])),
  (3, (.ifCond .ne 17, 6, 20, 0, .null, [], [])),
  (6, (.iload_n 0, 7, 0, 0, .null, [], [])),
  (7, (.iconst 5, 8, 0, 0, (.int 5), [], [])),
  (8, (.if_icmp .eq 9, 11, 17, 0, .null, [], [])),
  (11, (.iload_n 0, 12, 0, 0, .null, [], [])),
  (12, (.bipush 6, 14, 0, 0, (.int 6), [], [])),
  (14, (.if_icmp .ne 6, 17, 20, 0, .null, [], [])),
  (17, (.ldc 15, 19, 0, 0, (.int (-2000000000)), [], [1219])),
  (19, (.ireturn, 20, 0, 0, .null, [], [])),
  (20, (.iload_n 0, 21, 0, 0, .null, [], [])),
  (21, (.tableswitch 115 2 8 #[43, 51, 59, 67, 75, 83, 99], 64, 136, 0, .null, [(2, 64), (3, 72), (4, 80), (5, 88), (6, 96), (7, 104), (8, 120)], [])),
  (64, (.lload_n 1, 65, 1, 0, .null, [], [])),
  (65, (.lload_n 3, 66, 3, 0, .null, [], [])),
  (66, (.ladd, 67, 0, 0, .null, [], [])),
  (67, (.lstore 5, 69, 5, 0, .null, [], [])),
  (69, (.goto 80, 72, 149, 0, .null, [], [])),
  (72, (.lload_n 1, 73, 1, 0, .null, [], [])),
  (73, (.lload_n 3, 74, 3, 0, .null, [], [])),
  (74, (.lsub, 75, 0, 0, .null, [], [])),
  (75, (.lstore 5, 77, 5, 0, .null, [], [])),
  (77, (.goto 72, 80, 149, 0, .null, [], [])),
  (80, (.lload_n 1, 81, 1, 0, .null, [], [])),
  (81, (.lload_n 3, 82, 3, 0, .null, [], [])),
  (82, (.lmul, 83, 0, 0, .null, [], [])),
  (83, (.lstore 5, 85, 5, 0, .null, [], [])),
  (85, (.goto 64, 88, 149, 0, .null, [], [])),
  (88, (.lload_n 1, 89, 1, 0, .null, [], [])),
  (89, (.lload_n 3, 90, 3, 0, .null, [], [])),
  (90, (.ldiv, 91, 0, 0, .null, [], [])),
  (91, (.lstore 5, 93, 5, 0, .null, [], [])),
  (93, (.goto 56, 96, 149, 0, .null, [], [])),
  (96, (.lload_n 1, 97, 1, 0, .null, [], [])),
  (97, (.lload_n 3, 98, 3, 0, .null, [], [])),
  (98, (.lrem, 99, 0, 0, .null, [], [])),
  (99, (.lstore 5, 101, 5, 0, .null, [], [])),
  (101, (.goto 48, 104, 149, 0, .null, [], [])),
  (104, (.lload_n 1, 105, 1, 0, .null, [], [])),
  (105, (.lload_n 3, 106, 3, 0, .null, [], [])),
  (106, (.lcmp, 107, 0, 0, .null, [], [])),
  (107, (.ifCond .ge 7, 110, 114, 0, .null, [], [])),
  (110, (.lconst 1, 111, 0, 0, (.long 1), [], [])),
  (111, (.goto 4, 114, 115, 0, .null, [], [])),
  (114, (.lconst 0, 115, 0, 0, (.long 0), [], [])),
  (115, (.lstore 5, 117, 5, 0, .null, [], [])),
  (117, (.goto 32, 120, 149, 0, .null, [], [])),
  (120, (.lload_n 1, 121, 1, 0, .null, [], [])),
  (121, (.lload_n 3, 122, 3, 0, .null, [], [])),
  (122, (.lcmp, 123, 0, 0, .null, [], [])),
  (123, (.ifCond .le 7, 126, 130, 0, .null, [], [])),
  (126, (.lconst 1, 127, 0, 0, (.long 1), [], [])),
  (127, (.goto 4, 130, 131, 0, .null, [], [])),
  (130, (.lconst 0, 131, 0, 0, (.long 0), [], [])),
  (131, (.lstore 5, 133, 5, 0, .null, [], [])),
  (133, (.goto 16, 136, 149, 0, .null, [], [])),
  (136, (.lload_n 1, 137, 1, 0, .null, [], [])),
  (137, (.lload_n 3, 138, 3, 0, .null, [], [])),
  (138, (.lcmp, 139, 0, 0, .null, [], [])),
  (139, (.ifCond .ne 7, 142, 146, 0, .null, [], [])),
  (142, (.lconst 1, 143, 0, 0, (.long 1), [], [])),
  (143, (.goto 4, 146, 147, 0, .null, [], [])),
  (146, (.lconst 0, 147, 0, 0, (.long 0), [], [])),
  (147, (.lstore 5, 149, 5, 0, .null, [], [])),
  (149, (.lload 5, 151, 5, 0, .null, [], [])),
  (151, (.ldc2_w 26, 154, 0, 0, (.long (-1000000000)), [], [1300])),
  (154, (.lcmp, 155, 0, 0, .null, [], [])),
  (155, (.ifCond .lt 12, 158, 167, 0, .null, [], [])),
  (158, (.lload 5, 160, 5, 0, .null, [], [])),
  (160, (.ldc2_w 28, 163, 0, 0, (.long 1000000000), [], [1301])),
  (163, (.lcmp, 164, 0, 0, .null, [], [])),
  (164, (.ifCond .le 8, 167, 172, 0, .null, [], [])),
  (167, (.ldc 15, 169, 0, 0, (.int (-2000000000)), [], [1219])),
  (169, (.goto 6, 172, 175, 0, .null, [], [])),
  (172, (.lload 5, 174, 5, 0, .null, [], [])),
  (174, (.l2i, 175, 0, 0, .null, [], [])),
  (175, (.ireturn, 176, 0, 0, .null, [], []))]
/-- yX6_init -/
def zc_43 : List (Nat × zE) := [(0, (.aload_n 0, 1, 0, 0, .null, [], [])),
  (1, (.invokespecial 3, 4, 9000, 0, .null, [], [505])),
  (4, (.aload_n 0, 5, 0, 0, .null, [], [])),
  (5, (.new 9, 8, 5, 0, .null, [], [506, 117, 118])),
  (8, (.dup, 9, 0, 0, .null, [], [])),
  (9, (.invokespecial 11, 12, 40, 0, .null, [], [88888, 423, 118, 500])),
  (12, (.putfield 12, 15, 6, 0, (.int 3), [], [507])),
  (15, (.aload_n 0, 16, 0, 0, .null, [], [])),
  (16, (.bipush 8, 18, 0, 0, (.int 8), [], [])),
  (18, (.newarray .int, 20, 0, 0, .null, [], [200])),
  (20, (.putfield 18, 23, 6, 1, (.int 3), [], [508])),
  (23, (.aload_n 0, 24, 0, 0, .null, [], [])),
  (24, (.iconst 3, 25, 0, 0, (.int 3), [], [])),
  (25, (.newarray .int, 27, 0, 0, .null, [], [200])),
  (27, (.putfield 22, 30, 6, 2, (.int 3), [], [509])),
  (30, (.aload_n 0, 31, 0, 0, .null, [], [])),
  (31, (.bipush 60, 33, 0, 0, (.int 60), [], [])),
  (33, (.newarray .int, 35, 0, 0, .null, [], [200])),
  (35, (.putfield 25, 38, 6, 3, (.int 3), [], [510])),
  (38, (.aload_n 0, 39, 0, 0, .null, [], [])),
  (39, (.bipush 60, 41, 0, 0, (.int 60), [], [])),
  (41, (.newarray .long, 43, 1, 0, .null, [], [202])),
  (43, (.putfield 28, 46, 6, 4, (.int 3), [], [511])),
  (46, (.aload_n 0, 47, 0, 0, .null, [], [])),
  (47, (.sipush 400, 50, 0, 0, (.int 400), [], [])),
  (50, (.newarray .int, 52, 0, 0, .null, [], [200])),
  (52, (.putfield 32, 55, 6, 5, (.int 3), [], [512])),
  (55, (.aload_n 0, 56, 0, 0, .null, [], [])),
  (56, (.sipush 400, 59, 0, 0, (.int 400), [], [])),
  (59, (.newarray .long, 61, 1, 0, .null, [], [202])),
  (61, (.putfield 35, 64, 6, 6, (.int 3), [], [513])),
  (64, (.aload_n 0, 65, 0, 0, .null, [], [])),
  (65, (.sipush 400, 68, 0, 0, (.int 400), [], [])),
  (68, (.newarray .long, 70, 1, 0, .null, [], [202])),
  (70, (.putfield 38, 73, 6, 7, (.int 3), [], [514])),
  (73, (.return_, 74, 0, 0, .null, [], []))]
/-- yX6_lookAt -/
def zc_44 : List (Nat × zE) := [(0, (.aload_n 0, 1, 0, 0, .null, [], [])),
  (1, (.aload_n 1, 2, 1, 0, .null, [], [])),
  (2, (.getfield 41, 5, 7, 6, (.int 0), [], [1112])),
  (5, (.putfield 47, 8, 6, 8, (.int 0), [], [1113])),
  (8, (.aload_n 0, 9, 0, 0, .null, [], [])),
  (9, (.getfield 22, 12, 6, 2, (.int 3), [], [509])),
  (12, (.iconst 0, 13, 0, 0, (.int 0), [], [])),
  (13, (.invokestatic 48, 16, 277, 2, .null, [], [1115, 1116, 1117, 1118])),
  (16, (.aload_n 0, 17, 0, 0, .null, [], [])),
  (17, (.iconst 1, 18, 0, 0, (.int 1), [], [])),
  (18, (.putfield 54, 21, 6, 9, (.int 0), [], [1114])),
  (21, (.aload_n 0, 22, 0, 0, .null, [], [])),
  (22, (.getfield 18, 25, 6, 1, (.int 3), [], [508])),
  (25, (.iconst 5, 26, 0, 0, (.int 5), [], [])),
  (26, (.aload_n 0, 27, 0, 0, .null, [], [])),
  (27, (.getfield 47, 30, 6, 8, (.int 0), [], [1113])),
  (30, (.iastore, 31, 0, 0, .null, [], [])),
  (31, (.aload_n 0, 32, 0, 0, .null, [], [])),
  (32, (.getfield 18, 35, 6, 1, (.int 3), [], [508])),
  (35, (.bipush 6, 37, 0, 0, (.int 6), [], [])),
  (37, (.aload_n 1, 38, 1, 0, .null, [], [])),
  (38, (.iconst 0, 39, 0, 0, (.int 0), [], [])),
  (39, (.invokevirtual 57, 42, 70, 1, .null, [], [1119, 1120, 1121, 14, 1122])),
  (42, (.iastore, 43, 0, 0, .null, [], [])),
  (43, (.aload_n 0, 44, 0, 0, .null, [], [])),
  (44, (.getfield 18, 47, 6, 1, (.int 3), [], [508])),
  (47, (.bipush 7, 49, 0, 0, (.int 7), [], [])),
  (49, (.aload_n 1, 50, 1, 0, .null, [], [])),
  (50, (.iconst 2, 51, 0, 0, (.int 2), [], [])),
  (51, (.invokevirtual 57, 54, 70, 1, .null, [], [1119, 1120, 1121, 14, 1122])),
  (54, (.iastore, 55, 0, 0, .null, [], [])),
  (55, (.iconst 0, 56, 0, 0, (.int 0), [], [])),
  (56, (.istore_n 3, 57, 3, 0, .null, [], [])),
  (57, (.iload_n 3, 58, 3, 0, .null, [], [])),
  (58, (.aload_n 0, 59, 0, 0, .null, [], [])),
  (59, (.getfield 47, 62, 6, 8, (.int 0), [], [1113])),
  (62, (.if_icmp .ge 108, 65, 170, 0, .null, [], [])),
  (65, (.iload_n 3, 66, 3, 0, .null, [], [])),
  (66, (.bipush 20, 68, 0, 0, (.int 20), [], [])),
  (68, (.if_icmp .ge 102, 71, 170, 0, .null, [], [])),
  (71, (.aload_n 0, 72, 0, 0, .null, [], [])),
  (72, (.dup, 73, 0, 0, .null, [], [])),
  (73, (.getfield 54, 76, 6, 9, (.int 0), [], [1114])),
  (76, (.aload_n 1, 77, 1, 0, .null, [], [])),
  (77, (.iload_n 3, 78, 3, 0, .null, [], [])),
  (78, (.iconst 1, 79, 0, 0, (.int 1), [], [])),
  (79, (.invokevirtual 61, 82, 67, 2, .null, [], [1123, 1100, 1101, 14, 1102])),
  (82, (.iload_n 3, 83, 3, 0, .null, [], [])),
  (83, (.iconst 1, 84, 0, 0, (.int 1), [], [])),
  (84, (.iadd, 85, 0, 0, .null, [], [])),
  (85, (.ishl, 86, 0, 0, .null, [], [])),
  (86, (.ior, 87, 0, 0, .null, [], [])),
  (87, (.putfield 54, 90, 6, 9, (.int 0), [], [1114])),
  (90, (.aload_n 0, 91, 0, 0, .null, [], [])),
  (91, (.getfield 18, 94, 6, 1, (.int 3), [], [508])),
  (94, (.iconst 0, 95, 0, 0, (.int 0), [], [])),
  (95, (.iload_n 3, 96, 3, 0, .null, [], [])),
  (96, (.iastore, 97, 0, 0, .null, [], [])),
  (97, (.aload_n 0, 98, 0, 0, .null, [], [])),
  (98, (.getfield 18, 101, 6, 1, (.int 3), [], [508])),
  (101, (.iconst 1, 102, 0, 0, (.int 1), [], [])),
  (102, (.aload_n 1, 103, 1, 0, .null, [], [])),
  (103, (.iload_n 3, 104, 3, 0, .null, [], [])),
  (104, (.iconst 0, 105, 0, 0, (.int 0), [], [])),
  (105, (.invokevirtual 61, 108, 67, 2, .null, [], [1123, 1100, 1101, 14, 1102])),
  (108, (.iastore, 109, 0, 0, .null, [], [])),
  (109, (.aload_n 0, 110, 0, 0, .null, [], [])),
  (110, (.getfield 18, 113, 6, 1, (.int 3), [], [508])),
  (113, (.iconst 3, 114, 0, 0, (.int 3), [], [])),
  (114, (.aload_n 1, 115, 1, 0, .null, [], [])),
  (115, (.iload_n 3, 116, 3, 0, .null, [], [])),
  (116, (.iconst 1, 117, 0, 0, (.int 1), [], [])),
  (117, (.invokevirtual 61, 120, 67, 2, .null, [], [1123, 1100, 1101, 14, 1102])),
  (120, (.iastore, 121, 0, 0, .null, [], [])),
  (121, (.aload_n 0, 122, 0, 0, .null, [], [])),
  (122, (.getfield 18, 125, 6, 1, (.int 3), [], [508])),
  (125, (.iconst 4, 126, 0, 0, (.int 4), [], [])),
  (126, (.aload_n 1, 127, 1, 0, .null, [], [])),
  (127, (.iload_n 3, 128, 3, 0, .null, [], [])),
  (128, (.iconst 2, 129, 0, 0, (.int 2), [], [])),
  (129, (.invokevirtual 61, 132, 67, 2, .null, [], [1123, 1100, 1101, 14, 1102])),
  (132, (.iastore, 133, 0, 0, .null, [], [])),
  (133, (.iconst 0, 134, 0, 0, (.int 0), [], [])),
  (134, (.istore 4, 136, 4, 0, .null, [], [])),
  (136, (.iload 4, 138, 4, 0, .null, [], [])),
  (138, (.iconst 3, 139, 0, 0, (.int 3), [], [])),
  (139, (.if_icmp .ge 25, 142, 164, 0, .null, [], [])),
  (142, (.aload_n 0, 143, 0, 0, .null, [], [])),
  (143, (.getfield 18, 146, 6, 1, (.int 3), [], [508])),
  (146, (.iconst 2, 147, 0, 0, (.int 2), [], [])),
  (147, (.iload 4, 149, 4, 0, .null, [], [])),
  (149, (.iastore, 150, 0, 0, .null, [], [])),
  (150, (.aload_n 0, 151, 0, 0, .null, [], [])),
  (151, (.aload_n 2, 152, 2, 0, .null, [], [])),
  (152, (.iload_n 3, 153, 3, 0, .null, [], [])),
  (153, (.iload 4, 155, 4, 0, .null, [], [])),
  (155, (.invokevirtual 65, 158, 45, 3, .null, [], [1200, 1201, 1202, 122, 1203])),
  (158, (.iinc 4 1, 161, 4, 0, (.int 1), [], [])),
  (161, (.goto (-25), 164, 136, 0, .null, [], [])),
  (164, (.iinc 3 1, 167, 3, 0, (.int 1), [], [])),
  (167, (.goto (-110), 170, 57, 0, .null, [], [])),
  (170, (.return_, 171, 0, 0, .null, [], []))]
def zc_45_0 : List (Nat × zE) := [(0, (.iload_n 3, 1, 3, 0, .null, [], [])),
  (1, (.iconst 2, 2, 0, 0, (.int 2), [], [])),
  (2, (.if_icmp .eq 27, 5, 29, 0, .null, [], [])),
  (5, (.aload_n 0, 6, 0, 0, .null, [], [])),
  (6, (.getfield 18, 9, 6, 1, (.int 3), [], [508])),
  (9, (.iconst 1, 10, 0, 0, (.int 1), [], [])),
  (10, (.iaload, 11, 0, 0, .null, [], [])),
  (11, (.iload_n 3, 12, 3, 0, .null, [], [])),
  (12, (.if_icmp .eq 13, 15, 25, 0, .null, [], [])),
  (15, (.aload_n 0, 16, 0, 0, .null, [], [])),
  (16, (.getfield 18, 19, 6, 1, (.int 3), [], [508])),
  (19, (.iconst 1, 20, 0, 0, (.int 1), [], [])),
  (20, (.iaload, 21, 0, 0, .null, [], [])),
  (21, (.iconst 2, 22, 0, 0, (.int 2), [], [])),
  (22, (.if_icmp .ne 7, 25, 29, 0, .null, [], [])),
  (25, (.iconst 1, 26, 0, 0, (.int 1), [], [])),
  (26, (.goto 4, 29, 30, 0, .null, [], [])),
  (29, (.iconst 0, 30, 0, 0, (.int 0), [], [])),
  (30, (.istore 4, 32, 4, 0, .null, [], [])),
  (32, (.iload_n 3, 33, 3, 0, .null, [], [])),
  (33, (.iconst 2, 34, 0, 0, (.int 2), [], [])),
  (34, (.if_icmp .ne 31, 37, 65, 0, .null, [], [])),
  (37, (.aload_n 0, 38, 0, 0, .null, [], [])),
  (38, (.getfield 18, 41, 6, 1, (.int 3), [], [508])),
  (41, (.iconst 4, 42, 0, 0, (.int 4), [], [])),
  (42, (.iaload, 43, 0, 0, .null, [], [])),
  (43, (.iconst 1, 44, 0, 0, (.int 1), [], [])),
  (44, (.if_icmp .ne 17, 47, 61, 0, .null, [], [])),
  (47, (.iload_n 2, 48, 2, 0, .null, [], [])),
  (48, (.iconst 1, 49, 0, 0, (.int 1), [], [])),
  (49, (.iadd, 50, 0, 0, .null, [], [])),
  (50, (.aload_n 0, 51, 0, 0, .null, [], [])),
  (51, (.getfield 47, 54, 6, 8, (.int 0), [], [1113])),
  (54, (.if_icmp .ge 7, 57, 61, 0, .null, [], [])),
  (57, (.iconst 1, 58, 0, 0, (.int 1), [], [])),
  (58, (.goto 9, 61, 67, 0, .null, [], [])),
  (61, (.iconst 0, 62, 0, 0, (.int 0), [], [])),
  (62, (.goto 5, 65, 67, 0, .null, [], [])),
  (65, (.iload 4, 67, 4, 0, .null, [], [])),
  (67, (.istore 5, 69, 5, 0, .null, [], [])),
  (69, (.iconst 0, 70, 0, 0, (.int 0), [], [])),
  (70, (.istore 6, 72, 6, 0, .null, [], [])),
  (72, (.iload 4, 74, 4, 0, .null, [], [])),
  (74, (.ifCond .eq 7, 77, 81, 0, .null, [], [])),
  (77, (.iconst 0, 78, 0, 0, (.int 0), [], [])),
  (78, (.goto 4, 81, 82, 0, .null, [], [])),
  (81, (.iconst 1, 82, 0, 0, (.int 1), [], [])),
  (82, (.istore 7, 84, 7, 0, .null, [], [])),
  (84, (.aload_n 1, 85, 1, 0, .null, [], [])),
  (85, (.ifnonnull 7, 88, 92, 0, .null, [], [])),
  (88, (.iconst 0, 89, 0, 0, (.int 0), [], [])),
  (89, (.goto 7, 92, 96, 0, .null, [], [])),
  (92, (.aload_n 1, 93, 1, 0, .null, [], [])),
  (93, (.getfield 69, 96, 1, 2, (.int 0), [], [1204])),
  (96, (.istore 8, 98, 8, 0, .null, [], [])),
  (98, (.iconst 0, 99, 0, 0, (.int 0), [], [])),
  (99, (.istore 9, 101, 9, 0, .null, [], [])),
  (101, (.iload 9, 103, 9, 0, .null, [], [])),
  (103, (.iload 8, 105, 8, 0, .null, [], [])),
  (105, (.if_icmp .ge 152, 108, 257, 0, .null, [], [])),
  (108, (.aload_n 1, 109, 1, 0, .null, [], [])),
  (109, (.ifnull 148, 112, 257, 0, .null, [], [])),
  (112, (.aload_n 1, 113, 1, 0, .null, [], [])),
  (113, (.iload 9, 115, 9, 0, .null, [], [])),
  (115, (.iconst 4, 116, 0, 0, (.int 4), [], [])),
  (116, (.invokevirtual 74, 119, 14, 2, .null, [], [1211, 1212, 1213, 408, 1214])),
  (119, (.istore 10, 121, 10, 0, .null, [], [])),
  (121, (.iload 10, 123, 10, 0, .null, [], [])),
  (123, (.iconst (-1), 124, 0, 0, (.int (-1)), [], [])),
  (124, (.if_icmp .eq 27, 127, 151, 0, .null, [], [])),
  (127, (.aload_n 0, 128, 0, 0, .null, [], [])),
  (128, (.getfield 12, 131, 6, 0, (.int 3), [], [507])),
  (131, (.aload_n 1, 132, 1, 0, .null, [], [])),
  (132, (.getfield 75, 135, 1, 0, (.int 3), [], [1205])),
  (135, (.iload 10, 137, 10, 0, .null, [], [])),
  (137, (.aload_n 0, 138, 0, 0, .null, [], [])),
  (138, (.getfield 18, 141, 6, 1, (.int 3), [], [508])),
  (141, (.invokevirtual 78, 144, 41, 3, .null, [], [1215, 1216, 1217, 118, 1218])),
  (144, (.iconst 1, 145, 0, 0, (.int 1), [], [])),
  (145, (.if_icmp .eq 6, 148, 151, 0, .null, [], [])),
  (148, (.goto 103, 151, 251, 0, .null, [], [])),
  (151, (.aload_n 1, 152, 1, 0, .null, [], [])),
  (152, (.iload 9, 154, 9, 0, .null, [], [])),
  (154, (.iconst 0, 155, 0, 0, (.int 0), [], [])),
  (155, (.invokevirtual 74, 158, 14, 2, .null, [], [1211, 1212, 1213, 408, 1214])),
  (158, (.istore 11, 160, 11, 0, .null, [], [])),
  (160, (.iload 11, 162, 11, 0, .null, [], [])),
  (162, (.sipush 264, 165, 0, 0, (.int 264), [], [])),
  (165, (.if_icmp .ne 9, 168, 174, 0, .null, [], [])),
  (168, (.iconst 1, 169, 0, 0, (.int 1), [], [])),
  (169, (.istore 6, 171, 6, 0, .null, [], [])),
  (171, (.goto 80, 174, 251, 0, .null, [], [])),
  (174, (.iload 11, 176, 11, 0, .null, [], [])),
  (176, (.sipush 263, 179, 0, 0, (.int 263), [], [])),
  (179, (.if_icmp .ne 23, 182, 202, 0, .null, [], [])),
  (182, (.iload 5, 184, 5, 0, .null, [], [])),
  (184, (.ifCond .ne 8, 187, 192, 0, .null, [], [])),
  (187, (.iload_n 3, 188, 3, 0, .null, [], [])),
  (188, (.iconst 2, 189, 0, 0, (.int 2), [], [])),
  (189, (.if_icmp .eq 7, 192, 196, 0, .null, [], [])),
  (192, (.iconst 1, 193, 0, 0, (.int 1), [], [])),
  (193, (.goto 4, 196, 197, 0, .null, [], [])),
  (196, (.iconst 0, 197, 0, 0, (.int 0), [], [])),
  (197, (.istore 5, 199, 5, 0, .null, [], [])),
  (199, (.goto 52, 202, 251, 0, .null, [], [])),
  (202, (.aload_n 0, 203, 0, 0, .null, [], [])),
  (203, (.getfield 12, 206, 6, 0, (.int 3), [], [507])),
  (206, (.aload_n 1, 207, 1, 0, .null, [], [])),
  (207, (.getfield 75, 210, 1, 0, (.int 3), [], [1205])),
  (210, (.aload_n 1, 211, 1, 0, .null, [], [])),
  (211, (.iload 9, 213, 9, 0, .null, [], [])),
  (213, (.iconst 2, 214, 0, 0, (.int 2), [], [])),
  (214, (.invokevirtual 74, 217, 14, 2, .null, [], [1211, 1212, 1213, 408, 1214])),
  (217, (.aload_n 0, 218, 0, 0, .null, [], [])),
  (218, (.getfield 18, 221, 6, 1, (.int 3), [], [508])),
  (221, (.invokevirtual 78, 224, 41, 3, .null, [], [1215, 1216, 1217, 118, 1218])),
  (224, (.istore 12, 226, 12, 0, .null, [], [])),
  (226, (.iload 12, 228, 12, 0, .null, [], [])),
  (228, (.ldc 84, 230, 0, 0, (.int (-2000000000)), [], [1206])),
  (230, (.if_icmp .ne 8, 233, 238, 0, .null, [], []))]
def zc_45_1 : List (Nat × zE) := [(233, (.iload 7, 235, 7, 0, .null, [], [])),
  (235, (.goto 14, 238, 249, 0, .null, [], [])),
  (238, (.iconst 0, 239, 0, 0, (.int 0), [], [])),
  (239, (.bipush 99, 241, 0, 0, (.int 99), [], [])),
  (241, (.iload 12, 243, 12, 0, .null, [], [])),
  (243, (.invokestatic 85, 246, 273, 2, .null, [], [1207, 1208, 415, 1209])),
  (246, (.invokestatic 90, 249, 272, 2, .null, [], [1210, 414, 415, 416])),
  (249, (.istore 7, 251, 7, 0, .null, [], [])),
  (251, (.iinc 9 1, 254, 9, 0, (.int 1), [], [])),
  (254, (.goto (-153), 257, 101, 0, .null, [], [])),
  (257, (.iconst 3, 258, 0, 0, (.int 3), [], [])),
  (258, (.iload_n 2, 259, 2, 0, .null, [], [])),
  (259, (.imul, 260, 0, 0, .null, [], [])),
  (260, (.iload_n 3, 261, 3, 0, .null, [], [])),
  (261, (.iadd, 262, 0, 0, .null, [], [])),
  (262, (.istore 9, 264, 9, 0, .null, [], [])),
  (264, (.iload 9, 266, 9, 0, .null, [], [])),
  (266, (.ifCond .lt 61, 269, 327, 0, .null, [], [])),
  (269, (.iload 9, 271, 9, 0, .null, [], [])),
  (271, (.aload_n 0, 272, 0, 0, .null, [], [])),
  (272, (.getfield 25, 275, 6, 3, (.int 3), [], [510])),
  (275, (.arraylength, 276, 0, 0, .null, [], [])),
  (276, (.if_icmp .ge 51, 279, 327, 0, .null, [], [])),
  (279, (.iload_n 3, 280, 3, 0, .null, [], [])),
  (280, (.ifCond .lt 47, 283, 327, 0, .null, [], [])),
  (283, (.iload_n 3, 284, 3, 0, .null, [], [])),
  (284, (.aload_n 0, 285, 0, 0, .null, [], [])),
  (285, (.getfield 22, 288, 6, 2, (.int 3), [], [509])),
  (288, (.arraylength, 289, 0, 0, .null, [], [])),
  (289, (.if_icmp .ge 38, 292, 327, 0, .null, [], [])),
  (292, (.aload_n 0, 293, 0, 0, .null, [], [])),
  (293, (.getfield 25, 296, 6, 3, (.int 3), [], [510])),
  (296, (.iload 9, 298, 9, 0, .null, [], [])),
  (298, (.iload 7, 300, 7, 0, .null, [], [])),
  (300, (.iastore, 301, 0, 0, .null, [], [])),
  (301, (.aload_n 0, 302, 0, 0, .null, [], [])),
  (302, (.getfield 22, 305, 6, 2, (.int 3), [], [509])),
  (305, (.iload_n 3, 306, 3, 0, .null, [], [])),
  (306, (.dup2, 307, 0, 0, .null, [], [])),
  (307, (.iaload, 308, 0, 0, .null, [], [])),
  (308, (.iload 5, 310, 5, 0, .null, [], [])),
  (310, (.ifCond .eq 14, 313, 324, 0, .null, [], [])),
  (313, (.iload 6, 315, 6, 0, .null, [], [])),
  (315, (.ifCond .ne 9, 318, 324, 0, .null, [], [])),
  (318, (.iconst 1, 319, 0, 0, (.int 1), [], [])),
  (319, (.iload_n 2, 320, 2, 0, .null, [], [])),
  (320, (.ishl, 321, 0, 0, .null, [], [])),
  (321, (.goto 4, 324, 325, 0, .null, [], [])),
  (324, (.iconst 0, 325, 0, 0, (.int 0), [], [])),
  (325, (.ior, 326, 0, 0, .null, [], [])),
  (326, (.iastore, 327, 0, 0, .null, [], [])),
  (327, (.return_, 328, 0, 0, .null, [], []))]
/-- yX6_judge -/
def zc_45 : List (Nat × zE) := zc_45_0 ++ zc_45_1
/-- yX6_canRead -/
def zc_46 : List (Nat × zE) := [(0, (.iload_n 2, 1, 2, 0, .null, [], [])),
  (1, (.ifCond .lt 25, 4, 26, 0, .null, [], [])),
  (4, (.iload_n 2, 5, 2, 0, .null, [], [])),
  (5, (.aload_n 0, 6, 0, 0, .null, [], [])),
  (6, (.getfield 22, 9, 6, 2, (.int 3), [], [509])),
  (9, (.arraylength, 10, 0, 0, .null, [], [])),
  (10, (.if_icmp .ge 16, 13, 26, 0, .null, [], [])),
  (13, (.aload_n 0, 14, 0, 0, .null, [], [])),
  (14, (.getfield 22, 17, 6, 2, (.int 3), [], [509])),
  (17, (.iload_n 2, 18, 2, 0, .null, [], [])),
  (18, (.iaload, 19, 0, 0, .null, [], [])),
  (19, (.iload_n 1, 20, 1, 0, .null, [], [])),
  (20, (.ishr, 21, 0, 0, .null, [], [])),
  (21, (.iconst 1, 22, 0, 0, (.int 1), [], [])),
  (22, (.iand, 23, 0, 0, .null, [], [])),
  (23, (.goto 4, 26, 27, 0, .null, [], [])),
  (26, (.iconst 0, 27, 0, 0, (.int 0), [], [])),
  (27, (.ireturn, 28, 0, 0, .null, [], []))]
/-- yX6_costOf -/
def zc_47 : List (Nat × zE) := [(0, (.iconst 3, 1, 0, 0, (.int 3), [], [])),
  (1, (.iload_n 1, 2, 1, 0, .null, [], [])),
  (2, (.imul, 3, 0, 0, .null, [], [])),
  (3, (.iload_n 2, 4, 2, 0, .null, [], [])),
  (4, (.iadd, 5, 0, 0, .null, [], [])),
  (5, (.istore_n 3, 6, 3, 0, .null, [], [])),
  (6, (.iload_n 3, 7, 3, 0, .null, [], [])),
  (7, (.ifCond .lt 21, 10, 28, 0, .null, [], [])),
  (10, (.iload_n 3, 11, 3, 0, .null, [], [])),
  (11, (.aload_n 0, 12, 0, 0, .null, [], [])),
  (12, (.getfield 25, 15, 6, 3, (.int 3), [], [510])),
  (15, (.arraylength, 16, 0, 0, .null, [], [])),
  (16, (.if_icmp .ge 12, 19, 28, 0, .null, [], [])),
  (19, (.aload_n 0, 20, 0, 0, .null, [], [])),
  (20, (.getfield 25, 23, 6, 3, (.int 3), [], [510])),
  (23, (.iload_n 3, 24, 3, 0, .null, [], [])),
  (24, (.iaload, 25, 0, 0, .null, [], [])),
  (25, (.goto 4, 28, 29, 0, .null, [], [])),
  (28, (.iconst 0, 29, 0, 0, (.int 0), [], [])),
  (29, (.ireturn, 30, 0, 0, .null, [], []))]
/-- yX6_hear -/
def zc_48 : List (Nat × zE) := [(0, (.iconst 0, 1, 0, 0, (.int 0), [], [])),
  (1, (.istore_n 2, 2, 2, 0, .null, [], [])),
  (2, (.iload_n 2, 3, 2, 0, .null, [], [])),
  (3, (.aload_n 1, 4, 1, 0, .null, [], [])),
  (4, (.getfield 93, 7, 7, 7, (.int 0), [], [5515])),
  (7, (.if_icmp .ge 69, 10, 76, 0, .null, [], [])),
  (10, (.aload_n 1, 11, 1, 0, .null, [], [])),
  (11, (.iload_n 2, 12, 2, 0, .null, [], [])),
  (12, (.invokevirtual 96, 15, 73, 1, .null, [], [5516, 5517, 5518, 14, 5519])),
  (15, (.istore_n 3, 16, 3, 0, .null, [], [])),
  (16, (.aload_n 1, 17, 1, 0, .null, [], [])),
  (17, (.iload_n 3, 18, 3, 0, .null, [], [])),
  (18, (.invokevirtual 99, 21, 66, 1, .null, [], [5520, 1020, 1021, 14, 1022])),
  (21, (.ifCond .ne 5, 24, 26, 0, .null, [], [])),
  (24, (.iconst 0, 25, 0, 0, (.int 0), [], [])),
  (25, (.ireturn, 26, 1, 0, .null, [], [])),
  (26, (.iconst 0, 27, 0, 0, (.int 0), [], [])),
  (27, (.istore 4, 29, 4, 0, .null, [], [])),
  (29, (.iload 4, 31, 4, 0, .null, [], [])),
  (31, (.aload_n 0, 32, 0, 0, .null, [], [])),
  (32, (.getfield 22, 35, 6, 2, (.int 3), [], [509])),
  (35, (.arraylength, 36, 0, 0, .null, [], [])),
  (36, (.if_icmp .ge 34, 39, 70, 0, .null, [], [])),
  (39, (.iload 4, 41, 4, 0, .null, [], [])),
  (41, (.aload_n 1, 42, 1, 0, .null, [], [])),
  (42, (.iload_n 2, 43, 2, 0, .null, [], [])),
  (43, (.invokevirtual 103, 46, 74, 1, .null, [], [5521, 5522, 5523, 14, 5600])),
  (46, (.if_icmp .eq 18, 49, 64, 0, .null, [], [])),
  (49, (.aload_n 0, 50, 0, 0, .null, [], [])),
  (50, (.getfield 22, 53, 6, 2, (.int 3), [], [509])),
  (53, (.iload 4, 55, 4, 0, .null, [], [])),
  (55, (.dup2, 56, 0, 0, .null, [], [])),
  (56, (.iaload, 57, 0, 0, .null, [], [])),
  (57, (.iconst 1, 58, 0, 0, (.int 1), [], [])),
  (58, (.iload_n 3, 59, 3, 0, .null, [], [])),
  (59, (.ishl, 60, 0, 0, .null, [], [])),
  (60, (.iconst (-1), 61, 0, 0, (.int (-1)), [], [])),
  (61, (.ixor, 62, 0, 0, .null, [], [])),
  (62, (.iand, 63, 0, 0, .null, [], [])),
  (63, (.iastore, 64, 0, 0, .null, [], [])),
  (64, (.iinc 4 1, 67, 4, 0, (.int 1), [], [])),
  (67, (.goto (-38), 70, 29, 0, .null, [], [])),
  (70, (.iinc 2 1, 73, 2, 0, (.int 1), [], [])),
  (73, (.goto (-71), 76, 2, 0, .null, [], [])),
  (76, (.iconst 1, 77, 0, 0, (.int 1), [], [])),
  (77, (.ireturn, 78, 1, 0, .null, [], []))]
/-- yX6_takes -/
def zc_49 : List (Nat × zE) := [(0, (.aload_n 0, 1, 0, 0, .null, [], [])),
  (1, (.aload_n 1, 2, 1, 0, .null, [], [])),
  (2, (.invokevirtual 106, 5, 51, 1, .null, [], [3818, 3819, 3820, 122, 3821])),
  (5, (.aload_n 0, 6, 0, 0, .null, [], [])),
  (6, (.getfield 32, 9, 6, 5, (.int 3), [], [512])),
  (9, (.iconst 0, 10, 0, 0, (.int 0), [], [])),
  (10, (.iaload, 11, 0, 0, .null, [], [])),
  (11, (.aload_n 0, 12, 0, 0, .null, [], [])),
  (12, (.getfield 47, 15, 6, 8, (.int 0), [], [1113])),
  (15, (.ishr, 16, 0, 0, .null, [], [])),
  (16, (.iconst 1, 17, 0, 0, (.int 1), [], [])),
  (17, (.iand, 18, 0, 0, .null, [], [])),
  (18, (.iconst 1, 19, 0, 0, (.int 1), [], [])),
  (19, (.if_icmp .ne 7, 22, 26, 0, .null, [], [])),
  (22, (.iconst 1, 23, 0, 0, (.int 1), [], [])),
  (23, (.goto 4, 26, 27, 0, .null, [], [])),
  (26, (.iconst 0, 27, 0, 0, (.int 0), [], [])),
  (27, (.ireturn, 28, 1, 0, .null, [], []))]
/-- yX6_reachOf -/
def zc_50 : List (Nat × zE) := [(0, (.aload_n 0, 1, 0, 0, .null, [], [])),
  (1, (.aload_n 1, 2, 1, 0, .null, [], [])),
  (2, (.invokevirtual 106, 5, 51, 1, .null, [], [3818, 3819, 3820, 122, 3821])),
  (5, (.iconst 0, 6, 0, 0, (.int 0), [], [])),
  (6, (.istore_n 2, 7, 2, 0, .null, [], [])),
  (7, (.iconst 1, 8, 0, 0, (.int 1), [], [])),
  (8, (.istore_n 3, 9, 3, 0, .null, [], [])),
  (9, (.iload_n 3, 10, 3, 0, .null, [], [])),
  (10, (.aload_n 0, 11, 0, 0, .null, [], [])),
  (11, (.getfield 47, 14, 6, 8, (.int 0), [], [1113])),
  (14, (.if_icmp .gt 23, 17, 37, 0, .null, [], [])),
  (17, (.aload_n 0, 18, 0, 0, .null, [], [])),
  (18, (.getfield 110, 21, 6, 10, (.int 0), [], [3822])),
  (21, (.iload_n 3, 22, 3, 0, .null, [], [])),
  (22, (.ishr, 23, 0, 0, .null, [], [])),
  (23, (.iconst 1, 24, 0, 0, (.int 1), [], [])),
  (24, (.iand, 25, 0, 0, .null, [], [])),
  (25, (.iconst 1, 26, 0, 0, (.int 1), [], [])),
  (26, (.if_icmp .ne 5, 29, 31, 0, .null, [], [])),
  (29, (.iload_n 3, 30, 3, 0, .null, [], [])),
  (30, (.istore_n 2, 31, 2, 0, .null, [], [])),
  (31, (.iinc 3 1, 34, 3, 0, (.int 1), [], [])),
  (34, (.goto (-25), 37, 9, 0, .null, [], [])),
  (37, (.iload_n 2, 38, 2, 0, .null, [], [])),
  (38, (.ireturn, 39, 0, 0, .null, [], []))]
def zc_51_0 : List (Nat × zE) := [(0, (.aload_n 0, 1, 0, 0, .null, [], [])),
  (1, (.getfield 32, 4, 6, 5, (.int 3), [], [512])),
  (4, (.iconst 0, 5, 0, 0, (.int 0), [], [])),
  (5, (.invokestatic 48, 8, 277, 2, .null, [], [1115, 1116, 1117, 1118])),
  (8, (.aload_n 0, 9, 0, 0, .null, [], [])),
  (9, (.iconst 0, 10, 0, 0, (.int 0), [], [])),
  (10, (.putfield 110, 13, 6, 10, (.int 0), [], [3822])),
  (13, (.aload_n 1, 14, 1, 0, .null, [], [])),
  (14, (.getfield 113, 17, 3, 0, (.int 3), [], [3823])),
  (17, (.arraylength, 18, 0, 0, .null, [], [])),
  (18, (.iconst 1, 19, 0, 0, (.int 1), [], [])),
  (19, (.isub, 20, 0, 0, .null, [], [])),
  (20, (.istore_n 2, 21, 2, 0, .null, [], [])),
  (21, (.aload_n 0, 22, 0, 0, .null, [], [])),
  (22, (.iload_n 2, 23, 2, 0, .null, [], [])),
  (23, (.iconst 1, 24, 0, 0, (.int 1), [], [])),
  (24, (.invokevirtual 118, 27, 52, 2, .null, [], [3902, 3903, 3904, 122, 3905])),
  (27, (.iload_n 2, 28, 2, 0, .null, [], [])),
  (28, (.istore_n 3, 29, 3, 0, .null, [], [])),
  (29, (.iload_n 3, 30, 3, 0, .null, [], [])),
  (30, (.ifCond .lt 231, 33, 261, 0, .null, [], [])),
  (33, (.iload_n 3, 34, 3, 0, .null, [], [])),
  (34, (.aload_n 0, 35, 0, 0, .null, [], [])),
  (35, (.getfield 32, 38, 6, 5, (.int 3), [], [512])),
  (38, (.arraylength, 39, 0, 0, .null, [], [])),
  (39, (.if_icmp .ge 222, 42, 261, 0, .null, [], [])),
  (42, (.aload_n 0, 43, 0, 0, .null, [], [])),
  (43, (.aload_n 0, 44, 0, 0, .null, [], [])),
  (44, (.getfield 32, 47, 6, 5, (.int 3), [], [512])),
  (47, (.iload_n 3, 48, 3, 0, .null, [], [])),
  (48, (.iaload, 49, 0, 0, .null, [], [])),
  (49, (.invokevirtual 122, 52, 53, 1, .null, [], [3906, 3907, 3908, 122, 3909])),
  (52, (.istore 4, 54, 4, 0, .null, [], [])),
  (54, (.aload_n 0, 55, 0, 0, .null, [], [])),
  (55, (.getfield 32, 58, 6, 5, (.int 3), [], [512])),
  (58, (.iload_n 3, 59, 3, 0, .null, [], [])),
  (59, (.iload 4, 61, 4, 0, .null, [], [])),
  (61, (.iastore, 62, 0, 0, .null, [], [])),
  (62, (.aload_n 0, 63, 0, 0, .null, [], [])),
  (63, (.dup, 64, 0, 0, .null, [], [])),
  (64, (.getfield 110, 67, 6, 10, (.int 0), [], [3822])),
  (67, (.iload 4, 69, 4, 0, .null, [], [])),
  (69, (.ior, 70, 0, 0, .null, [], [])),
  (70, (.putfield 110, 73, 6, 10, (.int 0), [], [3822])),
  (73, (.iload_n 3, 74, 3, 0, .null, [], [])),
  (74, (.aload_n 1, 75, 1, 0, .null, [], [])),
  (75, (.getfield 125, 78, 3, 1, (.int 3), [], [3900])),
  (78, (.arraylength, 79, 0, 0, .null, [], [])),
  (79, (.if_icmp .ge 12, 82, 91, 0, .null, [], [])),
  (82, (.aload_n 1, 83, 1, 0, .null, [], [])),
  (83, (.getfield 125, 86, 3, 1, (.int 3), [], [3900])),
  (86, (.iload_n 3, 87, 3, 0, .null, [], [])),
  (87, (.iaload, 88, 0, 0, .null, [], [])),
  (88, (.goto 4, 91, 92, 0, .null, [], [])),
  (91, (.iconst (-1), 92, 0, 0, (.int (-1)), [], [])),
  (92, (.istore 5, 94, 5, 0, .null, [], [])),
  (94, (.aload_n 1, 95, 1, 0, .null, [], [])),
  (95, (.getfield 113, 98, 3, 0, (.int 3), [], [3823])),
  (98, (.iload_n 3, 99, 3, 0, .null, [], [])),
  (99, (.iaload, 100, 0, 0, .null, [], [])),
  (100, (.tableswitch 155 1 5 #[36, 56, 76, 103, 119], 136, 255, 0, .null, [(1, 136), (2, 156), (3, 176), (4, 203), (5, 219)], [])),
  (136, (.aload_n 0, 137, 0, 0, .null, [], [])),
  (137, (.iload 5, 139, 5, 0, .null, [], [])),
  (139, (.iload 4, 141, 4, 0, .null, [], [])),
  (141, (.aload_n 0, 142, 0, 0, .null, [], [])),
  (142, (.getfield 22, 145, 6, 2, (.int 3), [], [509])),
  (145, (.iconst 1, 146, 0, 0, (.int 1), [], [])),
  (146, (.iaload, 147, 0, 0, .null, [], [])),
  (147, (.iand, 148, 0, 0, .null, [], [])),
  (148, (.iconst 1, 149, 0, 0, (.int 1), [], [])),
  (149, (.ishl, 150, 0, 0, .null, [], [])),
  (150, (.invokevirtual 118, 153, 52, 2, .null, [], [3902, 3903, 3904, 122, 3905])),
  (153, (.goto 102, 156, 255, 0, .null, [], [])),
  (156, (.aload_n 0, 157, 0, 0, .null, [], [])),
  (157, (.iload 5, 159, 5, 0, .null, [], [])),
  (159, (.iload 4, 161, 4, 0, .null, [], [])),
  (161, (.aload_n 0, 162, 0, 0, .null, [], [])),
  (162, (.getfield 22, 165, 6, 2, (.int 3), [], [509])),
  (165, (.iconst 0, 166, 0, 0, (.int 0), [], [])),
  (166, (.iaload, 167, 0, 0, .null, [], [])),
  (167, (.iand, 168, 0, 0, .null, [], [])),
  (168, (.iconst 1, 169, 0, 0, (.int 1), [], [])),
  (169, (.ishl, 170, 0, 0, .null, [], [])),
  (170, (.invokevirtual 118, 173, 52, 2, .null, [], [3902, 3903, 3904, 122, 3905])),
  (173, (.goto 82, 176, 255, 0, .null, [], [])),
  (176, (.aload_n 0, 177, 0, 0, .null, [], [])),
  (177, (.iload 5, 179, 5, 0, .null, [], [])),
  (179, (.iload 4, 181, 4, 0, .null, [], [])),
  (181, (.aload_n 0, 182, 0, 0, .null, [], [])),
  (182, (.getfield 22, 185, 6, 2, (.int 3), [], [509])),
  (185, (.iconst 0, 186, 0, 0, (.int 0), [], [])),
  (186, (.iaload, 187, 0, 0, .null, [], [])),
  (187, (.aload_n 0, 188, 0, 0, .null, [], [])),
  (188, (.getfield 22, 191, 6, 2, (.int 3), [], [509])),
  (191, (.iconst 1, 192, 0, 0, (.int 1), [], [])),
  (192, (.iaload, 193, 0, 0, .null, [], [])),
  (193, (.ior, 194, 0, 0, .null, [], [])),
  (194, (.iand, 195, 0, 0, .null, [], [])),
  (195, (.iconst 1, 196, 0, 0, (.int 1), [], [])),
  (196, (.ishl, 197, 0, 0, .null, [], [])),
  (197, (.invokevirtual 118, 200, 52, 2, .null, [], [3902, 3903, 3904, 122, 3905])),
  (200, (.goto 55, 203, 255, 0, .null, [], [])),
  (203, (.aload_n 0, 204, 0, 0, .null, [], [])),
  (204, (.iload 5, 206, 5, 0, .null, [], [])),
  (206, (.iload 4, 208, 4, 0, .null, [], [])),
  (208, (.aload_n 0, 209, 0, 0, .null, [], [])),
  (209, (.getfield 54, 212, 6, 9, (.int 0), [], [1114])),
  (212, (.iand, 213, 0, 0, .null, [], [])),
  (213, (.invokevirtual 118, 216, 52, 2, .null, [], [3902, 3903, 3904, 122, 3905])),
  (216, (.goto 39, 219, 255, 0, .null, [], [])),
  (219, (.aload_n 0, 220, 0, 0, .null, [], [])),
  (220, (.iload 5, 222, 5, 0, .null, [], [])),
  (222, (.iload 4, 224, 4, 0, .null, [], [])),
  (224, (.invokevirtual 118, 227, 52, 2, .null, [], [3902, 3903, 3904, 122, 3905])),
  (227, (.aload_n 0, 228, 0, 0, .null, [], [])),
  (228, (.iload_n 3, 229, 3, 0, .null, [], [])),
  (229, (.aload_n 1, 230, 1, 0, .null, [], [])),
  (230, (.getfield 128, 233, 3, 2, (.int 3), [], [3901])),
  (233, (.arraylength, 234, 0, 0, .null, [], [])),
  (234, (.if_icmp .ge 12, 237, 246, 0, .null, [], []))]
def zc_51_1 : List (Nat × zE) := [(237, (.aload_n 1, 238, 1, 0, .null, [], [])),
  (238, (.getfield 128, 241, 3, 2, (.int 3), [], [3901])),
  (241, (.iload_n 3, 242, 3, 0, .null, [], [])),
  (242, (.iaload, 243, 0, 0, .null, [], [])),
  (243, (.goto 4, 246, 247, 0, .null, [], [])),
  (246, (.iconst (-1), 247, 0, 0, (.int (-1)), [], [])),
  (247, (.iload 4, 249, 4, 0, .null, [], [])),
  (249, (.invokevirtual 118, 252, 52, 2, .null, [], [3902, 3903, 3904, 122, 3905])),
  (252, (.goto 3, 255, 255, 0, .null, [], [])),
  (255, (.iinc 3 (-1), 258, 3, 0, (.int (-1)), [], [])),
  (258, (.goto (-229), 261, 29, 0, .null, [], [])),
  (261, (.return_, 262, 0, 0, .null, [], []))]
/-- yX6_flowThrough -/
def zc_51 : List (Nat × zE) := zc_51_0 ++ zc_51_1
/-- yX6_spread -/
def zc_52 : List (Nat × zE) := [(0, (.iload_n 1, 1, 1, 0, .null, [], [])),
  (1, (.ifCond .lt 22, 4, 23, 0, .null, [], [])),
  (4, (.iload_n 1, 5, 1, 0, .null, [], [])),
  (5, (.aload_n 0, 6, 0, 0, .null, [], [])),
  (6, (.getfield 32, 9, 6, 5, (.int 3), [], [512])),
  (9, (.arraylength, 10, 0, 0, .null, [], [])),
  (10, (.if_icmp .ge 13, 13, 23, 0, .null, [], [])),
  (13, (.aload_n 0, 14, 0, 0, .null, [], [])),
  (14, (.getfield 32, 17, 6, 5, (.int 3), [], [512])),
  (17, (.iload_n 1, 18, 1, 0, .null, [], [])),
  (18, (.dup2, 19, 0, 0, .null, [], [])),
  (19, (.iaload, 20, 0, 0, .null, [], [])),
  (20, (.iload_n 2, 21, 2, 0, .null, [], [])),
  (21, (.ior, 22, 0, 0, .null, [], [])),
  (22, (.iastore, 23, 0, 0, .null, [], [])),
  (23, (.return_, 24, 0, 0, .null, [], []))]
/-- yX6_withElided -/
def zc_53 : List (Nat × zE) := [(0, (.aload_n 0, 1, 0, 0, .null, [], [])),
  (1, (.getfield 22, 4, 6, 2, (.int 3), [], [509])),
  (4, (.iconst 2, 5, 0, 0, (.int 2), [], [])),
  (5, (.iaload, 6, 0, 0, .null, [], [])),
  (6, (.istore_n 2, 7, 2, 0, .null, [], [])),
  (7, (.iload_n 1, 8, 1, 0, .null, [], [])),
  (8, (.iload_n 2, 9, 2, 0, .null, [], [])),
  (9, (.iand, 10, 0, 0, .null, [], [])),
  (10, (.iload_n 2, 11, 2, 0, .null, [], [])),
  (11, (.iadd, 12, 0, 0, .null, [], [])),
  (12, (.iload_n 2, 13, 2, 0, .null, [], [])),
  (13, (.ixor, 14, 0, 0, .null, [], [])),
  (14, (.iload_n 1, 15, 1, 0, .null, [], [])),
  (15, (.ior, 16, 0, 0, .null, [], [])),
  (16, (.ireturn, 17, 0, 0, .null, [], []))]
/-- yX6_least -/
def zc_54 : List (Nat × zE) := [(0, (.aload_n 0, 1, 0, 0, .null, [], [])),
  (1, (.iload_n 2, 2, 2, 0, .null, [], [])),
  (2, (.invokevirtual 131, 5, 58, 1, .null, [], [5003, 5004, 5005, 122, 5006])),
  (5, (.aload_n 0, 6, 0, 0, .null, [], [])),
  (6, (.getfield 47, 9, 6, 8, (.int 0), [], [1113])),
  (9, (.istore_n 3, 10, 3, 0, .null, [], [])),
  (10, (.iload_n 3, 11, 3, 0, .null, [], [])),
  (11, (.ifCond .lt 73, 14, 84, 0, .null, [], [])),
  (14, (.aload_n 0, 15, 0, 0, .null, [], [])),
  (15, (.getfield 38, 18, 6, 7, (.int 3), [], [514])),
  (18, (.astore 4, 20, 4, 0, .null, [], [])),
  (20, (.aload_n 0, 21, 0, 0, .null, [], [])),
  (21, (.aload_n 0, 22, 0, 0, .null, [], [])),
  (22, (.getfield 35, 25, 6, 6, (.int 3), [], [513])),
  (25, (.putfield 38, 28, 6, 7, (.int 3), [], [514])),
  (28, (.aload_n 0, 29, 0, 0, .null, [], [])),
  (29, (.aload 4, 31, 4, 0, .null, [], [])),
  (31, (.putfield 35, 34, 6, 6, (.int 3), [], [513])),
  (34, (.iconst 0, 35, 0, 0, (.int 0), [], [])),
  (35, (.istore 5, 37, 5, 0, .null, [], [])),
  (37, (.iload 5, 39, 5, 0, .null, [], [])),
  (39, (.aload_n 1, 40, 1, 0, .null, [], [])),
  (40, (.getfield 113, 43, 3, 0, (.int 3), [], [3823])),
  (43, (.arraylength, 44, 0, 0, .null, [], [])),
  (44, (.if_icmp .ge 34, 47, 78, 0, .null, [], [])),
  (47, (.iload 5, 49, 5, 0, .null, [], [])),
  (49, (.aload_n 0, 50, 0, 0, .null, [], [])),
  (50, (.getfield 35, 53, 6, 6, (.int 3), [], [513])),
  (53, (.arraylength, 54, 0, 0, .null, [], [])),
  (54, (.if_icmp .ge 24, 57, 78, 0, .null, [], [])),
  (57, (.aload_n 0, 58, 0, 0, .null, [], [])),
  (58, (.getfield 35, 61, 6, 6, (.int 3), [], [513])),
  (61, (.iload 5, 63, 5, 0, .null, [], [])),
  (63, (.aload_n 0, 64, 0, 0, .null, [], [])),
  (64, (.aload_n 1, 65, 1, 0, .null, [], [])),
  (65, (.iload 5, 67, 5, 0, .null, [], [])),
  (67, (.iload_n 3, 68, 3, 0, .null, [], [])),
  (68, (.invokevirtual 135, 71, 55, 3, .null, [], [5013, 5014, 5015, 122, 5016])),
  (71, (.lastore, 72, 0, 0, .null, [], [])),
  (72, (.iinc 5 1, 75, 5, 0, (.int 1), [], [])),
  (75, (.goto (-38), 78, 37, 0, .null, [], [])),
  (78, (.iinc 3 (-1), 81, 3, 0, (.int (-1)), [], [])),
  (81, (.goto (-71), 84, 10, 0, .null, [], [])),
  (84, (.aload_n 1, 85, 1, 0, .null, [], [])),
  (85, (.getfield 113, 88, 3, 0, (.int 3), [], [3823])),
  (88, (.arraylength, 89, 0, 0, .null, [], [])),
  (89, (.iconst 1, 90, 0, 0, (.int 1), [], [])),
  (90, (.isub, 91, 0, 0, .null, [], [])),
  (91, (.istore_n 3, 92, 3, 0, .null, [], [])),
  (92, (.iload_n 3, 93, 3, 0, .null, [], [])),
  (93, (.ifCond .lt 21, 96, 114, 0, .null, [], [])),
  (96, (.iload_n 3, 97, 3, 0, .null, [], [])),
  (97, (.aload_n 0, 98, 0, 0, .null, [], [])),
  (98, (.getfield 35, 101, 6, 6, (.int 3), [], [513])),
  (101, (.arraylength, 102, 0, 0, .null, [], [])),
  (102, (.if_icmp .ge 12, 105, 114, 0, .null, [], [])),
  (105, (.aload_n 0, 106, 0, 0, .null, [], [])),
  (106, (.getfield 35, 109, 6, 6, (.int 3), [], [513])),
  (109, (.iload_n 3, 110, 3, 0, .null, [], [])),
  (110, (.laload, 111, 0, 0, .null, [], [])),
  (111, (.goto 6, 114, 117, 0, .null, [], [])),
  (114, (.ldc2_w 139, 117, 0, 0, (.long 1152921504606846976), [], [5002])),
  (117, (.lreturn, 118, 0, 0, .null, [], []))]
def zc_55_0 : List (Nat × zE) := [(0, (.iload_n 2, 1, 2, 0, .null, [], [])),
  (1, (.aload_n 1, 2, 1, 0, .null, [], [])),
  (2, (.getfield 125, 5, 3, 1, (.int 3), [], [3900])),
  (5, (.arraylength, 6, 0, 0, .null, [], [])),
  (6, (.if_icmp .ge 12, 9, 18, 0, .null, [], [])),
  (9, (.aload_n 1, 10, 1, 0, .null, [], [])),
  (10, (.getfield 125, 13, 3, 1, (.int 3), [], [3900])),
  (13, (.iload_n 2, 14, 2, 0, .null, [], [])),
  (14, (.iaload, 15, 0, 0, .null, [], [])),
  (15, (.goto 4, 18, 19, 0, .null, [], [])),
  (18, (.iconst (-1), 19, 0, 0, (.int (-1)), [], [])),
  (19, (.istore 4, 21, 4, 0, .null, [], [])),
  (21, (.iload_n 2, 22, 2, 0, .null, [], [])),
  (22, (.aload_n 1, 23, 1, 0, .null, [], [])),
  (23, (.getfield 128, 26, 3, 2, (.int 3), [], [3901])),
  (26, (.arraylength, 27, 0, 0, .null, [], [])),
  (27, (.if_icmp .ge 12, 30, 39, 0, .null, [], [])),
  (30, (.aload_n 1, 31, 1, 0, .null, [], [])),
  (31, (.getfield 128, 34, 3, 2, (.int 3), [], [3901])),
  (34, (.iload_n 2, 35, 2, 0, .null, [], [])),
  (35, (.iaload, 36, 0, 0, .null, [], [])),
  (36, (.goto 4, 39, 40, 0, .null, [], [])),
  (39, (.iconst (-1), 40, 0, 0, (.int (-1)), [], [])),
  (40, (.istore 5, 42, 5, 0, .null, [], [])),
  (42, (.iload_n 3, 43, 3, 0, .null, [], [])),
  (43, (.aload_n 0, 44, 0, 0, .null, [], [])),
  (44, (.getfield 47, 47, 6, 8, (.int 0), [], [1113])),
  (47, (.if_icmp .ge 21, 50, 68, 0, .null, [], [])),
  (50, (.aload_n 0, 51, 0, 0, .null, [], [])),
  (51, (.iload_n 3, 52, 3, 0, .null, [], [])),
  (52, (.iconst 2, 53, 0, 0, (.int 2), [], [])),
  (53, (.invokevirtual 141, 56, 57, 2, .null, [], [5020, 5021, 5022, 122, 5023])),
  (56, (.aload_n 0, 57, 0, 0, .null, [], [])),
  (57, (.getfield 38, 60, 6, 7, (.int 3), [], [514])),
  (60, (.iload_n 2, 61, 2, 0, .null, [], [])),
  (61, (.invokestatic 145, 64, 56, 2, .null, [], [5100, 5101, 122, 5102])),
  (64, (.ladd, 65, 0, 0, .null, [], [])),
  (65, (.goto 6, 68, 71, 0, .null, [], [])),
  (68, (.ldc2_w 139, 71, 0, 0, (.long 1152921504606846976), [], [5002])),
  (71, (.lstore 6, 73, 6, 0, .null, [], [])),
  (73, (.aload_n 1, 74, 1, 0, .null, [], [])),
  (74, (.getfield 113, 77, 3, 0, (.int 3), [], [3823])),
  (77, (.iload_n 2, 78, 2, 0, .null, [], [])),
  (78, (.iaload, 79, 0, 0, .null, [], [])),
  (79, (.tableswitch 182 1 5 #[33, 59, 85, 120, 156], 112, 261, 0, .null, [(1, 112), (2, 138), (3, 164), (4, 199), (5, 235)], [])),
  (112, (.lload 6, 114, 6, 0, .null, [], [])),
  (114, (.aload_n 0, 115, 0, 0, .null, [], [])),
  (115, (.iload_n 3, 116, 3, 0, .null, [], [])),
  (116, (.iconst 1, 117, 0, 0, (.int 1), [], [])),
  (117, (.invokevirtual 141, 120, 57, 2, .null, [], [5020, 5021, 5022, 122, 5023])),
  (120, (.aload_n 0, 121, 0, 0, .null, [], [])),
  (121, (.getfield 38, 124, 6, 7, (.int 3), [], [514])),
  (124, (.iload 4, 126, 4, 0, .null, [], [])),
  (126, (.invokestatic 145, 129, 56, 2, .null, [], [5100, 5101, 122, 5102])),
  (129, (.ladd, 130, 0, 0, .null, [], [])),
  (130, (.invokestatic 149, 133, 274, 2, .null, [], [5017, 5018, 415, 5019])),
  (133, (.lstore 6, 135, 6, 0, .null, [], [])),
  (135, (.goto 142, 138, 277, 0, .null, [], [])),
  (138, (.lload 6, 140, 6, 0, .null, [], [])),
  (140, (.aload_n 0, 141, 0, 0, .null, [], [])),
  (141, (.iload_n 3, 142, 3, 0, .null, [], [])),
  (142, (.iconst 0, 143, 0, 0, (.int 0), [], [])),
  (143, (.invokevirtual 141, 146, 57, 2, .null, [], [5020, 5021, 5022, 122, 5023])),
  (146, (.aload_n 0, 147, 0, 0, .null, [], [])),
  (147, (.getfield 38, 150, 6, 7, (.int 3), [], [514])),
  (150, (.iload 4, 152, 4, 0, .null, [], [])),
  (152, (.invokestatic 145, 155, 56, 2, .null, [], [5100, 5101, 122, 5102])),
  (155, (.ladd, 156, 0, 0, .null, [], [])),
  (156, (.invokestatic 149, 159, 274, 2, .null, [], [5017, 5018, 415, 5019])),
  (159, (.lstore 6, 161, 6, 0, .null, [], [])),
  (161, (.goto 116, 164, 277, 0, .null, [], [])),
  (164, (.lload 6, 166, 6, 0, .null, [], [])),
  (166, (.aload_n 0, 167, 0, 0, .null, [], [])),
  (167, (.iload_n 3, 168, 3, 0, .null, [], [])),
  (168, (.iconst 0, 169, 0, 0, (.int 0), [], [])),
  (169, (.invokevirtual 141, 172, 57, 2, .null, [], [5020, 5021, 5022, 122, 5023])),
  (172, (.aload_n 0, 173, 0, 0, .null, [], [])),
  (173, (.iload_n 3, 174, 3, 0, .null, [], [])),
  (174, (.iconst 1, 175, 0, 0, (.int 1), [], [])),
  (175, (.invokevirtual 141, 178, 57, 2, .null, [], [5020, 5021, 5022, 122, 5023])),
  (178, (.invokestatic 149, 181, 274, 2, .null, [], [5017, 5018, 415, 5019])),
  (181, (.aload_n 0, 182, 0, 0, .null, [], [])),
  (182, (.getfield 38, 185, 6, 7, (.int 3), [], [514])),
  (185, (.iload 4, 187, 4, 0, .null, [], [])),
  (187, (.invokestatic 145, 190, 56, 2, .null, [], [5100, 5101, 122, 5102])),
  (190, (.ladd, 191, 0, 0, .null, [], [])),
  (191, (.invokestatic 149, 194, 274, 2, .null, [], [5017, 5018, 415, 5019])),
  (194, (.lstore 6, 196, 6, 0, .null, [], [])),
  (196, (.goto 81, 199, 277, 0, .null, [], [])),
  (199, (.aload_n 0, 200, 0, 0, .null, [], [])),
  (200, (.getfield 54, 203, 6, 9, (.int 0), [], [1114])),
  (203, (.iload_n 3, 204, 3, 0, .null, [], [])),
  (204, (.ishr, 205, 0, 0, .null, [], [])),
  (205, (.iconst 1, 206, 0, 0, (.int 1), [], [])),
  (206, (.iand, 207, 0, 0, .null, [], [])),
  (207, (.iconst 1, 208, 0, 0, (.int 1), [], [])),
  (208, (.if_icmp .ne 20, 211, 228, 0, .null, [], [])),
  (211, (.lload 6, 213, 6, 0, .null, [], [])),
  (213, (.aload_n 0, 214, 0, 0, .null, [], [])),
  (214, (.getfield 35, 217, 6, 6, (.int 3), [], [513])),
  (217, (.iload 4, 219, 4, 0, .null, [], [])),
  (219, (.invokestatic 145, 222, 56, 2, .null, [], [5100, 5101, 122, 5102])),
  (222, (.invokestatic 149, 225, 274, 2, .null, [], [5017, 5018, 415, 5019])),
  (225, (.goto 5, 228, 230, 0, .null, [], [])),
  (228, (.lload 6, 230, 6, 0, .null, [], [])),
  (230, (.lstore 6, 232, 6, 0, .null, [], [])),
  (232, (.goto 45, 235, 277, 0, .null, [], [])),
  (235, (.aload_n 0, 236, 0, 0, .null, [], [])),
  (236, (.getfield 35, 239, 6, 6, (.int 3), [], [513])),
  (239, (.iload 4, 241, 4, 0, .null, [], [])),
  (241, (.invokestatic 145, 244, 56, 2, .null, [], [5100, 5101, 122, 5102])),
  (244, (.aload_n 0, 245, 0, 0, .null, [], [])),
  (245, (.getfield 35, 248, 6, 6, (.int 3), [], [513])),
  (248, (.iload 5, 250, 5, 0, .null, [], [])),
  (250, (.invokestatic 145, 253, 56, 2, .null, [], [5100, 5101, 122, 5102])),
  (253, (.invokestatic 149, 256, 274, 2, .null, [], [5017, 5018, 415, 5019])),
  (256, (.lstore 6, 258, 6, 0, .null, [], [])),
  (258, (.goto 19, 261, 277, 0, .null, [], [])),
  (261, (.iload_n 3, 262, 3, 0, .null, [], [])),
  (262, (.aload_n 0, 263, 0, 0, .null, [], []))]
def zc_55_1 : List (Nat × zE) := [(263, (.getfield 47, 266, 6, 8, (.int 0), [], [1113])),
  (266, (.if_icmp .ne 7, 269, 273, 0, .null, [], [])),
  (269, (.lconst 0, 270, 0, 0, (.long 0), [], [])),
  (270, (.goto 5, 273, 275, 0, .null, [], [])),
  (273, (.lload 6, 275, 6, 0, .null, [], [])),
  (275, (.lstore 6, 277, 6, 0, .null, [], [])),
  (277, (.lload 6, 279, 6, 0, .null, [], [])),
  (279, (.ldc2_w 139, 282, 0, 0, (.long 1152921504606846976), [], [5002])),
  (282, (.invokestatic 149, 285, 274, 2, .null, [], [5017, 5018, 415, 5019])),
  (285, (.lreturn, 286, 0, 0, .null, [], []))]
/-- yX6_leastFrom -/
def zc_55 : List (Nat × zE) := zc_55_0 ++ zc_55_1
/-- yX6_leastIn -/
def zc_56 : List (Nat × zE) := [(0, (.iload_n 1, 1, 1, 0, .null, [], [])),
  (1, (.ifCond .lt 15, 4, 16, 0, .null, [], [])),
  (4, (.iload_n 1, 5, 1, 0, .null, [], [])),
  (5, (.aload_n 0, 6, 0, 0, .null, [], [])),
  (6, (.arraylength, 7, 0, 0, .null, [], [])),
  (7, (.if_icmp .ge 9, 10, 16, 0, .null, [], [])),
  (10, (.aload_n 0, 11, 0, 0, .null, [], [])),
  (11, (.iload_n 1, 12, 1, 0, .null, [], [])),
  (12, (.laload, 13, 0, 0, .null, [], [])),
  (13, (.goto 6, 16, 19, 0, .null, [], [])),
  (16, (.ldc2_w 139, 19, 0, 0, (.long 1152921504606846976), [], [5002])),
  (19, (.lreturn, 20, 0, 0, .null, [], []))]
/-- yX6_priceOf -/
def zc_57 : List (Nat × zE) := [(0, (.iconst 3, 1, 0, 0, (.int 3), [], [])),
  (1, (.iload_n 1, 2, 1, 0, .null, [], [])),
  (2, (.imul, 3, 0, 0, .null, [], [])),
  (3, (.iload_n 2, 4, 2, 0, .null, [], [])),
  (4, (.iadd, 5, 0, 0, .null, [], [])),
  (5, (.istore_n 3, 6, 3, 0, .null, [], [])),
  (6, (.iload_n 1, 7, 1, 0, .null, [], [])),
  (7, (.ifCond .lt 33, 10, 40, 0, .null, [], [])),
  (10, (.iload_n 1, 11, 1, 0, .null, [], [])),
  (11, (.aload_n 0, 12, 0, 0, .null, [], [])),
  (12, (.getfield 47, 15, 6, 8, (.int 0), [], [1113])),
  (15, (.if_icmp .ge 25, 18, 40, 0, .null, [], [])),
  (18, (.iload_n 3, 19, 3, 0, .null, [], [])),
  (19, (.ifCond .lt 21, 22, 40, 0, .null, [], [])),
  (22, (.iload_n 3, 23, 3, 0, .null, [], [])),
  (23, (.aload_n 0, 24, 0, 0, .null, [], [])),
  (24, (.getfield 28, 27, 6, 4, (.int 3), [], [511])),
  (27, (.arraylength, 28, 0, 0, .null, [], [])),
  (28, (.if_icmp .ge 12, 31, 40, 0, .null, [], [])),
  (31, (.aload_n 0, 32, 0, 0, .null, [], [])),
  (32, (.getfield 28, 35, 6, 4, (.int 3), [], [511])),
  (35, (.iload_n 3, 36, 3, 0, .null, [], [])),
  (36, (.laload, 37, 0, 0, .null, [], [])),
  (37, (.goto 6, 40, 43, 0, .null, [], [])),
  (40, (.ldc2_w 139, 43, 0, 0, (.long 1152921504606846976), [], [5002])),
  (43, (.lreturn, 44, 0, 0, .null, [], []))]
/-- yX6_setPrices -/
def zc_58 : List (Nat × zE) := [(0, (.iconst 0, 1, 0, 0, (.int 0), [], [])),
  (1, (.istore_n 2, 2, 2, 0, .null, [], [])),
  (2, (.iload_n 2, 3, 2, 0, .null, [], [])),
  (3, (.aload_n 0, 4, 0, 0, .null, [], [])),
  (4, (.getfield 28, 7, 6, 4, (.int 3), [], [511])),
  (7, (.arraylength, 8, 0, 0, .null, [], [])),
  (8, (.if_icmp .ge 120, 11, 128, 0, .null, [], [])),
  (11, (.iload_n 2, 12, 2, 0, .null, [], [])),
  (12, (.iconst 3, 13, 0, 0, (.int 3), [], [])),
  (13, (.irem, 14, 0, 0, .null, [], [])),
  (14, (.istore_n 3, 15, 3, 0, .null, [], [])),
  (15, (.aload_n 0, 16, 0, 0, .null, [], [])),
  (16, (.iload_n 2, 17, 2, 0, .null, [], [])),
  (17, (.iconst 3, 18, 0, 0, (.int 3), [], [])),
  (18, (.idiv, 19, 0, 0, .null, [], [])),
  (19, (.iload_n 3, 20, 3, 0, .null, [], [])),
  (20, (.invokevirtual 152, 23, 46, 2, .null, [], [5007, 1303, 1304, 122, 1305])),
  (23, (.iconst 1, 24, 0, 0, (.int 1), [], [])),
  (24, (.if_icmp .ne 7, 27, 31, 0, .null, [], [])),
  (27, (.iconst 1, 28, 0, 0, (.int 1), [], [])),
  (28, (.goto 4, 31, 32, 0, .null, [], [])),
  (31, (.iconst 0, 32, 0, 0, (.int 0), [], [])),
  (32, (.istore 4, 34, 4, 0, .null, [], [])),
  (34, (.iload_n 1, 35, 1, 0, .null, [], [])),
  (35, (.iconst 2, 36, 0, 0, (.int 2), [], [])),
  (36, (.if_icmp .ne 27, 39, 63, 0, .null, [], [])),
  (39, (.iload_n 3, 40, 3, 0, .null, [], [])),
  (40, (.iconst 2, 41, 0, 0, (.int 2), [], [])),
  (41, (.if_icmp .eq 22, 44, 63, 0, .null, [], [])),
  (44, (.aload_n 0, 45, 0, 0, .null, [], [])),
  (45, (.getfield 28, 48, 6, 4, (.int 3), [], [511])),
  (48, (.iload_n 2, 49, 2, 0, .null, [], [])),
  (49, (.iload 4, 51, 4, 0, .null, [], [])),
  (51, (.ifCond .eq 7, 54, 58, 0, .null, [], [])),
  (54, (.lconst 0, 55, 0, 0, (.long 0), [], [])),
  (55, (.goto 4, 58, 59, 0, .null, [], [])),
  (58, (.lconst 1, 59, 0, 0, (.long 1), [], [])),
  (59, (.lastore, 60, 0, 0, .null, [], [])),
  (60, (.goto 62, 63, 122, 0, .null, [], [])),
  (63, (.iload 4, 65, 4, 0, .null, [], [])),
  (65, (.ifCond .ne 15, 68, 80, 0, .null, [], [])),
  (68, (.aload_n 0, 69, 0, 0, .null, [], [])),
  (69, (.getfield 28, 72, 6, 4, (.int 3), [], [511])),
  (72, (.iload_n 2, 73, 2, 0, .null, [], [])),
  (73, (.ldc2_w 139, 76, 0, 0, (.long 1152921504606846976), [], [5002])),
  (76, (.lastore, 77, 0, 0, .null, [], [])),
  (77, (.goto 45, 80, 122, 0, .null, [], [])),
  (80, (.iload_n 1, 81, 1, 0, .null, [], [])),
  (81, (.ifCond .ne 20, 84, 101, 0, .null, [], [])),
  (84, (.aload_n 0, 85, 0, 0, .null, [], [])),
  (85, (.getfield 28, 88, 6, 4, (.int 3), [], [511])),
  (88, (.iload_n 2, 89, 2, 0, .null, [], [])),
  (89, (.aload_n 0, 90, 0, 0, .null, [], [])),
  (90, (.iload_n 2, 91, 2, 0, .null, [], [])),
  (91, (.iconst 3, 92, 0, 0, (.int 3), [], [])),
  (92, (.idiv, 93, 0, 0, .null, [], [])),
  (93, (.iload_n 3, 94, 3, 0, .null, [], [])),
  (94, (.invokevirtual 155, 97, 59, 2, .null, [], [5008, 5009, 5010, 122, 5011])),
  (97, (.lastore, 98, 0, 0, .null, [], [])),
  (98, (.goto 24, 101, 122, 0, .null, [], [])),
  (101, (.aload_n 0, 102, 0, 0, .null, [], [])),
  (102, (.getfield 28, 105, 6, 4, (.int 3), [], [511])),
  (105, (.iload_n 2, 106, 2, 0, .null, [], [])),
  (106, (.iload_n 1, 107, 1, 0, .null, [], [])),
  (107, (.iconst 1, 108, 0, 0, (.int 1), [], [])),
  (108, (.if_icmp .ne 12, 111, 120, 0, .null, [], [])),
  (111, (.iload_n 3, 112, 3, 0, .null, [], [])),
  (112, (.iconst 2, 113, 0, 0, (.int 2), [], [])),
  (113, (.if_icmp .ne 7, 116, 120, 0, .null, [], [])),
  (116, (.lconst 1, 117, 0, 0, (.long 1), [], [])),
  (117, (.goto 4, 120, 121, 0, .null, [], [])),
  (120, (.lconst 0, 121, 0, 0, (.long 0), [], [])),
  (121, (.lastore, 122, 0, 0, .null, [], [])),
  (122, (.iinc 2 1, 125, 2, 0, (.int 1), [], [])),
  (125, (.goto (-123), 128, 2, 0, .null, [], [])),
  (128, (.return_, 129, 0, 0, .null, [], []))]
/-- yX6_priceByCost -/
def zc_59 : List (Nat × zE) := [(0, (.aload_n 0, 1, 0, 0, .null, [], [])),
  (1, (.iload_n 1, 2, 1, 0, .null, [], [])),
  (2, (.iload_n 2, 3, 2, 0, .null, [], [])),
  (3, (.invokevirtual 158, 6, 47, 2, .null, [], [5012, 1307, 1308, 122, 1309])),
  (6, (.i2l, 7, 0, 0, .null, [], [])),
  (7, (.bipush 40, 9, 0, 0, (.int 40), [], [])),
  (9, (.lshl, 10, 0, 0, .null, [], [])),
  (10, (.iload_n 2, 11, 2, 0, .null, [], [])),
  (11, (.i2l, 12, 0, 0, .null, [], [])),
  (12, (.iconst 2, 13, 0, 0, (.int 2), [], [])),
  (13, (.bipush 19, 15, 0, 0, (.int 19), [], [])),
  (15, (.iload_n 1, 16, 1, 0, .null, [], [])),
  (16, (.isub, 17, 0, 0, .null, [], [])),
  (17, (.imul, 18, 0, 0, .null, [], [])),
  (18, (.lshl, 19, 0, 0, .null, [], [])),
  (19, (.ladd, 20, 0, 0, .null, [], [])),
  (20, (.lreturn, 21, 0, 0, .null, [], []))]
/-- yX6_costIn -/
def zc_60 : List (Nat × zE) := [(0, (.lload_n 0, 1, 0, 0, .null, [], [])),
  (1, (.bipush 40, 3, 0, 0, (.int 40), [], [])),
  (3, (.lshr, 4, 0, 0, .null, [], [])),
  (4, (.l2i, 5, 0, 0, .null, [], [])),
  (5, (.ireturn, 6, 0, 0, .null, [], []))]
/-- yX6_wayIn -/
def zc_61 : List (Nat × zE) := [(0, (.lload_n 0, 1, 0, 0, .null, [], [])),
  (1, (.iconst 2, 2, 0, 0, (.int 2), [], [])),
  (2, (.bipush 19, 4, 0, 0, (.int 19), [], [])),
  (4, (.iload_n 2, 5, 2, 0, .null, [], [])),
  (5, (.isub, 6, 0, 0, .null, [], [])),
  (6, (.imul, 7, 0, 0, .null, [], [])),
  (7, (.lshr, 8, 0, 0, .null, [], [])),
  (8, (.l2i, 9, 0, 0, .null, [], [])),
  (9, (.iconst 3, 10, 0, 0, (.int 3), [], [])),
  (10, (.iand, 11, 0, 0, .null, [], [])),
  (11, (.ireturn, 12, 0, 0, .null, [], []))]
/-- yX7_init -/
def zc_62 : List (Nat × zE) := [(0, (.aload_n 0, 1, 0, 0, .null, [], [])),
  (1, (.invokespecial 3, 4, 9000, 0, .null, [], [211])),
  (4, (.aload_n 0, 5, 0, 0, .null, [], [])),
  (5, (.bipush 60, 7, 0, 0, (.int 60), [], [])),
  (7, (.newarray .int, 9, 0, 0, .null, [], [200])),
  (9, (.putfield 9, 12, 7, 0, (.int 3), [], [212])),
  (12, (.aload_n 0, 13, 0, 0, .null, [], [])),
  (13, (.iconst 3, 14, 0, 0, (.int 3), [], [])),
  (14, (.newarray .int, 16, 0, 0, .null, [], [200])),
  (16, (.dup, 17, 0, 0, .null, [], [])),
  (17, (.iconst 0, 18, 0, 0, (.int 0), [], [])),
  (18, (.iconst 0, 19, 0, 0, (.int 0), [], [])),
  (19, (.iastore, 20, 0, 0, .null, [], [])),
  (20, (.dup, 21, 0, 0, .null, [], [])),
  (21, (.iconst 1, 22, 0, 0, (.int 1), [], [])),
  (22, (.iconst 1, 23, 0, 0, (.int 1), [], [])),
  (23, (.iastore, 24, 0, 0, .null, [], [])),
  (24, (.dup, 25, 0, 0, .null, [], [])),
  (25, (.iconst 2, 26, 0, 0, (.int 2), [], [])),
  (26, (.iconst 0, 27, 0, 0, (.int 0), [], [])),
  (27, (.iastore, 28, 0, 0, .null, [], [])),
  (28, (.putfield 15, 31, 7, 1, (.int 3), [], [213])),
  (31, (.aload_n 0, 32, 0, 0, .null, [], [])),
  (32, (.bipush 6, 34, 0, 0, (.int 6), [], [])),
  (34, (.newarray .int, 36, 0, 0, .null, [], [200])),
  (36, (.putfield 18, 39, 7, 2, (.int 3), [], [214])),
  (39, (.aload_n 0, 40, 0, 0, .null, [], [])),
  (40, (.bipush 6, 42, 0, 0, (.int 6), [], [])),
  (42, (.newarray .int, 44, 0, 0, .null, [], [200])),
  (44, (.putfield 21, 47, 7, 3, (.int 3), [], [215])),
  (47, (.aload_n 0, 48, 0, 0, .null, [], [])),
  (48, (.bipush 6, 50, 0, 0, (.int 6), [], [])),
  (50, (.anewarray 24, 53, 3, 0, .null, [], [216])),
  (53, (.putfield 26, 56, 7, 4, (.int 3), [], [217])),
  (56, (.aload_n 0, 57, 0, 0, .null, [], [])),
  (57, (.bipush 6, 59, 0, 0, (.int 6), [], [])),
  (59, (.anewarray 30, 62, 4, 0, .null, [], [218])),
  (62, (.putfield 32, 65, 7, 5, (.int 3), [], [219])),
  (65, (.aload_n 0, 66, 0, 0, .null, [], [])),
  (66, (.iconst (-1), 67, 0, 0, (.int (-1)), [], [])),
  (67, (.putfield 36, 70, 7, 10, (.int 0), [], [220])),
  (70, (.return_, 71, 0, 0, .null, [], []))]
/-- yX7_copyFrom -/
def zc_63 : List (Nat × zE) := [(0, (.aload_n 1, 1, 1, 0, .null, [], [])),
  (1, (.getfield 9, 4, 7, 0, (.int 3), [], [212])),
  (4, (.iconst 0, 5, 0, 0, (.int 0), [], [])),
  (5, (.aload_n 0, 6, 0, 0, .null, [], [])),
  (6, (.getfield 9, 9, 7, 0, (.int 3), [], [212])),
  (9, (.iconst 0, 10, 0, 0, (.int 0), [], [])),
  (10, (.bipush 60, 12, 0, 0, (.int 60), [], [])),
  (12, (.invokestatic 40, 15, 9001, 0, .null, [], [3714])),
  (15, (.aload_n 1, 16, 1, 0, .null, [], [])),
  (16, (.getfield 15, 19, 7, 1, (.int 3), [], [213])),
  (19, (.iconst 0, 20, 0, 0, (.int 0), [], [])),
  (20, (.aload_n 0, 21, 0, 0, .null, [], [])),
  (21, (.getfield 15, 24, 7, 1, (.int 3), [], [213])),
  (24, (.iconst 0, 25, 0, 0, (.int 0), [], [])),
  (25, (.getstatic 46, 28, 0, 0, (.ref 1), [], [88888])),
  (28, (.arraylength, 29, 0, 0, .null, [], [])),
  (29, (.invokestatic 40, 32, 9001, 0, .null, [], [3714])),
  (32, (.aload_n 1, 33, 1, 0, .null, [], [])),
  (33, (.getfield 18, 36, 7, 2, (.int 3), [], [214])),
  (36, (.iconst 0, 37, 0, 0, (.int 0), [], [])),
  (37, (.aload_n 0, 38, 0, 0, .null, [], [])),
  (38, (.getfield 18, 41, 7, 2, (.int 3), [], [214])),
  (41, (.iconst 0, 42, 0, 0, (.int 0), [], [])),
  (42, (.bipush 6, 44, 0, 0, (.int 6), [], [])),
  (44, (.invokestatic 40, 47, 9001, 0, .null, [], [3714])),
  (47, (.aload_n 1, 48, 1, 0, .null, [], [])),
  (48, (.getfield 21, 51, 7, 3, (.int 3), [], [215])),
  (51, (.iconst 0, 52, 0, 0, (.int 0), [], [])),
  (52, (.aload_n 0, 53, 0, 0, .null, [], [])),
  (53, (.getfield 21, 56, 7, 3, (.int 3), [], [215])),
  (56, (.iconst 0, 57, 0, 0, (.int 0), [], [])),
  (57, (.bipush 6, 59, 0, 0, (.int 6), [], [])),
  (59, (.invokestatic 40, 62, 9001, 0, .null, [], [3714])),
  (62, (.iconst 0, 63, 0, 0, (.int 0), [], [])),
  (63, (.istore_n 2, 64, 2, 0, .null, [], [])),
  (64, (.iload_n 2, 65, 2, 0, .null, [], [])),
  (65, (.bipush 6, 67, 0, 0, (.int 6), [], [])),
  (67, (.if_icmp .ge 21, 70, 88, 0, .null, [], [])),
  (70, (.aload_n 0, 71, 0, 0, .null, [], [])),
  (71, (.getfield 26, 74, 7, 4, (.int 3), [], [217])),
  (74, (.iload_n 2, 75, 2, 0, .null, [], [])),
  (75, (.aload_n 1, 76, 1, 0, .null, [], [])),
  (76, (.getfield 26, 79, 7, 4, (.int 3), [], [217])),
  (79, (.iload_n 2, 80, 2, 0, .null, [], [])),
  (80, (.aaload, 81, 0, 0, .null, [], [])),
  (81, (.aastore, 82, 0, 0, .null, [], [])),
  (82, (.iinc 2 1, 85, 2, 0, (.int 1), [], [])),
  (85, (.goto (-21), 88, 64, 0, .null, [], [])),
  (88, (.iconst 0, 89, 0, 0, (.int 0), [], [])),
  (89, (.istore_n 2, 90, 2, 0, .null, [], [])),
  (90, (.iload_n 2, 91, 2, 0, .null, [], [])),
  (91, (.bipush 6, 93, 0, 0, (.int 6), [], [])),
  (93, (.if_icmp .ge 21, 96, 114, 0, .null, [], [])),
  (96, (.aload_n 0, 97, 0, 0, .null, [], [])),
  (97, (.getfield 32, 100, 7, 5, (.int 3), [], [219])),
  (100, (.iload_n 2, 101, 2, 0, .null, [], [])),
  (101, (.aload_n 1, 102, 1, 0, .null, [], [])),
  (102, (.getfield 32, 105, 7, 5, (.int 3), [], [219])),
  (105, (.iload_n 2, 106, 2, 0, .null, [], [])),
  (106, (.aaload, 107, 0, 0, .null, [], [])),
  (107, (.aastore, 108, 0, 0, .null, [], [])),
  (108, (.iinc 2 1, 111, 2, 0, (.int 1), [], [])),
  (111, (.goto (-21), 114, 90, 0, .null, [], [])),
  (114, (.aload_n 0, 115, 0, 0, .null, [], [])),
  (115, (.aload_n 1, 116, 1, 0, .null, [], [])),
  (116, (.getfield 49, 119, 7, 6, (.int 0), [], [909])),
  (119, (.putfield 49, 122, 7, 6, (.int 0), [], [909])),
  (122, (.aload_n 0, 123, 0, 0, .null, [], [])),
  (123, (.aload_n 1, 124, 1, 0, .null, [], [])),
  (124, (.getfield 52, 127, 7, 7, (.int 0), [], [3715])),
  (127, (.putfield 52, 130, 7, 7, (.int 0), [], [3715])),
  (130, (.aload_n 0, 131, 0, 0, .null, [], [])),
  (131, (.aload_n 1, 132, 1, 0, .null, [], [])),
  (132, (.getfield 55, 135, 7, 8, (.int 0), [], [2606])),
  (135, (.putfield 55, 138, 7, 8, (.int 0), [], [2606])),
  (138, (.aload_n 0, 139, 0, 0, .null, [], [])),
  (139, (.aload_n 1, 140, 1, 0, .null, [], [])),
  (140, (.getfield 58, 143, 7, 9, (.int 0), [], [1107])),
  (143, (.putfield 58, 146, 7, 9, (.int 0), [], [1107])),
  (146, (.aload_n 0, 147, 0, 0, .null, [], [])),
  (147, (.aload_n 1, 148, 1, 0, .null, [], [])),
  (148, (.getfield 36, 151, 7, 10, (.int 0), [], [220])),
  (151, (.putfield 36, 154, 7, 10, (.int 0), [], [220])),
  (154, (.return_, 155, 0, 0, .null, [], []))]
/-- yX7_isSyllable -/
def zc_64 : List (Nat × zE) := [(0, (.iload_n 0, 1, 0, 0, .null, [], [])),
  (1, (.ifCond .lt 30, 4, 31, 0, .null, [], [])),
  (4, (.iload_n 0, 5, 0, 0, .null, [], [])),
  (5, (.iconst 2, 6, 0, 0, (.int 2), [], [])),
  (6, (.if_icmp .gt 25, 9, 31, 0, .null, [], [])),
  (9, (.iload_n 1, 10, 1, 0, .null, [], [])),
  (10, (.ifCond .lt 21, 13, 31, 0, .null, [], [])),
  (13, (.iload_n 1, 14, 1, 0, .null, [], [])),
  (14, (.iconst 1, 15, 0, 0, (.int 1), [], [])),
  (15, (.if_icmp .gt 16, 18, 31, 0, .null, [], [])),
  (18, (.iload_n 2, 19, 2, 0, .null, [], [])),
  (19, (.ifCond .lt 12, 22, 31, 0, .null, [], [])),
  (22, (.iload_n 2, 23, 2, 0, .null, [], [])),
  (23, (.iconst 1, 24, 0, 0, (.int 1), [], [])),
  (24, (.if_icmp .gt 7, 27, 31, 0, .null, [], [])),
  (27, (.iconst 1, 28, 0, 0, (.int 1), [], [])),
  (28, (.goto 4, 31, 32, 0, .null, [], [])),
  (31, (.iconst 0, 32, 0, 0, (.int 0), [], [])),
  (32, (.ireturn, 33, 1, 0, .null, [], []))]
/-- yX7_addSyllable -/
def zc_65 : List (Nat × zE) := [(0, (.iconst 3, 1, 0, 0, (.int 3), [], [])),
  (1, (.aload_n 0, 2, 0, 0, .null, [], [])),
  (2, (.getfield 49, 5, 7, 6, (.int 0), [], [909])),
  (5, (.imul, 6, 0, 0, .null, [], [])),
  (6, (.istore 4, 8, 4, 0, .null, [], [])),
  (8, (.iload_n 1, 9, 1, 0, .null, [], [])),
  (9, (.iload_n 2, 10, 2, 0, .null, [], [])),
  (10, (.iload_n 3, 11, 3, 0, .null, [], [])),
  (11, (.invokestatic 61, 14, 64, 3, .null, [], [910, 822, 14, 823])),
  (14, (.ifCond .eq 20, 17, 34, 0, .null, [], [])),
  (17, (.iload 4, 19, 4, 0, .null, [], [])),
  (19, (.ifCond .lt 15, 22, 34, 0, .null, [], [])),
  (22, (.iload 4, 24, 4, 0, .null, [], [])),
  (24, (.iconst 2, 25, 0, 0, (.int 2), [], [])),
  (25, (.iadd, 26, 0, 0, .null, [], [])),
  (26, (.aload_n 0, 27, 0, 0, .null, [], [])),
  (27, (.getfield 9, 30, 7, 0, (.int 3), [], [212])),
  (30, (.arraylength, 31, 0, 0, .null, [], [])),
  (31, (.if_icmp .lt 5, 34, 36, 0, .null, [], [])),
  (34, (.iconst 0, 35, 0, 0, (.int 0), [], [])),
  (35, (.ireturn, 36, 1, 0, .null, [], [])),
  (36, (.aload_n 0, 37, 0, 0, .null, [], [])),
  (37, (.getfield 9, 40, 7, 0, (.int 3), [], [212])),
  (40, (.iload 4, 42, 4, 0, .null, [], [])),
  (42, (.iconst 0, 43, 0, 0, (.int 0), [], [])),
  (43, (.iadd, 44, 0, 0, .null, [], [])),
  (44, (.iload_n 1, 45, 1, 0, .null, [], [])),
  (45, (.iastore, 46, 0, 0, .null, [], [])),
  (46, (.aload_n 0, 47, 0, 0, .null, [], [])),
  (47, (.getfield 9, 50, 7, 0, (.int 3), [], [212])),
  (50, (.iload 4, 52, 4, 0, .null, [], [])),
  (52, (.iconst 1, 53, 0, 0, (.int 1), [], [])),
  (53, (.iadd, 54, 0, 0, .null, [], [])),
  (54, (.iload_n 2, 55, 2, 0, .null, [], [])),
  (55, (.iastore, 56, 0, 0, .null, [], [])),
  (56, (.aload_n 0, 57, 0, 0, .null, [], [])),
  (57, (.getfield 9, 60, 7, 0, (.int 3), [], [212])),
  (60, (.iload 4, 62, 4, 0, .null, [], [])),
  (62, (.iconst 2, 63, 0, 0, (.int 2), [], [])),
  (63, (.iadd, 64, 0, 0, .null, [], [])),
  (64, (.iload_n 3, 65, 3, 0, .null, [], [])),
  (65, (.iastore, 66, 0, 0, .null, [], [])),
  (66, (.aload_n 0, 67, 0, 0, .null, [], [])),
  (67, (.dup, 68, 0, 0, .null, [], [])),
  (68, (.getfield 49, 71, 7, 6, (.int 0), [], [909])),
  (71, (.iconst 1, 72, 0, 0, (.int 1), [], [])),
  (72, (.iadd, 73, 0, 0, .null, [], [])),
  (73, (.putfield 49, 76, 7, 6, (.int 0), [], [909])),
  (76, (.iconst 1, 77, 0, 0, (.int 1), [], [])),
  (77, (.ireturn, 78, 1, 0, .null, [], []))]
/-- yX7_hasSyllable -/
def zc_66 : List (Nat × zE) := [(0, (.iload_n 1, 1, 1, 0, .null, [], [])),
  (1, (.ifCond .lt 15, 4, 16, 0, .null, [], [])),
  (4, (.iload_n 1, 5, 1, 0, .null, [], [])),
  (5, (.aload_n 0, 6, 0, 0, .null, [], [])),
  (6, (.getfield 49, 9, 7, 6, (.int 0), [], [909])),
  (9, (.if_icmp .ge 7, 12, 16, 0, .null, [], [])),
  (12, (.iconst 1, 13, 0, 0, (.int 1), [], [])),
  (13, (.goto 4, 16, 17, 0, .null, [], [])),
  (16, (.iconst 0, 17, 0, 0, (.int 0), [], [])),
  (17, (.ireturn, 18, 1, 0, .null, [], []))]
/-- yX7_told -/
def zc_67 : List (Nat × zE) := [(0, (.iconst 3, 1, 0, 0, (.int 3), [], [])),
  (1, (.iload_n 1, 2, 1, 0, .null, [], [])),
  (2, (.imul, 3, 0, 0, .null, [], [])),
  (3, (.iload_n 2, 4, 2, 0, .null, [], [])),
  (4, (.iadd, 5, 0, 0, .null, [], [])),
  (5, (.istore_n 3, 6, 3, 0, .null, [], [])),
  (6, (.iload_n 3, 7, 3, 0, .null, [], [])),
  (7, (.ifCond .lt 21, 10, 28, 0, .null, [], [])),
  (10, (.iload_n 3, 11, 3, 0, .null, [], [])),
  (11, (.aload_n 0, 12, 0, 0, .null, [], [])),
  (12, (.getfield 9, 15, 7, 0, (.int 3), [], [212])),
  (15, (.arraylength, 16, 0, 0, .null, [], [])),
  (16, (.if_icmp .ge 12, 19, 28, 0, .null, [], [])),
  (19, (.aload_n 0, 20, 0, 0, .null, [], [])),
  (20, (.getfield 9, 23, 7, 0, (.int 3), [], [212])),
  (23, (.iload_n 3, 24, 3, 0, .null, [], [])),
  (24, (.iaload, 25, 0, 0, .null, [], [])),
  (25, (.goto 4, 28, 29, 0, .null, [], [])),
  (28, (.iconst (-1), 29, 0, 0, (.int (-1)), [], [])),
  (29, (.ireturn, 30, 0, 0, .null, [], []))]
/-- yX7_setTold -/
def zc_68 : List (Nat × zE) := [(0, (.iconst 3, 1, 0, 0, (.int 3), [], [])),
  (1, (.iload_n 1, 2, 1, 0, .null, [], [])),
  (2, (.imul, 3, 0, 0, .null, [], [])),
  (3, (.iload_n 2, 4, 2, 0, .null, [], [])),
  (4, (.iadd, 5, 0, 0, .null, [], [])),
  (5, (.istore 4, 7, 4, 0, .null, [], [])),
  (7, (.iload 4, 9, 4, 0, .null, [], [])),
  (9, (.ifCond .lt 21, 12, 30, 0, .null, [], [])),
  (12, (.iload 4, 14, 4, 0, .null, [], [])),
  (14, (.aload_n 0, 15, 0, 0, .null, [], [])),
  (15, (.getfield 9, 18, 7, 0, (.int 3), [], [212])),
  (18, (.arraylength, 19, 0, 0, .null, [], [])),
  (19, (.if_icmp .ge 11, 22, 30, 0, .null, [], [])),
  (22, (.aload_n 0, 23, 0, 0, .null, [], [])),
  (23, (.getfield 9, 26, 7, 0, (.int 3), [], [212])),
  (26, (.iload 4, 28, 4, 0, .null, [], [])),
  (28, (.iload_n 3, 29, 3, 0, .null, [], [])),
  (29, (.iastore, 30, 0, 0, .null, [], [])),
  (30, (.return_, 31, 0, 0, .null, [], []))]
/-- yX7_turn -/
def zc_69 : List (Nat × zE) := [(0, (.iconst 1, 1, 0, 0, (.int 1), [], [])),
  (1, (.aload_n 0, 2, 0, 0, .null, [], [])),
  (2, (.iload_n 1, 3, 1, 0, .null, [], [])),
  (3, (.iload_n 2, 4, 2, 0, .null, [], [])),
  (4, (.invokevirtual 65, 7, 67, 2, .null, [], [4017, 1100, 1101, 14, 1102])),
  (7, (.isub, 8, 0, 0, .null, [], [])),
  (8, (.istore_n 3, 9, 3, 0, .null, [], [])),
  (9, (.aload_n 0, 10, 0, 0, .null, [], [])),
  (10, (.iload_n 1, 11, 1, 0, .null, [], [])),
  (11, (.iload_n 2, 12, 2, 0, .null, [], [])),
  (12, (.iload_n 3, 13, 3, 0, .null, [], [])),
  (13, (.invokevirtual 69, 16, 68, 3, .null, [], [4018, 3922, 3923, 14, 4000])),
  (16, (.iload_n 3, 17, 3, 0, .null, [], [])),
  (17, (.ireturn, 18, 0, 0, .null, [], []))]
/-- yX7_termOf -/
def zc_70 : List (Nat × zE) := [(0, (.iload_n 1, 1, 1, 0, .null, [], [])),
  (1, (.ifCond .lt 21, 4, 22, 0, .null, [], [])),
  (4, (.iload_n 1, 5, 1, 0, .null, [], [])),
  (5, (.aload_n 0, 6, 0, 0, .null, [], [])),
  (6, (.getfield 15, 9, 7, 1, (.int 3), [], [213])),
  (9, (.arraylength, 10, 0, 0, .null, [], [])),
  (10, (.if_icmp .ge 12, 13, 22, 0, .null, [], [])),
  (13, (.aload_n 0, 14, 0, 0, .null, [], [])),
  (14, (.getfield 15, 17, 7, 1, (.int 3), [], [213])),
  (17, (.iload_n 1, 18, 1, 0, .null, [], [])),
  (18, (.iaload, 19, 0, 0, .null, [], [])),
  (19, (.goto 4, 22, 23, 0, .null, [], [])),
  (22, (.iconst 0, 23, 0, 0, (.int 0), [], [])),
  (23, (.ireturn, 24, 0, 0, .null, [], []))]
/-- yX7_setTerm -/
def zc_71 : List (Nat × zE) := [(0, (.iload_n 1, 1, 1, 0, .null, [], [])),
  (1, (.ifCond .lt 19, 4, 20, 0, .null, [], [])),
  (4, (.iload_n 1, 5, 1, 0, .null, [], [])),
  (5, (.aload_n 0, 6, 0, 0, .null, [], [])),
  (6, (.getfield 15, 9, 7, 1, (.int 3), [], [213])),
  (9, (.arraylength, 10, 0, 0, .null, [], [])),
  (10, (.if_icmp .ge 10, 13, 20, 0, .null, [], [])),
  (13, (.aload_n 0, 14, 0, 0, .null, [], [])),
  (14, (.getfield 15, 17, 7, 1, (.int 3), [], [213])),
  (17, (.iload_n 1, 18, 1, 0, .null, [], [])),
  (18, (.iload_n 2, 19, 2, 0, .null, [], [])),
  (19, (.iastore, 20, 0, 0, .null, [], [])),
  (20, (.return_, 21, 0, 0, .null, [], []))]
/-- yX7_addHeard -/
def zc_72 : List (Nat × zE) := [(0, (.aload_n 0, 1, 0, 0, .null, [], [])),
  (1, (.getfield 52, 4, 7, 7, (.int 0), [], [3715])),
  (4, (.ifCond .lt 12, 7, 16, 0, .null, [], [])),
  (7, (.aload_n 0, 8, 0, 0, .null, [], [])),
  (8, (.getfield 52, 11, 7, 7, (.int 0), [], [3715])),
  (11, (.bipush 6, 13, 0, 0, (.int 6), [], [])),
  (13, (.if_icmp .lt 5, 16, 18, 0, .null, [], [])),
  (16, (.iconst 0, 17, 0, 0, (.int 0), [], [])),
  (17, (.ireturn, 18, 1, 0, .null, [], [])),
  (18, (.aload_n 0, 19, 0, 0, .null, [], [])),
  (19, (.getfield 18, 22, 7, 2, (.int 3), [], [214])),
  (22, (.aload_n 0, 23, 0, 0, .null, [], [])),
  (23, (.getfield 52, 26, 7, 7, (.int 0), [], [3715])),
  (26, (.iload_n 1, 27, 1, 0, .null, [], [])),
  (27, (.iastore, 28, 0, 0, .null, [], [])),
  (28, (.aload_n 0, 29, 0, 0, .null, [], [])),
  (29, (.getfield 21, 32, 7, 3, (.int 3), [], [215])),
  (32, (.aload_n 0, 33, 0, 0, .null, [], [])),
  (33, (.getfield 52, 36, 7, 7, (.int 0), [], [3715])),
  (36, (.iload_n 2, 37, 2, 0, .null, [], [])),
  (37, (.iastore, 38, 0, 0, .null, [], [])),
  (38, (.aload_n 0, 39, 0, 0, .null, [], [])),
  (39, (.dup, 40, 0, 0, .null, [], [])),
  (40, (.getfield 52, 43, 7, 7, (.int 0), [], [3715])),
  (43, (.iconst 1, 44, 0, 0, (.int 1), [], [])),
  (44, (.iadd, 45, 0, 0, .null, [], [])),
  (45, (.putfield 52, 48, 7, 7, (.int 0), [], [3715])),
  (48, (.iconst 1, 49, 0, 0, (.int 1), [], [])),
  (49, (.ireturn, 50, 1, 0, .null, [], []))]
/-- yX7_heardPlace -/
def zc_73 : List (Nat × zE) := [(0, (.iload_n 1, 1, 1, 0, .null, [], [])),
  (1, (.ifCond .lt 21, 4, 22, 0, .null, [], [])),
  (4, (.iload_n 1, 5, 1, 0, .null, [], [])),
  (5, (.aload_n 0, 6, 0, 0, .null, [], [])),
  (6, (.getfield 18, 9, 7, 2, (.int 3), [], [214])),
  (9, (.arraylength, 10, 0, 0, .null, [], [])),
  (10, (.if_icmp .ge 12, 13, 22, 0, .null, [], [])),
  (13, (.aload_n 0, 14, 0, 0, .null, [], [])),
  (14, (.getfield 18, 17, 7, 2, (.int 3), [], [214])),
  (17, (.iload_n 1, 18, 1, 0, .null, [], [])),
  (18, (.iaload, 19, 0, 0, .null, [], [])),
  (19, (.goto 4, 22, 23, 0, .null, [], [])),
  (22, (.iconst (-1), 23, 0, 0, (.int (-1)), [], [])),
  (23, (.ireturn, 24, 0, 0, .null, [], []))]
/-- yX7_heardWay -/
def zc_74 : List (Nat × zE) := [(0, (.iload_n 1, 1, 1, 0, .null, [], [])),
  (1, (.ifCond .lt 21, 4, 22, 0, .null, [], [])),
  (4, (.iload_n 1, 5, 1, 0, .null, [], [])),
  (5, (.aload_n 0, 6, 0, 0, .null, [], [])),
  (6, (.getfield 21, 9, 7, 3, (.int 3), [], [215])),
  (9, (.arraylength, 10, 0, 0, .null, [], [])),
  (10, (.if_icmp .ge 12, 13, 22, 0, .null, [], [])),
  (13, (.aload_n 0, 14, 0, 0, .null, [], [])),
  (14, (.getfield 21, 17, 7, 3, (.int 3), [], [215])),
  (17, (.iload_n 1, 18, 1, 0, .null, [], [])),
  (18, (.iaload, 19, 0, 0, .null, [], [])),
  (19, (.goto 4, 22, 23, 0, .null, [], [])),
  (22, (.iconst (-1), 23, 0, 0, (.int (-1)), [], [])),
  (23, (.ireturn, 24, 0, 0, .null, [], []))]
/-- yX7_addMetre -/
def zc_75 : List (Nat × zE) := [(0, (.aload_n 0, 1, 0, 0, .null, [], [])),
  (1, (.getfield 55, 4, 7, 8, (.int 0), [], [2606])),
  (4, (.ifCond .lt 35, 7, 39, 0, .null, [], [])),
  (7, (.aload_n 0, 8, 0, 0, .null, [], [])),
  (8, (.getfield 55, 11, 7, 8, (.int 0), [], [2606])),
  (11, (.aload_n 0, 12, 0, 0, .null, [], [])),
  (12, (.getfield 26, 15, 7, 4, (.int 3), [], [217])),
  (15, (.arraylength, 16, 0, 0, .null, [], [])),
  (16, (.if_icmp .ge 23, 19, 39, 0, .null, [], [])),
  (19, (.aload_n 0, 20, 0, 0, .null, [], [])),
  (20, (.getfield 26, 23, 7, 4, (.int 3), [], [217])),
  (23, (.aload_n 0, 24, 0, 0, .null, [], [])),
  (24, (.getfield 55, 27, 7, 8, (.int 0), [], [2606])),
  (27, (.aload_n 1, 28, 1, 0, .null, [], [])),
  (28, (.aastore, 29, 0, 0, .null, [], [])),
  (29, (.aload_n 0, 30, 0, 0, .null, [], [])),
  (30, (.dup, 31, 0, 0, .null, [], [])),
  (31, (.getfield 55, 34, 7, 8, (.int 0), [], [2606])),
  (34, (.iconst 1, 35, 0, 0, (.int 1), [], [])),
  (35, (.iadd, 36, 0, 0, .null, [], [])),
  (36, (.putfield 55, 39, 7, 8, (.int 0), [], [2606])),
  (39, (.return_, 40, 0, 0, .null, [], []))]
/-- yX7_addLaw -/
def zc_76 : List (Nat × zE) := [(0, (.aload_n 0, 1, 0, 0, .null, [], [])),
  (1, (.getfield 58, 4, 7, 9, (.int 0), [], [1107])),
  (4, (.ifCond .lt 35, 7, 39, 0, .null, [], [])),
  (7, (.aload_n 0, 8, 0, 0, .null, [], [])),
  (8, (.getfield 58, 11, 7, 9, (.int 0), [], [1107])),
  (11, (.aload_n 0, 12, 0, 0, .null, [], [])),
  (12, (.getfield 32, 15, 7, 5, (.int 3), [], [219])),
  (15, (.arraylength, 16, 0, 0, .null, [], [])),
  (16, (.if_icmp .ge 23, 19, 39, 0, .null, [], [])),
  (19, (.aload_n 0, 20, 0, 0, .null, [], [])),
  (20, (.getfield 32, 23, 7, 5, (.int 3), [], [219])),
  (23, (.aload_n 0, 24, 0, 0, .null, [], [])),
  (24, (.getfield 58, 27, 7, 9, (.int 0), [], [1107])),
  (27, (.aload_n 1, 28, 1, 0, .null, [], [])),
  (28, (.aastore, 29, 0, 0, .null, [], [])),
  (29, (.aload_n 0, 30, 0, 0, .null, [], [])),
  (30, (.dup, 31, 0, 0, .null, [], [])),
  (31, (.getfield 58, 34, 7, 9, (.int 0), [], [1107])),
  (34, (.iconst 1, 35, 0, 0, (.int 1), [], [])),
  (35, (.iadd, 36, 0, 0, .null, [], [])),
  (36, (.putfield 58, 39, 7, 9, (.int 0), [], [1107])),
  (39, (.return_, 40, 0, 0, .null, [], []))]
/-- yX7_metreAt -/
def zc_77 : List (Nat × zE) := [(0, (.iload_n 1, 1, 1, 0, .null, [], [])),
  (1, (.ifCond .lt 29, 4, 30, 0, .null, [], [])),
  (4, (.iload_n 1, 5, 1, 0, .null, [], [])),
  (5, (.aload_n 0, 6, 0, 0, .null, [], [])),
  (6, (.getfield 55, 9, 7, 8, (.int 0), [], [2606])),
  (9, (.if_icmp .ge 21, 12, 30, 0, .null, [], [])),
  (12, (.iload_n 1, 13, 1, 0, .null, [], [])),
  (13, (.aload_n 0, 14, 0, 0, .null, [], [])),
  (14, (.getfield 26, 17, 7, 4, (.int 3), [], [217])),
  (17, (.arraylength, 18, 0, 0, .null, [], [])),
  (18, (.if_icmp .ge 12, 21, 30, 0, .null, [], [])),
  (21, (.aload_n 0, 22, 0, 0, .null, [], [])),
  (22, (.getfield 26, 25, 7, 4, (.int 3), [], [217])),
  (25, (.iload_n 1, 26, 1, 0, .null, [], [])),
  (26, (.aaload, 27, 0, 0, .null, [], [])),
  (27, (.goto 4, 30, 31, 0, .null, [], [])),
  (30, (.aconst_null, 31, 0, 0, .null, [], [])),
  (31, (.areturn, 32, 0, 0, .null, [], []))]
/-- yX7_lawAt -/
def zc_78 : List (Nat × zE) := [(0, (.iload_n 1, 1, 1, 0, .null, [], [])),
  (1, (.ifCond .lt 29, 4, 30, 0, .null, [], [])),
  (4, (.iload_n 1, 5, 1, 0, .null, [], [])),
  (5, (.aload_n 0, 6, 0, 0, .null, [], [])),
  (6, (.getfield 58, 9, 7, 9, (.int 0), [], [1107])),
  (9, (.if_icmp .ge 21, 12, 30, 0, .null, [], [])),
  (12, (.iload_n 1, 13, 1, 0, .null, [], [])),
  (13, (.aload_n 0, 14, 0, 0, .null, [], [])),
  (14, (.getfield 32, 17, 7, 5, (.int 3), [], [219])),
  (17, (.arraylength, 18, 0, 0, .null, [], [])),
  (18, (.if_icmp .ge 12, 21, 30, 0, .null, [], [])),
  (21, (.aload_n 0, 22, 0, 0, .null, [], [])),
  (22, (.getfield 32, 25, 7, 5, (.int 3), [], [219])),
  (25, (.iload_n 1, 26, 1, 0, .null, [], [])),
  (26, (.aaload, 27, 0, 0, .null, [], [])),
  (27, (.goto 4, 30, 31, 0, .null, [], [])),
  (30, (.aconst_null, 31, 0, 0, .null, [], [])),
  (31, (.areturn, 32, 0, 0, .null, [], []))]
/-- yX8_init -/
def zc_79 : List (Nat × zE) := [(0, (.aload_n 0, 1, 0, 0, .null, [], [])),
  (1, (.invokespecial 3, 4, 9000, 0, .null, [], [305])),
  (4, (.aload_n 0, 5, 0, 0, .null, [], [])),
  (5, (.sipush 400, 8, 0, 0, (.int 400), [], [])),
  (8, (.newarray .int, 10, 0, 0, .null, [], [200])),
  (10, (.putfield 9, 13, 8, 0, (.int 3), [], [306])),
  (13, (.return_, 14, 0, 0, .null, [], []))]
/-- yX8_hasRoomForFive -/
def zc_80 : List (Nat × zE) := [(0, (.aload_n 0, 1, 0, 0, .null, [], [])),
  (1, (.getfield 15, 4, 8, 1, (.int 0), [], [1620])),
  (4, (.bipush 20, 6, 0, 0, (.int 20), [], [])),
  (6, (.iadd, 7, 0, 0, .null, [], [])),
  (7, (.sipush 400, 10, 0, 0, (.int 400), [], [])),
  (10, (.if_icmp .gt 7, 13, 17, 0, .null, [], [])),
  (13, (.iconst 1, 14, 0, 0, (.int 1), [], [])),
  (14, (.goto 4, 17, 18, 0, .null, [], [])),
  (17, (.iconst 0, 18, 0, 0, (.int 0), [], [])),
  (18, (.ireturn, 19, 1, 0, .null, [], []))]
/-- yX8_addFour -/
def zc_81 : List (Nat × zE) := [(0, (.bipush 24, 2, 0, 0, (.int 24), [], [])),
  (2, (.istore_n 2, 3, 2, 0, .null, [], [])),
  (3, (.iload_n 2, 4, 2, 0, .null, [], [])),
  (4, (.ifCond .lt 54, 7, 58, 0, .null, [], [])),
  (7, (.aload_n 0, 8, 0, 0, .null, [], [])),
  (8, (.getfield 15, 11, 8, 1, (.int 0), [], [1620])),
  (11, (.ifCond .lt 41, 14, 52, 0, .null, [], [])),
  (14, (.aload_n 0, 15, 0, 0, .null, [], [])),
  (15, (.getfield 15, 18, 8, 1, (.int 0), [], [1620])),
  (18, (.aload_n 0, 19, 0, 0, .null, [], [])),
  (19, (.getfield 9, 22, 8, 0, (.int 3), [], [306])),
  (22, (.arraylength, 23, 0, 0, .null, [], [])),
  (23, (.if_icmp .ge 29, 26, 52, 0, .null, [], [])),
  (26, (.aload_n 0, 27, 0, 0, .null, [], [])),
  (27, (.getfield 9, 30, 8, 0, (.int 3), [], [306])),
  (30, (.aload_n 0, 31, 0, 0, .null, [], [])),
  (31, (.getfield 15, 34, 8, 1, (.int 0), [], [1620])),
  (34, (.iload_n 1, 35, 1, 0, .null, [], [])),
  (35, (.iload_n 2, 36, 2, 0, .null, [], [])),
  (36, (.ishr, 37, 0, 0, .null, [], [])),
  (37, (.sipush 255, 40, 0, 0, (.int 255), [], [])),
  (40, (.iand, 41, 0, 0, .null, [], [])),
  (41, (.iastore, 42, 0, 0, .null, [], [])),
  (42, (.aload_n 0, 43, 0, 0, .null, [], [])),
  (43, (.dup, 44, 0, 0, .null, [], [])),
  (44, (.getfield 15, 47, 8, 1, (.int 0), [], [1620])),
  (47, (.iconst 1, 48, 0, 0, (.int 1), [], [])),
  (48, (.iadd, 49, 0, 0, .null, [], [])),
  (49, (.putfield 15, 52, 8, 1, (.int 0), [], [1620])),
  (52, (.iinc 2 (-8), 55, 2, 0, (.int (-8)), [], [])),
  (55, (.goto (-52), 58, 3, 0, .null, [], [])),
  (58, (.return_, 59, 0, 0, .null, [], []))]
/-- yX8_byteAt -/
def zc_82 : List (Nat × zE) := [(0, (.iload_n 1, 1, 1, 0, .null, [], [])),
  (1, (.ifCond .lt 29, 4, 30, 0, .null, [], [])),
  (4, (.iload_n 1, 5, 1, 0, .null, [], [])),
  (5, (.aload_n 0, 6, 0, 0, .null, [], [])),
  (6, (.getfield 15, 9, 8, 1, (.int 0), [], [1620])),
  (9, (.if_icmp .ge 21, 12, 30, 0, .null, [], [])),
  (12, (.iload_n 1, 13, 1, 0, .null, [], [])),
  (13, (.aload_n 0, 14, 0, 0, .null, [], [])),
  (14, (.getfield 9, 17, 8, 0, (.int 3), [], [306])),
  (17, (.arraylength, 18, 0, 0, .null, [], [])),
  (18, (.if_icmp .ge 12, 21, 30, 0, .null, [], [])),
  (21, (.aload_n 0, 22, 0, 0, .null, [], [])),
  (22, (.getfield 9, 25, 8, 0, (.int 3), [], [306])),
  (25, (.iload_n 1, 26, 1, 0, .null, [], [])),
  (26, (.iaload, 27, 0, 0, .null, [], [])),
  (27, (.goto 4, 30, 31, 0, .null, [], [])),
  (30, (.iconst (-1), 31, 0, 0, (.int (-1)), [], [])),
  (31, (.ireturn, 32, 0, 0, .null, [], []))]
/-- yX9_init -/
def zc_83 : List (Nat × zE) := [(0, (.aload_n 0, 1, 0, 0, .null, [], [])),
  (1, (.invokespecial 3, 4, 9000, 0, .null, [], [309])),
  (4, (.aload_n 0, 5, 0, 0, .null, [], [])),
  (5, (.sipush 401, 8, 0, 0, (.int 401), [], [])),
  (8, (.newarray .int, 10, 0, 0, .null, [], [200])),
  (10, (.putfield 9, 13, 9, 0, (.int 3), [], [310])),
  (13, (.aload_n 0, 14, 0, 0, .null, [], [])),
  (14, (.sipush 401, 17, 0, 0, (.int 401), [], [])),
  (17, (.newarray .int, 19, 0, 0, .null, [], [200])),
  (19, (.putfield 15, 22, 9, 1, (.int 3), [], [311])),
  (22, (.aload_n 0, 23, 0, 0, .null, [], [])),
  (23, (.sipush 401, 26, 0, 0, (.int 401), [], [])),
  (26, (.newarray .int, 28, 0, 0, .null, [], [200])),
  (28, (.putfield 18, 31, 9, 2, (.int 3), [], [312])),
  (31, (.aload_n 0, 32, 0, 0, .null, [], [])),
  (32, (.iconst (-1), 33, 0, 0, (.int (-1)), [], [])),
  (33, (.putfield 21, 36, 9, 5, (.int 0), [], [313])),
  (36, (.return_, 37, 0, 0, .null, [], []))]
/-- yX9_readTape -/
def zc_84 : List (Nat × zE) := [(0, (.aload_n 0, 1, 0, 0, .null, [], [])),
  (1, (.iconst 0, 2, 0, 0, (.int 0), [], [])),
  (2, (.putfield 25, 5, 9, 3, (.int 0), [], [1902])),
  (5, (.aload_n 0, 6, 0, 0, .null, [], [])),
  (6, (.iconst 0, 7, 0, 0, (.int 0), [], [])),
  (7, (.putfield 28, 10, 9, 4, (.int 0), [], [1903])),
  (10, (.aload_n 0, 11, 0, 0, .null, [], [])),
  (11, (.iconst (-1), 12, 0, 0, (.int (-1)), [], [])),
  (12, (.putfield 21, 15, 9, 5, (.int 0), [], [313])),
  (15, (.iconst 0, 16, 0, 0, (.int 0), [], [])),
  (16, (.istore_n 3, 17, 3, 0, .null, [], [])),
  (17, (.iload_n 3, 18, 3, 0, .null, [], [])),
  (18, (.aload_n 1, 19, 1, 0, .null, [], [])),
  (19, (.getfield 31, 22, 8, 1, (.int 0), [], [1904])),
  (22, (.if_icmp .ge 90, 25, 112, 0, .null, [], [])),
  (25, (.aload_n 1, 26, 1, 0, .null, [], [])),
  (26, (.iload_n 3, 27, 3, 0, .null, [], [])),
  (27, (.invokestatic 34, 30, 88, 2, .null, [], [1906, 1907, 106, 1908])),
  (30, (.istore_n 2, 31, 2, 0, .null, [], [])),
  (31, (.aload_n 1, 32, 1, 0, .null, [], [])),
  (32, (.iload_n 3, 33, 3, 0, .null, [], [])),
  (33, (.invokevirtual 38, 36, 82, 1, .null, [], [1909, 1800, 1801, 102, 1802])),
  (36, (.istore 4, 38, 4, 0, .null, [], [])),
  (38, (.iload 4, 40, 4, 0, .null, [], [])),
  (40, (.invokestatic 42, 43, 86, 1, .null, [], [1910, 1911, 106, 1912])),
  (43, (.ifCond .eq 18, 46, 61, 0, .null, [], [])),
  (46, (.aload_n 0, 47, 0, 0, .null, [], [])),
  (47, (.aload_n 1, 48, 1, 0, .null, [], [])),
  (48, (.iload_n 3, 49, 3, 0, .null, [], [])),
  (49, (.iload_n 2, 50, 2, 0, .null, [], [])),
  (50, (.invokestatic 46, 53, 89, 3, .null, [], [1916, 1917, 106, 1918])),
  (53, (.iconst 0, 54, 0, 0, (.int 0), [], [])),
  (54, (.iload_n 3, 55, 3, 0, .null, [], [])),
  (55, (.invokevirtual 50, 58, 85, 3, .null, [], [2120, 2121, 2122, 106, 2123])),
  (58, (.goto 43, 61, 101, 0, .null, [], [])),
  (61, (.iload 4, 63, 4, 0, .null, [], [])),
  (63, (.invokestatic 54, 66, 87, 1, .null, [], [1913, 1914, 106, 1915])),
  (66, (.ifCond .eq 20, 69, 86, 0, .null, [], [])),
  (69, (.aload_n 0, 70, 0, 0, .null, [], [])),
  (70, (.sipush 300, 73, 0, 0, (.int 300), [], [])),
  (73, (.aload_n 1, 74, 1, 0, .null, [], [])),
  (74, (.iload_n 3, 75, 3, 0, .null, [], [])),
  (75, (.iload_n 2, 76, 2, 0, .null, [], [])),
  (76, (.invokestatic 57, 79, 90, 3, .null, [], [2200, 2201, 106, 2202])),
  (79, (.iload_n 3, 80, 3, 0, .null, [], [])),
  (80, (.invokevirtual 50, 83, 85, 3, .null, [], [2120, 2121, 2122, 106, 2123])),
  (83, (.goto 18, 86, 101, 0, .null, [], [])),
  (86, (.iload 4, 88, 4, 0, .null, [], [])),
  (88, (.bipush 32, 90, 0, 0, (.int 32), [], [])),
  (90, (.if_icmp .eq 11, 93, 101, 0, .null, [], [])),
  (93, (.aload_n 0, 94, 0, 0, .null, [], [])),
  (94, (.iload 4, 96, 4, 0, .null, [], [])),
  (96, (.iconst 0, 97, 0, 0, (.int 0), [], [])),
  (97, (.iload_n 3, 98, 3, 0, .null, [], [])),
  (98, (.invokevirtual 50, 101, 85, 3, .null, [], [2120, 2121, 2122, 106, 2123])),
  (101, (.iload_n 2, 102, 2, 0, .null, [], [])),
  (102, (.iload_n 3, 103, 3, 0, .null, [], [])),
  (103, (.iconst 1, 104, 0, 0, (.int 1), [], [])),
  (104, (.iadd, 105, 0, 0, .null, [], [])),
  (105, (.invokestatic 60, 108, 272, 2, .null, [], [1905, 414, 415, 416])),
  (108, (.istore_n 3, 109, 3, 0, .null, [], [])),
  (109, (.goto (-92), 112, 17, 0, .null, [], [])),
  (112, (.aload_n 0, 113, 0, 0, .null, [], [])),
  (113, (.sipush 301, 116, 0, 0, (.int 301), [], [])),
  (116, (.iconst 0, 117, 0, 0, (.int 0), [], [])),
  (117, (.aload_n 1, 118, 1, 0, .null, [], [])),
  (118, (.getfield 31, 121, 8, 1, (.int 0), [], [1904])),
  (121, (.invokevirtual 50, 124, 85, 3, .null, [], [2120, 2121, 2122, 106, 2123])),
  (124, (.return_, 125, 0, 0, .null, [], []))]
/-- yX9_addToken -/
def zc_85 : List (Nat × zE) := [(0, (.aload_n 0, 1, 0, 0, .null, [], [])),
  (1, (.getfield 25, 4, 9, 3, (.int 0), [], [1902])),
  (4, (.ifCond .lt 55, 7, 59, 0, .null, [], [])),
  (7, (.aload_n 0, 8, 0, 0, .null, [], [])),
  (8, (.getfield 25, 11, 9, 3, (.int 0), [], [1902])),
  (11, (.aload_n 0, 12, 0, 0, .null, [], [])),
  (12, (.getfield 9, 15, 9, 0, (.int 3), [], [310])),
  (15, (.arraylength, 16, 0, 0, .null, [], [])),
  (16, (.if_icmp .ge 43, 19, 59, 0, .null, [], [])),
  (19, (.aload_n 0, 20, 0, 0, .null, [], [])),
  (20, (.getfield 9, 23, 9, 0, (.int 3), [], [310])),
  (23, (.aload_n 0, 24, 0, 0, .null, [], [])),
  (24, (.getfield 25, 27, 9, 3, (.int 0), [], [1902])),
  (27, (.iload_n 1, 28, 1, 0, .null, [], [])),
  (28, (.iastore, 29, 0, 0, .null, [], [])),
  (29, (.aload_n 0, 30, 0, 0, .null, [], [])),
  (30, (.getfield 15, 33, 9, 1, (.int 3), [], [311])),
  (33, (.aload_n 0, 34, 0, 0, .null, [], [])),
  (34, (.getfield 25, 37, 9, 3, (.int 0), [], [1902])),
  (37, (.iload_n 2, 38, 2, 0, .null, [], [])),
  (38, (.iastore, 39, 0, 0, .null, [], [])),
  (39, (.aload_n 0, 40, 0, 0, .null, [], [])),
  (40, (.getfield 18, 43, 9, 2, (.int 3), [], [312])),
  (43, (.aload_n 0, 44, 0, 0, .null, [], [])),
  (44, (.getfield 25, 47, 9, 3, (.int 0), [], [1902])),
  (47, (.iload_n 3, 48, 3, 0, .null, [], [])),
  (48, (.iastore, 49, 0, 0, .null, [], [])),
  (49, (.aload_n 0, 50, 0, 0, .null, [], [])),
  (50, (.dup, 51, 0, 0, .null, [], [])),
  (51, (.getfield 25, 54, 9, 3, (.int 0), [], [1902])),
  (54, (.iconst 1, 55, 0, 0, (.int 1), [], [])),
  (55, (.iadd, 56, 0, 0, .null, [], [])),
  (56, (.putfield 25, 59, 9, 3, (.int 0), [], [1902])),
  (59, (.return_, 60, 0, 0, .null, [], []))]
/-- yX9_isLetter -/
def zc_86 : List (Nat × zE) := [(0, (.iload_n 0, 1, 0, 0, .null, [], [])),
  (1, (.bipush 97, 3, 0, 0, (.int 97), [], [])),
  (3, (.if_icmp .lt 13, 6, 16, 0, .null, [], [])),
  (6, (.iload_n 0, 7, 0, 0, .null, [], [])),
  (7, (.bipush 122, 9, 0, 0, (.int 122), [], [])),
  (9, (.if_icmp .gt 7, 12, 16, 0, .null, [], [])),
  (12, (.iconst 1, 13, 0, 0, (.int 1), [], [])),
  (13, (.goto 4, 16, 17, 0, .null, [], [])),
  (16, (.iconst 0, 17, 0, 0, (.int 0), [], [])),
  (17, (.ireturn, 18, 1, 0, .null, [], []))]
/-- yX9_isDigit -/
def zc_87 : List (Nat × zE) := [(0, (.iload_n 0, 1, 0, 0, .null, [], [])),
  (1, (.bipush 48, 3, 0, 0, (.int 48), [], [])),
  (3, (.if_icmp .lt 13, 6, 16, 0, .null, [], [])),
  (6, (.iload_n 0, 7, 0, 0, .null, [], [])),
  (7, (.bipush 57, 9, 0, 0, (.int 57), [], [])),
  (9, (.if_icmp .gt 7, 12, 16, 0, .null, [], [])),
  (12, (.iconst 1, 13, 0, 0, (.int 1), [], [])),
  (13, (.goto 4, 16, 17, 0, .null, [], [])),
  (16, (.iconst 0, 17, 0, 0, (.int 0), [], [])),
  (17, (.ireturn, 18, 1, 0, .null, [], []))]
/-- yX9_endOfToken -/
def zc_88 : List (Nat × zE) := [(0, (.aload_n 0, 1, 0, 0, .null, [], [])),
  (1, (.iload_n 1, 2, 1, 0, .null, [], [])),
  (2, (.invokevirtual 38, 5, 82, 1, .null, [], [1909, 1800, 1801, 102, 1802])),
  (5, (.invokestatic 42, 8, 86, 1, .null, [], [1910, 1911, 106, 1912])),
  (8, (.istore_n 2, 9, 2, 0, .null, [], [])),
  (9, (.iload_n 2, 10, 2, 0, .null, [], [])),
  (10, (.ifCond .ne 18, 13, 28, 0, .null, [], [])),
  (13, (.aload_n 0, 14, 0, 0, .null, [], [])),
  (14, (.iload_n 1, 15, 1, 0, .null, [], [])),
  (15, (.invokevirtual 38, 18, 82, 1, .null, [], [1909, 1800, 1801, 102, 1802])),
  (18, (.invokestatic 54, 21, 87, 1, .null, [], [1913, 1914, 106, 1915])),
  (21, (.ifCond .ne 7, 24, 28, 0, .null, [], [])),
  (24, (.iload_n 1, 25, 1, 0, .null, [], [])),
  (25, (.iconst 1, 26, 0, 0, (.int 1), [], [])),
  (26, (.iadd, 27, 0, 0, .null, [], [])),
  (27, (.ireturn, 28, 0, 0, .null, [], [])),
  (28, (.iload_n 1, 29, 1, 0, .null, [], [])),
  (29, (.iconst 1, 30, 0, 0, (.int 1), [], [])),
  (30, (.iadd, 31, 0, 0, .null, [], [])),
  (31, (.istore_n 3, 32, 3, 0, .null, [], [])),
  (32, (.iload_n 3, 33, 3, 0, .null, [], [])),
  (33, (.aload_n 0, 34, 0, 0, .null, [], [])),
  (34, (.getfield 31, 37, 8, 1, (.int 0), [], [1904])),
  (37, (.if_icmp .ge 38, 40, 75, 0, .null, [], [])),
  (40, (.iload_n 2, 41, 2, 0, .null, [], [])),
  (41, (.ifCond .eq 17, 44, 58, 0, .null, [], [])),
  (44, (.aload_n 0, 45, 0, 0, .null, [], [])),
  (45, (.iload_n 3, 46, 3, 0, .null, [], [])),
  (46, (.invokevirtual 38, 49, 82, 1, .null, [], [1909, 1800, 1801, 102, 1802])),
  (49, (.invokestatic 42, 52, 86, 1, .null, [], [1910, 1911, 106, 1912])),
  (52, (.ifCond .eq 23, 55, 75, 0, .null, [], [])),
  (55, (.goto 14, 58, 69, 0, .null, [], [])),
  (58, (.aload_n 0, 59, 0, 0, .null, [], [])),
  (59, (.iload_n 3, 60, 3, 0, .null, [], [])),
  (60, (.invokevirtual 38, 63, 82, 1, .null, [], [1909, 1800, 1801, 102, 1802])),
  (63, (.invokestatic 54, 66, 87, 1, .null, [], [1913, 1914, 106, 1915])),
  (66, (.ifCond .eq 9, 69, 75, 0, .null, [], [])),
  (69, (.iinc 3 1, 72, 3, 0, (.int 1), [], [])),
  (72, (.goto (-40), 75, 32, 0, .null, [], [])),
  (75, (.iload_n 3, 76, 3, 0, .null, [], [])),
  (76, (.ireturn, 77, 0, 0, .null, [], []))]
/-- yX9_wordCode -/
def zc_89 : List (Nat × zE) := [(0, (.sipush 256, 3, 0, 0, (.int 256), [], [])),
  (3, (.istore_n 3, 4, 3, 0, .null, [], [])),
  (4, (.iload_n 1, 5, 1, 0, .null, [], [])),
  (5, (.istore 4, 7, 4, 0, .null, [], [])),
  (7, (.iconst 1, 8, 0, 0, (.int 1), [], [])),
  (8, (.istore 5, 10, 5, 0, .null, [], [])),
  (10, (.iconst 0, 11, 0, 0, (.int 0), [], [])),
  (11, (.istore 6, 13, 6, 0, .null, [], [])),
  (13, (.iload 6, 15, 6, 0, .null, [], [])),
  (15, (.ldc 66, 17, 0, 0, (.ref 3), [], [])),
  (17, (.invokevirtual 68, 20, 9002, 0, .null, [], [1919])),
  (20, (.if_icmp .ge 82, 23, 102, 0, .null, [], [])),
  (23, (.ldc 66, 25, 0, 0, (.ref 3), [], [])),
  (25, (.iload 6, 27, 6, 0, .null, [], [])),
  (27, (.invokevirtual 74, 30, 9003, 0, .null, [], [2007])),
  (30, (.istore 7, 32, 7, 0, .null, [], [])),
  (32, (.iload 7, 34, 7, 0, .null, [], [])),
  (34, (.bipush 32, 36, 0, 0, (.int 32), [], [])),
  (36, (.if_icmp .eq 38, 39, 74, 0, .null, [], [])),
  (39, (.iload 5, 41, 5, 0, .null, [], [])),
  (41, (.ifCond .eq 24, 44, 65, 0, .null, [], [])),
  (44, (.iload 4, 46, 4, 0, .null, [], [])),
  (46, (.iload_n 2, 47, 2, 0, .null, [], [])),
  (47, (.if_icmp .ge 18, 50, 65, 0, .null, [], [])),
  (50, (.aload_n 0, 51, 0, 0, .null, [], [])),
  (51, (.iload 4, 53, 4, 0, .null, [], [])),
  (53, (.invokevirtual 38, 56, 82, 1, .null, [], [1909, 1800, 1801, 102, 1802])),
  (56, (.iload 7, 58, 7, 0, .null, [], [])),
  (58, (.if_icmp .ne 7, 61, 65, 0, .null, [], [])),
  (61, (.iconst 1, 62, 0, 0, (.int 1), [], [])),
  (62, (.goto 4, 65, 66, 0, .null, [], [])),
  (65, (.iconst 0, 66, 0, 0, (.int 0), [], [])),
  (66, (.istore 5, 68, 5, 0, .null, [], [])),
  (68, (.iinc 4 1, 71, 4, 0, (.int 1), [], [])),
  (71, (.goto 25, 74, 96, 0, .null, [], [])),
  (74, (.iload 5, 76, 5, 0, .null, [], [])),
  (76, (.ifCond .eq 11, 79, 87, 0, .null, [], [])),
  (79, (.iload 4, 81, 4, 0, .null, [], [])),
  (81, (.iload_n 2, 82, 2, 0, .null, [], [])),
  (82, (.if_icmp .ne 5, 85, 87, 0, .null, [], [])),
  (85, (.iload_n 3, 86, 3, 0, .null, [], [])),
  (86, (.ireturn, 87, 0, 0, .null, [], [])),
  (87, (.iinc 3 1, 90, 3, 0, (.int 1), [], [])),
  (90, (.iload_n 1, 91, 1, 0, .null, [], [])),
  (91, (.istore 4, 93, 4, 0, .null, [], [])),
  (93, (.iconst 1, 94, 0, 0, (.int 1), [], [])),
  (94, (.istore 5, 96, 5, 0, .null, [], [])),
  (96, (.iinc 6 1, 99, 6, 0, (.int 1), [], [])),
  (99, (.goto (-86), 102, 13, 0, .null, [], [])),
  (102, (.sipush 284, 105, 0, 0, (.int 284), [], [])),
  (105, (.ireturn, 106, 0, 0, .null, [], []))]
/-- yX9_numberAt -/
def zc_90 : List (Nat × zE) := [(0, (.iconst 0, 1, 0, 0, (.int 0), [], [])),
  (1, (.istore_n 3, 2, 3, 0, .null, [], [])),
  (2, (.iload_n 1, 3, 1, 0, .null, [], [])),
  (3, (.istore 4, 5, 4, 0, .null, [], [])),
  (5, (.iload 4, 7, 4, 0, .null, [], [])),
  (7, (.iload_n 2, 8, 2, 0, .null, [], [])),
  (8, (.if_icmp .ge 30, 11, 38, 0, .null, [], [])),
  (11, (.sipush 9999, 14, 0, 0, (.int 9999), [], [])),
  (14, (.iload_n 3, 15, 3, 0, .null, [], [])),
  (15, (.bipush 10, 17, 0, 0, (.int 10), [], [])),
  (17, (.imul, 18, 0, 0, .null, [], [])),
  (18, (.aload_n 0, 19, 0, 0, .null, [], [])),
  (19, (.iload 4, 21, 4, 0, .null, [], [])),
  (21, (.invokevirtual 38, 24, 82, 1, .null, [], [1909, 1800, 1801, 102, 1802])),
  (24, (.iadd, 25, 0, 0, .null, [], [])),
  (25, (.bipush 48, 27, 0, 0, (.int 48), [], [])),
  (27, (.isub, 28, 0, 0, .null, [], [])),
  (28, (.invokestatic 78, 31, 273, 2, .null, [], [2203, 1208, 415, 1209])),
  (31, (.istore_n 3, 32, 3, 0, .null, [], [])),
  (32, (.iinc 4 1, 35, 4, 0, (.int 1), [], [])),
  (35, (.goto (-30), 38, 5, 0, .null, [], [])),
  (38, (.iload_n 3, 39, 3, 0, .null, [], [])),
  (39, (.ireturn, 40, 0, 0, .null, [], []))]
/-- yX9_codeAt -/
def zc_91 : List (Nat × zE) := [(0, (.iload_n 1, 1, 1, 0, .null, [], [])),
  (1, (.ifCond .lt 29, 4, 30, 0, .null, [], [])),
  (4, (.iload_n 1, 5, 1, 0, .null, [], [])),
  (5, (.aload_n 0, 6, 0, 0, .null, [], [])),
  (6, (.getfield 25, 9, 9, 3, (.int 0), [], [1902])),
  (9, (.if_icmp .ge 21, 12, 30, 0, .null, [], [])),
  (12, (.iload_n 1, 13, 1, 0, .null, [], [])),
  (13, (.aload_n 0, 14, 0, 0, .null, [], [])),
  (14, (.getfield 9, 17, 9, 0, (.int 3), [], [310])),
  (17, (.arraylength, 18, 0, 0, .null, [], [])),
  (18, (.if_icmp .ge 12, 21, 30, 0, .null, [], [])),
  (21, (.aload_n 0, 22, 0, 0, .null, [], [])),
  (22, (.getfield 9, 25, 9, 0, (.int 3), [], [310])),
  (25, (.iload_n 1, 26, 1, 0, .null, [], [])),
  (26, (.iaload, 27, 0, 0, .null, [], [])),
  (27, (.goto 6, 30, 33, 0, .null, [], [])),
  (30, (.sipush 301, 33, 0, 0, (.int 301), [], [])),
  (33, (.ireturn, 34, 0, 0, .null, [], []))]
/-- yX9_fail -/
def zc_92 : List (Nat × zE) := [(0, (.aload_n 0, 1, 0, 0, .null, [], [])),
  (1, (.getfield 21, 4, 9, 5, (.int 0), [], [313])),
  (4, (.iconst (-1), 5, 0, 0, (.int (-1)), [], [])),
  (5, (.if_icmp .ne 35, 8, 40, 0, .null, [], [])),
  (8, (.aload_n 0, 9, 0, 0, .null, [], [])),
  (9, (.getfield 28, 12, 9, 4, (.int 0), [], [1903])),
  (12, (.ifCond .lt 28, 15, 40, 0, .null, [], [])),
  (15, (.aload_n 0, 16, 0, 0, .null, [], [])),
  (16, (.getfield 28, 19, 9, 4, (.int 0), [], [1903])),
  (19, (.aload_n 0, 20, 0, 0, .null, [], [])),
  (20, (.getfield 18, 23, 9, 2, (.int 3), [], [312])),
  (23, (.arraylength, 24, 0, 0, .null, [], [])),
  (24, (.if_icmp .ge 16, 27, 40, 0, .null, [], [])),
  (27, (.aload_n 0, 28, 0, 0, .null, [], [])),
  (28, (.aload_n 0, 29, 0, 0, .null, [], [])),
  (29, (.getfield 18, 32, 9, 2, (.int 3), [], [312])),
  (32, (.aload_n 0, 33, 0, 0, .null, [], [])),
  (33, (.getfield 28, 36, 9, 4, (.int 0), [], [1903])),
  (36, (.iaload, 37, 0, 0, .null, [], [])),
  (37, (.putfield 21, 40, 9, 5, (.int 0), [], [313])),
  (40, (.return_, 41, 0, 0, .null, [], []))]
/-- yX9_skip -/
def zc_93 : List (Nat × zE) := [(0, (.aload_n 0, 1, 0, 0, .null, [], [])),
  (1, (.getfield 21, 4, 9, 5, (.int 0), [], [313])),
  (4, (.iconst (-1), 5, 0, 0, (.int (-1)), [], [])),
  (5, (.if_icmp .ne 50, 8, 55, 0, .null, [], [])),
  (8, (.aload_n 0, 9, 0, 0, .null, [], [])),
  (9, (.getfield 28, 12, 9, 4, (.int 0), [], [1903])),
  (12, (.ifCond .lt 43, 15, 55, 0, .null, [], [])),
  (15, (.aload_n 0, 16, 0, 0, .null, [], [])),
  (16, (.getfield 28, 19, 9, 4, (.int 0), [], [1903])),
  (19, (.aload_n 0, 20, 0, 0, .null, [], [])),
  (20, (.getfield 25, 23, 9, 3, (.int 0), [], [1902])),
  (23, (.if_icmp .ge 32, 26, 55, 0, .null, [], [])),
  (26, (.aload_n 0, 27, 0, 0, .null, [], [])),
  (27, (.getfield 28, 30, 9, 4, (.int 0), [], [1903])),
  (30, (.aload_n 0, 31, 0, 0, .null, [], [])),
  (31, (.getfield 9, 34, 9, 0, (.int 3), [], [310])),
  (34, (.arraylength, 35, 0, 0, .null, [], [])),
  (35, (.if_icmp .ge 20, 38, 55, 0, .null, [], [])),
  (38, (.aload_n 0, 39, 0, 0, .null, [], [])),
  (39, (.getfield 9, 42, 9, 0, (.int 3), [], [310])),
  (42, (.aload_n 0, 43, 0, 0, .null, [], [])),
  (43, (.getfield 28, 46, 9, 4, (.int 0), [], [1903])),
  (46, (.iaload, 47, 0, 0, .null, [], [])),
  (47, (.iload_n 1, 48, 1, 0, .null, [], [])),
  (48, (.if_icmp .ne 7, 51, 55, 0, .null, [], [])),
  (51, (.iconst 1, 52, 0, 0, (.int 1), [], [])),
  (52, (.goto 4, 55, 56, 0, .null, [], [])),
  (55, (.iconst 0, 56, 0, 0, (.int 0), [], [])),
  (56, (.istore_n 2, 57, 2, 0, .null, [], [])),
  (57, (.iload_n 2, 58, 2, 0, .null, [], [])),
  (58, (.ifCond .eq 20, 61, 78, 0, .null, [], [])),
  (61, (.iload_n 1, 62, 1, 0, .null, [], [])),
  (62, (.sipush 301, 65, 0, 0, (.int 301), [], [])),
  (65, (.if_icmp .eq 13, 68, 78, 0, .null, [], [])),
  (68, (.aload_n 0, 69, 0, 0, .null, [], [])),
  (69, (.dup, 70, 0, 0, .null, [], [])),
  (70, (.getfield 28, 73, 9, 4, (.int 0), [], [1903])),
  (73, (.iconst 1, 74, 0, 0, (.int 1), [], [])),
  (74, (.iadd, 75, 0, 0, .null, [], [])),
  (75, (.putfield 28, 78, 9, 4, (.int 0), [], [1903])),
  (78, (.iload_n 2, 79, 2, 0, .null, [], [])),
  (79, (.ireturn, 80, 1, 0, .null, [], []))]
/-- yX9_expect -/
def zc_94 : List (Nat × zE) := [(0, (.aload_n 0, 1, 0, 0, .null, [], [])),
  (1, (.iload_n 1, 2, 1, 0, .null, [], [])),
  (2, (.invokevirtual 81, 5, 93, 1, .null, [], [2400, 2302, 2303, 106, 2304])),
  (5, (.ifCond .ne 7, 8, 12, 0, .null, [], [])),
  (8, (.aload_n 0, 9, 0, 0, .null, [], [])),
  (9, (.invokevirtual 84, 12, 92, 0, .null, [], [2401, 2402, 2403, 106, 2404])),
  (12, (.return_, 13, 0, 0, .null, [], []))]
/-- yX9_takeNumber -/
def zc_95 : List (Nat × zE) := [(0, (.aload_n 0, 1, 0, 0, .null, [], [])),
  (1, (.getfield 21, 4, 9, 5, (.int 0), [], [313])),
  (4, (.iconst (-1), 5, 0, 0, (.int (-1)), [], [])),
  (5, (.if_icmp .ne 48, 8, 53, 0, .null, [], [])),
  (8, (.aload_n 0, 9, 0, 0, .null, [], [])),
  (9, (.getfield 28, 12, 9, 4, (.int 0), [], [1903])),
  (12, (.ifCond .lt 41, 15, 53, 0, .null, [], [])),
  (15, (.aload_n 0, 16, 0, 0, .null, [], [])),
  (16, (.getfield 28, 19, 9, 4, (.int 0), [], [1903])),
  (19, (.aload_n 0, 20, 0, 0, .null, [], [])),
  (20, (.getfield 25, 23, 9, 3, (.int 0), [], [1902])),
  (23, (.if_icmp .ge 30, 26, 53, 0, .null, [], [])),
  (26, (.aload_n 0, 27, 0, 0, .null, [], [])),
  (27, (.getfield 28, 30, 9, 4, (.int 0), [], [1903])),
  (30, (.aload_n 0, 31, 0, 0, .null, [], [])),
  (31, (.getfield 9, 34, 9, 0, (.int 3), [], [310])),
  (34, (.arraylength, 35, 0, 0, .null, [], [])),
  (35, (.if_icmp .ge 18, 38, 53, 0, .null, [], [])),
  (38, (.aload_n 0, 39, 0, 0, .null, [], [])),
  (39, (.getfield 9, 42, 9, 0, (.int 3), [], [310])),
  (42, (.aload_n 0, 43, 0, 0, .null, [], [])),
  (43, (.getfield 28, 46, 9, 4, (.int 0), [], [1903])),
  (46, (.iaload, 47, 0, 0, .null, [], [])),
  (47, (.sipush 300, 50, 0, 0, (.int 300), [], [])),
  (50, (.if_icmp .eq 5, 53, 55, 0, .null, [], [])),
  (53, (.iconst (-1), 54, 0, 0, (.int (-1)), [], [])),
  (54, (.ireturn, 55, 0, 0, .null, [], [])),
  (55, (.aload_n 0, 56, 0, 0, .null, [], [])),
  (56, (.getfield 15, 59, 9, 1, (.int 3), [], [311])),
  (59, (.aload_n 0, 60, 0, 0, .null, [], [])),
  (60, (.getfield 28, 63, 9, 4, (.int 0), [], [1903])),
  (63, (.iaload, 64, 0, 0, .null, [], [])),
  (64, (.istore_n 3, 65, 3, 0, .null, [], [])),
  (65, (.iload_n 3, 66, 3, 0, .null, [], [])),
  (66, (.iload_n 1, 67, 1, 0, .null, [], [])),
  (67, (.if_icmp .lt 8, 70, 75, 0, .null, [], [])),
  (70, (.iload_n 3, 71, 3, 0, .null, [], [])),
  (71, (.iload_n 2, 72, 2, 0, .null, [], [])),
  (72, (.if_icmp .le 5, 75, 77, 0, .null, [], [])),
  (75, (.iconst (-1), 76, 0, 0, (.int (-1)), [], [])),
  (76, (.ireturn, 77, 0, 0, .null, [], [])),
  (77, (.aload_n 0, 78, 0, 0, .null, [], [])),
  (78, (.dup, 79, 0, 0, .null, [], [])),
  (79, (.getfield 28, 82, 9, 4, (.int 0), [], [1903])),
  (82, (.iconst 1, 83, 0, 0, (.int 1), [], [])),
  (83, (.iadd, 84, 0, 0, .null, [], [])),
  (84, (.putfield 28, 87, 9, 4, (.int 0), [], [1903])),
  (87, (.iload_n 3, 88, 3, 0, .null, [], [])),
  (88, (.ireturn, 89, 0, 0, .null, [], []))]
/-- yX10_init -/
def zc_96 : List (Nat × zE) := [(0, (.aload_n 0, 1, 0, 0, .null, [], [])),
  (1, (.invokespecial 3, 4, 9000, 0, .null, [], [9])),
  (4, (.aload_n 0, 5, 0, 0, .null, [], [])),
  (5, (.new 9, 8, 7, 0, .null, [], [12, 13, 14])),
  (8, (.dup, 9, 0, 0, .null, [], [])),
  (9, (.invokespecial 11, 12, 62, 0, .null, [], [88888, 209, 14, 210])),
  (12, (.putfield 12, 15, 10, 0, (.int 3), [], [15])),
  (15, (.aload_n 0, 16, 0, 0, .null, [], [])),
  (16, (.new 9, 19, 7, 0, .null, [], [12, 13, 14])),
  (19, (.dup, 20, 0, 0, .null, [], [])),
  (20, (.invokespecial 11, 23, 62, 0, .null, [], [88888, 209, 14, 210])),
  (23, (.putfield 16, 26, 10, 1, (.int 3), [], [16])),
  (26, (.aload_n 0, 27, 0, 0, .null, [], [])),
  (27, (.new 9, 30, 7, 0, .null, [], [12, 13, 14])),
  (30, (.dup, 31, 0, 0, .null, [], [])),
  (31, (.invokespecial 11, 34, 62, 0, .null, [], [88888, 209, 14, 210])),
  (34, (.putfield 19, 37, 10, 2, (.int 3), [], [17])),
  (37, (.aload_n 0, 38, 0, 0, .null, [], [])),
  (38, (.iconst 2, 39, 0, 0, (.int 2), [], [])),
  (39, (.anewarray 9, 42, 5, 0, .null, [], [12])),
  (42, (.putfield 22, 45, 10, 3, (.int 3), [], [18])),
  (45, (.aload_n 0, 46, 0, 0, .null, [], [])),
  (46, (.new 26, 49, 2, 0, .null, [], [19, 20, 21])),
  (49, (.dup, 50, 0, 0, .null, [], [])),
  (50, (.invokespecial 28, 53, 19, 0, .null, [], [88888, 221, 21, 222])),
  (53, (.putfield 29, 56, 10, 4, (.int 3), [], [22])),
  (56, (.aload_n 0, 57, 0, 0, .null, [], [])),
  (57, (.new 26, 60, 2, 0, .null, [], [19, 20, 21])),
  (60, (.dup, 61, 0, 0, .null, [], [])),
  (61, (.invokespecial 28, 64, 19, 0, .null, [], [88888, 221, 21, 222])),
  (64, (.putfield 33, 67, 10, 5, (.int 3), [], [23])),
  (67, (.aload_n 0, 68, 0, 0, .null, [], [])),
  (68, (.new 36, 71, 8, 0, .null, [], [100, 101, 102])),
  (71, (.dup, 72, 0, 0, .null, [], [])),
  (72, (.invokespecial 38, 75, 79, 0, .null, [], [88888, 303, 102, 304])),
  (75, (.putfield 39, 78, 10, 6, (.int 3), [], [103])),
  (78, (.aload_n 0, 79, 0, 0, .null, [], [])),
  (79, (.new 43, 82, 9, 0, .null, [], [104, 105, 106])),
  (82, (.dup, 83, 0, 0, .null, [], [])),
  (83, (.invokespecial 45, 86, 83, 0, .null, [], [88888, 307, 106, 308])),
  (86, (.putfield 46, 89, 10, 7, (.int 3), [], [107])),
  (89, (.aload_n 0, 90, 0, 0, .null, [], [])),
  (90, (.new 50, 93, 4, 0, .null, [], [108, 109, 110])),
  (93, (.dup, 94, 0, 0, .null, [], [])),
  (94, (.invokespecial 52, 97, 28, 0, .null, [], [88888, 314, 110, 315])),
  (97, (.putfield 53, 100, 10, 8, (.int 3), [], [111])),
  (100, (.aload_n 0, 101, 0, 0, .null, [], [])),
  (101, (.new 57, 104, 0, 0, .null, [], [112, 113, 114])),
  (104, (.dup, 105, 0, 0, .null, [], [])),
  (105, (.invokespecial 59, 108, 0, 0, .null, [], [88888, 403, 114, 404])),
  (108, (.putfield 60, 111, 10, 9, (.int 3), [], [115])),
  (111, (.aload_n 0, 112, 0, 0, .null, [], [])),
  (112, (.new 64, 115, 5, 0, .null, [], [116, 117, 118])),
  (115, (.dup, 116, 0, 0, .null, [], [])),
  (116, (.invokespecial 66, 119, 40, 0, .null, [], [88888, 423, 118, 500])),
  (119, (.putfield 67, 122, 10, 10, (.int 3), [], [119])),
  (122, (.aload_n 0, 123, 0, 0, .null, [], [])),
  (123, (.new 71, 126, 6, 0, .null, [], [120, 121, 122])),
  (126, (.dup, 127, 0, 0, .null, [], [])),
  (127, (.invokespecial 73, 130, 43, 0, .null, [], [88888, 503, 122, 504])),
  (130, (.putfield 74, 133, 10, 11, (.int 3), [], [123])),
  (133, (.aload_n 0, 134, 0, 0, .null, [], [])),
  (134, (.bipush 30, 136, 0, 0, (.int 30), [], [])),
  (136, (.newarray .int, 138, 0, 0, .null, [], [200])),
  (138, (.putfield 78, 141, 10, 12, (.int 3), [], [201])),
  (141, (.aload_n 0, 142, 0, 0, .null, [], [])),
  (142, (.bipush 6, 144, 0, 0, (.int 6), [], [])),
  (144, (.newarray .long, 146, 1, 0, .null, [], [202])),
  (146, (.putfield 82, 149, 10, 13, (.int 3), [], [203])),
  (149, (.aload_n 0, 150, 0, 0, .null, [], [])),
  (150, (.bipush 20, 152, 0, 0, (.int 20), [], [])),
  (152, (.newarray .long, 154, 1, 0, .null, [], [202])),
  (154, (.putfield 86, 157, 10, 14, (.int 3), [], [204])),
  (157, (.aload_n 0, 158, 0, 0, .null, [], [])),
  (158, (.getstatic 89, 161, 0, 0, (.ref 0), [], [205])),
  (161, (.arraylength, 162, 0, 0, .null, [], [])),
  (162, (.newarray .int, 164, 0, 0, .null, [], [200])),
  (164, (.putfield 92, 167, 10, 15, (.int 3), [], [206])),
  (167, (.aload_n 0, 168, 0, 0, .null, [], [])),
  (168, (.iconst (-1), 169, 0, 0, (.int (-1)), [], [])),
  (169, (.putfield 95, 172, 10, 17, (.int 0), [], [207])),
  (172, (.aload_n 0, 173, 0, 0, .null, [], [])),
  (173, (.iconst (-1), 174, 0, 0, (.int (-1)), [], [])),
  (174, (.putfield 99, 177, 10, 19, (.int 0), [], [208])),
  (177, (.return_, 178, 0, 0, .null, [], []))]
/-- yX10_syllable -/
def zc_97 : List (Nat × zE) := [(0, (.iload_n 1, 1, 1, 0, .null, [], [])),
  (1, (.iload_n 2, 2, 2, 0, .null, [], [])),
  (2, (.iload_n 3, 3, 3, 0, .null, [], [])),
  (3, (.invokestatic 102, 6, 64, 3, .null, [], [821, 822, 14, 823])),
  (6, (.ifCond .ne 9, 9, 15, 0, .null, [], [])),
  (9, (.aload_n 0, 10, 0, 0, .null, [], [])),
  (10, (.iconst (-1), 11, 0, 0, (.int (-1)), [], [])),
  (11, (.invokevirtual 106, 14, 134, 1, .null, [], [900, 901, 902, 2, 903])),
  (14, (.ireturn, 15, 0, 0, .null, [], [])),
  (15, (.aload_n 0, 16, 0, 0, .null, [], [])),
  (16, (.getfield 12, 19, 10, 0, (.int 3), [], [15])),
  (19, (.iload_n 1, 20, 1, 0, .null, [], [])),
  (20, (.iload_n 2, 21, 2, 0, .null, [], [])),
  (21, (.iload_n 3, 22, 3, 0, .null, [], [])),
  (22, (.invokevirtual 110, 25, 65, 3, .null, [], [905, 906, 907, 14, 908])),
  (25, (.ifCond .ne 10, 28, 35, 0, .null, [], [])),
  (28, (.aload_n 0, 29, 0, 0, .null, [], [])),
  (29, (.bipush (-5), 31, 0, 0, (.int (-5)), [], [])),
  (31, (.invokevirtual 106, 34, 134, 1, .null, [], [900, 901, 902, 2, 903])),
  (34, (.ireturn, 35, 0, 0, .null, [], [])),
  (35, (.aload_n 0, 36, 0, 0, .null, [], [])),
  (36, (.getfield 29, 39, 10, 4, (.int 3), [], [22])),
  (39, (.iconst 0, 40, 0, 0, (.int 0), [], [])),
  (40, (.putfield 113, 43, 2, 3, (.int 0), [], [819])),
  (43, (.aload_n 0, 44, 0, 0, .null, [], [])),
  (44, (.aload_n 0, 45, 0, 0, .null, [], [])),
  (45, (.getfield 12, 48, 10, 0, (.int 3), [], [15])),
  (48, (.getfield 116, 51, 7, 6, (.int 0), [], [820])),
  (51, (.iconst 1, 52, 0, 0, (.int 1), [], [])),
  (52, (.isub, 53, 0, 0, .null, [], [])),
  (53, (.invokevirtual 117, 56, 135, 1, .null, [], [911, 912, 913, 2, 914])),
  (56, (.ireturn, 57, 0, 0, .null, [], []))]
/-- yX10_of -/
def zc_98 : List (Nat × zE) := [(0, (.aload_n 0, 1, 0, 0, .null, [], [])),
  (1, (.getfield 12, 4, 10, 0, (.int 3), [], [15])),
  (4, (.iload_n 1, 5, 1, 0, .null, [], [])),
  (5, (.invokevirtual 120, 8, 66, 1, .null, [], [1019, 1020, 1021, 14, 1022])),
  (8, (.ifCond .eq 13, 11, 21, 0, .null, [], [])),
  (11, (.iload_n 2, 12, 2, 0, .null, [], [])),
  (12, (.ifCond .lt 9, 15, 21, 0, .null, [], [])),
  (15, (.iload_n 2, 16, 2, 0, .null, [], [])),
  (16, (.bipush 8, 18, 0, 0, (.int 8), [], [])),
  (18, (.if_icmp .le 5, 21, 23, 0, .null, [], [])),
  (21, (.iconst (-1), 22, 0, 0, (.int (-1)), [], [])),
  (22, (.ireturn, 23, 0, 0, .null, [], [])),
  (23, (.iload_n 2, 24, 2, 0, .null, [], [])),
  (24, (.iconst 3, 25, 0, 0, (.int 3), [], [])),
  (25, (.if_icmp .ge 13, 28, 38, 0, .null, [], [])),
  (28, (.aload_n 0, 29, 0, 0, .null, [], [])),
  (29, (.getfield 12, 32, 10, 0, (.int 3), [], [15])),
  (32, (.iload_n 1, 33, 1, 0, .null, [], [])),
  (33, (.iload_n 2, 34, 2, 0, .null, [], [])),
  (34, (.invokevirtual 124, 37, 67, 2, .null, [], [1023, 1100, 1101, 14, 1102])),
  (37, (.ireturn, 38, 0, 0, .null, [], [])),
  (38, (.aload_n 0, 39, 0, 0, .null, [], [])),
  (39, (.getfield 74, 42, 10, 11, (.int 3), [], [123])),
  (42, (.aload_n 0, 43, 0, 0, .null, [], [])),
  (43, (.getfield 12, 46, 10, 0, (.int 3), [], [15])),
  (46, (.aload_n 0, 47, 0, 0, .null, [], [])),
  (47, (.getfield 12, 50, 10, 0, (.int 3), [], [15])),
  (50, (.aload_n 0, 51, 0, 0, .null, [], [])),
  (51, (.getfield 12, 54, 10, 0, (.int 3), [], [15])),
  (54, (.getfield 128, 57, 7, 10, (.int 0), [], [1018])),
  (57, (.invokevirtual 131, 60, 78, 1, .null, [], [1103, 1104, 1105, 14, 1106])),
  (60, (.invokevirtual 135, 63, 44, 2, .null, [], [1108, 1109, 1110, 122, 1111])),
  (63, (.iload_n 2, 64, 2, 0, .null, [], [])),
  (64, (.iconst 3, 65, 0, 0, (.int 3), [], [])),
  (65, (.irem, 66, 0, 0, .null, [], [])),
  (66, (.istore_n 3, 67, 3, 0, .null, [], [])),
  (67, (.iload_n 2, 68, 2, 0, .null, [], [])),
  (68, (.bipush 6, 70, 0, 0, (.int 6), [], [])),
  (70, (.if_icmp .ge 15, 73, 85, 0, .null, [], [])),
  (73, (.aload_n 0, 74, 0, 0, .null, [], [])),
  (74, (.getfield 74, 77, 10, 11, (.int 3), [], [123])),
  (77, (.iload_n 1, 78, 1, 0, .null, [], [])),
  (78, (.iload_n 3, 79, 3, 0, .null, [], [])),
  (79, (.invokevirtual 139, 82, 46, 2, .null, [], [1302, 1303, 1304, 122, 1305])),
  (82, (.goto 12, 85, 94, 0, .null, [], [])),
  (85, (.aload_n 0, 86, 0, 0, .null, [], [])),
  (86, (.getfield 74, 89, 10, 11, (.int 3), [], [123])),
  (89, (.iload_n 1, 90, 1, 0, .null, [], [])),
  (90, (.iload_n 3, 91, 3, 0, .null, [], [])),
  (91, (.invokevirtual 142, 94, 47, 2, .null, [], [1306, 1307, 1308, 122, 1309])),
  (94, (.ireturn, 95, 0, 0, .null, [], []))]
/-- yX10_terms -/
def zc_99 : List (Nat × zE) := [(0, (.iload_n 1, 1, 1, 0, .null, [], [])),
  (1, (.ifCond .lt 24, 4, 25, 0, .null, [], [])),
  (4, (.iload_n 1, 5, 1, 0, .null, [], [])),
  (5, (.getstatic 145, 8, 0, 0, (.ref 1), [], [1518])),
  (8, (.arraylength, 9, 0, 0, .null, [], [])),
  (9, (.if_icmp .ge 16, 12, 25, 0, .null, [], [])),
  (12, (.iload_n 2, 13, 2, 0, .null, [], [])),
  (13, (.ifCond .lt 12, 16, 25, 0, .null, [], [])),
  (16, (.iload_n 2, 17, 2, 0, .null, [], [])),
  (17, (.getstatic 145, 20, 0, 0, (.ref 1), [], [1518])),
  (20, (.iload_n 1, 21, 1, 0, .null, [], [])),
  (21, (.iaload, 22, 0, 0, .null, [], [])),
  (22, (.if_icmp .le 9, 25, 31, 0, .null, [], [])),
  (25, (.aload_n 0, 26, 0, 0, .null, [], [])),
  (26, (.iconst (-1), 27, 0, 0, (.int (-1)), [], [])),
  (27, (.invokevirtual 106, 30, 134, 1, .null, [], [900, 901, 902, 2, 903])),
  (30, (.ireturn, 31, 0, 0, .null, [], [])),
  (31, (.aload_n 0, 32, 0, 0, .null, [], [])),
  (32, (.getfield 12, 35, 10, 0, (.int 3), [], [15])),
  (35, (.iload_n 1, 36, 1, 0, .null, [], [])),
  (36, (.invokevirtual 148, 39, 70, 1, .null, [], [1519, 1120, 1121, 14, 1122])),
  (39, (.istore_n 3, 40, 3, 0, .null, [], [])),
  (40, (.aload_n 0, 41, 0, 0, .null, [], [])),
  (41, (.getfield 12, 44, 10, 0, (.int 3), [], [15])),
  (44, (.iload_n 1, 45, 1, 0, .null, [], [])),
  (45, (.iload_n 2, 46, 2, 0, .null, [], [])),
  (46, (.invokevirtual 151, 49, 71, 2, .null, [], [1520, 1521, 1522, 14, 1523])),
  (49, (.aload_n 0, 50, 0, 0, .null, [], [])),
  (50, (.getfield 29, 53, 10, 4, (.int 3), [], [22])),
  (53, (.iconst 0, 54, 0, 0, (.int 0), [], [])),
  (54, (.putfield 113, 57, 2, 3, (.int 0), [], [819])),
  (57, (.aload_n 0, 58, 0, 0, .null, [], [])),
  (58, (.iload_n 3, 59, 3, 0, .null, [], [])),
  (59, (.invokevirtual 117, 62, 135, 1, .null, [], [911, 912, 913, 2, 914])),
  (62, (.ireturn, 63, 0, 0, .null, [], []))]
/-- yX10_feed -/
def zc_100 : List (Nat × zE) := [(0, (.aload_n 0, 1, 0, 0, .null, [], [])),
  (1, (.getfield 39, 4, 10, 6, (.int 3), [], [103])),
  (4, (.invokevirtual 155, 7, 80, 0, .null, [], [1616, 1617, 1618, 102, 1619])),
  (7, (.ifCond .ne 5, 10, 12, 0, .null, [], [])),
  (10, (.iconst (-1), 11, 0, 0, (.int (-1)), [], [])),
  (11, (.ireturn, 12, 0, 0, .null, [], [])),
  (12, (.aload_n 0, 13, 0, 0, .null, [], [])),
  (13, (.getfield 39, 16, 10, 6, (.int 3), [], [103])),
  (16, (.iload_n 1, 17, 1, 0, .null, [], [])),
  (17, (.invokevirtual 159, 20, 81, 1, .null, [], [1621, 1622, 1623, 102, 1700])),
  (20, (.aload_n 0, 21, 0, 0, .null, [], [])),
  (21, (.getfield 39, 24, 10, 6, (.int 3), [], [103])),
  (24, (.iload_n 2, 25, 2, 0, .null, [], [])),
  (25, (.invokevirtual 159, 28, 81, 1, .null, [], [1621, 1622, 1623, 102, 1700])),
  (28, (.aload_n 0, 29, 0, 0, .null, [], [])),
  (29, (.getfield 39, 32, 10, 6, (.int 3), [], [103])),
  (32, (.iload_n 3, 33, 3, 0, .null, [], [])),
  (33, (.invokevirtual 159, 36, 81, 1, .null, [], [1621, 1622, 1623, 102, 1700])),
  (36, (.aload_n 0, 37, 0, 0, .null, [], [])),
  (37, (.getfield 39, 40, 10, 6, (.int 3), [], [103])),
  (40, (.iload 4, 42, 4, 0, .null, [], [])),
  (42, (.invokevirtual 159, 45, 81, 1, .null, [], [1621, 1622, 1623, 102, 1700])),
  (45, (.aload_n 0, 46, 0, 0, .null, [], [])),
  (46, (.getfield 39, 49, 10, 6, (.int 3), [], [103])),
  (49, (.iload 5, 51, 5, 0, .null, [], [])),
  (51, (.invokevirtual 159, 54, 81, 1, .null, [], [1621, 1622, 1623, 102, 1700])),
  (54, (.aload_n 0, 55, 0, 0, .null, [], [])),
  (55, (.getfield 39, 58, 10, 6, (.int 3), [], [103])),
  (58, (.getfield 163, 61, 8, 1, (.int 0), [], [1615])),
  (61, (.ireturn, 62, 0, 0, .null, [], []))]
/-- yX10_end -/
def zc_101 : List (Nat × zE) := [(0, (.iload_n 1, 1, 1, 0, .null, [], [])),
  (1, (.ifCond .lt 14, 4, 15, 0, .null, [], [])),
  (4, (.iload_n 1, 5, 1, 0, .null, [], [])),
  (5, (.aload_n 0, 6, 0, 0, .null, [], [])),
  (6, (.getfield 39, 9, 10, 6, (.int 3), [], [103])),
  (9, (.getfield 163, 12, 8, 1, (.int 0), [], [1615])),
  (12, (.if_icmp .le 5, 15, 17, 0, .null, [], [])),
  (15, (.iconst (-1), 16, 0, 0, (.int (-1)), [], [])),
  (16, (.ireturn, 17, 0, 0, .null, [], [])),
  (17, (.aload_n 0, 18, 0, 0, .null, [], [])),
  (18, (.getfield 39, 21, 10, 6, (.int 3), [], [103])),
  (21, (.iload_n 1, 22, 1, 0, .null, [], [])),
  (22, (.putfield 163, 25, 8, 1, (.int 0), [], [1615])),
  (25, (.iload_n 1, 26, 1, 0, .null, [], [])),
  (26, (.ireturn, 27, 0, 0, .null, [], []))]
/-- yX10_row -/
def zc_102 : List (Nat × zE) := [(0, (.aload_n 0, 1, 0, 0, .null, [], [])),
  (1, (.getfield 39, 4, 10, 6, (.int 3), [], [103])),
  (4, (.getfield 163, 7, 8, 1, (.int 0), [], [1615])),
  (7, (.ifCond .ne 10, 10, 17, 0, .null, [], [])),
  (10, (.aload_n 0, 11, 0, 0, .null, [], [])),
  (11, (.bipush (-6), 13, 0, 0, (.int (-6)), [], [])),
  (13, (.invokevirtual 106, 16, 134, 1, .null, [], [900, 901, 902, 2, 903])),
  (16, (.ireturn, 17, 0, 0, .null, [], [])),
  (17, (.iconst 0, 18, 0, 0, (.int 0), [], [])),
  (18, (.istore_n 1, 19, 1, 0, .null, [], [])),
  (19, (.iconst 0, 20, 0, 0, (.int 0), [], [])),
  (20, (.istore_n 2, 21, 2, 0, .null, [], [])),
  (21, (.iconst 0, 22, 0, 0, (.int 0), [], [])),
  (22, (.istore_n 3, 23, 3, 0, .null, [], [])),
  (23, (.iload_n 3, 24, 3, 0, .null, [], [])),
  (24, (.aload_n 0, 25, 0, 0, .null, [], [])),
  (25, (.getfield 39, 28, 10, 6, (.int 3), [], [103])),
  (28, (.getfield 163, 31, 8, 1, (.int 0), [], [1615])),
  (31, (.if_icmp .ge 56, 34, 87, 0, .null, [], [])),
  (34, (.aload_n 0, 35, 0, 0, .null, [], [])),
  (35, (.getfield 12, 38, 10, 0, (.int 3), [], [15])),
  (38, (.aload_n 0, 39, 0, 0, .null, [], [])),
  (39, (.getfield 39, 42, 10, 6, (.int 3), [], [103])),
  (42, (.iload_n 3, 43, 3, 0, .null, [], [])),
  (43, (.invokevirtual 164, 46, 82, 1, .null, [], [1723, 1800, 1801, 102, 1802])),
  (46, (.aload_n 0, 47, 0, 0, .null, [], [])),
  (47, (.getfield 39, 50, 10, 6, (.int 3), [], [103])),
  (50, (.iload_n 3, 51, 3, 0, .null, [], [])),
  (51, (.iconst 1, 52, 0, 0, (.int 1), [], [])),
  (52, (.iadd, 53, 0, 0, .null, [], [])),
  (53, (.invokevirtual 164, 56, 82, 1, .null, [], [1723, 1800, 1801, 102, 1802])),
  (56, (.aload_n 0, 57, 0, 0, .null, [], [])),
  (57, (.getfield 39, 60, 10, 6, (.int 3), [], [103])),
  (60, (.iload_n 3, 61, 3, 0, .null, [], [])),
  (61, (.iconst 2, 62, 0, 0, (.int 2), [], [])),
  (62, (.iadd, 63, 0, 0, .null, [], [])),
  (63, (.invokevirtual 164, 66, 82, 1, .null, [], [1723, 1800, 1801, 102, 1802])),
  (66, (.invokevirtual 110, 69, 65, 3, .null, [], [905, 906, 907, 14, 908])),
  (69, (.ifCond .eq 9, 72, 78, 0, .null, [], [])),
  (72, (.iinc 1 1, 75, 1, 0, (.int 1), [], [])),
  (75, (.goto 6, 78, 81, 0, .null, [], [])),
  (78, (.iinc 2 1, 81, 2, 0, (.int 1), [], [])),
  (81, (.iinc 3 3, 84, 3, 0, (.int 3), [], [])),
  (84, (.goto (-61), 87, 23, 0, .null, [], [])),
  (87, (.aload_n 0, 88, 0, 0, .null, [], [])),
  (88, (.getfield 39, 91, 10, 6, (.int 3), [], [103])),
  (91, (.iconst 0, 92, 0, 0, (.int 0), [], [])),
  (92, (.putfield 163, 95, 8, 1, (.int 0), [], [1615])),
  (95, (.aload_n 0, 96, 0, 0, .null, [], [])),
  (96, (.iload_n 2, 97, 2, 0, .null, [], [])),
  (97, (.putfield 167, 100, 10, 18, (.int 0), [], [1722])),
  (100, (.aload_n 0, 101, 0, 0, .null, [], [])),
  (101, (.getfield 29, 104, 10, 4, (.int 3), [], [22])),
  (104, (.iconst 0, 105, 0, 0, (.int 0), [], [])),
  (105, (.putfield 113, 108, 2, 3, (.int 0), [], [819])),
  (108, (.aload_n 0, 109, 0, 0, .null, [], [])),
  (109, (.iload_n 1, 110, 1, 0, .null, [], [])),
  (110, (.invokevirtual 117, 113, 135, 1, .null, [], [911, 912, 913, 2, 914])),
  (113, (.ireturn, 114, 0, 0, .null, [], []))]
/-- yX10_mutes -/
def zc_103 : List (Nat × zE) := [(0, (.aload_n 0, 1, 0, 0, .null, [], [])),
  (1, (.getfield 167, 4, 10, 18, (.int 0), [], [1722])),
  (4, (.ireturn, 5, 0, 0, .null, [], []))]
/-- yX10_metre -/
def zc_104 : List (Nat × zE) := [(0, (.aload_n 0, 1, 0, 0, .null, [], [])),
  (1, (.getfield 12, 4, 10, 0, (.int 3), [], [15])),
  (4, (.getfield 170, 7, 7, 8, (.int 0), [], [1820])),
  (7, (.bipush 6, 9, 0, 0, (.int 6), [], [])),
  (9, (.if_icmp .lt 18, 12, 27, 0, .null, [], [])),
  (12, (.aload_n 0, 13, 0, 0, .null, [], [])),
  (13, (.getfield 39, 16, 10, 6, (.int 3), [], [103])),
  (16, (.iconst 0, 17, 0, 0, (.int 0), [], [])),
  (17, (.putfield 163, 20, 8, 1, (.int 0), [], [1615])),
  (20, (.aload_n 0, 21, 0, 0, .null, [], [])),
  (21, (.bipush (-5), 23, 0, 0, (.int (-5)), [], [])),
  (23, (.invokevirtual 106, 26, 134, 1, .null, [], [900, 901, 902, 2, 903])),
  (26, (.ireturn, 27, 0, 0, .null, [], [])),
  (27, (.aload_n 0, 28, 0, 0, .null, [], [])),
  (28, (.getfield 46, 31, 10, 7, (.int 3), [], [107])),
  (31, (.aload_n 0, 32, 0, 0, .null, [], [])),
  (32, (.getfield 39, 35, 10, 6, (.int 3), [], [103])),
  (35, (.invokevirtual 173, 38, 84, 1, .null, [], [1822, 1823, 1900, 106, 1901])),
  (38, (.aload_n 0, 39, 0, 0, .null, [], [])),
  (39, (.getfield 39, 42, 10, 6, (.int 3), [], [103])),
  (42, (.iconst 0, 43, 0, 0, (.int 0), [], [])),
  (43, (.putfield 163, 46, 8, 1, (.int 0), [], [1615])),
  (46, (.aload_n 0, 47, 0, 0, .null, [], [])),
  (47, (.getfield 53, 50, 10, 8, (.int 3), [], [111])),
  (50, (.aload_n 0, 51, 0, 0, .null, [], [])),
  (51, (.getfield 46, 54, 10, 7, (.int 3), [], [107])),
  (54, (.invokevirtual 177, 57, 29, 1, .null, [], [2204, 2205, 2206, 110, 2207])),
  (57, (.astore_n 1, 58, 1, 0, .null, [], [])),
  (58, (.aload_n 0, 59, 0, 0, .null, [], [])),
  (59, (.aload_n 0, 60, 0, 0, .null, [], [])),
  (60, (.getfield 46, 63, 10, 7, (.int 3), [], [107])),
  (63, (.getfield 181, 66, 9, 5, (.int 0), [], [1821])),
  (66, (.putfield 95, 69, 10, 17, (.int 0), [], [207])),
  (69, (.aload_n 1, 70, 1, 0, .null, [], [])),
  (70, (.ifnonnull 10, 73, 80, 0, .null, [], [])),
  (73, (.aload_n 0, 74, 0, 0, .null, [], [])),
  (74, (.bipush (-6), 76, 0, 0, (.int (-6)), [], [])),
  (76, (.invokevirtual 106, 79, 134, 1, .null, [], [900, 901, 902, 2, 903])),
  (79, (.ireturn, 80, 0, 0, .null, [], [])),
  (80, (.aload_n 0, 81, 0, 0, .null, [], [])),
  (81, (.getfield 12, 84, 10, 0, (.int 3), [], [15])),
  (84, (.aload_n 1, 85, 1, 0, .null, [], [])),
  (85, (.invokevirtual 184, 88, 75, 1, .null, [], [2602, 2603, 2604, 14, 2605])),
  (88, (.aload_n 0, 89, 0, 0, .null, [], [])),
  (89, (.aload_n 0, 90, 0, 0, .null, [], [])),
  (90, (.getfield 12, 93, 10, 0, (.int 3), [], [15])),
  (93, (.getfield 170, 96, 7, 8, (.int 0), [], [1820])),
  (96, (.iconst 1, 97, 0, 0, (.int 1), [], [])),
  (97, (.isub, 98, 0, 0, .null, [], [])),
  (98, (.invokevirtual 117, 101, 135, 1, .null, [], [911, 912, 913, 2, 914])),
  (101, (.ireturn, 102, 0, 0, .null, [], []))]
/-- yX10_law -/
def zc_105 : List (Nat × zE) := [(0, (.aload_n 0, 1, 0, 0, .null, [], [])),
  (1, (.getfield 12, 4, 10, 0, (.int 3), [], [15])),
  (4, (.getfield 188, 7, 7, 9, (.int 0), [], [3003])),
  (7, (.bipush 6, 9, 0, 0, (.int 6), [], [])),
  (9, (.if_icmp .lt 18, 12, 27, 0, .null, [], [])),
  (12, (.aload_n 0, 13, 0, 0, .null, [], [])),
  (13, (.getfield 39, 16, 10, 6, (.int 3), [], [103])),
  (16, (.iconst 0, 17, 0, 0, (.int 0), [], [])),
  (17, (.putfield 163, 20, 8, 1, (.int 0), [], [1615])),
  (20, (.aload_n 0, 21, 0, 0, .null, [], [])),
  (21, (.bipush (-5), 23, 0, 0, (.int (-5)), [], [])),
  (23, (.invokevirtual 106, 26, 134, 1, .null, [], [900, 901, 902, 2, 903])),
  (26, (.ireturn, 27, 0, 0, .null, [], [])),
  (27, (.aload_n 0, 28, 0, 0, .null, [], [])),
  (28, (.getfield 46, 31, 10, 7, (.int 3), [], [107])),
  (31, (.aload_n 0, 32, 0, 0, .null, [], [])),
  (32, (.getfield 39, 35, 10, 6, (.int 3), [], [103])),
  (35, (.invokevirtual 173, 38, 84, 1, .null, [], [1822, 1823, 1900, 106, 1901])),
  (38, (.aload_n 0, 39, 0, 0, .null, [], [])),
  (39, (.getfield 39, 42, 10, 6, (.int 3), [], [103])),
  (42, (.iconst 0, 43, 0, 0, (.int 0), [], [])),
  (43, (.putfield 163, 46, 8, 1, (.int 0), [], [1615])),
  (46, (.aload_n 0, 47, 0, 0, .null, [], [])),
  (47, (.getfield 60, 50, 10, 9, (.int 3), [], [115])),
  (50, (.aload_n 0, 51, 0, 0, .null, [], [])),
  (51, (.getfield 46, 54, 10, 7, (.int 3), [], [107])),
  (54, (.iconst 0, 55, 0, 0, (.int 0), [], [])),
  (55, (.invokevirtual 191, 58, 1, 2, .null, [], [3005, 3006, 3007, 114, 3008])),
  (58, (.istore_n 1, 59, 1, 0, .null, [], [])),
  (59, (.aload_n 0, 60, 0, 0, .null, [], [])),
  (60, (.aload_n 0, 61, 0, 0, .null, [], [])),
  (61, (.getfield 46, 64, 10, 7, (.int 3), [], [107])),
  (64, (.getfield 181, 67, 9, 5, (.int 0), [], [1821])),
  (67, (.putfield 95, 70, 10, 17, (.int 0), [], [207])),
  (70, (.iload_n 1, 71, 1, 0, .null, [], [])),
  (71, (.ifCond .ne 10, 74, 81, 0, .null, [], [])),
  (74, (.aload_n 0, 75, 0, 0, .null, [], [])),
  (75, (.bipush (-6), 77, 0, 0, (.int (-6)), [], [])),
  (77, (.invokevirtual 106, 80, 134, 1, .null, [], [900, 901, 902, 2, 903])),
  (80, (.ireturn, 81, 0, 0, .null, [], [])),
  (81, (.aload_n 0, 82, 0, 0, .null, [], [])),
  (82, (.getfield 12, 85, 10, 0, (.int 3), [], [15])),
  (85, (.aload_n 0, 86, 0, 0, .null, [], [])),
  (86, (.getfield 60, 89, 10, 9, (.int 3), [], [115])),
  (89, (.getfield 194, 92, 0, 0, (.int 3), [], [3004])),
  (92, (.invokevirtual 198, 95, 18, 0, .null, [], [3223, 3300, 3301, 408, 3302])),
  (95, (.invokevirtual 204, 98, 76, 1, .null, [], [3307, 3308, 3309, 14, 3310])),
  (98, (.aload_n 0, 99, 0, 0, .null, [], [])),
  (99, (.aload_n 0, 100, 0, 0, .null, [], [])),
  (100, (.getfield 12, 103, 10, 0, (.int 3), [], [15])),
  (103, (.getfield 188, 106, 7, 9, (.int 0), [], [3003])),
  (106, (.iconst 1, 107, 0, 0, (.int 1), [], [])),
  (107, (.isub, 108, 0, 0, .null, [], [])),
  (108, (.invokevirtual 117, 111, 135, 1, .null, [], [911, 912, 913, 2, 914])),
  (111, (.ireturn, 112, 0, 0, .null, [], []))]
/-- yX10_orders -/
def zc_106 : List (Nat × zE) := [(0, (.aload_n 0, 1, 0, 0, .null, [], [])),
  (1, (.iconst (-1), 2, 0, 0, (.int (-1)), [], [])),
  (2, (.putfield 99, 5, 10, 19, (.int 0), [], [208])),
  (5, (.aload_n 0, 6, 0, 0, .null, [], [])),
  (6, (.getfield 46, 9, 10, 7, (.int 3), [], [107])),
  (9, (.aload_n 0, 10, 0, 0, .null, [], [])),
  (10, (.getfield 39, 13, 10, 6, (.int 3), [], [103])),
  (13, (.invokevirtual 173, 16, 84, 1, .null, [], [1822, 1823, 1900, 106, 1901])),
  (16, (.aload_n 0, 17, 0, 0, .null, [], [])),
  (17, (.getfield 39, 20, 10, 6, (.int 3), [], [103])),
  (20, (.iconst 0, 21, 0, 0, (.int 0), [], [])),
  (21, (.putfield 163, 24, 8, 1, (.int 0), [], [1615])),
  (24, (.aload_n 0, 25, 0, 0, .null, [], [])),
  (25, (.getfield 60, 28, 10, 9, (.int 3), [], [115])),
  (28, (.aload_n 0, 29, 0, 0, .null, [], [])),
  (29, (.getfield 46, 32, 10, 7, (.int 3), [], [107])),
  (32, (.iconst 1, 33, 0, 0, (.int 1), [], [])),
  (33, (.invokevirtual 191, 36, 1, 2, .null, [], [3005, 3006, 3007, 114, 3008])),
  (36, (.istore_n 1, 37, 1, 0, .null, [], [])),
  (37, (.aload_n 0, 38, 0, 0, .null, [], [])),
  (38, (.aload_n 0, 39, 0, 0, .null, [], [])),
  (39, (.getfield 46, 42, 10, 7, (.int 3), [], [107])),
  (42, (.getfield 181, 45, 9, 5, (.int 0), [], [1821])),
  (45, (.putfield 95, 48, 10, 17, (.int 0), [], [207])),
  (48, (.iload_n 1, 49, 1, 0, .null, [], [])),
  (49, (.ifCond .ne 10, 52, 59, 0, .null, [], [])),
  (52, (.aload_n 0, 53, 0, 0, .null, [], [])),
  (53, (.bipush (-6), 55, 0, 0, (.int (-6)), [], [])),
  (55, (.invokevirtual 106, 58, 134, 1, .null, [], [900, 901, 902, 2, 903])),
  (58, (.ireturn, 59, 0, 0, .null, [], [])),
  (59, (.aload_n 0, 60, 0, 0, .null, [], [])),
  (60, (.getfield 16, 63, 10, 1, (.int 3), [], [16])),
  (63, (.aload_n 0, 64, 0, 0, .null, [], [])),
  (64, (.getfield 12, 67, 10, 0, (.int 3), [], [15])),
  (67, (.invokevirtual 208, 70, 63, 1, .null, [], [3710, 3711, 3712, 14, 3713])),
  (70, (.aload_n 0, 71, 0, 0, .null, [], [])),
  (71, (.getfield 33, 74, 10, 5, (.int 3), [], [23])),
  (74, (.aload_n 0, 75, 0, 0, .null, [], [])),
  (75, (.getfield 29, 78, 10, 4, (.int 3), [], [22])),
  (78, (.invokevirtual 212, 81, 20, 1, .null, [], [3716, 3717, 3718, 21, 3719])),
  (81, (.aload_n 0, 82, 0, 0, .null, [], [])),
  (82, (.getfield 78, 85, 10, 12, (.int 3), [], [201])),
  (85, (.iconst 1, 86, 0, 0, (.int 1), [], [])),
  (86, (.iconst 0, 87, 0, 0, (.int 0), [], [])),
  (87, (.iastore, 88, 0, 0, .null, [], [])),
  (88, (.aload_n 0, 89, 0, 0, .null, [], [])),
  (89, (.getfield 78, 92, 10, 12, (.int 3), [], [201])),
  (92, (.iconst 2, 93, 0, 0, (.int 2), [], [])),
  (93, (.iconst (-1), 94, 0, 0, (.int (-1)), [], [])),
  (94, (.iastore, 95, 0, 0, .null, [], [])),
  (95, (.aload_n 0, 96, 0, 0, .null, [], [])),
  (96, (.getfield 60, 99, 10, 9, (.int 3), [], [115])),
  (99, (.getfield 194, 102, 0, 0, (.int 3), [], [3004])),
  (102, (.astore_n 2, 103, 2, 0, .null, [], [])),
  (103, (.aload_n 0, 104, 0, 0, .null, [], [])),
  (104, (.aload_n 2, 105, 2, 0, .null, [], [])),
  (105, (.getfield 215, 108, 1, 4, (.int 1), [], [3708])),
  (108, (.invokevirtual 219, 111, 146, 1, .null, [], [3722, 3723, 3800, 2, 3801])),
  (111, (.iconst 0, 112, 0, 0, (.int 0), [], [])),
  (112, (.istore_n 3, 113, 3, 0, .null, [], [])),
  (113, (.iload_n 3, 114, 3, 0, .null, [], [])),
  (114, (.aload_n 2, 115, 2, 0, .null, [], [])),
  (115, (.getfield 223, 118, 1, 2, (.int 0), [], [3709])),
  (118, (.if_icmp .ge 63, 121, 181, 0, .null, [], [])),
  (121, (.aload_n 0, 122, 0, 0, .null, [], [])),
  (122, (.getfield 99, 125, 10, 19, (.int 0), [], [208])),
  (125, (.iconst (-1), 126, 0, 0, (.int (-1)), [], [])),
  (126, (.if_icmp .ne 55, 129, 181, 0, .null, [], [])),
  (129, (.aload_n 2, 130, 2, 0, .null, [], [])),
  (130, (.iload_n 3, 131, 3, 0, .null, [], [])),
  (131, (.iconst 1, 132, 0, 0, (.int 1), [], [])),
  (132, (.invokevirtual 226, 135, 14, 2, .null, [], [3910, 1212, 1213, 408, 1214])),
  (135, (.istore 4, 137, 4, 0, .null, [], [])),
  (137, (.iconst 0, 138, 0, 0, (.int 0), [], [])),
  (138, (.istore 5, 140, 5, 0, .null, [], [])),
  (140, (.iload 5, 142, 5, 0, .null, [], [])),
  (142, (.iload 4, 144, 4, 0, .null, [], [])),
  (144, (.if_icmp .ge 31, 147, 175, 0, .null, [], [])),
  (147, (.aload_n 0, 148, 0, 0, .null, [], [])),
  (148, (.getfield 99, 151, 10, 19, (.int 0), [], [208])),
  (151, (.iconst (-1), 152, 0, 0, (.int (-1)), [], [])),
  (152, (.if_icmp .ne 23, 155, 175, 0, .null, [], [])),
  (155, (.aload_n 0, 156, 0, 0, .null, [], [])),
  (156, (.aload_n 2, 157, 2, 0, .null, [], [])),
  (157, (.iload_n 3, 158, 3, 0, .null, [], [])),
  (158, (.invokevirtual 227, 161, 145, 2, .null, [], [3911, 3912, 3913, 2, 3914])),
  (161, (.ifCond .ne 8, 164, 169, 0, .null, [], [])),
  (164, (.aload_n 0, 165, 0, 0, .null, [], [])),
  (165, (.iload_n 3, 166, 3, 0, .null, [], [])),
  (166, (.putfield 99, 169, 10, 19, (.int 0), [], [208])),
  (169, (.iinc 5 1, 172, 5, 0, (.int 1), [], [])),
  (172, (.goto (-32), 175, 140, 0, .null, [], [])),
  (175, (.iinc 3 1, 178, 3, 0, (.int 1), [], [])),
  (178, (.goto (-65), 181, 113, 0, .null, [], [])),
  (181, (.aload_n 0, 182, 0, 0, .null, [], [])),
  (182, (.getfield 99, 185, 10, 19, (.int 0), [], [208])),
  (185, (.iconst (-1), 186, 0, 0, (.int (-1)), [], [])),
  (186, (.if_icmp .eq 32, 189, 218, 0, .null, [], [])),
  (189, (.aload_n 0, 190, 0, 0, .null, [], [])),
  (190, (.getfield 12, 193, 10, 0, (.int 3), [], [15])),
  (193, (.aload_n 0, 194, 0, 0, .null, [], [])),
  (194, (.getfield 16, 197, 10, 1, (.int 3), [], [16])),
  (197, (.invokevirtual 208, 200, 63, 1, .null, [], [3710, 3711, 3712, 14, 3713])),
  (200, (.aload_n 0, 201, 0, 0, .null, [], [])),
  (201, (.getfield 29, 204, 10, 4, (.int 3), [], [22])),
  (204, (.aload_n 0, 205, 0, 0, .null, [], [])),
  (205, (.getfield 33, 208, 10, 5, (.int 3), [], [23])),
  (208, (.invokevirtual 212, 211, 20, 1, .null, [], [3716, 3717, 3718, 21, 3719])),
  (211, (.aload_n 0, 212, 0, 0, .null, [], [])),
  (212, (.bipush (-3), 214, 0, 0, (.int (-3)), [], [])),
  (214, (.invokevirtual 106, 217, 134, 1, .null, [], [900, 901, 902, 2, 903])),
  (217, (.ireturn, 218, 0, 0, .null, [], [])),
  (218, (.aload_n 0, 219, 0, 0, .null, [], [])),
  (219, (.aload_n 0, 220, 0, 0, .null, [], [])),
  (220, (.getfield 78, 223, 10, 12, (.int 3), [], [201])),
  (223, (.iconst 1, 224, 0, 0, (.int 1), [], [])),
  (224, (.iaload, 225, 0, 0, .null, [], [])),
  (225, (.invokevirtual 117, 228, 135, 1, .null, [], [911, 912, 913, 2, 914])),
  (228, (.ireturn, 229, 0, 0, .null, [], []))]
/-- yX10_fault -/
def zc_107 : List (Nat × zE) := [(0, (.aload_n 0, 1, 0, 0, .null, [], [])),
  (1, (.getfield 95, 4, 10, 17, (.int 0), [], [207])),
  (4, (.ireturn, 5, 0, 0, .null, [], []))]
/-- yX10_stopped -/
def zc_108 : List (Nat × zE) := [(0, (.aload_n 0, 1, 0, 0, .null, [], [])),
  (1, (.getfield 99, 4, 10, 19, (.int 0), [], [208])),
  (4, (.ireturn, 5, 0, 0, .null, [], []))]
/-- yX10_force -/
def zc_109 : List (Nat × zE) := [(0, (.iload_n 1, 1, 1, 0, .null, [], [])),
  (1, (.iconst (-1), 2, 0, 0, (.int (-1)), [], [])),
  (2, (.if_icmp .eq 21, 5, 23, 0, .null, [], [])),
  (5, (.aload_n 0, 6, 0, 0, .null, [], [])),
  (6, (.getfield 12, 9, 10, 0, (.int 3), [], [15])),
  (9, (.iload_n 1, 10, 1, 0, .null, [], [])),
  (10, (.invokevirtual 131, 13, 78, 1, .null, [], [1103, 1104, 1105, 14, 1106])),
  (13, (.ifnonnull 10, 16, 23, 0, .null, [], [])),
  (16, (.aload_n 0, 17, 0, 0, .null, [], [])),
  (17, (.bipush (-2), 19, 0, 0, (.int (-2)), [], [])),
  (19, (.invokevirtual 106, 22, 134, 1, .null, [], [900, 901, 902, 2, 903])),
  (22, (.ireturn, 23, 0, 0, .null, [], [])),
  (23, (.aload_n 0, 24, 0, 0, .null, [], [])),
  (24, (.getfield 12, 27, 10, 0, (.int 3), [], [15])),
  (27, (.getfield 128, 30, 7, 10, (.int 0), [], [1018])),
  (30, (.istore_n 2, 31, 2, 0, .null, [], [])),
  (31, (.aload_n 0, 32, 0, 0, .null, [], [])),
  (32, (.getfield 12, 35, 10, 0, (.int 3), [], [15])),
  (35, (.iload_n 1, 36, 1, 0, .null, [], [])),
  (36, (.putfield 128, 39, 7, 10, (.int 0), [], [1018])),
  (39, (.aload_n 0, 40, 0, 0, .null, [], [])),
  (40, (.iload_n 2, 41, 2, 0, .null, [], [])),
  (41, (.invokevirtual 117, 44, 135, 1, .null, [], [911, 912, 913, 2, 914])),
  (44, (.ireturn, 45, 0, 0, .null, [], []))]
/-- yX10_weigh -/
def zc_110 : List (Nat × zE) := [(0, (.aload_n 0, 1, 0, 0, .null, [], [])),
  (1, (.aload_n 0, 2, 0, 0, .null, [], [])),
  (2, (.iload_n 1, 3, 1, 0, .null, [], [])),
  (3, (.iload_n 2, 4, 2, 0, .null, [], [])),
  (4, (.invokevirtual 231, 7, 142, 2, .null, [], [3917, 3918, 3919, 2, 3920])),
  (7, (.invokevirtual 234, 10, 136, 1, .null, [], [4620, 4621, 4622, 2, 4623])),
  (10, (.ireturn, 11, 0, 0, .null, [], []))]
/-- yX10_ends -/
def zc_111 : List (Nat × zE) := [(0, (.aload_n 0, 1, 0, 0, .null, [], [])),
  (1, (.aload_n 0, 2, 0, 0, .null, [], [])),
  (2, (.iload_n 1, 3, 1, 0, .null, [], [])),
  (3, (.iconst 1, 4, 0, 0, (.int 1), [], [])),
  (4, (.invokevirtual 237, 7, 143, 2, .null, [], [4009, 4010, 4011, 2, 4012])),
  (7, (.invokevirtual 234, 10, 136, 1, .null, [], [4620, 4621, 4622, 2, 4623])),
  (10, (.ireturn, 11, 0, 0, .null, [], []))]
/-- yX10_meets -/
def zc_112 : List (Nat × zE) := [(0, (.aload_n 0, 1, 0, 0, .null, [], [])),
  (1, (.aload_n 0, 2, 0, 0, .null, [], [])),
  (2, (.iload_n 1, 3, 1, 0, .null, [], [])),
  (3, (.iconst 2, 4, 0, 0, (.int 2), [], [])),
  (4, (.invokevirtual 237, 7, 143, 2, .null, [], [4009, 4010, 4011, 2, 4012])),
  (7, (.invokevirtual 234, 10, 136, 1, .null, [], [4620, 4621, 4622, 2, 4623])),
  (10, (.ireturn, 11, 0, 0, .null, [], []))]
/-- yX10_pass -/
def zc_113 : List (Nat × zE) := [(0, (.aload_n 0, 1, 0, 0, .null, [], [])),
  (1, (.aload_n 0, 2, 0, 0, .null, [], [])),
  (2, (.invokevirtual 240, 5, 144, 0, .null, [], [4019, 4020, 4021, 2, 4022])),
  (5, (.invokevirtual 234, 8, 136, 1, .null, [], [4620, 4621, 4622, 2, 4623])),
  (8, (.ireturn, 9, 0, 0, .null, [], []))]
/-- yX10_undo -/
def zc_114 : List (Nat × zE) := [(0, (.aload_n 0, 1, 0, 0, .null, [], [])),
  (1, (.getfield 29, 4, 10, 4, (.int 3), [], [22])),
  (4, (.getfield 113, 7, 2, 3, (.int 0), [], [819])),
  (7, (.ifCond .ne 10, 10, 17, 0, .null, [], [])),
  (10, (.aload_n 0, 11, 0, 0, .null, [], [])),
  (11, (.bipush (-3), 13, 0, 0, (.int (-3)), [], [])),
  (13, (.invokevirtual 106, 16, 134, 1, .null, [], [900, 901, 902, 2, 903])),
  (16, (.ireturn, 17, 0, 0, .null, [], [])),
  (17, (.aload_n 0, 18, 0, 0, .null, [], [])),
  (18, (.getfield 29, 21, 10, 4, (.int 3), [], [22])),
  (21, (.invokevirtual 244, 24, 23, 0, .null, [], [4808, 4809, 4810, 21, 4811])),
  (24, (.istore_n 1, 25, 1, 0, .null, [], [])),
  (25, (.aload_n 0, 26, 0, 0, .null, [], [])),
  (26, (.getfield 29, 29, 10, 4, (.int 3), [], [22])),
  (29, (.invokevirtual 247, 32, 24, 0, .null, [], [4816, 4817, 4818, 21, 4819])),
  (32, (.istore_n 2, 33, 2, 0, .null, [], [])),
  (33, (.iload_n 1, 34, 1, 0, .null, [], [])),
  (34, (.ifCond .ne 22, 37, 56, 0, .null, [], [])),
  (37, (.aload_n 0, 38, 0, 0, .null, [], [])),
  (38, (.getfield 12, 41, 10, 0, (.int 3), [], [15])),
  (41, (.iload_n 2, 42, 2, 0, .null, [], [])),
  (42, (.iconst 0, 43, 0, 0, (.int 0), [], [])),
  (43, (.aload_n 0, 44, 0, 0, .null, [], [])),
  (44, (.getfield 29, 47, 10, 4, (.int 3), [], [22])),
  (47, (.invokevirtual 250, 50, 25, 0, .null, [], [4820, 4821, 4822, 21, 4823])),
  (50, (.invokevirtual 253, 53, 68, 3, .null, [], [3921, 3922, 3923, 14, 4000])),
  (53, (.goto 39, 56, 92, 0, .null, [], [])),
  (56, (.iload_n 1, 57, 1, 0, .null, [], [])),
  (57, (.iconst 3, 58, 0, 0, (.int 3), [], [])),
  (58, (.if_icmp .ne 24, 61, 82, 0, .null, [], [])),
  (61, (.aload_n 0, 62, 0, 0, .null, [], [])),
  (62, (.getfield 12, 65, 10, 0, (.int 3), [], [15])),
  (65, (.iconst 0, 66, 0, 0, (.int 0), [], [])),
  (66, (.aload_n 0, 67, 0, 0, .null, [], [])),
  (67, (.getfield 12, 70, 10, 0, (.int 3), [], [15])),
  (70, (.iconst 0, 71, 0, 0, (.int 0), [], [])),
  (71, (.invokevirtual 148, 74, 70, 1, .null, [], [1519, 1120, 1121, 14, 1122])),
  (74, (.iconst 1, 75, 0, 0, (.int 1), [], [])),
  (75, (.isub, 76, 0, 0, .null, [], [])),
  (76, (.invokevirtual 151, 79, 71, 2, .null, [], [1520, 1521, 1522, 14, 1523])),
  (79, (.goto 13, 82, 92, 0, .null, [], [])),
  (82, (.aload_n 0, 83, 0, 0, .null, [], [])),
  (83, (.getfield 12, 86, 10, 0, (.int 3), [], [15])),
  (86, (.iload_n 2, 87, 2, 0, .null, [], [])),
  (87, (.iload_n 1, 88, 1, 0, .null, [], [])),
  (88, (.invokevirtual 257, 91, 69, 2, .null, [], [4013, 4014, 4015, 14, 4016])),
  (91, (.pop, 92, 0, 0, .null, [], [])),
  (92, (.aload_n 0, 93, 0, 0, .null, [], [])),
  (93, (.getfield 29, 96, 10, 4, (.int 3), [], [22])),
  (96, (.dup, 97, 0, 0, .null, [], [])),
  (97, (.getfield 113, 100, 2, 3, (.int 0), [], [819])),
  (100, (.iconst 1, 101, 0, 0, (.int 1), [], [])),
  (101, (.isub, 102, 0, 0, .null, [], [])),
  (102, (.putfield 113, 105, 2, 3, (.int 0), [], [819])),
  (105, (.aload_n 0, 106, 0, 0, .null, [], [])),
  (106, (.iload_n 1, 107, 1, 0, .null, [], [])),
  (107, (.invokevirtual 117, 110, 135, 1, .null, [], [911, 912, 913, 2, 914])),
  (110, (.ireturn, 111, 0, 0, .null, [], []))]
/-- yX10_steps -/
def zc_115 : List (Nat × zE) := [(0, (.aload_n 0, 1, 0, 0, .null, [], [])),
  (1, (.getfield 12, 4, 10, 0, (.int 3), [], [15])),
  (4, (.iload_n 1, 5, 1, 0, .null, [], [])),
  (5, (.invokevirtual 260, 8, 77, 1, .null, [], [3810, 3811, 3812, 14, 3813])),
  (8, (.astore_n 2, 9, 2, 0, .null, [], [])),
  (9, (.aload_n 2, 10, 2, 0, .null, [], [])),
  (10, (.ifnonnull 7, 13, 17, 0, .null, [], [])),
  (13, (.iconst (-1), 14, 0, 0, (.int (-1)), [], [])),
  (14, (.goto 7, 17, 21, 0, .null, [], [])),
  (17, (.aload_n 2, 18, 2, 0, .null, [], [])),
  (18, (.getfield 264, 21, 3, 3, (.int 0), [], [4908])),
  (21, (.ireturn, 22, 0, 0, .null, [], []))]
/-- yX10_best -/
def zc_116 : List (Nat × zE) := [(0, (.iload_n 2, 1, 2, 0, .null, [], [])),
  (1, (.iconst (-1), 2, 0, 0, (.int (-1)), [], [])),
  (2, (.if_icmp .eq 16, 5, 18, 0, .null, [], [])),
  (5, (.aload_n 0, 6, 0, 0, .null, [], [])),
  (6, (.getfield 12, 9, 10, 0, (.int 3), [], [15])),
  (9, (.iload_n 2, 10, 2, 0, .null, [], [])),
  (10, (.invokevirtual 120, 13, 66, 1, .null, [], [1019, 1020, 1021, 14, 1022])),
  (13, (.ifCond .ne 5, 16, 18, 0, .null, [], [])),
  (16, (.iconst (-1), 17, 0, 0, (.int (-1)), [], [])),
  (17, (.ireturn, 18, 0, 0, .null, [], [])),
  (18, (.aload_n 0, 19, 0, 0, .null, [], [])),
  (19, (.iload_n 1, 20, 1, 0, .null, [], [])),
  (20, (.aload_n 0, 21, 0, 0, .null, [], [])),
  (21, (.getfield 12, 24, 10, 0, (.int 3), [], [15])),
  (24, (.getfield 128, 27, 7, 10, (.int 0), [], [1018])),
  (27, (.invokevirtual 269, 30, 139, 2, .null, [], [4918, 4919, 4920, 2, 4921])),
  (30, (.lstore_n 3, 31, 3, 0, .null, [], [])),
  (31, (.lload_n 3, 32, 3, 0, .null, [], [])),
  (32, (.ldc2_w 273, 35, 0, 0, (.long 1152921504606846976), [], [4917])),
  (35, (.lcmp, 36, 0, 0, .null, [], [])),
  (36, (.ifCond .lt 5, 39, 41, 0, .null, [], [])),
  (39, (.iconst (-1), 40, 0, 0, (.int (-1)), [], [])),
  (40, (.ireturn, 41, 0, 0, .null, [], [])),
  (41, (.iload_n 2, 42, 2, 0, .null, [], [])),
  (42, (.iconst (-1), 43, 0, 0, (.int (-1)), [], [])),
  (43, (.if_icmp .ne 10, 46, 53, 0, .null, [], [])),
  (46, (.lload_n 3, 47, 3, 0, .null, [], [])),
  (47, (.invokestatic 275, 50, 60, 1, .null, [], [5103, 5104, 122, 5105])),
  (50, (.goto 8, 53, 58, 0, .null, [], [])),
  (53, (.lload_n 3, 54, 3, 0, .null, [], [])),
  (54, (.iload_n 2, 55, 2, 0, .null, [], [])),
  (55, (.invokestatic 279, 58, 61, 2, .null, [], [5106, 5107, 122, 5108])),
  (58, (.ireturn, 59, 0, 0, .null, [], []))]
/-- yX10_elisions -/
def zc_117 : List (Nat × zE) := [(0, (.aload_n 0, 1, 0, 0, .null, [], [])),
  (1, (.iload_n 1, 2, 1, 0, .null, [], [])),
  (2, (.iconst 1, 3, 0, 0, (.int 1), [], [])),
  (3, (.invokevirtual 283, 6, 140, 2, .null, [], [5208, 5209, 5210, 2, 5211])),
  (6, (.ireturn, 7, 0, 0, .null, [], []))]
/-- yX10_mend -/
def zc_118 : List (Nat × zE) := [(0, (.aload_n 0, 1, 0, 0, .null, [], [])),
  (1, (.iload_n 1, 2, 1, 0, .null, [], [])),
  (2, (.iconst 2, 3, 0, 0, (.int 2), [], [])),
  (3, (.invokevirtual 283, 6, 140, 2, .null, [], [5208, 5209, 5210, 2, 5211])),
  (6, (.ireturn, 7, 0, 0, .null, [], []))]
/-- yX10_reach -/
def zc_119 : List (Nat × zE) := [(0, (.aload_n 0, 1, 0, 0, .null, [], [])),
  (1, (.getfield 12, 4, 10, 0, (.int 3), [], [15])),
  (4, (.iload_n 1, 5, 1, 0, .null, [], [])),
  (5, (.invokevirtual 260, 8, 77, 1, .null, [], [3810, 3811, 3812, 14, 3813])),
  (8, (.astore_n 2, 9, 2, 0, .null, [], [])),
  (9, (.aload_n 2, 10, 2, 0, .null, [], [])),
  (10, (.ifnonnull 5, 13, 15, 0, .null, [], [])),
  (13, (.iconst (-1), 14, 0, 0, (.int (-1)), [], [])),
  (14, (.ireturn, 15, 0, 0, .null, [], [])),
  (15, (.aload_n 0, 16, 0, 0, .null, [], [])),
  (16, (.getfield 74, 19, 10, 11, (.int 3), [], [123])),
  (19, (.aload_n 0, 20, 0, 0, .null, [], [])),
  (20, (.getfield 12, 23, 10, 0, (.int 3), [], [15])),
  (23, (.aload_n 0, 24, 0, 0, .null, [], [])),
  (24, (.getfield 12, 27, 10, 0, (.int 3), [], [15])),
  (27, (.aload_n 0, 28, 0, 0, .null, [], [])),
  (28, (.getfield 12, 31, 10, 0, (.int 3), [], [15])),
  (31, (.getfield 128, 34, 7, 10, (.int 0), [], [1018])),
  (34, (.invokevirtual 131, 37, 78, 1, .null, [], [1103, 1104, 1105, 14, 1106])),
  (37, (.invokevirtual 135, 40, 44, 2, .null, [], [1108, 1109, 1110, 122, 1111])),
  (40, (.aload_n 0, 41, 0, 0, .null, [], [])),
  (41, (.getfield 74, 44, 10, 11, (.int 3), [], [123])),
  (44, (.aload_n 2, 45, 2, 0, .null, [], [])),
  (45, (.invokevirtual 286, 48, 50, 1, .null, [], [5304, 5305, 5306, 122, 5307])),
  (48, (.ireturn, 49, 0, 0, .null, [], []))]
/-- yX10_length -/
def zc_120 : List (Nat × zE) := [(0, (.aload_n 0, 1, 0, 0, .null, [], [])),
  (1, (.getfield 12, 4, 10, 0, (.int 3), [], [15])),
  (4, (.iload_n 1, 5, 1, 0, .null, [], [])),
  (5, (.invokevirtual 260, 8, 77, 1, .null, [], [3810, 3811, 3812, 14, 3813])),
  (8, (.astore_n 3, 9, 3, 0, .null, [], [])),
  (9, (.aload_n 3, 10, 3, 0, .null, [], [])),
  (10, (.ifnull 12, 13, 22, 0, .null, [], [])),
  (13, (.iload_n 2, 14, 2, 0, .null, [], [])),
  (14, (.ifCond .lt 8, 17, 22, 0, .null, [], [])),
  (17, (.iload_n 2, 18, 2, 0, .null, [], [])),
  (18, (.iconst 1, 19, 0, 0, (.int 1), [], [])),
  (19, (.if_icmp .le 5, 22, 24, 0, .null, [], [])),
  (22, (.iconst (-1), 23, 0, 0, (.int (-1)), [], [])),
  (23, (.ireturn, 24, 0, 0, .null, [], [])),
  (24, (.iload_n 2, 25, 2, 0, .null, [], [])),
  (25, (.ifCond .ne 10, 28, 35, 0, .null, [], [])),
  (28, (.aload_n 3, 29, 3, 0, .null, [], [])),
  (29, (.getfield 290, 32, 3, 4, (.int 0), [], [5320])),
  (32, (.goto 7, 35, 39, 0, .null, [], [])),
  (35, (.aload_n 3, 36, 3, 0, .null, [], [])),
  (36, (.getfield 293, 39, 3, 5, (.int 0), [], [5321])),
  (39, (.ireturn, 40, 0, 0, .null, [], []))]
/-- yX10_fits -/
def zc_121 : List (Nat × zE) := [(0, (.aload_n 0, 1, 0, 0, .null, [], [])),
  (1, (.aload_n 0, 2, 0, 0, .null, [], [])),
  (2, (.getfield 12, 5, 10, 0, (.int 3), [], [15])),
  (5, (.invokevirtual 296, 8, 138, 1, .null, [], [3802, 3803, 3804, 2, 3805])),
  (8, (.ireturn, 9, 0, 0, .null, [], []))]
/-- yX10_heard -/
def zc_122 : List (Nat × zE) := [(0, (.iload_n 1, 1, 1, 0, .null, [], [])),
  (1, (.ifCond .lt 18, 4, 19, 0, .null, [], [])),
  (4, (.iload_n 1, 5, 1, 0, .null, [], [])),
  (5, (.bipush 20, 7, 0, 0, (.int 20), [], [])),
  (7, (.if_icmp .ge 12, 10, 19, 0, .null, [], [])),
  (10, (.iload_n 2, 11, 2, 0, .null, [], [])),
  (11, (.ifCond .lt 8, 14, 19, 0, .null, [], [])),
  (14, (.iload_n 2, 15, 2, 0, .null, [], [])),
  (15, (.iconst 3, 16, 0, 0, (.int 3), [], [])),
  (16, (.if_icmp .lt 9, 19, 25, 0, .null, [], [])),
  (19, (.aload_n 0, 20, 0, 0, .null, [], [])),
  (20, (.iconst (-1), 21, 0, 0, (.int (-1)), [], [])),
  (21, (.invokevirtual 106, 24, 134, 1, .null, [], [900, 901, 902, 2, 903])),
  (24, (.ireturn, 25, 0, 0, .null, [], [])),
  (25, (.aload_n 0, 26, 0, 0, .null, [], [])),
  (26, (.getfield 12, 29, 10, 0, (.int 3), [], [15])),
  (29, (.iload_n 1, 30, 1, 0, .null, [], [])),
  (30, (.iload_n 2, 31, 2, 0, .null, [], [])),
  (31, (.invokevirtual 300, 34, 72, 2, .null, [], [5415, 5416, 5417, 14, 5418])),
  (34, (.ifCond .ne 10, 37, 44, 0, .null, [], [])),
  (37, (.aload_n 0, 38, 0, 0, .null, [], [])),
  (38, (.bipush (-5), 40, 0, 0, (.int (-5)), [], [])),
  (40, (.invokevirtual 106, 43, 134, 1, .null, [], [900, 901, 902, 2, 903])),
  (43, (.ireturn, 44, 0, 0, .null, [], [])),
  (44, (.aload_n 0, 45, 0, 0, .null, [], [])),
  (45, (.aload_n 0, 46, 0, 0, .null, [], [])),
  (46, (.getfield 12, 49, 10, 0, (.int 3), [], [15])),
  (49, (.getfield 304, 52, 7, 7, (.int 0), [], [5414])),
  (52, (.invokevirtual 117, 55, 135, 1, .null, [], [911, 912, 913, 2, 914])),
  (55, (.ireturn, 56, 0, 0, .null, [], []))]
/-- yX10_forget -/
def zc_123 : List (Nat × zE) := [(0, (.aload_n 0, 1, 0, 0, .null, [], [])),
  (1, (.getfield 12, 4, 10, 0, (.int 3), [], [15])),
  (4, (.getfield 304, 7, 7, 7, (.int 0), [], [5414])),
  (7, (.istore_n 1, 8, 1, 0, .null, [], [])),
  (8, (.aload_n 0, 9, 0, 0, .null, [], [])),
  (9, (.getfield 12, 12, 10, 0, (.int 3), [], [15])),
  (12, (.iconst 0, 13, 0, 0, (.int 0), [], [])),
  (13, (.putfield 304, 16, 7, 7, (.int 0), [], [5414])),
  (16, (.iload_n 1, 17, 1, 0, .null, [], [])),
  (17, (.ireturn, 18, 0, 0, .null, [], []))]
/-- yX10_canBe -/
def zc_124 : List (Nat × zE) := [(0, (.aload_n 0, 1, 0, 0, .null, [], [])),
  (1, (.getfield 74, 4, 10, 11, (.int 3), [], [123])),
  (4, (.aload_n 0, 5, 0, 0, .null, [], [])),
  (5, (.getfield 12, 8, 10, 0, (.int 3), [], [15])),
  (8, (.aload_n 0, 9, 0, 0, .null, [], [])),
  (9, (.getfield 12, 12, 10, 0, (.int 3), [], [15])),
  (12, (.aload_n 0, 13, 0, 0, .null, [], [])),
  (13, (.getfield 12, 16, 10, 0, (.int 3), [], [15])),
  (16, (.getfield 128, 19, 7, 10, (.int 0), [], [1018])),
  (19, (.invokevirtual 131, 22, 78, 1, .null, [], [1103, 1104, 1105, 14, 1106])),
  (22, (.invokevirtual 135, 25, 44, 2, .null, [], [1108, 1109, 1110, 122, 1111])),
  (25, (.aload_n 0, 26, 0, 0, .null, [], [])),
  (26, (.getfield 74, 29, 10, 11, (.int 3), [], [123])),
  (29, (.aload_n 0, 30, 0, 0, .null, [], [])),
  (30, (.getfield 12, 33, 10, 0, (.int 3), [], [15])),
  (33, (.invokevirtual 307, 36, 48, 1, .null, [], [5511, 5512, 5513, 122, 5514])),
  (36, (.ifCond .eq 14, 39, 50, 0, .null, [], [])),
  (39, (.aload_n 0, 40, 0, 0, .null, [], [])),
  (40, (.aload_n 0, 41, 0, 0, .null, [], [])),
  (41, (.getfield 12, 44, 10, 0, (.int 3), [], [15])),
  (44, (.invokevirtual 311, 47, 137, 1, .null, [], [3806, 3807, 3808, 2, 3809])),
  (47, (.goto 4, 50, 51, 0, .null, [], [])),
  (50, (.iconst 0, 51, 0, 0, (.int 0), [], [])),
  (51, (.ireturn, 52, 0, 0, .null, [], []))]
/-- yX10_listen -/
def zc_125 : List (Nat × zE) := [(0, (.aload_n 0, 1, 0, 0, .null, [], [])),
  (1, (.invokevirtual 314, 4, 124, 0, .null, [], [5617, 5508, 5509, 2, 5510])),
  (4, (.istore_n 2, 5, 2, 0, .null, [], [])),
  (5, (.iload_n 1, 6, 1, 0, .null, [], [])),
  (6, (.ifCond .lt 12, 9, 18, 0, .null, [], [])),
  (9, (.iload_n 1, 10, 1, 0, .null, [], [])),
  (10, (.iconst 1, 11, 0, 0, (.int 1), [], [])),
  (11, (.if_icmp .gt 7, 14, 18, 0, .null, [], [])),
  (14, (.iload_n 2, 15, 2, 0, .null, [], [])),
  (15, (.ifCond .ne 5, 18, 20, 0, .null, [], [])),
  (18, (.iconst (-1), 19, 0, 0, (.int (-1)), [], [])),
  (19, (.ireturn, 20, 0, 0, .null, [], [])),
  (20, (.iconst 0, 21, 0, 0, (.int 0), [], [])),
  (21, (.istore_n 3, 22, 3, 0, .null, [], [])),
  (22, (.iload_n 3, 23, 3, 0, .null, [], [])),
  (23, (.aload_n 0, 24, 0, 0, .null, [], [])),
  (24, (.getfield 82, 27, 10, 13, (.int 3), [], [203])),
  (27, (.arraylength, 28, 0, 0, .null, [], [])),
  (28, (.if_icmp .ge 42, 31, 70, 0, .null, [], [])),
  (31, (.aload_n 0, 32, 0, 0, .null, [], [])),
  (32, (.getfield 82, 35, 10, 13, (.int 3), [], [203])),
  (35, (.iload_n 3, 36, 3, 0, .null, [], [])),
  (36, (.iload_n 2, 37, 2, 0, .null, [], [])),
  (37, (.iload_n 3, 38, 3, 0, .null, [], [])),
  (38, (.ishr, 39, 0, 0, .null, [], [])),
  (39, (.iconst 1, 40, 0, 0, (.int 1), [], [])),
  (40, (.iand, 41, 0, 0, .null, [], [])),
  (41, (.iconst 1, 42, 0, 0, (.int 1), [], [])),
  (42, (.if_icmp .ne 18, 45, 60, 0, .null, [], [])),
  (45, (.aload_n 0, 46, 0, 0, .null, [], [])),
  (46, (.iload_n 3, 47, 3, 0, .null, [], [])),
  (47, (.aload_n 0, 48, 0, 0, .null, [], [])),
  (48, (.getfield 12, 51, 10, 0, (.int 3), [], [15])),
  (51, (.getfield 128, 54, 7, 10, (.int 0), [], [1018])),
  (54, (.invokevirtual 269, 57, 139, 2, .null, [], [4918, 4919, 4920, 2, 4921])),
  (57, (.goto 6, 60, 63, 0, .null, [], [])),
  (60, (.ldc2_w 273, 63, 0, 0, (.long 1152921504606846976), [], [4917])),
  (63, (.lastore, 64, 0, 0, .null, [], [])),
  (64, (.iinc 3 1, 67, 3, 0, (.int 1), [], [])),
  (67, (.goto (-45), 70, 22, 0, .null, [], [])),
  (70, (.iconst (-1), 71, 0, 0, (.int (-1)), [], [])),
  (71, (.istore_n 3, 72, 3, 0, .null, [], [])),
  (72, (.iconst (-1), 73, 0, 0, (.int (-1)), [], [])),
  (73, (.istore 4, 75, 4, 0, .null, [], [])),
  (75, (.iconst 0, 76, 0, 0, (.int 0), [], [])),
  (76, (.istore 5, 78, 5, 0, .null, [], [])),
  (78, (.iload 5, 80, 5, 0, .null, [], [])),
  (80, (.aload_n 0, 81, 0, 0, .null, [], [])),
  (81, (.getfield 12, 84, 10, 0, (.int 3), [], [15])),
  (84, (.getfield 116, 87, 7, 6, (.int 0), [], [820])),
  (87, (.if_icmp .ge 36, 90, 123, 0, .null, [], [])),
  (90, (.aload_n 0, 91, 0, 0, .null, [], [])),
  (91, (.iload 5, 93, 5, 0, .null, [], [])),
  (93, (.invokevirtual 317, 96, 141, 1, .null, [], [5618, 5619, 5620, 2, 5621])),
  (96, (.istore 6, 98, 6, 0, .null, [], [])),
  (98, (.iload_n 3, 99, 3, 0, .null, [], [])),
  (99, (.iconst (-1), 100, 0, 0, (.int (-1)), [], [])),
  (100, (.if_icmp .eq 10, 103, 110, 0, .null, [], [])),
  (103, (.iload 6, 105, 6, 0, .null, [], [])),
  (105, (.iload 4, 107, 4, 0, .null, [], [])),
  (107, (.if_icmp .ge 10, 110, 117, 0, .null, [], [])),
  (110, (.iload 5, 112, 5, 0, .null, [], [])),
  (112, (.istore_n 3, 113, 3, 0, .null, [], [])),
  (113, (.iload 6, 115, 6, 0, .null, [], [])),
  (115, (.istore 4, 117, 4, 0, .null, [], [])),
  (117, (.iinc 5 1, 120, 5, 0, (.int 1), [], [])),
  (120, (.goto (-42), 123, 78, 0, .null, [], [])),
  (123, (.iload_n 1, 124, 1, 0, .null, [], [])),
  (124, (.ifCond .ne 7, 127, 131, 0, .null, [], [])),
  (127, (.iload_n 3, 128, 3, 0, .null, [], [])),
  (128, (.goto 5, 131, 133, 0, .null, [], [])),
  (131, (.iload 4, 133, 4, 0, .null, [], [])),
  (133, (.ireturn, 134, 0, 0, .null, [], []))]
/-- yX10_few -/
def zc_126 : List (Nat × zE) := [(0, (.iload_n 1, 1, 1, 0, .null, [], [])),
  (1, (.iconst 1, 2, 0, 0, (.int 1), [], [])),
  (2, (.if_icmp .lt 19, 5, 21, 0, .null, [], [])),
  (5, (.iload_n 1, 6, 1, 0, .null, [], [])),
  (6, (.bipush 20, 8, 0, 0, (.int 20), [], [])),
  (8, (.if_icmp .gt 13, 11, 21, 0, .null, [], [])),
  (11, (.iload_n 2, 12, 2, 0, .null, [], [])),
  (12, (.ifCond .lt 9, 15, 21, 0, .null, [], [])),
  (15, (.iload_n 2, 16, 2, 0, .null, [], [])),
  (16, (.bipush 99, 18, 0, 0, (.int 99), [], [])),
  (18, (.if_icmp .le 7, 21, 25, 0, .null, [], [])),
  (21, (.ldc2_w 320, 24, 0, 0, (.long (-1)), [], [5714])),
  (24, (.lreturn, 25, 0, 0, .null, [], [])),
  (25, (.aload_n 0, 26, 0, 0, .null, [], [])),
  (26, (.getfield 12, 29, 10, 0, (.int 3), [], [15])),
  (29, (.iconst 1, 30, 0, 0, (.int 1), [], [])),
  (30, (.invokevirtual 148, 33, 70, 1, .null, [], [1519, 1120, 1121, 14, 1122])),
  (33, (.i2l, 34, 0, 0, .null, [], [])),
  (34, (.lstore_n 3, 35, 3, 0, .null, [], [])),
  (35, (.aload_n 0, 36, 0, 0, .null, [], [])),
  (36, (.getfield 86, 39, 10, 14, (.int 3), [], [204])),
  (39, (.lconst 0, 40, 0, 0, (.long 0), [], [])),
  (40, (.invokestatic 322, 43, 278, 2, .null, [], [5717, 5718, 1117, 5719])),
  (43, (.aload_n 0, 44, 0, 0, .null, [], [])),
  (44, (.getfield 86, 47, 10, 14, (.int 3), [], [204])),
  (47, (.iconst 0, 48, 0, 0, (.int 0), [], [])),
  (48, (.ldc2_w 328, 51, 0, 0, (.long 1000000000000), [], [5715])),
  (51, (.lastore, 52, 0, 0, .null, [], [])),
  (52, (.iconst 0, 53, 0, 0, (.int 0), [], [])),
  (53, (.istore 5, 55, 5, 0, .null, [], [])),
  (55, (.iload 5, 57, 5, 0, .null, [], [])),
  (57, (.iload_n 2, 58, 2, 0, .null, [], [])),
  (58, (.if_icmp .ge 91, 61, 149, 0, .null, [], [])),
  (61, (.aload_n 0, 62, 0, 0, .null, [], [])),
  (62, (.getfield 86, 65, 10, 14, (.int 3), [], [204])),
  (65, (.arraylength, 66, 0, 0, .null, [], [])),
  (66, (.iconst 1, 67, 0, 0, (.int 1), [], [])),
  (67, (.isub, 68, 0, 0, .null, [], [])),
  (68, (.istore 6, 70, 6, 0, .null, [], [])),
  (70, (.iload 6, 72, 6, 0, .null, [], [])),
  (72, (.ifCond .le 49, 75, 121, 0, .null, [], [])),
  (75, (.aload_n 0, 76, 0, 0, .null, [], [])),
  (76, (.getfield 86, 79, 10, 14, (.int 3), [], [204])),
  (79, (.iload 6, 81, 6, 0, .null, [], [])),
  (81, (.aload_n 0, 82, 0, 0, .null, [], [])),
  (82, (.getfield 86, 85, 10, 14, (.int 3), [], [204])),
  (85, (.iload 6, 87, 6, 0, .null, [], [])),
  (87, (.laload, 88, 0, 0, .null, [], [])),
  (88, (.ldc2_w 330, 91, 0, 0, (.long 10), [], [5716])),
  (91, (.lload_n 3, 92, 3, 0, .null, [], [])),
  (92, (.lsub, 93, 0, 0, .null, [], [])),
  (93, (.lmul, 94, 0, 0, .null, [], [])),
  (94, (.ldc2_w 330, 97, 0, 0, (.long 10), [], [5716])),
  (97, (.ldiv, 98, 0, 0, .null, [], [])),
  (98, (.aload_n 0, 99, 0, 0, .null, [], [])),
  (99, (.getfield 86, 102, 10, 14, (.int 3), [], [204])),
  (102, (.iload 6, 104, 6, 0, .null, [], [])),
  (104, (.iconst 1, 105, 0, 0, (.int 1), [], [])),
  (105, (.isub, 106, 0, 0, .null, [], [])),
  (106, (.laload, 107, 0, 0, .null, [], [])),
  (107, (.lload_n 3, 108, 3, 0, .null, [], [])),
  (108, (.lmul, 109, 0, 0, .null, [], [])),
  (109, (.ldc2_w 330, 112, 0, 0, (.long 10), [], [5716])),
  (112, (.ldiv, 113, 0, 0, .null, [], [])),
  (113, (.ladd, 114, 0, 0, .null, [], [])),
  (114, (.lastore, 115, 0, 0, .null, [], [])),
  (115, (.iinc 6 (-1), 118, 6, 0, (.int (-1)), [], [])),
  (118, (.goto (-48), 121, 70, 0, .null, [], [])),
  (121, (.aload_n 0, 122, 0, 0, .null, [], [])),
  (122, (.getfield 86, 125, 10, 14, (.int 3), [], [204])),
  (125, (.iconst 0, 126, 0, 0, (.int 0), [], [])),
  (126, (.aload_n 0, 127, 0, 0, .null, [], [])),
  (127, (.getfield 86, 130, 10, 14, (.int 3), [], [204])),
  (130, (.iconst 0, 131, 0, 0, (.int 0), [], [])),
  (131, (.laload, 132, 0, 0, .null, [], [])),
  (132, (.ldc2_w 330, 135, 0, 0, (.long 10), [], [5716])),
  (135, (.lload_n 3, 136, 3, 0, .null, [], [])),
  (136, (.lsub, 137, 0, 0, .null, [], [])),
  (137, (.lmul, 138, 0, 0, .null, [], [])),
  (138, (.ldc2_w 330, 141, 0, 0, (.long 10), [], [5716])),
  (141, (.ldiv, 142, 0, 0, .null, [], [])),
  (142, (.lastore, 143, 0, 0, .null, [], [])),
  (143, (.iinc 5 1, 146, 5, 0, (.int 1), [], [])),
  (146, (.goto (-91), 149, 55, 0, .null, [], [])),
  (149, (.lconst 0, 150, 0, 0, (.long 0), [], [])),
  (150, (.lstore 5, 152, 5, 0, .null, [], [])),
  (152, (.iconst 0, 153, 0, 0, (.int 0), [], [])),
  (153, (.istore 7, 155, 7, 0, .null, [], [])),
  (155, (.iload 7, 157, 7, 0, .null, [], [])),
  (157, (.iload_n 1, 158, 1, 0, .null, [], [])),
  (158, (.if_icmp .ge 31, 161, 189, 0, .null, [], [])),
  (161, (.iload 7, 163, 7, 0, .null, [], [])),
  (163, (.aload_n 0, 164, 0, 0, .null, [], [])),
  (164, (.getfield 86, 167, 10, 14, (.int 3), [], [204])),
  (167, (.arraylength, 168, 0, 0, .null, [], [])),
  (168, (.if_icmp .ge 21, 171, 189, 0, .null, [], [])),
  (171, (.lload 5, 173, 5, 0, .null, [], [])),
  (173, (.aload_n 0, 174, 0, 0, .null, [], [])),
  (174, (.getfield 86, 177, 10, 14, (.int 3), [], [204])),
  (177, (.iload 7, 179, 7, 0, .null, [], [])),
  (179, (.laload, 180, 0, 0, .null, [], [])),
  (180, (.ladd, 181, 0, 0, .null, [], [])),
  (181, (.lstore 5, 183, 5, 0, .null, [], [])),
  (183, (.iinc 7 1, 186, 7, 0, (.int 1), [], [])),
  (186, (.goto (-31), 189, 155, 0, .null, [], [])),
  (189, (.lload 5, 191, 5, 0, .null, [], [])),
  (191, (.lreturn, 192, 0, 0, .null, [], []))]
/-- yX10_compare -/
def zc_127 : List (Nat × zE) := [(0, (.iload_n 1, 1, 1, 0, .null, [], [])),
  (1, (.iconst (-1), 2, 0, 0, (.int (-1)), [], [])),
  (2, (.if_icmp .eq 16, 5, 18, 0, .null, [], [])),
  (5, (.aload_n 0, 6, 0, 0, .null, [], [])),
  (6, (.getfield 12, 9, 10, 0, (.int 3), [], [15])),
  (9, (.iload_n 1, 10, 1, 0, .null, [], [])),
  (10, (.invokevirtual 131, 13, 78, 1, .null, [], [1103, 1104, 1105, 14, 1106])),
  (13, (.ifnonnull 5, 16, 18, 0, .null, [], [])),
  (16, (.iconst (-1), 17, 0, 0, (.int (-1)), [], [])),
  (17, (.ireturn, 18, 0, 0, .null, [], [])),
  (18, (.aload_n 0, 19, 0, 0, .null, [], [])),
  (19, (.iload_n 2, 20, 2, 0, .null, [], [])),
  (20, (.iload_n 1, 21, 1, 0, .null, [], [])),
  (21, (.invokevirtual 269, 24, 139, 2, .null, [], [4918, 4919, 4920, 2, 4921])),
  (24, (.lstore_n 3, 25, 3, 0, .null, [], [])),
  (25, (.lload_n 3, 26, 3, 0, .null, [], [])),
  (26, (.ldc2_w 273, 29, 0, 0, (.long 1152921504606846976), [], [4917])),
  (29, (.lcmp, 30, 0, 0, .null, [], [])),
  (30, (.ifCond .lt 7, 33, 37, 0, .null, [], [])),
  (33, (.iconst (-1), 34, 0, 0, (.int (-1)), [], [])),
  (34, (.goto 7, 37, 41, 0, .null, [], [])),
  (37, (.lload_n 3, 38, 3, 0, .null, [], [])),
  (38, (.invokestatic 275, 41, 60, 1, .null, [], [5103, 5104, 122, 5105])),
  (41, (.ireturn, 42, 0, 0, .null, [], []))]
/-- yX10_weeks -/
def zc_128 : List (Nat × zE) := [(0, (.iload_n 1, 1, 1, 0, .null, [], [])),
  (1, (.ifCond .lt 21, 4, 22, 0, .null, [], [])),
  (4, (.iload_n 1, 5, 1, 0, .null, [], [])),
  (5, (.ldc_w 332, 8, 0, 0, (.int 1000000), [], [5814])),
  (8, (.if_icmp .gt 14, 11, 22, 0, .null, [], [])),
  (11, (.iload_n 2, 12, 2, 0, .null, [], [])),
  (12, (.iconst 1, 13, 0, 0, (.int 1), [], [])),
  (13, (.if_icmp .lt 9, 16, 22, 0, .null, [], [])),
  (16, (.iload_n 2, 17, 2, 0, .null, [], [])),
  (17, (.bipush 60, 19, 0, 0, (.int 60), [], [])),
  (19, (.if_icmp .le 9, 22, 28, 0, .null, [], [])),
  (22, (.aload_n 0, 23, 0, 0, .null, [], [])),
  (23, (.iconst (-1), 24, 0, 0, (.int (-1)), [], [])),
  (24, (.invokevirtual 106, 27, 134, 1, .null, [], [900, 901, 902, 2, 903])),
  (27, (.ireturn, 28, 0, 0, .null, [], [])),
  (28, (.aload_n 0, 29, 0, 0, .null, [], [])),
  (29, (.getfield 12, 32, 10, 0, (.int 3), [], [15])),
  (32, (.getfield 116, 35, 7, 6, (.int 0), [], [820])),
  (35, (.iconst 1, 36, 0, 0, (.int 1), [], [])),
  (36, (.if_icmp .ge 10, 39, 46, 0, .null, [], [])),
  (39, (.aload_n 0, 40, 0, 0, .null, [], [])),
  (40, (.bipush (-3), 42, 0, 0, (.int (-3)), [], [])),
  (42, (.invokevirtual 106, 45, 134, 1, .null, [], [900, 901, 902, 2, 903])),
  (45, (.ireturn, 46, 0, 0, .null, [], [])),
  (46, (.aload_n 0, 47, 0, 0, .null, [], [])),
  (47, (.getfield 19, 50, 10, 2, (.int 3), [], [17])),
  (50, (.astore_n 3, 51, 3, 0, .null, [], [])),
  (51, (.aload_n 3, 52, 3, 0, .null, [], [])),
  (52, (.aload_n 0, 53, 0, 0, .null, [], [])),
  (53, (.getfield 12, 56, 10, 0, (.int 3), [], [15])),
  (56, (.invokevirtual 208, 59, 63, 1, .null, [], [3710, 3711, 3712, 14, 3713])),
  (59, (.iload_n 1, 60, 1, 0, .null, [], [])),
  (60, (.istore 4, 62, 4, 0, .null, [], [])),
  (62, (.iconst 0, 63, 0, 0, (.int 0), [], [])),
  (63, (.istore 5, 65, 5, 0, .null, [], [])),
  (65, (.iconst 0, 66, 0, 0, (.int 0), [], [])),
  (66, (.istore 6, 68, 6, 0, .null, [], [])),
  (68, (.iload 6, 70, 6, 0, .null, [], [])),
  (70, (.iload_n 2, 71, 2, 0, .null, [], [])),
  (71, (.if_icmp .ge 88, 74, 159, 0, .null, [], [])),
  (74, (.aload_n 3, 75, 3, 0, .null, [], [])),
  (75, (.iconst 0, 76, 0, 0, (.int 0), [], [])),
  (76, (.invokevirtual 148, 79, 70, 1, .null, [], [1519, 1120, 1121, 14, 1122])),
  (79, (.sipush 999, 82, 0, 0, (.int 999), [], [])),
  (82, (.if_icmp .ge 77, 85, 159, 0, .null, [], [])),
  (85, (.iload 4, 87, 4, 0, .null, [], [])),
  (87, (.invokestatic 333, 90, 147, 1, .null, [], [5815, 5816, 2, 5817])),
  (90, (.istore 7, 92, 7, 0, .null, [], [])),
  (92, (.iload 7, 94, 7, 0, .null, [], [])),
  (94, (.invokestatic 333, 97, 147, 1, .null, [], [5815, 5816, 2, 5817])),
  (97, (.istore 8, 99, 8, 0, .null, [], [])),
  (99, (.iload 8, 101, 8, 0, .null, [], [])),
  (101, (.invokestatic 333, 104, 147, 1, .null, [], [5815, 5816, 2, 5817])),
  (104, (.istore 4, 106, 4, 0, .null, [], [])),
  (106, (.aload_n 3, 107, 3, 0, .null, [], [])),
  (107, (.iload 7, 109, 7, 0, .null, [], [])),
  (109, (.aload_n 0, 110, 0, 0, .null, [], [])),
  (110, (.getfield 12, 113, 10, 0, (.int 3), [], [15])),
  (113, (.getfield 116, 116, 7, 6, (.int 0), [], [820])),
  (116, (.irem, 117, 0, 0, .null, [], [])),
  (117, (.iload 8, 119, 8, 0, .null, [], [])),
  (119, (.iconst 3, 120, 0, 0, (.int 3), [], [])),
  (120, (.irem, 121, 0, 0, .null, [], [])),
  (121, (.iload 4, 123, 4, 0, .null, [], [])),
  (123, (.iconst 4, 124, 0, 0, (.int 4), [], [])),
  (124, (.irem, 125, 0, 0, .null, [], [])),
  (125, (.invokestatic 336, 128, 148, 4, .null, [], [5819, 5820, 2, 5821])),
  (128, (.iload 5, 130, 5, 0, .null, [], [])),
  (130, (.aload_n 0, 131, 0, 0, .null, [], [])),
  (131, (.aload_n 3, 132, 3, 0, .null, [], [])),
  (132, (.invokevirtual 296, 135, 138, 1, .null, [], [3802, 3803, 3804, 2, 3805])),
  (135, (.invokestatic 340, 138, 275, 1, .null, [], [4023, 4100, 4101, 4102])),
  (138, (.iadd, 139, 0, 0, .null, [], [])),
  (139, (.istore 5, 141, 5, 0, .null, [], [])),
  (141, (.aload_n 3, 142, 3, 0, .null, [], [])),
  (142, (.iconst 0, 143, 0, 0, (.int 0), [], [])),
  (143, (.aload_n 3, 144, 3, 0, .null, [], [])),
  (144, (.iconst 0, 145, 0, 0, (.int 0), [], [])),
  (145, (.invokevirtual 148, 148, 70, 1, .null, [], [1519, 1120, 1121, 14, 1122])),
  (148, (.iconst 1, 149, 0, 0, (.int 1), [], [])),
  (149, (.iadd, 150, 0, 0, .null, [], [])),
  (150, (.invokevirtual 151, 153, 71, 2, .null, [], [1520, 1521, 1522, 14, 1523])),
  (153, (.iinc 6 1, 156, 6, 0, (.int 1), [], [])),
  (156, (.goto (-88), 159, 68, 0, .null, [], [])),
  (159, (.aload_n 0, 160, 0, 0, .null, [], [])),
  (160, (.iload 5, 162, 5, 0, .null, [], [])),
  (162, (.invokevirtual 117, 165, 135, 1, .null, [], [911, 912, 913, 2, 914])),
  (165, (.ireturn, 166, 0, 0, .null, [], []))]
/-- yX10_drawn -/
def zc_129 : List (Nat × zE) := [(0, (.aload_n 0, 1, 0, 0, .null, [], [])),
  (1, (.getfield 19, 4, 10, 2, (.int 3), [], [17])),
  (4, (.iload_n 1, 5, 1, 0, .null, [], [])),
  (5, (.invokevirtual 120, 8, 66, 1, .null, [], [1019, 1020, 1021, 14, 1022])),
  (8, (.ifCond .eq 12, 11, 20, 0, .null, [], [])),
  (11, (.iload_n 2, 12, 2, 0, .null, [], [])),
  (12, (.ifCond .lt 8, 15, 20, 0, .null, [], [])),
  (15, (.iload_n 2, 16, 2, 0, .null, [], [])),
  (16, (.iconst 3, 17, 0, 0, (.int 3), [], [])),
  (17, (.if_icmp .lt 5, 20, 22, 0, .null, [], [])),
  (20, (.iconst (-1), 21, 0, 0, (.int (-1)), [], [])),
  (21, (.ireturn, 22, 0, 0, .null, [], [])),
  (22, (.aload_n 0, 23, 0, 0, .null, [], [])),
  (23, (.getfield 19, 26, 10, 2, (.int 3), [], [17])),
  (26, (.iload_n 1, 27, 1, 0, .null, [], [])),
  (27, (.iload_n 2, 28, 2, 0, .null, [], [])),
  (28, (.invokevirtual 124, 31, 67, 2, .null, [], [1023, 1100, 1101, 14, 1102])),
  (31, (.ireturn, 32, 0, 0, .null, [], []))]
/-- yX10_image -/
def zc_130 : List (Nat × zE) := [(0, (.iload_n 1, 1, 1, 0, .null, [], [])),
  (1, (.ifCond .lt 12, 4, 13, 0, .null, [], [])),
  (4, (.iload_n 1, 5, 1, 0, .null, [], [])),
  (5, (.aload_n 0, 6, 0, 0, .null, [], [])),
  (6, (.getfield 22, 9, 10, 3, (.int 3), [], [18])),
  (9, (.arraylength, 10, 0, 0, .null, [], [])),
  (10, (.if_icmp .lt 9, 13, 19, 0, .null, [], [])),
  (13, (.aload_n 0, 14, 0, 0, .null, [], [])),
  (14, (.iconst (-1), 15, 0, 0, (.int (-1)), [], [])),
  (15, (.invokevirtual 106, 18, 134, 1, .null, [], [900, 901, 902, 2, 903])),
  (18, (.ireturn, 19, 0, 0, .null, [], [])),
  (19, (.aload_n 0, 20, 0, 0, .null, [], [])),
  (20, (.getfield 22, 23, 10, 3, (.int 3), [], [18])),
  (23, (.iload_n 1, 24, 1, 0, .null, [], [])),
  (24, (.aaload, 25, 0, 0, .null, [], [])),
  (25, (.astore_n 2, 26, 2, 0, .null, [], [])),
  (26, (.aload_n 2, 27, 2, 0, .null, [], [])),
  (27, (.ifnonnull 18, 30, 45, 0, .null, [], [])),
  (30, (.new 9, 33, 7, 0, .null, [], [12, 13, 14])),
  (33, (.dup, 34, 0, 0, .null, [], [])),
  (34, (.invokespecial 11, 37, 62, 0, .null, [], [88888, 209, 14, 210])),
  (37, (.astore_n 2, 38, 2, 0, .null, [], [])),
  (38, (.aload_n 0, 39, 0, 0, .null, [], [])),
  (39, (.getfield 22, 42, 10, 3, (.int 3), [], [18])),
  (42, (.iload_n 1, 43, 1, 0, .null, [], [])),
  (43, (.aload_n 2, 44, 2, 0, .null, [], [])),
  (44, (.aastore, 45, 0, 0, .null, [], [])),
  (45, (.aload_n 2, 46, 2, 0, .null, [], [])),
  (46, (.aload_n 0, 47, 0, 0, .null, [], [])),
  (47, (.getfield 12, 50, 10, 0, (.int 3), [], [15])),
  (50, (.invokevirtual 208, 53, 63, 1, .null, [], [3710, 3711, 3712, 14, 3713])),
  (53, (.aload_n 0, 54, 0, 0, .null, [], [])),
  (54, (.iconst 0, 55, 0, 0, (.int 0), [], [])),
  (55, (.invokevirtual 117, 58, 135, 1, .null, [], [911, 912, 913, 2, 914])),
  (58, (.ireturn, 59, 0, 0, .null, [], []))]
/-- yX10_back -/
def zc_131 : List (Nat × zE) := [(0, (.iload_n 1, 1, 1, 0, .null, [], [])),
  (1, (.ifCond .lt 12, 4, 13, 0, .null, [], [])),
  (4, (.iload_n 1, 5, 1, 0, .null, [], [])),
  (5, (.aload_n 0, 6, 0, 0, .null, [], [])),
  (6, (.getfield 22, 9, 10, 3, (.int 3), [], [18])),
  (9, (.arraylength, 10, 0, 0, .null, [], [])),
  (10, (.if_icmp .lt 9, 13, 19, 0, .null, [], [])),
  (13, (.aload_n 0, 14, 0, 0, .null, [], [])),
  (14, (.iconst (-1), 15, 0, 0, (.int (-1)), [], [])),
  (15, (.invokevirtual 106, 18, 134, 1, .null, [], [900, 901, 902, 2, 903])),
  (18, (.ireturn, 19, 0, 0, .null, [], [])),
  (19, (.aload_n 0, 20, 0, 0, .null, [], [])),
  (20, (.getfield 22, 23, 10, 3, (.int 3), [], [18])),
  (23, (.iload_n 1, 24, 1, 0, .null, [], [])),
  (24, (.aaload, 25, 0, 0, .null, [], [])),
  (25, (.astore_n 2, 26, 2, 0, .null, [], [])),
  (26, (.aload_n 2, 27, 2, 0, .null, [], [])),
  (27, (.ifnonnull 10, 30, 37, 0, .null, [], [])),
  (30, (.aload_n 0, 31, 0, 0, .null, [], [])),
  (31, (.bipush (-2), 33, 0, 0, (.int (-2)), [], [])),
  (33, (.invokevirtual 106, 36, 134, 1, .null, [], [900, 901, 902, 2, 903])),
  (36, (.ireturn, 37, 0, 0, .null, [], [])),
  (37, (.aload_n 0, 38, 0, 0, .null, [], [])),
  (38, (.getfield 12, 41, 10, 0, (.int 3), [], [15])),
  (41, (.aload_n 2, 42, 2, 0, .null, [], [])),
  (42, (.invokevirtual 208, 45, 63, 1, .null, [], [3710, 3711, 3712, 14, 3713])),
  (45, (.aload_n 0, 46, 0, 0, .null, [], [])),
  (46, (.getfield 29, 49, 10, 4, (.int 3), [], [22])),
  (49, (.iconst 0, 50, 0, 0, (.int 0), [], [])),
  (50, (.putfield 113, 53, 2, 3, (.int 0), [], [819])),
  (53, (.aload_n 0, 54, 0, 0, .null, [], [])),
  (54, (.iconst 0, 55, 0, 0, (.int 0), [], [])),
  (55, (.invokevirtual 117, 58, 135, 1, .null, [], [911, 912, 913, 2, 914])),
  (58, (.ireturn, 59, 0, 0, .null, [], []))]
/-- yX10_count -/
def zc_132 : List (Nat × zE) := [(0, (.iload_n 1, 1, 1, 0, .null, [], [])),
  (1, (.bipush 6, 3, 0, 0, (.int 6), [], [])),
  (3, (.if_icmp .lt 25, 6, 28, 0, .null, [], [])),
  (6, (.iload_n 1, 7, 1, 0, .null, [], [])),
  (7, (.bipush 6, 9, 0, 0, (.int 6), [], [])),
  (9, (.aload_n 0, 10, 0, 0, .null, [], [])),
  (10, (.getfield 92, 13, 10, 15, (.int 3), [], [206])),
  (13, (.arraylength, 14, 0, 0, .null, [], [])),
  (14, (.iadd, 15, 0, 0, .null, [], [])),
  (15, (.if_icmp .ge 13, 18, 28, 0, .null, [], [])),
  (18, (.aload_n 0, 19, 0, 0, .null, [], [])),
  (19, (.getfield 92, 22, 10, 15, (.int 3), [], [206])),
  (22, (.iload_n 1, 23, 1, 0, .null, [], [])),
  (23, (.bipush 6, 25, 0, 0, (.int 6), [], [])),
  (25, (.isub, 26, 0, 0, .null, [], [])),
  (26, (.iaload, 27, 0, 0, .null, [], [])),
  (27, (.ireturn, 28, 0, 0, .null, [], [])),
  (28, (.iload_n 1, 29, 1, 0, .null, [], [])),
  (29, (.tableswitch 158 0 14 #[75, 83, 91, 99, 107, 115, 158, 158, 158, 158, 158, 123, 131, 140, 149], 104, 187, 0, .null, [(0, 104), (1, 112), (2, 120), (3, 128), (4, 136), (5, 144), (6, 187), (7, 187), (8, 187), (9, 187), (10, 187), (11, 152), (12, 160), (13, 169), (14, 178)], [])),
  (104, (.aload_n 0, 105, 0, 0, .null, [], [])),
  (105, (.getfield 12, 108, 10, 0, (.int 3), [], [15])),
  (108, (.getfield 116, 111, 7, 6, (.int 0), [], [820])),
  (111, (.ireturn, 112, 0, 0, .null, [], [])),
  (112, (.aload_n 0, 113, 0, 0, .null, [], [])),
  (113, (.getfield 12, 116, 10, 0, (.int 3), [], [15])),
  (116, (.getfield 170, 119, 7, 8, (.int 0), [], [1820])),
  (119, (.ireturn, 120, 0, 0, .null, [], [])),
  (120, (.aload_n 0, 121, 0, 0, .null, [], [])),
  (121, (.getfield 12, 124, 10, 0, (.int 3), [], [15])),
  (124, (.getfield 304, 127, 7, 7, (.int 0), [], [5414])),
  (127, (.ireturn, 128, 0, 0, .null, [], [])),
  (128, (.aload_n 0, 129, 0, 0, .null, [], [])),
  (129, (.getfield 12, 132, 10, 0, (.int 3), [], [15])),
  (132, (.getfield 188, 135, 7, 9, (.int 0), [], [3003])),
  (135, (.ireturn, 136, 0, 0, .null, [], [])),
  (136, (.aload_n 0, 137, 0, 0, .null, [], [])),
  (137, (.getfield 29, 140, 10, 4, (.int 3), [], [22])),
  (140, (.getfield 113, 143, 2, 3, (.int 0), [], [819])),
  (143, (.ireturn, 144, 0, 0, .null, [], [])),
  (144, (.aload_n 0, 145, 0, 0, .null, [], [])),
  (145, (.getfield 39, 148, 10, 6, (.int 3), [], [103])),
  (148, (.getfield 163, 151, 8, 1, (.int 0), [], [1615])),
  (151, (.ireturn, 152, 0, 0, .null, [], [])),
  (152, (.aload_n 0, 153, 0, 0, .null, [], [])),
  (153, (.getfield 12, 156, 10, 0, (.int 3), [], [15])),
  (156, (.getfield 128, 159, 7, 10, (.int 0), [], [1018])),
  (159, (.ireturn, 160, 0, 0, .null, [], [])),
  (160, (.aload_n 0, 161, 0, 0, .null, [], [])),
  (161, (.getfield 12, 164, 10, 0, (.int 3), [], [15])),
  (164, (.iconst 0, 165, 0, 0, (.int 0), [], [])),
  (165, (.invokevirtual 148, 168, 70, 1, .null, [], [1519, 1120, 1121, 14, 1122])),
  (168, (.ireturn, 169, 0, 0, .null, [], [])),
  (169, (.aload_n 0, 170, 0, 0, .null, [], [])),
  (170, (.getfield 12, 173, 10, 0, (.int 3), [], [15])),
  (173, (.iconst 1, 174, 0, 0, (.int 1), [], [])),
  (174, (.invokevirtual 148, 177, 70, 1, .null, [], [1519, 1120, 1121, 14, 1122])),
  (177, (.ireturn, 178, 0, 0, .null, [], [])),
  (178, (.aload_n 0, 179, 0, 0, .null, [], [])),
  (179, (.getfield 12, 182, 10, 0, (.int 3), [], [15])),
  (182, (.iconst 2, 183, 0, 0, (.int 2), [], [])),
  (183, (.invokevirtual 148, 186, 70, 1, .null, [], [1519, 1120, 1121, 14, 1122])),
  (186, (.ireturn, 187, 0, 0, .null, [], [])),
  (187, (.iconst (-1), 188, 0, 0, (.int (-1)), [], [])),
  (188, (.ireturn, 189, 0, 0, .null, [], []))]
/-- yX10_status -/
def zc_133 : List (Nat × zE) := [(0, (.aload_n 0, 1, 0, 0, .null, [], [])),
  (1, (.getfield 345, 4, 10, 16, (.int 0), [], [904])),
  (4, (.ireturn, 5, 0, 0, .null, [], []))]
/-- yX10_refuse -/
def zc_134 : List (Nat × zE) := [(0, (.aload_n 0, 1, 0, 0, .null, [], [])),
  (1, (.iload_n 1, 2, 1, 0, .null, [], [])),
  (2, (.putfield 345, 5, 10, 16, (.int 0), [], [904])),
  (5, (.iconst 0, 6, 0, 0, (.int 0), [], [])),
  (6, (.istore_n 2, 7, 2, 0, .null, [], [])),
  (7, (.iload_n 2, 8, 2, 0, .null, [], [])),
  (8, (.getstatic 89, 11, 0, 0, (.ref 0), [], [205])),
  (11, (.arraylength, 12, 0, 0, .null, [], [])),
  (12, (.if_icmp .ge 37, 15, 49, 0, .null, [], [])),
  (15, (.iload_n 2, 16, 2, 0, .null, [], [])),
  (16, (.aload_n 0, 17, 0, 0, .null, [], [])),
  (17, (.getfield 92, 20, 10, 15, (.int 3), [], [206])),
  (20, (.arraylength, 21, 0, 0, .null, [], [])),
  (21, (.if_icmp .ge 28, 24, 49, 0, .null, [], [])),
  (24, (.getstatic 89, 27, 0, 0, (.ref 0), [], [205])),
  (27, (.iload_n 2, 28, 2, 0, .null, [], [])),
  (28, (.iaload, 29, 0, 0, .null, [], [])),
  (29, (.iload_n 1, 30, 1, 0, .null, [], [])),
  (30, (.if_icmp .ne 13, 33, 43, 0, .null, [], [])),
  (33, (.aload_n 0, 34, 0, 0, .null, [], [])),
  (34, (.getfield 92, 37, 10, 15, (.int 3), [], [206])),
  (37, (.iload_n 2, 38, 2, 0, .null, [], [])),
  (38, (.dup2, 39, 0, 0, .null, [], [])),
  (39, (.iaload, 40, 0, 0, .null, [], [])),
  (40, (.iconst 1, 41, 0, 0, (.int 1), [], [])),
  (41, (.iadd, 42, 0, 0, .null, [], [])),
  (42, (.iastore, 43, 0, 0, .null, [], [])),
  (43, (.iinc 2 1, 46, 2, 0, (.int 1), [], [])),
  (46, (.goto (-39), 49, 7, 0, .null, [], [])),
  (49, (.iload_n 1, 50, 1, 0, .null, [], [])),
  (50, (.ireturn, 51, 0, 0, .null, [], []))]
/-- yX10_accept -/
def zc_135 : List (Nat × zE) := [(0, (.aload_n 0, 1, 0, 0, .null, [], [])),
  (1, (.iconst 0, 2, 0, 0, (.int 0), [], [])),
  (2, (.putfield 345, 5, 10, 16, (.int 0), [], [904])),
  (5, (.iload_n 1, 6, 1, 0, .null, [], [])),
  (6, (.ireturn, 7, 0, 0, .null, [], []))]
/-- yX10_settle -/
def zc_136 : List (Nat × zE) := [(0, (.iload_n 1, 1, 1, 0, .null, [], [])),
  (1, (.ifCond .ge 11, 4, 12, 0, .null, [], [])),
  (4, (.aload_n 0, 5, 0, 0, .null, [], [])),
  (5, (.iload_n 1, 6, 1, 0, .null, [], [])),
  (6, (.invokevirtual 106, 9, 134, 1, .null, [], [900, 901, 902, 2, 903])),
  (9, (.goto 8, 12, 17, 0, .null, [], [])),
  (12, (.aload_n 0, 13, 0, 0, .null, [], [])),
  (13, (.iload_n 1, 14, 1, 0, .null, [], [])),
  (14, (.invokevirtual 117, 17, 135, 1, .null, [], [911, 912, 913, 2, 914])),
  (17, (.ireturn, 18, 0, 0, .null, [], []))]
/-- yX10_takingMetres -/
def zc_137 : List (Nat × zE) := [(0, (.iconst 0, 1, 0, 0, (.int 0), [], [])),
  (1, (.istore_n 2, 2, 2, 0, .null, [], [])),
  (2, (.iconst 0, 3, 0, 0, (.int 0), [], [])),
  (3, (.istore_n 3, 4, 3, 0, .null, [], [])),
  (4, (.iload_n 3, 5, 3, 0, .null, [], [])),
  (5, (.aload_n 1, 6, 1, 0, .null, [], [])),
  (6, (.getfield 170, 9, 7, 8, (.int 0), [], [1820])),
  (9, (.if_icmp .ge 39, 12, 48, 0, .null, [], [])),
  (12, (.aload_n 1, 13, 1, 0, .null, [], [])),
  (13, (.iload_n 3, 14, 3, 0, .null, [], [])),
  (14, (.invokevirtual 260, 17, 77, 1, .null, [], [3810, 3811, 3812, 14, 3813])),
  (17, (.astore 4, 19, 4, 0, .null, [], [])),
  (19, (.aload 4, 21, 4, 0, .null, [], [])),
  (21, (.ifnull 21, 24, 42, 0, .null, [], [])),
  (24, (.aload_n 0, 25, 0, 0, .null, [], [])),
  (25, (.getfield 74, 28, 10, 11, (.int 3), [], [123])),
  (28, (.aload 4, 30, 4, 0, .null, [], [])),
  (30, (.invokevirtual 348, 33, 49, 1, .null, [], [3814, 3815, 3816, 122, 3817])),
  (33, (.ifCond .eq 9, 36, 42, 0, .null, [], [])),
  (36, (.iload_n 2, 37, 2, 0, .null, [], [])),
  (37, (.iconst 1, 38, 0, 0, (.int 1), [], [])),
  (38, (.iload_n 3, 39, 3, 0, .null, [], [])),
  (39, (.ishl, 40, 0, 0, .null, [], [])),
  (40, (.ior, 41, 0, 0, .null, [], [])),
  (41, (.istore_n 2, 42, 2, 0, .null, [], [])),
  (42, (.iinc 3 1, 45, 3, 0, (.int 1), [], [])),
  (45, (.goto (-41), 48, 4, 0, .null, [], [])),
  (48, (.iload_n 2, 49, 2, 0, .null, [], [])),
  (49, (.ireturn, 50, 0, 0, .null, [], []))]
/-- yX10_fittingMetres -/
def zc_138 : List (Nat × zE) := [(0, (.aload_n 0, 1, 0, 0, .null, [], [])),
  (1, (.getfield 74, 4, 10, 11, (.int 3), [], [123])),
  (4, (.aload_n 1, 5, 1, 0, .null, [], [])),
  (5, (.aload_n 1, 6, 1, 0, .null, [], [])),
  (6, (.aload_n 1, 7, 1, 0, .null, [], [])),
  (7, (.getfield 128, 10, 7, 10, (.int 0), [], [1018])),
  (10, (.invokevirtual 131, 13, 78, 1, .null, [], [1103, 1104, 1105, 14, 1106])),
  (13, (.invokevirtual 135, 16, 44, 2, .null, [], [1108, 1109, 1110, 122, 1111])),
  (16, (.aload_n 0, 17, 0, 0, .null, [], [])),
  (17, (.aload_n 1, 18, 1, 0, .null, [], [])),
  (18, (.invokevirtual 311, 21, 137, 1, .null, [], [3806, 3807, 3808, 2, 3809])),
  (21, (.ireturn, 22, 0, 0, .null, [], []))]
/-- yX10_bestReading -/
def zc_139 : List (Nat × zE) := [(0, (.aload_n 0, 1, 0, 0, .null, [], [])),
  (1, (.getfield 12, 4, 10, 0, (.int 3), [], [15])),
  (4, (.iload_n 1, 5, 1, 0, .null, [], [])),
  (5, (.invokevirtual 260, 8, 77, 1, .null, [], [3810, 3811, 3812, 14, 3813])),
  (8, (.astore_n 3, 9, 3, 0, .null, [], [])),
  (9, (.aload_n 3, 10, 3, 0, .null, [], [])),
  (10, (.ifnonnull 7, 13, 17, 0, .null, [], [])),
  (13, (.ldc2_w 273, 16, 0, 0, (.long 1152921504606846976), [], [4917])),
  (16, (.lreturn, 17, 0, 0, .null, [], [])),
  (17, (.aload_n 0, 18, 0, 0, .null, [], [])),
  (18, (.getfield 74, 21, 10, 11, (.int 3), [], [123])),
  (21, (.aload_n 0, 22, 0, 0, .null, [], [])),
  (22, (.getfield 12, 25, 10, 0, (.int 3), [], [15])),
  (25, (.aload_n 0, 26, 0, 0, .null, [], [])),
  (26, (.getfield 12, 29, 10, 0, (.int 3), [], [15])),
  (29, (.iload_n 2, 30, 2, 0, .null, [], [])),
  (30, (.invokevirtual 131, 33, 78, 1, .null, [], [1103, 1104, 1105, 14, 1106])),
  (33, (.invokevirtual 135, 36, 44, 2, .null, [], [1108, 1109, 1110, 122, 1111])),
  (36, (.aload_n 0, 37, 0, 0, .null, [], [])),
  (37, (.getfield 74, 40, 10, 11, (.int 3), [], [123])),
  (40, (.aload_n 3, 41, 3, 0, .null, [], [])),
  (41, (.iconst 0, 42, 0, 0, (.int 0), [], [])),
  (42, (.invokevirtual 352, 45, 54, 2, .null, [], [4922, 4923, 5000, 122, 5001])),
  (45, (.lreturn, 46, 0, 0, .null, [], []))]
/-- yX10_fewestBy -/
def zc_140 : List (Nat × zE) := [(0, (.aload_n 0, 1, 0, 0, .null, [], [])),
  (1, (.getfield 12, 4, 10, 0, (.int 3), [], [15])),
  (4, (.iload_n 1, 5, 1, 0, .null, [], [])),
  (5, (.invokevirtual 260, 8, 77, 1, .null, [], [3810, 3811, 3812, 14, 3813])),
  (8, (.astore_n 3, 9, 3, 0, .null, [], [])),
  (9, (.aload_n 3, 10, 3, 0, .null, [], [])),
  (10, (.ifnonnull 5, 13, 15, 0, .null, [], [])),
  (13, (.iconst (-1), 14, 0, 0, (.int (-1)), [], [])),
  (14, (.ireturn, 15, 0, 0, .null, [], [])),
  (15, (.aload_n 0, 16, 0, 0, .null, [], [])),
  (16, (.getfield 74, 19, 10, 11, (.int 3), [], [123])),
  (19, (.aload_n 0, 20, 0, 0, .null, [], [])),
  (20, (.getfield 12, 23, 10, 0, (.int 3), [], [15])),
  (23, (.aload_n 0, 24, 0, 0, .null, [], [])),
  (24, (.getfield 12, 27, 10, 0, (.int 3), [], [15])),
  (27, (.aload_n 0, 28, 0, 0, .null, [], [])),
  (28, (.getfield 12, 31, 10, 0, (.int 3), [], [15])),
  (31, (.getfield 128, 34, 7, 10, (.int 0), [], [1018])),
  (34, (.invokevirtual 131, 37, 78, 1, .null, [], [1103, 1104, 1105, 14, 1106])),
  (37, (.invokevirtual 135, 40, 44, 2, .null, [], [1108, 1109, 1110, 122, 1111])),
  (40, (.aload_n 0, 41, 0, 0, .null, [], [])),
  (41, (.getfield 74, 44, 10, 11, (.int 3), [], [123])),
  (44, (.aload_n 3, 45, 3, 0, .null, [], [])),
  (45, (.iload_n 2, 46, 2, 0, .null, [], [])),
  (46, (.invokevirtual 352, 49, 54, 2, .null, [], [4922, 4923, 5000, 122, 5001])),
  (49, (.lstore 4, 51, 4, 0, .null, [], [])),
  (51, (.lload 4, 53, 4, 0, .null, [], [])),
  (53, (.ldc2_w 273, 56, 0, 0, (.long 1152921504606846976), [], [4917])),
  (56, (.lcmp, 57, 0, 0, .null, [], [])),
  (57, (.ifCond .lt 7, 60, 64, 0, .null, [], [])),
  (60, (.iconst (-1), 61, 0, 0, (.int (-1)), [], [])),
  (61, (.goto 6, 64, 67, 0, .null, [], [])),
  (64, (.lload 4, 66, 4, 0, .null, [], [])),
  (66, (.l2i, 67, 0, 0, .null, [], [])),
  (67, (.ireturn, 68, 0, 0, .null, [], []))]
/-- yX10_mostAlike -/
def zc_141 : List (Nat × zE) := [(0, (.iconst 0, 1, 0, 0, (.int 0), [], [])),
  (1, (.istore_n 2, 2, 2, 0, .null, [], [])),
  (2, (.iconst 0, 3, 0, 0, (.int 0), [], [])),
  (3, (.istore_n 3, 4, 3, 0, .null, [], [])),
  (4, (.iload_n 3, 5, 3, 0, .null, [], [])),
  (5, (.iconst 3, 6, 0, 0, (.int 3), [], [])),
  (6, (.if_icmp .ge 70, 9, 76, 0, .null, [], [])),
  (9, (.iconst 0, 10, 0, 0, (.int 0), [], [])),
  (10, (.istore 4, 12, 4, 0, .null, [], [])),
  (12, (.iconst 0, 13, 0, 0, (.int 0), [], [])),
  (13, (.istore 5, 15, 5, 0, .null, [], [])),
  (15, (.iload 5, 17, 5, 0, .null, [], [])),
  (17, (.aload_n 0, 18, 0, 0, .null, [], [])),
  (18, (.getfield 82, 21, 10, 13, (.int 3), [], [203])),
  (21, (.arraylength, 22, 0, 0, .null, [], [])),
  (22, (.if_icmp .ge 41, 25, 63, 0, .null, [], [])),
  (25, (.aload_n 0, 26, 0, 0, .null, [], [])),
  (26, (.getfield 82, 29, 10, 13, (.int 3), [], [203])),
  (29, (.iload 5, 31, 5, 0, .null, [], [])),
  (31, (.laload, 32, 0, 0, .null, [], [])),
  (32, (.ldc2_w 273, 35, 0, 0, (.long 1152921504606846976), [], [4917])),
  (35, (.lcmp, 36, 0, 0, .null, [], [])),
  (36, (.ifCond .ge 21, 39, 57, 0, .null, [], [])),
  (39, (.aload_n 0, 40, 0, 0, .null, [], [])),
  (40, (.getfield 82, 43, 10, 13, (.int 3), [], [203])),
  (43, (.iload 5, 45, 5, 0, .null, [], [])),
  (45, (.laload, 46, 0, 0, .null, [], [])),
  (46, (.iload_n 1, 47, 1, 0, .null, [], [])),
  (47, (.invokestatic 279, 50, 61, 2, .null, [], [5106, 5107, 122, 5108])),
  (50, (.iload_n 3, 51, 3, 0, .null, [], [])),
  (51, (.if_icmp .ne 6, 54, 57, 0, .null, [], [])),
  (54, (.iinc 4 1, 57, 4, 0, (.int 1), [], [])),
  (57, (.iinc 5 1, 60, 5, 0, (.int 1), [], [])),
  (60, (.goto (-45), 63, 15, 0, .null, [], [])),
  (63, (.iload_n 2, 64, 2, 0, .null, [], [])),
  (64, (.iload 4, 66, 4, 0, .null, [], [])),
  (66, (.invokestatic 356, 69, 272, 2, .null, [], [5622, 414, 415, 416])),
  (69, (.istore_n 2, 70, 2, 0, .null, [], [])),
  (70, (.iinc 3 1, 73, 3, 0, (.int 1), [], [])),
  (73, (.goto (-69), 76, 4, 0, .null, [], [])),
  (76, (.iload_n 2, 77, 2, 0, .null, [], [])),
  (77, (.ireturn, 78, 0, 0, .null, [], []))]
/-- yX10_tryWeigh -/
def zc_142 : List (Nat × zE) := [(0, (.iload_n 2, 1, 2, 0, .null, [], [])),
  (1, (.ifCond .lt 8, 4, 9, 0, .null, [], [])),
  (4, (.iload_n 2, 5, 2, 0, .null, [], [])),
  (5, (.iconst 2, 6, 0, 0, (.int 2), [], [])),
  (6, (.if_icmp .le 5, 9, 11, 0, .null, [], [])),
  (9, (.iconst (-1), 10, 0, 0, (.int (-1)), [], [])),
  (10, (.ireturn, 11, 0, 0, .null, [], [])),
  (11, (.aload_n 0, 12, 0, 0, .null, [], [])),
  (12, (.getfield 12, 15, 10, 0, (.int 3), [], [15])),
  (15, (.iload_n 1, 16, 1, 0, .null, [], [])),
  (16, (.invokevirtual 120, 19, 66, 1, .null, [], [1019, 1020, 1021, 14, 1022])),
  (19, (.ifCond .ne 6, 22, 25, 0, .null, [], [])),
  (22, (.bipush (-2), 24, 0, 0, (.int (-2)), [], [])),
  (24, (.ireturn, 25, 0, 0, .null, [], [])),
  (25, (.aload_n 0, 26, 0, 0, .null, [], [])),
  (26, (.getfield 12, 29, 10, 0, (.int 3), [], [15])),
  (29, (.iload_n 1, 30, 1, 0, .null, [], [])),
  (30, (.iconst 0, 31, 0, 0, (.int 0), [], [])),
  (31, (.invokevirtual 124, 34, 67, 2, .null, [], [1023, 1100, 1101, 14, 1102])),
  (34, (.istore_n 3, 35, 3, 0, .null, [], [])),
  (35, (.iload_n 3, 36, 3, 0, .null, [], [])),
  (36, (.iload_n 2, 37, 2, 0, .null, [], [])),
  (37, (.if_icmp .ne 6, 40, 43, 0, .null, [], [])),
  (40, (.bipush (-3), 42, 0, 0, (.int (-3)), [], [])),
  (42, (.ireturn, 43, 0, 0, .null, [], [])),
  (43, (.aload_n 0, 44, 0, 0, .null, [], [])),
  (44, (.getfield 12, 47, 10, 0, (.int 3), [], [15])),
  (47, (.iload_n 1, 48, 1, 0, .null, [], [])),
  (48, (.iconst 0, 49, 0, 0, (.int 0), [], [])),
  (49, (.iload_n 2, 50, 2, 0, .null, [], [])),
  (50, (.invokevirtual 253, 53, 68, 3, .null, [], [3921, 3922, 3923, 14, 4000])),
  (53, (.aload_n 0, 54, 0, 0, .null, [], [])),
  (54, (.getfield 29, 57, 10, 4, (.int 3), [], [22])),
  (57, (.iconst 0, 58, 0, 0, (.int 0), [], [])),
  (58, (.iload_n 1, 59, 1, 0, .null, [], [])),
  (59, (.iload_n 3, 60, 3, 0, .null, [], [])),
  (60, (.invokevirtual 361, 63, 21, 3, .null, [], [4001, 4002, 4003, 21, 4004])),
  (63, (.iload_n 3, 64, 3, 0, .null, [], [])),
  (64, (.ireturn, 65, 0, 0, .null, [], []))]
/-- yX10_tryTurn -/
def zc_143 : List (Nat × zE) := [(0, (.aload_n 0, 1, 0, 0, .null, [], [])),
  (1, (.getfield 12, 4, 10, 0, (.int 3), [], [15])),
  (4, (.iload_n 1, 5, 1, 0, .null, [], [])),
  (5, (.invokevirtual 120, 8, 66, 1, .null, [], [1019, 1020, 1021, 14, 1022])),
  (8, (.ifCond .ne 6, 11, 14, 0, .null, [], [])),
  (11, (.bipush (-2), 13, 0, 0, (.int (-2)), [], [])),
  (13, (.ireturn, 14, 0, 0, .null, [], [])),
  (14, (.aload_n 0, 15, 0, 0, .null, [], [])),
  (15, (.getfield 29, 18, 10, 4, (.int 3), [], [22])),
  (18, (.iload_n 2, 19, 2, 0, .null, [], [])),
  (19, (.iload_n 1, 20, 1, 0, .null, [], [])),
  (20, (.iconst 0, 21, 0, 0, (.int 0), [], [])),
  (21, (.invokevirtual 361, 24, 21, 3, .null, [], [4001, 4002, 4003, 21, 4004])),
  (24, (.aload_n 0, 25, 0, 0, .null, [], [])),
  (25, (.getfield 12, 28, 10, 0, (.int 3), [], [15])),
  (28, (.iload_n 1, 29, 1, 0, .null, [], [])),
  (29, (.iload_n 2, 30, 2, 0, .null, [], [])),
  (30, (.invokevirtual 257, 33, 69, 2, .null, [], [4013, 4014, 4015, 14, 4016])),
  (33, (.ireturn, 34, 0, 0, .null, [], []))]
/-- yX10_tryPass -/
def zc_144 : List (Nat × zE) := [(0, (.aload_n 0, 1, 0, 0, .null, [], [])),
  (1, (.getfield 12, 4, 10, 0, (.int 3), [], [15])),
  (4, (.iconst 0, 5, 0, 0, (.int 0), [], [])),
  (5, (.invokevirtual 148, 8, 70, 1, .null, [], [1519, 1120, 1121, 14, 1122])),
  (8, (.istore_n 1, 9, 1, 0, .null, [], [])),
  (9, (.iload_n 1, 10, 1, 0, .null, [], [])),
  (10, (.sipush 999, 13, 0, 0, (.int 999), [], [])),
  (13, (.if_icmp .lt 6, 16, 19, 0, .null, [], [])),
  (16, (.bipush (-3), 18, 0, 0, (.int (-3)), [], [])),
  (18, (.ireturn, 19, 0, 0, .null, [], [])),
  (19, (.aload_n 0, 20, 0, 0, .null, [], [])),
  (20, (.aload_n 0, 21, 0, 0, .null, [], [])),
  (21, (.getfield 12, 24, 10, 0, (.int 3), [], [15])),
  (24, (.invokevirtual 296, 27, 138, 1, .null, [], [3802, 3803, 3804, 2, 3805])),
  (27, (.invokestatic 340, 30, 275, 1, .null, [], [4023, 4100, 4101, 4102])),
  (30, (.istore_n 2, 31, 2, 0, .null, [], [])),
  (31, (.aload_n 0, 32, 0, 0, .null, [], [])),
  (32, (.getfield 12, 35, 10, 0, (.int 3), [], [15])),
  (35, (.iconst 0, 36, 0, 0, (.int 0), [], [])),
  (36, (.iload_n 1, 37, 1, 0, .null, [], [])),
  (37, (.iconst 1, 38, 0, 0, (.int 1), [], [])),
  (38, (.iadd, 39, 0, 0, .null, [], [])),
  (39, (.invokevirtual 151, 42, 71, 2, .null, [], [1520, 1521, 1522, 14, 1523])),
  (42, (.aload_n 0, 43, 0, 0, .null, [], [])),
  (43, (.getfield 29, 46, 10, 4, (.int 3), [], [22])),
  (46, (.iconst 3, 47, 0, 0, (.int 3), [], [])),
  (47, (.iconst 0, 48, 0, 0, (.int 0), [], [])),
  (48, (.iconst 0, 49, 0, 0, (.int 0), [], [])),
  (49, (.invokevirtual 361, 52, 21, 3, .null, [], [4001, 4002, 4003, 21, 4004])),
  (52, (.iload_n 2, 53, 2, 0, .null, [], [])),
  (53, (.ireturn, 54, 0, 0, .null, [], []))]
/-- yX10_runOnce -/
def zc_145 : List (Nat × zE) := [(0, (.aload_n 1, 1, 1, 0, .null, [], [])),
  (1, (.iload_n 2, 2, 2, 0, .null, [], [])),
  (2, (.iconst 4, 3, 0, 0, (.int 4), [], [])),
  (3, (.invokevirtual 226, 6, 14, 2, .null, [], [3910, 1212, 1213, 408, 1214])),
  (6, (.istore_n 3, 7, 3, 0, .null, [], [])),
  (7, (.iload_n 3, 8, 3, 0, .null, [], [])),
  (8, (.iconst (-1), 9, 0, 0, (.int (-1)), [], [])),
  (9, (.if_icmp .eq 25, 12, 34, 0, .null, [], [])),
  (12, (.aload_n 0, 13, 0, 0, .null, [], [])),
  (13, (.getfield 67, 16, 10, 10, (.int 3), [], [119])),
  (16, (.aload_n 1, 17, 1, 0, .null, [], [])),
  (17, (.getfield 364, 20, 1, 0, (.int 3), [], [3915])),
  (20, (.iload_n 3, 21, 3, 0, .null, [], [])),
  (21, (.aload_n 0, 22, 0, 0, .null, [], [])),
  (22, (.getfield 78, 25, 10, 12, (.int 3), [], [201])),
  (25, (.invokevirtual 367, 28, 41, 3, .null, [], [3916, 1216, 1217, 118, 1218])),
  (28, (.iconst 1, 29, 0, 0, (.int 1), [], [])),
  (29, (.if_icmp .eq 5, 32, 34, 0, .null, [], [])),
  (32, (.iconst 1, 33, 0, 0, (.int 1), [], [])),
  (33, (.ireturn, 34, 1, 0, .null, [], [])),
  (34, (.aload_n 0, 35, 0, 0, .null, [], [])),
  (35, (.getfield 67, 38, 10, 10, (.int 3), [], [119])),
  (38, (.aload_n 1, 39, 1, 0, .null, [], [])),
  (39, (.getfield 364, 42, 1, 0, (.int 3), [], [3915])),
  (42, (.aload_n 1, 43, 1, 0, .null, [], [])),
  (43, (.iload_n 2, 44, 2, 0, .null, [], [])),
  (44, (.iconst 2, 45, 0, 0, (.int 2), [], [])),
  (45, (.invokevirtual 226, 48, 14, 2, .null, [], [3910, 1212, 1213, 408, 1214])),
  (48, (.aload_n 0, 49, 0, 0, .null, [], [])),
  (49, (.getfield 78, 52, 10, 12, (.int 3), [], [201])),
  (52, (.invokevirtual 367, 55, 41, 3, .null, [], [3916, 1216, 1217, 118, 1218])),
  (55, (.istore 4, 57, 4, 0, .null, [], [])),
  (57, (.aload_n 0, 58, 0, 0, .null, [], [])),
  (58, (.getfield 67, 61, 10, 10, (.int 3), [], [119])),
  (61, (.aload_n 1, 62, 1, 0, .null, [], [])),
  (62, (.getfield 364, 65, 1, 0, (.int 3), [], [3915])),
  (65, (.aload_n 1, 66, 1, 0, .null, [], [])),
  (66, (.iload_n 2, 67, 2, 0, .null, [], [])),
  (67, (.iconst 3, 68, 0, 0, (.int 3), [], [])),
  (68, (.invokevirtual 226, 71, 14, 2, .null, [], [3910, 1212, 1213, 408, 1214])),
  (71, (.aload_n 0, 72, 0, 0, .null, [], [])),
  (72, (.getfield 78, 75, 10, 12, (.int 3), [], [201])),
  (75, (.invokevirtual 367, 78, 41, 3, .null, [], [3916, 1216, 1217, 118, 1218])),
  (78, (.istore 5, 80, 5, 0, .null, [], [])),
  (80, (.aload_n 1, 81, 1, 0, .null, [], [])),
  (81, (.iload_n 2, 82, 2, 0, .null, [], [])),
  (82, (.iconst 0, 83, 0, 0, (.int 0), [], [])),
  (83, (.invokevirtual 226, 86, 14, 2, .null, [], [3910, 1212, 1213, 408, 1214])),
  (86, (.tableswitch 67 276 279 #[30, 67, 43, 55], 116, 153, 0, .null, [(276, 116), (277, 153), (278, 129), (279, 141)], [])),
  (116, (.aload_n 0, 117, 0, 0, .null, [], [])),
  (117, (.iload 4, 119, 4, 0, .null, [], [])),
  (119, (.iload 5, 121, 5, 0, .null, [], [])),
  (121, (.invokevirtual 231, 124, 142, 2, .null, [], [3917, 3918, 3919, 2, 3920])),
  (124, (.istore 6, 126, 6, 0, .null, [], [])),
  (126, (.goto 41, 129, 167, 0, .null, [], [])),
  (129, (.aload_n 0, 130, 0, 0, .null, [], [])),
  (130, (.iload 4, 132, 4, 0, .null, [], [])),
  (132, (.iconst 1, 133, 0, 0, (.int 1), [], [])),
  (133, (.invokevirtual 237, 136, 143, 2, .null, [], [4009, 4010, 4011, 2, 4012])),
  (136, (.istore 6, 138, 6, 0, .null, [], [])),
  (138, (.goto 29, 141, 167, 0, .null, [], [])),
  (141, (.aload_n 0, 142, 0, 0, .null, [], [])),
  (142, (.iload 4, 144, 4, 0, .null, [], [])),
  (144, (.iconst 2, 145, 0, 0, (.int 2), [], [])),
  (145, (.invokevirtual 237, 148, 143, 2, .null, [], [4009, 4010, 4011, 2, 4012])),
  (148, (.istore 6, 150, 6, 0, .null, [], [])),
  (150, (.goto 17, 153, 167, 0, .null, [], [])),
  (153, (.aload_n 0, 154, 0, 0, .null, [], [])),
  (154, (.invokevirtual 240, 157, 144, 0, .null, [], [4019, 4020, 4021, 2, 4022])),
  (157, (.istore 6, 159, 6, 0, .null, [], [])),
  (159, (.aload_n 0, 160, 0, 0, .null, [], [])),
  (160, (.getfield 78, 163, 10, 12, (.int 3), [], [201])),
  (163, (.iconst 2, 164, 0, 0, (.int 2), [], [])),
  (164, (.iload 6, 166, 6, 0, .null, [], [])),
  (166, (.iastore, 167, 0, 0, .null, [], [])),
  (167, (.iload 6, 169, 6, 0, .null, [], [])),
  (169, (.ifCond .ge 5, 172, 174, 0, .null, [], [])),
  (172, (.iconst 0, 173, 0, 0, (.int 0), [], [])),
  (173, (.ireturn, 174, 1, 0, .null, [], [])),
  (174, (.aload_n 0, 175, 0, 0, .null, [], [])),
  (175, (.getfield 78, 178, 10, 12, (.int 3), [], [201])),
  (178, (.iconst 1, 179, 0, 0, (.int 1), [], [])),
  (179, (.dup2, 180, 0, 0, .null, [], [])),
  (180, (.iaload, 181, 0, 0, .null, [], [])),
  (181, (.iconst 1, 182, 0, 0, (.int 1), [], [])),
  (182, (.iadd, 183, 0, 0, .null, [], [])),
  (183, (.iastore, 184, 0, 0, .null, [], [])),
  (184, (.aload_n 0, 185, 0, 0, .null, [], [])),
  (185, (.aload_n 1, 186, 1, 0, .null, [], [])),
  (186, (.getfield 215, 189, 1, 4, (.int 1), [], [3708])),
  (189, (.invokevirtual 219, 192, 146, 1, .null, [], [3722, 3723, 3800, 2, 3801])),
  (192, (.iconst 1, 193, 0, 0, (.int 1), [], [])),
  (193, (.ireturn, 194, 1, 0, .null, [], []))]
/-- yX10_setOrderWords -/
def zc_146 : List (Nat × zE) := [(0, (.aload_n 0, 1, 0, 0, .null, [], [])),
  (1, (.getfield 78, 4, 10, 12, (.int 3), [], [201])),
  (4, (.iconst 0, 5, 0, 0, (.int 0), [], [])),
  (5, (.aload_n 0, 6, 0, 0, .null, [], [])),
  (6, (.getfield 12, 9, 10, 0, (.int 3), [], [15])),
  (9, (.iconst 0, 10, 0, 0, (.int 0), [], [])),
  (10, (.invokevirtual 148, 13, 70, 1, .null, [], [1519, 1120, 1121, 14, 1122])),
  (13, (.iastore, 14, 0, 0, .null, [], [])),
  (14, (.aload_n 0, 15, 0, 0, .null, [], [])),
  (15, (.getfield 78, 18, 10, 12, (.int 3), [], [201])),
  (18, (.iconst 3, 19, 0, 0, (.int 3), [], [])),
  (19, (.aload_n 0, 20, 0, 0, .null, [], [])),
  (20, (.getfield 12, 23, 10, 0, (.int 3), [], [15])),
  (23, (.getfield 116, 26, 7, 6, (.int 0), [], [820])),
  (26, (.iastore, 27, 0, 0, .null, [], [])),
  (27, (.iconst 0, 28, 0, 0, (.int 0), [], [])),
  (28, (.istore_n 2, 29, 2, 0, .null, [], [])),
  (29, (.iload_n 2, 30, 2, 0, .null, [], [])),
  (30, (.bipush 20, 32, 0, 0, (.int 20), [], [])),
  (32, (.if_icmp .ge 41, 35, 73, 0, .null, [], [])),
  (35, (.aload_n 0, 36, 0, 0, .null, [], [])),
  (36, (.getfield 78, 39, 10, 12, (.int 3), [], [201])),
  (39, (.iconst 4, 40, 0, 0, (.int 4), [], [])),
  (40, (.iload_n 2, 41, 2, 0, .null, [], [])),
  (41, (.iadd, 42, 0, 0, .null, [], [])),
  (42, (.aload_n 0, 43, 0, 0, .null, [], [])),
  (43, (.getfield 12, 46, 10, 0, (.int 3), [], [15])),
  (46, (.iload_n 2, 47, 2, 0, .null, [], [])),
  (47, (.invokevirtual 120, 50, 66, 1, .null, [], [1019, 1020, 1021, 14, 1022])),
  (50, (.ifCond .eq 15, 53, 65, 0, .null, [], [])),
  (53, (.aload_n 0, 54, 0, 0, .null, [], [])),
  (54, (.getfield 12, 57, 10, 0, (.int 3), [], [15])),
  (57, (.iload_n 2, 58, 2, 0, .null, [], [])),
  (58, (.iconst 0, 59, 0, 0, (.int 0), [], [])),
  (59, (.invokevirtual 124, 62, 67, 2, .null, [], [1023, 1100, 1101, 14, 1102])),
  (62, (.goto 4, 65, 66, 0, .null, [], [])),
  (65, (.iconst (-1), 66, 0, 0, (.int (-1)), [], [])),
  (66, (.iastore, 67, 0, 0, .null, [], [])),
  (67, (.iinc 2 1, 70, 2, 0, (.int 1), [], [])),
  (70, (.goto (-41), 73, 29, 0, .null, [], [])),
  (73, (.iload_n 1, 74, 1, 0, .null, [], [])),
  (74, (.ifCond .eq 14, 77, 88, 0, .null, [], [])),
  (77, (.aload_n 0, 78, 0, 0, .null, [], [])),
  (78, (.aload_n 0, 79, 0, 0, .null, [], [])),
  (79, (.getfield 12, 82, 10, 0, (.int 3), [], [15])),
  (82, (.invokevirtual 296, 85, 138, 1, .null, [], [3802, 3803, 3804, 2, 3805])),
  (85, (.goto 4, 88, 89, 0, .null, [], [])),
  (88, (.iconst 0, 89, 0, 0, (.int 0), [], [])),
  (89, (.istore_n 2, 90, 2, 0, .null, [], [])),
  (90, (.iconst 0, 91, 0, 0, (.int 0), [], [])),
  (91, (.istore_n 3, 92, 3, 0, .null, [], [])),
  (92, (.iload_n 3, 93, 3, 0, .null, [], [])),
  (93, (.bipush 6, 95, 0, 0, (.int 6), [], [])),
  (95, (.if_icmp .ge 38, 98, 133, 0, .null, [], [])),
  (98, (.aload_n 0, 99, 0, 0, .null, [], [])),
  (99, (.getfield 78, 102, 10, 12, (.int 3), [], [201])),
  (102, (.bipush 24, 104, 0, 0, (.int 24), [], [])),
  (104, (.iload_n 3, 105, 3, 0, .null, [], [])),
  (105, (.iadd, 106, 0, 0, .null, [], [])),
  (106, (.iload_n 3, 107, 3, 0, .null, [], [])),
  (107, (.aload_n 0, 108, 0, 0, .null, [], [])),
  (108, (.getfield 12, 111, 10, 0, (.int 3), [], [15])),
  (111, (.getfield 170, 114, 7, 8, (.int 0), [], [1820])),
  (114, (.if_icmp .ge 11, 117, 125, 0, .null, [], [])),
  (117, (.iload_n 2, 118, 2, 0, .null, [], [])),
  (118, (.iload_n 3, 119, 3, 0, .null, [], [])),
  (119, (.ishr, 120, 0, 0, .null, [], [])),
  (120, (.iconst 1, 121, 0, 0, (.int 1), [], [])),
  (121, (.iand, 122, 0, 0, .null, [], [])),
  (122, (.goto 4, 125, 126, 0, .null, [], [])),
  (125, (.iconst (-1), 126, 0, 0, (.int (-1)), [], [])),
  (126, (.iastore, 127, 0, 0, .null, [], [])),
  (127, (.iinc 3 1, 130, 3, 0, (.int 1), [], [])),
  (130, (.goto (-38), 133, 92, 0, .null, [], [])),
  (133, (.return_, 134, 0, 0, .null, [], []))]
/-- yX10_nextDraw -/
def zc_147 : List (Nat × zE) := [(0, (.iload_n 0, 1, 0, 0, .null, [], [])),
  (1, (.sipush 1103, 4, 0, 0, (.int 1103), [], [])),
  (4, (.imul, 5, 0, 0, .null, [], [])),
  (5, (.sipush 12345, 8, 0, 0, (.int 12345), [], [])),
  (8, (.iadd, 9, 0, 0, .null, [], [])),
  (9, (.ldc_w 371, 12, 0, 0, (.int 1000003), [], [5818])),
  (12, (.irem, 13, 0, 0, .null, [], [])),
  (13, (.ireturn, 14, 0, 0, .null, [], []))]
/-- yX10_changeByDraws -/
def zc_148 : List (Nat × zE) := [(0, (.iload_n 3, 1, 3, 0, .null, [], [])),
  (1, (.iconst 2, 2, 0, 0, (.int 2), [], [])),
  (2, (.if_icmp .ge 13, 5, 15, 0, .null, [], [])),
  (5, (.aload_n 0, 6, 0, 0, .null, [], [])),
  (6, (.iload_n 1, 7, 1, 0, .null, [], [])),
  (7, (.iconst 0, 8, 0, 0, (.int 0), [], [])),
  (8, (.iload_n 2, 9, 2, 0, .null, [], [])),
  (9, (.invokevirtual 253, 12, 68, 3, .null, [], [3921, 3922, 3923, 14, 4000])),
  (12, (.goto 19, 15, 31, 0, .null, [], [])),
  (15, (.aload_n 0, 16, 0, 0, .null, [], [])),
  (16, (.iload_n 1, 17, 1, 0, .null, [], [])),
  (17, (.iload_n 3, 18, 3, 0, .null, [], [])),
  (18, (.iconst 2, 19, 0, 0, (.int 2), [], [])),
  (19, (.if_icmp .ne 7, 22, 26, 0, .null, [], [])),
  (22, (.iconst 1, 23, 0, 0, (.int 1), [], [])),
  (23, (.goto 4, 26, 27, 0, .null, [], [])),
  (26, (.iconst 2, 27, 0, 0, (.int 2), [], [])),
  (27, (.invokevirtual 257, 30, 69, 2, .null, [], [4013, 4014, 4015, 14, 4016])),
  (30, (.pop, 31, 0, 0, .null, [], [])),
  (31, (.return_, 32, 0, 0, .null, [], []))]
def zc_149_0 : List (Nat × zE) := [(0, (.aload_n 0, 1, 0, 0, .null, [], [])),
  (1, (.invokespecial 1, 4, 9000, 0, .null, [], [518])),
  (4, (.aload_n 0, 5, 0, 0, .null, [], [])),
  (5, (.bipush 7, 7, 0, 0, (.int 7), [], [])),
  (7, (.newarray .int, 9, 0, 0, .null, [], [200])),
  (9, (.putfield 7, 12, 11, 2, (.int 3), [], [519])),
  (12, (.aload_n 0, 13, 0, 0, .null, [], [])),
  (13, (.sipush 7892, 16, 0, 0, (.int 7892), [], [])),
  (16, (.newarray .int, 18, 0, 0, .null, [], [200])),
  (18, (.putfield 13, 21, 11, 3, (.int 3), [], [520])),
  (21, (.aload_n 0, 22, 0, 0, .null, [], [])),
  (22, (.sipush 15784, 25, 0, 0, (.int 15784), [], [])),
  (25, (.newarray .int, 27, 0, 0, .null, [], [200])),
  (27, (.putfield 16, 30, 11, 4, (.int 3), [], [521])),
  (30, (.aload_n 0, 31, 0, 0, .null, [], [])),
  (31, (.iconst 2, 32, 0, 0, (.int 2), [], [])),
  (32, (.newarray .boolean, 34, 2, 0, .null, [], [522])),
  (34, (.putfield 19, 37, 11, 5, (.int 3), [], [523])),
  (37, (.aload_n 0, 38, 0, 0, .null, [], [])),
  (38, (.sipush 1134, 41, 0, 0, (.int 1134), [], [])),
  (41, (.newarray .int, 43, 0, 0, .null, [], [200])),
  (43, (.putfield 23, 46, 11, 6, (.int 3), [], [600])),
  (46, (.aload_n 0, 47, 0, 0, .null, [], [])),
  (47, (.bipush 16, 49, 0, 0, (.int 16), [], [])),
  (49, (.newarray .int, 51, 0, 0, .null, [], [200])),
  (51, (.putfield 26, 54, 11, 7, (.int 3), [], [601])),
  (54, (.aload_n 0, 55, 0, 0, .null, [], [])),
  (55, (.sipush 1008, 58, 0, 0, (.int 1008), [], [])),
  (58, (.newarray .int, 60, 0, 0, .null, [], [200])),
  (60, (.putfield 29, 63, 11, 9, (.int 3), [], [602])),
  (63, (.aload_n 0, 64, 0, 0, .null, [], [])),
  (64, (.bipush 16, 66, 0, 0, (.int 16), [], [])),
  (66, (.newarray .int, 68, 0, 0, .null, [], [200])),
  (68, (.putfield 32, 71, 11, 10, (.int 3), [], [603])),
  (71, (.aload_n 0, 72, 0, 0, .null, [], [])),
  (72, (.sipush 400, 75, 0, 0, (.int 400), [], [])),
  (75, (.newarray .int, 77, 0, 0, .null, [], [200])),
  (77, (.putfield 35, 80, 11, 12, (.int 3), [], [604])),
  (80, (.aload_n 0, 81, 0, 0, .null, [], [])),
  (81, (.iconst (-1), 82, 0, 0, (.int (-1)), [], [])),
  (82, (.putfield 38, 85, 11, 18, (.int 0), [], [605])),
  (85, (.aload_n 0, 86, 0, 0, .null, [], [])),
  (86, (.bipush 96, 88, 0, 0, (.int 96), [], [])),
  (88, (.newarray .int, 90, 0, 0, .null, [], [200])),
  (90, (.putfield 42, 93, 11, 22, (.int 3), [], [606])),
  (93, (.aload_n 0, 94, 0, 0, .null, [], [])),
  (94, (.sipush 400, 97, 0, 0, (.int 400), [], [])),
  (97, (.newarray .int, 99, 0, 0, .null, [], [200])),
  (99, (.putfield 45, 102, 11, 24, (.int 3), [], [607])),
  (102, (.aload_n 0, 103, 0, 0, .null, [], [])),
  (103, (.sipush 400, 106, 0, 0, (.int 400), [], [])),
  (106, (.newarray .int, 108, 0, 0, .null, [], [200])),
  (108, (.putfield 48, 111, 11, 25, (.int 3), [], [608])),
  (111, (.aload_n 0, 112, 0, 0, .null, [], [])),
  (112, (.sipush 400, 115, 0, 0, (.int 400), [], [])),
  (115, (.newarray .int, 117, 0, 0, .null, [], [200])),
  (117, (.putfield 51, 120, 11, 27, (.int 3), [], [609])),
  (120, (.aload_n 0, 121, 0, 0, .null, [], [])),
  (121, (.sipush 400, 124, 0, 0, (.int 400), [], [])),
  (124, (.newarray .int, 126, 0, 0, .null, [], [200])),
  (126, (.putfield 54, 129, 11, 28, (.int 3), [], [610])),
  (129, (.aload_n 0, 130, 0, 0, .null, [], [])),
  (130, (.bipush 8, 132, 0, 0, (.int 8), [], [])),
  (132, (.newarray .long, 134, 1, 0, .null, [], [202])),
  (134, (.dup, 135, 0, 0, .null, [], [])),
  (135, (.iconst 0, 136, 0, 0, (.int 0), [], [])),
  (136, (.ldc2_w 57, 139, 0, 0, (.long 17171557), [], [611])),
  (139, (.lastore, 140, 0, 0, .null, [], [])),
  (140, (.dup, 141, 0, 0, .null, [], [])),
  (141, (.iconst 1, 142, 0, 0, (.int 1), [], [])),
  (142, (.ldc2_w 59, 145, 0, 0, (.long 777297172), [], [612])),
  (145, (.lastore, 146, 0, 0, .null, [], [])),
  (146, (.dup, 147, 0, 0, .null, [], [])),
  (147, (.iconst 2, 148, 0, 0, (.int 2), [], [])),
  (148, (.ldc2_w 61, 151, 0, 0, (.long 51), [], [613])),
  (151, (.lastore, 152, 0, 0, .null, [], [])),
  (152, (.dup, 153, 0, 0, .null, [], [])),
  (153, (.iconst 3, 154, 0, 0, (.int 3), [], [])),
  (154, (.ldc2_w 63, 157, 0, 0, (.long 178323), [], [614])),
  (157, (.lastore, 158, 0, 0, .null, [], [])),
  (158, (.dup, 159, 0, 0, .null, [], [])),
  (159, (.iconst 4, 160, 0, 0, (.int 4), [], [])),
  (160, (.ldc2_w 65, 163, 0, 0, (.long 13801107), [], [615])),
  (163, (.lastore, 164, 0, 0, .null, [], [])),
  (164, (.dup, 165, 0, 0, .null, [], [])),
  (165, (.iconst 5, 166, 0, 0, (.int 5), [], [])),
  (166, (.ldc2_w 67, 169, 0, 0, (.long 3659220), [], [616])),
  (169, (.lastore, 170, 0, 0, .null, [], [])),
  (170, (.dup, 171, 0, 0, .null, [], [])),
  (171, (.bipush 6, 173, 0, 0, (.int 6), [], [])),
  (173, (.ldc2_w 69, 176, 0, 0, (.long 4153), [], [617])),
  (176, (.lastore, 177, 0, 0, .null, [], [])),
  (177, (.dup, 178, 0, 0, .null, [], [])),
  (178, (.bipush 7, 180, 0, 0, (.int 7), [], [])),
  (180, (.ldc2_w 71, 183, 0, 0, (.long 441828), [], [618])),
  (183, (.lastore, 184, 0, 0, .null, [], [])),
  (184, (.putfield 73, 187, 11, 31, (.int 3), [], [619])),
  (187, (.aload_n 0, 188, 0, 0, .null, [], [])),
  (188, (.bipush 6, 190, 0, 0, (.int 6), [], [])),
  (190, (.newarray .long, 192, 1, 0, .null, [], [202])),
  (192, (.dup, 193, 0, 0, .null, [], [])),
  (193, (.iconst 0, 194, 0, 0, (.int 0), [], [])),
  (194, (.ldc2_w 69, 197, 0, 0, (.long 4153), [], [617])),
  (197, (.lastore, 198, 0, 0, .null, [], [])),
  (198, (.dup, 199, 0, 0, .null, [], [])),
  (199, (.iconst 1, 200, 0, 0, (.int 1), [], [])),
  (200, (.ldc2_w 77, 203, 0, 0, (.long 146885), [], [620])),
  (203, (.lastore, 204, 0, 0, .null, [], [])),
  (204, (.dup, 205, 0, 0, .null, [], [])),
  (205, (.iconst 2, 206, 0, 0, (.int 2), [], [])),
  (206, (.ldc2_w 79, 209, 0, 0, (.long 404362868), [], [621])),
  (209, (.lastore, 210, 0, 0, .null, [], [])),
  (210, (.dup, 211, 0, 0, .null, [], [])),
  (211, (.iconst 3, 212, 0, 0, (.int 3), [], [])),
  (212, (.ldc2_w 67, 215, 0, 0, (.long 3659220), [], [616])),
  (215, (.lastore, 216, 0, 0, .null, [], [])),
  (216, (.dup, 217, 0, 0, .null, [], [])),
  (217, (.iconst 4, 218, 0, 0, (.int 4), [], [])),
  (218, (.ldc2_w 59, 221, 0, 0, (.long 777297172), [], [612])),
  (221, (.lastore, 222, 0, 0, .null, [], []))]
def zc_149_1 : List (Nat × zE) := [(222, (.dup, 223, 0, 0, .null, [], [])),
  (223, (.iconst 5, 224, 0, 0, (.int 5), [], [])),
  (224, (.ldc2_w 81, 227, 0, 0, (.long 20022739), [], [622])),
  (227, (.lastore, 228, 0, 0, .null, [], [])),
  (228, (.putfield 83, 231, 11, 32, (.int 3), [], [623])),
  (231, (.aload_n 0, 232, 0, 0, .null, [], [])),
  (232, (.iconst 3, 233, 0, 0, (.int 3), [], [])),
  (233, (.newarray .long, 235, 1, 0, .null, [], [202])),
  (235, (.dup, 236, 0, 0, .null, [], [])),
  (236, (.iconst 0, 237, 0, 0, (.int 0), [], [])),
  (237, (.ldc2_w 86, 240, 0, 0, (.long 3657363), [], [700])),
  (240, (.lastore, 241, 0, 0, .null, [], [])),
  (241, (.dup, 242, 0, 0, .null, [], [])),
  (242, (.iconst 1, 243, 0, 0, (.int 1), [], [])),
  (243, (.ldc2_w 88, 246, 0, 0, (.long 46546675), [], [701])),
  (246, (.lastore, 247, 0, 0, .null, [], [])),
  (247, (.dup, 248, 0, 0, .null, [], [])),
  (248, (.iconst 2, 249, 0, 0, (.int 2), [], [])),
  (249, (.ldc2_w 90, 252, 0, 0, (.long 67155), [], [702])),
  (252, (.lastore, 253, 0, 0, .null, [], [])),
  (253, (.putfield 92, 256, 11, 33, (.int 3), [], [703])),
  (256, (.aload_n 0, 257, 0, 0, .null, [], [])),
  (257, (.bipush 13, 259, 0, 0, (.int 13), [], [])),
  (259, (.newarray .long, 261, 1, 0, .null, [], [202])),
  (261, (.putfield 95, 264, 11, 35, (.int 3), [], [704])),
  (264, (.aload_n 0, 265, 0, 0, .null, [], [])),
  (265, (.bipush 13, 267, 0, 0, (.int 13), [], [])),
  (267, (.newarray .long, 269, 1, 0, .null, [], [202])),
  (269, (.putfield 98, 272, 11, 36, (.int 3), [], [705])),
  (272, (.aload_n 0, 273, 0, 0, .null, [], [])),
  (273, (.sipush 400, 276, 0, 0, (.int 400), [], [])),
  (276, (.newarray .long, 278, 1, 0, .null, [], [202])),
  (278, (.putfield 101, 281, 11, 37, (.int 3), [], [706])),
  (281, (.aload_n 0, 282, 0, 0, .null, [], [])),
  (282, (.iconst 4, 283, 0, 0, (.int 4), [], [])),
  (283, (.newarray .long, 285, 1, 0, .null, [], [202])),
  (285, (.dup, 286, 0, 0, .null, [], [])),
  (286, (.iconst 0, 287, 0, 0, (.int 0), [], [])),
  (287, (.ldc2_w 104, 290, 0, 0, (.long 409031), [], [707])),
  (290, (.lastore, 291, 0, 0, .null, [], [])),
  (291, (.dup, 292, 0, 0, .null, [], [])),
  (292, (.iconst 1, 293, 0, 0, (.int 1), [], [])),
  (293, (.ldc2_w 106, 296, 0, 0, (.long 20201044), [], [708])),
  (296, (.lastore, 297, 0, 0, .null, [], [])),
  (297, (.dup, 298, 0, 0, .null, [], [])),
  (298, (.iconst 2, 299, 0, 0, (.int 2), [], [])),
  (299, (.ldc2_w 108, 302, 0, 0, (.long 1497), [], [709])),
  (302, (.lastore, 303, 0, 0, .null, [], [])),
  (303, (.dup, 304, 0, 0, .null, [], [])),
  (304, (.iconst 3, 305, 0, 0, (.int 3), [], [])),
  (305, (.ldc2_w 110, 308, 0, 0, (.long 3764), [], [710])),
  (308, (.lastore, 309, 0, 0, .null, [], [])),
  (309, (.putfield 112, 312, 11, 42, (.int 3), [], [711])),
  (312, (.aload_n 0, 313, 0, 0, .null, [], [])),
  (313, (.sipush 900, 316, 0, 0, (.int 900), [], [])),
  (316, (.newarray .int, 318, 0, 0, .null, [], [200])),
  (318, (.putfield 115, 321, 11, 43, (.int 3), [], [712])),
  (321, (.aload_n 0, 322, 0, 0, .null, [], [])),
  (322, (.bipush 9, 324, 0, 0, (.int 9), [], [])),
  (324, (.newarray .int, 326, 0, 0, .null, [], [200])),
  (326, (.putfield 118, 329, 11, 45, (.int 3), [], [713])),
  (329, (.aload_n 0, 330, 0, 0, .null, [], [])),
  (330, (.bipush 9, 332, 0, 0, (.int 9), [], [])),
  (332, (.newarray .int, 334, 0, 0, .null, [], [200])),
  (334, (.putfield 121, 337, 11, 46, (.int 3), [], [714])),
  (337, (.aload_n 0, 338, 0, 0, .null, [], [])),
  (338, (.sipush 900, 341, 0, 0, (.int 900), [], [])),
  (341, (.newarray .int, 343, 0, 0, .null, [], [200])),
  (343, (.putfield 124, 346, 11, 48, (.int 3), [], [715])),
  (346, (.aload_n 0, 347, 0, 0, .null, [], [])),
  (347, (.sipush 400, 350, 0, 0, (.int 400), [], [])),
  (350, (.newarray .int, 352, 0, 0, .null, [], [200])),
  (352, (.putfield 127, 355, 11, 49, (.int 3), [], [716])),
  (355, (.aload_n 0, 356, 0, 0, .null, [], [])),
  (356, (.sipush 201, 359, 0, 0, (.int 201), [], [])),
  (359, (.newarray .int, 361, 0, 0, .null, [], [200])),
  (361, (.putfield 130, 364, 11, 50, (.int 3), [], [717])),
  (364, (.aload_n 0, 365, 0, 0, .null, [], [])),
  (365, (.ldc 133, 367, 0, 0, (.int 40401), [], [718])),
  (367, (.newarray .boolean, 369, 2, 0, .null, [], [522])),
  (369, (.putfield 134, 372, 11, 52, (.int 3), [], [719])),
  (372, (.aload_n 0, 373, 0, 0, .null, [], [])),
  (373, (.sipush 201, 376, 0, 0, (.int 201), [], [])),
  (376, (.newarray .boolean, 378, 2, 0, .null, [], [522])),
  (378, (.putfield 137, 381, 11, 53, (.int 3), [], [720])),
  (381, (.aload_n 0, 382, 0, 0, .null, [], [])),
  (382, (.sipush 201, 385, 0, 0, (.int 201), [], [])),
  (385, (.newarray .boolean, 387, 2, 0, .null, [], [522])),
  (387, (.putfield 140, 390, 11, 54, (.int 3), [], [721])),
  (390, (.aload_n 0, 391, 0, 0, .null, [], [])),
  (391, (.bipush 60, 393, 0, 0, (.int 60), [], [])),
  (393, (.newarray .int, 395, 0, 0, .null, [], [200])),
  (395, (.putfield 143, 398, 11, 55, (.int 3), [], [722])),
  (398, (.aload_n 0, 399, 0, 0, .null, [], [])),
  (399, (.sipush 4221, 402, 0, 0, (.int 4221), [], [])),
  (402, (.newarray .int, 404, 0, 0, .null, [], [200])),
  (404, (.putfield 146, 407, 11, 56, (.int 3), [], [723])),
  (407, (.aload_n 0, 408, 0, 0, .null, [], [])),
  (408, (.sipush 201, 411, 0, 0, (.int 201), [], [])),
  (411, (.newarray .boolean, 413, 2, 0, .null, [], [522])),
  (413, (.putfield 149, 416, 11, 57, (.int 3), [], [800])),
  (416, (.aload_n 0, 417, 0, 0, .null, [], [])),
  (417, (.sipush 201, 420, 0, 0, (.int 201), [], [])),
  (420, (.newarray .boolean, 422, 2, 0, .null, [], [522])),
  (422, (.putfield 152, 425, 11, 58, (.int 3), [], [801])),
  (425, (.aload_n 0, 426, 0, 0, .null, [], [])),
  (426, (.bipush 20, 428, 0, 0, (.int 20), [], [])),
  (428, (.newarray .int, 430, 0, 0, .null, [], [200])),
  (430, (.putfield 155, 433, 11, 59, (.int 3), [], [802])),
  (433, (.aload_n 0, 434, 0, 0, .null, [], [])),
  (434, (.sipush 4221, 437, 0, 0, (.int 4221), [], [])),
  (437, (.newarray .boolean, 439, 2, 0, .null, [], [522])),
  (439, (.putfield 158, 442, 11, 60, (.int 3), [], [803])),
  (442, (.aload_n 0, 443, 0, 0, .null, [], [])),
  (443, (.bipush 120, 445, 0, 0, (.int 120), [], [])),
  (445, (.newarray .int, 447, 0, 0, .null, [], [200])),
  (447, (.putfield 161, 450, 11, 61, (.int 3), [], [804])),
  (450, (.aload_n 0, 451, 0, 0, .null, [], [])),
  (451, (.bipush 21, 453, 0, 0, (.int 21), [], [])),
  (453, (.newarray .long, 455, 1, 0, .null, [], [202]))]
def zc_149_2 : List (Nat × zE) := [(455, (.putfield 164, 458, 11, 62, (.int 3), [], [805])),
  (458, (.aload_n 0, 459, 0, 0, .null, [], [])),
  (459, (.iconst 4, 460, 0, 0, (.int 4), [], [])),
  (460, (.newarray .long, 462, 1, 0, .null, [], [202])),
  (462, (.dup, 463, 0, 0, .null, [], [])),
  (463, (.iconst 0, 464, 0, 0, (.int 0), [], [])),
  (464, (.ldc2_w 167, 467, 0, 0, (.long 24290536), [], [806])),
  (467, (.lastore, 468, 0, 0, .null, [], [])),
  (468, (.dup, 469, 0, 0, .null, [], [])),
  (469, (.iconst 1, 470, 0, 0, (.int 1), [], [])),
  (470, (.ldc2_w 169, 473, 0, 0, (.long 5572), [], [807])),
  (473, (.lastore, 474, 0, 0, .null, [], [])),
  (474, (.dup, 475, 0, 0, .null, [], [])),
  (475, (.iconst 2, 476, 0, 0, (.int 2), [], [])),
  (476, (.ldc2_w 171, 479, 0, 0, (.long 431284), [], [808])),
  (479, (.lastore, 480, 0, 0, .null, [], [])),
  (480, (.dup, 481, 0, 0, .null, [], [])),
  (481, (.iconst 3, 482, 0, 0, (.int 3), [], [])),
  (482, (.ldc2_w 173, 485, 0, 0, (.long 525939), [], [809])),
  (485, (.lastore, 486, 0, 0, .null, [], [])),
  (486, (.putfield 175, 489, 11, 63, (.int 3), [], [810])),
  (489, (.aload_n 0, 490, 0, 0, .null, [], [])),
  (490, (.bipush 96, 492, 0, 0, (.int 96), [], [])),
  (492, (.newarray .int, 494, 0, 0, .null, [], [200])),
  (494, (.putfield 178, 497, 11, 64, (.int 3), [], [811])),
  (497, (.aload_n 0, 498, 0, 0, .null, [], [])),
  (498, (.iconst (-1), 499, 0, 0, (.int (-1)), [], [])),
  (499, (.putfield 181, 502, 11, 67, (.int 0), [], [812])),
  (502, (.aload_n 0, 503, 0, 0, .null, [], [])),
  (503, (.bipush 63, 505, 0, 0, (.int 63), [], [])),
  (505, (.newarray .int, 507, 0, 0, .null, [], [200])),
  (507, (.putfield 184, 510, 11, 70, (.int 3), [], [813])),
  (510, (.aload_n 0, 511, 0, 0, .null, [], [])),
  (511, (.iconst (-1), 512, 0, 0, (.int (-1)), [], [])),
  (512, (.putfield 187, 515, 11, 71, (.int 0), [], [814])),
  (515, (.aload_n 0, 516, 0, 0, .null, [], [])),
  (516, (.getfield 13, 519, 11, 3, (.int 3), [], [520])),
  (519, (.iconst 4, 520, 0, 0, (.int 4), [], [])),
  (520, (.iconst (-1), 521, 0, 0, (.int (-1)), [], [])),
  (521, (.iastore, 522, 0, 0, .null, [], [])),
  (522, (.aload_n 0, 523, 0, 0, .null, [], [])),
  (523, (.getfield 13, 526, 11, 3, (.int 3), [], [520])),
  (526, (.bipush 6, 528, 0, 0, (.int 6), [], [])),
  (528, (.iconst 1, 529, 0, 0, (.int 1), [], [])),
  (529, (.iastore, 530, 0, 0, .null, [], [])),
  (530, (.return_, 531, 0, 0, .null, [], []))]
/-- yX11_init -/
def zc_149 : List (Nat × zE) := zc_149_0 ++ zc_149_1 ++ zc_149_2
/-- yX11_in -/
def zc_150 : List (Nat × zE) := [(0, (.lload_n 0, 1, 0, 0, .null, [], [])),
  (1, (.lload_n 2, 2, 2, 0, .null, [], [])),
  (2, (.lcmp, 3, 0, 0, .null, [], [])),
  (3, (.ifCond .lt 14, 6, 17, 0, .null, [], [])),
  (6, (.lload_n 0, 7, 0, 0, .null, [], [])),
  (7, (.lload 4, 9, 4, 0, .null, [], [])),
  (9, (.lcmp, 10, 0, 0, .null, [], [])),
  (10, (.ifCond .gt 7, 13, 17, 0, .null, [], [])),
  (13, (.iconst 1, 14, 0, 0, (.int 1), [], [])),
  (14, (.goto 4, 17, 18, 0, .null, [], [])),
  (17, (.iconst 0, 18, 0, 0, (.int 0), [], [])),
  (18, (.ireturn, 19, 1, 0, .null, [], []))]
/-- yX11_is -/
def zc_151 : List (Nat × zE) := [(0, (.iload_n 0, 1, 0, 0, .null, [], [])),
  (1, (.iload_n 1, 2, 1, 0, .null, [], [])),
  (2, (.ishr, 3, 0, 0, .null, [], [])),
  (3, (.iconst 1, 4, 0, 0, (.int 1), [], [])),
  (4, (.iand, 5, 0, 0, .null, [], [])),
  (5, (.iconst 1, 6, 0, 0, (.int 1), [], [])),
  (6, (.if_icmp .ne 7, 9, 13, 0, .null, [], [])),
  (9, (.iconst 1, 10, 0, 0, (.int 1), [], [])),
  (10, (.goto 4, 13, 14, 0, .null, [], [])),
  (13, (.iconst 0, 14, 0, 0, (.int 0), [], [])),
  (14, (.ireturn, 15, 1, 0, .null, [], []))]
/-- yX11_bounded -/
def zc_152 : List (Nat × zE) := [(0, (.lload_n 0, 1, 0, 0, .null, [], [])),
  (1, (.iload_n 2, 2, 2, 0, .null, [], [])),
  (2, (.i2l, 3, 0, 0, .null, [], [])),
  (3, (.lcmp, 4, 0, 0, .null, [], [])),
  (4, (.ifCond .ge 7, 7, 11, 0, .null, [], [])),
  (7, (.iload_n 2, 8, 2, 0, .null, [], [])),
  (8, (.goto 16, 11, 24, 0, .null, [], [])),
  (11, (.lload_n 0, 12, 0, 0, .null, [], [])),
  (12, (.iload_n 3, 13, 3, 0, .null, [], [])),
  (13, (.i2l, 14, 0, 0, .null, [], [])),
  (14, (.lcmp, 15, 0, 0, .null, [], [])),
  (15, (.ifCond .le 7, 18, 22, 0, .null, [], [])),
  (18, (.iload_n 3, 19, 3, 0, .null, [], [])),
  (19, (.goto 5, 22, 24, 0, .null, [], [])),
  (22, (.lload_n 0, 23, 0, 0, .null, [], [])),
  (23, (.l2i, 24, 0, 0, .null, [], [])),
  (24, (.ireturn, 25, 0, 0, .null, [], []))]
/-- yX11_tell -/
def zc_153 : List (Nat × zE) := [(0, (.aload_n 0, 1, 0, 0, .null, [], [])),
  (1, (.iload_n 1, 2, 1, 0, .null, [], [])),
  (2, (.ifCond .ge 7, 5, 9, 0, .null, [], [])),
  (5, (.iload_n 1, 6, 1, 0, .null, [], [])),
  (6, (.goto 4, 9, 10, 0, .null, [], [])),
  (9, (.iconst 0, 10, 0, 0, (.int 0), [], [])),
  (10, (.putfield 193, 13, 11, 1, (.int 0), [], [1013])),
  (13, (.iload_n 1, 14, 1, 0, .null, [], [])),
  (14, (.ifCond .ge 14, 17, 28, 0, .null, [], [])),
  (17, (.aload_n 0, 18, 0, 0, .null, [], [])),
  (18, (.getfield 7, 21, 11, 2, (.int 3), [], [519])),
  (21, (.iload_n 1, 22, 1, 0, .null, [], [])),
  (22, (.ineg, 23, 0, 0, .null, [], [])),
  (23, (.dup2, 24, 0, 0, .null, [], [])),
  (24, (.iaload, 25, 0, 0, .null, [], [])),
  (25, (.iconst 1, 26, 0, 0, (.int 1), [], [])),
  (26, (.iadd, 27, 0, 0, .null, [], [])),
  (27, (.iastore, 28, 0, 0, .null, [], [])),
  (28, (.iload_n 1, 29, 1, 0, .null, [], [])),
  (29, (.ireturn, 30, 0, 0, .null, [], []))]
/-- yX11_change -/
def zc_154 : List (Nat × zE) := [(0, (.aload_n 0, 1, 0, 0, .null, [], [])),
  (1, (.getfield 13, 4, 11, 3, (.int 3), [], [520])),
  (4, (.iload_n 1, 5, 1, 0, .null, [], [])),
  (5, (.iaload, 6, 0, 0, .null, [], [])),
  (6, (.istore_n 3, 7, 3, 0, .null, [], [])),
  (7, (.aload_n 0, 8, 0, 0, .null, [], [])),
  (8, (.getfield 13, 11, 11, 3, (.int 3), [], [520])),
  (11, (.iload_n 1, 12, 1, 0, .null, [], [])),
  (12, (.iload_n 2, 13, 2, 0, .null, [], [])),
  (13, (.iastore, 14, 0, 0, .null, [], [])),
  (14, (.aload_n 0, 15, 0, 0, .null, [], [])),
  (15, (.iconst 0, 16, 0, 0, (.int 0), [], [])),
  (16, (.putfield 193, 19, 11, 1, (.int 0), [], [1013])),
  (19, (.iload_n 3, 20, 3, 0, .null, [], [])),
  (20, (.ireturn, 21, 0, 0, .null, [], []))]
/-- yX11_lasting -/
def zc_155 : List (Nat × zE) := [(0, (.aload_n 0, 1, 0, 0, .null, [], [])),
  (1, (.iload_n 1, 2, 1, 0, .null, [], [])),
  (2, (.ifCond .ge 10, 5, 12, 0, .null, [], [])),
  (5, (.aload_n 0, 6, 0, 0, .null, [], [])),
  (6, (.getfield 196, 9, 11, 8, (.int 0), [], [1008])),
  (9, (.goto 4, 12, 13, 0, .null, [], [])),
  (12, (.iconst 0, 13, 0, 0, (.int 0), [], [])),
  (13, (.putfield 196, 16, 11, 8, (.int 0), [], [1008])),
  (16, (.aload_n 0, 17, 0, 0, .null, [], [])),
  (17, (.iload_n 1, 18, 1, 0, .null, [], [])),
  (18, (.invokevirtual 199, 21, 153, 1, .null, [], [1009, 1010, 1011, 5, 1012])),
  (21, (.ireturn, 22, 0, 0, .null, [], []))]
/-- yX11_keepAll -/
def zc_156 : List (Nat × zE) := [(0, (.iconst 0, 1, 0, 0, (.int 0), [], [])),
  (1, (.istore_n 2, 2, 2, 0, .null, [], [])),
  (2, (.iload_n 2, 3, 2, 0, .null, [], [])),
  (3, (.bipush 63, 5, 0, 0, (.int 63), [], [])),
  (5, (.if_icmp .ge 28, 8, 33, 0, .null, [], [])),
  (8, (.aload_n 0, 9, 0, 0, .null, [], [])),
  (9, (.getfield 23, 12, 11, 6, (.int 3), [], [600])),
  (12, (.bipush 63, 14, 0, 0, (.int 63), [], [])),
  (14, (.iload_n 1, 15, 1, 0, .null, [], [])),
  (15, (.imul, 16, 0, 0, .null, [], [])),
  (16, (.iload_n 2, 17, 2, 0, .null, [], [])),
  (17, (.iadd, 18, 0, 0, .null, [], [])),
  (18, (.aload_n 0, 19, 0, 0, .null, [], [])),
  (19, (.getfield 13, 22, 11, 3, (.int 3), [], [520])),
  (22, (.iconst 5, 23, 0, 0, (.int 5), [], [])),
  (23, (.iload_n 2, 24, 2, 0, .null, [], [])),
  (24, (.iadd, 25, 0, 0, .null, [], [])),
  (25, (.iaload, 26, 0, 0, .null, [], [])),
  (26, (.iastore, 27, 0, 0, .null, [], [])),
  (27, (.iinc 2 1, 30, 2, 0, (.int 1), [], [])),
  (30, (.goto (-28), 33, 2, 0, .null, [], [])),
  (33, (.return_, 34, 0, 0, .null, [], []))]
/-- yX11_putBack -/
def zc_157 : List (Nat × zE) := [(0, (.iconst 0, 1, 0, 0, (.int 0), [], [])),
  (1, (.istore_n 2, 2, 2, 0, .null, [], [])),
  (2, (.iload_n 2, 3, 2, 0, .null, [], [])),
  (3, (.bipush 63, 5, 0, 0, (.int 63), [], [])),
  (5, (.if_icmp .ge 28, 8, 33, 0, .null, [], [])),
  (8, (.aload_n 0, 9, 0, 0, .null, [], [])),
  (9, (.getfield 13, 12, 11, 3, (.int 3), [], [520])),
  (12, (.iconst 5, 13, 0, 0, (.int 5), [], [])),
  (13, (.iload_n 2, 14, 2, 0, .null, [], [])),
  (14, (.iadd, 15, 0, 0, .null, [], [])),
  (15, (.aload_n 0, 16, 0, 0, .null, [], [])),
  (16, (.getfield 23, 19, 11, 6, (.int 3), [], [600])),
  (19, (.bipush 63, 21, 0, 0, (.int 63), [], [])),
  (21, (.iload_n 1, 22, 1, 0, .null, [], [])),
  (22, (.imul, 23, 0, 0, .null, [], [])),
  (23, (.iload_n 2, 24, 2, 0, .null, [], [])),
  (24, (.iadd, 25, 0, 0, .null, [], [])),
  (25, (.iaload, 26, 0, 0, .null, [], [])),
  (26, (.iastore, 27, 0, 0, .null, [], [])),
  (27, (.iinc 2 1, 30, 2, 0, (.int 1), [], [])),
  (30, (.goto (-28), 33, 2, 0, .null, [], [])),
  (33, (.return_, 34, 0, 0, .null, [], []))]
/-- yX11_remember -/
def zc_158 : List (Nat × zE) := [(0, (.aload_n 0, 1, 0, 0, .null, [], [])),
  (1, (.getfield 196, 4, 11, 8, (.int 0), [], [1008])),
  (4, (.bipush 16, 6, 0, 0, (.int 16), [], [])),
  (6, (.if_icmp .ne 71, 9, 77, 0, .null, [], [])),
  (9, (.iconst 0, 10, 0, 0, (.int 0), [], [])),
  (10, (.istore_n 2, 11, 2, 0, .null, [], [])),
  (11, (.iload_n 2, 12, 2, 0, .null, [], [])),
  (12, (.sipush 945, 15, 0, 0, (.int 945), [], [])),
  (15, (.if_icmp .ge 24, 18, 39, 0, .null, [], [])),
  (18, (.aload_n 0, 19, 0, 0, .null, [], [])),
  (19, (.getfield 23, 22, 11, 6, (.int 3), [], [600])),
  (22, (.iload_n 2, 23, 2, 0, .null, [], [])),
  (23, (.aload_n 0, 24, 0, 0, .null, [], [])),
  (24, (.getfield 23, 27, 11, 6, (.int 3), [], [600])),
  (27, (.iload_n 2, 28, 2, 0, .null, [], [])),
  (28, (.bipush 63, 30, 0, 0, (.int 63), [], [])),
  (30, (.iadd, 31, 0, 0, .null, [], [])),
  (31, (.iaload, 32, 0, 0, .null, [], [])),
  (32, (.iastore, 33, 0, 0, .null, [], [])),
  (33, (.iinc 2 1, 36, 2, 0, (.int 1), [], [])),
  (36, (.goto (-25), 39, 11, 0, .null, [], [])),
  (39, (.iconst 0, 40, 0, 0, (.int 0), [], [])),
  (40, (.istore_n 2, 41, 2, 0, .null, [], [])),
  (41, (.iload_n 2, 42, 2, 0, .null, [], [])),
  (42, (.bipush 15, 44, 0, 0, (.int 15), [], [])),
  (44, (.if_icmp .ge 23, 47, 67, 0, .null, [], [])),
  (47, (.aload_n 0, 48, 0, 0, .null, [], [])),
  (48, (.getfield 26, 51, 11, 7, (.int 3), [], [601])),
  (51, (.iload_n 2, 52, 2, 0, .null, [], [])),
  (52, (.aload_n 0, 53, 0, 0, .null, [], [])),
  (53, (.getfield 26, 56, 11, 7, (.int 3), [], [601])),
  (56, (.iload_n 2, 57, 2, 0, .null, [], [])),
  (57, (.iconst 1, 58, 0, 0, (.int 1), [], [])),
  (58, (.iadd, 59, 0, 0, .null, [], [])),
  (59, (.iaload, 60, 0, 0, .null, [], [])),
  (60, (.iastore, 61, 0, 0, .null, [], [])),
  (61, (.iinc 2 1, 64, 2, 0, (.int 1), [], [])),
  (64, (.goto (-23), 67, 41, 0, .null, [], [])),
  (67, (.aload_n 0, 68, 0, 0, .null, [], [])),
  (68, (.dup, 69, 0, 0, .null, [], [])),
  (69, (.getfield 196, 72, 11, 8, (.int 0), [], [1008])),
  (72, (.iconst 1, 73, 0, 0, (.int 1), [], [])),
  (73, (.isub, 74, 0, 0, .null, [], [])),
  (74, (.putfield 196, 77, 11, 8, (.int 0), [], [1008])),
  (77, (.aload_n 0, 78, 0, 0, .null, [], [])),
  (78, (.aload_n 0, 79, 0, 0, .null, [], [])),
  (79, (.getfield 196, 82, 11, 8, (.int 0), [], [1008])),
  (82, (.invokevirtual 203, 85, 156, 1, .null, [], [4121, 4122, 4123, 5, 4200])),
  (85, (.aload_n 0, 86, 0, 0, .null, [], [])),
  (86, (.getfield 26, 89, 11, 7, (.int 3), [], [601])),
  (89, (.aload_n 0, 90, 0, 0, .null, [], [])),
  (90, (.getfield 196, 93, 11, 8, (.int 0), [], [1008])),
  (93, (.iload_n 1, 94, 1, 0, .null, [], [])),
  (94, (.iastore, 95, 0, 0, .null, [], [])),
  (95, (.aload_n 0, 96, 0, 0, .null, [], [])),
  (96, (.dup, 97, 0, 0, .null, [], [])),
  (97, (.getfield 196, 100, 11, 8, (.int 0), [], [1008])),
  (100, (.iconst 1, 101, 0, 0, (.int 1), [], [])),
  (101, (.iadd, 102, 0, 0, .null, [], [])),
  (102, (.putfield 196, 105, 11, 8, (.int 0), [], [1008])),
  (105, (.return_, 106, 0, 0, .null, [], []))]
/-- yX11_undo -/
def zc_159 : List (Nat × zE) := [(0, (.aload_n 0, 1, 0, 0, .null, [], [])),
  (1, (.iconst 0, 2, 0, 0, (.int 0), [], [])),
  (2, (.putfield 190, 5, 11, 0, (.int 0), [], [919])),
  (5, (.aload_n 0, 6, 0, 0, .null, [], [])),
  (6, (.getfield 196, 9, 11, 8, (.int 0), [], [1008])),
  (9, (.ifCond .ne 10, 12, 19, 0, .null, [], [])),
  (12, (.aload_n 0, 13, 0, 0, .null, [], [])),
  (13, (.bipush (-3), 15, 0, 0, (.int (-3)), [], [])),
  (15, (.invokevirtual 199, 18, 153, 1, .null, [], [1009, 1010, 1011, 5, 1012])),
  (18, (.ireturn, 19, 0, 0, .null, [], [])),
  (19, (.aload_n 0, 20, 0, 0, .null, [], [])),
  (20, (.dup, 21, 0, 0, .null, [], [])),
  (21, (.getfield 196, 24, 11, 8, (.int 0), [], [1008])),
  (24, (.iconst 1, 25, 0, 0, (.int 1), [], [])),
  (25, (.isub, 26, 0, 0, .null, [], [])),
  (26, (.putfield 196, 29, 11, 8, (.int 0), [], [1008])),
  (29, (.aload_n 0, 30, 0, 0, .null, [], [])),
  (30, (.aload_n 0, 31, 0, 0, .null, [], [])),
  (31, (.getfield 196, 34, 11, 8, (.int 0), [], [1008])),
  (34, (.invokevirtual 207, 37, 157, 1, .null, [], [4508, 4509, 4510, 5, 4511])),
  (37, (.aload_n 0, 38, 0, 0, .null, [], [])),
  (38, (.aload_n 0, 39, 0, 0, .null, [], [])),
  (39, (.getfield 26, 42, 11, 7, (.int 3), [], [601])),
  (42, (.aload_n 0, 43, 0, 0, .null, [], [])),
  (43, (.getfield 196, 46, 11, 8, (.int 0), [], [1008])),
  (46, (.iaload, 47, 0, 0, .null, [], [])),
  (47, (.invokevirtual 199, 50, 153, 1, .null, [], [1009, 1010, 1011, 5, 1012])),
  (50, (.ireturn, 51, 0, 0, .null, [], []))]
/-- yX11_image -/
def zc_160 : List (Nat × zE) := [(0, (.aload_n 0, 1, 0, 0, .null, [], [])),
  (1, (.iconst 0, 2, 0, 0, (.int 0), [], [])),
  (2, (.putfield 190, 5, 11, 0, (.int 0), [], [919])),
  (5, (.iload_n 1, 6, 1, 0, .null, [], [])),
  (6, (.i2l, 7, 0, 0, .null, [], [])),
  (7, (.lconst 0, 8, 0, 0, (.long 0), [], [])),
  (8, (.lconst 1, 9, 0, 0, (.long 1), [], [])),
  (9, (.invokestatic 210, 12, 150, 3, .null, [], [1001, 1002, 5, 1003])),
  (12, (.ifCond .ne 9, 15, 21, 0, .null, [], [])),
  (15, (.aload_n 0, 16, 0, 0, .null, [], [])),
  (16, (.iconst (-1), 17, 0, 0, (.int (-1)), [], [])),
  (17, (.invokevirtual 199, 20, 153, 1, .null, [], [1009, 1010, 1011, 5, 1012])),
  (20, (.ireturn, 21, 0, 0, .null, [], [])),
  (21, (.iconst 0, 22, 0, 0, (.int 0), [], [])),
  (22, (.istore_n 2, 23, 2, 0, .null, [], [])),
  (23, (.iload_n 2, 24, 2, 0, .null, [], [])),
  (24, (.sipush 7892, 27, 0, 0, (.int 7892), [], [])),
  (27, (.if_icmp .ge 27, 30, 54, 0, .null, [], [])),
  (30, (.aload_n 0, 31, 0, 0, .null, [], [])),
  (31, (.getfield 16, 34, 11, 4, (.int 3), [], [521])),
  (34, (.sipush 7892, 37, 0, 0, (.int 7892), [], [])),
  (37, (.iload_n 1, 38, 1, 0, .null, [], [])),
  (38, (.imul, 39, 0, 0, .null, [], [])),
  (39, (.iload_n 2, 40, 2, 0, .null, [], [])),
  (40, (.iadd, 41, 0, 0, .null, [], [])),
  (41, (.aload_n 0, 42, 0, 0, .null, [], [])),
  (42, (.getfield 13, 45, 11, 3, (.int 3), [], [520])),
  (45, (.iload_n 2, 46, 2, 0, .null, [], [])),
  (46, (.iaload, 47, 0, 0, .null, [], [])),
  (47, (.iastore, 48, 0, 0, .null, [], [])),
  (48, (.iinc 2 1, 51, 2, 0, (.int 1), [], [])),
  (51, (.goto (-28), 54, 23, 0, .null, [], [])),
  (54, (.aload_n 0, 55, 0, 0, .null, [], [])),
  (55, (.getfield 19, 58, 11, 5, (.int 3), [], [523])),
  (58, (.iload_n 1, 59, 1, 0, .null, [], [])),
  (59, (.iconst 1, 60, 0, 0, (.int 1), [], [])),
  (60, (.bastore, 61, 0, 0, .null, [], [])),
  (61, (.aload_n 0, 62, 0, 0, .null, [], [])),
  (62, (.iconst 0, 63, 0, 0, (.int 0), [], [])),
  (63, (.invokevirtual 199, 66, 153, 1, .null, [], [1009, 1010, 1011, 5, 1012])),
  (66, (.ireturn, 67, 0, 0, .null, [], []))]
/-- yX11_back -/
def zc_161 : List (Nat × zE) := [(0, (.aload_n 0, 1, 0, 0, .null, [], [])),
  (1, (.iconst 0, 2, 0, 0, (.int 0), [], [])),
  (2, (.putfield 190, 5, 11, 0, (.int 0), [], [919])),
  (5, (.iload_n 1, 6, 1, 0, .null, [], [])),
  (6, (.i2l, 7, 0, 0, .null, [], [])),
  (7, (.lconst 0, 8, 0, 0, (.long 0), [], [])),
  (8, (.lconst 1, 9, 0, 0, (.long 1), [], [])),
  (9, (.invokestatic 210, 12, 150, 3, .null, [], [1001, 1002, 5, 1003])),
  (12, (.ifCond .ne 9, 15, 21, 0, .null, [], [])),
  (15, (.aload_n 0, 16, 0, 0, .null, [], [])),
  (16, (.iconst (-1), 17, 0, 0, (.int (-1)), [], [])),
  (17, (.invokevirtual 199, 20, 153, 1, .null, [], [1009, 1010, 1011, 5, 1012])),
  (20, (.ireturn, 21, 0, 0, .null, [], [])),
  (21, (.aload_n 0, 22, 0, 0, .null, [], [])),
  (22, (.getfield 19, 25, 11, 5, (.int 3), [], [523])),
  (25, (.iload_n 1, 26, 1, 0, .null, [], [])),
  (26, (.baload, 27, 0, 0, .null, [], [])),
  (27, (.ifCond .ne 10, 30, 37, 0, .null, [], [])),
  (30, (.aload_n 0, 31, 0, 0, .null, [], [])),
  (31, (.bipush (-2), 33, 0, 0, (.int (-2)), [], [])),
  (33, (.invokevirtual 199, 36, 153, 1, .null, [], [1009, 1010, 1011, 5, 1012])),
  (36, (.ireturn, 37, 0, 0, .null, [], [])),
  (37, (.iconst 0, 38, 0, 0, (.int 0), [], [])),
  (38, (.istore_n 2, 39, 2, 0, .null, [], [])),
  (39, (.iload_n 2, 40, 2, 0, .null, [], [])),
  (40, (.sipush 7892, 43, 0, 0, (.int 7892), [], [])),
  (43, (.if_icmp .ge 27, 46, 70, 0, .null, [], [])),
  (46, (.aload_n 0, 47, 0, 0, .null, [], [])),
  (47, (.getfield 13, 50, 11, 3, (.int 3), [], [520])),
  (50, (.iload_n 2, 51, 2, 0, .null, [], [])),
  (51, (.aload_n 0, 52, 0, 0, .null, [], [])),
  (52, (.getfield 16, 55, 11, 4, (.int 3), [], [521])),
  (55, (.sipush 7892, 58, 0, 0, (.int 7892), [], [])),
  (58, (.iload_n 1, 59, 1, 0, .null, [], [])),
  (59, (.imul, 60, 0, 0, .null, [], [])),
  (60, (.iload_n 2, 61, 2, 0, .null, [], [])),
  (61, (.iadd, 62, 0, 0, .null, [], [])),
  (62, (.iaload, 63, 0, 0, .null, [], [])),
  (63, (.iastore, 64, 0, 0, .null, [], [])),
  (64, (.iinc 2 1, 67, 2, 0, (.int 1), [], [])),
  (67, (.goto (-28), 70, 39, 0, .null, [], [])),
  (70, (.aload_n 0, 71, 0, 0, .null, [], [])),
  (71, (.iconst 0, 72, 0, 0, (.int 0), [], [])),
  (72, (.invokevirtual 214, 75, 155, 1, .null, [], [1004, 1005, 1006, 5, 1007])),
  (75, (.ireturn, 76, 0, 0, .null, [], []))]
/-- yX11_isSyllable -/
def zc_162 : List (Nat × zE) := [(0, (.iload_n 1, 1, 1, 0, .null, [], [])),
  (1, (.i2l, 2, 0, 0, .null, [], [])),
  (2, (.lconst 0, 3, 0, 0, (.long 0), [], [])),
  (3, (.aload_n 0, 4, 0, 0, .null, [], [])),
  (4, (.getfield 13, 7, 11, 3, (.int 3), [], [520])),
  (7, (.iconst 0, 8, 0, 0, (.int 0), [], [])),
  (8, (.iaload, 9, 0, 0, .null, [], [])),
  (9, (.i2l, 10, 0, 0, .null, [], [])),
  (10, (.lconst 1, 11, 0, 0, (.long 1), [], [])),
  (11, (.lsub, 12, 0, 0, .null, [], [])),
  (12, (.invokestatic 210, 15, 150, 3, .null, [], [1001, 1002, 5, 1003])),
  (15, (.ireturn, 16, 1, 0, .null, [], []))]
/-- yX11_isMetre -/
def zc_163 : List (Nat × zE) := [(0, (.iload_n 1, 1, 1, 0, .null, [], [])),
  (1, (.i2l, 2, 0, 0, .null, [], [])),
  (2, (.lconst 0, 3, 0, 0, (.long 0), [], [])),
  (3, (.aload_n 0, 4, 0, 0, .null, [], [])),
  (4, (.getfield 13, 7, 11, 3, (.int 3), [], [520])),
  (7, (.iconst 1, 8, 0, 0, (.int 1), [], [])),
  (8, (.iaload, 9, 0, 0, .null, [], [])),
  (9, (.i2l, 10, 0, 0, .null, [], [])),
  (10, (.lconst 1, 11, 0, 0, (.long 1), [], [])),
  (11, (.lsub, 12, 0, 0, .null, [], [])),
  (12, (.invokestatic 210, 15, 150, 3, .null, [], [1001, 1002, 5, 1003])),
  (15, (.ireturn, 16, 1, 0, .null, [], []))]
/-- yX11_comes -/
def zc_164 : List (Nat × zE) := [(0, (.iload_n 1, 1, 1, 0, .null, [], [])),
  (1, (.i2l, 2, 0, 0, .null, [], [])),
  (2, (.lconst 0, 3, 0, 0, (.long 0), [], [])),
  (3, (.ldc2_w 217, 6, 0, 0, (.long 2), [], [1000])),
  (6, (.invokestatic 210, 9, 150, 3, .null, [], [1001, 1002, 5, 1003])),
  (9, (.ifCond .eq 23, 12, 32, 0, .null, [], [])),
  (12, (.iload_n 2, 13, 2, 0, .null, [], [])),
  (13, (.i2l, 14, 0, 0, .null, [], [])),
  (14, (.lconst 0, 15, 0, 0, (.long 0), [], [])),
  (15, (.lconst 1, 16, 0, 0, (.long 1), [], [])),
  (16, (.invokestatic 210, 19, 150, 3, .null, [], [1001, 1002, 5, 1003])),
  (19, (.ifCond .eq 13, 22, 32, 0, .null, [], [])),
  (22, (.iload_n 3, 23, 3, 0, .null, [], [])),
  (23, (.i2l, 24, 0, 0, .null, [], [])),
  (24, (.lconst 0, 25, 0, 0, (.long 0), [], [])),
  (25, (.lconst 1, 26, 0, 0, (.long 1), [], [])),
  (26, (.invokestatic 210, 29, 150, 3, .null, [], [1001, 1002, 5, 1003])),
  (29, (.ifCond .ne 5, 32, 34, 0, .null, [], [])),
  (32, (.iconst (-1), 33, 0, 0, (.int (-1)), [], [])),
  (33, (.ireturn, 34, 0, 0, .null, [], [])),
  (34, (.aload_n 0, 35, 0, 0, .null, [], [])),
  (35, (.getfield 13, 38, 11, 3, (.int 3), [], [520])),
  (38, (.iconst 0, 39, 0, 0, (.int 0), [], [])),
  (39, (.iaload, 40, 0, 0, .null, [], [])),
  (40, (.istore 4, 42, 4, 0, .null, [], [])),
  (42, (.iload 4, 44, 4, 0, .null, [], [])),
  (44, (.bipush 20, 46, 0, 0, (.int 20), [], [])),
  (46, (.if_icmp .ne 6, 49, 52, 0, .null, [], [])),
  (49, (.bipush (-5), 51, 0, 0, (.int (-5)), [], [])),
  (51, (.ireturn, 52, 0, 0, .null, [], [])),
  (52, (.aload_n 0, 53, 0, 0, .null, [], [])),
  (53, (.getfield 13, 56, 11, 3, (.int 3), [], [520])),
  (56, (.bipush 8, 58, 0, 0, (.int 8), [], [])),
  (58, (.iload 4, 60, 4, 0, .null, [], [])),
  (60, (.iadd, 61, 0, 0, .null, [], [])),
  (61, (.iload_n 1, 62, 1, 0, .null, [], [])),
  (62, (.iastore, 63, 0, 0, .null, [], [])),
  (63, (.aload_n 0, 64, 0, 0, .null, [], [])),
  (64, (.getfield 13, 67, 11, 3, (.int 3), [], [520])),
  (67, (.bipush 28, 69, 0, 0, (.int 28), [], [])),
  (69, (.iload 4, 71, 4, 0, .null, [], [])),
  (71, (.iadd, 72, 0, 0, .null, [], [])),
  (72, (.iload_n 2, 73, 2, 0, .null, [], [])),
  (73, (.iastore, 74, 0, 0, .null, [], [])),
  (74, (.aload_n 0, 75, 0, 0, .null, [], [])),
  (75, (.getfield 13, 78, 11, 3, (.int 3), [], [520])),
  (78, (.bipush 48, 80, 0, 0, (.int 48), [], [])),
  (80, (.iload 4, 82, 4, 0, .null, [], [])),
  (82, (.iadd, 83, 0, 0, .null, [], [])),
  (83, (.iload_n 3, 84, 3, 0, .null, [], [])),
  (84, (.iastore, 85, 0, 0, .null, [], [])),
  (85, (.aload_n 0, 86, 0, 0, .null, [], [])),
  (86, (.getfield 13, 89, 11, 3, (.int 3), [], [520])),
  (89, (.iconst 0, 90, 0, 0, (.int 0), [], [])),
  (90, (.dup2, 91, 0, 0, .null, [], [])),
  (91, (.iaload, 92, 0, 0, .null, [], [])),
  (92, (.iconst 1, 93, 0, 0, (.int 1), [], [])),
  (93, (.iadd, 94, 0, 0, .null, [], [])),
  (94, (.iastore, 95, 0, 0, .null, [], [])),
  (95, (.iload 4, 97, 4, 0, .null, [], [])),
  (97, (.ireturn, 98, 0, 0, .null, [], []))]
/-- yX11_syllable -/
def zc_165 : List (Nat × zE) := [(0, (.aload_n 0, 1, 0, 0, .null, [], [])),
  (1, (.iconst 0, 2, 0, 0, (.int 0), [], [])),
  (2, (.putfield 190, 5, 11, 0, (.int 0), [], [919])),
  (5, (.aload_n 0, 6, 0, 0, .null, [], [])),
  (6, (.aload_n 0, 7, 0, 0, .null, [], [])),
  (7, (.iload_n 1, 8, 1, 0, .null, [], [])),
  (8, (.iload_n 2, 9, 2, 0, .null, [], [])),
  (9, (.iload_n 3, 10, 3, 0, .null, [], [])),
  (10, (.invokevirtual 219, 13, 164, 3, .null, [], [920, 921, 922, 5, 923])),
  (13, (.invokevirtual 214, 16, 155, 1, .null, [], [1004, 1005, 1006, 5, 1007])),
  (16, (.ireturn, 17, 0, 0, .null, [], []))]
/-- yX11_of -/
def zc_166 : List (Nat × zE) := [(0, (.aload_n 0, 1, 0, 0, .null, [], [])),
  (1, (.iconst 0, 2, 0, 0, (.int 0), [], [])),
  (2, (.putfield 190, 5, 11, 0, (.int 0), [], [919])),
  (5, (.aload_n 0, 6, 0, 0, .null, [], [])),
  (6, (.iload_n 1, 7, 1, 0, .null, [], [])),
  (7, (.invokevirtual 223, 10, 162, 1, .null, [], [1318, 1319, 1320, 5, 1321])),
  (10, (.ifCond .ne 5, 13, 15, 0, .null, [], [])),
  (13, (.iconst (-1), 14, 0, 0, (.int (-1)), [], [])),
  (14, (.ireturn, 15, 0, 0, .null, [], [])),
  (15, (.iload_n 2, 16, 2, 0, .null, [], [])),
  (16, (.tableswitch 58 0 2 #[28, 38, 48], 44, 74, 0, .null, [(0, 44), (1, 54), (2, 64)], [])),
  (44, (.aload_n 0, 45, 0, 0, .null, [], [])),
  (45, (.getfield 13, 48, 11, 3, (.int 3), [], [520])),
  (48, (.bipush 8, 50, 0, 0, (.int 8), [], [])),
  (50, (.iload_n 1, 51, 1, 0, .null, [], [])),
  (51, (.iadd, 52, 0, 0, .null, [], [])),
  (52, (.iaload, 53, 0, 0, .null, [], [])),
  (53, (.ireturn, 54, 0, 0, .null, [], [])),
  (54, (.aload_n 0, 55, 0, 0, .null, [], [])),
  (55, (.getfield 13, 58, 11, 3, (.int 3), [], [520])),
  (58, (.bipush 28, 60, 0, 0, (.int 28), [], [])),
  (60, (.iload_n 1, 61, 1, 0, .null, [], [])),
  (61, (.iadd, 62, 0, 0, .null, [], [])),
  (62, (.iaload, 63, 0, 0, .null, [], [])),
  (63, (.ireturn, 64, 0, 0, .null, [], [])),
  (64, (.aload_n 0, 65, 0, 0, .null, [], [])),
  (65, (.getfield 13, 68, 11, 3, (.int 3), [], [520])),
  (68, (.bipush 48, 70, 0, 0, (.int 48), [], [])),
  (70, (.iload_n 1, 71, 1, 0, .null, [], [])),
  (71, (.iadd, 72, 0, 0, .null, [], [])),
  (72, (.iaload, 73, 0, 0, .null, [], [])),
  (73, (.ireturn, 74, 0, 0, .null, [], [])),
  (74, (.iload_n 2, 75, 2, 0, .null, [], [])),
  (75, (.i2l, 76, 0, 0, .null, [], [])),
  (76, (.ldc2_w 227, 79, 0, 0, (.long 3), [], [1314])),
  (79, (.ldc2_w 229, 82, 0, 0, (.long 5), [], [1315])),
  (82, (.invokestatic 210, 85, 150, 3, .null, [], [1001, 1002, 5, 1003])),
  (85, (.ifCond .eq 20, 88, 105, 0, .null, [], [])),
  (88, (.aload_n 0, 89, 0, 0, .null, [], [])),
  (89, (.iload_n 1, 90, 1, 0, .null, [], [])),
  (90, (.iload_n 2, 91, 2, 0, .null, [], [])),
  (91, (.iconst 3, 92, 0, 0, (.int 3), [], [])),
  (92, (.isub, 93, 0, 0, .null, [], [])),
  (93, (.invokevirtual 231, 96, 207, 2, .null, [], [1322, 1323, 1400, 5, 1401])),
  (96, (.ifCond .eq 7, 99, 103, 0, .null, [], [])),
  (99, (.iconst 1, 100, 0, 0, (.int 1), [], [])),
  (100, (.goto 4, 103, 104, 0, .null, [], [])),
  (103, (.iconst 0, 104, 0, 0, (.int 0), [], [])),
  (104, (.ireturn, 105, 0, 0, .null, [], [])),
  (105, (.iload_n 2, 106, 2, 0, .null, [], [])),
  (106, (.i2l, 107, 0, 0, .null, [], [])),
  (107, (.ldc2_w 235, 110, 0, 0, (.long 6), [], [1316])),
  (110, (.ldc2_w 237, 113, 0, 0, (.long 8), [], [1317])),
  (113, (.invokestatic 210, 116, 150, 3, .null, [], [1001, 1002, 5, 1003])),
  (116, (.ifCond .eq 15, 119, 131, 0, .null, [], [])),
  (119, (.aload_n 0, 120, 0, 0, .null, [], [])),
  (120, (.iload_n 1, 121, 1, 0, .null, [], [])),
  (121, (.iload_n 2, 122, 2, 0, .null, [], [])),
  (122, (.bipush 6, 124, 0, 0, (.int 6), [], [])),
  (124, (.isub, 125, 0, 0, .null, [], [])),
  (125, (.invokevirtual 239, 128, 208, 2, .null, [], [1507, 1508, 1509, 5, 1510])),
  (128, (.goto 4, 131, 132, 0, .null, [], [])),
  (131, (.iconst (-1), 132, 0, 0, (.int (-1)), [], [])),
  (132, (.ireturn, 133, 0, 0, .null, [], []))]
/-- yX11_terms -/
def zc_167 : List (Nat × zE) := [(0, (.aload_n 0, 1, 0, 0, .null, [], [])),
  (1, (.iconst 0, 2, 0, 0, (.int 0), [], [])),
  (2, (.putfield 190, 5, 11, 0, (.int 0), [], [919])),
  (5, (.iload_n 1, 6, 1, 0, .null, [], [])),
  (6, (.ifCond .ne 15, 9, 21, 0, .null, [], [])),
  (9, (.iload_n 2, 10, 2, 0, .null, [], [])),
  (10, (.i2l, 11, 0, 0, .null, [], [])),
  (11, (.lconst 0, 12, 0, 0, (.long 0), [], [])),
  (12, (.ldc2_w 243, 15, 0, 0, (.long 999), [], [1604])),
  (15, (.invokestatic 210, 18, 150, 3, .null, [], [1001, 1002, 5, 1003])),
  (18, (.goto 42, 21, 60, 0, .null, [], [])),
  (21, (.iload_n 1, 22, 1, 0, .null, [], [])),
  (22, (.iconst 1, 23, 0, 0, (.int 1), [], [])),
  (23, (.if_icmp .ne 15, 26, 38, 0, .null, [], [])),
  (26, (.iload_n 2, 27, 2, 0, .null, [], [])),
  (27, (.i2l, 28, 0, 0, .null, [], [])),
  (28, (.lconst 0, 29, 0, 0, (.long 0), [], [])),
  (29, (.ldc2_w 245, 32, 0, 0, (.long 10), [], [1605])),
  (32, (.invokestatic 210, 35, 150, 3, .null, [], [1001, 1002, 5, 1003])),
  (35, (.goto 25, 38, 60, 0, .null, [], [])),
  (38, (.iload_n 1, 39, 1, 0, .null, [], [])),
  (39, (.iconst 2, 40, 0, 0, (.int 2), [], [])),
  (40, (.if_icmp .ne 19, 43, 59, 0, .null, [], [])),
  (43, (.iload_n 2, 44, 2, 0, .null, [], [])),
  (44, (.i2l, 45, 0, 0, .null, [], [])),
  (45, (.lconst 0, 46, 0, 0, (.long 0), [], [])),
  (46, (.ldc2_w 247, 49, 0, 0, (.long 9), [], [1606])),
  (49, (.invokestatic 210, 52, 150, 3, .null, [], [1001, 1002, 5, 1003])),
  (52, (.ifCond .eq 7, 55, 59, 0, .null, [], [])),
  (55, (.iconst 1, 56, 0, 0, (.int 1), [], [])),
  (56, (.goto 4, 59, 60, 0, .null, [], [])),
  (59, (.iconst 0, 60, 0, 0, (.int 0), [], [])),
  (60, (.istore_n 3, 61, 3, 0, .null, [], [])),
  (61, (.iload_n 3, 62, 3, 0, .null, [], [])),
  (62, (.ifCond .ne 9, 65, 71, 0, .null, [], [])),
  (65, (.aload_n 0, 66, 0, 0, .null, [], [])),
  (66, (.iconst (-1), 67, 0, 0, (.int (-1)), [], [])),
  (67, (.invokevirtual 199, 70, 153, 1, .null, [], [1009, 1010, 1011, 5, 1012])),
  (70, (.ireturn, 71, 0, 0, .null, [], [])),
  (71, (.aload_n 0, 72, 0, 0, .null, [], [])),
  (72, (.iconst 0, 73, 0, 0, (.int 0), [], [])),
  (73, (.putfield 196, 76, 11, 8, (.int 0), [], [1008])),
  (76, (.aload_n 0, 77, 0, 0, .null, [], [])),
  (77, (.iconst 5, 78, 0, 0, (.int 5), [], [])),
  (78, (.iload_n 1, 79, 1, 0, .null, [], [])),
  (79, (.iadd, 80, 0, 0, .null, [], [])),
  (80, (.iload_n 2, 81, 2, 0, .null, [], [])),
  (81, (.invokevirtual 249, 84, 154, 2, .null, [], [1607, 1608, 1609, 5, 1610])),
  (84, (.ireturn, 85, 0, 0, .null, [], []))]
/-- yX11_row -/
def zc_168 : List (Nat × zE) := [(0, (.aload_n 0, 1, 0, 0, .null, [], [])),
  (1, (.iconst 0, 2, 0, 0, (.int 0), [], [])),
  (2, (.putfield 190, 5, 11, 0, (.int 0), [], [919])),
  (5, (.aload_n 0, 6, 0, 0, .null, [], [])),
  (6, (.getfield 252, 9, 11, 13, (.int 0), [], [1705])),
  (9, (.istore_n 1, 10, 1, 0, .null, [], [])),
  (10, (.aload_n 0, 11, 0, 0, .null, [], [])),
  (11, (.iconst 0, 12, 0, 0, (.int 0), [], [])),
  (12, (.putfield 252, 15, 11, 13, (.int 0), [], [1705])),
  (15, (.iload_n 1, 16, 1, 0, .null, [], [])),
  (16, (.ifCond .ne 10, 19, 26, 0, .null, [], [])),
  (19, (.aload_n 0, 20, 0, 0, .null, [], [])),
  (20, (.bipush (-6), 22, 0, 0, (.int (-6)), [], [])),
  (22, (.invokevirtual 199, 25, 153, 1, .null, [], [1009, 1010, 1011, 5, 1012])),
  (25, (.ireturn, 26, 0, 0, .null, [], [])),
  (26, (.aload_n 0, 27, 0, 0, .null, [], [])),
  (27, (.iconst 0, 28, 0, 0, (.int 0), [], [])),
  (28, (.putfield 255, 31, 11, 11, (.int 0), [], [1807])),
  (31, (.iconst 0, 32, 0, 0, (.int 0), [], [])),
  (32, (.istore_n 2, 33, 2, 0, .null, [], [])),
  (33, (.iconst 0, 34, 0, 0, (.int 0), [], [])),
  (34, (.istore_n 3, 35, 3, 0, .null, [], [])),
  (35, (.iload_n 3, 36, 3, 0, .null, [], [])),
  (36, (.iload_n 1, 37, 1, 0, .null, [], [])),
  (37, (.if_icmp .ge 61, 40, 98, 0, .null, [], [])),
  (40, (.iload_n 3, 41, 3, 0, .null, [], [])),
  (41, (.iconst 2, 42, 0, 0, (.int 2), [], [])),
  (42, (.iadd, 43, 0, 0, .null, [], [])),
  (43, (.iload_n 1, 44, 1, 0, .null, [], [])),
  (44, (.if_icmp .ge 38, 47, 82, 0, .null, [], [])),
  (47, (.aload_n 0, 48, 0, 0, .null, [], [])),
  (48, (.aload_n 0, 49, 0, 0, .null, [], [])),
  (49, (.getfield 35, 52, 11, 12, (.int 3), [], [604])),
  (52, (.iload_n 3, 53, 3, 0, .null, [], [])),
  (53, (.iaload, 54, 0, 0, .null, [], [])),
  (54, (.aload_n 0, 55, 0, 0, .null, [], [])),
  (55, (.getfield 35, 58, 11, 12, (.int 3), [], [604])),
  (58, (.iload_n 3, 59, 3, 0, .null, [], [])),
  (59, (.iconst 1, 60, 0, 0, (.int 1), [], [])),
  (60, (.iadd, 61, 0, 0, .null, [], [])),
  (61, (.iaload, 62, 0, 0, .null, [], [])),
  (62, (.aload_n 0, 63, 0, 0, .null, [], [])),
  (63, (.getfield 35, 66, 11, 12, (.int 3), [], [604])),
  (66, (.iload_n 3, 67, 3, 0, .null, [], [])),
  (67, (.iconst 2, 68, 0, 0, (.int 2), [], [])),
  (68, (.iadd, 69, 0, 0, .null, [], [])),
  (69, (.iaload, 70, 0, 0, .null, [], [])),
  (70, (.invokevirtual 219, 73, 164, 3, .null, [], [920, 921, 922, 5, 923])),
  (73, (.ifCond .lt 9, 76, 82, 0, .null, [], [])),
  (76, (.iinc 2 1, 79, 2, 0, (.int 1), [], [])),
  (79, (.goto 13, 82, 92, 0, .null, [], [])),
  (82, (.aload_n 0, 83, 0, 0, .null, [], [])),
  (83, (.dup, 84, 0, 0, .null, [], [])),
  (84, (.getfield 255, 87, 11, 11, (.int 0), [], [1807])),
  (87, (.iconst 1, 88, 0, 0, (.int 1), [], [])),
  (88, (.iadd, 89, 0, 0, .null, [], [])),
  (89, (.putfield 255, 92, 11, 11, (.int 0), [], [1807])),
  (92, (.iinc 3 3, 95, 3, 0, (.int 3), [], [])),
  (95, (.goto (-60), 98, 35, 0, .null, [], [])),
  (98, (.aload_n 0, 99, 0, 0, .null, [], [])),
  (99, (.iload_n 2, 100, 2, 0, .null, [], [])),
  (100, (.invokevirtual 214, 103, 155, 1, .null, [], [1004, 1005, 1006, 5, 1007])),
  (103, (.ireturn, 104, 0, 0, .null, [], []))]
/-- yX11_mutes -/
def zc_169 : List (Nat × zE) := [(0, (.aload_n 0, 1, 0, 0, .null, [], [])),
  (1, (.iconst 0, 2, 0, 0, (.int 0), [], [])),
  (2, (.putfield 190, 5, 11, 0, (.int 0), [], [919])),
  (5, (.aload_n 0, 6, 0, 0, .null, [], [])),
  (6, (.getfield 255, 9, 11, 11, (.int 0), [], [1807])),
  (9, (.ireturn, 10, 0, 0, .null, [], []))]
/-- yX11_four -/
def zc_170 : List (Nat × zE) := [(0, (.bipush 24, 2, 0, 0, (.int 24), [], [])),
  (2, (.istore_n 2, 3, 2, 0, .null, [], [])),
  (3, (.iload_n 2, 4, 2, 0, .null, [], [])),
  (4, (.ifCond .lt 35, 7, 39, 0, .null, [], [])),
  (7, (.aload_n 0, 8, 0, 0, .null, [], [])),
  (8, (.getfield 35, 11, 11, 12, (.int 3), [], [604])),
  (11, (.aload_n 0, 12, 0, 0, .null, [], [])),
  (12, (.getfield 252, 15, 11, 13, (.int 0), [], [1705])),
  (15, (.iload_n 1, 16, 1, 0, .null, [], [])),
  (16, (.iload_n 2, 17, 2, 0, .null, [], [])),
  (17, (.ishr, 18, 0, 0, .null, [], [])),
  (18, (.sipush 255, 21, 0, 0, (.int 255), [], [])),
  (21, (.iand, 22, 0, 0, .null, [], [])),
  (22, (.iastore, 23, 0, 0, .null, [], [])),
  (23, (.aload_n 0, 24, 0, 0, .null, [], [])),
  (24, (.dup, 25, 0, 0, .null, [], [])),
  (25, (.getfield 252, 28, 11, 13, (.int 0), [], [1705])),
  (28, (.iconst 1, 29, 0, 0, (.int 1), [], [])),
  (29, (.iadd, 30, 0, 0, .null, [], [])),
  (30, (.putfield 252, 33, 11, 13, (.int 0), [], [1705])),
  (33, (.iinc 2 (-8), 36, 2, 0, (.int (-8)), [], [])),
  (36, (.goto (-33), 39, 3, 0, .null, [], [])),
  (39, (.return_, 40, 0, 0, .null, [], []))]
/-- yX11_feed -/
def zc_171 : List (Nat × zE) := [(0, (.aload_n 0, 1, 0, 0, .null, [], [])),
  (1, (.iconst 0, 2, 0, 0, (.int 0), [], [])),
  (2, (.putfield 190, 5, 11, 0, (.int 0), [], [919])),
  (5, (.aload_n 0, 6, 0, 0, .null, [], [])),
  (6, (.getfield 252, 9, 11, 13, (.int 0), [], [1705])),
  (9, (.bipush 20, 11, 0, 0, (.int 20), [], [])),
  (11, (.iadd, 12, 0, 0, .null, [], [])),
  (12, (.sipush 400, 15, 0, 0, (.int 400), [], [])),
  (15, (.if_icmp .le 5, 18, 20, 0, .null, [], [])),
  (18, (.iconst (-1), 19, 0, 0, (.int (-1)), [], [])),
  (19, (.ireturn, 20, 0, 0, .null, [], [])),
  (20, (.aload_n 0, 21, 0, 0, .null, [], [])),
  (21, (.iload_n 1, 22, 1, 0, .null, [], [])),
  (22, (.invokevirtual 258, 25, 170, 1, .null, [], [1706, 1707, 1708, 5, 1709])),
  (25, (.aload_n 0, 26, 0, 0, .null, [], [])),
  (26, (.iload_n 2, 27, 2, 0, .null, [], [])),
  (27, (.invokevirtual 258, 30, 170, 1, .null, [], [1706, 1707, 1708, 5, 1709])),
  (30, (.aload_n 0, 31, 0, 0, .null, [], [])),
  (31, (.iload_n 3, 32, 3, 0, .null, [], [])),
  (32, (.invokevirtual 258, 35, 170, 1, .null, [], [1706, 1707, 1708, 5, 1709])),
  (35, (.aload_n 0, 36, 0, 0, .null, [], [])),
  (36, (.iload 4, 38, 4, 0, .null, [], [])),
  (38, (.invokevirtual 258, 41, 170, 1, .null, [], [1706, 1707, 1708, 5, 1709])),
  (41, (.aload_n 0, 42, 0, 0, .null, [], [])),
  (42, (.iload 5, 44, 5, 0, .null, [], [])),
  (44, (.invokevirtual 258, 47, 170, 1, .null, [], [1706, 1707, 1708, 5, 1709])),
  (47, (.aload_n 0, 48, 0, 0, .null, [], [])),
  (48, (.getfield 252, 51, 11, 13, (.int 0), [], [1705])),
  (51, (.ireturn, 52, 0, 0, .null, [], []))]
/-- yX11_end -/
def zc_172 : List (Nat × zE) := [(0, (.aload_n 0, 1, 0, 0, .null, [], [])),
  (1, (.iconst 0, 2, 0, 0, (.int 0), [], [])),
  (2, (.putfield 190, 5, 11, 0, (.int 0), [], [919])),
  (5, (.iload_n 1, 6, 1, 0, .null, [], [])),
  (6, (.ifCond .lt 11, 9, 17, 0, .null, [], [])),
  (9, (.iload_n 1, 10, 1, 0, .null, [], [])),
  (10, (.aload_n 0, 11, 0, 0, .null, [], [])),
  (11, (.getfield 252, 14, 11, 13, (.int 0), [], [1705])),
  (14, (.if_icmp .le 5, 17, 19, 0, .null, [], [])),
  (17, (.iconst (-1), 18, 0, 0, (.int (-1)), [], [])),
  (18, (.ireturn, 19, 0, 0, .null, [], [])),
  (19, (.aload_n 0, 20, 0, 0, .null, [], [])),
  (20, (.iload_n 1, 21, 1, 0, .null, [], [])),
  (21, (.putfield 252, 24, 11, 13, (.int 0), [], [1705])),
  (24, (.iload_n 1, 25, 1, 0, .null, [], [])),
  (25, (.ireturn, 26, 0, 0, .null, [], []))]
/-- yX11_isSmall -/
def zc_173 : List (Nat × zE) := [(0, (.iload_n 0, 1, 0, 0, .null, [], [])),
  (1, (.bipush 97, 3, 0, 0, (.int 97), [], [])),
  (3, (.if_icmp .lt 13, 6, 16, 0, .null, [], [])),
  (6, (.iload_n 0, 7, 0, 0, .null, [], [])),
  (7, (.bipush 122, 9, 0, 0, (.int 122), [], [])),
  (9, (.if_icmp .gt 7, 12, 16, 0, .null, [], [])),
  (12, (.iconst 1, 13, 0, 0, (.int 1), [], [])),
  (13, (.goto 4, 16, 17, 0, .null, [], [])),
  (16, (.iconst 0, 17, 0, 0, (.int 0), [], [])),
  (17, (.ireturn, 18, 1, 0, .null, [], []))]
/-- yX11_isDigit -/
def zc_174 : List (Nat × zE) := [(0, (.iload_n 0, 1, 0, 0, .null, [], [])),
  (1, (.bipush 48, 3, 0, 0, (.int 48), [], [])),
  (3, (.if_icmp .lt 13, 6, 16, 0, .null, [], [])),
  (6, (.iload_n 0, 7, 0, 0, .null, [], [])),
  (7, (.bipush 57, 9, 0, 0, (.int 57), [], [])),
  (9, (.if_icmp .gt 7, 12, 16, 0, .null, [], [])),
  (12, (.iconst 1, 13, 0, 0, (.int 1), [], [])),
  (13, (.goto 4, 16, 17, 0, .null, [], [])),
  (16, (.iconst 0, 17, 0, 0, (.int 0), [], [])),
  (17, (.ireturn, 18, 1, 0, .null, [], []))]
/-- yX11_begin -/
def zc_175 : List (Nat × zE) := [(0, (.aload_n 0, 1, 0, 0, .null, [], [])),
  (1, (.iconst 0, 2, 0, 0, (.int 0), [], [])),
  (2, (.putfield 261, 5, 11, 15, (.int 0), [], [2700])),
  (5, (.aload_n 0, 6, 0, 0, .null, [], [])),
  (6, (.iconst 0, 7, 0, 0, (.int 0), [], [])),
  (7, (.putfield 264, 10, 11, 19, (.int 1), [], [2611])),
  (10, (.aload_n 0, 11, 0, 0, .null, [], [])),
  (11, (.iconst (-1), 12, 0, 0, (.int (-1)), [], [])),
  (12, (.putfield 38, 15, 11, 18, (.int 0), [], [605])),
  (15, (.aload_n 0, 16, 0, 0, .null, [], [])),
  (16, (.invokevirtual 268, 19, 176, 0, .null, [], [2701, 2702, 2703, 5, 2704])),
  (19, (.return_, 20, 0, 0, .null, [], []))]
def zc_176_0 : List (Nat × zE) := [(0, (.aload_n 0, 1, 0, 0, .null, [], [])),
  (1, (.aload_n 0, 2, 0, 0, .null, [], [])),
  (2, (.getfield 261, 5, 11, 15, (.int 0), [], [2700])),
  (5, (.putfield 271, 8, 11, 14, (.int 0), [], [2705])),
  (8, (.aload_n 0, 9, 0, 0, .null, [], [])),
  (9, (.getfield 271, 12, 11, 14, (.int 0), [], [2705])),
  (12, (.aload_n 0, 13, 0, 0, .null, [], [])),
  (13, (.getfield 252, 16, 11, 13, (.int 0), [], [1705])),
  (16, (.if_icmp .ge 30, 19, 46, 0, .null, [], [])),
  (19, (.aload_n 0, 20, 0, 0, .null, [], [])),
  (20, (.getfield 35, 23, 11, 12, (.int 3), [], [604])),
  (23, (.aload_n 0, 24, 0, 0, .null, [], [])),
  (24, (.getfield 271, 27, 11, 14, (.int 0), [], [2705])),
  (27, (.iaload, 28, 0, 0, .null, [], [])),
  (28, (.bipush 32, 30, 0, 0, (.int 32), [], [])),
  (30, (.if_icmp .ne 16, 33, 46, 0, .null, [], [])),
  (33, (.aload_n 0, 34, 0, 0, .null, [], [])),
  (34, (.dup, 35, 0, 0, .null, [], [])),
  (35, (.getfield 271, 38, 11, 14, (.int 0), [], [2705])),
  (38, (.iconst 1, 39, 0, 0, (.int 1), [], [])),
  (39, (.iadd, 40, 0, 0, .null, [], [])),
  (40, (.putfield 271, 43, 11, 14, (.int 0), [], [2705])),
  (43, (.goto (-35), 46, 8, 0, .null, [], [])),
  (46, (.aload_n 0, 47, 0, 0, .null, [], [])),
  (47, (.aload_n 0, 48, 0, 0, .null, [], [])),
  (48, (.getfield 271, 51, 11, 14, (.int 0), [], [2705])),
  (51, (.putfield 261, 54, 11, 15, (.int 0), [], [2700])),
  (54, (.aload_n 0, 55, 0, 0, .null, [], [])),
  (55, (.lconst 0, 56, 0, 0, (.long 0), [], [])),
  (56, (.putfield 274, 59, 11, 17, (.int 2), [], [2706])),
  (59, (.aload_n 0, 60, 0, 0, .null, [], [])),
  (60, (.aload_n 0, 61, 0, 0, .null, [], [])),
  (61, (.getfield 271, 64, 11, 14, (.int 0), [], [2705])),
  (64, (.aload_n 0, 65, 0, 0, .null, [], [])),
  (65, (.getfield 252, 68, 11, 13, (.int 0), [], [1705])),
  (68, (.if_icmp .ne 7, 71, 75, 0, .null, [], [])),
  (71, (.iconst 0, 72, 0, 0, (.int 0), [], [])),
  (72, (.goto 42, 75, 114, 0, .null, [], [])),
  (75, (.aload_n 0, 76, 0, 0, .null, [], [])),
  (76, (.getfield 35, 79, 11, 12, (.int 3), [], [604])),
  (79, (.aload_n 0, 80, 0, 0, .null, [], [])),
  (80, (.getfield 271, 83, 11, 14, (.int 0), [], [2705])),
  (83, (.iaload, 84, 0, 0, .null, [], [])),
  (84, (.invokestatic 278, 87, 173, 1, .null, [], [2711, 2712, 5, 2713])),
  (87, (.ifCond .eq 7, 90, 94, 0, .null, [], [])),
  (90, (.iconst 1, 91, 0, 0, (.int 1), [], [])),
  (91, (.goto 23, 94, 114, 0, .null, [], [])),
  (94, (.aload_n 0, 95, 0, 0, .null, [], [])),
  (95, (.getfield 35, 98, 11, 12, (.int 3), [], [604])),
  (98, (.aload_n 0, 99, 0, 0, .null, [], [])),
  (99, (.getfield 271, 102, 11, 14, (.int 0), [], [2705])),
  (102, (.iaload, 103, 0, 0, .null, [], [])),
  (103, (.invokestatic 281, 106, 174, 1, .null, [], [2714, 2715, 5, 2716])),
  (106, (.ifCond .eq 7, 109, 113, 0, .null, [], [])),
  (109, (.iconst 2, 110, 0, 0, (.int 2), [], [])),
  (110, (.goto 4, 113, 114, 0, .null, [], [])),
  (113, (.iconst 3, 114, 0, 0, (.int 3), [], [])),
  (114, (.putfield 284, 117, 11, 16, (.int 0), [], [2619])),
  (117, (.aload_n 0, 118, 0, 0, .null, [], [])),
  (118, (.getfield 284, 121, 11, 16, (.int 0), [], [2619])),
  (121, (.iconst 3, 122, 0, 0, (.int 3), [], [])),
  (122, (.if_icmp .ne 27, 125, 149, 0, .null, [], [])),
  (125, (.aload_n 0, 126, 0, 0, .null, [], [])),
  (126, (.aload_n 0, 127, 0, 0, .null, [], [])),
  (127, (.getfield 35, 130, 11, 12, (.int 3), [], [604])),
  (130, (.aload_n 0, 131, 0, 0, .null, [], [])),
  (131, (.getfield 271, 134, 11, 14, (.int 0), [], [2705])),
  (134, (.iaload, 135, 0, 0, .null, [], [])),
  (135, (.i2l, 136, 0, 0, .null, [], [])),
  (136, (.putfield 274, 139, 11, 17, (.int 2), [], [2706])),
  (139, (.aload_n 0, 140, 0, 0, .null, [], [])),
  (140, (.dup, 141, 0, 0, .null, [], [])),
  (141, (.getfield 261, 144, 11, 15, (.int 0), [], [2700])),
  (144, (.iconst 1, 145, 0, 0, (.int 1), [], [])),
  (145, (.iadd, 146, 0, 0, .null, [], [])),
  (146, (.putfield 261, 149, 11, 15, (.int 0), [], [2700])),
  (149, (.aload_n 0, 150, 0, 0, .null, [], [])),
  (150, (.getfield 284, 153, 11, 16, (.int 0), [], [2619])),
  (153, (.iconst 1, 154, 0, 0, (.int 1), [], [])),
  (154, (.if_icmp .ne 89, 157, 243, 0, .null, [], [])),
  (157, (.aload_n 0, 158, 0, 0, .null, [], [])),
  (158, (.getfield 261, 161, 11, 15, (.int 0), [], [2700])),
  (161, (.aload_n 0, 162, 0, 0, .null, [], [])),
  (162, (.getfield 252, 165, 11, 13, (.int 0), [], [1705])),
  (165, (.if_icmp .ge 78, 168, 243, 0, .null, [], [])),
  (168, (.aload_n 0, 169, 0, 0, .null, [], [])),
  (169, (.getfield 35, 172, 11, 12, (.int 3), [], [604])),
  (172, (.aload_n 0, 173, 0, 0, .null, [], [])),
  (173, (.getfield 261, 176, 11, 15, (.int 0), [], [2700])),
  (176, (.iaload, 177, 0, 0, .null, [], [])),
  (177, (.invokestatic 278, 180, 173, 1, .null, [], [2711, 2712, 5, 2713])),
  (180, (.ifCond .eq 63, 183, 243, 0, .null, [], [])),
  (183, (.aload_n 0, 184, 0, 0, .null, [], [])),
  (184, (.aload_n 0, 185, 0, 0, .null, [], [])),
  (185, (.getfield 261, 188, 11, 15, (.int 0), [], [2700])),
  (188, (.aload_n 0, 189, 0, 0, .null, [], [])),
  (189, (.getfield 271, 192, 11, 14, (.int 0), [], [2705])),
  (192, (.isub, 193, 0, 0, .null, [], [])),
  (193, (.bipush 10, 195, 0, 0, (.int 10), [], [])),
  (195, (.if_icmp .ge 29, 198, 224, 0, .null, [], [])),
  (198, (.aload_n 0, 199, 0, 0, .null, [], [])),
  (199, (.getfield 274, 202, 11, 17, (.int 2), [], [2706])),
  (202, (.ldc2_w 287, 205, 0, 0, (.long 32), [], [2707])),
  (205, (.lmul, 206, 0, 0, .null, [], [])),
  (206, (.aload_n 0, 207, 0, 0, .null, [], [])),
  (207, (.getfield 35, 210, 11, 12, (.int 3), [], [604])),
  (210, (.aload_n 0, 211, 0, 0, .null, [], [])),
  (211, (.getfield 261, 214, 11, 15, (.int 0), [], [2700])),
  (214, (.iaload, 215, 0, 0, .null, [], [])),
  (215, (.i2l, 216, 0, 0, .null, [], [])),
  (216, (.ladd, 217, 0, 0, .null, [], [])),
  (217, (.ldc2_w 289, 220, 0, 0, (.long 96), [], [2708])),
  (220, (.lsub, 221, 0, 0, .null, [], [])),
  (221, (.goto 6, 224, 227, 0, .null, [], [])),
  (224, (.ldc2_w 291, 227, 0, 0, (.long (-1)), [], [1420])),
  (227, (.putfield 274, 230, 11, 17, (.int 2), [], [2706])),
  (230, (.aload_n 0, 231, 0, 0, .null, [], [])),
  (231, (.dup, 232, 0, 0, .null, [], [])),
  (232, (.getfield 261, 235, 11, 15, (.int 0), [], [2700])),
  (235, (.iconst 1, 236, 0, 0, (.int 1), [], []))]
def zc_176_1 : List (Nat × zE) := [(236, (.iadd, 237, 0, 0, .null, [], [])),
  (237, (.putfield 261, 240, 11, 15, (.int 0), [], [2700])),
  (240, (.goto (-91), 243, 149, 0, .null, [], [])),
  (243, (.aload_n 0, 244, 0, 0, .null, [], [])),
  (244, (.getfield 284, 247, 11, 16, (.int 0), [], [2619])),
  (247, (.iconst 2, 248, 0, 0, (.int 2), [], [])),
  (248, (.if_icmp .ne 87, 251, 335, 0, .null, [], [])),
  (251, (.aload_n 0, 252, 0, 0, .null, [], [])),
  (252, (.getfield 261, 255, 11, 15, (.int 0), [], [2700])),
  (255, (.aload_n 0, 256, 0, 0, .null, [], [])),
  (256, (.getfield 252, 259, 11, 13, (.int 0), [], [1705])),
  (259, (.if_icmp .ge 76, 262, 335, 0, .null, [], [])),
  (262, (.aload_n 0, 263, 0, 0, .null, [], [])),
  (263, (.getfield 35, 266, 11, 12, (.int 3), [], [604])),
  (266, (.aload_n 0, 267, 0, 0, .null, [], [])),
  (267, (.getfield 261, 270, 11, 15, (.int 0), [], [2700])),
  (270, (.iaload, 271, 0, 0, .null, [], [])),
  (271, (.invokestatic 281, 274, 174, 1, .null, [], [2714, 2715, 5, 2716])),
  (274, (.ifCond .eq 61, 277, 335, 0, .null, [], [])),
  (277, (.aload_n 0, 278, 0, 0, .null, [], [])),
  (278, (.aload_n 0, 279, 0, 0, .null, [], [])),
  (279, (.getfield 274, 282, 11, 17, (.int 2), [], [2706])),
  (282, (.ldc2_w 293, 285, 0, 0, (.long 1000000), [], [2709])),
  (285, (.lcmp, 286, 0, 0, .null, [], [])),
  (286, (.ifCond .le 10, 289, 296, 0, .null, [], [])),
  (289, (.aload_n 0, 290, 0, 0, .null, [], [])),
  (290, (.getfield 274, 293, 11, 17, (.int 2), [], [2706])),
  (293, (.goto 26, 296, 319, 0, .null, [], [])),
  (296, (.aload_n 0, 297, 0, 0, .null, [], [])),
  (297, (.getfield 274, 300, 11, 17, (.int 2), [], [2706])),
  (300, (.ldc2_w 245, 303, 0, 0, (.long 10), [], [1605])),
  (303, (.lmul, 304, 0, 0, .null, [], [])),
  (304, (.aload_n 0, 305, 0, 0, .null, [], [])),
  (305, (.getfield 35, 308, 11, 12, (.int 3), [], [604])),
  (308, (.aload_n 0, 309, 0, 0, .null, [], [])),
  (309, (.getfield 261, 312, 11, 15, (.int 0), [], [2700])),
  (312, (.iaload, 313, 0, 0, .null, [], [])),
  (313, (.i2l, 314, 0, 0, .null, [], [])),
  (314, (.ladd, 315, 0, 0, .null, [], [])),
  (315, (.ldc2_w 295, 318, 0, 0, (.long 48), [], [2710])),
  (318, (.lsub, 319, 0, 0, .null, [], [])),
  (319, (.putfield 274, 322, 11, 17, (.int 2), [], [2706])),
  (322, (.aload_n 0, 323, 0, 0, .null, [], [])),
  (323, (.dup, 324, 0, 0, .null, [], [])),
  (324, (.getfield 261, 327, 11, 15, (.int 0), [], [2700])),
  (327, (.iconst 1, 328, 0, 0, (.int 1), [], [])),
  (328, (.iadd, 329, 0, 0, .null, [], [])),
  (329, (.putfield 261, 332, 11, 15, (.int 0), [], [2700])),
  (332, (.goto (-89), 335, 243, 0, .null, [], [])),
  (335, (.return_, 336, 0, 0, .null, [], []))]
/-- yX11_next -/
def zc_176 : List (Nat × zE) := zc_176_0 ++ zc_176_1
/-- yX11_isWord -/
def zc_177 : List (Nat × zE) := [(0, (.aload_n 0, 1, 0, 0, .null, [], [])),
  (1, (.getfield 284, 4, 11, 16, (.int 0), [], [2619])),
  (4, (.iconst 1, 5, 0, 0, (.int 1), [], [])),
  (5, (.if_icmp .ne 16, 8, 21, 0, .null, [], [])),
  (8, (.aload_n 0, 9, 0, 0, .null, [], [])),
  (9, (.getfield 274, 12, 11, 17, (.int 2), [], [2706])),
  (12, (.lload_n 1, 13, 1, 0, .null, [], [])),
  (13, (.lcmp, 14, 0, 0, .null, [], [])),
  (14, (.ifCond .ne 7, 17, 21, 0, .null, [], [])),
  (17, (.iconst 1, 18, 0, 0, (.int 1), [], [])),
  (18, (.goto 4, 21, 22, 0, .null, [], [])),
  (21, (.iconst 0, 22, 0, 0, (.int 0), [], [])),
  (22, (.ireturn, 23, 1, 0, .null, [], []))]
/-- yX11_isSign -/
def zc_178 : List (Nat × zE) := [(0, (.aload_n 0, 1, 0, 0, .null, [], [])),
  (1, (.getfield 284, 4, 11, 16, (.int 0), [], [2619])),
  (4, (.iconst 3, 5, 0, 0, (.int 3), [], [])),
  (5, (.if_icmp .ne 17, 8, 22, 0, .null, [], [])),
  (8, (.aload_n 0, 9, 0, 0, .null, [], [])),
  (9, (.getfield 274, 12, 11, 17, (.int 2), [], [2706])),
  (12, (.iload_n 1, 13, 1, 0, .null, [], [])),
  (13, (.i2l, 14, 0, 0, .null, [], [])),
  (14, (.lcmp, 15, 0, 0, .null, [], [])),
  (15, (.ifCond .ne 7, 18, 22, 0, .null, [], [])),
  (18, (.iconst 1, 19, 0, 0, (.int 1), [], [])),
  (19, (.goto 4, 22, 23, 0, .null, [], [])),
  (22, (.iconst 0, 23, 0, 0, (.int 0), [], [])),
  (23, (.ireturn, 24, 1, 0, .null, [], []))]
/-- yX11_must -/
def zc_179 : List (Nat × zE) := [(0, (.aload_n 0, 1, 0, 0, .null, [], [])),
  (1, (.getfield 264, 4, 11, 19, (.int 1), [], [2611])),
  (4, (.ifCond .ne 20, 7, 24, 0, .null, [], [])),
  (7, (.iload_n 1, 8, 1, 0, .null, [], [])),
  (8, (.ifCond .ne 16, 11, 24, 0, .null, [], [])),
  (11, (.aload_n 0, 12, 0, 0, .null, [], [])),
  (12, (.iconst 1, 13, 0, 0, (.int 1), [], [])),
  (13, (.putfield 264, 16, 11, 19, (.int 1), [], [2611])),
  (16, (.aload_n 0, 17, 0, 0, .null, [], [])),
  (17, (.aload_n 0, 18, 0, 0, .null, [], [])),
  (18, (.getfield 271, 21, 11, 14, (.int 0), [], [2705])),
  (21, (.putfield 38, 24, 11, 18, (.int 0), [], [605])),
  (24, (.aload_n 0, 25, 0, 0, .null, [], [])),
  (25, (.getfield 264, 28, 11, 19, (.int 1), [], [2611])),
  (28, (.ifCond .ne 7, 31, 35, 0, .null, [], [])),
  (31, (.aload_n 0, 32, 0, 0, .null, [], [])),
  (32, (.invokevirtual 268, 35, 176, 0, .null, [], [2701, 2702, 2703, 5, 2704])),
  (35, (.return_, 36, 0, 0, .null, [], []))]
/-- yX11_number -/
def zc_180 : List (Nat × zE) := [(0, (.aload_n 0, 1, 0, 0, .null, [], [])),
  (1, (.getfield 274, 4, 11, 17, (.int 2), [], [2706])),
  (4, (.l2i, 5, 0, 0, .null, [], [])),
  (5, (.istore 5, 7, 5, 0, .null, [], [])),
  (7, (.aload_n 0, 8, 0, 0, .null, [], [])),
  (8, (.aload_n 0, 9, 0, 0, .null, [], [])),
  (9, (.getfield 284, 12, 11, 16, (.int 0), [], [2619])),
  (12, (.iconst 2, 13, 0, 0, (.int 2), [], [])),
  (13, (.if_icmp .ne 19, 16, 32, 0, .null, [], [])),
  (16, (.aload_n 0, 17, 0, 0, .null, [], [])),
  (17, (.getfield 274, 20, 11, 17, (.int 2), [], [2706])),
  (20, (.lload_n 1, 21, 1, 0, .null, [], [])),
  (21, (.lload_n 3, 22, 3, 0, .null, [], [])),
  (22, (.invokestatic 210, 25, 150, 3, .null, [], [1001, 1002, 5, 1003])),
  (25, (.ifCond .eq 7, 28, 32, 0, .null, [], [])),
  (28, (.iconst 1, 29, 0, 0, (.int 1), [], [])),
  (29, (.goto 4, 32, 33, 0, .null, [], [])),
  (32, (.iconst 0, 33, 0, 0, (.int 0), [], [])),
  (33, (.invokevirtual 297, 36, 179, 1, .null, [], [2805, 2806, 2807, 5, 2808])),
  (36, (.iload 5, 38, 5, 0, .null, [], [])),
  (38, (.ireturn, 39, 0, 0, .null, [], []))]
/-- yX11_fault -/
def zc_181 : List (Nat × zE) := [(0, (.aload_n 0, 1, 0, 0, .null, [], [])),
  (1, (.iconst 0, 2, 0, 0, (.int 0), [], [])),
  (2, (.putfield 190, 5, 11, 0, (.int 0), [], [919])),
  (5, (.aload_n 0, 6, 0, 0, .null, [], [])),
  (6, (.getfield 38, 9, 11, 18, (.int 0), [], [605])),
  (9, (.ireturn, 10, 0, 0, .null, [], []))]
/-- yX11_emit -/
def zc_182 : List (Nat × zE) := [(0, (.aload_n 0, 1, 0, 0, .null, [], [])),
  (1, (.getfield 45, 4, 11, 24, (.int 3), [], [607])),
  (4, (.aload_n 0, 5, 0, 0, .null, [], [])),
  (5, (.getfield 301, 8, 11, 23, (.int 0), [], [3316])),
  (8, (.iload_n 1, 9, 1, 0, .null, [], [])),
  (9, (.iastore, 10, 0, 0, .null, [], [])),
  (10, (.aload_n 0, 11, 0, 0, .null, [], [])),
  (11, (.getfield 48, 14, 11, 25, (.int 3), [], [608])),
  (14, (.aload_n 0, 15, 0, 0, .null, [], [])),
  (15, (.getfield 301, 18, 11, 23, (.int 0), [], [3316])),
  (18, (.iload_n 2, 19, 2, 0, .null, [], [])),
  (19, (.iastore, 20, 0, 0, .null, [], [])),
  (20, (.aload_n 0, 21, 0, 0, .null, [], [])),
  (21, (.dup, 22, 0, 0, .null, [], [])),
  (22, (.getfield 301, 25, 11, 23, (.int 0), [], [3316])),
  (25, (.iconst 1, 26, 0, 0, (.int 1), [], [])),
  (26, (.iadd, 27, 0, 0, .null, [], [])),
  (27, (.putfield 301, 30, 11, 23, (.int 0), [], [3316])),
  (30, (.return_, 31, 0, 0, .null, [], []))]
/-- yX11_push -/
def zc_183 : List (Nat × zE) := [(0, (.aload_n 0, 1, 0, 0, .null, [], [])),
  (1, (.getfield 51, 4, 11, 27, (.int 3), [], [609])),
  (4, (.aload_n 0, 5, 0, 0, .null, [], [])),
  (5, (.getfield 304, 8, 11, 29, (.int 0), [], [3407])),
  (8, (.iload_n 1, 9, 1, 0, .null, [], [])),
  (9, (.iastore, 10, 0, 0, .null, [], [])),
  (10, (.aload_n 0, 11, 0, 0, .null, [], [])),
  (11, (.getfield 54, 14, 11, 28, (.int 3), [], [610])),
  (14, (.aload_n 0, 15, 0, 0, .null, [], [])),
  (15, (.getfield 304, 18, 11, 29, (.int 0), [], [3407])),
  (18, (.iload_n 2, 19, 2, 0, .null, [], [])),
  (19, (.iastore, 20, 0, 0, .null, [], [])),
  (20, (.aload_n 0, 21, 0, 0, .null, [], [])),
  (21, (.dup, 22, 0, 0, .null, [], [])),
  (22, (.getfield 304, 25, 11, 29, (.int 0), [], [3407])),
  (25, (.iconst 1, 26, 0, 0, (.int 1), [], [])),
  (26, (.iadd, 27, 0, 0, .null, [], [])),
  (27, (.putfield 304, 30, 11, 29, (.int 0), [], [3407])),
  (30, (.return_, 31, 0, 0, .null, [], []))]
/-- yX11_binds -/
def zc_184 : List (Nat × zE) := [(0, (.iload_n 0, 1, 0, 0, .null, [], [])),
  (1, (.bipush 31, 3, 0, 0, (.int 31), [], [])),
  (3, (.if_icmp .lt 7, 6, 10, 0, .null, [], [])),
  (6, (.iconst 0, 7, 0, 0, (.int 0), [], [])),
  (7, (.goto 55, 10, 62, 0, .null, [], [])),
  (10, (.iload_n 0, 11, 0, 0, .null, [], [])),
  (11, (.bipush 30, 13, 0, 0, (.int 30), [], [])),
  (13, (.if_icmp .ne 7, 16, 20, 0, .null, [], [])),
  (16, (.iconst 1, 17, 0, 0, (.int 1), [], [])),
  (17, (.goto 45, 20, 62, 0, .null, [], [])),
  (20, (.iload_n 0, 21, 0, 0, .null, [], [])),
  (21, (.bipush 29, 23, 0, 0, (.int 29), [], [])),
  (23, (.if_icmp .ne 7, 26, 30, 0, .null, [], [])),
  (26, (.iconst 2, 27, 0, 0, (.int 2), [], [])),
  (27, (.goto 35, 30, 62, 0, .null, [], [])),
  (30, (.iload_n 0, 31, 0, 0, .null, [], [])),
  (31, (.bipush 28, 33, 0, 0, (.int 28), [], [])),
  (33, (.if_icmp .ne 7, 36, 40, 0, .null, [], [])),
  (36, (.iconst 3, 37, 0, 0, (.int 3), [], [])),
  (37, (.goto 25, 40, 62, 0, .null, [], [])),
  (40, (.iload_n 0, 41, 0, 0, .null, [], [])),
  (41, (.bipush 25, 43, 0, 0, (.int 25), [], [])),
  (43, (.if_icmp .lt 7, 46, 50, 0, .null, [], [])),
  (46, (.iconst 4, 47, 0, 0, (.int 4), [], [])),
  (47, (.goto 15, 50, 62, 0, .null, [], [])),
  (50, (.iload_n 0, 51, 0, 0, .null, [], [])),
  (51, (.bipush 22, 53, 0, 0, (.int 22), [], [])),
  (53, (.if_icmp .lt 8, 56, 61, 0, .null, [], [])),
  (56, (.bipush 6, 58, 0, 0, (.int 6), [], [])),
  (58, (.goto 4, 61, 62, 0, .null, [], [])),
  (61, (.iconst 5, 62, 0, 0, (.int 5), [], [])),
  (62, (.ireturn, 63, 0, 0, .null, [], []))]
/-- yX11_settle -/
def zc_185 : List (Nat × zE) := [(0, (.aload_n 0, 1, 0, 0, .null, [], [])),
  (1, (.getfield 304, 4, 11, 29, (.int 0), [], [3407])),
  (4, (.ifCond .le 97, 7, 101, 0, .null, [], [])),
  (7, (.aload_n 0, 8, 0, 0, .null, [], [])),
  (8, (.getfield 51, 11, 11, 27, (.int 3), [], [609])),
  (11, (.aload_n 0, 12, 0, 0, .null, [], [])),
  (12, (.getfield 304, 15, 11, 29, (.int 0), [], [3407])),
  (15, (.iconst 1, 16, 0, 0, (.int 1), [], [])),
  (16, (.isub, 17, 0, 0, .null, [], [])),
  (17, (.iaload, 18, 0, 0, .null, [], [])),
  (18, (.invokestatic 307, 21, 184, 1, .null, [], [3600, 3601, 5, 3602])),
  (21, (.iload_n 1, 22, 1, 0, .null, [], [])),
  (22, (.if_icmp .lt 79, 25, 101, 0, .null, [], [])),
  (25, (.aload_n 0, 26, 0, 0, .null, [], [])),
  (26, (.dup, 27, 0, 0, .null, [], [])),
  (27, (.getfield 304, 30, 11, 29, (.int 0), [], [3407])),
  (30, (.iconst 1, 31, 0, 0, (.int 1), [], [])),
  (31, (.isub, 32, 0, 0, .null, [], [])),
  (32, (.putfield 304, 35, 11, 29, (.int 0), [], [3407])),
  (35, (.aload_n 0, 36, 0, 0, .null, [], [])),
  (36, (.getfield 51, 39, 11, 27, (.int 3), [], [609])),
  (39, (.aload_n 0, 40, 0, 0, .null, [], [])),
  (40, (.getfield 304, 43, 11, 29, (.int 0), [], [3407])),
  (43, (.iaload, 44, 0, 0, .null, [], [])),
  (44, (.bipush 29, 46, 0, 0, (.int 29), [], [])),
  (46, (.if_icmp .eq 17, 49, 63, 0, .null, [], [])),
  (49, (.aload_n 0, 50, 0, 0, .null, [], [])),
  (50, (.getfield 51, 53, 11, 27, (.int 3), [], [609])),
  (53, (.aload_n 0, 54, 0, 0, .null, [], [])),
  (54, (.getfield 304, 57, 11, 29, (.int 0), [], [3407])),
  (57, (.iaload, 58, 0, 0, .null, [], [])),
  (58, (.bipush 30, 60, 0, 0, (.int 30), [], [])),
  (60, (.if_icmp .ne 24, 63, 84, 0, .null, [], [])),
  (63, (.aload_n 0, 64, 0, 0, .null, [], [])),
  (64, (.getfield 48, 67, 11, 25, (.int 3), [], [608])),
  (67, (.aload_n 0, 68, 0, 0, .null, [], [])),
  (68, (.getfield 54, 71, 11, 28, (.int 3), [], [610])),
  (71, (.aload_n 0, 72, 0, 0, .null, [], [])),
  (72, (.getfield 304, 75, 11, 29, (.int 0), [], [3407])),
  (75, (.iaload, 76, 0, 0, .null, [], [])),
  (76, (.aload_n 0, 77, 0, 0, .null, [], [])),
  (77, (.getfield 301, 80, 11, 23, (.int 0), [], [3316])),
  (80, (.iastore, 81, 0, 0, .null, [], [])),
  (81, (.goto (-81), 84, 0, 0, .null, [], [])),
  (84, (.aload_n 0, 85, 0, 0, .null, [], [])),
  (85, (.aload_n 0, 86, 0, 0, .null, [], [])),
  (86, (.getfield 51, 89, 11, 27, (.int 3), [], [609])),
  (89, (.aload_n 0, 90, 0, 0, .null, [], [])),
  (90, (.getfield 304, 93, 11, 29, (.int 0), [], [3407])),
  (93, (.iaload, 94, 0, 0, .null, [], [])),
  (94, (.iconst 0, 95, 0, 0, (.int 0), [], [])),
  (95, (.invokevirtual 310, 98, 182, 2, .null, [], [3516, 3517, 3518, 5, 3519])),
  (98, (.goto (-98), 101, 0, 0, .null, [], [])),
  (101, (.return_, 102, 0, 0, .null, [], []))]
/-- yX11_inner -/
def zc_186 : List (Nat × zE) := [(0, (.iconst (-1), 1, 0, 0, (.int (-1)), [], [])),
  (1, (.istore_n 1, 2, 1, 0, .null, [], [])),
  (2, (.iconst 0, 3, 0, 0, (.int 0), [], [])),
  (3, (.istore_n 2, 4, 2, 0, .null, [], [])),
  (4, (.iload_n 2, 5, 2, 0, .null, [], [])),
  (5, (.aload_n 0, 6, 0, 0, .null, [], [])),
  (6, (.getfield 304, 9, 11, 29, (.int 0), [], [3407])),
  (9, (.if_icmp .ge 31, 12, 40, 0, .null, [], [])),
  (12, (.aload_n 0, 13, 0, 0, .null, [], [])),
  (13, (.getfield 51, 16, 11, 27, (.int 3), [], [609])),
  (16, (.iload_n 2, 17, 2, 0, .null, [], [])),
  (17, (.iaload, 18, 0, 0, .null, [], [])),
  (18, (.bipush 31, 20, 0, 0, (.int 31), [], [])),
  (20, (.if_icmp .lt 12, 23, 32, 0, .null, [], [])),
  (23, (.aload_n 0, 24, 0, 0, .null, [], [])),
  (24, (.getfield 51, 27, 11, 27, (.int 3), [], [609])),
  (27, (.iload_n 2, 28, 2, 0, .null, [], [])),
  (28, (.iaload, 29, 0, 0, .null, [], [])),
  (29, (.goto 4, 32, 33, 0, .null, [], [])),
  (32, (.iload_n 1, 33, 1, 0, .null, [], [])),
  (33, (.istore_n 1, 34, 1, 0, .null, [], [])),
  (34, (.iinc 2 1, 37, 2, 0, (.int 1), [], [])),
  (37, (.goto (-33), 40, 4, 0, .null, [], [])),
  (40, (.iload_n 1, 41, 1, 0, .null, [], [])),
  (41, (.ireturn, 42, 0, 0, .null, [], []))]
/-- yX11_isCompared -/
def zc_187 : List (Nat × zE) := [(0, (.aload_n 0, 1, 0, 0, .null, [], [])),
  (1, (.getfield 304, 4, 11, 29, (.int 0), [], [3407])),
  (4, (.iconst 1, 5, 0, 0, (.int 1), [], [])),
  (5, (.isub, 6, 0, 0, .null, [], [])),
  (6, (.istore_n 1, 7, 1, 0, .null, [], [])),
  (7, (.iload_n 1, 8, 1, 0, .null, [], [])),
  (8, (.ifCond .lt 28, 11, 36, 0, .null, [], [])),
  (11, (.aload_n 0, 12, 0, 0, .null, [], [])),
  (12, (.getfield 51, 15, 11, 27, (.int 3), [], [609])),
  (15, (.iload_n 1, 16, 1, 0, .null, [], [])),
  (16, (.iaload, 17, 0, 0, .null, [], [])),
  (17, (.i2l, 18, 0, 0, .null, [], [])),
  (18, (.ldc2_w 314, 21, 0, 0, (.long 20), [], [3615])),
  (21, (.ldc2_w 316, 24, 0, 0, (.long 24), [], [3616])),
  (24, (.invokestatic 210, 27, 150, 3, .null, [], [1001, 1002, 5, 1003])),
  (27, (.ifCond .eq 9, 30, 36, 0, .null, [], [])),
  (30, (.iinc 1 (-1), 33, 1, 0, (.int (-1)), [], [])),
  (33, (.goto (-26), 36, 7, 0, .null, [], [])),
  (36, (.iload_n 1, 37, 1, 0, .null, [], [])),
  (37, (.ifCond .lt 26, 40, 63, 0, .null, [], [])),
  (40, (.aload_n 0, 41, 0, 0, .null, [], [])),
  (41, (.getfield 51, 44, 11, 27, (.int 3), [], [609])),
  (44, (.iload_n 1, 45, 1, 0, .null, [], [])),
  (45, (.iaload, 46, 0, 0, .null, [], [])),
  (46, (.i2l, 47, 0, 0, .null, [], [])),
  (47, (.ldc2_w 318, 50, 0, 0, (.long 25), [], [3617])),
  (50, (.ldc2_w 320, 53, 0, 0, (.long 27), [], [3618])),
  (53, (.invokestatic 210, 56, 150, 3, .null, [], [1001, 1002, 5, 1003])),
  (56, (.ifCond .eq 7, 59, 63, 0, .null, [], [])),
  (59, (.iconst 1, 60, 0, 0, (.int 1), [], [])),
  (60, (.goto 4, 63, 64, 0, .null, [], [])),
  (63, (.iconst 0, 64, 0, 0, (.int 0), [], [])),
  (64, (.ireturn, 65, 1, 0, .null, [], []))]
/-- yX11_partAt -/
def zc_188 : List (Nat × zE) := [(0, (.iconst (-1), 1, 0, 0, (.int (-1)), [], [])),
  (1, (.istore_n 1, 2, 1, 0, .null, [], [])),
  (2, (.iconst 0, 3, 0, 0, (.int 0), [], [])),
  (3, (.istore_n 2, 4, 2, 0, .null, [], [])),
  (4, (.iload_n 2, 5, 2, 0, .null, [], [])),
  (5, (.bipush 8, 7, 0, 0, (.int 8), [], [])),
  (7, (.if_icmp .ge 30, 10, 37, 0, .null, [], [])),
  (10, (.aload_n 0, 11, 0, 0, .null, [], [])),
  (11, (.aload_n 0, 12, 0, 0, .null, [], [])),
  (12, (.getfield 73, 15, 11, 31, (.int 3), [], [619])),
  (15, (.iload_n 2, 16, 2, 0, .null, [], [])),
  (16, (.laload, 17, 0, 0, .null, [], [])),
  (17, (.invokevirtual 322, 20, 177, 1, .null, [], [2813, 2814, 2815, 5, 2816])),
  (20, (.ifCond .eq 9, 23, 29, 0, .null, [], [])),
  (23, (.iload_n 2, 24, 2, 0, .null, [], [])),
  (24, (.iconst 1, 25, 0, 0, (.int 1), [], [])),
  (25, (.iadd, 26, 0, 0, .null, [], [])),
  (26, (.goto 4, 29, 30, 0, .null, [], [])),
  (29, (.iload_n 1, 30, 1, 0, .null, [], [])),
  (30, (.istore_n 1, 31, 1, 0, .null, [], [])),
  (31, (.iinc 2 1, 34, 2, 0, (.int 1), [], [])),
  (34, (.goto (-30), 37, 4, 0, .null, [], [])),
  (37, (.iload_n 1, 38, 1, 0, .null, [], [])),
  (38, (.ireturn, 39, 0, 0, .null, [], []))]
/-- yX11_orderPartAt -/
def zc_189 : List (Nat × zE) := [(0, (.iconst (-1), 1, 0, 0, (.int (-1)), [], [])),
  (1, (.istore_n 1, 2, 1, 0, .null, [], [])),
  (2, (.iconst 0, 3, 0, 0, (.int 0), [], [])),
  (3, (.istore_n 2, 4, 2, 0, .null, [], [])),
  (4, (.iload_n 2, 5, 2, 0, .null, [], [])),
  (5, (.bipush 6, 7, 0, 0, (.int 6), [], [])),
  (7, (.if_icmp .ge 30, 10, 37, 0, .null, [], [])),
  (10, (.aload_n 0, 11, 0, 0, .null, [], [])),
  (11, (.aload_n 0, 12, 0, 0, .null, [], [])),
  (12, (.getfield 83, 15, 11, 32, (.int 3), [], [623])),
  (15, (.iload_n 2, 16, 2, 0, .null, [], [])),
  (16, (.laload, 17, 0, 0, .null, [], [])),
  (17, (.invokevirtual 322, 20, 177, 1, .null, [], [2813, 2814, 2815, 5, 2816])),
  (20, (.ifCond .eq 9, 23, 29, 0, .null, [], [])),
  (23, (.iload_n 2, 24, 2, 0, .null, [], [])),
  (24, (.iconst 1, 25, 0, 0, (.int 1), [], [])),
  (25, (.iadd, 26, 0, 0, .null, [], [])),
  (26, (.goto 4, 29, 30, 0, .null, [], [])),
  (29, (.iload_n 1, 30, 1, 0, .null, [], [])),
  (30, (.istore_n 1, 31, 1, 0, .null, [], [])),
  (31, (.iinc 2 1, 34, 2, 0, (.int 1), [], [])),
  (34, (.goto (-30), 37, 4, 0, .null, [], [])),
  (37, (.iload_n 1, 38, 1, 0, .null, [], [])),
  (38, (.ireturn, 39, 0, 0, .null, [], []))]
/-- yX11_openBracket -/
def zc_190 : List (Nat × zE) := [(0, (.aload_n 0, 1, 0, 0, .null, [], [])),
  (1, (.aload_n 0, 2, 0, 0, .null, [], [])),
  (2, (.getfield 326, 5, 11, 30, (.int 0), [], [3408])),
  (5, (.bipush 8, 7, 0, 0, (.int 8), [], [])),
  (7, (.if_icmp .ge 7, 10, 14, 0, .null, [], [])),
  (10, (.iconst 1, 11, 0, 0, (.int 1), [], [])),
  (11, (.goto 4, 14, 15, 0, .null, [], [])),
  (14, (.iconst 0, 15, 0, 0, (.int 0), [], [])),
  (15, (.invokevirtual 297, 18, 179, 1, .null, [], [2805, 2806, 2807, 5, 2808])),
  (18, (.aload_n 0, 19, 0, 0, .null, [], [])),
  (19, (.getfield 264, 22, 11, 19, (.int 1), [], [2611])),
  (22, (.ifCond .ne 19, 25, 41, 0, .null, [], [])),
  (25, (.aload_n 0, 26, 0, 0, .null, [], [])),
  (26, (.dup, 27, 0, 0, .null, [], [])),
  (27, (.getfield 326, 30, 11, 30, (.int 0), [], [3408])),
  (30, (.iconst 1, 31, 0, 0, (.int 1), [], [])),
  (31, (.iadd, 32, 0, 0, .null, [], [])),
  (32, (.putfield 326, 35, 11, 30, (.int 0), [], [3408])),
  (35, (.aload_n 0, 36, 0, 0, .null, [], [])),
  (36, (.iload_n 1, 37, 1, 0, .null, [], [])),
  (37, (.iconst 0, 38, 0, 0, (.int 0), [], [])),
  (38, (.invokevirtual 329, 41, 183, 2, .null, [], [3414, 3415, 3416, 5, 3417])),
  (41, (.return_, 42, 0, 0, .null, [], []))]
/-- yX11_leaf -/
def zc_191 : List (Nat × zE) := [(0, (.aload_n 0, 1, 0, 0, .null, [], [])),
  (1, (.iload_n 1, 2, 1, 0, .null, [], [])),
  (2, (.ifCond .eq 16, 5, 18, 0, .null, [], [])),
  (5, (.aload_n 0, 6, 0, 0, .null, [], [])),
  (6, (.getfield 332, 9, 11, 26, (.int 0), [], [3321])),
  (9, (.bipush 50, 11, 0, 0, (.int 50), [], [])),
  (11, (.if_icmp .ge 7, 14, 18, 0, .null, [], [])),
  (14, (.iconst 1, 15, 0, 0, (.int 1), [], [])),
  (15, (.goto 4, 18, 19, 0, .null, [], [])),
  (18, (.iconst 0, 19, 0, 0, (.int 0), [], [])),
  (19, (.invokevirtual 297, 22, 179, 1, .null, [], [2805, 2806, 2807, 5, 2808])),
  (22, (.aload_n 0, 23, 0, 0, .null, [], [])),
  (23, (.getfield 264, 26, 11, 19, (.int 1), [], [2611])),
  (26, (.ifCond .ne 19, 29, 45, 0, .null, [], [])),
  (29, (.aload_n 0, 30, 0, 0, .null, [], [])),
  (30, (.iload_n 2, 31, 2, 0, .null, [], [])),
  (31, (.iload_n 3, 32, 3, 0, .null, [], [])),
  (32, (.invokevirtual 310, 35, 182, 2, .null, [], [3516, 3517, 3518, 5, 3519])),
  (35, (.aload_n 0, 36, 0, 0, .null, [], [])),
  (36, (.dup, 37, 0, 0, .null, [], [])),
  (37, (.getfield 332, 40, 11, 26, (.int 0), [], [3321])),
  (40, (.iconst 1, 41, 0, 0, (.int 1), [], [])),
  (41, (.iadd, 42, 0, 0, .null, [], [])),
  (42, (.putfield 332, 45, 11, 26, (.int 0), [], [3321])),
  (45, (.return_, 46, 0, 0, .null, [], []))]
/-- yX11_readPart -/
def zc_192 : List (Nat × zE) := [(0, (.aload_n 0, 1, 0, 0, .null, [], [])),
  (1, (.bipush 91, 3, 0, 0, (.int 91), [], [])),
  (3, (.invokevirtual 335, 6, 178, 1, .null, [], [2801, 2802, 2803, 5, 2804])),
  (6, (.ifCond .eq 11, 9, 17, 0, .null, [], [])),
  (9, (.aload_n 0, 10, 0, 0, .null, [], [])),
  (10, (.bipush 32, 12, 0, 0, (.int 32), [], [])),
  (12, (.invokevirtual 338, 15, 190, 1, .null, [], [3418, 3419, 3420, 5, 3421])),
  (15, (.iconst 1, 16, 0, 0, (.int 1), [], [])),
  (16, (.ireturn, 17, 0, 0, .null, [], [])),
  (17, (.aload_n 0, 18, 0, 0, .null, [], [])),
  (18, (.getfield 341, 21, 11, 20, (.int 1), [], [1418])),
  (21, (.ifCond .eq 10, 24, 31, 0, .null, [], [])),
  (24, (.aload_n 0, 25, 0, 0, .null, [], [])),
  (25, (.invokevirtual 344, 28, 189, 0, .null, [], [3504, 3505, 3506, 5, 3507])),
  (28, (.goto 7, 31, 35, 0, .null, [], [])),
  (31, (.aload_n 0, 32, 0, 0, .null, [], [])),
  (32, (.invokevirtual 348, 35, 188, 0, .null, [], [3508, 3509, 3510, 5, 3511])),
  (35, (.istore_n 1, 36, 1, 0, .null, [], [])),
  (36, (.aload_n 0, 37, 0, 0, .null, [], [])),
  (37, (.getfield 284, 40, 11, 16, (.int 0), [], [2619])),
  (40, (.iconst 2, 41, 0, 0, (.int 2), [], [])),
  (41, (.if_icmp .ne 18, 44, 59, 0, .null, [], [])),
  (44, (.aload_n 0, 45, 0, 0, .null, [], [])),
  (45, (.getfield 274, 48, 11, 17, (.int 2), [], [2706])),
  (48, (.ldc2_w 351, 51, 0, 0, (.long 1000), [], [3502])),
  (51, (.lcmp, 52, 0, 0, .null, [], [])),
  (52, (.ifCond .gt 7, 55, 59, 0, .null, [], [])),
  (55, (.iconst 1, 56, 0, 0, (.int 1), [], [])),
  (56, (.goto 4, 59, 60, 0, .null, [], [])),
  (59, (.iconst 0, 60, 0, 0, (.int 0), [], [])),
  (60, (.istore_n 2, 61, 2, 0, .null, [], [])),
  (61, (.aload_n 0, 62, 0, 0, .null, [], [])),
  (62, (.iload_n 1, 63, 1, 0, .null, [], [])),
  (63, (.iconst (-1), 64, 0, 0, (.int (-1)), [], [])),
  (64, (.if_icmp .ne 7, 67, 71, 0, .null, [], [])),
  (67, (.iload_n 2, 68, 2, 0, .null, [], [])),
  (68, (.ifCond .eq 7, 71, 75, 0, .null, [], [])),
  (71, (.iconst 1, 72, 0, 0, (.int 1), [], [])),
  (72, (.goto 4, 75, 76, 0, .null, [], [])),
  (75, (.iconst 0, 76, 0, 0, (.int 0), [], [])),
  (76, (.iload_n 1, 77, 1, 0, .null, [], [])),
  (77, (.iconst (-1), 78, 0, 0, (.int (-1)), [], [])),
  (78, (.if_icmp .ne 7, 81, 85, 0, .null, [], [])),
  (81, (.iconst 0, 82, 0, 0, (.int 0), [], [])),
  (82, (.goto 4, 85, 86, 0, .null, [], [])),
  (85, (.iload_n 1, 86, 1, 0, .null, [], [])),
  (86, (.iload_n 2, 87, 2, 0, .null, [], [])),
  (87, (.ifCond .eq 11, 90, 98, 0, .null, [], [])),
  (90, (.aload_n 0, 91, 0, 0, .null, [], [])),
  (91, (.getfield 274, 94, 11, 17, (.int 2), [], [2706])),
  (94, (.l2i, 95, 0, 0, .null, [], [])),
  (95, (.goto 4, 98, 99, 0, .null, [], [])),
  (98, (.iconst 0, 99, 0, 0, (.int 0), [], [])),
  (99, (.invokevirtual 353, 102, 191, 3, .null, [], [3512, 3513, 3514, 5, 3515])),
  (102, (.aload_n 0, 103, 0, 0, .null, [], [])),
  (103, (.getfield 341, 106, 11, 20, (.int 1), [], [1418])),
  (106, (.ifCond .eq 47, 109, 153, 0, .null, [], [])),
  (109, (.iload_n 1, 110, 1, 0, .null, [], [])),
  (110, (.iconst 5, 111, 0, 0, (.int 5), [], [])),
  (111, (.if_icmp .lt 42, 114, 153, 0, .null, [], [])),
  (114, (.aload_n 0, 115, 0, 0, .null, [], [])),
  (115, (.getfield 264, 118, 11, 19, (.int 1), [], [2611])),
  (118, (.ifCond .ne 35, 121, 153, 0, .null, [], [])),
  (121, (.aload_n 0, 122, 0, 0, .null, [], [])),
  (122, (.getfield 301, 125, 11, 23, (.int 0), [], [3316])),
  (125, (.iconst 1, 126, 0, 0, (.int 1), [], [])),
  (126, (.isub, 127, 0, 0, .null, [], [])),
  (127, (.istore_n 3, 128, 3, 0, .null, [], [])),
  (128, (.aload_n 0, 129, 0, 0, .null, [], [])),
  (129, (.getfield 48, 132, 11, 25, (.int 3), [], [608])),
  (132, (.iload_n 3, 133, 3, 0, .null, [], [])),
  (133, (.aload_n 0, 134, 0, 0, .null, [], [])),
  (134, (.lconst 0, 135, 0, 0, (.long 0), [], [])),
  (135, (.iload_n 1, 136, 1, 0, .null, [], [])),
  (136, (.iconst 5, 137, 0, 0, (.int 5), [], [])),
  (137, (.if_icmp .ne 9, 140, 146, 0, .null, [], [])),
  (140, (.ldc2_w 357, 143, 0, 0, (.long 19), [], [3503])),
  (143, (.goto 6, 146, 149, 0, .null, [], [])),
  (146, (.ldc2_w 229, 149, 0, 0, (.long 5), [], [1315])),
  (149, (.invokevirtual 359, 152, 180, 2, .null, [], [2902, 2903, 2904, 5, 2905])),
  (152, (.iastore, 153, 0, 0, .null, [], [])),
  (153, (.iconst 3, 154, 0, 0, (.int 3), [], [])),
  (154, (.ireturn, 155, 0, 0, .null, [], []))]
/-- yX11_readPlain -/
def zc_193 : List (Nat × zE) := [(0, (.aload_n 0, 1, 0, 0, .null, [], [])),
  (1, (.ldc2_w 363, 4, 0, 0, (.long 14836), [], [3413])),
  (4, (.invokevirtual 322, 7, 177, 1, .null, [], [2813, 2814, 2815, 5, 2816])),
  (7, (.ifCond .eq 16, 10, 23, 0, .null, [], [])),
  (10, (.aload_n 0, 11, 0, 0, .null, [], [])),
  (11, (.bipush 28, 13, 0, 0, (.int 28), [], [])),
  (13, (.iconst 0, 14, 0, 0, (.int 0), [], [])),
  (14, (.invokevirtual 329, 17, 183, 2, .null, [], [3414, 3415, 3416, 5, 3417])),
  (17, (.aload_n 0, 18, 0, 0, .null, [], [])),
  (18, (.invokevirtual 268, 21, 176, 0, .null, [], [2701, 2702, 2703, 5, 2704])),
  (21, (.iconst 0, 22, 0, 0, (.int 0), [], [])),
  (22, (.ireturn, 23, 0, 0, .null, [], [])),
  (23, (.aload_n 0, 24, 0, 0, .null, [], [])),
  (24, (.bipush 40, 26, 0, 0, (.int 40), [], [])),
  (26, (.invokevirtual 335, 29, 178, 1, .null, [], [2801, 2802, 2803, 5, 2804])),
  (29, (.ifCond .eq 11, 32, 40, 0, .null, [], [])),
  (32, (.aload_n 0, 33, 0, 0, .null, [], [])),
  (33, (.bipush 31, 35, 0, 0, (.int 31), [], [])),
  (35, (.invokevirtual 338, 38, 190, 1, .null, [], [3418, 3419, 3420, 5, 3421])),
  (38, (.iconst 0, 39, 0, 0, (.int 0), [], [])),
  (39, (.ireturn, 40, 0, 0, .null, [], [])),
  (40, (.aload_n 0, 41, 0, 0, .null, [], [])),
  (41, (.invokevirtual 365, 44, 192, 0, .null, [], [3422, 3423, 3500, 5, 3501])),
  (44, (.ireturn, 45, 0, 0, .null, [], []))]
def zc_194_0 : List (Nat × zE) := [(0, (.aload_n 0, 1, 0, 0, .null, [], [])),
  (1, (.bipush 43, 3, 0, 0, (.int 43), [], [])),
  (3, (.invokevirtual 335, 6, 178, 1, .null, [], [2801, 2802, 2803, 5, 2804])),
  (6, (.ifCond .eq 8, 9, 14, 0, .null, [], [])),
  (9, (.bipush 20, 11, 0, 0, (.int 20), [], [])),
  (11, (.goto 60, 14, 71, 0, .null, [], [])),
  (14, (.aload_n 0, 15, 0, 0, .null, [], [])),
  (15, (.bipush 45, 17, 0, 0, (.int 45), [], [])),
  (17, (.invokevirtual 335, 20, 178, 1, .null, [], [2801, 2802, 2803, 5, 2804])),
  (20, (.ifCond .eq 8, 23, 28, 0, .null, [], [])),
  (23, (.bipush 21, 25, 0, 0, (.int 21), [], [])),
  (25, (.goto 46, 28, 71, 0, .null, [], [])),
  (28, (.aload_n 0, 29, 0, 0, .null, [], [])),
  (29, (.bipush 42, 31, 0, 0, (.int 42), [], [])),
  (31, (.invokevirtual 335, 34, 178, 1, .null, [], [2801, 2802, 2803, 5, 2804])),
  (34, (.ifCond .eq 8, 37, 42, 0, .null, [], [])),
  (37, (.bipush 22, 39, 0, 0, (.int 22), [], [])),
  (39, (.goto 32, 42, 71, 0, .null, [], [])),
  (42, (.aload_n 0, 43, 0, 0, .null, [], [])),
  (43, (.bipush 47, 45, 0, 0, (.int 47), [], [])),
  (45, (.invokevirtual 335, 48, 178, 1, .null, [], [2801, 2802, 2803, 5, 2804])),
  (48, (.ifCond .eq 8, 51, 56, 0, .null, [], [])),
  (51, (.bipush 23, 53, 0, 0, (.int 23), [], [])),
  (53, (.goto 18, 56, 71, 0, .null, [], [])),
  (56, (.aload_n 0, 57, 0, 0, .null, [], [])),
  (57, (.bipush 37, 59, 0, 0, (.int 37), [], [])),
  (59, (.invokevirtual 335, 62, 178, 1, .null, [], [2801, 2802, 2803, 5, 2804])),
  (62, (.ifCond .eq 8, 65, 70, 0, .null, [], [])),
  (65, (.bipush 24, 67, 0, 0, (.int 24), [], [])),
  (67, (.goto 4, 70, 71, 0, .null, [], [])),
  (70, (.iconst (-1), 71, 0, 0, (.int (-1)), [], [])),
  (71, (.istore_n 2, 72, 2, 0, .null, [], [])),
  (72, (.iload_n 2, 73, 2, 0, .null, [], [])),
  (73, (.iconst (-1), 74, 0, 0, (.int (-1)), [], [])),
  (74, (.if_icmp .eq 23, 77, 97, 0, .null, [], [])),
  (77, (.aload_n 0, 78, 0, 0, .null, [], [])),
  (78, (.iload_n 2, 79, 2, 0, .null, [], [])),
  (79, (.invokestatic 307, 82, 184, 1, .null, [], [3600, 3601, 5, 3602])),
  (82, (.invokevirtual 368, 85, 185, 1, .null, [], [3603, 3604, 3605, 5, 3606])),
  (85, (.aload_n 0, 86, 0, 0, .null, [], [])),
  (86, (.iload_n 2, 87, 2, 0, .null, [], [])),
  (87, (.iconst 0, 88, 0, 0, (.int 0), [], [])),
  (88, (.invokevirtual 329, 91, 183, 2, .null, [], [3414, 3415, 3416, 5, 3417])),
  (91, (.aload_n 0, 92, 0, 0, .null, [], [])),
  (92, (.invokevirtual 268, 95, 176, 0, .null, [], [2701, 2702, 2703, 5, 2704])),
  (95, (.iconst 1, 96, 0, 0, (.int 1), [], [])),
  (96, (.ireturn, 97, 0, 0, .null, [], [])),
  (97, (.aload_n 0, 98, 0, 0, .null, [], [])),
  (98, (.invokevirtual 371, 101, 186, 0, .null, [], [3607, 3608, 3609, 5, 3610])),
  (101, (.istore_n 3, 102, 3, 0, .null, [], [])),
  (102, (.iload_n 3, 103, 3, 0, .null, [], [])),
  (103, (.bipush 32, 105, 0, 0, (.int 32), [], [])),
  (105, (.if_icmp .ne 47, 108, 152, 0, .null, [], [])),
  (108, (.aload_n 0, 109, 0, 0, .null, [], [])),
  (109, (.aload_n 0, 110, 0, 0, .null, [], [])),
  (110, (.bipush 93, 112, 0, 0, (.int 93), [], [])),
  (112, (.invokevirtual 335, 115, 178, 1, .null, [], [2801, 2802, 2803, 5, 2804])),
  (115, (.invokevirtual 297, 118, 179, 1, .null, [], [2805, 2806, 2807, 5, 2808])),
  (118, (.aload_n 0, 119, 0, 0, .null, [], [])),
  (119, (.getfield 264, 122, 11, 19, (.int 1), [], [2611])),
  (122, (.ifCond .ne 28, 125, 150, 0, .null, [], [])),
  (125, (.aload_n 0, 126, 0, 0, .null, [], [])),
  (126, (.iconst 5, 127, 0, 0, (.int 5), [], [])),
  (127, (.invokevirtual 368, 130, 185, 1, .null, [], [3603, 3604, 3605, 5, 3606])),
  (130, (.aload_n 0, 131, 0, 0, .null, [], [])),
  (131, (.dup, 132, 0, 0, .null, [], [])),
  (132, (.getfield 304, 135, 11, 29, (.int 0), [], [3407])),
  (135, (.iconst 1, 136, 0, 0, (.int 1), [], [])),
  (136, (.isub, 137, 0, 0, .null, [], [])),
  (137, (.putfield 304, 140, 11, 29, (.int 0), [], [3407])),
  (140, (.aload_n 0, 141, 0, 0, .null, [], [])),
  (141, (.dup, 142, 0, 0, .null, [], [])),
  (142, (.getfield 326, 145, 11, 30, (.int 0), [], [3408])),
  (145, (.iconst 1, 146, 0, 0, (.int 1), [], [])),
  (146, (.isub, 147, 0, 0, .null, [], [])),
  (147, (.putfield 326, 150, 11, 30, (.int 0), [], [3408])),
  (150, (.iconst 3, 151, 0, 0, (.int 3), [], [])),
  (151, (.ireturn, 152, 0, 0, .null, [], [])),
  (152, (.iload_n 3, 153, 3, 0, .null, [], [])),
  (153, (.iconst (-1), 154, 0, 0, (.int (-1)), [], [])),
  (154, (.if_icmp .ne 9, 157, 163, 0, .null, [], [])),
  (157, (.iload_n 1, 158, 1, 0, .null, [], [])),
  (158, (.ifCond .ne 5, 161, 163, 0, .null, [], [])),
  (161, (.iconst 4, 162, 0, 0, (.int 4), [], [])),
  (162, (.ireturn, 163, 0, 0, .null, [], [])),
  (163, (.aload_n 0, 164, 0, 0, .null, [], [])),
  (164, (.invokevirtual 374, 167, 187, 0, .null, [], [3611, 3612, 3613, 5, 3614])),
  (167, (.ifCond .eq 5, 170, 172, 0, .null, [], [])),
  (170, (.iconst 2, 171, 0, 0, (.int 2), [], [])),
  (171, (.ireturn, 172, 0, 0, .null, [], [])),
  (172, (.aload_n 0, 173, 0, 0, .null, [], [])),
  (173, (.bipush 60, 175, 0, 0, (.int 60), [], [])),
  (175, (.invokevirtual 335, 178, 178, 1, .null, [], [2801, 2802, 2803, 5, 2804])),
  (178, (.ifCond .eq 8, 181, 186, 0, .null, [], [])),
  (181, (.bipush 25, 183, 0, 0, (.int 25), [], [])),
  (183, (.goto 19, 186, 202, 0, .null, [], [])),
  (186, (.aload_n 0, 187, 0, 0, .null, [], [])),
  (187, (.bipush 62, 189, 0, 0, (.int 62), [], [])),
  (189, (.invokevirtual 335, 192, 178, 1, .null, [], [2801, 2802, 2803, 5, 2804])),
  (192, (.ifCond .eq 8, 195, 200, 0, .null, [], [])),
  (195, (.bipush 26, 197, 0, 0, (.int 26), [], [])),
  (197, (.goto 5, 200, 202, 0, .null, [], [])),
  (200, (.bipush 27, 202, 0, 0, (.int 27), [], [])),
  (202, (.istore_n 2, 203, 2, 0, .null, [], [])),
  (203, (.aload_n 0, 204, 0, 0, .null, [], [])),
  (204, (.iload_n 2, 205, 2, 0, .null, [], [])),
  (205, (.bipush 27, 207, 0, 0, (.int 27), [], [])),
  (207, (.if_icmp .ne 12, 210, 219, 0, .null, [], [])),
  (210, (.aload_n 0, 211, 0, 0, .null, [], [])),
  (211, (.bipush 61, 213, 0, 0, (.int 61), [], [])),
  (213, (.invokevirtual 335, 216, 178, 1, .null, [], [2801, 2802, 2803, 5, 2804])),
  (216, (.ifCond .eq 7, 219, 223, 0, .null, [], [])),
  (219, (.iconst 1, 220, 0, 0, (.int 1), [], [])),
  (220, (.goto 4, 223, 224, 0, .null, [], [])),
  (223, (.iconst 0, 224, 0, 0, (.int 0), [], [])),
  (224, (.invokevirtual 297, 227, 179, 1, .null, [], [2805, 2806, 2807, 5, 2808])),
  (227, (.aload_n 0, 228, 0, 0, .null, [], [])),
  (228, (.getfield 264, 231, 11, 19, (.int 1), [], [2611])),
  (231, (.ifCond .ne 14, 234, 245, 0, .null, [], [])),
  (234, (.aload_n 0, 235, 0, 0, .null, [], []))]
def zc_194_1 : List (Nat × zE) := [(235, (.iconst 5, 236, 0, 0, (.int 5), [], [])),
  (236, (.invokevirtual 368, 239, 185, 1, .null, [], [3603, 3604, 3605, 5, 3606])),
  (239, (.aload_n 0, 240, 0, 0, .null, [], [])),
  (240, (.iload_n 2, 241, 2, 0, .null, [], [])),
  (241, (.iconst 0, 242, 0, 0, (.int 0), [], [])),
  (242, (.invokevirtual 329, 245, 183, 2, .null, [], [3414, 3415, 3416, 5, 3417])),
  (245, (.iconst 1, 246, 0, 0, (.int 1), [], [])),
  (246, (.ireturn, 247, 0, 0, .null, [], []))]
/-- yX11_behindSum -/
def zc_194 : List (Nat × zE) := zc_194_0 ++ zc_194_1
/-- yX11_behindTest -/
def zc_195 : List (Nat × zE) := [(0, (.aload_n 0, 1, 0, 0, .null, [], [])),
  (1, (.ldc2_w 378, 4, 0, 0, (.long 1476), [], [3623])),
  (4, (.invokevirtual 322, 7, 177, 1, .null, [], [2813, 2814, 2815, 5, 2816])),
  (7, (.istore_n 1, 8, 1, 0, .null, [], [])),
  (8, (.iload_n 1, 9, 1, 0, .null, [], [])),
  (9, (.ifCond .ne 13, 12, 22, 0, .null, [], [])),
  (12, (.aload_n 0, 13, 0, 0, .null, [], [])),
  (13, (.ldc2_w 380, 16, 0, 0, (.long 498), [], [2618])),
  (16, (.invokevirtual 322, 19, 177, 1, .null, [], [2813, 2814, 2815, 5, 2816])),
  (19, (.ifCond .eq 57, 22, 76, 0, .null, [], [])),
  (22, (.aload_n 0, 23, 0, 0, .null, [], [])),
  (23, (.iload_n 1, 24, 1, 0, .null, [], [])),
  (24, (.ifCond .eq 7, 27, 31, 0, .null, [], [])),
  (27, (.iconst 2, 28, 0, 0, (.int 2), [], [])),
  (28, (.goto 4, 31, 32, 0, .null, [], [])),
  (31, (.iconst 1, 32, 0, 0, (.int 1), [], [])),
  (32, (.invokevirtual 368, 35, 185, 1, .null, [], [3603, 3604, 3605, 5, 3606])),
  (35, (.aload_n 0, 36, 0, 0, .null, [], [])),
  (36, (.iload_n 1, 37, 1, 0, .null, [], [])),
  (37, (.ifCond .eq 8, 40, 45, 0, .null, [], [])),
  (40, (.bipush 29, 42, 0, 0, (.int 29), [], [])),
  (42, (.goto 5, 45, 47, 0, .null, [], [])),
  (45, (.bipush 30, 47, 0, 0, (.int 30), [], [])),
  (47, (.aload_n 0, 48, 0, 0, .null, [], [])),
  (48, (.getfield 301, 51, 11, 23, (.int 0), [], [3316])),
  (51, (.invokevirtual 329, 54, 183, 2, .null, [], [3414, 3415, 3416, 5, 3417])),
  (54, (.aload_n 0, 55, 0, 0, .null, [], [])),
  (55, (.iload_n 1, 56, 1, 0, .null, [], [])),
  (56, (.ifCond .eq 8, 59, 64, 0, .null, [], [])),
  (59, (.bipush 29, 61, 0, 0, (.int 29), [], [])),
  (61, (.goto 5, 64, 66, 0, .null, [], [])),
  (64, (.bipush 30, 66, 0, 0, (.int 30), [], [])),
  (66, (.iconst 0, 67, 0, 0, (.int 0), [], [])),
  (67, (.invokevirtual 310, 70, 182, 2, .null, [], [3516, 3517, 3518, 5, 3519])),
  (70, (.aload_n 0, 71, 0, 0, .null, [], [])),
  (71, (.invokevirtual 268, 74, 176, 0, .null, [], [2701, 2702, 2703, 5, 2704])),
  (74, (.iconst 0, 75, 0, 0, (.int 0), [], [])),
  (75, (.ireturn, 76, 0, 0, .null, [], [])),
  (76, (.aload_n 0, 77, 0, 0, .null, [], [])),
  (77, (.invokevirtual 371, 80, 186, 0, .null, [], [3607, 3608, 3609, 5, 3610])),
  (80, (.iconst (-1), 81, 0, 0, (.int (-1)), [], [])),
  (81, (.if_icmp .ne 5, 84, 86, 0, .null, [], [])),
  (84, (.iconst 4, 85, 0, 0, (.int 4), [], [])),
  (85, (.ireturn, 86, 0, 0, .null, [], [])),
  (86, (.aload_n 0, 87, 0, 0, .null, [], [])),
  (87, (.aload_n 0, 88, 0, 0, .null, [], [])),
  (88, (.bipush 41, 90, 0, 0, (.int 41), [], [])),
  (90, (.invokevirtual 335, 93, 178, 1, .null, [], [2801, 2802, 2803, 5, 2804])),
  (93, (.invokevirtual 297, 96, 179, 1, .null, [], [2805, 2806, 2807, 5, 2808])),
  (96, (.aload_n 0, 97, 0, 0, .null, [], [])),
  (97, (.getfield 264, 100, 11, 19, (.int 1), [], [2611])),
  (100, (.ifCond .ne 28, 103, 128, 0, .null, [], [])),
  (103, (.aload_n 0, 104, 0, 0, .null, [], [])),
  (104, (.iconst 1, 105, 0, 0, (.int 1), [], [])),
  (105, (.invokevirtual 368, 108, 185, 1, .null, [], [3603, 3604, 3605, 5, 3606])),
  (108, (.aload_n 0, 109, 0, 0, .null, [], [])),
  (109, (.dup, 110, 0, 0, .null, [], [])),
  (110, (.getfield 304, 113, 11, 29, (.int 0), [], [3407])),
  (113, (.iconst 1, 114, 0, 0, (.int 1), [], [])),
  (114, (.isub, 115, 0, 0, .null, [], [])),
  (115, (.putfield 304, 118, 11, 29, (.int 0), [], [3407])),
  (118, (.aload_n 0, 119, 0, 0, .null, [], [])),
  (119, (.dup, 120, 0, 0, .null, [], [])),
  (120, (.getfield 326, 123, 11, 30, (.int 0), [], [3408])),
  (123, (.iconst 1, 124, 0, 0, (.int 1), [], [])),
  (124, (.isub, 125, 0, 0, .null, [], [])),
  (125, (.putfield 326, 128, 11, 30, (.int 0), [], [3408])),
  (128, (.iconst 2, 129, 0, 0, (.int 2), [], [])),
  (129, (.ireturn, 130, 0, 0, .null, [], []))]
/-- yX11_readExpression -/
def zc_196 : List (Nat × zE) := [(0, (.aload_n 0, 1, 0, 0, .null, [], [])),
  (1, (.iconst 0, 2, 0, 0, (.int 0), [], [])),
  (2, (.putfield 304, 5, 11, 29, (.int 0), [], [3407])),
  (5, (.aload_n 0, 6, 0, 0, .null, [], [])),
  (6, (.iconst 0, 7, 0, 0, (.int 0), [], [])),
  (7, (.putfield 326, 10, 11, 30, (.int 0), [], [3408])),
  (10, (.iload_n 1, 11, 1, 0, .null, [], [])),
  (11, (.ifCond .eq 7, 14, 18, 0, .null, [], [])),
  (14, (.iconst 0, 15, 0, 0, (.int 0), [], [])),
  (15, (.goto 4, 18, 19, 0, .null, [], [])),
  (18, (.iconst 1, 19, 0, 0, (.int 1), [], [])),
  (19, (.istore_n 2, 20, 2, 0, .null, [], [])),
  (20, (.aload_n 0, 21, 0, 0, .null, [], [])),
  (21, (.getfield 264, 24, 11, 19, (.int 1), [], [2611])),
  (24, (.ifCond .ne 52, 27, 76, 0, .null, [], [])),
  (27, (.iload_n 2, 28, 2, 0, .null, [], [])),
  (28, (.iconst 4, 29, 0, 0, (.int 4), [], [])),
  (29, (.if_icmp .eq 47, 32, 76, 0, .null, [], [])),
  (32, (.iload_n 2, 33, 2, 0, .null, [], [])),
  (33, (.ifCond .ne 10, 36, 43, 0, .null, [], [])),
  (36, (.aload_n 0, 37, 0, 0, .null, [], [])),
  (37, (.invokevirtual 382, 40, 193, 0, .null, [], [3409, 3410, 3411, 5, 3412])),
  (40, (.goto 32, 43, 72, 0, .null, [], [])),
  (43, (.iload_n 2, 44, 2, 0, .null, [], [])),
  (44, (.iconst 1, 45, 0, 0, (.int 1), [], [])),
  (45, (.if_icmp .ne 10, 48, 55, 0, .null, [], [])),
  (48, (.aload_n 0, 49, 0, 0, .null, [], [])),
  (49, (.invokevirtual 365, 52, 192, 0, .null, [], [3422, 3423, 3500, 5, 3501])),
  (52, (.goto 20, 55, 72, 0, .null, [], [])),
  (55, (.iload_n 2, 56, 2, 0, .null, [], [])),
  (56, (.iconst 3, 57, 0, 0, (.int 3), [], [])),
  (57, (.if_icmp .ne 11, 60, 68, 0, .null, [], [])),
  (60, (.aload_n 0, 61, 0, 0, .null, [], [])),
  (61, (.iload_n 1, 62, 1, 0, .null, [], [])),
  (62, (.invokevirtual 385, 65, 194, 1, .null, [], [3520, 3521, 3522, 5, 3523])),
  (65, (.goto 7, 68, 72, 0, .null, [], [])),
  (68, (.aload_n 0, 69, 0, 0, .null, [], [])),
  (69, (.invokevirtual 389, 72, 195, 0, .null, [], [3619, 3620, 3621, 5, 3622])),
  (72, (.istore_n 2, 73, 2, 0, .null, [], [])),
  (73, (.goto (-53), 76, 20, 0, .null, [], [])),
  (76, (.aload_n 0, 77, 0, 0, .null, [], [])),
  (77, (.iconst 1, 78, 0, 0, (.int 1), [], [])),
  (78, (.invokevirtual 368, 81, 185, 1, .null, [], [3603, 3604, 3605, 5, 3606])),
  (81, (.return_, 82, 0, 0, .null, [], []))]
/-- yX11_beginText -/
def zc_197 : List (Nat × zE) := [(0, (.aload_n 0, 1, 0, 0, .null, [], [])),
  (1, (.iload_n 1, 2, 1, 0, .null, [], [])),
  (2, (.putfield 341, 5, 11, 20, (.int 1), [], [1418])),
  (5, (.aload_n 0, 6, 0, 0, .null, [], [])),
  (6, (.invokevirtual 392, 9, 175, 0, .null, [], [2620, 2621, 2622, 5, 2623])),
  (9, (.aload_n 0, 10, 0, 0, .null, [], [])),
  (10, (.iconst 0, 11, 0, 0, (.int 0), [], [])),
  (11, (.putfield 395, 14, 11, 21, (.int 0), [], [3315])),
  (14, (.aload_n 0, 15, 0, 0, .null, [], [])),
  (15, (.iconst 0, 16, 0, 0, (.int 0), [], [])),
  (16, (.putfield 301, 19, 11, 23, (.int 0), [], [3316])),
  (19, (.aload_n 0, 20, 0, 0, .null, [], [])),
  (20, (.iconst 0, 21, 0, 0, (.int 0), [], [])),
  (21, (.putfield 332, 24, 11, 26, (.int 0), [], [3321])),
  (24, (.return_, 25, 0, 0, .null, [], []))]
/-- yX11_endText -/
def zc_198 : List (Nat × zE) := [(0, (.aload_n 0, 1, 0, 0, .null, [], [])),
  (1, (.getfield 264, 4, 11, 19, (.int 1), [], [2611])),
  (4, (.ifCond .ne 15, 7, 19, 0, .null, [], [])),
  (7, (.aload_n 0, 8, 0, 0, .null, [], [])),
  (8, (.getfield 284, 11, 11, 16, (.int 0), [], [2619])),
  (11, (.ifCond .eq 8, 14, 19, 0, .null, [], [])),
  (14, (.aload_n 0, 15, 0, 0, .null, [], [])),
  (15, (.iconst 0, 16, 0, 0, (.int 0), [], [])),
  (16, (.invokevirtual 297, 19, 179, 1, .null, [], [2805, 2806, 2807, 5, 2808])),
  (19, (.aload_n 0, 20, 0, 0, .null, [], [])),
  (20, (.iconst 0, 21, 0, 0, (.int 0), [], [])),
  (21, (.putfield 341, 24, 11, 20, (.int 1), [], [1418])),
  (24, (.aload_n 0, 25, 0, 0, .null, [], [])),
  (25, (.iconst 0, 26, 0, 0, (.int 0), [], [])),
  (26, (.putfield 252, 29, 11, 13, (.int 0), [], [1705])),
  (29, (.return_, 30, 0, 0, .null, [], []))]
/-- yX11_readLaw -/
def zc_199 : List (Nat × zE) := [(0, (.iconst (-1), 1, 0, 0, (.int (-1)), [], [])),
  (1, (.istore_n 1, 2, 1, 0, .null, [], [])),
  (2, (.iconst 0, 3, 0, 0, (.int 0), [], [])),
  (3, (.istore_n 2, 4, 2, 0, .null, [], [])),
  (4, (.iload_n 2, 5, 2, 0, .null, [], [])),
  (5, (.iconst 3, 6, 0, 0, (.int 3), [], [])),
  (6, (.if_icmp .ge 28, 9, 34, 0, .null, [], [])),
  (9, (.aload_n 0, 10, 0, 0, .null, [], [])),
  (10, (.aload_n 0, 11, 0, 0, .null, [], [])),
  (11, (.getfield 92, 14, 11, 33, (.int 3), [], [703])),
  (14, (.iload_n 2, 15, 2, 0, .null, [], [])),
  (15, (.laload, 16, 0, 0, .null, [], [])),
  (16, (.invokevirtual 322, 19, 177, 1, .null, [], [2813, 2814, 2815, 5, 2816])),
  (19, (.ifCond .eq 7, 22, 26, 0, .null, [], [])),
  (22, (.iload_n 2, 23, 2, 0, .null, [], [])),
  (23, (.goto 4, 26, 27, 0, .null, [], [])),
  (26, (.iload_n 1, 27, 1, 0, .null, [], [])),
  (27, (.istore_n 1, 28, 1, 0, .null, [], [])),
  (28, (.iinc 2 1, 31, 2, 0, (.int 1), [], [])),
  (31, (.goto (-27), 34, 4, 0, .null, [], [])),
  (34, (.aload_n 0, 35, 0, 0, .null, [], [])),
  (35, (.iload_n 1, 36, 1, 0, .null, [], [])),
  (36, (.iconst (-1), 37, 0, 0, (.int (-1)), [], [])),
  (37, (.if_icmp .eq 16, 40, 53, 0, .null, [], [])),
  (40, (.aload_n 0, 41, 0, 0, .null, [], [])),
  (41, (.getfield 395, 44, 11, 21, (.int 0), [], [3315])),
  (44, (.bipush 12, 46, 0, 0, (.int 12), [], [])),
  (46, (.if_icmp .ge 7, 49, 53, 0, .null, [], [])),
  (49, (.iconst 1, 50, 0, 0, (.int 1), [], [])),
  (50, (.goto 4, 53, 54, 0, .null, [], [])),
  (53, (.iconst 0, 54, 0, 0, (.int 0), [], [])),
  (54, (.invokevirtual 297, 57, 179, 1, .null, [], [2805, 2806, 2807, 5, 2808])),
  (57, (.aload_n 0, 58, 0, 0, .null, [], [])),
  (58, (.getfield 264, 61, 11, 19, (.int 1), [], [2611])),
  (61, (.ifCond .eq 4, 64, 65, 0, .null, [], [])),
  (64, (.return_, 65, 0, 0, .null, [], [])),
  (65, (.bipush 8, 67, 0, 0, (.int 8), [], [])),
  (67, (.aload_n 0, 68, 0, 0, .null, [], [])),
  (68, (.getfield 395, 71, 11, 21, (.int 0), [], [3315])),
  (71, (.imul, 72, 0, 0, .null, [], [])),
  (72, (.istore_n 2, 73, 2, 0, .null, [], [])),
  (73, (.iconst 0, 74, 0, 0, (.int 0), [], [])),
  (74, (.istore_n 3, 75, 3, 0, .null, [], [])),
  (75, (.iload_n 3, 76, 3, 0, .null, [], [])),
  (76, (.bipush 8, 78, 0, 0, (.int 8), [], [])),
  (78, (.if_icmp .ge 18, 81, 96, 0, .null, [], [])),
  (81, (.aload_n 0, 82, 0, 0, .null, [], [])),
  (82, (.getfield 42, 85, 11, 22, (.int 3), [], [606])),
  (85, (.iload_n 2, 86, 2, 0, .null, [], [])),
  (86, (.iload_n 3, 87, 3, 0, .null, [], [])),
  (87, (.iadd, 88, 0, 0, .null, [], [])),
  (88, (.iconst 0, 89, 0, 0, (.int 0), [], [])),
  (89, (.iastore, 90, 0, 0, .null, [], [])),
  (90, (.iinc 3 1, 93, 3, 0, (.int 1), [], [])),
  (93, (.goto (-18), 96, 75, 0, .null, [], [])),
  (96, (.aload_n 0, 97, 0, 0, .null, [], [])),
  (97, (.getfield 42, 100, 11, 22, (.int 3), [], [606])),
  (100, (.iload_n 2, 101, 2, 0, .null, [], [])),
  (101, (.iload_n 1, 102, 1, 0, .null, [], [])),
  (102, (.iastore, 103, 0, 0, .null, [], [])),
  (103, (.aload_n 0, 104, 0, 0, .null, [], [])),
  (104, (.dup, 105, 0, 0, .null, [], [])),
  (105, (.getfield 395, 108, 11, 21, (.int 0), [], [3315])),
  (108, (.iconst 1, 109, 0, 0, (.int 1), [], [])),
  (109, (.iadd, 110, 0, 0, .null, [], [])),
  (110, (.putfield 395, 113, 11, 21, (.int 0), [], [3315])),
  (113, (.aload_n 0, 114, 0, 0, .null, [], [])),
  (114, (.getfield 42, 117, 11, 22, (.int 3), [], [606])),
  (117, (.iload_n 2, 118, 2, 0, .null, [], [])),
  (118, (.iconst 3, 119, 0, 0, (.int 3), [], [])),
  (119, (.iadd, 120, 0, 0, .null, [], [])),
  (120, (.aload_n 0, 121, 0, 0, .null, [], [])),
  (121, (.getfield 301, 124, 11, 23, (.int 0), [], [3316])),
  (124, (.iastore, 125, 0, 0, .null, [], [])),
  (125, (.iload_n 1, 126, 1, 0, .null, [], [])),
  (126, (.ifCond .ne 8, 129, 134, 0, .null, [], [])),
  (129, (.aload_n 0, 130, 0, 0, .null, [], [])),
  (130, (.iconst 0, 131, 0, 0, (.int 0), [], [])),
  (131, (.invokevirtual 398, 134, 196, 1, .null, [], [3403, 3404, 3405, 5, 3406])),
  (134, (.aload_n 0, 135, 0, 0, .null, [], [])),
  (135, (.getfield 42, 138, 11, 22, (.int 3), [], [606])),
  (138, (.iload_n 2, 139, 2, 0, .null, [], [])),
  (139, (.iconst 4, 140, 0, 0, (.int 4), [], [])),
  (140, (.iadd, 141, 0, 0, .null, [], [])),
  (141, (.aload_n 0, 142, 0, 0, .null, [], [])),
  (142, (.getfield 301, 145, 11, 23, (.int 0), [], [3316])),
  (145, (.iastore, 146, 0, 0, .null, [], [])),
  (146, (.aload_n 0, 147, 0, 0, .null, [], [])),
  (147, (.getfield 42, 150, 11, 22, (.int 3), [], [606])),
  (150, (.iload_n 2, 151, 2, 0, .null, [], [])),
  (151, (.iconst 5, 152, 0, 0, (.int 5), [], [])),
  (152, (.iadd, 153, 0, 0, .null, [], [])),
  (153, (.aload_n 0, 154, 0, 0, .null, [], [])),
  (154, (.getfield 301, 157, 11, 23, (.int 0), [], [3316])),
  (157, (.iastore, 158, 0, 0, .null, [], [])),
  (158, (.aload_n 0, 159, 0, 0, .null, [], [])),
  (159, (.getfield 264, 162, 11, 19, (.int 1), [], [2611])),
  (162, (.ifCond .ne 22, 165, 184, 0, .null, [], [])),
  (165, (.aload_n 0, 166, 0, 0, .null, [], [])),
  (166, (.ldc2_w 401, 169, 0, 0, (.long 294), [], [3402])),
  (169, (.invokevirtual 322, 172, 177, 1, .null, [], [2813, 2814, 2815, 5, 2816])),
  (172, (.ifCond .eq 12, 175, 184, 0, .null, [], [])),
  (175, (.aload_n 0, 176, 0, 0, .null, [], [])),
  (176, (.invokevirtual 268, 179, 176, 0, .null, [], [2701, 2702, 2703, 5, 2704])),
  (179, (.aload_n 0, 180, 0, 0, .null, [], [])),
  (180, (.iconst 1, 181, 0, 0, (.int 1), [], [])),
  (181, (.invokevirtual 398, 184, 196, 1, .null, [], [3403, 3404, 3405, 5, 3406])),
  (184, (.aload_n 0, 185, 0, 0, .null, [], [])),
  (185, (.getfield 42, 188, 11, 22, (.int 3), [], [606])),
  (188, (.iload_n 2, 189, 2, 0, .null, [], [])),
  (189, (.bipush 6, 191, 0, 0, (.int 6), [], [])),
  (191, (.iadd, 192, 0, 0, .null, [], [])),
  (192, (.aload_n 0, 193, 0, 0, .null, [], [])),
  (193, (.getfield 301, 196, 11, 23, (.int 0), [], [3316])),
  (196, (.iastore, 197, 0, 0, .null, [], [])),
  (197, (.return_, 198, 0, 0, .null, [], []))]
def zc_200_0 : List (Nat × zE) := [(0, (.aload_n 0, 1, 0, 0, .null, [], [])),
  (1, (.iconst 0, 2, 0, 0, (.int 0), [], [])),
  (2, (.putfield 190, 5, 11, 0, (.int 0), [], [919])),
  (5, (.aload_n 0, 6, 0, 0, .null, [], [])),
  (6, (.getfield 13, 9, 11, 3, (.int 3), [], [520])),
  (9, (.iconst 3, 10, 0, 0, (.int 3), [], [])),
  (10, (.iaload, 11, 0, 0, .null, [], [])),
  (11, (.bipush 6, 13, 0, 0, (.int 6), [], [])),
  (13, (.if_icmp .ne 15, 16, 28, 0, .null, [], [])),
  (16, (.aload_n 0, 17, 0, 0, .null, [], [])),
  (17, (.iconst 0, 18, 0, 0, (.int 0), [], [])),
  (18, (.putfield 252, 21, 11, 13, (.int 0), [], [1705])),
  (21, (.aload_n 0, 22, 0, 0, .null, [], [])),
  (22, (.bipush (-5), 24, 0, 0, (.int (-5)), [], [])),
  (24, (.invokevirtual 199, 27, 153, 1, .null, [], [1009, 1010, 1011, 5, 1012])),
  (27, (.ireturn, 28, 0, 0, .null, [], [])),
  (28, (.aload_n 0, 29, 0, 0, .null, [], [])),
  (29, (.iconst 0, 30, 0, 0, (.int 0), [], [])),
  (30, (.invokevirtual 403, 33, 197, 1, .null, [], [3317, 3318, 3319, 5, 3320])),
  (33, (.aload_n 0, 34, 0, 0, .null, [], [])),
  (34, (.invokevirtual 406, 37, 199, 0, .null, [], [3322, 3323, 3400, 5, 3401])),
  (37, (.aload_n 0, 38, 0, 0, .null, [], [])),
  (38, (.getfield 264, 41, 11, 19, (.int 1), [], [2611])),
  (41, (.ifCond .ne 23, 44, 64, 0, .null, [], [])),
  (44, (.aload_n 0, 45, 0, 0, .null, [], [])),
  (45, (.bipush 59, 47, 0, 0, (.int 59), [], [])),
  (47, (.invokevirtual 335, 50, 178, 1, .null, [], [2801, 2802, 2803, 5, 2804])),
  (50, (.ifCond .eq 14, 53, 64, 0, .null, [], [])),
  (53, (.aload_n 0, 54, 0, 0, .null, [], [])),
  (54, (.invokevirtual 268, 57, 176, 0, .null, [], [2701, 2702, 2703, 5, 2704])),
  (57, (.aload_n 0, 58, 0, 0, .null, [], [])),
  (58, (.invokevirtual 406, 61, 199, 0, .null, [], [3322, 3323, 3400, 5, 3401])),
  (61, (.goto (-24), 64, 37, 0, .null, [], [])),
  (64, (.aload_n 0, 65, 0, 0, .null, [], [])),
  (65, (.invokevirtual 409, 68, 198, 0, .null, [], [3700, 3701, 3702, 5, 3703])),
  (68, (.aload_n 0, 69, 0, 0, .null, [], [])),
  (69, (.getfield 264, 72, 11, 19, (.int 1), [], [2611])),
  (72, (.ifCond .eq 10, 75, 82, 0, .null, [], [])),
  (75, (.aload_n 0, 76, 0, 0, .null, [], [])),
  (76, (.bipush (-6), 78, 0, 0, (.int (-6)), [], [])),
  (78, (.invokevirtual 199, 81, 153, 1, .null, [], [1009, 1010, 1011, 5, 1012])),
  (81, (.ireturn, 82, 0, 0, .null, [], [])),
  (82, (.sipush 2492, 85, 0, 0, (.int 2492), [], [])),
  (85, (.sipush 900, 88, 0, 0, (.int 900), [], [])),
  (88, (.aload_n 0, 89, 0, 0, .null, [], [])),
  (89, (.getfield 13, 92, 11, 3, (.int 3), [], [520])),
  (92, (.iconst 3, 93, 0, 0, (.int 3), [], [])),
  (93, (.iaload, 94, 0, 0, .null, [], [])),
  (94, (.imul, 95, 0, 0, .null, [], [])),
  (95, (.iadd, 96, 0, 0, .null, [], [])),
  (96, (.istore_n 1, 97, 1, 0, .null, [], [])),
  (97, (.aload_n 0, 98, 0, 0, .null, [], [])),
  (98, (.getfield 13, 101, 11, 3, (.int 3), [], [520])),
  (101, (.iload_n 1, 102, 1, 0, .null, [], [])),
  (102, (.iconst 1, 103, 0, 0, (.int 1), [], [])),
  (103, (.iadd, 104, 0, 0, .null, [], [])),
  (104, (.aload_n 0, 105, 0, 0, .null, [], [])),
  (105, (.getfield 395, 108, 11, 21, (.int 0), [], [3315])),
  (108, (.iastore, 109, 0, 0, .null, [], [])),
  (109, (.iconst 0, 110, 0, 0, (.int 0), [], [])),
  (110, (.istore_n 2, 111, 2, 0, .null, [], [])),
  (111, (.iload_n 2, 112, 2, 0, .null, [], [])),
  (112, (.bipush 8, 114, 0, 0, (.int 8), [], [])),
  (114, (.aload_n 0, 115, 0, 0, .null, [], [])),
  (115, (.getfield 395, 118, 11, 21, (.int 0), [], [3315])),
  (118, (.imul, 119, 0, 0, .null, [], [])),
  (119, (.if_icmp .ge 25, 122, 144, 0, .null, [], [])),
  (122, (.aload_n 0, 123, 0, 0, .null, [], [])),
  (123, (.getfield 13, 126, 11, 3, (.int 3), [], [520])),
  (126, (.iload_n 1, 127, 1, 0, .null, [], [])),
  (127, (.iconst 2, 128, 0, 0, (.int 2), [], [])),
  (128, (.iadd, 129, 0, 0, .null, [], [])),
  (129, (.iload_n 2, 130, 2, 0, .null, [], [])),
  (130, (.iadd, 131, 0, 0, .null, [], [])),
  (131, (.aload_n 0, 132, 0, 0, .null, [], [])),
  (132, (.getfield 42, 135, 11, 22, (.int 3), [], [606])),
  (135, (.iload_n 2, 136, 2, 0, .null, [], [])),
  (136, (.iaload, 137, 0, 0, .null, [], [])),
  (137, (.iastore, 138, 0, 0, .null, [], [])),
  (138, (.iinc 2 1, 141, 2, 0, (.int 1), [], [])),
  (141, (.goto (-30), 144, 111, 0, .null, [], [])),
  (144, (.iconst 0, 145, 0, 0, (.int 0), [], [])),
  (145, (.istore_n 2, 146, 2, 0, .null, [], [])),
  (146, (.iload_n 2, 147, 2, 0, .null, [], [])),
  (147, (.aload_n 0, 148, 0, 0, .null, [], [])),
  (148, (.getfield 301, 151, 11, 23, (.int 0), [], [3316])),
  (151, (.if_icmp .ge 49, 154, 200, 0, .null, [], [])),
  (154, (.aload_n 0, 155, 0, 0, .null, [], [])),
  (155, (.getfield 13, 158, 11, 3, (.int 3), [], [520])),
  (158, (.iload_n 1, 159, 1, 0, .null, [], [])),
  (159, (.bipush 98, 161, 0, 0, (.int 98), [], [])),
  (161, (.iadd, 162, 0, 0, .null, [], [])),
  (162, (.iconst 2, 163, 0, 0, (.int 2), [], [])),
  (163, (.iload_n 2, 164, 2, 0, .null, [], [])),
  (164, (.imul, 165, 0, 0, .null, [], [])),
  (165, (.iadd, 166, 0, 0, .null, [], [])),
  (166, (.aload_n 0, 167, 0, 0, .null, [], [])),
  (167, (.getfield 45, 170, 11, 24, (.int 3), [], [607])),
  (170, (.iload_n 2, 171, 2, 0, .null, [], [])),
  (171, (.iaload, 172, 0, 0, .null, [], [])),
  (172, (.iastore, 173, 0, 0, .null, [], [])),
  (173, (.aload_n 0, 174, 0, 0, .null, [], [])),
  (174, (.getfield 13, 177, 11, 3, (.int 3), [], [520])),
  (177, (.iload_n 1, 178, 1, 0, .null, [], [])),
  (178, (.bipush 98, 180, 0, 0, (.int 98), [], [])),
  (180, (.iadd, 181, 0, 0, .null, [], [])),
  (181, (.iconst 2, 182, 0, 0, (.int 2), [], [])),
  (182, (.iload_n 2, 183, 2, 0, .null, [], [])),
  (183, (.imul, 184, 0, 0, .null, [], [])),
  (184, (.iadd, 185, 0, 0, .null, [], [])),
  (185, (.iconst 1, 186, 0, 0, (.int 1), [], [])),
  (186, (.iadd, 187, 0, 0, .null, [], [])),
  (187, (.aload_n 0, 188, 0, 0, .null, [], [])),
  (188, (.getfield 48, 191, 11, 25, (.int 3), [], [608])),
  (191, (.iload_n 2, 192, 2, 0, .null, [], [])),
  (192, (.iaload, 193, 0, 0, .null, [], [])),
  (193, (.iastore, 194, 0, 0, .null, [], [])),
  (194, (.iinc 2 1, 197, 2, 0, (.int 1), [], [])),
  (197, (.goto (-51), 200, 146, 0, .null, [], [])),
  (200, (.aload_n 0, 201, 0, 0, .null, [], []))]
def zc_200_1 : List (Nat × zE) := [(201, (.getfield 13, 204, 11, 3, (.int 3), [], [520])),
  (204, (.iconst 3, 205, 0, 0, (.int 3), [], [])),
  (205, (.dup2, 206, 0, 0, .null, [], [])),
  (206, (.iaload, 207, 0, 0, .null, [], [])),
  (207, (.iconst 1, 208, 0, 0, (.int 1), [], [])),
  (208, (.iadd, 209, 0, 0, .null, [], [])),
  (209, (.iastore, 210, 0, 0, .null, [], [])),
  (210, (.aload_n 0, 211, 0, 0, .null, [], [])),
  (211, (.aload_n 0, 212, 0, 0, .null, [], [])),
  (212, (.getfield 13, 215, 11, 3, (.int 3), [], [520])),
  (215, (.iconst 3, 216, 0, 0, (.int 3), [], [])),
  (216, (.iaload, 217, 0, 0, .null, [], [])),
  (217, (.iconst 1, 218, 0, 0, (.int 1), [], [])),
  (218, (.isub, 219, 0, 0, .null, [], [])),
  (219, (.invokevirtual 199, 222, 153, 1, .null, [], [1009, 1010, 1011, 5, 1012])),
  (222, (.ireturn, 223, 0, 0, .null, [], []))]
/-- yX11_law -/
def zc_200 : List (Nat × zE) := zc_200_0 ++ zc_200_1
/-- yX11_isLaw -/
def zc_201 : List (Nat × zE) := [(0, (.iload_n 1, 1, 1, 0, .null, [], [])),
  (1, (.iconst (-1), 2, 0, 0, (.int (-1)), [], [])),
  (2, (.if_icmp .eq 21, 5, 23, 0, .null, [], [])),
  (5, (.iload_n 1, 6, 1, 0, .null, [], [])),
  (6, (.i2l, 7, 0, 0, .null, [], [])),
  (7, (.lconst 0, 8, 0, 0, (.long 0), [], [])),
  (8, (.aload_n 0, 9, 0, 0, .null, [], [])),
  (9, (.getfield 13, 12, 11, 3, (.int 3), [], [520])),
  (12, (.iconst 3, 13, 0, 0, (.int 3), [], [])),
  (13, (.iaload, 14, 0, 0, .null, [], [])),
  (14, (.i2l, 15, 0, 0, .null, [], [])),
  (15, (.lconst 1, 16, 0, 0, (.long 1), [], [])),
  (16, (.lsub, 17, 0, 0, .null, [], [])),
  (17, (.invokestatic 210, 20, 150, 3, .null, [], [1001, 1002, 5, 1003])),
  (20, (.ifCond .eq 7, 23, 27, 0, .null, [], [])),
  (23, (.iconst 1, 24, 0, 0, (.int 1), [], [])),
  (24, (.goto 4, 27, 28, 0, .null, [], [])),
  (27, (.iconst 0, 28, 0, 0, (.int 0), [], [])),
  (28, (.ireturn, 29, 1, 0, .null, [], []))]
/-- yX11_force -/
def zc_202 : List (Nat × zE) := [(0, (.aload_n 0, 1, 0, 0, .null, [], [])),
  (1, (.iconst 0, 2, 0, 0, (.int 0), [], [])),
  (2, (.putfield 190, 5, 11, 0, (.int 0), [], [919])),
  (5, (.aload_n 0, 6, 0, 0, .null, [], [])),
  (6, (.iload_n 1, 7, 1, 0, .null, [], [])),
  (7, (.invokevirtual 412, 10, 201, 1, .null, [], [4612, 4613, 4614, 5, 4615])),
  (10, (.ifCond .eq 12, 13, 22, 0, .null, [], [])),
  (13, (.aload_n 0, 14, 0, 0, .null, [], [])),
  (14, (.iconst 4, 15, 0, 0, (.int 4), [], [])),
  (15, (.iload_n 1, 16, 1, 0, .null, [], [])),
  (16, (.invokevirtual 249, 19, 154, 2, .null, [], [1607, 1608, 1609, 5, 1610])),
  (19, (.goto 9, 22, 28, 0, .null, [], [])),
  (22, (.aload_n 0, 23, 0, 0, .null, [], [])),
  (23, (.bipush (-2), 25, 0, 0, (.int (-2)), [], [])),
  (25, (.invokevirtual 199, 28, 153, 1, .null, [], [1009, 1010, 1011, 5, 1012])),
  (28, (.ireturn, 29, 0, 0, .null, [], []))]
/-- yX11_reckon -/
def zc_203 : List (Nat × zE) := [(0, (.iload_n 1, 1, 1, 0, .null, [], [])),
  (1, (.tableswitch 148 20 26 #[43, 48, 53, 58, 90, 122, 135], 44, 149, 0, .null, [(20, 44), (21, 49), (22, 54), (23, 59), (24, 91), (25, 123), (26, 136)], [])),
  (44, (.lload_n 2, 45, 2, 0, .null, [], [])),
  (45, (.lload 4, 47, 4, 0, .null, [], [])),
  (47, (.ladd, 48, 0, 0, .null, [], [])),
  (48, (.lreturn, 49, 0, 0, .null, [], [])),
  (49, (.lload_n 2, 50, 2, 0, .null, [], [])),
  (50, (.lload 4, 52, 4, 0, .null, [], [])),
  (52, (.lsub, 53, 0, 0, .null, [], [])),
  (53, (.lreturn, 54, 0, 0, .null, [], [])),
  (54, (.lload_n 2, 55, 2, 0, .null, [], [])),
  (55, (.lload 4, 57, 4, 0, .null, [], [])),
  (57, (.lmul, 58, 0, 0, .null, [], [])),
  (58, (.lreturn, 59, 0, 0, .null, [], [])),
  (59, (.aload_n 0, 60, 0, 0, .null, [], [])),
  (60, (.lload 4, 62, 4, 0, .null, [], [])),
  (62, (.lconst 0, 63, 0, 0, (.long 0), [], [])),
  (63, (.lcmp, 64, 0, 0, .null, [], [])),
  (64, (.ifCond .ne 7, 67, 71, 0, .null, [], [])),
  (67, (.iconst 1, 68, 0, 0, (.int 1), [], [])),
  (68, (.goto 4, 71, 72, 0, .null, [], [])),
  (71, (.iconst 0, 72, 0, 0, (.int 0), [], [])),
  (72, (.putfield 415, 75, 11, 38, (.int 1), [], [1412])),
  (75, (.aload_n 0, 76, 0, 0, .null, [], [])),
  (76, (.getfield 415, 79, 11, 38, (.int 1), [], [1412])),
  (79, (.ifCond .eq 7, 82, 86, 0, .null, [], [])),
  (82, (.lconst 0, 83, 0, 0, (.long 0), [], [])),
  (83, (.goto 7, 86, 90, 0, .null, [], [])),
  (86, (.lload_n 2, 87, 2, 0, .null, [], [])),
  (87, (.lload 4, 89, 4, 0, .null, [], [])),
  (89, (.ldiv, 90, 0, 0, .null, [], [])),
  (90, (.lreturn, 91, 0, 0, .null, [], [])),
  (91, (.aload_n 0, 92, 0, 0, .null, [], [])),
  (92, (.lload 4, 94, 4, 0, .null, [], [])),
  (94, (.lconst 0, 95, 0, 0, (.long 0), [], [])),
  (95, (.lcmp, 96, 0, 0, .null, [], [])),
  (96, (.ifCond .ne 7, 99, 103, 0, .null, [], [])),
  (99, (.iconst 1, 100, 0, 0, (.int 1), [], [])),
  (100, (.goto 4, 103, 104, 0, .null, [], [])),
  (103, (.iconst 0, 104, 0, 0, (.int 0), [], [])),
  (104, (.putfield 415, 107, 11, 38, (.int 1), [], [1412])),
  (107, (.aload_n 0, 108, 0, 0, .null, [], [])),
  (108, (.getfield 415, 111, 11, 38, (.int 1), [], [1412])),
  (111, (.ifCond .eq 7, 114, 118, 0, .null, [], [])),
  (114, (.lconst 0, 115, 0, 0, (.long 0), [], [])),
  (115, (.goto 7, 118, 122, 0, .null, [], [])),
  (118, (.lload_n 2, 119, 2, 0, .null, [], [])),
  (119, (.lload 4, 121, 4, 0, .null, [], [])),
  (121, (.lrem, 122, 0, 0, .null, [], [])),
  (122, (.lreturn, 123, 0, 0, .null, [], [])),
  (123, (.lload_n 2, 124, 2, 0, .null, [], [])),
  (124, (.lload 4, 126, 4, 0, .null, [], [])),
  (126, (.lcmp, 127, 0, 0, .null, [], [])),
  (127, (.ifCond .ge 7, 130, 134, 0, .null, [], [])),
  (130, (.lconst 1, 131, 0, 0, (.long 1), [], [])),
  (131, (.goto 4, 134, 135, 0, .null, [], [])),
  (134, (.lconst 0, 135, 0, 0, (.long 0), [], [])),
  (135, (.lreturn, 136, 0, 0, .null, [], [])),
  (136, (.lload_n 2, 137, 2, 0, .null, [], [])),
  (137, (.lload 4, 139, 4, 0, .null, [], [])),
  (139, (.lcmp, 140, 0, 0, .null, [], [])),
  (140, (.ifCond .le 7, 143, 147, 0, .null, [], [])),
  (143, (.lconst 1, 144, 0, 0, (.long 1), [], [])),
  (144, (.goto 4, 147, 148, 0, .null, [], [])),
  (147, (.lconst 0, 148, 0, 0, (.long 0), [], [])),
  (148, (.lreturn, 149, 0, 0, .null, [], [])),
  (149, (.lload_n 2, 150, 2, 0, .null, [], [])),
  (150, (.lload 4, 152, 4, 0, .null, [], [])),
  (152, (.lcmp, 153, 0, 0, .null, [], [])),
  (153, (.ifCond .ne 7, 156, 160, 0, .null, [], [])),
  (156, (.lconst 1, 157, 0, 0, (.long 1), [], [])),
  (157, (.goto 4, 160, 161, 0, .null, [], [])),
  (160, (.lconst 0, 161, 0, 0, (.long 0), [], [])),
  (161, (.lreturn, 162, 0, 0, .null, [], []))]
def zc_204_0 : List (Nat × zE) := [(0, (.aload_n 0, 1, 0, 0, .null, [], [])),
  (1, (.iconst 0, 2, 0, 0, (.int 0), [], [])),
  (2, (.putfield 415, 5, 11, 38, (.int 1), [], [1412])),
  (5, (.iconst 0, 6, 0, 0, (.int 0), [], [])),
  (6, (.istore_n 3, 7, 3, 0, .null, [], [])),
  (7, (.iload_n 1, 8, 1, 0, .null, [], [])),
  (8, (.istore 4, 10, 4, 0, .null, [], [])),
  (10, (.iload 4, 12, 4, 0, .null, [], [])),
  (12, (.iload_n 2, 13, 2, 0, .null, [], [])),
  (13, (.if_icmp .ge 350, 16, 363, 0, .null, [], [])),
  (16, (.aload_n 0, 17, 0, 0, .null, [], [])),
  (17, (.getfield 415, 20, 11, 38, (.int 1), [], [1412])),
  (20, (.ifCond .ne 343, 23, 363, 0, .null, [], [])),
  (23, (.aload_n 0, 24, 0, 0, .null, [], [])),
  (24, (.getfield 341, 27, 11, 20, (.int 1), [], [1418])),
  (27, (.ifCond .eq 13, 30, 40, 0, .null, [], [])),
  (30, (.aload_n 0, 31, 0, 0, .null, [], [])),
  (31, (.getfield 45, 34, 11, 24, (.int 3), [], [607])),
  (34, (.iload 4, 36, 4, 0, .null, [], [])),
  (36, (.iaload, 37, 0, 0, .null, [], [])),
  (37, (.goto 20, 40, 57, 0, .null, [], [])),
  (40, (.aload_n 0, 41, 0, 0, .null, [], [])),
  (41, (.getfield 13, 44, 11, 3, (.int 3), [], [520])),
  (44, (.aload_n 0, 45, 0, 0, .null, [], [])),
  (45, (.getfield 418, 48, 11, 34, (.int 0), [], [1406])),
  (48, (.bipush 98, 50, 0, 0, (.int 98), [], [])),
  (50, (.iadd, 51, 0, 0, .null, [], [])),
  (51, (.iconst 2, 52, 0, 0, (.int 2), [], [])),
  (52, (.iload 4, 54, 4, 0, .null, [], [])),
  (54, (.imul, 55, 0, 0, .null, [], [])),
  (55, (.iadd, 56, 0, 0, .null, [], [])),
  (56, (.iaload, 57, 0, 0, .null, [], [])),
  (57, (.istore 5, 59, 5, 0, .null, [], [])),
  (59, (.aload_n 0, 60, 0, 0, .null, [], [])),
  (60, (.getfield 341, 63, 11, 20, (.int 1), [], [1418])),
  (63, (.ifCond .eq 13, 66, 76, 0, .null, [], [])),
  (66, (.aload_n 0, 67, 0, 0, .null, [], [])),
  (67, (.getfield 48, 70, 11, 25, (.int 3), [], [608])),
  (70, (.iload 4, 72, 4, 0, .null, [], [])),
  (72, (.iaload, 73, 0, 0, .null, [], [])),
  (73, (.goto 22, 76, 95, 0, .null, [], [])),
  (76, (.aload_n 0, 77, 0, 0, .null, [], [])),
  (77, (.getfield 13, 80, 11, 3, (.int 3), [], [520])),
  (80, (.aload_n 0, 81, 0, 0, .null, [], [])),
  (81, (.getfield 418, 84, 11, 34, (.int 0), [], [1406])),
  (84, (.bipush 98, 86, 0, 0, (.int 98), [], [])),
  (86, (.iadd, 87, 0, 0, .null, [], [])),
  (87, (.iconst 2, 88, 0, 0, (.int 2), [], [])),
  (88, (.iload 4, 90, 4, 0, .null, [], [])),
  (90, (.imul, 91, 0, 0, .null, [], [])),
  (91, (.iadd, 92, 0, 0, .null, [], [])),
  (92, (.iconst 1, 93, 0, 0, (.int 1), [], [])),
  (93, (.iadd, 94, 0, 0, .null, [], [])),
  (94, (.iaload, 95, 0, 0, .null, [], [])),
  (95, (.istore 6, 97, 6, 0, .null, [], [])),
  (97, (.iinc 4 1, 100, 4, 0, (.int 1), [], [])),
  (100, (.iload 5, 102, 5, 0, .null, [], [])),
  (102, (.bipush 20, 104, 0, 0, (.int 20), [], [])),
  (104, (.if_icmp .ge 117, 107, 221, 0, .null, [], [])),
  (107, (.aload_n 0, 108, 0, 0, .null, [], [])),
  (108, (.getfield 101, 111, 11, 37, (.int 3), [], [706])),
  (111, (.iload_n 3, 112, 3, 0, .null, [], [])),
  (112, (.iload 5, 114, 5, 0, .null, [], [])),
  (114, (.ifCond .ne 9, 117, 123, 0, .null, [], [])),
  (117, (.iload 6, 119, 6, 0, .null, [], [])),
  (119, (.i2l, 120, 0, 0, .null, [], [])),
  (120, (.goto 94, 123, 214, 0, .null, [], [])),
  (123, (.aload_n 0, 124, 0, 0, .null, [], [])),
  (124, (.getfield 341, 127, 11, 20, (.int 1), [], [1418])),
  (127, (.ifCond .ne 13, 130, 140, 0, .null, [], [])),
  (130, (.aload_n 0, 131, 0, 0, .null, [], [])),
  (131, (.getfield 95, 134, 11, 35, (.int 3), [], [704])),
  (134, (.iload 5, 136, 5, 0, .null, [], [])),
  (136, (.laload, 137, 0, 0, .null, [], [])),
  (137, (.goto 77, 140, 214, 0, .null, [], [])),
  (140, (.iload 5, 142, 5, 0, .null, [], [])),
  (142, (.iconst 5, 143, 0, 0, (.int 5), [], [])),
  (143, (.if_icmp .ge 13, 146, 156, 0, .null, [], [])),
  (146, (.aload_n 0, 147, 0, 0, .null, [], [])),
  (147, (.getfield 98, 150, 11, 36, (.int 3), [], [705])),
  (150, (.iload 5, 152, 5, 0, .null, [], [])),
  (152, (.laload, 153, 0, 0, .null, [], [])),
  (153, (.goto 61, 156, 214, 0, .null, [], [])),
  (156, (.iload 5, 158, 5, 0, .null, [], [])),
  (158, (.iconst 5, 159, 0, 0, (.int 5), [], [])),
  (159, (.if_icmp .ne 30, 162, 189, 0, .null, [], [])),
  (162, (.aload_n 0, 163, 0, 0, .null, [], [])),
  (163, (.iload 6, 165, 6, 0, .null, [], [])),
  (165, (.invokevirtual 223, 168, 162, 1, .null, [], [1318, 1319, 1320, 5, 1321])),
  (168, (.ifCond .eq 16, 171, 184, 0, .null, [], [])),
  (171, (.aload_n 0, 172, 0, 0, .null, [], [])),
  (172, (.getfield 13, 175, 11, 3, (.int 3), [], [520])),
  (175, (.bipush 8, 177, 0, 0, (.int 8), [], [])),
  (177, (.iload 6, 179, 6, 0, .null, [], [])),
  (179, (.iadd, 180, 0, 0, .null, [], [])),
  (180, (.iaload, 181, 0, 0, .null, [], [])),
  (181, (.goto 4, 184, 185, 0, .null, [], [])),
  (184, (.iconst (-1), 185, 0, 0, (.int (-1)), [], [])),
  (185, (.i2l, 186, 0, 0, .null, [], [])),
  (186, (.goto 28, 189, 214, 0, .null, [], [])),
  (189, (.aload_n 0, 190, 0, 0, .null, [], [])),
  (190, (.iload 6, 192, 6, 0, .null, [], [])),
  (192, (.invokevirtual 421, 195, 163, 1, .null, [], [1423, 1500, 1501, 5, 1502])),
  (195, (.ifCond .eq 16, 198, 211, 0, .null, [], [])),
  (198, (.aload_n 0, 199, 0, 0, .null, [], [])),
  (199, (.getfield 424, 202, 11, 40, (.int 0), [], [1419])),
  (202, (.iload 6, 204, 6, 0, .null, [], [])),
  (204, (.ishr, 205, 0, 0, .null, [], [])),
  (205, (.iconst 1, 206, 0, 0, (.int 1), [], [])),
  (206, (.iand, 207, 0, 0, .null, [], [])),
  (207, (.i2l, 208, 0, 0, .null, [], [])),
  (208, (.goto 6, 211, 214, 0, .null, [], [])),
  (211, (.ldc2_w 291, 214, 0, 0, (.long (-1)), [], [1420])),
  (214, (.lastore, 215, 0, 0, .null, [], [])),
  (215, (.iinc 3 1, 218, 3, 0, (.int 1), [], [])),
  (218, (.goto 142, 221, 360, 0, .null, [], [])),
  (221, (.iload 5, 223, 5, 0, .null, [], [])),
  (223, (.bipush 28, 225, 0, 0, (.int 28), [], [])),
  (225, (.if_icmp .ge 73, 228, 298, 0, .null, [], [])),
  (228, (.iinc 3 (-1), 231, 3, 0, (.int (-1)), [], []))]
def zc_204_1 : List (Nat × zE) := [(231, (.aload_n 0, 232, 0, 0, .null, [], [])),
  (232, (.getfield 101, 235, 11, 37, (.int 3), [], [706])),
  (235, (.iload_n 3, 236, 3, 0, .null, [], [])),
  (236, (.iconst 1, 237, 0, 0, (.int 1), [], [])),
  (237, (.isub, 238, 0, 0, .null, [], [])),
  (238, (.aload_n 0, 239, 0, 0, .null, [], [])),
  (239, (.iload 5, 241, 5, 0, .null, [], [])),
  (241, (.aload_n 0, 242, 0, 0, .null, [], [])),
  (242, (.getfield 101, 245, 11, 37, (.int 3), [], [706])),
  (245, (.iload_n 3, 246, 3, 0, .null, [], [])),
  (246, (.iconst 1, 247, 0, 0, (.int 1), [], [])),
  (247, (.isub, 248, 0, 0, .null, [], [])),
  (248, (.laload, 249, 0, 0, .null, [], [])),
  (249, (.aload_n 0, 250, 0, 0, .null, [], [])),
  (250, (.getfield 101, 253, 11, 37, (.int 3), [], [706])),
  (253, (.iload_n 3, 254, 3, 0, .null, [], [])),
  (254, (.laload, 255, 0, 0, .null, [], [])),
  (255, (.invokevirtual 427, 258, 203, 3, .null, [], [1503, 1504, 1505, 5, 1506])),
  (258, (.lastore, 259, 0, 0, .null, [], [])),
  (259, (.aload_n 0, 260, 0, 0, .null, [], [])),
  (260, (.aload_n 0, 261, 0, 0, .null, [], [])),
  (261, (.getfield 415, 264, 11, 38, (.int 1), [], [1412])),
  (264, (.ifCond .ne 23, 267, 287, 0, .null, [], [])),
  (267, (.aload_n 0, 268, 0, 0, .null, [], [])),
  (268, (.getfield 101, 271, 11, 37, (.int 3), [], [706])),
  (271, (.iload_n 3, 272, 3, 0, .null, [], [])),
  (272, (.iconst 1, 273, 0, 0, (.int 1), [], [])),
  (273, (.isub, 274, 0, 0, .null, [], [])),
  (274, (.laload, 275, 0, 0, .null, [], [])),
  (275, (.ldc2_w 431, 278, 0, 0, (.long (-1000000000)), [], [1421])),
  (278, (.ldc2_w 433, 281, 0, 0, (.long 1000000000), [], [1422])),
  (281, (.invokestatic 210, 284, 150, 3, .null, [], [1001, 1002, 5, 1003])),
  (284, (.ifCond .ne 7, 287, 291, 0, .null, [], [])),
  (287, (.iconst 1, 288, 0, 0, (.int 1), [], [])),
  (288, (.goto 4, 291, 292, 0, .null, [], [])),
  (291, (.iconst 0, 292, 0, 0, (.int 0), [], [])),
  (292, (.putfield 415, 295, 11, 38, (.int 1), [], [1412])),
  (295, (.goto 65, 298, 360, 0, .null, [], [])),
  (298, (.iload 5, 300, 5, 0, .null, [], [])),
  (300, (.bipush 28, 302, 0, 0, (.int 28), [], [])),
  (302, (.if_icmp .ne 24, 305, 326, 0, .null, [], [])),
  (305, (.aload_n 0, 306, 0, 0, .null, [], [])),
  (306, (.getfield 101, 309, 11, 37, (.int 3), [], [706])),
  (309, (.iload_n 3, 310, 3, 0, .null, [], [])),
  (310, (.iconst 1, 311, 0, 0, (.int 1), [], [])),
  (311, (.isub, 312, 0, 0, .null, [], [])),
  (312, (.lconst 1, 313, 0, 0, (.long 1), [], [])),
  (313, (.aload_n 0, 314, 0, 0, .null, [], [])),
  (314, (.getfield 101, 317, 11, 37, (.int 3), [], [706])),
  (317, (.iload_n 3, 318, 3, 0, .null, [], [])),
  (318, (.iconst 1, 319, 0, 0, (.int 1), [], [])),
  (319, (.isub, 320, 0, 0, .null, [], [])),
  (320, (.laload, 321, 0, 0, .null, [], [])),
  (321, (.lsub, 322, 0, 0, .null, [], [])),
  (322, (.lastore, 323, 0, 0, .null, [], [])),
  (323, (.goto 37, 326, 360, 0, .null, [], [])),
  (326, (.aload_n 0, 327, 0, 0, .null, [], [])),
  (327, (.getfield 101, 330, 11, 37, (.int 3), [], [706])),
  (330, (.iload_n 3, 331, 3, 0, .null, [], [])),
  (331, (.iconst 1, 332, 0, 0, (.int 1), [], [])),
  (332, (.isub, 333, 0, 0, .null, [], [])),
  (333, (.laload, 334, 0, 0, .null, [], [])),
  (334, (.iload 5, 336, 5, 0, .null, [], [])),
  (336, (.bipush 29, 338, 0, 0, (.int 29), [], [])),
  (338, (.if_icmp .ne 7, 341, 345, 0, .null, [], [])),
  (341, (.lconst 0, 342, 0, 0, (.long 0), [], [])),
  (342, (.goto 4, 345, 346, 0, .null, [], [])),
  (345, (.lconst 1, 346, 0, 0, (.long 1), [], [])),
  (346, (.lcmp, 347, 0, 0, .null, [], [])),
  (347, (.ifCond .ne 10, 350, 357, 0, .null, [], [])),
  (350, (.iload 6, 352, 6, 0, .null, [], [])),
  (352, (.istore 4, 354, 4, 0, .null, [], [])),
  (354, (.goto 6, 357, 360, 0, .null, [], [])),
  (357, (.iinc 3 (-1), 360, 3, 0, (.int (-1)), [], [])),
  (360, (.goto (-350), 363, 10, 0, .null, [], [])),
  (363, (.aload_n 0, 364, 0, 0, .null, [], [])),
  (364, (.iload_n 3, 365, 3, 0, .null, [], [])),
  (365, (.ifCond .le 12, 368, 377, 0, .null, [], [])),
  (368, (.aload_n 0, 369, 0, 0, .null, [], [])),
  (369, (.getfield 101, 372, 11, 37, (.int 3), [], [706])),
  (372, (.iconst 0, 373, 0, 0, (.int 0), [], [])),
  (373, (.laload, 374, 0, 0, .null, [], [])),
  (374, (.goto 4, 377, 378, 0, .null, [], [])),
  (377, (.lconst 0, 378, 0, 0, (.long 0), [], [])),
  (378, (.putfield 435, 381, 11, 39, (.int 2), [], [1413])),
  (381, (.return_, 382, 0, 0, .null, [], []))]
/-- yX11_reckonAll -/
def zc_204 : List (Nat × zE) := zc_204_0 ++ zc_204_1
/-- yX11_isSo -/
def zc_205 : List (Nat × zE) := [(0, (.aload_n 0, 1, 0, 0, .null, [], [])),
  (1, (.getfield 13, 4, 11, 3, (.int 3), [], [520])),
  (4, (.iload_n 1, 5, 1, 0, .null, [], [])),
  (5, (.iconst 5, 6, 0, 0, (.int 5), [], [])),
  (6, (.iadd, 7, 0, 0, .null, [], [])),
  (7, (.iaload, 8, 0, 0, .null, [], [])),
  (8, (.aload_n 0, 9, 0, 0, .null, [], [])),
  (9, (.getfield 13, 12, 11, 3, (.int 3), [], [520])),
  (12, (.iload_n 1, 13, 1, 0, .null, [], [])),
  (13, (.bipush 6, 15, 0, 0, (.int 6), [], [])),
  (15, (.iadd, 16, 0, 0, .null, [], [])),
  (16, (.iaload, 17, 0, 0, .null, [], [])),
  (17, (.if_icmp .ge 42, 20, 59, 0, .null, [], [])),
  (20, (.aload_n 0, 21, 0, 0, .null, [], [])),
  (21, (.aload_n 0, 22, 0, 0, .null, [], [])),
  (22, (.getfield 13, 25, 11, 3, (.int 3), [], [520])),
  (25, (.iload_n 1, 26, 1, 0, .null, [], [])),
  (26, (.iconst 5, 27, 0, 0, (.int 5), [], [])),
  (27, (.iadd, 28, 0, 0, .null, [], [])),
  (28, (.iaload, 29, 0, 0, .null, [], [])),
  (29, (.aload_n 0, 30, 0, 0, .null, [], [])),
  (30, (.getfield 13, 33, 11, 3, (.int 3), [], [520])),
  (33, (.iload_n 1, 34, 1, 0, .null, [], [])),
  (34, (.bipush 6, 36, 0, 0, (.int 6), [], [])),
  (36, (.iadd, 37, 0, 0, .null, [], [])),
  (37, (.iaload, 38, 0, 0, .null, [], [])),
  (38, (.invokevirtual 438, 41, 204, 2, .null, [], [1414, 1415, 1416, 5, 1417])),
  (41, (.aload_n 0, 42, 0, 0, .null, [], [])),
  (42, (.getfield 415, 45, 11, 38, (.int 1), [], [1412])),
  (45, (.ifCond .ne 12, 48, 57, 0, .null, [], [])),
  (48, (.aload_n 0, 49, 0, 0, .null, [], [])),
  (49, (.getfield 435, 52, 11, 39, (.int 2), [], [1413])),
  (52, (.lconst 0, 53, 0, 0, (.long 0), [], [])),
  (53, (.lcmp, 54, 0, 0, .null, [], [])),
  (54, (.ifCond .ne 5, 57, 59, 0, .null, [], [])),
  (57, (.iconst 0, 58, 0, 0, (.int 0), [], [])),
  (58, (.ireturn, 59, 1, 0, .null, [], [])),
  (59, (.aload_n 0, 60, 0, 0, .null, [], [])),
  (60, (.getfield 13, 63, 11, 3, (.int 3), [], [520])),
  (63, (.iload_n 1, 64, 1, 0, .null, [], [])),
  (64, (.iaload, 65, 0, 0, .null, [], [])),
  (65, (.ifCond .ne 44, 68, 109, 0, .null, [], [])),
  (68, (.aload_n 0, 69, 0, 0, .null, [], [])),
  (69, (.aload_n 0, 70, 0, 0, .null, [], [])),
  (70, (.getfield 13, 73, 11, 3, (.int 3), [], [520])),
  (73, (.iload_n 1, 74, 1, 0, .null, [], [])),
  (74, (.iconst 3, 75, 0, 0, (.int 3), [], [])),
  (75, (.iadd, 76, 0, 0, .null, [], [])),
  (76, (.iaload, 77, 0, 0, .null, [], [])),
  (77, (.aload_n 0, 78, 0, 0, .null, [], [])),
  (78, (.getfield 13, 81, 11, 3, (.int 3), [], [520])),
  (81, (.iload_n 1, 82, 1, 0, .null, [], [])),
  (82, (.iconst 4, 83, 0, 0, (.int 4), [], [])),
  (83, (.iadd, 84, 0, 0, .null, [], [])),
  (84, (.iaload, 85, 0, 0, .null, [], [])),
  (85, (.invokevirtual 438, 88, 204, 2, .null, [], [1414, 1415, 1416, 5, 1417])),
  (88, (.aload_n 0, 89, 0, 0, .null, [], [])),
  (89, (.aload_n 0, 90, 0, 0, .null, [], [])),
  (90, (.getfield 435, 93, 11, 39, (.int 2), [], [1413])),
  (93, (.putfield 441, 96, 11, 41, (.int 2), [], [1407])),
  (96, (.aload_n 0, 97, 0, 0, .null, [], [])),
  (97, (.getfield 415, 100, 11, 38, (.int 1), [], [1412])),
  (100, (.ifCond .ne 7, 103, 107, 0, .null, [], [])),
  (103, (.iconst 1, 104, 0, 0, (.int 1), [], [])),
  (104, (.goto 4, 107, 108, 0, .null, [], [])),
  (107, (.iconst 0, 108, 0, 0, (.int 0), [], [])),
  (108, (.ireturn, 109, 1, 0, .null, [], [])),
  (109, (.iconst 1, 110, 0, 0, (.int 1), [], [])),
  (110, (.ireturn, 111, 1, 0, .null, [], []))]
def zc_206_0 : List (Nat × zE) := [(0, (.aload_n 0, 1, 0, 0, .null, [], [])),
  (1, (.getfield 13, 4, 11, 3, (.int 3), [], [520])),
  (4, (.iconst 4, 5, 0, 0, (.int 4), [], [])),
  (5, (.iaload, 6, 0, 0, .null, [], [])),
  (6, (.iconst (-1), 7, 0, 0, (.int (-1)), [], [])),
  (7, (.if_icmp .ne 6, 10, 13, 0, .null, [], [])),
  (10, (.lload 4, 12, 4, 0, .null, [], [])),
  (12, (.lreturn, 13, 0, 0, .null, [], [])),
  (13, (.aload_n 0, 14, 0, 0, .null, [], [])),
  (14, (.sipush 2492, 17, 0, 0, (.int 2492), [], [])),
  (17, (.sipush 900, 20, 0, 0, (.int 900), [], [])),
  (20, (.aload_n 0, 21, 0, 0, .null, [], [])),
  (21, (.getfield 13, 24, 11, 3, (.int 3), [], [520])),
  (24, (.iconst 4, 25, 0, 0, (.int 4), [], [])),
  (25, (.iaload, 26, 0, 0, .null, [], [])),
  (26, (.imul, 27, 0, 0, .null, [], [])),
  (27, (.iadd, 28, 0, 0, .null, [], [])),
  (28, (.putfield 418, 31, 11, 34, (.int 0), [], [1406])),
  (31, (.aload_n 0, 32, 0, 0, .null, [], [])),
  (32, (.getfield 95, 35, 11, 35, (.int 3), [], [704])),
  (35, (.iconst 1, 36, 0, 0, (.int 1), [], [])),
  (36, (.iload_n 2, 37, 2, 0, .null, [], [])),
  (37, (.i2l, 38, 0, 0, .null, [], [])),
  (38, (.lastore, 39, 0, 0, .null, [], [])),
  (39, (.aload_n 0, 40, 0, 0, .null, [], [])),
  (40, (.getfield 95, 43, 11, 35, (.int 3), [], [704])),
  (43, (.iconst 2, 44, 0, 0, (.int 2), [], [])),
  (44, (.aload_n 0, 45, 0, 0, .null, [], [])),
  (45, (.getfield 13, 48, 11, 3, (.int 3), [], [520])),
  (48, (.bipush 8, 50, 0, 0, (.int 8), [], [])),
  (50, (.iload_n 2, 51, 2, 0, .null, [], [])),
  (51, (.iadd, 52, 0, 0, .null, [], [])),
  (52, (.iaload, 53, 0, 0, .null, [], [])),
  (53, (.i2l, 54, 0, 0, .null, [], [])),
  (54, (.lastore, 55, 0, 0, .null, [], [])),
  (55, (.aload_n 0, 56, 0, 0, .null, [], [])),
  (56, (.getfield 95, 59, 11, 35, (.int 3), [], [704])),
  (59, (.iconst 3, 60, 0, 0, (.int 3), [], [])),
  (60, (.iload_n 3, 61, 3, 0, .null, [], [])),
  (61, (.i2l, 62, 0, 0, .null, [], [])),
  (62, (.lastore, 63, 0, 0, .null, [], [])),
  (63, (.aload_n 0, 64, 0, 0, .null, [], [])),
  (64, (.getfield 95, 67, 11, 35, (.int 3), [], [704])),
  (67, (.iconst 4, 68, 0, 0, (.int 4), [], [])),
  (68, (.aload_n 0, 69, 0, 0, .null, [], [])),
  (69, (.getfield 13, 72, 11, 3, (.int 3), [], [520])),
  (72, (.bipush 28, 74, 0, 0, (.int 28), [], [])),
  (74, (.iload_n 2, 75, 2, 0, .null, [], [])),
  (75, (.iadd, 76, 0, 0, .null, [], [])),
  (76, (.iaload, 77, 0, 0, .null, [], [])),
  (77, (.i2l, 78, 0, 0, .null, [], [])),
  (78, (.lastore, 79, 0, 0, .null, [], [])),
  (79, (.aload_n 0, 80, 0, 0, .null, [], [])),
  (80, (.getfield 95, 83, 11, 35, (.int 3), [], [704])),
  (83, (.iconst 5, 84, 0, 0, (.int 5), [], [])),
  (84, (.aload_n 0, 85, 0, 0, .null, [], [])),
  (85, (.getfield 13, 88, 11, 3, (.int 3), [], [520])),
  (88, (.bipush 48, 90, 0, 0, (.int 48), [], [])),
  (90, (.iload_n 2, 91, 2, 0, .null, [], [])),
  (91, (.iadd, 92, 0, 0, .null, [], [])),
  (92, (.iaload, 93, 0, 0, .null, [], [])),
  (93, (.i2l, 94, 0, 0, .null, [], [])),
  (94, (.lastore, 95, 0, 0, .null, [], [])),
  (95, (.aload_n 0, 96, 0, 0, .null, [], [])),
  (96, (.getfield 95, 99, 11, 35, (.int 3), [], [704])),
  (99, (.bipush 6, 101, 0, 0, (.int 6), [], [])),
  (101, (.aload_n 0, 102, 0, 0, .null, [], [])),
  (102, (.getfield 13, 105, 11, 3, (.int 3), [], [520])),
  (105, (.iconst 0, 106, 0, 0, (.int 0), [], [])),
  (106, (.iaload, 107, 0, 0, .null, [], [])),
  (107, (.i2l, 108, 0, 0, .null, [], [])),
  (108, (.lastore, 109, 0, 0, .null, [], [])),
  (109, (.aload_n 0, 110, 0, 0, .null, [], [])),
  (110, (.getfield 95, 113, 11, 35, (.int 3), [], [704])),
  (113, (.bipush 7, 115, 0, 0, (.int 7), [], [])),
  (115, (.aload_n 0, 116, 0, 0, .null, [], [])),
  (116, (.getfield 13, 119, 11, 3, (.int 3), [], [520])),
  (119, (.iconst 5, 120, 0, 0, (.int 5), [], [])),
  (120, (.iaload, 121, 0, 0, .null, [], [])),
  (121, (.i2l, 122, 0, 0, .null, [], [])),
  (122, (.lastore, 123, 0, 0, .null, [], [])),
  (123, (.aload_n 0, 124, 0, 0, .null, [], [])),
  (124, (.getfield 95, 127, 11, 35, (.int 3), [], [704])),
  (127, (.bipush 8, 129, 0, 0, (.int 8), [], [])),
  (129, (.aload_n 0, 130, 0, 0, .null, [], [])),
  (130, (.getfield 13, 133, 11, 3, (.int 3), [], [520])),
  (133, (.bipush 7, 135, 0, 0, (.int 7), [], [])),
  (135, (.iaload, 136, 0, 0, .null, [], [])),
  (136, (.i2l, 137, 0, 0, .null, [], [])),
  (137, (.lastore, 138, 0, 0, .null, [], [])),
  (138, (.lload 4, 140, 4, 0, .null, [], [])),
  (140, (.lstore 6, 142, 6, 0, .null, [], [])),
  (142, (.iconst 0, 143, 0, 0, (.int 0), [], [])),
  (143, (.istore 8, 145, 8, 0, .null, [], [])),
  (145, (.iload 8, 147, 8, 0, .null, [], [])),
  (147, (.aload_n 0, 148, 0, 0, .null, [], [])),
  (148, (.getfield 13, 151, 11, 3, (.int 3), [], [520])),
  (151, (.aload_n 0, 152, 0, 0, .null, [], [])),
  (152, (.getfield 418, 155, 11, 34, (.int 0), [], [1406])),
  (155, (.iconst 1, 156, 0, 0, (.int 1), [], [])),
  (156, (.iadd, 157, 0, 0, .null, [], [])),
  (157, (.iaload, 158, 0, 0, .null, [], [])),
  (158, (.if_icmp .ge 57, 161, 215, 0, .null, [], [])),
  (161, (.aload_n 0, 162, 0, 0, .null, [], [])),
  (162, (.getfield 418, 165, 11, 34, (.int 0), [], [1406])),
  (165, (.iconst 2, 166, 0, 0, (.int 2), [], [])),
  (166, (.iadd, 167, 0, 0, .null, [], [])),
  (167, (.bipush 8, 169, 0, 0, (.int 8), [], [])),
  (169, (.iload 8, 171, 8, 0, .null, [], [])),
  (171, (.imul, 172, 0, 0, .null, [], [])),
  (172, (.iadd, 173, 0, 0, .null, [], [])),
  (173, (.istore 9, 175, 9, 0, .null, [], [])),
  (175, (.aload_n 0, 176, 0, 0, .null, [], [])),
  (176, (.getfield 13, 179, 11, 3, (.int 3), [], [520])),
  (179, (.iload 9, 181, 9, 0, .null, [], [])),
  (181, (.iaload, 182, 0, 0, .null, [], [])),
  (182, (.iload_n 1, 183, 1, 0, .null, [], [])),
  (183, (.if_icmp .ne 26, 186, 209, 0, .null, [], [])),
  (186, (.aload_n 0, 187, 0, 0, .null, [], [])),
  (187, (.iload 9, 189, 9, 0, .null, [], []))]
def zc_206_1 : List (Nat × zE) := [(189, (.invokevirtual 444, 192, 205, 1, .null, [], [1408, 1409, 1410, 5, 1411])),
  (192, (.ifCond .eq 17, 195, 209, 0, .null, [], [])),
  (195, (.iload_n 1, 196, 1, 0, .null, [], [])),
  (196, (.ifCond .ne 10, 199, 206, 0, .null, [], [])),
  (199, (.aload_n 0, 200, 0, 0, .null, [], [])),
  (200, (.getfield 441, 203, 11, 41, (.int 2), [], [1407])),
  (203, (.goto 4, 206, 207, 0, .null, [], [])),
  (206, (.lconst 1, 207, 0, 0, (.long 1), [], [])),
  (207, (.lstore 6, 209, 6, 0, .null, [], [])),
  (209, (.iinc 8 1, 212, 8, 0, (.int 1), [], [])),
  (212, (.goto (-67), 215, 145, 0, .null, [], [])),
  (215, (.lload 6, 217, 6, 0, .null, [], [])),
  (217, (.lreturn, 218, 0, 0, .null, [], []))]
/-- yX11_tells -/
def zc_206 : List (Nat × zE) := zc_206_0 ++ zc_206_1
/-- yX11_canRead -/
def zc_207 : List (Nat × zE) := [(0, (.aload_n 0, 1, 0, 0, .null, [], [])),
  (1, (.getfield 13, 4, 11, 3, (.int 3), [], [520])),
  (4, (.bipush 8, 6, 0, 0, (.int 8), [], [])),
  (6, (.iload_n 1, 7, 1, 0, .null, [], [])),
  (7, (.iadd, 8, 0, 0, .null, [], [])),
  (8, (.iaload, 9, 0, 0, .null, [], [])),
  (9, (.istore_n 3, 10, 3, 0, .null, [], [])),
  (10, (.iload_n 2, 11, 2, 0, .null, [], [])),
  (11, (.iconst 2, 12, 0, 0, (.int 2), [], [])),
  (12, (.if_icmp .ne 36, 15, 48, 0, .null, [], [])),
  (15, (.aload_n 0, 16, 0, 0, .null, [], [])),
  (16, (.getfield 13, 19, 11, 3, (.int 3), [], [520])),
  (19, (.bipush 48, 21, 0, 0, (.int 48), [], [])),
  (21, (.iload_n 1, 22, 1, 0, .null, [], [])),
  (22, (.iadd, 23, 0, 0, .null, [], [])),
  (23, (.iaload, 24, 0, 0, .null, [], [])),
  (24, (.iconst 1, 25, 0, 0, (.int 1), [], [])),
  (25, (.if_icmp .ne 19, 28, 44, 0, .null, [], [])),
  (28, (.iload_n 1, 29, 1, 0, .null, [], [])),
  (29, (.aload_n 0, 30, 0, 0, .null, [], [])),
  (30, (.getfield 13, 33, 11, 3, (.int 3), [], [520])),
  (33, (.iconst 0, 34, 0, 0, (.int 0), [], [])),
  (34, (.iaload, 35, 0, 0, .null, [], [])),
  (35, (.iconst 1, 36, 0, 0, (.int 1), [], [])),
  (36, (.isub, 37, 0, 0, .null, [], [])),
  (37, (.if_icmp .ge 7, 40, 44, 0, .null, [], [])),
  (40, (.iconst 1, 41, 0, 0, (.int 1), [], [])),
  (41, (.goto 35, 44, 76, 0, .null, [], [])),
  (44, (.iconst 0, 45, 0, 0, (.int 0), [], [])),
  (45, (.goto 31, 48, 76, 0, .null, [], [])),
  (48, (.iload_n 3, 49, 3, 0, .null, [], [])),
  (49, (.iload_n 2, 50, 2, 0, .null, [], [])),
  (50, (.if_icmp .eq 21, 53, 71, 0, .null, [], [])),
  (53, (.iload_n 3, 54, 3, 0, .null, [], [])),
  (54, (.iconst 2, 55, 0, 0, (.int 2), [], [])),
  (55, (.if_icmp .eq 16, 58, 71, 0, .null, [], [])),
  (58, (.aload_n 0, 59, 0, 0, .null, [], [])),
  (59, (.iconst 1, 60, 0, 0, (.int 1), [], [])),
  (60, (.iload_n 1, 61, 1, 0, .null, [], [])),
  (61, (.iload_n 2, 62, 2, 0, .null, [], [])),
  (62, (.lconst 0, 63, 0, 0, (.long 0), [], [])),
  (63, (.invokevirtual 447, 66, 206, 4, .null, [], [1402, 1403, 1404, 5, 1405])),
  (66, (.lconst 1, 67, 0, 0, (.long 1), [], [])),
  (67, (.lcmp, 68, 0, 0, .null, [], [])),
  (68, (.ifCond .ne 7, 71, 75, 0, .null, [], [])),
  (71, (.iconst 1, 72, 0, 0, (.int 1), [], [])),
  (72, (.goto 4, 75, 76, 0, .null, [], [])),
  (75, (.iconst 0, 76, 0, 0, (.int 0), [], [])),
  (76, (.istore 4, 78, 4, 0, .null, [], [])),
  (78, (.iload 4, 80, 4, 0, .null, [], [])),
  (80, (.ifCond .eq 20, 83, 100, 0, .null, [], [])),
  (83, (.aload_n 0, 84, 0, 0, .null, [], [])),
  (84, (.iconst 2, 85, 0, 0, (.int 2), [], [])),
  (85, (.iload_n 1, 86, 1, 0, .null, [], [])),
  (86, (.iload_n 2, 87, 2, 0, .null, [], [])),
  (87, (.lconst 0, 88, 0, 0, (.long 0), [], [])),
  (88, (.invokevirtual 447, 91, 206, 4, .null, [], [1402, 1403, 1404, 5, 1405])),
  (91, (.lconst 0, 92, 0, 0, (.long 0), [], [])),
  (92, (.lcmp, 93, 0, 0, .null, [], [])),
  (93, (.ifCond .ne 7, 96, 100, 0, .null, [], [])),
  (96, (.iconst 1, 97, 0, 0, (.int 1), [], [])),
  (97, (.goto 4, 100, 101, 0, .null, [], [])),
  (100, (.iconst 0, 101, 0, 0, (.int 0), [], [])),
  (101, (.ireturn, 102, 1, 0, .null, [], []))]
/-- yX11_costsAs -/
def zc_208 : List (Nat × zE) := [(0, (.aload_n 0, 1, 0, 0, .null, [], [])),
  (1, (.getfield 13, 4, 11, 3, (.int 3), [], [520])),
  (4, (.bipush 8, 6, 0, 0, (.int 8), [], [])),
  (6, (.iload_n 1, 7, 1, 0, .null, [], [])),
  (7, (.iadd, 8, 0, 0, .null, [], [])),
  (8, (.iaload, 9, 0, 0, .null, [], [])),
  (9, (.istore_n 3, 10, 3, 0, .null, [], [])),
  (10, (.aload_n 0, 11, 0, 0, .null, [], [])),
  (11, (.iconst 0, 12, 0, 0, (.int 0), [], [])),
  (12, (.iload_n 1, 13, 1, 0, .null, [], [])),
  (13, (.iload_n 2, 14, 2, 0, .null, [], [])),
  (14, (.iload_n 2, 15, 2, 0, .null, [], [])),
  (15, (.iconst 2, 16, 0, 0, (.int 2), [], [])),
  (16, (.if_icmp .ge 17, 19, 33, 0, .null, [], [])),
  (19, (.iload_n 3, 20, 3, 0, .null, [], [])),
  (20, (.iload_n 2, 21, 2, 0, .null, [], [])),
  (21, (.if_icmp .eq 8, 24, 29, 0, .null, [], [])),
  (24, (.iload_n 3, 25, 3, 0, .null, [], [])),
  (25, (.iconst 2, 26, 0, 0, (.int 2), [], [])),
  (26, (.if_icmp .ne 7, 29, 33, 0, .null, [], [])),
  (29, (.lconst 0, 30, 0, 0, (.long 0), [], [])),
  (30, (.goto 4, 33, 34, 0, .null, [], [])),
  (33, (.lconst 1, 34, 0, 0, (.long 1), [], [])),
  (34, (.invokevirtual 447, 37, 206, 4, .null, [], [1402, 1403, 1404, 5, 1405])),
  (37, (.iconst 0, 38, 0, 0, (.int 0), [], [])),
  (38, (.bipush 99, 40, 0, 0, (.int 99), [], [])),
  (40, (.invokestatic 451, 43, 152, 3, .null, [], [1511, 1512, 5, 1513])),
  (43, (.ireturn, 44, 0, 0, .null, [], []))]
/-- yX11_sign -/
def zc_209 : List (Nat × zE) := [(0, (.aload_n 0, 1, 0, 0, .null, [], [])),
  (1, (.getfield 115, 4, 11, 43, (.int 3), [], [712])),
  (4, (.aload_n 0, 5, 0, 0, .null, [], [])),
  (5, (.getfield 455, 8, 11, 44, (.int 0), [], [2616])),
  (8, (.iload_n 1, 9, 1, 0, .null, [], [])),
  (9, (.iastore, 10, 0, 0, .null, [], [])),
  (10, (.aload_n 0, 11, 0, 0, .null, [], [])),
  (11, (.dup, 12, 0, 0, .null, [], [])),
  (12, (.getfield 455, 15, 11, 44, (.int 0), [], [2616])),
  (15, (.iconst 1, 16, 0, 0, (.int 1), [], [])),
  (16, (.iadd, 17, 0, 0, .null, [], [])),
  (17, (.putfield 455, 20, 11, 44, (.int 0), [], [2616])),
  (20, (.return_, 21, 0, 0, .null, [], []))]
/-- yX11_stepAt -/
def zc_210 : List (Nat × zE) := [(0, (.iconst (-1), 1, 0, 0, (.int (-1)), [], [])),
  (1, (.istore_n 1, 2, 1, 0, .null, [], [])),
  (2, (.iconst 0, 3, 0, 0, (.int 0), [], [])),
  (3, (.istore_n 2, 4, 2, 0, .null, [], [])),
  (4, (.iload_n 2, 5, 2, 0, .null, [], [])),
  (5, (.iconst 4, 6, 0, 0, (.int 4), [], [])),
  (6, (.if_icmp .ge 28, 9, 34, 0, .null, [], [])),
  (9, (.aload_n 0, 10, 0, 0, .null, [], [])),
  (10, (.aload_n 0, 11, 0, 0, .null, [], [])),
  (11, (.getfield 112, 14, 11, 42, (.int 3), [], [711])),
  (14, (.iload_n 2, 15, 2, 0, .null, [], [])),
  (15, (.laload, 16, 0, 0, .null, [], [])),
  (16, (.invokevirtual 322, 19, 177, 1, .null, [], [2813, 2814, 2815, 5, 2816])),
  (19, (.ifCond .eq 7, 22, 26, 0, .null, [], [])),
  (22, (.iload_n 2, 23, 2, 0, .null, [], [])),
  (23, (.goto 4, 26, 27, 0, .null, [], [])),
  (26, (.iload_n 1, 27, 1, 0, .null, [], [])),
  (27, (.istore_n 1, 28, 1, 0, .null, [], [])),
  (28, (.iinc 2 1, 31, 2, 0, (.int 1), [], [])),
  (31, (.goto (-27), 34, 4, 0, .null, [], [])),
  (34, (.iload_n 1, 35, 1, 0, .null, [], [])),
  (35, (.ireturn, 36, 0, 0, .null, [], []))]
/-- yX11_beginMetre -/
def zc_211 : List (Nat × zE) := [(0, (.aload_n 0, 1, 0, 0, .null, [], [])),
  (1, (.getfield 118, 4, 11, 45, (.int 3), [], [713])),
  (4, (.aload_n 0, 5, 0, 0, .null, [], [])),
  (5, (.getfield 458, 8, 11, 47, (.int 0), [], [2617])),
  (8, (.iconst 0, 9, 0, 0, (.int 0), [], [])),
  (9, (.iastore, 10, 0, 0, .null, [], [])),
  (10, (.aload_n 0, 11, 0, 0, .null, [], [])),
  (11, (.getfield 121, 14, 11, 46, (.int 3), [], [714])),
  (14, (.aload_n 0, 15, 0, 0, .null, [], [])),
  (15, (.getfield 458, 18, 11, 47, (.int 0), [], [2617])),
  (18, (.iconst 0, 19, 0, 0, (.int 0), [], [])),
  (19, (.iastore, 20, 0, 0, .null, [], [])),
  (20, (.return_, 21, 0, 0, .null, [], []))]
/-- yX11_endUnit -/
def zc_212 : List (Nat × zE) := [(0, (.aload_n 0, 1, 0, 0, .null, [], [])),
  (1, (.ldc2_w 461, 4, 0, 0, (.long 21279923), [], [2901])),
  (4, (.invokevirtual 322, 7, 177, 1, .null, [], [2813, 2814, 2815, 5, 2816])),
  (7, (.ifCond .eq 31, 10, 38, 0, .null, [], [])),
  (10, (.aload_n 0, 11, 0, 0, .null, [], [])),
  (11, (.invokevirtual 268, 14, 176, 0, .null, [], [2701, 2702, 2703, 5, 2704])),
  (14, (.aload_n 0, 15, 0, 0, .null, [], [])),
  (15, (.lconst 1, 16, 0, 0, (.long 1), [], [])),
  (16, (.ldc2_w 247, 19, 0, 0, (.long 9), [], [1606])),
  (19, (.invokevirtual 359, 22, 180, 2, .null, [], [2902, 2903, 2904, 5, 2905])),
  (22, (.istore_n 1, 23, 1, 0, .null, [], [])),
  (23, (.aload_n 0, 24, 0, 0, .null, [], [])),
  (24, (.getfield 264, 27, 11, 19, (.int 1), [], [2611])),
  (27, (.ifCond .ne 11, 30, 38, 0, .null, [], [])),
  (30, (.aload_n 0, 31, 0, 0, .null, [], [])),
  (31, (.bipush 6, 33, 0, 0, (.int 6), [], [])),
  (33, (.iload_n 1, 34, 1, 0, .null, [], [])),
  (34, (.iadd, 35, 0, 0, .null, [], [])),
  (35, (.invokevirtual 463, 38, 209, 1, .null, [], [2817, 2818, 2819, 5, 2820])),
  (38, (.aload_n 0, 39, 0, 0, .null, [], [])),
  (39, (.getfield 118, 42, 11, 45, (.int 3), [], [713])),
  (42, (.aload_n 0, 43, 0, 0, .null, [], [])),
  (43, (.getfield 458, 46, 11, 47, (.int 0), [], [2617])),
  (46, (.dup2, 47, 0, 0, .null, [], [])),
  (47, (.iaload, 48, 0, 0, .null, [], [])),
  (48, (.iconst 1, 49, 0, 0, (.int 1), [], [])),
  (49, (.iadd, 50, 0, 0, .null, [], [])),
  (50, (.iastore, 51, 0, 0, .null, [], [])),
  (51, (.aload_n 0, 52, 0, 0, .null, [], [])),
  (52, (.getfield 118, 55, 11, 45, (.int 3), [], [713])),
  (55, (.aload_n 0, 56, 0, 0, .null, [], [])),
  (56, (.getfield 458, 59, 11, 47, (.int 0), [], [2617])),
  (59, (.iaload, 60, 0, 0, .null, [], [])),
  (60, (.iconst 1, 61, 0, 0, (.int 1), [], [])),
  (61, (.if_icmp .le 8, 64, 69, 0, .null, [], [])),
  (64, (.aload_n 0, 65, 0, 0, .null, [], [])),
  (65, (.iconst 4, 66, 0, 0, (.int 4), [], [])),
  (66, (.invokevirtual 463, 69, 209, 1, .null, [], [2817, 2818, 2819, 5, 2820])),
  (69, (.return_, 70, 0, 0, .null, [], []))]
/-- yX11_endChoice -/
def zc_213 : List (Nat × zE) := [(0, (.aload_n 0, 1, 0, 0, .null, [], [])),
  (1, (.getfield 118, 4, 11, 45, (.int 3), [], [713])),
  (4, (.aload_n 0, 5, 0, 0, .null, [], [])),
  (5, (.getfield 458, 8, 11, 47, (.int 0), [], [2617])),
  (8, (.iconst 0, 9, 0, 0, (.int 0), [], [])),
  (9, (.iastore, 10, 0, 0, .null, [], [])),
  (10, (.aload_n 0, 11, 0, 0, .null, [], [])),
  (11, (.getfield 121, 14, 11, 46, (.int 3), [], [714])),
  (14, (.aload_n 0, 15, 0, 0, .null, [], [])),
  (15, (.getfield 458, 18, 11, 47, (.int 0), [], [2617])),
  (18, (.dup2, 19, 0, 0, .null, [], [])),
  (19, (.iaload, 20, 0, 0, .null, [], [])),
  (20, (.iconst 1, 21, 0, 0, (.int 1), [], [])),
  (21, (.iadd, 22, 0, 0, .null, [], [])),
  (22, (.iastore, 23, 0, 0, .null, [], [])),
  (23, (.aload_n 0, 24, 0, 0, .null, [], [])),
  (24, (.getfield 121, 27, 11, 46, (.int 3), [], [714])),
  (27, (.aload_n 0, 28, 0, 0, .null, [], [])),
  (28, (.getfield 458, 31, 11, 47, (.int 0), [], [2617])),
  (31, (.iaload, 32, 0, 0, .null, [], [])),
  (32, (.iconst 1, 33, 0, 0, (.int 1), [], [])),
  (33, (.if_icmp .le 8, 36, 41, 0, .null, [], [])),
  (36, (.aload_n 0, 37, 0, 0, .null, [], [])),
  (37, (.iconst 5, 38, 0, 0, (.int 5), [], [])),
  (38, (.invokevirtual 463, 41, 209, 1, .null, [], [2817, 2818, 2819, 5, 2820])),
  (41, (.return_, 42, 0, 0, .null, [], []))]
/-- yX11_beginUnit -/
def zc_214 : List (Nat × zE) := [(0, (.aload_n 0, 1, 0, 0, .null, [], [])),
  (1, (.bipush 40, 3, 0, 0, (.int 40), [], [])),
  (3, (.invokevirtual 335, 6, 178, 1, .null, [], [2801, 2802, 2803, 5, 2804])),
  (6, (.ifCond .eq 44, 9, 50, 0, .null, [], [])),
  (9, (.aload_n 0, 10, 0, 0, .null, [], [])),
  (10, (.aload_n 0, 11, 0, 0, .null, [], [])),
  (11, (.getfield 458, 14, 11, 47, (.int 0), [], [2617])),
  (14, (.bipush 8, 16, 0, 0, (.int 8), [], [])),
  (16, (.if_icmp .ge 7, 19, 23, 0, .null, [], [])),
  (19, (.iconst 1, 20, 0, 0, (.int 1), [], [])),
  (20, (.goto 4, 23, 24, 0, .null, [], [])),
  (23, (.iconst 0, 24, 0, 0, (.int 0), [], [])),
  (24, (.invokevirtual 297, 27, 179, 1, .null, [], [2805, 2806, 2807, 5, 2808])),
  (27, (.aload_n 0, 28, 0, 0, .null, [], [])),
  (28, (.getfield 264, 31, 11, 19, (.int 1), [], [2611])),
  (31, (.ifCond .ne 17, 34, 48, 0, .null, [], [])),
  (34, (.aload_n 0, 35, 0, 0, .null, [], [])),
  (35, (.dup, 36, 0, 0, .null, [], [])),
  (36, (.getfield 458, 39, 11, 47, (.int 0), [], [2617])),
  (39, (.iconst 1, 40, 0, 0, (.int 1), [], [])),
  (40, (.iadd, 41, 0, 0, .null, [], [])),
  (41, (.putfield 458, 44, 11, 47, (.int 0), [], [2617])),
  (44, (.aload_n 0, 45, 0, 0, .null, [], [])),
  (45, (.invokevirtual 466, 48, 211, 0, .null, [], [2717, 2718, 2719, 5, 2720])),
  (48, (.iconst 0, 49, 0, 0, (.int 0), [], [])),
  (49, (.ireturn, 50, 1, 0, .null, [], [])),
  (50, (.aload_n 0, 51, 0, 0, .null, [], [])),
  (51, (.invokevirtual 469, 54, 210, 0, .null, [], [2809, 2810, 2811, 5, 2812])),
  (54, (.istore_n 1, 55, 1, 0, .null, [], [])),
  (55, (.aload_n 0, 56, 0, 0, .null, [], [])),
  (56, (.iload_n 1, 57, 1, 0, .null, [], [])),
  (57, (.iconst (-1), 58, 0, 0, (.int (-1)), [], [])),
  (58, (.if_icmp .eq 7, 61, 65, 0, .null, [], [])),
  (61, (.iconst 1, 62, 0, 0, (.int 1), [], [])),
  (62, (.goto 4, 65, 66, 0, .null, [], [])),
  (65, (.iconst 0, 66, 0, 0, (.int 0), [], [])),
  (66, (.invokevirtual 297, 69, 179, 1, .null, [], [2805, 2806, 2807, 5, 2808])),
  (69, (.aload_n 0, 70, 0, 0, .null, [], [])),
  (70, (.getfield 264, 73, 11, 19, (.int 1), [], [2611])),
  (73, (.ifCond .ne 8, 76, 81, 0, .null, [], [])),
  (76, (.aload_n 0, 77, 0, 0, .null, [], [])),
  (77, (.iload_n 1, 78, 1, 0, .null, [], [])),
  (78, (.invokevirtual 463, 81, 209, 1, .null, [], [2817, 2818, 2819, 5, 2820])),
  (81, (.iconst 1, 82, 0, 0, (.int 1), [], [])),
  (82, (.ireturn, 83, 1, 0, .null, [], []))]
/-- yX11_readMetre -/
def zc_215 : List (Nat × zE) := [(0, (.aload_n 0, 1, 0, 0, .null, [], [])),
  (1, (.invokevirtual 392, 4, 175, 0, .null, [], [2620, 2621, 2622, 5, 2623])),
  (4, (.aload_n 0, 5, 0, 0, .null, [], [])),
  (5, (.iconst 0, 6, 0, 0, (.int 0), [], [])),
  (6, (.putfield 455, 9, 11, 44, (.int 0), [], [2616])),
  (9, (.aload_n 0, 10, 0, 0, .null, [], [])),
  (10, (.iconst 0, 11, 0, 0, (.int 0), [], [])),
  (11, (.putfield 458, 14, 11, 47, (.int 0), [], [2617])),
  (14, (.aload_n 0, 15, 0, 0, .null, [], [])),
  (15, (.invokevirtual 466, 18, 211, 0, .null, [], [2717, 2718, 2719, 5, 2720])),
  (18, (.iconst 1, 19, 0, 0, (.int 1), [], [])),
  (19, (.istore_n 1, 20, 1, 0, .null, [], [])),
  (20, (.iconst 0, 21, 0, 0, (.int 0), [], [])),
  (21, (.istore_n 2, 22, 2, 0, .null, [], [])),
  (22, (.aload_n 0, 23, 0, 0, .null, [], [])),
  (23, (.getfield 264, 26, 11, 19, (.int 1), [], [2611])),
  (26, (.ifCond .ne 133, 29, 159, 0, .null, [], [])),
  (29, (.iload_n 2, 30, 2, 0, .null, [], [])),
  (30, (.ifCond .ne 129, 33, 159, 0, .null, [], [])),
  (33, (.iload_n 1, 34, 1, 0, .null, [], [])),
  (34, (.ifCond .eq 34, 37, 68, 0, .null, [], [])),
  (37, (.aload_n 0, 38, 0, 0, .null, [], [])),
  (38, (.invokevirtual 472, 41, 214, 0, .null, [], [2721, 2722, 2723, 5, 2800])),
  (41, (.ifCond .ne 7, 44, 48, 0, .null, [], [])),
  (44, (.iconst 1, 45, 0, 0, (.int 1), [], [])),
  (45, (.goto 4, 48, 49, 0, .null, [], [])),
  (48, (.iconst 0, 49, 0, 0, (.int 0), [], [])),
  (49, (.istore_n 1, 50, 1, 0, .null, [], [])),
  (50, (.aload_n 0, 51, 0, 0, .null, [], [])),
  (51, (.getfield 264, 54, 11, 19, (.int 1), [], [2611])),
  (54, (.ifCond .ne (-32), 57, 22, 0, .null, [], [])),
  (57, (.iload_n 1, 58, 1, 0, .null, [], [])),
  (58, (.ifCond .ne (-36), 61, 22, 0, .null, [], [])),
  (61, (.aload_n 0, 62, 0, 0, .null, [], [])),
  (62, (.invokevirtual 475, 65, 212, 0, .null, [], [2821, 2822, 2823, 5, 2900])),
  (65, (.goto (-43), 68, 22, 0, .null, [], [])),
  (68, (.aload_n 0, 69, 0, 0, .null, [], [])),
  (69, (.ldc2_w 380, 72, 0, 0, (.long 498), [], [2618])),
  (72, (.invokevirtual 322, 75, 177, 1, .null, [], [2813, 2814, 2815, 5, 2816])),
  (75, (.ifCond .eq 16, 78, 91, 0, .null, [], [])),
  (78, (.aload_n 0, 79, 0, 0, .null, [], [])),
  (79, (.invokevirtual 268, 82, 176, 0, .null, [], [2701, 2702, 2703, 5, 2704])),
  (82, (.aload_n 0, 83, 0, 0, .null, [], [])),
  (83, (.invokevirtual 478, 86, 213, 0, .null, [], [2906, 2907, 2908, 5, 2909])),
  (86, (.iconst 1, 87, 0, 0, (.int 1), [], [])),
  (87, (.istore_n 1, 88, 1, 0, .null, [], [])),
  (88, (.goto (-66), 91, 22, 0, .null, [], [])),
  (91, (.aload_n 0, 92, 0, 0, .null, [], [])),
  (92, (.getfield 458, 95, 11, 47, (.int 0), [], [2617])),
  (95, (.ifCond .le 37, 98, 132, 0, .null, [], [])),
  (98, (.aload_n 0, 99, 0, 0, .null, [], [])),
  (99, (.bipush 41, 101, 0, 0, (.int 41), [], [])),
  (101, (.invokevirtual 335, 104, 178, 1, .null, [], [2801, 2802, 2803, 5, 2804])),
  (104, (.ifCond .eq 28, 107, 132, 0, .null, [], [])),
  (107, (.aload_n 0, 108, 0, 0, .null, [], [])),
  (108, (.invokevirtual 268, 111, 176, 0, .null, [], [2701, 2702, 2703, 5, 2704])),
  (111, (.aload_n 0, 112, 0, 0, .null, [], [])),
  (112, (.invokevirtual 478, 115, 213, 0, .null, [], [2906, 2907, 2908, 5, 2909])),
  (115, (.aload_n 0, 116, 0, 0, .null, [], [])),
  (116, (.dup, 117, 0, 0, .null, [], [])),
  (117, (.getfield 458, 120, 11, 47, (.int 0), [], [2617])),
  (120, (.iconst 1, 121, 0, 0, (.int 1), [], [])),
  (121, (.isub, 122, 0, 0, .null, [], [])),
  (122, (.putfield 458, 125, 11, 47, (.int 0), [], [2617])),
  (125, (.aload_n 0, 126, 0, 0, .null, [], [])),
  (126, (.invokevirtual 475, 129, 212, 0, .null, [], [2821, 2822, 2823, 5, 2900])),
  (129, (.goto (-107), 132, 22, 0, .null, [], [])),
  (132, (.aload_n 0, 133, 0, 0, .null, [], [])),
  (133, (.invokevirtual 469, 136, 210, 0, .null, [], [2809, 2810, 2811, 5, 2812])),
  (136, (.iconst (-1), 137, 0, 0, (.int (-1)), [], [])),
  (137, (.if_icmp .ne 12, 140, 149, 0, .null, [], [])),
  (140, (.aload_n 0, 141, 0, 0, .null, [], [])),
  (141, (.bipush 40, 143, 0, 0, (.int 40), [], [])),
  (143, (.invokevirtual 335, 146, 178, 1, .null, [], [2801, 2802, 2803, 5, 2804])),
  (146, (.ifCond .eq 8, 149, 154, 0, .null, [], [])),
  (149, (.iconst 1, 150, 0, 0, (.int 1), [], [])),
  (150, (.istore_n 1, 151, 1, 0, .null, [], [])),
  (151, (.goto (-129), 154, 22, 0, .null, [], [])),
  (154, (.iconst 1, 155, 0, 0, (.int 1), [], [])),
  (155, (.istore_n 2, 156, 2, 0, .null, [], [])),
  (156, (.goto (-134), 159, 22, 0, .null, [], [])),
  (159, (.aload_n 0, 160, 0, 0, .null, [], [])),
  (160, (.getfield 264, 163, 11, 19, (.int 1), [], [2611])),
  (163, (.ifCond .ne 22, 166, 185, 0, .null, [], [])),
  (166, (.aload_n 0, 167, 0, 0, .null, [], [])),
  (167, (.getfield 284, 170, 11, 16, (.int 0), [], [2619])),
  (170, (.ifCond .ne 10, 173, 180, 0, .null, [], [])),
  (173, (.aload_n 0, 174, 0, 0, .null, [], [])),
  (174, (.getfield 458, 177, 11, 47, (.int 0), [], [2617])),
  (177, (.ifCond .le 8, 180, 185, 0, .null, [], [])),
  (180, (.aload_n 0, 181, 0, 0, .null, [], [])),
  (181, (.iconst 0, 182, 0, 0, (.int 0), [], [])),
  (182, (.invokevirtual 297, 185, 179, 1, .null, [], [2805, 2806, 2807, 5, 2808])),
  (185, (.aload_n 0, 186, 0, 0, .null, [], [])),
  (186, (.getfield 264, 189, 11, 19, (.int 1), [], [2611])),
  (189, (.ifCond .ne 7, 192, 196, 0, .null, [], [])),
  (192, (.aload_n 0, 193, 0, 0, .null, [], [])),
  (193, (.invokevirtual 478, 196, 213, 0, .null, [], [2906, 2907, 2908, 5, 2909])),
  (196, (.return_, 197, 0, 0, .null, [], []))]
/-- yX11_stepsOfRaw -/
def zc_216 : List (Nat × zE) := [(0, (.iconst 0, 1, 0, 0, (.int 0), [], [])),
  (1, (.istore_n 1, 2, 1, 0, .null, [], [])),
  (2, (.iconst 0, 3, 0, 0, (.int 0), [], [])),
  (3, (.istore_n 2, 4, 2, 0, .null, [], [])),
  (4, (.iload_n 2, 5, 2, 0, .null, [], [])),
  (5, (.aload_n 0, 6, 0, 0, .null, [], [])),
  (6, (.getfield 455, 9, 11, 44, (.int 0), [], [2616])),
  (9, (.if_icmp .ge 108, 12, 117, 0, .null, [], [])),
  (12, (.aload_n 0, 13, 0, 0, .null, [], [])),
  (13, (.getfield 115, 16, 11, 43, (.int 3), [], [712])),
  (16, (.iload_n 2, 17, 2, 0, .null, [], [])),
  (17, (.iaload, 18, 0, 0, .null, [], [])),
  (18, (.istore_n 3, 19, 3, 0, .null, [], [])),
  (19, (.iload_n 3, 20, 3, 0, .null, [], [])),
  (20, (.iconst 4, 21, 0, 0, (.int 4), [], [])),
  (21, (.if_icmp .ge 16, 24, 37, 0, .null, [], [])),
  (24, (.aload_n 0, 25, 0, 0, .null, [], [])),
  (25, (.getfield 124, 28, 11, 48, (.int 3), [], [715])),
  (28, (.iload_n 1, 29, 1, 0, .null, [], [])),
  (29, (.iconst 1, 30, 0, 0, (.int 1), [], [])),
  (30, (.iastore, 31, 0, 0, .null, [], [])),
  (31, (.iinc 1 1, 34, 1, 0, (.int 1), [], [])),
  (34, (.goto 77, 37, 111, 0, .null, [], [])),
  (37, (.iload_n 3, 38, 3, 0, .null, [], [])),
  (38, (.bipush 6, 40, 0, 0, (.int 6), [], [])),
  (40, (.if_icmp .ge 41, 43, 81, 0, .null, [], [])),
  (43, (.iinc 1 (-1), 46, 1, 0, (.int (-1)), [], [])),
  (46, (.aload_n 0, 47, 0, 0, .null, [], [])),
  (47, (.getfield 124, 50, 11, 48, (.int 3), [], [715])),
  (50, (.iload_n 1, 51, 1, 0, .null, [], [])),
  (51, (.iconst 1, 52, 0, 0, (.int 1), [], [])),
  (52, (.isub, 53, 0, 0, .null, [], [])),
  (53, (.aload_n 0, 54, 0, 0, .null, [], [])),
  (54, (.getfield 124, 57, 11, 48, (.int 3), [], [715])),
  (57, (.iload_n 1, 58, 1, 0, .null, [], [])),
  (58, (.iconst 1, 59, 0, 0, (.int 1), [], [])),
  (59, (.isub, 60, 0, 0, .null, [], [])),
  (60, (.iaload, 61, 0, 0, .null, [], [])),
  (61, (.i2l, 62, 0, 0, .null, [], [])),
  (62, (.aload_n 0, 63, 0, 0, .null, [], [])),
  (63, (.getfield 124, 66, 11, 48, (.int 3), [], [715])),
  (66, (.iload_n 1, 67, 1, 0, .null, [], [])),
  (67, (.iaload, 68, 0, 0, .null, [], [])),
  (68, (.i2l, 69, 0, 0, .null, [], [])),
  (69, (.ladd, 70, 0, 0, .null, [], [])),
  (70, (.iconst 0, 71, 0, 0, (.int 0), [], [])),
  (71, (.ldc_w 481, 74, 0, 0, (.int 1000000), [], [2914])),
  (74, (.invokestatic 451, 77, 152, 3, .null, [], [1511, 1512, 5, 1513])),
  (77, (.iastore, 78, 0, 0, .null, [], [])),
  (78, (.goto 33, 81, 111, 0, .null, [], [])),
  (81, (.aload_n 0, 82, 0, 0, .null, [], [])),
  (82, (.getfield 124, 85, 11, 48, (.int 3), [], [715])),
  (85, (.iload_n 1, 86, 1, 0, .null, [], [])),
  (86, (.iconst 1, 87, 0, 0, (.int 1), [], [])),
  (87, (.isub, 88, 0, 0, .null, [], [])),
  (88, (.aload_n 0, 89, 0, 0, .null, [], [])),
  (89, (.getfield 124, 92, 11, 48, (.int 3), [], [715])),
  (92, (.iload_n 1, 93, 1, 0, .null, [], [])),
  (93, (.iconst 1, 94, 0, 0, (.int 1), [], [])),
  (94, (.isub, 95, 0, 0, .null, [], [])),
  (95, (.iaload, 96, 0, 0, .null, [], [])),
  (96, (.i2l, 97, 0, 0, .null, [], [])),
  (97, (.iload_n 3, 98, 3, 0, .null, [], [])),
  (98, (.bipush 6, 100, 0, 0, (.int 6), [], [])),
  (100, (.isub, 101, 0, 0, .null, [], [])),
  (101, (.i2l, 102, 0, 0, .null, [], [])),
  (102, (.lmul, 103, 0, 0, .null, [], [])),
  (103, (.iconst 0, 104, 0, 0, (.int 0), [], [])),
  (104, (.ldc_w 481, 107, 0, 0, (.int 1000000), [], [2914])),
  (107, (.invokestatic 451, 110, 152, 3, .null, [], [1511, 1512, 5, 1513])),
  (110, (.iastore, 111, 0, 0, .null, [], [])),
  (111, (.iinc 2 1, 114, 2, 0, (.int 1), [], [])),
  (114, (.goto (-110), 117, 4, 0, .null, [], [])),
  (117, (.aload_n 0, 118, 0, 0, .null, [], [])),
  (118, (.getfield 124, 121, 11, 48, (.int 3), [], [715])),
  (121, (.iconst 0, 122, 0, 0, (.int 0), [], [])),
  (122, (.iaload, 123, 0, 0, .null, [], [])),
  (123, (.ireturn, 124, 0, 0, .null, [], []))]
/-- yX11_writeOut -/
def zc_217 : List (Nat × zE) := [(0, (.iconst 0, 1, 0, 0, (.int 0), [], [])),
  (1, (.istore_n 1, 2, 1, 0, .null, [], [])),
  (2, (.iconst 0, 3, 0, 0, (.int 0), [], [])),
  (3, (.istore_n 2, 4, 2, 0, .null, [], [])),
  (4, (.iconst 0, 5, 0, 0, (.int 0), [], [])),
  (5, (.istore_n 3, 6, 3, 0, .null, [], [])),
  (6, (.iload_n 3, 7, 3, 0, .null, [], [])),
  (7, (.aload_n 0, 8, 0, 0, .null, [], [])),
  (8, (.getfield 455, 11, 11, 44, (.int 0), [], [2616])),
  (11, (.if_icmp .ge 90, 14, 101, 0, .null, [], [])),
  (14, (.aload_n 0, 15, 0, 0, .null, [], [])),
  (15, (.getfield 115, 18, 11, 43, (.int 3), [], [712])),
  (18, (.iload_n 3, 19, 3, 0, .null, [], [])),
  (19, (.iaload, 20, 0, 0, .null, [], [])),
  (20, (.istore 4, 22, 4, 0, .null, [], [])),
  (22, (.iload 4, 24, 4, 0, .null, [], [])),
  (24, (.iconst 4, 25, 0, 0, (.int 4), [], [])),
  (25, (.if_icmp .ge 27, 28, 52, 0, .null, [], [])),
  (28, (.aload_n 0, 29, 0, 0, .null, [], [])),
  (29, (.getfield 124, 32, 11, 48, (.int 3), [], [715])),
  (32, (.iload_n 2, 33, 2, 0, .null, [], [])),
  (33, (.iload_n 1, 34, 1, 0, .null, [], [])),
  (34, (.iastore, 35, 0, 0, .null, [], [])),
  (35, (.iinc 2 1, 38, 2, 0, (.int 1), [], [])),
  (38, (.aload_n 0, 39, 0, 0, .null, [], [])),
  (39, (.getfield 127, 42, 11, 49, (.int 3), [], [716])),
  (42, (.iload_n 1, 43, 1, 0, .null, [], [])),
  (43, (.iload 4, 45, 4, 0, .null, [], [])),
  (45, (.iastore, 46, 0, 0, .null, [], [])),
  (46, (.iinc 1 1, 49, 1, 0, (.int 1), [], [])),
  (49, (.goto 46, 52, 95, 0, .null, [], [])),
  (52, (.iload 4, 54, 4, 0, .null, [], [])),
  (54, (.bipush 6, 56, 0, 0, (.int 6), [], [])),
  (56, (.if_icmp .ge 20, 59, 76, 0, .null, [], [])),
  (59, (.iinc 2 (-1), 62, 2, 0, (.int (-1)), [], [])),
  (62, (.aload_n 0, 63, 0, 0, .null, [], [])),
  (63, (.getfield 127, 66, 11, 49, (.int 3), [], [716])),
  (66, (.iload_n 1, 67, 1, 0, .null, [], [])),
  (67, (.iload 4, 69, 4, 0, .null, [], [])),
  (69, (.iastore, 70, 0, 0, .null, [], [])),
  (70, (.iinc 1 1, 73, 1, 0, (.int 1), [], [])),
  (73, (.goto 22, 76, 95, 0, .null, [], [])),
  (76, (.aload_n 0, 77, 0, 0, .null, [], [])),
  (77, (.aload_n 0, 78, 0, 0, .null, [], [])),
  (78, (.getfield 124, 81, 11, 48, (.int 3), [], [715])),
  (81, (.iload_n 2, 82, 2, 0, .null, [], [])),
  (82, (.iconst 1, 83, 0, 0, (.int 1), [], [])),
  (83, (.isub, 84, 0, 0, .null, [], [])),
  (84, (.iaload, 85, 0, 0, .null, [], [])),
  (85, (.iload_n 1, 86, 1, 0, .null, [], [])),
  (86, (.iload 4, 88, 4, 0, .null, [], [])),
  (88, (.bipush 6, 90, 0, 0, (.int 6), [], [])),
  (90, (.isub, 91, 0, 0, .null, [], [])),
  (91, (.invokevirtual 482, 94, 218, 3, .null, [], [2919, 2920, 2921, 5, 2922])),
  (94, (.istore_n 1, 95, 1, 0, .null, [], [])),
  (95, (.iinc 3 1, 98, 3, 0, (.int 1), [], [])),
  (98, (.goto (-92), 101, 6, 0, .null, [], [])),
  (101, (.iload_n 1, 102, 1, 0, .null, [], [])),
  (102, (.ireturn, 103, 0, 0, .null, [], []))]
/-- yX11_repeat -/
def zc_218 : List (Nat × zE) := [(0, (.iload_n 2, 1, 2, 0, .null, [], [])),
  (1, (.istore 4, 3, 4, 0, .null, [], [])),
  (3, (.iconst 1, 4, 0, 0, (.int 1), [], [])),
  (4, (.istore 5, 6, 5, 0, .null, [], [])),
  (6, (.iload 5, 8, 5, 0, .null, [], [])),
  (8, (.iload_n 3, 9, 3, 0, .null, [], [])),
  (9, (.if_icmp .ge 52, 12, 61, 0, .null, [], [])),
  (12, (.iload_n 1, 13, 1, 0, .null, [], [])),
  (13, (.istore 6, 15, 6, 0, .null, [], [])),
  (15, (.iload 6, 17, 6, 0, .null, [], [])),
  (17, (.iload_n 2, 18, 2, 0, .null, [], [])),
  (18, (.if_icmp .ge 26, 21, 44, 0, .null, [], [])),
  (21, (.aload_n 0, 22, 0, 0, .null, [], [])),
  (22, (.getfield 127, 25, 11, 49, (.int 3), [], [716])),
  (25, (.iload 4, 27, 4, 0, .null, [], [])),
  (27, (.aload_n 0, 28, 0, 0, .null, [], [])),
  (28, (.getfield 127, 31, 11, 49, (.int 3), [], [716])),
  (31, (.iload 6, 33, 6, 0, .null, [], [])),
  (33, (.iaload, 34, 0, 0, .null, [], [])),
  (34, (.iastore, 35, 0, 0, .null, [], [])),
  (35, (.iinc 4 1, 38, 4, 0, (.int 1), [], [])),
  (38, (.iinc 6 1, 41, 6, 0, (.int 1), [], [])),
  (41, (.goto (-26), 44, 15, 0, .null, [], [])),
  (44, (.aload_n 0, 45, 0, 0, .null, [], [])),
  (45, (.getfield 127, 48, 11, 49, (.int 3), [], [716])),
  (48, (.iload 4, 50, 4, 0, .null, [], [])),
  (50, (.iconst 4, 51, 0, 0, (.int 4), [], [])),
  (51, (.iastore, 52, 0, 0, .null, [], [])),
  (52, (.iinc 4 1, 55, 4, 0, (.int 1), [], [])),
  (55, (.iinc 5 1, 58, 5, 0, (.int 1), [], [])),
  (58, (.goto (-52), 61, 6, 0, .null, [], [])),
  (61, (.iload 4, 63, 4, 0, .null, [], [])),
  (63, (.ireturn, 64, 0, 0, .null, [], []))]
/-- yX11_metre -/
def zc_219 : List (Nat × zE) := [(0, (.aload_n 0, 1, 0, 0, .null, [], [])),
  (1, (.iconst 0, 2, 0, 0, (.int 0), [], [])),
  (2, (.putfield 190, 5, 11, 0, (.int 0), [], [919])),
  (5, (.aload_n 0, 6, 0, 0, .null, [], [])),
  (6, (.getfield 13, 9, 11, 3, (.int 3), [], [520])),
  (9, (.iconst 1, 10, 0, 0, (.int 1), [], [])),
  (10, (.iaload, 11, 0, 0, .null, [], [])),
  (11, (.bipush 6, 13, 0, 0, (.int 6), [], [])),
  (13, (.if_icmp .ne 15, 16, 28, 0, .null, [], [])),
  (16, (.aload_n 0, 17, 0, 0, .null, [], [])),
  (17, (.iconst 0, 18, 0, 0, (.int 0), [], [])),
  (18, (.putfield 252, 21, 11, 13, (.int 0), [], [1705])),
  (21, (.aload_n 0, 22, 0, 0, .null, [], [])),
  (22, (.bipush (-5), 24, 0, 0, (.int (-5)), [], [])),
  (24, (.invokevirtual 199, 27, 153, 1, .null, [], [1009, 1010, 1011, 5, 1012])),
  (27, (.ireturn, 28, 0, 0, .null, [], [])),
  (28, (.aload_n 0, 29, 0, 0, .null, [], [])),
  (29, (.invokevirtual 485, 32, 215, 0, .null, [], [2612, 2613, 2614, 5, 2615])),
  (32, (.aload_n 0, 33, 0, 0, .null, [], [])),
  (33, (.getfield 264, 36, 11, 19, (.int 1), [], [2611])),
  (36, (.ifCond .ne 18, 39, 54, 0, .null, [], [])),
  (39, (.aload_n 0, 40, 0, 0, .null, [], [])),
  (40, (.invokevirtual 488, 43, 216, 0, .null, [], [2910, 2911, 2912, 5, 2913])),
  (43, (.sipush 200, 46, 0, 0, (.int 200), [], [])),
  (46, (.if_icmp .le 8, 49, 54, 0, .null, [], [])),
  (49, (.aload_n 0, 50, 0, 0, .null, [], [])),
  (50, (.iconst 0, 51, 0, 0, (.int 0), [], [])),
  (51, (.invokevirtual 297, 54, 179, 1, .null, [], [2805, 2806, 2807, 5, 2808])),
  (54, (.aload_n 0, 55, 0, 0, .null, [], [])),
  (55, (.iconst 0, 56, 0, 0, (.int 0), [], [])),
  (56, (.putfield 252, 59, 11, 13, (.int 0), [], [1705])),
  (59, (.aload_n 0, 60, 0, 0, .null, [], [])),
  (60, (.getfield 264, 63, 11, 19, (.int 1), [], [2611])),
  (63, (.ifCond .eq 10, 66, 73, 0, .null, [], [])),
  (66, (.aload_n 0, 67, 0, 0, .null, [], [])),
  (67, (.bipush (-6), 69, 0, 0, (.int (-6)), [], [])),
  (69, (.invokevirtual 199, 72, 153, 1, .null, [], [1009, 1010, 1011, 5, 1012])),
  (72, (.ireturn, 73, 0, 0, .null, [], [])),
  (73, (.bipush 80, 75, 0, 0, (.int 80), [], [])),
  (75, (.sipush 402, 78, 0, 0, (.int 402), [], [])),
  (78, (.aload_n 0, 79, 0, 0, .null, [], [])),
  (79, (.getfield 13, 82, 11, 3, (.int 3), [], [520])),
  (82, (.iconst 1, 83, 0, 0, (.int 1), [], [])),
  (83, (.iaload, 84, 0, 0, .null, [], [])),
  (84, (.imul, 85, 0, 0, .null, [], [])),
  (85, (.iadd, 86, 0, 0, .null, [], [])),
  (86, (.istore_n 1, 87, 1, 0, .null, [], [])),
  (87, (.aload_n 0, 88, 0, 0, .null, [], [])),
  (88, (.invokevirtual 491, 91, 217, 0, .null, [], [2915, 2916, 2917, 5, 2918])),
  (91, (.istore_n 2, 92, 2, 0, .null, [], [])),
  (92, (.aload_n 0, 93, 0, 0, .null, [], [])),
  (93, (.getfield 13, 96, 11, 3, (.int 3), [], [520])),
  (96, (.iload_n 1, 97, 1, 0, .null, [], [])),
  (97, (.iload_n 2, 98, 2, 0, .null, [], [])),
  (98, (.iastore, 99, 0, 0, .null, [], [])),
  (99, (.iconst 0, 100, 0, 0, (.int 0), [], [])),
  (100, (.istore_n 3, 101, 3, 0, .null, [], [])),
  (101, (.iload_n 3, 102, 3, 0, .null, [], [])),
  (102, (.iload_n 2, 103, 2, 0, .null, [], [])),
  (103, (.if_icmp .ge 25, 106, 128, 0, .null, [], [])),
  (106, (.aload_n 0, 107, 0, 0, .null, [], [])),
  (107, (.getfield 13, 110, 11, 3, (.int 3), [], [520])),
  (110, (.iload_n 1, 111, 1, 0, .null, [], [])),
  (111, (.iconst 1, 112, 0, 0, (.int 1), [], [])),
  (112, (.iadd, 113, 0, 0, .null, [], [])),
  (113, (.iload_n 3, 114, 3, 0, .null, [], [])),
  (114, (.iadd, 115, 0, 0, .null, [], [])),
  (115, (.aload_n 0, 116, 0, 0, .null, [], [])),
  (116, (.getfield 127, 119, 11, 49, (.int 3), [], [716])),
  (119, (.iload_n 3, 120, 3, 0, .null, [], [])),
  (120, (.iaload, 121, 0, 0, .null, [], [])),
  (121, (.iastore, 122, 0, 0, .null, [], [])),
  (122, (.iinc 3 1, 125, 3, 0, (.int 1), [], [])),
  (125, (.goto (-24), 128, 101, 0, .null, [], [])),
  (128, (.aload_n 0, 129, 0, 0, .null, [], [])),
  (129, (.getfield 13, 132, 11, 3, (.int 3), [], [520])),
  (132, (.iconst 1, 133, 0, 0, (.int 1), [], [])),
  (133, (.dup2, 134, 0, 0, .null, [], [])),
  (134, (.iaload, 135, 0, 0, .null, [], [])),
  (135, (.iconst 1, 136, 0, 0, (.int 1), [], [])),
  (136, (.iadd, 137, 0, 0, .null, [], [])),
  (137, (.iastore, 138, 0, 0, .null, [], [])),
  (138, (.aload_n 0, 139, 0, 0, .null, [], [])),
  (139, (.aload_n 0, 140, 0, 0, .null, [], [])),
  (140, (.getfield 13, 143, 11, 3, (.int 3), [], [520])),
  (143, (.iconst 1, 144, 0, 0, (.int 1), [], [])),
  (144, (.iaload, 145, 0, 0, .null, [], [])),
  (145, (.iconst 1, 146, 0, 0, (.int 1), [], [])),
  (146, (.isub, 147, 0, 0, .null, [], [])),
  (147, (.invokevirtual 199, 150, 153, 1, .null, [], [1009, 1010, 1011, 5, 1012])),
  (150, (.ireturn, 151, 0, 0, .null, [], []))]
/-- yX11_layMetre -/
def zc_220 : List (Nat × zE) := [(0, (.bipush 80, 2, 0, 0, (.int 80), [], [])),
  (2, (.sipush 402, 5, 0, 0, (.int 402), [], [])),
  (5, (.iload_n 1, 6, 1, 0, .null, [], [])),
  (6, (.imul, 7, 0, 0, .null, [], [])),
  (7, (.iadd, 8, 0, 0, .null, [], [])),
  (8, (.istore_n 2, 9, 2, 0, .null, [], [])),
  (9, (.aload_n 0, 10, 0, 0, .null, [], [])),
  (10, (.iconst 0, 11, 0, 0, (.int 0), [], [])),
  (11, (.putfield 494, 14, 11, 51, (.int 0), [], [4219])),
  (14, (.iconst 0, 15, 0, 0, (.int 0), [], [])),
  (15, (.istore_n 3, 16, 3, 0, .null, [], [])),
  (16, (.iconst 0, 17, 0, 0, (.int 0), [], [])),
  (17, (.istore 4, 19, 4, 0, .null, [], [])),
  (19, (.iload 4, 21, 4, 0, .null, [], [])),
  (21, (.aload_n 0, 22, 0, 0, .null, [], [])),
  (22, (.getfield 13, 25, 11, 3, (.int 3), [], [520])),
  (25, (.iload_n 2, 26, 2, 0, .null, [], [])),
  (26, (.iaload, 27, 0, 0, .null, [], [])),
  (27, (.if_icmp .ge 151, 30, 178, 0, .null, [], [])),
  (30, (.aload_n 0, 31, 0, 0, .null, [], [])),
  (31, (.getfield 13, 34, 11, 3, (.int 3), [], [520])),
  (34, (.iload_n 2, 35, 2, 0, .null, [], [])),
  (35, (.iconst 1, 36, 0, 0, (.int 1), [], [])),
  (36, (.iadd, 37, 0, 0, .null, [], [])),
  (37, (.iload 4, 39, 4, 0, .null, [], [])),
  (39, (.iadd, 40, 0, 0, .null, [], [])),
  (40, (.iaload, 41, 0, 0, .null, [], [])),
  (41, (.istore 5, 43, 5, 0, .null, [], [])),
  (43, (.iload 5, 45, 5, 0, .null, [], [])),
  (45, (.iconst 4, 46, 0, 0, (.int 4), [], [])),
  (46, (.if_icmp .ge 95, 49, 141, 0, .null, [], [])),
  (49, (.aload_n 0, 50, 0, 0, .null, [], [])),
  (50, (.dup, 51, 0, 0, .null, [], [])),
  (51, (.getfield 494, 54, 11, 51, (.int 0), [], [4219])),
  (54, (.iconst 1, 55, 0, 0, (.int 1), [], [])),
  (55, (.iadd, 56, 0, 0, .null, [], [])),
  (56, (.putfield 494, 59, 11, 51, (.int 0), [], [4219])),
  (59, (.aload_n 0, 60, 0, 0, .null, [], [])),
  (60, (.getfield 124, 63, 11, 48, (.int 3), [], [715])),
  (63, (.iload_n 3, 64, 3, 0, .null, [], [])),
  (64, (.aload_n 0, 65, 0, 0, .null, [], [])),
  (65, (.getfield 494, 68, 11, 51, (.int 0), [], [4219])),
  (68, (.iastore, 69, 0, 0, .null, [], [])),
  (69, (.iinc 3 1, 72, 3, 0, (.int 1), [], [])),
  (72, (.aload_n 0, 73, 0, 0, .null, [], [])),
  (73, (.getfield 130, 76, 11, 50, (.int 3), [], [717])),
  (76, (.aload_n 0, 77, 0, 0, .null, [], [])),
  (77, (.getfield 494, 80, 11, 51, (.int 0), [], [4219])),
  (80, (.iload 5, 82, 5, 0, .null, [], [])),
  (82, (.iastore, 83, 0, 0, .null, [], [])),
  (83, (.aload_n 0, 84, 0, 0, .null, [], [])),
  (84, (.getfield 137, 87, 11, 53, (.int 3), [], [720])),
  (87, (.aload_n 0, 88, 0, 0, .null, [], [])),
  (88, (.getfield 494, 91, 11, 51, (.int 0), [], [4219])),
  (91, (.iconst 1, 92, 0, 0, (.int 1), [], [])),
  (92, (.bastore, 93, 0, 0, .null, [], [])),
  (93, (.aload_n 0, 94, 0, 0, .null, [], [])),
  (94, (.getfield 140, 97, 11, 54, (.int 3), [], [721])),
  (97, (.aload_n 0, 98, 0, 0, .null, [], [])),
  (98, (.getfield 494, 101, 11, 51, (.int 0), [], [4219])),
  (101, (.iconst 1, 102, 0, 0, (.int 1), [], [])),
  (102, (.bastore, 103, 0, 0, .null, [], [])),
  (103, (.iconst 0, 104, 0, 0, (.int 0), [], [])),
  (104, (.istore 6, 106, 6, 0, .null, [], [])),
  (106, (.iload 6, 108, 6, 0, .null, [], [])),
  (108, (.aload_n 0, 109, 0, 0, .null, [], [])),
  (109, (.getfield 494, 112, 11, 51, (.int 0), [], [4219])),
  (112, (.if_icmp .ge 26, 115, 138, 0, .null, [], [])),
  (115, (.aload_n 0, 116, 0, 0, .null, [], [])),
  (116, (.getfield 134, 119, 11, 52, (.int 3), [], [719])),
  (119, (.sipush 201, 122, 0, 0, (.int 201), [], [])),
  (122, (.iload 6, 124, 6, 0, .null, [], [])),
  (124, (.imul, 125, 0, 0, .null, [], [])),
  (125, (.aload_n 0, 126, 0, 0, .null, [], [])),
  (126, (.getfield 494, 129, 11, 51, (.int 0), [], [4219])),
  (129, (.iadd, 130, 0, 0, .null, [], [])),
  (130, (.iconst 0, 131, 0, 0, (.int 0), [], [])),
  (131, (.bastore, 132, 0, 0, .null, [], [])),
  (132, (.iinc 6 1, 135, 6, 0, (.int 1), [], [])),
  (135, (.goto (-29), 138, 106, 0, .null, [], [])),
  (138, (.goto 34, 141, 172, 0, .null, [], [])),
  (141, (.iinc 3 (-1), 144, 3, 0, (.int (-1)), [], [])),
  (144, (.iload 5, 146, 5, 0, .null, [], [])),
  (146, (.iconst 4, 147, 0, 0, (.int 4), [], [])),
  (147, (.if_icmp .ne 25, 150, 172, 0, .null, [], [])),
  (150, (.aload_n 0, 151, 0, 0, .null, [], [])),
  (151, (.aload_n 0, 152, 0, 0, .null, [], [])),
  (152, (.getfield 124, 155, 11, 48, (.int 3), [], [715])),
  (155, (.iload_n 3, 156, 3, 0, .null, [], [])),
  (156, (.iconst 1, 157, 0, 0, (.int 1), [], [])),
  (157, (.isub, 158, 0, 0, .null, [], [])),
  (158, (.iaload, 159, 0, 0, .null, [], [])),
  (159, (.aload_n 0, 160, 0, 0, .null, [], [])),
  (160, (.getfield 124, 163, 11, 48, (.int 3), [], [715])),
  (163, (.iload_n 3, 164, 3, 0, .null, [], [])),
  (164, (.iaload, 165, 0, 0, .null, [], [])),
  (165, (.aload_n 0, 166, 0, 0, .null, [], [])),
  (166, (.getfield 494, 169, 11, 51, (.int 0), [], [4219])),
  (169, (.invokevirtual 497, 172, 221, 3, .null, [], [4220, 4221, 4222, 5, 4223])),
  (172, (.iinc 4 1, 175, 4, 0, (.int 1), [], [])),
  (175, (.goto (-156), 178, 19, 0, .null, [], [])),
  (178, (.iconst 1, 179, 0, 0, (.int 1), [], [])),
  (179, (.istore 4, 181, 4, 0, .null, [], [])),
  (181, (.iload 4, 183, 4, 0, .null, [], [])),
  (183, (.aload_n 0, 184, 0, 0, .null, [], [])),
  (184, (.getfield 494, 187, 11, 51, (.int 0), [], [4219])),
  (187, (.if_icmp .gt 23, 190, 210, 0, .null, [], [])),
  (190, (.aload_n 0, 191, 0, 0, .null, [], [])),
  (191, (.getfield 134, 194, 11, 52, (.int 3), [], [719])),
  (194, (.iload 4, 196, 4, 0, .null, [], [])),
  (196, (.aload_n 0, 197, 0, 0, .null, [], [])),
  (197, (.getfield 137, 200, 11, 53, (.int 3), [], [720])),
  (200, (.iload 4, 202, 4, 0, .null, [], [])),
  (202, (.baload, 203, 0, 0, .null, [], [])),
  (203, (.bastore, 204, 0, 0, .null, [], [])),
  (204, (.iinc 4 1, 207, 4, 0, (.int 1), [], [])),
  (207, (.goto (-26), 210, 181, 0, .null, [], [])),
  (210, (.return_, 211, 0, 0, .null, [], []))]
/-- yX11_join -/
def zc_221 : List (Nat × zE) := [(0, (.iload_n 1, 1, 1, 0, .null, [], [])),
  (1, (.istore 4, 3, 4, 0, .null, [], [])),
  (3, (.iload 4, 5, 4, 0, .null, [], [])),
  (5, (.iload_n 2, 6, 2, 0, .null, [], [])),
  (6, (.if_icmp .ge 63, 9, 69, 0, .null, [], [])),
  (9, (.iload_n 2, 10, 2, 0, .null, [], [])),
  (10, (.istore 5, 12, 5, 0, .null, [], [])),
  (12, (.iload 5, 14, 5, 0, .null, [], [])),
  (14, (.iload_n 3, 15, 3, 0, .null, [], [])),
  (15, (.if_icmp .gt 40, 18, 55, 0, .null, [], [])),
  (18, (.aload_n 0, 19, 0, 0, .null, [], [])),
  (19, (.getfield 140, 22, 11, 54, (.int 3), [], [721])),
  (22, (.iload 4, 24, 4, 0, .null, [], [])),
  (24, (.baload, 25, 0, 0, .null, [], [])),
  (25, (.ifCond .eq 30, 28, 55, 0, .null, [], [])),
  (28, (.aload_n 0, 29, 0, 0, .null, [], [])),
  (29, (.getfield 134, 32, 11, 52, (.int 3), [], [719])),
  (32, (.sipush 201, 35, 0, 0, (.int 201), [], [])),
  (35, (.iload 4, 37, 4, 0, .null, [], [])),
  (37, (.imul, 38, 0, 0, .null, [], [])),
  (38, (.iload 5, 40, 5, 0, .null, [], [])),
  (40, (.iadd, 41, 0, 0, .null, [], [])),
  (41, (.aload_n 0, 42, 0, 0, .null, [], [])),
  (42, (.getfield 137, 45, 11, 53, (.int 3), [], [720])),
  (45, (.iload 5, 47, 5, 0, .null, [], [])),
  (47, (.baload, 48, 0, 0, .null, [], [])),
  (48, (.bastore, 49, 0, 0, .null, [], [])),
  (49, (.iinc 5 1, 52, 5, 0, (.int 1), [], [])),
  (52, (.goto (-40), 55, 12, 0, .null, [], [])),
  (55, (.aload_n 0, 56, 0, 0, .null, [], [])),
  (56, (.getfield 140, 59, 11, 54, (.int 3), [], [721])),
  (59, (.iload 4, 61, 4, 0, .null, [], [])),
  (61, (.iconst 0, 62, 0, 0, (.int 0), [], [])),
  (62, (.bastore, 63, 0, 0, .null, [], [])),
  (63, (.iinc 4 1, 66, 4, 0, (.int 1), [], [])),
  (66, (.goto (-63), 69, 3, 0, .null, [], [])),
  (69, (.iload_n 2, 70, 2, 0, .null, [], [])),
  (70, (.istore 4, 72, 4, 0, .null, [], [])),
  (72, (.iload 4, 74, 4, 0, .null, [], [])),
  (74, (.iload_n 3, 75, 3, 0, .null, [], [])),
  (75, (.if_icmp .gt 17, 78, 92, 0, .null, [], [])),
  (78, (.aload_n 0, 79, 0, 0, .null, [], [])),
  (79, (.getfield 137, 82, 11, 53, (.int 3), [], [720])),
  (82, (.iload 4, 84, 4, 0, .null, [], [])),
  (84, (.iconst 0, 85, 0, 0, (.int 0), [], [])),
  (85, (.bastore, 86, 0, 0, .null, [], [])),
  (86, (.iinc 4 1, 89, 4, 0, (.int 1), [], [])),
  (89, (.goto (-17), 92, 72, 0, .null, [], [])),
  (92, (.return_, 93, 0, 0, .null, [], []))]
/-- yX11_isOver -/
def zc_222 : List (Nat × zE) := [(0, (.iload_n 1, 1, 1, 0, .null, [], [])),
  (1, (.ifCond .le 16, 4, 17, 0, .null, [], [])),
  (4, (.aload_n 0, 5, 0, 0, .null, [], [])),
  (5, (.getfield 140, 8, 11, 54, (.int 3), [], [721])),
  (8, (.iload_n 1, 9, 1, 0, .null, [], [])),
  (9, (.baload, 10, 0, 0, .null, [], [])),
  (10, (.ifCond .eq 7, 13, 17, 0, .null, [], [])),
  (13, (.iconst 1, 14, 0, 0, (.int 1), [], [])),
  (14, (.goto 4, 17, 18, 0, .null, [], [])),
  (17, (.iconst 0, 18, 0, 0, (.int 0), [], [])),
  (18, (.ireturn, 19, 1, 0, .null, [], []))]
/-- yX11_layPrices -/
def zc_223 : List (Nat × zE) := [(0, (.iconst 0, 1, 0, 0, (.int 0), [], [])),
  (1, (.istore_n 2, 2, 2, 0, .null, [], [])),
  (2, (.iload_n 2, 3, 2, 0, .null, [], [])),
  (3, (.aload_n 0, 4, 0, 0, .null, [], [])),
  (4, (.getfield 13, 7, 11, 3, (.int 3), [], [520])),
  (7, (.iconst 0, 8, 0, 0, (.int 0), [], [])),
  (8, (.iaload, 9, 0, 0, .null, [], [])),
  (9, (.if_icmp .ge 94, 12, 103, 0, .null, [], [])),
  (12, (.iconst 0, 13, 0, 0, (.int 0), [], [])),
  (13, (.istore_n 3, 14, 3, 0, .null, [], [])),
  (14, (.iload_n 3, 15, 3, 0, .null, [], [])),
  (15, (.iconst 3, 16, 0, 0, (.int 3), [], [])),
  (16, (.if_icmp .ge 81, 19, 97, 0, .null, [], [])),
  (19, (.aload_n 0, 20, 0, 0, .null, [], [])),
  (20, (.iload_n 2, 21, 2, 0, .null, [], [])),
  (21, (.iload_n 3, 22, 3, 0, .null, [], [])),
  (22, (.invokevirtual 231, 25, 207, 2, .null, [], [1322, 1323, 1400, 5, 1401])),
  (25, (.istore 4, 27, 4, 0, .null, [], [])),
  (27, (.iload_n 1, 28, 1, 0, .null, [], [])),
  (28, (.ifCond .ne 12, 31, 40, 0, .null, [], [])),
  (31, (.aload_n 0, 32, 0, 0, .null, [], [])),
  (32, (.iload_n 2, 33, 2, 0, .null, [], [])),
  (33, (.iload_n 3, 34, 3, 0, .null, [], [])),
  (34, (.invokevirtual 239, 37, 208, 2, .null, [], [1507, 1508, 1509, 5, 1510])),
  (37, (.goto 15, 40, 52, 0, .null, [], [])),
  (40, (.iload_n 1, 41, 1, 0, .null, [], [])),
  (41, (.iconst 1, 42, 0, 0, (.int 1), [], [])),
  (42, (.if_icmp .ne 9, 45, 51, 0, .null, [], [])),
  (45, (.iload_n 3, 46, 3, 0, .null, [], [])),
  (46, (.iconst 2, 47, 0, 0, (.int 2), [], [])),
  (47, (.idiv, 48, 0, 0, .null, [], [])),
  (48, (.goto 4, 51, 52, 0, .null, [], [])),
  (51, (.iconst 0, 52, 0, 0, (.int 0), [], [])),
  (52, (.istore 5, 54, 5, 0, .null, [], [])),
  (54, (.aload_n 0, 55, 0, 0, .null, [], [])),
  (55, (.getfield 143, 58, 11, 55, (.int 3), [], [722])),
  (58, (.iconst 3, 59, 0, 0, (.int 3), [], [])),
  (59, (.iload_n 2, 60, 2, 0, .null, [], [])),
  (60, (.imul, 61, 0, 0, .null, [], [])),
  (61, (.iload_n 3, 62, 3, 0, .null, [], [])),
  (62, (.iadd, 63, 0, 0, .null, [], [])),
  (63, (.iload 4, 65, 4, 0, .null, [], [])),
  (65, (.ifCond .eq 8, 68, 73, 0, .null, [], [])),
  (68, (.iload 5, 70, 5, 0, .null, [], [])),
  (70, (.goto 20, 73, 90, 0, .null, [], [])),
  (73, (.iload_n 1, 74, 1, 0, .null, [], [])),
  (74, (.iconst 2, 75, 0, 0, (.int 2), [], [])),
  (75, (.if_icmp .ne 12, 78, 87, 0, .null, [], [])),
  (78, (.iload_n 3, 79, 3, 0, .null, [], [])),
  (79, (.iconst 2, 80, 0, 0, (.int 2), [], [])),
  (80, (.if_icmp .ge 7, 83, 87, 0, .null, [], [])),
  (83, (.iconst 1, 84, 0, 0, (.int 1), [], [])),
  (84, (.goto 6, 87, 90, 0, .null, [], [])),
  (87, (.ldc_w 501, 90, 0, 0, (.int 100000000), [], [4214])),
  (90, (.iastore, 91, 0, 0, .null, [], [])),
  (91, (.iinc 3 1, 94, 3, 0, (.int 1), [], [])),
  (94, (.goto (-80), 97, 14, 0, .null, [], [])),
  (97, (.iinc 2 1, 100, 2, 0, (.int 1), [], [])),
  (100, (.goto (-98), 103, 2, 0, .null, [], [])),
  (103, (.return_, 104, 0, 0, .null, [], []))]
/-- yX11_stepPrice -/
def zc_224 : List (Nat × zE) := [(0, (.aload_n 0, 1, 0, 0, .null, [], [])),
  (1, (.getfield 143, 4, 11, 55, (.int 3), [], [722])),
  (4, (.iconst 3, 5, 0, 0, (.int 3), [], [])),
  (5, (.iload_n 1, 6, 1, 0, .null, [], [])),
  (6, (.imul, 7, 0, 0, .null, [], [])),
  (7, (.iconst 1, 8, 0, 0, (.int 1), [], [])),
  (8, (.iadd, 9, 0, 0, .null, [], [])),
  (9, (.iaload, 10, 0, 0, .null, [], [])),
  (10, (.istore_n 3, 11, 3, 0, .null, [], [])),
  (11, (.aload_n 0, 12, 0, 0, .null, [], [])),
  (12, (.getfield 143, 15, 11, 55, (.int 3), [], [722])),
  (15, (.iconst 3, 16, 0, 0, (.int 3), [], [])),
  (16, (.iload_n 1, 17, 1, 0, .null, [], [])),
  (17, (.imul, 18, 0, 0, .null, [], [])),
  (18, (.iaload, 19, 0, 0, .null, [], [])),
  (19, (.istore 4, 21, 4, 0, .null, [], [])),
  (21, (.iload_n 2, 22, 2, 0, .null, [], [])),
  (22, (.ifCond .ne 7, 25, 29, 0, .null, [], [])),
  (25, (.iload_n 3, 26, 3, 0, .null, [], [])),
  (26, (.goto 25, 29, 51, 0, .null, [], [])),
  (29, (.iload_n 2, 30, 2, 0, .null, [], [])),
  (30, (.iconst 1, 31, 0, 0, (.int 1), [], [])),
  (31, (.if_icmp .ne 8, 34, 39, 0, .null, [], [])),
  (34, (.iload 4, 36, 4, 0, .null, [], [])),
  (36, (.goto 15, 39, 51, 0, .null, [], [])),
  (39, (.iload_n 3, 40, 3, 0, .null, [], [])),
  (40, (.iload 4, 42, 4, 0, .null, [], [])),
  (42, (.if_icmp .ge 7, 45, 49, 0, .null, [], [])),
  (45, (.iload_n 3, 46, 3, 0, .null, [], [])),
  (46, (.goto 5, 49, 51, 0, .null, [], [])),
  (49, (.iload 4, 51, 4, 0, .null, [], [])),
  (51, (.ireturn, 52, 0, 0, .null, [], []))]
/-- yX11_canCut -/
def zc_225 : List (Nat × zE) := [(0, (.iload_n 1, 1, 1, 0, .null, [], [])),
  (1, (.ifCond .eq 18, 4, 19, 0, .null, [], [])),
  (4, (.aload_n 0, 5, 0, 0, .null, [], [])),
  (5, (.getfield 13, 8, 11, 3, (.int 3), [], [520])),
  (8, (.bipush 28, 10, 0, 0, (.int 28), [], [])),
  (10, (.iload_n 1, 11, 1, 0, .null, [], [])),
  (11, (.iadd, 12, 0, 0, .null, [], [])),
  (12, (.iconst 1, 13, 0, 0, (.int 1), [], [])),
  (13, (.isub, 14, 0, 0, .null, [], [])),
  (14, (.iaload, 15, 0, 0, .null, [], [])),
  (15, (.iconst 1, 16, 0, 0, (.int 1), [], [])),
  (16, (.if_icmp .ne 7, 19, 23, 0, .null, [], [])),
  (19, (.iconst 1, 20, 0, 0, (.int 1), [], [])),
  (20, (.goto 4, 23, 24, 0, .null, [], [])),
  (23, (.iconst 0, 24, 0, 0, (.int 0), [], [])),
  (24, (.ireturn, 25, 1, 0, .null, [], []))]
/-- yX11_leftFrom -/
def zc_226 : List (Nat × zE) := [(0, (.aload_n 0, 1, 0, 0, .null, [], [])),
  (1, (.getfield 13, 4, 11, 3, (.int 3), [], [520])),
  (4, (.iconst 0, 5, 0, 0, (.int 0), [], [])),
  (5, (.iaload, 6, 0, 0, .null, [], [])),
  (6, (.istore_n 3, 7, 3, 0, .null, [], [])),
  (7, (.iload_n 1, 8, 1, 0, .null, [], [])),
  (8, (.iload_n 3, 9, 3, 0, .null, [], [])),
  (9, (.if_icmp .ne 15, 12, 24, 0, .null, [], [])),
  (12, (.aload_n 0, 13, 0, 0, .null, [], [])),
  (13, (.iload_n 2, 14, 2, 0, .null, [], [])),
  (14, (.invokevirtual 502, 17, 222, 1, .null, [], [4312, 4313, 4314, 5, 4315])),
  (17, (.ifCond .eq 7, 20, 24, 0, .null, [], [])),
  (20, (.iconst 0, 21, 0, 0, (.int 0), [], [])),
  (21, (.goto 6, 24, 27, 0, .null, [], [])),
  (24, (.ldc_w 501, 27, 0, 0, (.int 100000000), [], [4214])),
  (27, (.istore 4, 29, 4, 0, .null, [], [])),
  (29, (.iload_n 1, 30, 1, 0, .null, [], [])),
  (30, (.iload_n 3, 31, 3, 0, .null, [], [])),
  (31, (.if_icmp .ge 46, 34, 77, 0, .null, [], [])),
  (34, (.aload_n 0, 35, 0, 0, .null, [], [])),
  (35, (.getfield 143, 38, 11, 55, (.int 3), [], [722])),
  (38, (.iconst 3, 39, 0, 0, (.int 3), [], [])),
  (39, (.iload_n 1, 40, 1, 0, .null, [], [])),
  (40, (.imul, 41, 0, 0, .null, [], [])),
  (41, (.iconst 2, 42, 0, 0, (.int 2), [], [])),
  (42, (.iadd, 43, 0, 0, .null, [], [])),
  (43, (.iaload, 44, 0, 0, .null, [], [])),
  (44, (.aload_n 0, 45, 0, 0, .null, [], [])),
  (45, (.getfield 146, 48, 11, 56, (.int 3), [], [723])),
  (48, (.sipush 201, 51, 0, 0, (.int 201), [], [])),
  (51, (.iload_n 1, 52, 1, 0, .null, [], [])),
  (52, (.iconst 1, 53, 0, 0, (.int 1), [], [])),
  (53, (.iadd, 54, 0, 0, .null, [], [])),
  (54, (.imul, 55, 0, 0, .null, [], [])),
  (55, (.iload_n 2, 56, 2, 0, .null, [], [])),
  (56, (.iadd, 57, 0, 0, .null, [], [])),
  (57, (.iaload, 58, 0, 0, .null, [], [])),
  (58, (.iadd, 59, 0, 0, .null, [], [])),
  (59, (.istore 5, 61, 5, 0, .null, [], [])),
  (61, (.iload 5, 63, 5, 0, .null, [], [])),
  (63, (.iload 4, 65, 4, 0, .null, [], [])),
  (65, (.if_icmp .ge 8, 68, 73, 0, .null, [], [])),
  (68, (.iload 5, 70, 5, 0, .null, [], [])),
  (70, (.goto 5, 73, 75, 0, .null, [], [])),
  (73, (.iload 4, 75, 4, 0, .null, [], [])),
  (75, (.istore 4, 77, 4, 0, .null, [], [])),
  (77, (.iload_n 2, 78, 2, 0, .null, [], [])),
  (78, (.iconst 1, 79, 0, 0, (.int 1), [], [])),
  (79, (.iadd, 80, 0, 0, .null, [], [])),
  (80, (.istore 5, 82, 5, 0, .null, [], [])),
  (82, (.iload 5, 84, 5, 0, .null, [], [])),
  (84, (.aload_n 0, 85, 0, 0, .null, [], [])),
  (85, (.getfield 494, 88, 11, 51, (.int 0), [], [4219])),
  (88, (.if_icmp .gt 124, 91, 212, 0, .null, [], [])),
  (91, (.aload_n 0, 92, 0, 0, .null, [], [])),
  (92, (.getfield 134, 95, 11, 52, (.int 3), [], [719])),
  (95, (.sipush 201, 98, 0, 0, (.int 201), [], [])),
  (98, (.iload_n 2, 99, 2, 0, .null, [], [])),
  (99, (.imul, 100, 0, 0, .null, [], [])),
  (100, (.iload 5, 102, 5, 0, .null, [], [])),
  (102, (.iadd, 103, 0, 0, .null, [], [])),
  (103, (.baload, 104, 0, 0, .null, [], [])),
  (104, (.ifCond .eq 102, 107, 206, 0, .null, [], [])),
  (107, (.ldc_w 501, 110, 0, 0, (.int 100000000), [], [4214])),
  (110, (.istore 6, 112, 6, 0, .null, [], [])),
  (112, (.aload_n 0, 113, 0, 0, .null, [], [])),
  (113, (.getfield 130, 116, 11, 50, (.int 3), [], [717])),
  (116, (.iload 5, 118, 5, 0, .null, [], [])),
  (118, (.iaload, 119, 0, 0, .null, [], [])),
  (119, (.iconst 3, 120, 0, 0, (.int 3), [], [])),
  (120, (.if_icmp .ne 35, 123, 155, 0, .null, [], [])),
  (123, (.aload_n 0, 124, 0, 0, .null, [], [])),
  (124, (.iload_n 1, 125, 1, 0, .null, [], [])),
  (125, (.invokevirtual 505, 128, 225, 1, .null, [], [4316, 4317, 4318, 5, 4319])),
  (128, (.ifCond .eq 19, 131, 147, 0, .null, [], [])),
  (131, (.aload_n 0, 132, 0, 0, .null, [], [])),
  (132, (.getfield 146, 135, 11, 56, (.int 3), [], [723])),
  (135, (.sipush 201, 138, 0, 0, (.int 201), [], [])),
  (138, (.iload_n 1, 139, 1, 0, .null, [], [])),
  (139, (.imul, 140, 0, 0, .null, [], [])),
  (140, (.iload 5, 142, 5, 0, .null, [], [])),
  (142, (.iadd, 143, 0, 0, .null, [], [])),
  (143, (.iaload, 144, 0, 0, .null, [], [])),
  (144, (.goto 6, 147, 150, 0, .null, [], [])),
  (147, (.ldc_w 501, 150, 0, 0, (.int 100000000), [], [4214])),
  (150, (.istore 6, 152, 6, 0, .null, [], [])),
  (152, (.goto 38, 155, 190, 0, .null, [], [])),
  (155, (.iload_n 1, 156, 1, 0, .null, [], [])),
  (156, (.iload_n 3, 157, 3, 0, .null, [], [])),
  (157, (.if_icmp .ge 33, 160, 190, 0, .null, [], [])),
  (160, (.aload_n 0, 161, 0, 0, .null, [], [])),
  (161, (.iload_n 1, 162, 1, 0, .null, [], [])),
  (162, (.aload_n 0, 163, 0, 0, .null, [], [])),
  (163, (.getfield 130, 166, 11, 50, (.int 3), [], [717])),
  (166, (.iload 5, 168, 5, 0, .null, [], [])),
  (168, (.iaload, 169, 0, 0, .null, [], [])),
  (169, (.invokevirtual 508, 172, 224, 2, .null, [], [4320, 4321, 4322, 5, 4323])),
  (172, (.aload_n 0, 173, 0, 0, .null, [], [])),
  (173, (.getfield 146, 176, 11, 56, (.int 3), [], [723])),
  (176, (.sipush 201, 179, 0, 0, (.int 201), [], [])),
  (179, (.iload_n 1, 180, 1, 0, .null, [], [])),
  (180, (.iconst 1, 181, 0, 0, (.int 1), [], [])),
  (181, (.iadd, 182, 0, 0, .null, [], [])),
  (182, (.imul, 183, 0, 0, .null, [], [])),
  (183, (.iload 5, 185, 5, 0, .null, [], [])),
  (185, (.iadd, 186, 0, 0, .null, [], [])),
  (186, (.iaload, 187, 0, 0, .null, [], [])),
  (187, (.iadd, 188, 0, 0, .null, [], [])),
  (188, (.istore 6, 190, 6, 0, .null, [], [])),
  (190, (.iload 6, 192, 6, 0, .null, [], [])),
  (192, (.iload 4, 194, 4, 0, .null, [], [])),
  (194, (.if_icmp .ge 8, 197, 202, 0, .null, [], [])),
  (197, (.iload 6, 199, 6, 0, .null, [], [])),
  (199, (.goto 5, 202, 204, 0, .null, [], [])),
  (202, (.iload 4, 204, 4, 0, .null, [], [])),
  (204, (.istore 4, 206, 4, 0, .null, [], [])),
  (206, (.iinc 5 1, 209, 5, 0, (.int 1), [], [])),
  (209, (.goto (-127), 212, 82, 0, .null, [], [])),
  (212, (.iload 4, 214, 4, 0, .null, [], [])),
  (214, (.ireturn, 215, 0, 0, .null, [], []))]
/-- yX11_layLeft -/
def zc_227 : List (Nat × zE) := [(0, (.aload_n 0, 1, 0, 0, .null, [], [])),
  (1, (.getfield 13, 4, 11, 3, (.int 3), [], [520])),
  (4, (.iconst 0, 5, 0, 0, (.int 0), [], [])),
  (5, (.iaload, 6, 0, 0, .null, [], [])),
  (6, (.istore_n 1, 7, 1, 0, .null, [], [])),
  (7, (.iload_n 1, 8, 1, 0, .null, [], [])),
  (8, (.ifCond .lt 42, 11, 50, 0, .null, [], [])),
  (11, (.aload_n 0, 12, 0, 0, .null, [], [])),
  (12, (.getfield 494, 15, 11, 51, (.int 0), [], [4219])),
  (15, (.istore_n 2, 16, 2, 0, .null, [], [])),
  (16, (.iload_n 2, 17, 2, 0, .null, [], [])),
  (17, (.ifCond .lt 27, 20, 44, 0, .null, [], [])),
  (20, (.aload_n 0, 21, 0, 0, .null, [], [])),
  (21, (.getfield 146, 24, 11, 56, (.int 3), [], [723])),
  (24, (.sipush 201, 27, 0, 0, (.int 201), [], [])),
  (27, (.iload_n 1, 28, 1, 0, .null, [], [])),
  (28, (.imul, 29, 0, 0, .null, [], [])),
  (29, (.iload_n 2, 30, 2, 0, .null, [], [])),
  (30, (.iadd, 31, 0, 0, .null, [], [])),
  (31, (.aload_n 0, 32, 0, 0, .null, [], [])),
  (32, (.iload_n 1, 33, 1, 0, .null, [], [])),
  (33, (.iload_n 2, 34, 2, 0, .null, [], [])),
  (34, (.invokevirtual 511, 37, 226, 2, .null, [], [4308, 4309, 4310, 5, 4311])),
  (37, (.iastore, 38, 0, 0, .null, [], [])),
  (38, (.iinc 2 (-1), 41, 2, 0, (.int (-1)), [], [])),
  (41, (.goto (-25), 44, 16, 0, .null, [], [])),
  (44, (.iinc 1 (-1), 47, 1, 0, (.int (-1)), [], [])),
  (47, (.goto (-40), 50, 7, 0, .null, [], [])),
  (50, (.aload_n 0, 51, 0, 0, .null, [], [])),
  (51, (.getfield 146, 54, 11, 56, (.int 3), [], [723])),
  (54, (.iconst 0, 55, 0, 0, (.int 0), [], [])),
  (55, (.iaload, 56, 0, 0, .null, [], [])),
  (56, (.ireturn, 57, 0, 0, .null, [], []))]
/-- yX11_leastOf -/
def zc_228 : List (Nat × zE) := [(0, (.aload_n 0, 1, 0, 0, .null, [], [])),
  (1, (.iload_n 1, 2, 1, 0, .null, [], [])),
  (2, (.invokevirtual 514, 5, 220, 1, .null, [], [4215, 4216, 4217, 5, 4218])),
  (5, (.aload_n 0, 6, 0, 0, .null, [], [])),
  (6, (.iload_n 2, 7, 2, 0, .null, [], [])),
  (7, (.invokevirtual 517, 10, 223, 1, .null, [], [4300, 4301, 4302, 5, 4303])),
  (10, (.aload_n 0, 11, 0, 0, .null, [], [])),
  (11, (.invokevirtual 520, 14, 227, 0, .null, [], [4304, 4305, 4306, 5, 4307])),
  (14, (.istore_n 3, 15, 3, 0, .null, [], [])),
  (15, (.iload_n 3, 16, 3, 0, .null, [], [])),
  (16, (.ldc_w 501, 19, 0, 0, (.int 100000000), [], [4214])),
  (19, (.if_icmp .lt 7, 22, 26, 0, .null, [], [])),
  (22, (.iconst (-1), 23, 0, 0, (.int (-1)), [], [])),
  (23, (.goto 4, 26, 27, 0, .null, [], [])),
  (26, (.iload_n 3, 27, 3, 0, .null, [], [])),
  (27, (.ireturn, 28, 0, 0, .null, [], []))]
/-- yX11_passCuts -/
def zc_229 : List (Nat × zE) := [(0, (.iconst 0, 1, 0, 0, (.int 0), [], [])),
  (1, (.istore_n 3, 2, 3, 0, .null, [], [])),
  (2, (.iload_n 3, 3, 3, 0, .null, [], [])),
  (3, (.aload_n 0, 4, 0, 0, .null, [], [])),
  (4, (.getfield 494, 7, 11, 51, (.int 0), [], [4219])),
  (7, (.if_icmp .gt 98, 10, 105, 0, .null, [], [])),
  (10, (.iload_n 3, 11, 3, 0, .null, [], [])),
  (11, (.iconst 1, 12, 0, 0, (.int 1), [], [])),
  (12, (.iadd, 13, 0, 0, .null, [], [])),
  (13, (.istore 4, 15, 4, 0, .null, [], [])),
  (15, (.iload 4, 17, 4, 0, .null, [], [])),
  (17, (.aload_n 0, 18, 0, 0, .null, [], [])),
  (18, (.getfield 494, 21, 11, 51, (.int 0), [], [4219])),
  (21, (.if_icmp .gt 78, 24, 99, 0, .null, [], [])),
  (24, (.aload_n 0, 25, 0, 0, .null, [], [])),
  (25, (.getfield 149, 28, 11, 57, (.int 3), [], [800])),
  (28, (.iload_n 3, 29, 3, 0, .null, [], [])),
  (29, (.baload, 30, 0, 0, .null, [], [])),
  (30, (.ifCond .eq 69, 33, 99, 0, .null, [], [])),
  (33, (.aload_n 0, 34, 0, 0, .null, [], [])),
  (34, (.getfield 134, 37, 11, 52, (.int 3), [], [719])),
  (37, (.sipush 201, 40, 0, 0, (.int 201), [], [])),
  (40, (.iload_n 3, 41, 3, 0, .null, [], [])),
  (41, (.imul, 42, 0, 0, .null, [], [])),
  (42, (.iload 4, 44, 4, 0, .null, [], [])),
  (44, (.iadd, 45, 0, 0, .null, [], [])),
  (45, (.baload, 46, 0, 0, .null, [], [])),
  (46, (.ifCond .eq 47, 49, 93, 0, .null, [], [])),
  (49, (.aload_n 0, 50, 0, 0, .null, [], [])),
  (50, (.getfield 130, 53, 11, 50, (.int 3), [], [717])),
  (53, (.iload 4, 55, 4, 0, .null, [], [])),
  (55, (.iaload, 56, 0, 0, .null, [], [])),
  (56, (.iconst 3, 57, 0, 0, (.int 3), [], [])),
  (57, (.if_icmp .ne 36, 60, 93, 0, .null, [], [])),
  (60, (.aload_n 0, 61, 0, 0, .null, [], [])),
  (61, (.iload_n 1, 62, 1, 0, .null, [], [])),
  (62, (.invokevirtual 505, 65, 225, 1, .null, [], [4316, 4317, 4318, 5, 4319])),
  (65, (.ifCond .eq 28, 68, 93, 0, .null, [], [])),
  (68, (.aload_n 0, 69, 0, 0, .null, [], [])),
  (69, (.getfield 146, 72, 11, 56, (.int 3), [], [723])),
  (72, (.sipush 201, 75, 0, 0, (.int 201), [], [])),
  (75, (.iload_n 1, 76, 1, 0, .null, [], [])),
  (76, (.imul, 77, 0, 0, .null, [], [])),
  (77, (.iload 4, 79, 4, 0, .null, [], [])),
  (79, (.iadd, 80, 0, 0, .null, [], [])),
  (80, (.iaload, 81, 0, 0, .null, [], [])),
  (81, (.iload_n 2, 82, 2, 0, .null, [], [])),
  (82, (.if_icmp .ne 11, 85, 93, 0, .null, [], [])),
  (85, (.aload_n 0, 86, 0, 0, .null, [], [])),
  (86, (.getfield 149, 89, 11, 57, (.int 3), [], [800])),
  (89, (.iload 4, 91, 4, 0, .null, [], [])),
  (91, (.iconst 1, 92, 0, 0, (.int 1), [], [])),
  (92, (.bastore, 93, 0, 0, .null, [], [])),
  (93, (.iinc 4 1, 96, 4, 0, (.int 1), [], [])),
  (96, (.goto (-81), 99, 15, 0, .null, [], [])),
  (99, (.iinc 3 1, 102, 3, 0, (.int 1), [], [])),
  (102, (.goto (-100), 105, 2, 0, .null, [], [])),
  (105, (.return_, 106, 0, 0, .null, [], []))]
/-- yX11_goesAs -/
def zc_230 : List (Nat × zE) := [(0, (.iload_n 0, 1, 0, 0, .null, [], [])),
  (1, (.iconst 2, 2, 0, 0, (.int 2), [], [])),
  (2, (.if_icmp .ne 16, 5, 18, 0, .null, [], [])),
  (5, (.iload_n 1, 6, 1, 0, .null, [], [])),
  (6, (.iconst 2, 7, 0, 0, (.int 2), [], [])),
  (7, (.if_icmp .ge 7, 10, 14, 0, .null, [], [])),
  (10, (.iconst 1, 11, 0, 0, (.int 1), [], [])),
  (11, (.goto 38, 14, 49, 0, .null, [], [])),
  (14, (.iconst 0, 15, 0, 0, (.int 0), [], [])),
  (15, (.goto 34, 18, 49, 0, .null, [], [])),
  (18, (.iload_n 0, 19, 0, 0, .null, [], [])),
  (19, (.iconst 1, 20, 0, 0, (.int 1), [], [])),
  (20, (.if_icmp .ne 15, 23, 35, 0, .null, [], [])),
  (23, (.iload_n 1, 24, 1, 0, .null, [], [])),
  (24, (.ifCond .ne 7, 27, 31, 0, .null, [], [])),
  (27, (.iconst 1, 28, 0, 0, (.int 1), [], [])),
  (28, (.goto 21, 31, 49, 0, .null, [], [])),
  (31, (.iconst 0, 32, 0, 0, (.int 0), [], [])),
  (32, (.goto 17, 35, 49, 0, .null, [], [])),
  (35, (.iload_n 0, 36, 0, 0, .null, [], [])),
  (36, (.ifCond .ne 12, 39, 48, 0, .null, [], [])),
  (39, (.iload_n 1, 40, 1, 0, .null, [], [])),
  (40, (.iconst 1, 41, 0, 0, (.int 1), [], [])),
  (41, (.if_icmp .ne 7, 44, 48, 0, .null, [], [])),
  (44, (.iconst 1, 45, 0, 0, (.int 1), [], [])),
  (45, (.goto 4, 48, 49, 0, .null, [], [])),
  (48, (.iconst 0, 49, 0, 0, (.int 0), [], [])),
  (49, (.ireturn, 50, 1, 0, .null, [], []))]
/-- yX11_layThen -/
def zc_231 : List (Nat × zE) := [(0, (.iconst 0, 1, 0, 0, (.int 0), [], [])),
  (1, (.istore 4, 3, 4, 0, .null, [], [])),
  (3, (.iconst 0, 4, 0, 0, (.int 0), [], [])),
  (4, (.istore 5, 6, 5, 0, .null, [], [])),
  (6, (.iload 5, 8, 5, 0, .null, [], [])),
  (8, (.aload_n 0, 9, 0, 0, .null, [], [])),
  (9, (.getfield 494, 12, 11, 51, (.int 0), [], [4219])),
  (12, (.if_icmp .gt 190, 15, 202, 0, .null, [], [])),
  (15, (.iload_n 2, 16, 2, 0, .null, [], [])),
  (16, (.iconst 2, 17, 0, 0, (.int 2), [], [])),
  (17, (.if_icmp .ne 17, 20, 34, 0, .null, [], [])),
  (20, (.aload_n 0, 21, 0, 0, .null, [], [])),
  (21, (.getfield 149, 24, 11, 57, (.int 3), [], [800])),
  (24, (.iload 5, 26, 5, 0, .null, [], [])),
  (26, (.baload, 27, 0, 0, .null, [], [])),
  (27, (.ifCond .eq 7, 30, 34, 0, .null, [], [])),
  (30, (.iconst 1, 31, 0, 0, (.int 1), [], [])),
  (31, (.goto 4, 34, 35, 0, .null, [], [])),
  (34, (.iconst 0, 35, 0, 0, (.int 0), [], [])),
  (35, (.istore 6, 37, 6, 0, .null, [], [])),
  (37, (.iconst 0, 38, 0, 0, (.int 0), [], [])),
  (38, (.istore 7, 40, 7, 0, .null, [], [])),
  (40, (.iload 7, 42, 7, 0, .null, [], [])),
  (42, (.iload 5, 44, 5, 0, .null, [], [])),
  (44, (.if_icmp .ge 67, 47, 111, 0, .null, [], [])),
  (47, (.iload_n 2, 48, 2, 0, .null, [], [])),
  (48, (.iconst 2, 49, 0, 0, (.int 2), [], [])),
  (49, (.if_icmp .ge 62, 52, 111, 0, .null, [], [])),
  (52, (.iload 6, 54, 6, 0, .null, [], [])),
  (54, (.ifCond .ne 57, 57, 111, 0, .null, [], [])),
  (57, (.aload_n 0, 58, 0, 0, .null, [], [])),
  (58, (.getfield 149, 61, 11, 57, (.int 3), [], [800])),
  (61, (.iload 7, 63, 7, 0, .null, [], [])),
  (63, (.baload, 64, 0, 0, .null, [], [])),
  (64, (.ifCond .eq 38, 67, 102, 0, .null, [], [])),
  (67, (.aload_n 0, 68, 0, 0, .null, [], [])),
  (68, (.getfield 134, 71, 11, 52, (.int 3), [], [719])),
  (71, (.sipush 201, 74, 0, 0, (.int 201), [], [])),
  (74, (.iload 7, 76, 7, 0, .null, [], [])),
  (76, (.imul, 77, 0, 0, .null, [], [])),
  (77, (.iload 5, 79, 5, 0, .null, [], [])),
  (79, (.iadd, 80, 0, 0, .null, [], [])),
  (80, (.baload, 81, 0, 0, .null, [], [])),
  (81, (.ifCond .eq 21, 84, 102, 0, .null, [], [])),
  (84, (.aload_n 0, 85, 0, 0, .null, [], [])),
  (85, (.getfield 130, 88, 11, 50, (.int 3), [], [717])),
  (88, (.iload 5, 90, 5, 0, .null, [], [])),
  (90, (.iaload, 91, 0, 0, .null, [], [])),
  (91, (.iload_n 2, 92, 2, 0, .null, [], [])),
  (92, (.invokestatic 523, 95, 230, 2, .null, [], [5201, 5202, 5, 5203])),
  (95, (.ifCond .eq 7, 98, 102, 0, .null, [], [])),
  (98, (.iconst 1, 99, 0, 0, (.int 1), [], [])),
  (99, (.goto 4, 102, 103, 0, .null, [], [])),
  (102, (.iconst 0, 103, 0, 0, (.int 0), [], [])),
  (103, (.istore 6, 105, 6, 0, .null, [], [])),
  (105, (.iinc 7 1, 108, 7, 0, (.int 1), [], [])),
  (108, (.goto (-68), 111, 40, 0, .null, [], [])),
  (111, (.aload_n 0, 112, 0, 0, .null, [], [])),
  (112, (.getfield 152, 115, 11, 58, (.int 3), [], [801])),
  (115, (.iload 5, 117, 5, 0, .null, [], [])),
  (117, (.iload 6, 119, 6, 0, .null, [], [])),
  (119, (.ifCond .eq 53, 122, 172, 0, .null, [], [])),
  (122, (.aload_n 0, 123, 0, 0, .null, [], [])),
  (123, (.getfield 143, 126, 11, 55, (.int 3), [], [722])),
  (126, (.iconst 3, 127, 0, 0, (.int 3), [], [])),
  (127, (.iload_n 1, 128, 1, 0, .null, [], [])),
  (128, (.imul, 129, 0, 0, .null, [], [])),
  (129, (.iload_n 2, 130, 2, 0, .null, [], [])),
  (130, (.iadd, 131, 0, 0, .null, [], [])),
  (131, (.iaload, 132, 0, 0, .null, [], [])),
  (132, (.ldc_w 501, 135, 0, 0, (.int 100000000), [], [4214])),
  (135, (.if_icmp .ge 37, 138, 172, 0, .null, [], [])),
  (138, (.aload_n 0, 139, 0, 0, .null, [], [])),
  (139, (.getfield 143, 142, 11, 55, (.int 3), [], [722])),
  (142, (.iconst 3, 143, 0, 0, (.int 3), [], [])),
  (143, (.iload_n 1, 144, 1, 0, .null, [], [])),
  (144, (.imul, 145, 0, 0, .null, [], [])),
  (145, (.iload_n 2, 146, 2, 0, .null, [], [])),
  (146, (.iadd, 147, 0, 0, .null, [], [])),
  (147, (.iaload, 148, 0, 0, .null, [], [])),
  (148, (.aload_n 0, 149, 0, 0, .null, [], [])),
  (149, (.getfield 146, 152, 11, 56, (.int 3), [], [723])),
  (152, (.sipush 201, 155, 0, 0, (.int 201), [], [])),
  (155, (.iload_n 1, 156, 1, 0, .null, [], [])),
  (156, (.iconst 1, 157, 0, 0, (.int 1), [], [])),
  (157, (.iadd, 158, 0, 0, .null, [], [])),
  (158, (.imul, 159, 0, 0, .null, [], [])),
  (159, (.iload 5, 161, 5, 0, .null, [], [])),
  (161, (.iadd, 162, 0, 0, .null, [], [])),
  (162, (.iaload, 163, 0, 0, .null, [], [])),
  (163, (.iadd, 164, 0, 0, .null, [], [])),
  (164, (.iload_n 3, 165, 3, 0, .null, [], [])),
  (165, (.if_icmp .ne 7, 168, 172, 0, .null, [], [])),
  (168, (.iconst 1, 169, 0, 0, (.int 1), [], [])),
  (169, (.goto 4, 172, 173, 0, .null, [], [])),
  (172, (.iconst 0, 173, 0, 0, (.int 0), [], [])),
  (173, (.bastore, 174, 0, 0, .null, [], [])),
  (174, (.iload 4, 176, 4, 0, .null, [], [])),
  (176, (.ifCond .ne 13, 179, 189, 0, .null, [], [])),
  (179, (.aload_n 0, 180, 0, 0, .null, [], [])),
  (180, (.getfield 152, 183, 11, 58, (.int 3), [], [801])),
  (183, (.iload 5, 185, 5, 0, .null, [], [])),
  (185, (.baload, 186, 0, 0, .null, [], [])),
  (186, (.ifCond .eq 7, 189, 193, 0, .null, [], [])),
  (189, (.iconst 1, 190, 0, 0, (.int 1), [], [])),
  (190, (.goto 4, 193, 194, 0, .null, [], [])),
  (193, (.iconst 0, 194, 0, 0, (.int 0), [], [])),
  (194, (.istore 4, 196, 4, 0, .null, [], [])),
  (196, (.iinc 5 1, 199, 5, 0, (.int 1), [], [])),
  (199, (.goto (-193), 202, 6, 0, .null, [], [])),
  (202, (.iload 4, 204, 4, 0, .null, [], [])),
  (204, (.ireturn, 205, 1, 0, .null, [], []))]
/-- yX11_readBest -/
def zc_232 : List (Nat × zE) := [(0, (.iconst 0, 1, 0, 0, (.int 0), [], [])),
  (1, (.istore_n 1, 2, 1, 0, .null, [], [])),
  (2, (.iload_n 1, 3, 1, 0, .null, [], [])),
  (3, (.sipush 201, 6, 0, 0, (.int 201), [], [])),
  (6, (.if_icmp .ge 24, 9, 30, 0, .null, [], [])),
  (9, (.aload_n 0, 10, 0, 0, .null, [], [])),
  (10, (.getfield 149, 13, 11, 57, (.int 3), [], [800])),
  (13, (.iload_n 1, 14, 1, 0, .null, [], [])),
  (14, (.iload_n 1, 15, 1, 0, .null, [], [])),
  (15, (.ifCond .ne 7, 18, 22, 0, .null, [], [])),
  (18, (.iconst 1, 19, 0, 0, (.int 1), [], [])),
  (19, (.goto 4, 22, 23, 0, .null, [], [])),
  (22, (.iconst 0, 23, 0, 0, (.int 0), [], [])),
  (23, (.bastore, 24, 0, 0, .null, [], [])),
  (24, (.iinc 1 1, 27, 1, 0, (.int 1), [], [])),
  (27, (.goto (-25), 30, 2, 0, .null, [], [])),
  (30, (.aload_n 0, 31, 0, 0, .null, [], [])),
  (31, (.getfield 146, 34, 11, 56, (.int 3), [], [723])),
  (34, (.iconst 0, 35, 0, 0, (.int 0), [], [])),
  (35, (.iaload, 36, 0, 0, .null, [], [])),
  (36, (.istore_n 1, 37, 1, 0, .null, [], [])),
  (37, (.iconst 0, 38, 0, 0, (.int 0), [], [])),
  (38, (.istore_n 2, 39, 2, 0, .null, [], [])),
  (39, (.iload_n 2, 40, 2, 0, .null, [], [])),
  (40, (.aload_n 0, 41, 0, 0, .null, [], [])),
  (41, (.getfield 13, 44, 11, 3, (.int 3), [], [520])),
  (44, (.iconst 0, 45, 0, 0, (.int 0), [], [])),
  (45, (.iaload, 46, 0, 0, .null, [], [])),
  (46, (.if_icmp .ge 85, 49, 131, 0, .null, [], [])),
  (49, (.aload_n 0, 50, 0, 0, .null, [], [])),
  (50, (.iload_n 2, 51, 2, 0, .null, [], [])),
  (51, (.iload_n 1, 52, 1, 0, .null, [], [])),
  (52, (.invokevirtual 526, 55, 229, 2, .null, [], [5117, 5118, 5119, 5, 5120])),
  (55, (.iconst 0, 56, 0, 0, (.int 0), [], [])),
  (56, (.istore_n 3, 57, 3, 0, .null, [], [])),
  (57, (.aload_n 0, 58, 0, 0, .null, [], [])),
  (58, (.iload_n 2, 59, 2, 0, .null, [], [])),
  (59, (.iload_n 3, 60, 3, 0, .null, [], [])),
  (60, (.iload_n 1, 61, 1, 0, .null, [], [])),
  (61, (.invokevirtual 529, 64, 231, 3, .null, [], [5121, 5122, 5123, 5, 5200])),
  (64, (.ifCond .ne 9, 67, 73, 0, .null, [], [])),
  (67, (.iinc 3 1, 70, 3, 0, (.int 1), [], [])),
  (70, (.goto (-13), 73, 57, 0, .null, [], [])),
  (73, (.aload_n 0, 74, 0, 0, .null, [], [])),
  (74, (.getfield 155, 77, 11, 59, (.int 3), [], [802])),
  (77, (.iload_n 2, 78, 2, 0, .null, [], [])),
  (78, (.iload_n 3, 79, 3, 0, .null, [], [])),
  (79, (.iastore, 80, 0, 0, .null, [], [])),
  (80, (.iload_n 1, 81, 1, 0, .null, [], [])),
  (81, (.aload_n 0, 82, 0, 0, .null, [], [])),
  (82, (.getfield 143, 85, 11, 55, (.int 3), [], [722])),
  (85, (.iconst 3, 86, 0, 0, (.int 3), [], [])),
  (86, (.iload_n 2, 87, 2, 0, .null, [], [])),
  (87, (.imul, 88, 0, 0, .null, [], [])),
  (88, (.iload_n 3, 89, 3, 0, .null, [], [])),
  (89, (.iadd, 90, 0, 0, .null, [], [])),
  (90, (.iaload, 91, 0, 0, .null, [], [])),
  (91, (.isub, 92, 0, 0, .null, [], [])),
  (92, (.istore_n 1, 93, 1, 0, .null, [], [])),
  (93, (.iconst 0, 94, 0, 0, (.int 0), [], [])),
  (94, (.istore 4, 96, 4, 0, .null, [], [])),
  (96, (.iload 4, 98, 4, 0, .null, [], [])),
  (98, (.aload_n 0, 99, 0, 0, .null, [], [])),
  (99, (.getfield 494, 102, 11, 51, (.int 0), [], [4219])),
  (102, (.if_icmp .gt 23, 105, 125, 0, .null, [], [])),
  (105, (.aload_n 0, 106, 0, 0, .null, [], [])),
  (106, (.getfield 149, 109, 11, 57, (.int 3), [], [800])),
  (109, (.iload 4, 111, 4, 0, .null, [], [])),
  (111, (.aload_n 0, 112, 0, 0, .null, [], [])),
  (112, (.getfield 152, 115, 11, 58, (.int 3), [], [801])),
  (115, (.iload 4, 117, 4, 0, .null, [], [])),
  (117, (.baload, 118, 0, 0, .null, [], [])),
  (118, (.bastore, 119, 0, 0, .null, [], [])),
  (119, (.iinc 4 1, 122, 4, 0, (.int 1), [], [])),
  (122, (.goto (-26), 125, 96, 0, .null, [], [])),
  (125, (.iinc 2 1, 128, 2, 0, (.int 1), [], [])),
  (128, (.goto (-89), 131, 39, 0, .null, [], [])),
  (131, (.return_, 132, 0, 0, .null, [], []))]
/-- yX11_steps -/
def zc_233 : List (Nat × zE) := [(0, (.aload_n 0, 1, 0, 0, .null, [], [])),
  (1, (.iconst 0, 2, 0, 0, (.int 0), [], [])),
  (2, (.putfield 190, 5, 11, 0, (.int 0), [], [919])),
  (5, (.aload_n 0, 6, 0, 0, .null, [], [])),
  (6, (.iload_n 1, 7, 1, 0, .null, [], [])),
  (7, (.invokevirtual 421, 10, 163, 1, .null, [], [1423, 1500, 1501, 5, 1502])),
  (10, (.ifCond .ne 5, 13, 15, 0, .null, [], [])),
  (13, (.iconst (-1), 14, 0, 0, (.int (-1)), [], [])),
  (14, (.ireturn, 15, 0, 0, .null, [], [])),
  (15, (.aload_n 0, 16, 0, 0, .null, [], [])),
  (16, (.iload_n 1, 17, 1, 0, .null, [], [])),
  (17, (.invokevirtual 514, 20, 220, 1, .null, [], [4215, 4216, 4217, 5, 4218])),
  (20, (.aload_n 0, 21, 0, 0, .null, [], [])),
  (21, (.getfield 494, 24, 11, 51, (.int 0), [], [4219])),
  (24, (.ireturn, 25, 0, 0, .null, [], []))]
/-- yX11_best -/
def zc_234 : List (Nat × zE) := [(0, (.aload_n 0, 1, 0, 0, .null, [], [])),
  (1, (.iconst 0, 2, 0, 0, (.int 0), [], [])),
  (2, (.putfield 190, 5, 11, 0, (.int 0), [], [919])),
  (5, (.aload_n 0, 6, 0, 0, .null, [], [])),
  (6, (.iload_n 1, 7, 1, 0, .null, [], [])),
  (7, (.invokevirtual 421, 10, 163, 1, .null, [], [1423, 1500, 1501, 5, 1502])),
  (10, (.ifCond .eq 16, 13, 26, 0, .null, [], [])),
  (13, (.iload_n 2, 14, 2, 0, .null, [], [])),
  (14, (.iconst (-1), 15, 0, 0, (.int (-1)), [], [])),
  (15, (.if_icmp .eq 13, 18, 28, 0, .null, [], [])),
  (18, (.aload_n 0, 19, 0, 0, .null, [], [])),
  (19, (.iload_n 2, 20, 2, 0, .null, [], [])),
  (20, (.invokevirtual 223, 23, 162, 1, .null, [], [1318, 1319, 1320, 5, 1321])),
  (23, (.ifCond .ne 5, 26, 28, 0, .null, [], [])),
  (26, (.iconst (-1), 27, 0, 0, (.int (-1)), [], [])),
  (27, (.ireturn, 28, 0, 0, .null, [], [])),
  (28, (.aload_n 0, 29, 0, 0, .null, [], [])),
  (29, (.iload_n 1, 30, 1, 0, .null, [], [])),
  (30, (.iconst 0, 31, 0, 0, (.int 0), [], [])),
  (31, (.invokevirtual 533, 34, 228, 2, .null, [], [4210, 4211, 4212, 5, 4213])),
  (34, (.istore_n 3, 35, 3, 0, .null, [], [])),
  (35, (.iload_n 3, 36, 3, 0, .null, [], [])),
  (36, (.iconst (-1), 37, 0, 0, (.int (-1)), [], [])),
  (37, (.if_icmp .eq 8, 40, 45, 0, .null, [], [])),
  (40, (.iload_n 2, 41, 2, 0, .null, [], [])),
  (41, (.iconst (-1), 42, 0, 0, (.int (-1)), [], [])),
  (42, (.if_icmp .ne 5, 45, 47, 0, .null, [], [])),
  (45, (.iload_n 3, 46, 3, 0, .null, [], [])),
  (46, (.ireturn, 47, 0, 0, .null, [], [])),
  (47, (.aload_n 0, 48, 0, 0, .null, [], [])),
  (48, (.invokevirtual 536, 51, 232, 0, .null, [], [5113, 5114, 5115, 5, 5116])),
  (51, (.aload_n 0, 52, 0, 0, .null, [], [])),
  (52, (.getfield 155, 55, 11, 59, (.int 3), [], [802])),
  (55, (.iload_n 2, 56, 2, 0, .null, [], [])),
  (56, (.iaload, 57, 0, 0, .null, [], [])),
  (57, (.ireturn, 58, 0, 0, .null, [], []))]
/-- yX11_elisions -/
def zc_235 : List (Nat × zE) := [(0, (.aload_n 0, 1, 0, 0, .null, [], [])),
  (1, (.iconst 0, 2, 0, 0, (.int 0), [], [])),
  (2, (.putfield 190, 5, 11, 0, (.int 0), [], [919])),
  (5, (.aload_n 0, 6, 0, 0, .null, [], [])),
  (6, (.iload_n 1, 7, 1, 0, .null, [], [])),
  (7, (.invokevirtual 421, 10, 163, 1, .null, [], [1423, 1500, 1501, 5, 1502])),
  (10, (.ifCond .eq 12, 13, 22, 0, .null, [], [])),
  (13, (.aload_n 0, 14, 0, 0, .null, [], [])),
  (14, (.iload_n 1, 15, 1, 0, .null, [], [])),
  (15, (.iconst 1, 16, 0, 0, (.int 1), [], [])),
  (16, (.invokevirtual 533, 19, 228, 2, .null, [], [4210, 4211, 4212, 5, 4213])),
  (19, (.goto 4, 22, 23, 0, .null, [], [])),
  (22, (.iconst (-1), 23, 0, 0, (.int (-1)), [], [])),
  (23, (.ireturn, 24, 0, 0, .null, [], []))]
/-- yX11_mend -/
def zc_236 : List (Nat × zE) := [(0, (.aload_n 0, 1, 0, 0, .null, [], [])),
  (1, (.iconst 0, 2, 0, 0, (.int 0), [], [])),
  (2, (.putfield 190, 5, 11, 0, (.int 0), [], [919])),
  (5, (.aload_n 0, 6, 0, 0, .null, [], [])),
  (6, (.iload_n 1, 7, 1, 0, .null, [], [])),
  (7, (.invokevirtual 421, 10, 163, 1, .null, [], [1423, 1500, 1501, 5, 1502])),
  (10, (.ifCond .eq 12, 13, 22, 0, .null, [], [])),
  (13, (.aload_n 0, 14, 0, 0, .null, [], [])),
  (14, (.iload_n 1, 15, 1, 0, .null, [], [])),
  (15, (.iconst 2, 16, 0, 0, (.int 2), [], [])),
  (16, (.invokevirtual 533, 19, 228, 2, .null, [], [4210, 4211, 4212, 5, 4213])),
  (19, (.goto 4, 22, 23, 0, .null, [], [])),
  (22, (.iconst (-1), 23, 0, 0, (.int (-1)), [], [])),
  (23, (.ireturn, 24, 0, 0, .null, [], []))]
/-- yX11_isReached -/
def zc_237 : List (Nat × zE) := [(0, (.iload_n 1, 1, 1, 0, .null, [], [])),
  (1, (.ifCond .ne 11, 4, 12, 0, .null, [], [])),
  (4, (.iload_n 2, 5, 2, 0, .null, [], [])),
  (5, (.ifCond .ne 7, 8, 12, 0, .null, [], [])),
  (8, (.iconst 1, 9, 0, 0, (.int 1), [], [])),
  (9, (.goto 4, 12, 13, 0, .null, [], [])),
  (12, (.iconst 0, 13, 0, 0, (.int 0), [], [])),
  (13, (.istore_n 3, 14, 3, 0, .null, [], [])),
  (14, (.iload_n 3, 15, 3, 0, .null, [], [])),
  (15, (.ifCond .ne 42, 18, 57, 0, .null, [], [])),
  (18, (.iload_n 1, 19, 1, 0, .null, [], [])),
  (19, (.ifCond .le 42, 22, 61, 0, .null, [], [])),
  (22, (.aload_n 0, 23, 0, 0, .null, [], [])),
  (23, (.getfield 143, 26, 11, 55, (.int 3), [], [722])),
  (26, (.iconst 3, 27, 0, 0, (.int 3), [], [])),
  (27, (.iload_n 1, 28, 1, 0, .null, [], [])),
  (28, (.imul, 29, 0, 0, .null, [], [])),
  (29, (.iconst 1, 30, 0, 0, (.int 1), [], [])),
  (30, (.isub, 31, 0, 0, .null, [], [])),
  (31, (.iaload, 32, 0, 0, .null, [], [])),
  (32, (.ldc_w 501, 35, 0, 0, (.int 100000000), [], [4214])),
  (35, (.if_icmp .ge 26, 38, 61, 0, .null, [], [])),
  (38, (.aload_n 0, 39, 0, 0, .null, [], [])),
  (39, (.getfield 158, 42, 11, 60, (.int 3), [], [803])),
  (42, (.sipush 201, 45, 0, 0, (.int 201), [], [])),
  (45, (.iload_n 1, 46, 1, 0, .null, [], [])),
  (46, (.imul, 47, 0, 0, .null, [], [])),
  (47, (.sipush 201, 50, 0, 0, (.int 201), [], [])),
  (50, (.isub, 51, 0, 0, .null, [], [])),
  (51, (.iload_n 2, 52, 2, 0, .null, [], [])),
  (52, (.iadd, 53, 0, 0, .null, [], [])),
  (53, (.baload, 54, 0, 0, .null, [], [])),
  (54, (.ifCond .eq 7, 57, 61, 0, .null, [], [])),
  (57, (.iconst 1, 58, 0, 0, (.int 1), [], [])),
  (58, (.goto 4, 61, 62, 0, .null, [], [])),
  (61, (.iconst 0, 62, 0, 0, (.int 0), [], [])),
  (62, (.istore_n 3, 63, 3, 0, .null, [], [])),
  (63, (.iconst 0, 64, 0, 0, (.int 0), [], [])),
  (64, (.istore 4, 66, 4, 0, .null, [], [])),
  (66, (.iload 4, 68, 4, 0, .null, [], [])),
  (68, (.iload_n 2, 69, 2, 0, .null, [], [])),
  (69, (.if_icmp .ge 120, 72, 189, 0, .null, [], [])),
  (72, (.iload_n 3, 73, 3, 0, .null, [], [])),
  (73, (.ifCond .ne 116, 76, 189, 0, .null, [], [])),
  (76, (.aload_n 0, 77, 0, 0, .null, [], [])),
  (77, (.getfield 134, 80, 11, 52, (.int 3), [], [719])),
  (80, (.sipush 201, 83, 0, 0, (.int 201), [], [])),
  (83, (.iload 4, 85, 4, 0, .null, [], [])),
  (85, (.imul, 86, 0, 0, .null, [], [])),
  (86, (.iload_n 2, 87, 2, 0, .null, [], [])),
  (87, (.iadd, 88, 0, 0, .null, [], [])),
  (88, (.baload, 89, 0, 0, .null, [], [])),
  (89, (.ifCond .eq 94, 92, 183, 0, .null, [], [])),
  (92, (.aload_n 0, 93, 0, 0, .null, [], [])),
  (93, (.getfield 130, 96, 11, 50, (.int 3), [], [717])),
  (96, (.iload_n 2, 97, 2, 0, .null, [], [])),
  (97, (.iaload, 98, 0, 0, .null, [], [])),
  (98, (.iconst 3, 99, 0, 0, (.int 3), [], [])),
  (99, (.if_icmp .ne 35, 102, 134, 0, .null, [], [])),
  (102, (.aload_n 0, 103, 0, 0, .null, [], [])),
  (103, (.iload_n 1, 104, 1, 0, .null, [], [])),
  (104, (.invokevirtual 505, 107, 225, 1, .null, [], [4316, 4317, 4318, 5, 4319])),
  (107, (.ifCond .eq 23, 110, 130, 0, .null, [], [])),
  (110, (.aload_n 0, 111, 0, 0, .null, [], [])),
  (111, (.getfield 158, 114, 11, 60, (.int 3), [], [803])),
  (114, (.sipush 201, 117, 0, 0, (.int 201), [], [])),
  (117, (.iload_n 1, 118, 1, 0, .null, [], [])),
  (118, (.imul, 119, 0, 0, .null, [], [])),
  (119, (.iload 4, 121, 4, 0, .null, [], [])),
  (121, (.iadd, 122, 0, 0, .null, [], [])),
  (122, (.baload, 123, 0, 0, .null, [], [])),
  (123, (.ifCond .eq 7, 126, 130, 0, .null, [], [])),
  (126, (.iconst 1, 127, 0, 0, (.int 1), [], [])),
  (127, (.goto 55, 130, 182, 0, .null, [], [])),
  (130, (.iconst 0, 131, 0, 0, (.int 0), [], [])),
  (131, (.goto 51, 134, 182, 0, .null, [], [])),
  (134, (.iload_n 1, 135, 1, 0, .null, [], [])),
  (135, (.ifCond .le 46, 138, 181, 0, .null, [], [])),
  (138, (.aload_n 0, 139, 0, 0, .null, [], [])),
  (139, (.iload_n 1, 140, 1, 0, .null, [], [])),
  (140, (.iconst 1, 141, 0, 0, (.int 1), [], [])),
  (141, (.isub, 142, 0, 0, .null, [], [])),
  (142, (.aload_n 0, 143, 0, 0, .null, [], [])),
  (143, (.getfield 130, 146, 11, 50, (.int 3), [], [717])),
  (146, (.iload_n 2, 147, 2, 0, .null, [], [])),
  (147, (.iaload, 148, 0, 0, .null, [], [])),
  (148, (.invokevirtual 508, 151, 224, 2, .null, [], [4320, 4321, 4322, 5, 4323])),
  (151, (.ldc_w 501, 154, 0, 0, (.int 100000000), [], [4214])),
  (154, (.if_icmp .ge 27, 157, 181, 0, .null, [], [])),
  (157, (.aload_n 0, 158, 0, 0, .null, [], [])),
  (158, (.getfield 158, 161, 11, 60, (.int 3), [], [803])),
  (161, (.sipush 201, 164, 0, 0, (.int 201), [], [])),
  (164, (.iload_n 1, 165, 1, 0, .null, [], [])),
  (165, (.imul, 166, 0, 0, .null, [], [])),
  (166, (.sipush 201, 169, 0, 0, (.int 201), [], [])),
  (169, (.isub, 170, 0, 0, .null, [], [])),
  (170, (.iload 4, 172, 4, 0, .null, [], [])),
  (172, (.iadd, 173, 0, 0, .null, [], [])),
  (173, (.baload, 174, 0, 0, .null, [], [])),
  (174, (.ifCond .eq 7, 177, 181, 0, .null, [], [])),
  (177, (.iconst 1, 178, 0, 0, (.int 1), [], [])),
  (178, (.goto 4, 181, 182, 0, .null, [], [])),
  (181, (.iconst 0, 182, 0, 0, (.int 0), [], [])),
  (182, (.istore_n 3, 183, 3, 0, .null, [], [])),
  (183, (.iinc 4 1, 186, 4, 0, (.int 1), [], [])),
  (186, (.goto (-120), 189, 66, 0, .null, [], [])),
  (189, (.iload_n 3, 190, 3, 0, .null, [], [])),
  (190, (.ireturn, 191, 1, 0, .null, [], []))]
/-- yX11_reach -/
def zc_238 : List (Nat × zE) := [(0, (.aload_n 0, 1, 0, 0, .null, [], [])),
  (1, (.iconst 0, 2, 0, 0, (.int 0), [], [])),
  (2, (.putfield 190, 5, 11, 0, (.int 0), [], [919])),
  (5, (.aload_n 0, 6, 0, 0, .null, [], [])),
  (6, (.iload_n 1, 7, 1, 0, .null, [], [])),
  (7, (.invokevirtual 421, 10, 163, 1, .null, [], [1423, 1500, 1501, 5, 1502])),
  (10, (.ifCond .ne 5, 13, 15, 0, .null, [], [])),
  (13, (.iconst (-1), 14, 0, 0, (.int (-1)), [], [])),
  (14, (.ireturn, 15, 0, 0, .null, [], [])),
  (15, (.aload_n 0, 16, 0, 0, .null, [], [])),
  (16, (.iload_n 1, 17, 1, 0, .null, [], [])),
  (17, (.invokevirtual 514, 20, 220, 1, .null, [], [4215, 4216, 4217, 5, 4218])),
  (20, (.aload_n 0, 21, 0, 0, .null, [], [])),
  (21, (.iconst 0, 22, 0, 0, (.int 0), [], [])),
  (22, (.invokevirtual 517, 25, 223, 1, .null, [], [4300, 4301, 4302, 5, 4303])),
  (25, (.iconst 0, 26, 0, 0, (.int 0), [], [])),
  (26, (.istore_n 2, 27, 2, 0, .null, [], [])),
  (27, (.iconst 0, 28, 0, 0, (.int 0), [], [])),
  (28, (.istore_n 3, 29, 3, 0, .null, [], [])),
  (29, (.iload_n 3, 30, 3, 0, .null, [], [])),
  (30, (.aload_n 0, 31, 0, 0, .null, [], [])),
  (31, (.getfield 13, 34, 11, 3, (.int 3), [], [520])),
  (34, (.iconst 0, 35, 0, 0, (.int 0), [], [])),
  (35, (.iaload, 36, 0, 0, .null, [], [])),
  (36, (.if_icmp .gt 69, 39, 105, 0, .null, [], [])),
  (39, (.iconst 0, 40, 0, 0, (.int 0), [], [])),
  (40, (.istore 4, 42, 4, 0, .null, [], [])),
  (42, (.iload 4, 44, 4, 0, .null, [], [])),
  (44, (.aload_n 0, 45, 0, 0, .null, [], [])),
  (45, (.getfield 494, 48, 11, 51, (.int 0), [], [4219])),
  (48, (.if_icmp .gt 51, 51, 99, 0, .null, [], [])),
  (51, (.aload_n 0, 52, 0, 0, .null, [], [])),
  (52, (.getfield 158, 55, 11, 60, (.int 3), [], [803])),
  (55, (.sipush 201, 58, 0, 0, (.int 201), [], [])),
  (58, (.iload_n 3, 59, 3, 0, .null, [], [])),
  (59, (.imul, 60, 0, 0, .null, [], [])),
  (60, (.iload 4, 62, 4, 0, .null, [], [])),
  (62, (.iadd, 63, 0, 0, .null, [], [])),
  (63, (.aload_n 0, 64, 0, 0, .null, [], [])),
  (64, (.iload_n 3, 65, 3, 0, .null, [], [])),
  (65, (.iload 4, 67, 4, 0, .null, [], [])),
  (67, (.invokevirtual 539, 70, 237, 2, .null, [], [5312, 5313, 5314, 5, 5315])),
  (70, (.bastore, 71, 0, 0, .null, [], [])),
  (71, (.aload_n 0, 72, 0, 0, .null, [], [])),
  (72, (.getfield 158, 75, 11, 60, (.int 3), [], [803])),
  (75, (.sipush 201, 78, 0, 0, (.int 201), [], [])),
  (78, (.iload_n 3, 79, 3, 0, .null, [], [])),
  (79, (.imul, 80, 0, 0, .null, [], [])),
  (80, (.iload 4, 82, 4, 0, .null, [], [])),
  (82, (.iadd, 83, 0, 0, .null, [], [])),
  (83, (.baload, 84, 0, 0, .null, [], [])),
  (84, (.ifCond .eq 7, 87, 91, 0, .null, [], [])),
  (87, (.iload_n 3, 88, 3, 0, .null, [], [])),
  (88, (.goto 4, 91, 92, 0, .null, [], [])),
  (91, (.iload_n 2, 92, 2, 0, .null, [], [])),
  (92, (.istore_n 2, 93, 2, 0, .null, [], [])),
  (93, (.iinc 4 1, 96, 4, 0, (.int 1), [], [])),
  (96, (.goto (-54), 99, 42, 0, .null, [], [])),
  (99, (.iinc 3 1, 102, 3, 0, (.int 1), [], [])),
  (102, (.goto (-73), 105, 29, 0, .null, [], [])),
  (105, (.iload_n 2, 106, 2, 0, .null, [], [])),
  (106, (.ireturn, 107, 0, 0, .null, [], []))]
/-- yX11_length -/
def zc_239 : List (Nat × zE) := [(0, (.aload_n 0, 1, 0, 0, .null, [], [])),
  (1, (.iconst 0, 2, 0, 0, (.int 0), [], [])),
  (2, (.putfield 190, 5, 11, 0, (.int 0), [], [919])),
  (5, (.aload_n 0, 6, 0, 0, .null, [], [])),
  (6, (.iload_n 1, 7, 1, 0, .null, [], [])),
  (7, (.invokevirtual 421, 10, 163, 1, .null, [], [1423, 1500, 1501, 5, 1502])),
  (10, (.ifCond .eq 13, 13, 23, 0, .null, [], [])),
  (13, (.iload_n 2, 14, 2, 0, .null, [], [])),
  (14, (.i2l, 15, 0, 0, .null, [], [])),
  (15, (.lconst 0, 16, 0, 0, (.long 0), [], [])),
  (16, (.lconst 1, 17, 0, 0, (.long 1), [], [])),
  (17, (.invokestatic 210, 20, 150, 3, .null, [], [1001, 1002, 5, 1003])),
  (20, (.ifCond .ne 5, 23, 25, 0, .null, [], [])),
  (23, (.iconst (-1), 24, 0, 0, (.int (-1)), [], [])),
  (24, (.ireturn, 25, 0, 0, .null, [], [])),
  (25, (.bipush 80, 27, 0, 0, (.int 80), [], [])),
  (27, (.sipush 402, 30, 0, 0, (.int 402), [], [])),
  (30, (.iload_n 1, 31, 1, 0, .null, [], [])),
  (31, (.imul, 32, 0, 0, .null, [], [])),
  (32, (.iadd, 33, 0, 0, .null, [], [])),
  (33, (.istore_n 3, 34, 3, 0, .null, [], [])),
  (34, (.iconst 0, 35, 0, 0, (.int 0), [], [])),
  (35, (.istore 4, 37, 4, 0, .null, [], [])),
  (37, (.iconst 0, 38, 0, 0, (.int 0), [], [])),
  (38, (.istore 5, 40, 5, 0, .null, [], [])),
  (40, (.iload 5, 42, 5, 0, .null, [], [])),
  (42, (.aload_n 0, 43, 0, 0, .null, [], [])),
  (43, (.getfield 13, 46, 11, 3, (.int 3), [], [520])),
  (46, (.iload_n 3, 47, 3, 0, .null, [], [])),
  (47, (.iaload, 48, 0, 0, .null, [], [])),
  (48, (.if_icmp .ge 129, 51, 177, 0, .null, [], [])),
  (51, (.aload_n 0, 52, 0, 0, .null, [], [])),
  (52, (.getfield 13, 55, 11, 3, (.int 3), [], [520])),
  (55, (.iload_n 3, 56, 3, 0, .null, [], [])),
  (56, (.iconst 1, 57, 0, 0, (.int 1), [], [])),
  (57, (.iadd, 58, 0, 0, .null, [], [])),
  (58, (.iload 5, 60, 5, 0, .null, [], [])),
  (60, (.iadd, 61, 0, 0, .null, [], [])),
  (61, (.iaload, 62, 0, 0, .null, [], [])),
  (62, (.istore 6, 64, 6, 0, .null, [], [])),
  (64, (.iload 6, 66, 6, 0, .null, [], [])),
  (66, (.iconst 4, 67, 0, 0, (.int 4), [], [])),
  (67, (.if_icmp .ge 27, 70, 94, 0, .null, [], [])),
  (70, (.aload_n 0, 71, 0, 0, .null, [], [])),
  (71, (.getfield 124, 74, 11, 48, (.int 3), [], [715])),
  (74, (.iload 4, 76, 4, 0, .null, [], [])),
  (76, (.iload 6, 78, 6, 0, .null, [], [])),
  (78, (.iconst 3, 79, 0, 0, (.int 3), [], [])),
  (79, (.if_icmp .ne 7, 82, 86, 0, .null, [], [])),
  (82, (.iconst 0, 83, 0, 0, (.int 0), [], [])),
  (83, (.goto 4, 86, 87, 0, .null, [], [])),
  (86, (.iconst 1, 87, 0, 0, (.int 1), [], [])),
  (87, (.iastore, 88, 0, 0, .null, [], [])),
  (88, (.iinc 4 1, 91, 4, 0, (.int 1), [], [])),
  (91, (.goto 80, 94, 171, 0, .null, [], [])),
  (94, (.iinc 4 (-1), 97, 4, 0, (.int (-1)), [], [])),
  (97, (.aload_n 0, 98, 0, 0, .null, [], [])),
  (98, (.getfield 124, 101, 11, 48, (.int 3), [], [715])),
  (101, (.iload 4, 103, 4, 0, .null, [], [])),
  (103, (.iconst 1, 104, 0, 0, (.int 1), [], [])),
  (104, (.isub, 105, 0, 0, .null, [], [])),
  (105, (.iaload, 106, 0, 0, .null, [], [])),
  (106, (.istore 7, 108, 7, 0, .null, [], [])),
  (108, (.aload_n 0, 109, 0, 0, .null, [], [])),
  (109, (.getfield 124, 112, 11, 48, (.int 3), [], [715])),
  (112, (.iload 4, 114, 4, 0, .null, [], [])),
  (114, (.iaload, 115, 0, 0, .null, [], [])),
  (115, (.istore 8, 117, 8, 0, .null, [], [])),
  (117, (.aload_n 0, 118, 0, 0, .null, [], [])),
  (118, (.getfield 124, 121, 11, 48, (.int 3), [], [715])),
  (121, (.iload 4, 123, 4, 0, .null, [], [])),
  (123, (.iconst 1, 124, 0, 0, (.int 1), [], [])),
  (124, (.isub, 125, 0, 0, .null, [], [])),
  (125, (.iload 6, 127, 6, 0, .null, [], [])),
  (127, (.iconst 4, 128, 0, 0, (.int 4), [], [])),
  (128, (.if_icmp .ne 11, 131, 139, 0, .null, [], [])),
  (131, (.iload 7, 133, 7, 0, .null, [], [])),
  (133, (.iload 8, 135, 8, 0, .null, [], [])),
  (135, (.iadd, 136, 0, 0, .null, [], [])),
  (136, (.goto 34, 139, 170, 0, .null, [], [])),
  (139, (.iload_n 2, 140, 2, 0, .null, [], [])),
  (140, (.ifCond .ne 7, 143, 147, 0, .null, [], [])),
  (143, (.iconst 1, 144, 0, 0, (.int 1), [], [])),
  (144, (.goto 4, 147, 148, 0, .null, [], [])),
  (147, (.iconst 0, 148, 0, 0, (.int 0), [], [])),
  (148, (.iload 7, 150, 7, 0, .null, [], [])),
  (150, (.iload 8, 152, 8, 0, .null, [], [])),
  (152, (.if_icmp .ge 7, 155, 159, 0, .null, [], [])),
  (155, (.iconst 1, 156, 0, 0, (.int 1), [], [])),
  (156, (.goto 4, 159, 160, 0, .null, [], [])),
  (159, (.iconst 0, 160, 0, 0, (.int 0), [], [])),
  (160, (.if_icmp .ne 8, 163, 168, 0, .null, [], [])),
  (163, (.iload 7, 165, 7, 0, .null, [], [])),
  (165, (.goto 5, 168, 170, 0, .null, [], [])),
  (168, (.iload 8, 170, 8, 0, .null, [], [])),
  (170, (.iastore, 171, 0, 0, .null, [], [])),
  (171, (.iinc 5 1, 174, 5, 0, (.int 1), [], [])),
  (174, (.goto (-134), 177, 40, 0, .null, [], [])),
  (177, (.aload_n 0, 178, 0, 0, .null, [], [])),
  (178, (.getfield 124, 181, 11, 48, (.int 3), [], [715])),
  (181, (.iconst 0, 182, 0, 0, (.int 0), [], [])),
  (182, (.iaload, 183, 0, 0, .null, [], [])),
  (183, (.ireturn, 184, 0, 0, .null, [], []))]
/-- yX11_fitting -/
def zc_240 : List (Nat × zE) := [(0, (.iconst 0, 1, 0, 0, (.int 0), [], [])),
  (1, (.istore_n 1, 2, 1, 0, .null, [], [])),
  (2, (.iconst 0, 3, 0, 0, (.int 0), [], [])),
  (3, (.istore_n 2, 4, 2, 0, .null, [], [])),
  (4, (.iload_n 2, 5, 2, 0, .null, [], [])),
  (5, (.aload_n 0, 6, 0, 0, .null, [], [])),
  (6, (.getfield 13, 9, 11, 3, (.int 3), [], [520])),
  (9, (.iconst 1, 10, 0, 0, (.int 1), [], [])),
  (10, (.iaload, 11, 0, 0, .null, [], [])),
  (11, (.if_icmp .ge 29, 14, 40, 0, .null, [], [])),
  (14, (.iload_n 1, 15, 1, 0, .null, [], [])),
  (15, (.aload_n 0, 16, 0, 0, .null, [], [])),
  (16, (.iload_n 2, 17, 2, 0, .null, [], [])),
  (17, (.iconst 0, 18, 0, 0, (.int 0), [], [])),
  (18, (.invokevirtual 533, 21, 228, 2, .null, [], [4210, 4211, 4212, 5, 4213])),
  (21, (.iconst (-1), 22, 0, 0, (.int (-1)), [], [])),
  (22, (.if_icmp .eq 9, 25, 31, 0, .null, [], [])),
  (25, (.iconst 1, 26, 0, 0, (.int 1), [], [])),
  (26, (.iload_n 2, 27, 2, 0, .null, [], [])),
  (27, (.ishl, 28, 0, 0, .null, [], [])),
  (28, (.goto 4, 31, 32, 0, .null, [], [])),
  (31, (.iconst 0, 32, 0, 0, (.int 0), [], [])),
  (32, (.ior, 33, 0, 0, .null, [], [])),
  (33, (.istore_n 1, 34, 1, 0, .null, [], [])),
  (34, (.iinc 2 1, 37, 2, 0, (.int 1), [], [])),
  (37, (.goto (-33), 40, 4, 0, .null, [], [])),
  (40, (.iload_n 1, 41, 1, 0, .null, [], [])),
  (41, (.ireturn, 42, 0, 0, .null, [], []))]
/-- yX11_many -/
def zc_241 : List (Nat × zE) := [(0, (.iconst 0, 1, 0, 0, (.int 0), [], [])),
  (1, (.istore_n 2, 2, 2, 0, .null, [], [])),
  (2, (.iconst 0, 3, 0, 0, (.int 0), [], [])),
  (3, (.istore_n 3, 4, 3, 0, .null, [], [])),
  (4, (.iload_n 3, 5, 3, 0, .null, [], [])),
  (5, (.bipush 6, 7, 0, 0, (.int 6), [], [])),
  (7, (.if_icmp .ge 17, 10, 24, 0, .null, [], [])),
  (10, (.iload_n 2, 11, 2, 0, .null, [], [])),
  (11, (.iload_n 1, 12, 1, 0, .null, [], [])),
  (12, (.iload_n 3, 13, 3, 0, .null, [], [])),
  (13, (.ishr, 14, 0, 0, .null, [], [])),
  (14, (.iconst 1, 15, 0, 0, (.int 1), [], [])),
  (15, (.iand, 16, 0, 0, .null, [], [])),
  (16, (.iadd, 17, 0, 0, .null, [], [])),
  (17, (.istore_n 2, 18, 2, 0, .null, [], [])),
  (18, (.iinc 3 1, 21, 3, 0, (.int 1), [], [])),
  (21, (.goto (-17), 24, 4, 0, .null, [], [])),
  (24, (.iload_n 2, 25, 2, 0, .null, [], [])),
  (25, (.ireturn, 26, 0, 0, .null, [], []))]
/-- yX11_fits -/
def zc_242 : List (Nat × zE) := [(0, (.aload_n 0, 1, 0, 0, .null, [], [])),
  (1, (.iconst 0, 2, 0, 0, (.int 0), [], [])),
  (2, (.putfield 190, 5, 11, 0, (.int 0), [], [919])),
  (5, (.aload_n 0, 6, 0, 0, .null, [], [])),
  (6, (.invokevirtual 542, 9, 240, 0, .null, [], [4206, 4207, 4208, 5, 4209])),
  (9, (.ireturn, 10, 0, 0, .null, [], []))]
/-- yX11_compare -/
def zc_243 : List (Nat × zE) := [(0, (.aload_n 0, 1, 0, 0, .null, [], [])),
  (1, (.iconst 0, 2, 0, 0, (.int 0), [], [])),
  (2, (.putfield 190, 5, 11, 0, (.int 0), [], [919])),
  (5, (.aload_n 0, 6, 0, 0, .null, [], [])),
  (6, (.iload_n 1, 7, 1, 0, .null, [], [])),
  (7, (.invokevirtual 412, 10, 201, 1, .null, [], [4612, 4613, 4614, 5, 4615])),
  (10, (.ifCond .eq 11, 13, 21, 0, .null, [], [])),
  (13, (.aload_n 0, 14, 0, 0, .null, [], [])),
  (14, (.iload_n 2, 15, 2, 0, .null, [], [])),
  (15, (.invokevirtual 421, 18, 163, 1, .null, [], [1423, 1500, 1501, 5, 1502])),
  (18, (.ifCond .ne 5, 21, 23, 0, .null, [], [])),
  (21, (.iconst (-1), 22, 0, 0, (.int (-1)), [], [])),
  (22, (.ireturn, 23, 0, 0, .null, [], [])),
  (23, (.aload_n 0, 24, 0, 0, .null, [], [])),
  (24, (.getfield 13, 27, 11, 3, (.int 3), [], [520])),
  (27, (.iconst 4, 28, 0, 0, (.int 4), [], [])),
  (28, (.iaload, 29, 0, 0, .null, [], [])),
  (29, (.istore_n 3, 30, 3, 0, .null, [], [])),
  (30, (.aload_n 0, 31, 0, 0, .null, [], [])),
  (31, (.getfield 13, 34, 11, 3, (.int 3), [], [520])),
  (34, (.iconst 4, 35, 0, 0, (.int 4), [], [])),
  (35, (.iload_n 1, 36, 1, 0, .null, [], [])),
  (36, (.iastore, 37, 0, 0, .null, [], [])),
  (37, (.aload_n 0, 38, 0, 0, .null, [], [])),
  (38, (.iload_n 2, 39, 2, 0, .null, [], [])),
  (39, (.iconst 0, 40, 0, 0, (.int 0), [], [])),
  (40, (.invokevirtual 533, 43, 228, 2, .null, [], [4210, 4211, 4212, 5, 4213])),
  (43, (.istore 4, 45, 4, 0, .null, [], [])),
  (45, (.aload_n 0, 46, 0, 0, .null, [], [])),
  (46, (.getfield 13, 49, 11, 3, (.int 3), [], [520])),
  (49, (.iconst 4, 50, 0, 0, (.int 4), [], [])),
  (50, (.iload_n 3, 51, 3, 0, .null, [], [])),
  (51, (.iastore, 52, 0, 0, .null, [], [])),
  (52, (.iload 4, 54, 4, 0, .null, [], [])),
  (54, (.ireturn, 55, 0, 0, .null, [], []))]
/-- yX11_weighNow -/
def zc_244 : List (Nat × zE) := [(0, (.iload_n 2, 1, 2, 0, .null, [], [])),
  (1, (.i2l, 2, 0, 0, .null, [], [])),
  (2, (.lconst 0, 3, 0, 0, (.long 0), [], [])),
  (3, (.ldc2_w 217, 6, 0, 0, (.long 2), [], [1000])),
  (6, (.invokestatic 210, 9, 150, 3, .null, [], [1001, 1002, 5, 1003])),
  (9, (.ifCond .ne 5, 12, 14, 0, .null, [], [])),
  (12, (.iconst (-1), 13, 0, 0, (.int (-1)), [], [])),
  (13, (.ireturn, 14, 0, 0, .null, [], [])),
  (14, (.aload_n 0, 15, 0, 0, .null, [], [])),
  (15, (.iload_n 1, 16, 1, 0, .null, [], [])),
  (16, (.invokevirtual 223, 19, 162, 1, .null, [], [1318, 1319, 1320, 5, 1321])),
  (19, (.ifCond .ne 6, 22, 25, 0, .null, [], [])),
  (22, (.bipush (-2), 24, 0, 0, (.int (-2)), [], [])),
  (24, (.ireturn, 25, 0, 0, .null, [], [])),
  (25, (.aload_n 0, 26, 0, 0, .null, [], [])),
  (26, (.getfield 13, 29, 11, 3, (.int 3), [], [520])),
  (29, (.bipush 8, 31, 0, 0, (.int 8), [], [])),
  (31, (.iload_n 1, 32, 1, 0, .null, [], [])),
  (32, (.iadd, 33, 0, 0, .null, [], [])),
  (33, (.iaload, 34, 0, 0, .null, [], [])),
  (34, (.istore_n 3, 35, 3, 0, .null, [], [])),
  (35, (.iload_n 3, 36, 3, 0, .null, [], [])),
  (36, (.iload_n 2, 37, 2, 0, .null, [], [])),
  (37, (.if_icmp .ne 6, 40, 43, 0, .null, [], [])),
  (40, (.bipush (-3), 42, 0, 0, (.int (-3)), [], [])),
  (42, (.ireturn, 43, 0, 0, .null, [], [])),
  (43, (.aload_n 0, 44, 0, 0, .null, [], [])),
  (44, (.iconst 0, 45, 0, 0, (.int 0), [], [])),
  (45, (.invokevirtual 545, 48, 158, 1, .null, [], [4412, 4413, 4414, 5, 4415])),
  (48, (.aload_n 0, 49, 0, 0, .null, [], [])),
  (49, (.getfield 13, 52, 11, 3, (.int 3), [], [520])),
  (52, (.bipush 8, 54, 0, 0, (.int 8), [], [])),
  (54, (.iload_n 1, 55, 1, 0, .null, [], [])),
  (55, (.iadd, 56, 0, 0, .null, [], [])),
  (56, (.iload_n 2, 57, 2, 0, .null, [], [])),
  (57, (.iastore, 58, 0, 0, .null, [], [])),
  (58, (.iload_n 3, 59, 3, 0, .null, [], [])),
  (59, (.ireturn, 60, 0, 0, .null, [], []))]
/-- yX11_weigh -/
def zc_245 : List (Nat × zE) := [(0, (.aload_n 0, 1, 0, 0, .null, [], [])),
  (1, (.iconst 0, 2, 0, 0, (.int 0), [], [])),
  (2, (.putfield 190, 5, 11, 0, (.int 0), [], [919])),
  (5, (.aload_n 0, 6, 0, 0, .null, [], [])),
  (6, (.aload_n 0, 7, 0, 0, .null, [], [])),
  (7, (.iload_n 1, 8, 1, 0, .null, [], [])),
  (8, (.iload_n 2, 9, 2, 0, .null, [], [])),
  (9, (.invokevirtual 548, 12, 244, 2, .null, [], [4408, 4409, 4410, 5, 4411])),
  (12, (.invokevirtual 199, 15, 153, 1, .null, [], [1009, 1010, 1011, 5, 1012])),
  (15, (.ireturn, 16, 0, 0, .null, [], []))]
/-- yX11_toggle -/
def zc_246 : List (Nat × zE) := [(0, (.aload_n 0, 1, 0, 0, .null, [], [])),
  (1, (.iload_n 3, 2, 3, 0, .null, [], [])),
  (2, (.invokevirtual 223, 5, 162, 1, .null, [], [1318, 1319, 1320, 5, 1321])),
  (5, (.ifCond .ne 6, 8, 11, 0, .null, [], [])),
  (8, (.bipush (-2), 10, 0, 0, (.int (-2)), [], [])),
  (10, (.ireturn, 11, 0, 0, .null, [], [])),
  (11, (.aload_n 0, 12, 0, 0, .null, [], [])),
  (12, (.iload_n 1, 13, 1, 0, .null, [], [])),
  (13, (.invokevirtual 545, 16, 158, 1, .null, [], [4412, 4413, 4414, 5, 4415])),
  (16, (.aload_n 0, 17, 0, 0, .null, [], [])),
  (17, (.getfield 13, 20, 11, 3, (.int 3), [], [520])),
  (20, (.iload_n 2, 21, 2, 0, .null, [], [])),
  (21, (.iload_n 3, 22, 3, 0, .null, [], [])),
  (22, (.iadd, 23, 0, 0, .null, [], [])),
  (23, (.iconst 1, 24, 0, 0, (.int 1), [], [])),
  (24, (.aload_n 0, 25, 0, 0, .null, [], [])),
  (25, (.getfield 13, 28, 11, 3, (.int 3), [], [520])),
  (28, (.iload_n 2, 29, 2, 0, .null, [], [])),
  (29, (.iload_n 3, 30, 3, 0, .null, [], [])),
  (30, (.iadd, 31, 0, 0, .null, [], [])),
  (31, (.iaload, 32, 0, 0, .null, [], [])),
  (32, (.isub, 33, 0, 0, .null, [], [])),
  (33, (.iastore, 34, 0, 0, .null, [], [])),
  (34, (.aload_n 0, 35, 0, 0, .null, [], [])),
  (35, (.getfield 13, 38, 11, 3, (.int 3), [], [520])),
  (38, (.iload_n 2, 39, 2, 0, .null, [], [])),
  (39, (.iload_n 3, 40, 3, 0, .null, [], [])),
  (40, (.iadd, 41, 0, 0, .null, [], [])),
  (41, (.iaload, 42, 0, 0, .null, [], [])),
  (42, (.ireturn, 43, 0, 0, .null, [], []))]
/-- yX11_ends -/
def zc_247 : List (Nat × zE) := [(0, (.aload_n 0, 1, 0, 0, .null, [], [])),
  (1, (.iconst 0, 2, 0, 0, (.int 0), [], [])),
  (2, (.putfield 190, 5, 11, 0, (.int 0), [], [919])),
  (5, (.aload_n 0, 6, 0, 0, .null, [], [])),
  (6, (.aload_n 0, 7, 0, 0, .null, [], [])),
  (7, (.iconst 1, 8, 0, 0, (.int 1), [], [])),
  (8, (.bipush 28, 10, 0, 0, (.int 28), [], [])),
  (10, (.iload_n 1, 11, 1, 0, .null, [], [])),
  (11, (.invokevirtual 551, 14, 246, 3, .null, [], [4416, 4417, 4418, 5, 4419])),
  (14, (.invokevirtual 199, 17, 153, 1, .null, [], [1009, 1010, 1011, 5, 1012])),
  (17, (.ireturn, 18, 0, 0, .null, [], []))]
/-- yX11_meets -/
def zc_248 : List (Nat × zE) := [(0, (.aload_n 0, 1, 0, 0, .null, [], [])),
  (1, (.iconst 0, 2, 0, 0, (.int 0), [], [])),
  (2, (.putfield 190, 5, 11, 0, (.int 0), [], [919])),
  (5, (.aload_n 0, 6, 0, 0, .null, [], [])),
  (6, (.aload_n 0, 7, 0, 0, .null, [], [])),
  (7, (.iconst 2, 8, 0, 0, (.int 2), [], [])),
  (8, (.bipush 48, 10, 0, 0, (.int 48), [], [])),
  (10, (.iload_n 1, 11, 1, 0, .null, [], [])),
  (11, (.invokevirtual 551, 14, 246, 3, .null, [], [4416, 4417, 4418, 5, 4419])),
  (14, (.invokevirtual 199, 17, 153, 1, .null, [], [1009, 1010, 1011, 5, 1012])),
  (17, (.ireturn, 18, 0, 0, .null, [], []))]
/-- yX11_passNow -/
def zc_249 : List (Nat × zE) := [(0, (.aload_n 0, 1, 0, 0, .null, [], [])),
  (1, (.getfield 13, 4, 11, 3, (.int 3), [], [520])),
  (4, (.iconst 5, 5, 0, 0, (.int 5), [], [])),
  (5, (.iaload, 6, 0, 0, .null, [], [])),
  (6, (.sipush 999, 9, 0, 0, (.int 999), [], [])),
  (9, (.if_icmp .ne 6, 12, 15, 0, .null, [], [])),
  (12, (.bipush (-3), 14, 0, 0, (.int (-3)), [], [])),
  (14, (.ireturn, 15, 0, 0, .null, [], [])),
  (15, (.aload_n 0, 16, 0, 0, .null, [], [])),
  (16, (.aload_n 0, 17, 0, 0, .null, [], [])),
  (17, (.invokevirtual 542, 20, 240, 0, .null, [], [4206, 4207, 4208, 5, 4209])),
  (20, (.invokevirtual 554, 23, 241, 1, .null, [], [4500, 4501, 4502, 5, 4503])),
  (23, (.istore_n 1, 24, 1, 0, .null, [], [])),
  (24, (.aload_n 0, 25, 0, 0, .null, [], [])),
  (25, (.iconst 3, 26, 0, 0, (.int 3), [], [])),
  (26, (.invokevirtual 545, 29, 158, 1, .null, [], [4412, 4413, 4414, 5, 4415])),
  (29, (.aload_n 0, 30, 0, 0, .null, [], [])),
  (30, (.getfield 13, 33, 11, 3, (.int 3), [], [520])),
  (33, (.iconst 5, 34, 0, 0, (.int 5), [], [])),
  (34, (.dup2, 35, 0, 0, .null, [], [])),
  (35, (.iaload, 36, 0, 0, .null, [], [])),
  (36, (.iconst 1, 37, 0, 0, (.int 1), [], [])),
  (37, (.iadd, 38, 0, 0, .null, [], [])),
  (38, (.iastore, 39, 0, 0, .null, [], [])),
  (39, (.iload_n 1, 40, 1, 0, .null, [], [])),
  (40, (.ireturn, 41, 0, 0, .null, [], []))]
/-- yX11_pass -/
def zc_250 : List (Nat × zE) := [(0, (.aload_n 0, 1, 0, 0, .null, [], [])),
  (1, (.iconst 0, 2, 0, 0, (.int 0), [], [])),
  (2, (.putfield 190, 5, 11, 0, (.int 0), [], [919])),
  (5, (.aload_n 0, 6, 0, 0, .null, [], [])),
  (6, (.aload_n 0, 7, 0, 0, .null, [], [])),
  (7, (.invokevirtual 557, 10, 249, 0, .null, [], [4420, 4421, 4422, 5, 4423])),
  (10, (.invokevirtual 199, 13, 153, 1, .null, [], [1009, 1010, 1011, 5, 1012])),
  (13, (.ireturn, 14, 0, 0, .null, [], []))]
/-- yX11_heard -/
def zc_251 : List (Nat × zE) := [(0, (.aload_n 0, 1, 0, 0, .null, [], [])),
  (1, (.iconst 0, 2, 0, 0, (.int 0), [], [])),
  (2, (.putfield 190, 5, 11, 0, (.int 0), [], [919])),
  (5, (.iload_n 1, 6, 1, 0, .null, [], [])),
  (6, (.i2l, 7, 0, 0, .null, [], [])),
  (7, (.lconst 0, 8, 0, 0, (.long 0), [], [])),
  (8, (.ldc2_w 357, 11, 0, 0, (.long 19), [], [3503])),
  (11, (.invokestatic 210, 14, 150, 3, .null, [], [1001, 1002, 5, 1003])),
  (14, (.ifCond .eq 15, 17, 29, 0, .null, [], [])),
  (17, (.iload_n 2, 18, 2, 0, .null, [], [])),
  (18, (.i2l, 19, 0, 0, .null, [], [])),
  (19, (.lconst 0, 20, 0, 0, (.long 0), [], [])),
  (20, (.ldc2_w 217, 23, 0, 0, (.long 2), [], [1000])),
  (23, (.invokestatic 210, 26, 150, 3, .null, [], [1001, 1002, 5, 1003])),
  (26, (.ifCond .ne 9, 29, 35, 0, .null, [], [])),
  (29, (.aload_n 0, 30, 0, 0, .null, [], [])),
  (30, (.iconst (-1), 31, 0, 0, (.int (-1)), [], [])),
  (31, (.invokevirtual 199, 34, 153, 1, .null, [], [1009, 1010, 1011, 5, 1012])),
  (34, (.ireturn, 35, 0, 0, .null, [], [])),
  (35, (.aload_n 0, 36, 0, 0, .null, [], [])),
  (36, (.getfield 13, 39, 11, 3, (.int 3), [], [520])),
  (39, (.iconst 2, 40, 0, 0, (.int 2), [], [])),
  (40, (.iaload, 41, 0, 0, .null, [], [])),
  (41, (.istore_n 3, 42, 3, 0, .null, [], [])),
  (42, (.iload_n 3, 43, 3, 0, .null, [], [])),
  (43, (.bipush 6, 45, 0, 0, (.int 6), [], [])),
  (45, (.if_icmp .ne 10, 48, 55, 0, .null, [], [])),
  (48, (.aload_n 0, 49, 0, 0, .null, [], [])),
  (49, (.bipush (-5), 51, 0, 0, (.int (-5)), [], [])),
  (51, (.invokevirtual 199, 54, 153, 1, .null, [], [1009, 1010, 1011, 5, 1012])),
  (54, (.ireturn, 55, 0, 0, .null, [], [])),
  (55, (.aload_n 0, 56, 0, 0, .null, [], [])),
  (56, (.getfield 13, 59, 11, 3, (.int 3), [], [520])),
  (59, (.bipush 68, 61, 0, 0, (.int 68), [], [])),
  (61, (.iconst 2, 62, 0, 0, (.int 2), [], [])),
  (62, (.iload_n 3, 63, 3, 0, .null, [], [])),
  (63, (.imul, 64, 0, 0, .null, [], [])),
  (64, (.iadd, 65, 0, 0, .null, [], [])),
  (65, (.iload_n 1, 66, 1, 0, .null, [], [])),
  (66, (.iastore, 67, 0, 0, .null, [], [])),
  (67, (.aload_n 0, 68, 0, 0, .null, [], [])),
  (68, (.getfield 13, 71, 11, 3, (.int 3), [], [520])),
  (71, (.bipush 68, 73, 0, 0, (.int 68), [], [])),
  (73, (.iconst 2, 74, 0, 0, (.int 2), [], [])),
  (74, (.iload_n 3, 75, 3, 0, .null, [], [])),
  (75, (.imul, 76, 0, 0, .null, [], [])),
  (76, (.iadd, 77, 0, 0, .null, [], [])),
  (77, (.iconst 1, 78, 0, 0, (.int 1), [], [])),
  (78, (.iadd, 79, 0, 0, .null, [], [])),
  (79, (.iload_n 2, 80, 2, 0, .null, [], [])),
  (80, (.iastore, 81, 0, 0, .null, [], [])),
  (81, (.aload_n 0, 82, 0, 0, .null, [], [])),
  (82, (.getfield 13, 85, 11, 3, (.int 3), [], [520])),
  (85, (.iconst 2, 86, 0, 0, (.int 2), [], [])),
  (86, (.dup2, 87, 0, 0, .null, [], [])),
  (87, (.iaload, 88, 0, 0, .null, [], [])),
  (88, (.iconst 1, 89, 0, 0, (.int 1), [], [])),
  (89, (.iadd, 90, 0, 0, .null, [], [])),
  (90, (.iastore, 91, 0, 0, .null, [], [])),
  (91, (.aload_n 0, 92, 0, 0, .null, [], [])),
  (92, (.iload_n 3, 93, 3, 0, .null, [], [])),
  (93, (.iconst 1, 94, 0, 0, (.int 1), [], [])),
  (94, (.iadd, 95, 0, 0, .null, [], [])),
  (95, (.invokevirtual 199, 98, 153, 1, .null, [], [1009, 1010, 1011, 5, 1012])),
  (98, (.ireturn, 99, 0, 0, .null, [], []))]
/-- yX11_forget -/
def zc_252 : List (Nat × zE) := [(0, (.aload_n 0, 1, 0, 0, .null, [], [])),
  (1, (.iconst 0, 2, 0, 0, (.int 0), [], [])),
  (2, (.putfield 190, 5, 11, 0, (.int 0), [], [919])),
  (5, (.aload_n 0, 6, 0, 0, .null, [], [])),
  (6, (.getfield 13, 9, 11, 3, (.int 3), [], [520])),
  (9, (.iconst 2, 10, 0, 0, (.int 2), [], [])),
  (10, (.iaload, 11, 0, 0, .null, [], [])),
  (11, (.istore_n 1, 12, 1, 0, .null, [], [])),
  (12, (.aload_n 0, 13, 0, 0, .null, [], [])),
  (13, (.getfield 13, 16, 11, 3, (.int 3), [], [520])),
  (16, (.iconst 2, 17, 0, 0, (.int 2), [], [])),
  (17, (.iconst 0, 18, 0, 0, (.int 0), [], [])),
  (18, (.iastore, 19, 0, 0, .null, [], [])),
  (19, (.iload_n 1, 20, 1, 0, .null, [], [])),
  (20, (.ireturn, 21, 0, 0, .null, [], []))]
/-- yX11_isHeard -/
def zc_253 : List (Nat × zE) := [(0, (.aload_n 0, 1, 0, 0, .null, [], [])),
  (1, (.iload_n 1, 2, 1, 0, .null, [], [])),
  (2, (.invokevirtual 514, 5, 220, 1, .null, [], [4215, 4216, 4217, 5, 4218])),
  (5, (.aload_n 0, 6, 0, 0, .null, [], [])),
  (6, (.iconst 1, 7, 0, 0, (.int 1), [], [])),
  (7, (.invokevirtual 517, 10, 223, 1, .null, [], [4300, 4301, 4302, 5, 4303])),
  (10, (.iconst 1, 11, 0, 0, (.int 1), [], [])),
  (11, (.istore_n 2, 12, 2, 0, .null, [], [])),
  (12, (.iconst 0, 13, 0, 0, (.int 0), [], [])),
  (13, (.istore_n 3, 14, 3, 0, .null, [], [])),
  (14, (.iload_n 3, 15, 3, 0, .null, [], [])),
  (15, (.aload_n 0, 16, 0, 0, .null, [], [])),
  (16, (.getfield 13, 19, 11, 3, (.int 3), [], [520])),
  (19, (.iconst 2, 20, 0, 0, (.int 2), [], [])),
  (20, (.iaload, 21, 0, 0, .null, [], [])),
  (21, (.if_icmp .ge 108, 24, 129, 0, .null, [], [])),
  (24, (.aload_n 0, 25, 0, 0, .null, [], [])),
  (25, (.getfield 13, 28, 11, 3, (.int 3), [], [520])),
  (28, (.bipush 68, 30, 0, 0, (.int 68), [], [])),
  (30, (.iconst 2, 31, 0, 0, (.int 2), [], [])),
  (31, (.iload_n 3, 32, 3, 0, .null, [], [])),
  (32, (.imul, 33, 0, 0, .null, [], [])),
  (33, (.iadd, 34, 0, 0, .null, [], [])),
  (34, (.iaload, 35, 0, 0, .null, [], [])),
  (35, (.istore 4, 37, 4, 0, .null, [], [])),
  (37, (.iload_n 2, 38, 2, 0, .null, [], [])),
  (38, (.ifCond .eq 16, 41, 54, 0, .null, [], [])),
  (41, (.aload_n 0, 42, 0, 0, .null, [], [])),
  (42, (.iload 4, 44, 4, 0, .null, [], [])),
  (44, (.invokevirtual 223, 47, 162, 1, .null, [], [1318, 1319, 1320, 5, 1321])),
  (47, (.ifCond .eq 7, 50, 54, 0, .null, [], [])),
  (50, (.iconst 1, 51, 0, 0, (.int 1), [], [])),
  (51, (.goto 4, 54, 55, 0, .null, [], [])),
  (54, (.iconst 0, 55, 0, 0, (.int 0), [], [])),
  (55, (.istore_n 2, 56, 2, 0, .null, [], [])),
  (56, (.iconst 0, 57, 0, 0, (.int 0), [], [])),
  (57, (.istore 5, 59, 5, 0, .null, [], [])),
  (59, (.iload 5, 61, 5, 0, .null, [], [])),
  (61, (.iconst 3, 62, 0, 0, (.int 3), [], [])),
  (62, (.if_icmp .ge 61, 65, 123, 0, .null, [], [])),
  (65, (.iload_n 2, 66, 2, 0, .null, [], [])),
  (66, (.ifCond .eq 57, 69, 123, 0, .null, [], [])),
  (69, (.aload_n 0, 70, 0, 0, .null, [], [])),
  (70, (.getfield 143, 73, 11, 55, (.int 3), [], [722])),
  (73, (.iconst 3, 74, 0, 0, (.int 3), [], [])),
  (74, (.iload 4, 76, 4, 0, .null, [], [])),
  (76, (.imul, 77, 0, 0, .null, [], [])),
  (77, (.iload 5, 79, 5, 0, .null, [], [])),
  (79, (.iadd, 80, 0, 0, .null, [], [])),
  (80, (.iload 5, 82, 5, 0, .null, [], [])),
  (82, (.aload_n 0, 83, 0, 0, .null, [], [])),
  (83, (.getfield 13, 86, 11, 3, (.int 3), [], [520])),
  (86, (.bipush 68, 88, 0, 0, (.int 68), [], [])),
  (88, (.iconst 2, 89, 0, 0, (.int 2), [], [])),
  (89, (.iload_n 3, 90, 3, 0, .null, [], [])),
  (90, (.imul, 91, 0, 0, .null, [], [])),
  (91, (.iadd, 92, 0, 0, .null, [], [])),
  (92, (.iconst 1, 93, 0, 0, (.int 1), [], [])),
  (93, (.iadd, 94, 0, 0, .null, [], [])),
  (94, (.iaload, 95, 0, 0, .null, [], [])),
  (95, (.if_icmp .ne 18, 98, 113, 0, .null, [], [])),
  (98, (.aload_n 0, 99, 0, 0, .null, [], [])),
  (99, (.getfield 143, 102, 11, 55, (.int 3), [], [722])),
  (102, (.iconst 3, 103, 0, 0, (.int 3), [], [])),
  (103, (.iload 4, 105, 4, 0, .null, [], [])),
  (105, (.imul, 106, 0, 0, .null, [], [])),
  (106, (.iload 5, 108, 5, 0, .null, [], [])),
  (108, (.iadd, 109, 0, 0, .null, [], [])),
  (109, (.iaload, 110, 0, 0, .null, [], [])),
  (110, (.goto 6, 113, 116, 0, .null, [], [])),
  (113, (.ldc_w 501, 116, 0, 0, (.int 100000000), [], [4214])),
  (116, (.iastore, 117, 0, 0, .null, [], [])),
  (117, (.iinc 5 1, 120, 5, 0, (.int 1), [], [])),
  (120, (.goto (-61), 123, 59, 0, .null, [], [])),
  (123, (.iinc 3 1, 126, 3, 0, (.int 1), [], [])),
  (126, (.goto (-112), 129, 14, 0, .null, [], [])),
  (129, (.iload_n 2, 130, 2, 0, .null, [], [])),
  (130, (.ifCond .eq 17, 133, 147, 0, .null, [], [])),
  (133, (.aload_n 0, 134, 0, 0, .null, [], [])),
  (134, (.invokevirtual 520, 137, 227, 0, .null, [], [4304, 4305, 4306, 5, 4307])),
  (137, (.ldc_w 501, 140, 0, 0, (.int 100000000), [], [4214])),
  (140, (.if_icmp .ge 7, 143, 147, 0, .null, [], [])),
  (143, (.iconst 1, 144, 0, 0, (.int 1), [], [])),
  (144, (.goto 4, 147, 148, 0, .null, [], [])),
  (147, (.iconst 0, 148, 0, 0, (.int 0), [], [])),
  (148, (.ireturn, 149, 1, 0, .null, [], []))]
/-- yX11_thatCanBe -/
def zc_254 : List (Nat × zE) := [(0, (.iconst 0, 1, 0, 0, (.int 0), [], [])),
  (1, (.istore_n 1, 2, 1, 0, .null, [], [])),
  (2, (.iconst 0, 3, 0, 0, (.int 0), [], [])),
  (3, (.istore_n 2, 4, 2, 0, .null, [], [])),
  (4, (.iload_n 2, 5, 2, 0, .null, [], [])),
  (5, (.aload_n 0, 6, 0, 0, .null, [], [])),
  (6, (.getfield 13, 9, 11, 3, (.int 3), [], [520])),
  (9, (.iconst 1, 10, 0, 0, (.int 1), [], [])),
  (10, (.iaload, 11, 0, 0, .null, [], [])),
  (11, (.if_icmp .ge 27, 14, 38, 0, .null, [], [])),
  (14, (.iload_n 1, 15, 1, 0, .null, [], [])),
  (15, (.aload_n 0, 16, 0, 0, .null, [], [])),
  (16, (.iload_n 2, 17, 2, 0, .null, [], [])),
  (17, (.invokevirtual 560, 20, 253, 1, .null, [], [5609, 5610, 5611, 5, 5612])),
  (20, (.ifCond .eq 9, 23, 29, 0, .null, [], [])),
  (23, (.iconst 1, 24, 0, 0, (.int 1), [], [])),
  (24, (.iload_n 2, 25, 2, 0, .null, [], [])),
  (25, (.ishl, 26, 0, 0, .null, [], [])),
  (26, (.goto 4, 29, 30, 0, .null, [], [])),
  (29, (.iconst 0, 30, 0, 0, (.int 0), [], [])),
  (30, (.ior, 31, 0, 0, .null, [], [])),
  (31, (.istore_n 1, 32, 1, 0, .null, [], [])),
  (32, (.iinc 2 1, 35, 2, 0, (.int 1), [], [])),
  (35, (.goto (-31), 38, 4, 0, .null, [], [])),
  (38, (.iload_n 1, 39, 1, 0, .null, [], [])),
  (39, (.ireturn, 40, 0, 0, .null, [], []))]
/-- yX11_canBe -/
def zc_255 : List (Nat × zE) := [(0, (.aload_n 0, 1, 0, 0, .null, [], [])),
  (1, (.iconst 0, 2, 0, 0, (.int 0), [], [])),
  (2, (.putfield 190, 5, 11, 0, (.int 0), [], [919])),
  (5, (.aload_n 0, 6, 0, 0, .null, [], [])),
  (6, (.invokevirtual 563, 9, 254, 0, .null, [], [5605, 5606, 5607, 5, 5608])),
  (9, (.ireturn, 10, 0, 0, .null, [], []))]
/-- yX11_mostAlike -/
def zc_256 : List (Nat × zE) := [(0, (.iconst 0, 1, 0, 0, (.int 0), [], [])),
  (1, (.istore_n 3, 2, 3, 0, .null, [], [])),
  (2, (.iconst 0, 3, 0, 0, (.int 0), [], [])),
  (3, (.istore 4, 5, 4, 0, .null, [], [])),
  (5, (.iload 4, 7, 4, 0, .null, [], [])),
  (7, (.iconst 3, 8, 0, 0, (.int 3), [], [])),
  (8, (.if_icmp .ge 81, 11, 89, 0, .null, [], [])),
  (11, (.iconst 0, 12, 0, 0, (.int 0), [], [])),
  (12, (.istore 5, 14, 5, 0, .null, [], [])),
  (14, (.iconst 0, 15, 0, 0, (.int 0), [], [])),
  (15, (.istore 6, 17, 6, 0, .null, [], [])),
  (17, (.iload 6, 19, 6, 0, .null, [], [])),
  (19, (.aload_n 0, 20, 0, 0, .null, [], [])),
  (20, (.getfield 13, 23, 11, 3, (.int 3), [], [520])),
  (23, (.iconst 1, 24, 0, 0, (.int 1), [], [])),
  (24, (.iaload, 25, 0, 0, .null, [], [])),
  (25, (.if_icmp .ge 45, 28, 70, 0, .null, [], [])),
  (28, (.iload 5, 30, 5, 0, .null, [], [])),
  (30, (.iload_n 1, 31, 1, 0, .null, [], [])),
  (31, (.iload 6, 33, 6, 0, .null, [], [])),
  (33, (.invokestatic 566, 36, 151, 2, .null, [], [5703, 5704, 5, 5705])),
  (36, (.ifCond .eq 24, 39, 60, 0, .null, [], [])),
  (39, (.aload_n 0, 40, 0, 0, .null, [], [])),
  (40, (.getfield 161, 43, 11, 61, (.int 3), [], [804])),
  (43, (.bipush 20, 45, 0, 0, (.int 20), [], [])),
  (45, (.iload 6, 47, 6, 0, .null, [], [])),
  (47, (.imul, 48, 0, 0, .null, [], [])),
  (48, (.iload_n 2, 49, 2, 0, .null, [], [])),
  (49, (.iadd, 50, 0, 0, .null, [], [])),
  (50, (.iaload, 51, 0, 0, .null, [], [])),
  (51, (.iload 4, 53, 4, 0, .null, [], [])),
  (53, (.if_icmp .ne 7, 56, 60, 0, .null, [], [])),
  (56, (.iconst 1, 57, 0, 0, (.int 1), [], [])),
  (57, (.goto 4, 60, 61, 0, .null, [], [])),
  (60, (.iconst 0, 61, 0, 0, (.int 0), [], [])),
  (61, (.iadd, 62, 0, 0, .null, [], [])),
  (62, (.istore 5, 64, 5, 0, .null, [], [])),
  (64, (.iinc 6 1, 67, 6, 0, (.int 1), [], [])),
  (67, (.goto (-50), 70, 17, 0, .null, [], [])),
  (70, (.iload 5, 72, 5, 0, .null, [], [])),
  (72, (.iload_n 3, 73, 3, 0, .null, [], [])),
  (73, (.if_icmp .le 8, 76, 81, 0, .null, [], [])),
  (76, (.iload 5, 78, 5, 0, .null, [], [])),
  (78, (.goto 4, 81, 82, 0, .null, [], [])),
  (81, (.iload_n 3, 82, 3, 0, .null, [], [])),
  (82, (.istore_n 3, 83, 3, 0, .null, [], [])),
  (83, (.iinc 4 1, 86, 4, 0, (.int 1), [], [])),
  (86, (.goto (-81), 89, 5, 0, .null, [], [])),
  (89, (.iload_n 3, 90, 3, 0, .null, [], [])),
  (90, (.ireturn, 91, 0, 0, .null, [], []))]
/-- yX11_listen -/
def zc_257 : List (Nat × zE) := [(0, (.aload_n 0, 1, 0, 0, .null, [], [])),
  (1, (.iconst 0, 2, 0, 0, (.int 0), [], [])),
  (2, (.putfield 190, 5, 11, 0, (.int 0), [], [919])),
  (5, (.aload_n 0, 6, 0, 0, .null, [], [])),
  (6, (.invokevirtual 563, 9, 254, 0, .null, [], [5605, 5606, 5607, 5, 5608])),
  (9, (.istore_n 2, 10, 2, 0, .null, [], [])),
  (10, (.iload_n 1, 11, 1, 0, .null, [], [])),
  (11, (.i2l, 12, 0, 0, .null, [], [])),
  (12, (.lconst 0, 13, 0, 0, (.long 0), [], [])),
  (13, (.lconst 1, 14, 0, 0, (.long 1), [], [])),
  (14, (.invokestatic 210, 17, 150, 3, .null, [], [1001, 1002, 5, 1003])),
  (17, (.ifCond .eq 7, 20, 24, 0, .null, [], [])),
  (20, (.iload_n 2, 21, 2, 0, .null, [], [])),
  (21, (.ifCond .ne 5, 24, 26, 0, .null, [], [])),
  (24, (.iconst (-1), 25, 0, 0, (.int (-1)), [], [])),
  (25, (.ireturn, 26, 0, 0, .null, [], [])),
  (26, (.iconst 0, 27, 0, 0, (.int 0), [], [])),
  (27, (.istore_n 3, 28, 3, 0, .null, [], [])),
  (28, (.iload_n 3, 29, 3, 0, .null, [], [])),
  (29, (.aload_n 0, 30, 0, 0, .null, [], [])),
  (30, (.getfield 13, 33, 11, 3, (.int 3), [], [520])),
  (33, (.iconst 1, 34, 0, 0, (.int 1), [], [])),
  (34, (.iaload, 35, 0, 0, .null, [], [])),
  (35, (.if_icmp .ge 67, 38, 102, 0, .null, [], [])),
  (38, (.iload_n 2, 39, 2, 0, .null, [], [])),
  (39, (.iload_n 3, 40, 3, 0, .null, [], [])),
  (40, (.invokestatic 566, 43, 151, 2, .null, [], [5703, 5704, 5, 5705])),
  (43, (.ifCond .eq 53, 46, 96, 0, .null, [], [])),
  (46, (.aload_n 0, 47, 0, 0, .null, [], [])),
  (47, (.iload_n 3, 48, 3, 0, .null, [], [])),
  (48, (.iconst 0, 49, 0, 0, (.int 0), [], [])),
  (49, (.invokevirtual 533, 52, 228, 2, .null, [], [4210, 4211, 4212, 5, 4213])),
  (52, (.pop, 53, 0, 0, .null, [], [])),
  (53, (.aload_n 0, 54, 0, 0, .null, [], [])),
  (54, (.invokevirtual 536, 57, 232, 0, .null, [], [5113, 5114, 5115, 5, 5116])),
  (57, (.iconst 0, 58, 0, 0, (.int 0), [], [])),
  (58, (.istore 4, 60, 4, 0, .null, [], [])),
  (60, (.iload 4, 62, 4, 0, .null, [], [])),
  (62, (.aload_n 0, 63, 0, 0, .null, [], [])),
  (63, (.getfield 13, 66, 11, 3, (.int 3), [], [520])),
  (66, (.iconst 0, 67, 0, 0, (.int 0), [], [])),
  (67, (.iaload, 68, 0, 0, .null, [], [])),
  (68, (.if_icmp .ge 28, 71, 96, 0, .null, [], [])),
  (71, (.aload_n 0, 72, 0, 0, .null, [], [])),
  (72, (.getfield 161, 75, 11, 61, (.int 3), [], [804])),
  (75, (.bipush 20, 77, 0, 0, (.int 20), [], [])),
  (77, (.iload_n 3, 78, 3, 0, .null, [], [])),
  (78, (.imul, 79, 0, 0, .null, [], [])),
  (79, (.iload 4, 81, 4, 0, .null, [], [])),
  (81, (.iadd, 82, 0, 0, .null, [], [])),
  (82, (.aload_n 0, 83, 0, 0, .null, [], [])),
  (83, (.getfield 155, 86, 11, 59, (.int 3), [], [802])),
  (86, (.iload 4, 88, 4, 0, .null, [], [])),
  (88, (.iaload, 89, 0, 0, .null, [], [])),
  (89, (.iastore, 90, 0, 0, .null, [], [])),
  (90, (.iinc 4 1, 93, 4, 0, (.int 1), [], [])),
  (93, (.goto (-33), 96, 60, 0, .null, [], [])),
  (96, (.iinc 3 1, 99, 3, 0, (.int 1), [], [])),
  (99, (.goto (-71), 102, 28, 0, .null, [], [])),
  (102, (.ldc_w 501, 105, 0, 0, (.int 100000000), [], [4214])),
  (105, (.istore_n 3, 106, 3, 0, .null, [], [])),
  (106, (.iconst (-1), 107, 0, 0, (.int (-1)), [], [])),
  (107, (.istore 4, 109, 4, 0, .null, [], [])),
  (109, (.iconst 0, 110, 0, 0, (.int 0), [], [])),
  (110, (.istore 5, 112, 5, 0, .null, [], [])),
  (112, (.iload 5, 114, 5, 0, .null, [], [])),
  (114, (.aload_n 0, 115, 0, 0, .null, [], [])),
  (115, (.getfield 13, 118, 11, 3, (.int 3), [], [520])),
  (118, (.iconst 0, 119, 0, 0, (.int 0), [], [])),
  (119, (.iaload, 120, 0, 0, .null, [], [])),
  (120, (.if_icmp .ge 46, 123, 166, 0, .null, [], [])),
  (123, (.aload_n 0, 124, 0, 0, .null, [], [])),
  (124, (.iload_n 2, 125, 2, 0, .null, [], [])),
  (125, (.iload 5, 127, 5, 0, .null, [], [])),
  (127, (.invokevirtual 569, 130, 256, 2, .null, [], [5706, 5707, 5708, 5, 5709])),
  (130, (.istore 6, 132, 6, 0, .null, [], [])),
  (132, (.iload 6, 134, 6, 0, .null, [], [])),
  (134, (.iload_n 3, 135, 3, 0, .null, [], [])),
  (135, (.if_icmp .ge 8, 138, 143, 0, .null, [], [])),
  (138, (.iload 5, 140, 5, 0, .null, [], [])),
  (140, (.goto 5, 143, 145, 0, .null, [], [])),
  (143, (.iload 4, 145, 4, 0, .null, [], [])),
  (145, (.istore 4, 147, 4, 0, .null, [], [])),
  (147, (.iload 6, 149, 6, 0, .null, [], [])),
  (149, (.iload_n 3, 150, 3, 0, .null, [], [])),
  (150, (.if_icmp .ge 8, 153, 158, 0, .null, [], [])),
  (153, (.iload 6, 155, 6, 0, .null, [], [])),
  (155, (.goto 4, 158, 159, 0, .null, [], [])),
  (158, (.iload_n 3, 159, 3, 0, .null, [], [])),
  (159, (.istore_n 3, 160, 3, 0, .null, [], [])),
  (160, (.iinc 5 1, 163, 5, 0, (.int 1), [], [])),
  (163, (.goto (-51), 166, 112, 0, .null, [], [])),
  (166, (.iload 4, 168, 4, 0, .null, [], [])),
  (168, (.iconst (-1), 169, 0, 0, (.int (-1)), [], [])),
  (169, (.if_icmp .eq 7, 172, 176, 0, .null, [], [])),
  (172, (.iload_n 1, 173, 1, 0, .null, [], [])),
  (173, (.ifCond .ne 8, 176, 181, 0, .null, [], [])),
  (176, (.iload 4, 178, 4, 0, .null, [], [])),
  (178, (.goto 4, 181, 182, 0, .null, [], [])),
  (181, (.iload_n 3, 182, 3, 0, .null, [], [])),
  (182, (.ireturn, 183, 0, 0, .null, [], []))]
/-- yX11_few -/
def zc_258 : List (Nat × zE) := [(0, (.aload_n 0, 1, 0, 0, .null, [], [])),
  (1, (.iconst 0, 2, 0, 0, (.int 0), [], [])),
  (2, (.putfield 190, 5, 11, 0, (.int 0), [], [919])),
  (5, (.iload_n 1, 6, 1, 0, .null, [], [])),
  (6, (.i2l, 7, 0, 0, .null, [], [])),
  (7, (.lconst 1, 8, 0, 0, (.long 1), [], [])),
  (8, (.ldc2_w 314, 11, 0, 0, (.long 20), [], [3615])),
  (11, (.invokestatic 210, 14, 150, 3, .null, [], [1001, 1002, 5, 1003])),
  (14, (.ifCond .eq 15, 17, 29, 0, .null, [], [])),
  (17, (.iload_n 2, 18, 2, 0, .null, [], [])),
  (18, (.i2l, 19, 0, 0, .null, [], [])),
  (19, (.lconst 0, 20, 0, 0, (.long 0), [], [])),
  (20, (.ldc2_w 572, 23, 0, 0, (.long 99), [], [5800])),
  (23, (.invokestatic 210, 26, 150, 3, .null, [], [1001, 1002, 5, 1003])),
  (26, (.ifCond .ne 7, 29, 33, 0, .null, [], [])),
  (29, (.ldc2_w 291, 32, 0, 0, (.long (-1)), [], [1420])),
  (32, (.lreturn, 33, 0, 0, .null, [], [])),
  (33, (.iconst 0, 34, 0, 0, (.int 0), [], [])),
  (34, (.istore_n 3, 35, 3, 0, .null, [], [])),
  (35, (.iload_n 3, 36, 3, 0, .null, [], [])),
  (36, (.bipush 21, 38, 0, 0, (.int 21), [], [])),
  (38, (.if_icmp .ge 26, 41, 64, 0, .null, [], [])),
  (41, (.aload_n 0, 42, 0, 0, .null, [], [])),
  (42, (.getfield 164, 45, 11, 62, (.int 3), [], [805])),
  (45, (.iload_n 3, 46, 3, 0, .null, [], [])),
  (46, (.iload_n 3, 47, 3, 0, .null, [], [])),
  (47, (.ifCond .ne 9, 50, 56, 0, .null, [], [])),
  (50, (.ldc2_w 574, 53, 0, 0, (.long 1000000000000), [], [5801])),
  (53, (.goto 4, 56, 57, 0, .null, [], [])),
  (56, (.lconst 0, 57, 0, 0, (.long 0), [], [])),
  (57, (.lastore, 58, 0, 0, .null, [], [])),
  (58, (.iinc 3 1, 61, 3, 0, (.int 1), [], [])),
  (61, (.goto (-26), 64, 35, 0, .null, [], [])),
  (64, (.aload_n 0, 65, 0, 0, .null, [], [])),
  (65, (.getfield 13, 68, 11, 3, (.int 3), [], [520])),
  (68, (.bipush 6, 70, 0, 0, (.int 6), [], [])),
  (70, (.iaload, 71, 0, 0, .null, [], [])),
  (71, (.istore_n 3, 72, 3, 0, .null, [], [])),
  (72, (.iconst 0, 73, 0, 0, (.int 0), [], [])),
  (73, (.istore 4, 75, 4, 0, .null, [], [])),
  (75, (.iload 4, 77, 4, 0, .null, [], [])),
  (77, (.iload_n 2, 78, 2, 0, .null, [], [])),
  (78, (.if_icmp .ge 74, 81, 152, 0, .null, [], [])),
  (81, (.iload_n 1, 82, 1, 0, .null, [], [])),
  (82, (.iconst 1, 83, 0, 0, (.int 1), [], [])),
  (83, (.isub, 84, 0, 0, .null, [], [])),
  (84, (.istore 5, 86, 5, 0, .null, [], [])),
  (86, (.iload 5, 88, 5, 0, .null, [], [])),
  (88, (.ifCond .lt 58, 91, 146, 0, .null, [], [])),
  (91, (.aload_n 0, 92, 0, 0, .null, [], [])),
  (92, (.getfield 164, 95, 11, 62, (.int 3), [], [805])),
  (95, (.iload 5, 97, 5, 0, .null, [], [])),
  (97, (.laload, 98, 0, 0, .null, [], [])),
  (98, (.lstore 6, 100, 6, 0, .null, [], [])),
  (100, (.aload_n 0, 101, 0, 0, .null, [], [])),
  (101, (.getfield 164, 104, 11, 62, (.int 3), [], [805])),
  (104, (.iload 5, 106, 5, 0, .null, [], [])),
  (106, (.lload 6, 108, 6, 0, .null, [], [])),
  (108, (.bipush 10, 110, 0, 0, (.int 10), [], [])),
  (110, (.iload_n 3, 111, 3, 0, .null, [], [])),
  (111, (.isub, 112, 0, 0, .null, [], [])),
  (112, (.i2l, 113, 0, 0, .null, [], [])),
  (113, (.lmul, 114, 0, 0, .null, [], [])),
  (114, (.ldc2_w 245, 117, 0, 0, (.long 10), [], [1605])),
  (117, (.ldiv, 118, 0, 0, .null, [], [])),
  (118, (.lastore, 119, 0, 0, .null, [], [])),
  (119, (.aload_n 0, 120, 0, 0, .null, [], [])),
  (120, (.getfield 164, 123, 11, 62, (.int 3), [], [805])),
  (123, (.iload 5, 125, 5, 0, .null, [], [])),
  (125, (.iconst 1, 126, 0, 0, (.int 1), [], [])),
  (126, (.iadd, 127, 0, 0, .null, [], [])),
  (127, (.dup2, 128, 0, 0, .null, [], [])),
  (128, (.laload, 129, 0, 0, .null, [], [])),
  (129, (.lload 6, 131, 6, 0, .null, [], [])),
  (131, (.iload_n 3, 132, 3, 0, .null, [], [])),
  (132, (.i2l, 133, 0, 0, .null, [], [])),
  (133, (.lmul, 134, 0, 0, .null, [], [])),
  (134, (.ldc2_w 245, 137, 0, 0, (.long 10), [], [1605])),
  (137, (.ldiv, 138, 0, 0, .null, [], [])),
  (138, (.ladd, 139, 0, 0, .null, [], [])),
  (139, (.lastore, 140, 0, 0, .null, [], [])),
  (140, (.iinc 5 (-1), 143, 5, 0, (.int (-1)), [], [])),
  (143, (.goto (-57), 146, 86, 0, .null, [], [])),
  (146, (.iinc 4 1, 149, 4, 0, (.int 1), [], [])),
  (149, (.goto (-74), 152, 75, 0, .null, [], [])),
  (152, (.lconst 0, 153, 0, 0, (.long 0), [], [])),
  (153, (.lstore 4, 155, 4, 0, .null, [], [])),
  (155, (.iconst 0, 156, 0, 0, (.int 0), [], [])),
  (156, (.istore 6, 158, 6, 0, .null, [], [])),
  (158, (.iload 6, 160, 6, 0, .null, [], [])),
  (160, (.iload_n 1, 161, 1, 0, .null, [], [])),
  (161, (.if_icmp .ge 21, 164, 182, 0, .null, [], [])),
  (164, (.lload 4, 166, 4, 0, .null, [], [])),
  (166, (.aload_n 0, 167, 0, 0, .null, [], [])),
  (167, (.getfield 164, 170, 11, 62, (.int 3), [], [805])),
  (170, (.iload 6, 172, 6, 0, .null, [], [])),
  (172, (.laload, 173, 0, 0, .null, [], [])),
  (173, (.ladd, 174, 0, 0, .null, [], [])),
  (174, (.lstore 4, 176, 4, 0, .null, [], [])),
  (176, (.iinc 6 1, 179, 6, 0, (.int 1), [], [])),
  (179, (.goto (-21), 182, 158, 0, .null, [], [])),
  (182, (.lload 4, 184, 4, 0, .null, [], [])),
  (184, (.lreturn, 185, 0, 0, .null, [], []))]
/-- yX11_readSum -/
def zc_259 : List (Nat × zE) := [(0, (.aload_n 0, 1, 0, 0, .null, [], [])),
  (1, (.getfield 178, 4, 11, 64, (.int 3), [], [811])),
  (4, (.iload_n 1, 5, 1, 0, .null, [], [])),
  (5, (.aload_n 0, 6, 0, 0, .null, [], [])),
  (6, (.getfield 301, 9, 11, 23, (.int 0), [], [3316])),
  (9, (.iastore, 10, 0, 0, .null, [], [])),
  (10, (.aload_n 0, 11, 0, 0, .null, [], [])),
  (11, (.getfield 264, 14, 11, 19, (.int 1), [], [2611])),
  (14, (.ifCond .ne 8, 17, 22, 0, .null, [], [])),
  (17, (.aload_n 0, 18, 0, 0, .null, [], [])),
  (18, (.iconst 0, 19, 0, 0, (.int 0), [], [])),
  (19, (.invokevirtual 398, 22, 196, 1, .null, [], [3403, 3404, 3405, 5, 3406])),
  (22, (.aload_n 0, 23, 0, 0, .null, [], [])),
  (23, (.getfield 178, 26, 11, 64, (.int 3), [], [811])),
  (26, (.iload_n 1, 27, 1, 0, .null, [], [])),
  (27, (.iconst 1, 28, 0, 0, (.int 1), [], [])),
  (28, (.iadd, 29, 0, 0, .null, [], [])),
  (29, (.aload_n 0, 30, 0, 0, .null, [], [])),
  (30, (.getfield 301, 33, 11, 23, (.int 0), [], [3316])),
  (33, (.iastore, 34, 0, 0, .null, [], [])),
  (34, (.return_, 35, 0, 0, .null, [], []))]
def zc_260_0 : List (Nat × zE) := [(0, (.iconst (-1), 1, 0, 0, (.int (-1)), [], [])),
  (1, (.istore_n 1, 2, 1, 0, .null, [], [])),
  (2, (.iconst 0, 3, 0, 0, (.int 0), [], [])),
  (3, (.istore_n 2, 4, 2, 0, .null, [], [])),
  (4, (.iload_n 2, 5, 2, 0, .null, [], [])),
  (5, (.iconst 4, 6, 0, 0, (.int 4), [], [])),
  (6, (.if_icmp .ge 28, 9, 34, 0, .null, [], [])),
  (9, (.aload_n 0, 10, 0, 0, .null, [], [])),
  (10, (.aload_n 0, 11, 0, 0, .null, [], [])),
  (11, (.getfield 175, 14, 11, 63, (.int 3), [], [810])),
  (14, (.iload_n 2, 15, 2, 0, .null, [], [])),
  (15, (.laload, 16, 0, 0, .null, [], [])),
  (16, (.invokevirtual 322, 19, 177, 1, .null, [], [2813, 2814, 2815, 5, 2816])),
  (19, (.ifCond .eq 7, 22, 26, 0, .null, [], [])),
  (22, (.iload_n 2, 23, 2, 0, .null, [], [])),
  (23, (.goto 4, 26, 27, 0, .null, [], [])),
  (26, (.iload_n 1, 27, 1, 0, .null, [], [])),
  (27, (.istore_n 1, 28, 1, 0, .null, [], [])),
  (28, (.iinc 2 1, 31, 2, 0, (.int 1), [], [])),
  (31, (.goto (-27), 34, 4, 0, .null, [], [])),
  (34, (.aload_n 0, 35, 0, 0, .null, [], [])),
  (35, (.iload_n 1, 36, 1, 0, .null, [], [])),
  (36, (.iconst (-1), 37, 0, 0, (.int (-1)), [], [])),
  (37, (.if_icmp .eq 16, 40, 53, 0, .null, [], [])),
  (40, (.aload_n 0, 41, 0, 0, .null, [], [])),
  (41, (.getfield 395, 44, 11, 21, (.int 0), [], [3315])),
  (44, (.bipush 12, 46, 0, 0, (.int 12), [], [])),
  (46, (.if_icmp .ge 7, 49, 53, 0, .null, [], [])),
  (49, (.iconst 1, 50, 0, 0, (.int 1), [], [])),
  (50, (.goto 4, 53, 54, 0, .null, [], [])),
  (53, (.iconst 0, 54, 0, 0, (.int 0), [], [])),
  (54, (.invokevirtual 297, 57, 179, 1, .null, [], [2805, 2806, 2807, 5, 2808])),
  (57, (.aload_n 0, 58, 0, 0, .null, [], [])),
  (58, (.getfield 264, 61, 11, 19, (.int 1), [], [2611])),
  (61, (.ifCond .eq 4, 64, 65, 0, .null, [], [])),
  (64, (.return_, 65, 0, 0, .null, [], [])),
  (65, (.bipush 8, 67, 0, 0, (.int 8), [], [])),
  (67, (.aload_n 0, 68, 0, 0, .null, [], [])),
  (68, (.getfield 395, 71, 11, 21, (.int 0), [], [3315])),
  (71, (.imul, 72, 0, 0, .null, [], [])),
  (72, (.istore_n 2, 73, 2, 0, .null, [], [])),
  (73, (.aload_n 0, 74, 0, 0, .null, [], [])),
  (74, (.dup, 75, 0, 0, .null, [], [])),
  (75, (.getfield 395, 78, 11, 21, (.int 0), [], [3315])),
  (78, (.iconst 1, 79, 0, 0, (.int 1), [], [])),
  (79, (.iadd, 80, 0, 0, .null, [], [])),
  (80, (.putfield 395, 83, 11, 21, (.int 0), [], [3315])),
  (83, (.iconst 0, 84, 0, 0, (.int 0), [], [])),
  (84, (.istore_n 3, 85, 3, 0, .null, [], [])),
  (85, (.iload_n 3, 86, 3, 0, .null, [], [])),
  (86, (.bipush 8, 88, 0, 0, (.int 8), [], [])),
  (88, (.if_icmp .ge 18, 91, 106, 0, .null, [], [])),
  (91, (.aload_n 0, 92, 0, 0, .null, [], [])),
  (92, (.getfield 178, 95, 11, 64, (.int 3), [], [811])),
  (95, (.iload_n 2, 96, 2, 0, .null, [], [])),
  (96, (.iload_n 3, 97, 3, 0, .null, [], [])),
  (97, (.iadd, 98, 0, 0, .null, [], [])),
  (98, (.iconst 0, 99, 0, 0, (.int 0), [], [])),
  (99, (.iastore, 100, 0, 0, .null, [], [])),
  (100, (.iinc 3 1, 103, 3, 0, (.int 1), [], [])),
  (103, (.goto (-18), 106, 85, 0, .null, [], [])),
  (106, (.aload_n 0, 107, 0, 0, .null, [], [])),
  (107, (.getfield 178, 110, 11, 64, (.int 3), [], [811])),
  (110, (.iload_n 2, 111, 2, 0, .null, [], [])),
  (111, (.iload_n 1, 112, 1, 0, .null, [], [])),
  (112, (.iastore, 113, 0, 0, .null, [], [])),
  (113, (.iload_n 1, 114, 1, 0, .null, [], [])),
  (114, (.iconst 3, 115, 0, 0, (.int 3), [], [])),
  (115, (.if_icmp .eq 10, 118, 125, 0, .null, [], [])),
  (118, (.aload_n 0, 119, 0, 0, .null, [], [])),
  (119, (.iload_n 2, 120, 2, 0, .null, [], [])),
  (120, (.iconst 1, 121, 0, 0, (.int 1), [], [])),
  (121, (.iadd, 122, 0, 0, .null, [], [])),
  (122, (.invokevirtual 576, 125, 259, 1, .null, [], [4117, 4118, 4119, 5, 4120])),
  (125, (.iload_n 1, 126, 1, 0, .null, [], [])),
  (126, (.ifCond .ne 28, 129, 154, 0, .null, [], [])),
  (129, (.aload_n 0, 130, 0, 0, .null, [], [])),
  (130, (.getfield 264, 133, 11, 19, (.int 1), [], [2611])),
  (133, (.ifCond .ne 14, 136, 147, 0, .null, [], [])),
  (136, (.aload_n 0, 137, 0, 0, .null, [], [])),
  (137, (.aload_n 0, 138, 0, 0, .null, [], [])),
  (138, (.ldc2_w 579, 141, 0, 0, (.long 655), [], [4116])),
  (141, (.invokevirtual 322, 144, 177, 1, .null, [], [2813, 2814, 2815, 5, 2816])),
  (144, (.invokevirtual 297, 147, 179, 1, .null, [], [2805, 2806, 2807, 5, 2808])),
  (147, (.aload_n 0, 148, 0, 0, .null, [], [])),
  (148, (.iload_n 2, 149, 2, 0, .null, [], [])),
  (149, (.iconst 3, 150, 0, 0, (.int 3), [], [])),
  (150, (.iadd, 151, 0, 0, .null, [], [])),
  (151, (.invokevirtual 576, 154, 259, 1, .null, [], [4117, 4118, 4119, 5, 4120])),
  (154, (.aload_n 0, 155, 0, 0, .null, [], [])),
  (155, (.getfield 178, 158, 11, 64, (.int 3), [], [811])),
  (158, (.iload_n 2, 159, 2, 0, .null, [], [])),
  (159, (.bipush 7, 161, 0, 0, (.int 7), [], [])),
  (161, (.iadd, 162, 0, 0, .null, [], [])),
  (162, (.iconst 1, 163, 0, 0, (.int 1), [], [])),
  (163, (.iastore, 164, 0, 0, .null, [], [])),
  (164, (.aload_n 0, 165, 0, 0, .null, [], [])),
  (165, (.getfield 264, 168, 11, 19, (.int 1), [], [2611])),
  (168, (.ifCond .ne 34, 171, 202, 0, .null, [], [])),
  (171, (.aload_n 0, 172, 0, 0, .null, [], [])),
  (172, (.ldc2_w 461, 175, 0, 0, (.long 21279923), [], [2901])),
  (175, (.invokevirtual 322, 178, 177, 1, .null, [], [2813, 2814, 2815, 5, 2816])),
  (178, (.ifCond .eq 24, 181, 202, 0, .null, [], [])),
  (181, (.aload_n 0, 182, 0, 0, .null, [], [])),
  (182, (.invokevirtual 268, 185, 176, 0, .null, [], [2701, 2702, 2703, 5, 2704])),
  (185, (.aload_n 0, 186, 0, 0, .null, [], [])),
  (186, (.getfield 178, 189, 11, 64, (.int 3), [], [811])),
  (189, (.iload_n 2, 190, 2, 0, .null, [], [])),
  (190, (.bipush 7, 192, 0, 0, (.int 7), [], [])),
  (192, (.iadd, 193, 0, 0, .null, [], [])),
  (193, (.aload_n 0, 194, 0, 0, .null, [], [])),
  (194, (.lconst 1, 195, 0, 0, (.long 1), [], [])),
  (195, (.ldc2_w 314, 198, 0, 0, (.long 20), [], [3615])),
  (198, (.invokevirtual 359, 201, 180, 2, .null, [], [2902, 2903, 2904, 5, 2905])),
  (201, (.iastore, 202, 0, 0, .null, [], [])),
  (202, (.aload_n 0, 203, 0, 0, .null, [], [])),
  (203, (.getfield 178, 206, 11, 64, (.int 3), [], [811])),
  (206, (.iload_n 2, 207, 2, 0, .null, [], [])),
  (207, (.iconst 5, 208, 0, 0, (.int 5), [], [])),
  (208, (.iadd, 209, 0, 0, .null, [], []))]
def zc_260_1 : List (Nat × zE) := [(209, (.aload_n 0, 210, 0, 0, .null, [], [])),
  (210, (.getfield 301, 213, 11, 23, (.int 0), [], [3316])),
  (213, (.iastore, 214, 0, 0, .null, [], [])),
  (214, (.aload_n 0, 215, 0, 0, .null, [], [])),
  (215, (.getfield 264, 218, 11, 19, (.int 1), [], [2611])),
  (218, (.ifCond .ne 22, 221, 240, 0, .null, [], [])),
  (221, (.aload_n 0, 222, 0, 0, .null, [], [])),
  (222, (.ldc2_w 401, 225, 0, 0, (.long 294), [], [3402])),
  (225, (.invokevirtual 322, 228, 177, 1, .null, [], [2813, 2814, 2815, 5, 2816])),
  (228, (.ifCond .eq 12, 231, 240, 0, .null, [], [])),
  (231, (.aload_n 0, 232, 0, 0, .null, [], [])),
  (232, (.invokevirtual 268, 235, 176, 0, .null, [], [2701, 2702, 2703, 5, 2704])),
  (235, (.aload_n 0, 236, 0, 0, .null, [], [])),
  (236, (.iconst 1, 237, 0, 0, (.int 1), [], [])),
  (237, (.invokevirtual 398, 240, 196, 1, .null, [], [3403, 3404, 3405, 5, 3406])),
  (240, (.aload_n 0, 241, 0, 0, .null, [], [])),
  (241, (.getfield 178, 244, 11, 64, (.int 3), [], [811])),
  (244, (.iload_n 2, 245, 2, 0, .null, [], [])),
  (245, (.bipush 6, 247, 0, 0, (.int 6), [], [])),
  (247, (.iadd, 248, 0, 0, .null, [], [])),
  (248, (.aload_n 0, 249, 0, 0, .null, [], [])),
  (249, (.getfield 301, 252, 11, 23, (.int 0), [], [3316])),
  (252, (.iastore, 253, 0, 0, .null, [], [])),
  (253, (.return_, 254, 0, 0, .null, [], []))]
/-- yX11_readOrder -/
def zc_260 : List (Nat × zE) := zc_260_0 ++ zc_260_1
/-- yX11_sumOf -/
def zc_261 : List (Nat × zE) := [(0, (.aload_n 0, 1, 0, 0, .null, [], [])),
  (1, (.getfield 581, 4, 11, 68, (.int 1), [], [4205])),
  (4, (.ifCond .ne 20, 7, 24, 0, .null, [], [])),
  (7, (.aload_n 0, 8, 0, 0, .null, [], [])),
  (8, (.getfield 178, 11, 11, 64, (.int 3), [], [811])),
  (11, (.iload_n 1, 12, 1, 0, .null, [], [])),
  (12, (.iaload, 13, 0, 0, .null, [], [])),
  (13, (.aload_n 0, 14, 0, 0, .null, [], [])),
  (14, (.getfield 178, 17, 11, 64, (.int 3), [], [811])),
  (17, (.iload_n 1, 18, 1, 0, .null, [], [])),
  (18, (.iconst 1, 19, 0, 0, (.int 1), [], [])),
  (19, (.iadd, 20, 0, 0, .null, [], [])),
  (20, (.iaload, 21, 0, 0, .null, [], [])),
  (21, (.if_icmp .ne 5, 24, 26, 0, .null, [], [])),
  (24, (.iconst (-1), 25, 0, 0, (.int (-1)), [], [])),
  (25, (.ireturn, 26, 0, 0, .null, [], [])),
  (26, (.aload_n 0, 27, 0, 0, .null, [], [])),
  (27, (.iconst 1, 28, 0, 0, (.int 1), [], [])),
  (28, (.putfield 341, 31, 11, 20, (.int 1), [], [1418])),
  (31, (.aload_n 0, 32, 0, 0, .null, [], [])),
  (32, (.aload_n 0, 33, 0, 0, .null, [], [])),
  (33, (.getfield 178, 36, 11, 64, (.int 3), [], [811])),
  (36, (.iload_n 1, 37, 1, 0, .null, [], [])),
  (37, (.iaload, 38, 0, 0, .null, [], [])),
  (38, (.aload_n 0, 39, 0, 0, .null, [], [])),
  (39, (.getfield 178, 42, 11, 64, (.int 3), [], [811])),
  (42, (.iload_n 1, 43, 1, 0, .null, [], [])),
  (43, (.iconst 1, 44, 0, 0, (.int 1), [], [])),
  (44, (.iadd, 45, 0, 0, .null, [], [])),
  (45, (.iaload, 46, 0, 0, .null, [], [])),
  (46, (.invokevirtual 438, 49, 204, 2, .null, [], [1414, 1415, 1416, 5, 1417])),
  (49, (.aload_n 0, 50, 0, 0, .null, [], [])),
  (50, (.iconst 0, 51, 0, 0, (.int 0), [], [])),
  (51, (.putfield 341, 54, 11, 20, (.int 1), [], [1418])),
  (54, (.aload_n 0, 55, 0, 0, .null, [], [])),
  (55, (.aload_n 0, 56, 0, 0, .null, [], [])),
  (56, (.getfield 415, 59, 11, 38, (.int 1), [], [1412])),
  (59, (.putfield 581, 62, 11, 68, (.int 1), [], [4205])),
  (62, (.aload_n 0, 63, 0, 0, .null, [], [])),
  (63, (.getfield 435, 66, 11, 39, (.int 2), [], [1413])),
  (66, (.l2i, 67, 0, 0, .null, [], [])),
  (67, (.ireturn, 68, 0, 0, .null, [], []))]
/-- yX11_act -/
def zc_262 : List (Nat × zE) := [(0, (.iload_n 1, 1, 1, 0, .null, [], [])),
  (1, (.tableswitch 52 0 2 #[27, 34, 43], 28, 53, 0, .null, [(0, 28), (1, 35), (2, 44)], [])),
  (28, (.aload_n 0, 29, 0, 0, .null, [], [])),
  (29, (.iload_n 2, 30, 2, 0, .null, [], [])),
  (30, (.iload_n 3, 31, 3, 0, .null, [], [])),
  (31, (.invokevirtual 548, 34, 244, 2, .null, [], [4408, 4409, 4410, 5, 4411])),
  (34, (.ireturn, 35, 0, 0, .null, [], [])),
  (35, (.aload_n 0, 36, 0, 0, .null, [], [])),
  (36, (.iconst 1, 37, 0, 0, (.int 1), [], [])),
  (37, (.bipush 28, 39, 0, 0, (.int 28), [], [])),
  (39, (.iload_n 2, 40, 2, 0, .null, [], [])),
  (40, (.invokevirtual 551, 43, 246, 3, .null, [], [4416, 4417, 4418, 5, 4419])),
  (43, (.ireturn, 44, 0, 0, .null, [], [])),
  (44, (.aload_n 0, 45, 0, 0, .null, [], [])),
  (45, (.iconst 2, 46, 0, 0, (.int 2), [], [])),
  (46, (.bipush 48, 48, 0, 0, (.int 48), [], [])),
  (48, (.iload_n 2, 49, 2, 0, .null, [], [])),
  (49, (.invokevirtual 551, 52, 246, 3, .null, [], [4416, 4417, 4418, 5, 4419])),
  (52, (.ireturn, 53, 0, 0, .null, [], [])),
  (53, (.aload_n 0, 54, 0, 0, .null, [], [])),
  (54, (.invokevirtual 557, 57, 249, 0, .null, [], [4420, 4421, 4422, 5, 4423])),
  (57, (.ireturn, 58, 0, 0, .null, [], []))]
/-- yX11_run -/
def zc_263 : List (Nat × zE) := [(0, (.aload_n 0, 1, 0, 0, .null, [], [])),
  (1, (.getfield 98, 4, 11, 36, (.int 3), [], [705])),
  (4, (.iconst 1, 5, 0, 0, (.int 1), [], [])),
  (5, (.aload_n 0, 6, 0, 0, .null, [], [])),
  (6, (.getfield 13, 9, 11, 3, (.int 3), [], [520])),
  (9, (.iconst 5, 10, 0, 0, (.int 5), [], [])),
  (10, (.iaload, 11, 0, 0, .null, [], [])),
  (11, (.i2l, 12, 0, 0, .null, [], [])),
  (12, (.lastore, 13, 0, 0, .null, [], [])),
  (13, (.aload_n 0, 14, 0, 0, .null, [], [])),
  (14, (.getfield 98, 17, 11, 36, (.int 3), [], [705])),
  (17, (.iconst 2, 18, 0, 0, (.int 2), [], [])),
  (18, (.aload_n 0, 19, 0, 0, .null, [], [])),
  (19, (.getfield 584, 22, 11, 65, (.int 0), [], [4110])),
  (22, (.i2l, 23, 0, 0, .null, [], [])),
  (23, (.lastore, 24, 0, 0, .null, [], [])),
  (24, (.aload_n 0, 25, 0, 0, .null, [], [])),
  (25, (.getfield 98, 28, 11, 36, (.int 3), [], [705])),
  (28, (.iconst 3, 29, 0, 0, (.int 3), [], [])),
  (29, (.aload_n 0, 30, 0, 0, .null, [], [])),
  (30, (.getfield 587, 33, 11, 66, (.int 0), [], [4111])),
  (33, (.i2l, 34, 0, 0, .null, [], [])),
  (34, (.lastore, 35, 0, 0, .null, [], [])),
  (35, (.aload_n 0, 36, 0, 0, .null, [], [])),
  (36, (.getfield 98, 39, 11, 36, (.int 3), [], [705])),
  (39, (.iconst 4, 40, 0, 0, (.int 4), [], [])),
  (40, (.aload_n 0, 41, 0, 0, .null, [], [])),
  (41, (.getfield 13, 44, 11, 3, (.int 3), [], [520])),
  (44, (.iconst 0, 45, 0, 0, (.int 0), [], [])),
  (45, (.iaload, 46, 0, 0, .null, [], [])),
  (46, (.i2l, 47, 0, 0, .null, [], [])),
  (47, (.lastore, 48, 0, 0, .null, [], [])),
  (48, (.aload_n 0, 49, 0, 0, .null, [], [])),
  (49, (.aload_n 0, 50, 0, 0, .null, [], [])),
  (50, (.invokevirtual 542, 53, 240, 0, .null, [], [4206, 4207, 4208, 5, 4209])),
  (53, (.putfield 424, 56, 11, 40, (.int 0), [], [1419])),
  (56, (.aload_n 0, 57, 0, 0, .null, [], [])),
  (57, (.iconst 0, 58, 0, 0, (.int 0), [], [])),
  (58, (.putfield 581, 61, 11, 68, (.int 1), [], [4205])),
  (61, (.aload_n 0, 62, 0, 0, .null, [], [])),
  (62, (.getfield 178, 65, 11, 64, (.int 3), [], [811])),
  (65, (.iload_n 1, 66, 1, 0, .null, [], [])),
  (66, (.iconst 5, 67, 0, 0, (.int 5), [], [])),
  (67, (.iadd, 68, 0, 0, .null, [], [])),
  (68, (.iaload, 69, 0, 0, .null, [], [])),
  (69, (.aload_n 0, 70, 0, 0, .null, [], [])),
  (70, (.getfield 178, 73, 11, 64, (.int 3), [], [811])),
  (73, (.iload_n 1, 74, 1, 0, .null, [], [])),
  (74, (.bipush 6, 76, 0, 0, (.int 6), [], [])),
  (76, (.iadd, 77, 0, 0, .null, [], [])),
  (77, (.iaload, 78, 0, 0, .null, [], [])),
  (78, (.if_icmp .ge 24, 81, 102, 0, .null, [], [])),
  (81, (.aload_n 0, 82, 0, 0, .null, [], [])),
  (82, (.iload_n 1, 83, 1, 0, .null, [], [])),
  (83, (.iconst 5, 84, 0, 0, (.int 5), [], [])),
  (84, (.iadd, 85, 0, 0, .null, [], [])),
  (85, (.invokevirtual 590, 88, 261, 1, .null, [], [4400, 4401, 4402, 5, 4403])),
  (88, (.istore_n 2, 89, 2, 0, .null, [], [])),
  (89, (.aload_n 0, 90, 0, 0, .null, [], [])),
  (90, (.getfield 581, 93, 11, 68, (.int 1), [], [4205])),
  (93, (.ifCond .ne 7, 96, 100, 0, .null, [], [])),
  (96, (.iload_n 2, 97, 2, 0, .null, [], [])),
  (97, (.ifCond .ne 5, 100, 102, 0, .null, [], [])),
  (100, (.iconst 0, 101, 0, 0, (.int 0), [], [])),
  (101, (.ireturn, 102, 0, 0, .null, [], [])),
  (102, (.aload_n 0, 103, 0, 0, .null, [], [])),
  (103, (.iload_n 1, 104, 1, 0, .null, [], [])),
  (104, (.iconst 1, 105, 0, 0, (.int 1), [], [])),
  (105, (.iadd, 106, 0, 0, .null, [], [])),
  (106, (.invokevirtual 590, 109, 261, 1, .null, [], [4400, 4401, 4402, 5, 4403])),
  (109, (.istore_n 2, 110, 2, 0, .null, [], [])),
  (110, (.aload_n 0, 111, 0, 0, .null, [], [])),
  (111, (.iload_n 1, 112, 1, 0, .null, [], [])),
  (112, (.iconst 3, 113, 0, 0, (.int 3), [], [])),
  (113, (.iadd, 114, 0, 0, .null, [], [])),
  (114, (.invokevirtual 590, 117, 261, 1, .null, [], [4400, 4401, 4402, 5, 4403])),
  (117, (.istore_n 3, 118, 3, 0, .null, [], [])),
  (118, (.aload_n 0, 119, 0, 0, .null, [], [])),
  (119, (.getfield 581, 122, 11, 68, (.int 1), [], [4205])),
  (122, (.ifCond .eq 6, 125, 128, 0, .null, [], [])),
  (125, (.bipush (-3), 127, 0, 0, (.int (-3)), [], [])),
  (127, (.ireturn, 128, 0, 0, .null, [], [])),
  (128, (.aload_n 0, 129, 0, 0, .null, [], [])),
  (129, (.aload_n 0, 130, 0, 0, .null, [], [])),
  (130, (.getfield 178, 133, 11, 64, (.int 3), [], [811])),
  (133, (.iload_n 1, 134, 1, 0, .null, [], [])),
  (134, (.iaload, 135, 0, 0, .null, [], [])),
  (135, (.iload_n 2, 136, 2, 0, .null, [], [])),
  (136, (.iload_n 3, 137, 3, 0, .null, [], [])),
  (137, (.invokevirtual 593, 140, 262, 3, .null, [], [4404, 4405, 4406, 5, 4407])),
  (140, (.istore 4, 142, 4, 0, .null, [], [])),
  (142, (.iload 4, 144, 4, 0, .null, [], [])),
  (144, (.ifCond .ge 6, 147, 150, 0, .null, [], [])),
  (147, (.bipush (-3), 149, 0, 0, (.int (-3)), [], [])),
  (149, (.ireturn, 150, 0, 0, .null, [], [])),
  (150, (.aload_n 0, 151, 0, 0, .null, [], [])),
  (151, (.aload_n 0, 152, 0, 0, .null, [], [])),
  (152, (.getfield 178, 155, 11, 64, (.int 3), [], [811])),
  (155, (.iload_n 1, 156, 1, 0, .null, [], [])),
  (156, (.iaload, 157, 0, 0, .null, [], [])),
  (157, (.iconst 3, 158, 0, 0, (.int 3), [], [])),
  (158, (.if_icmp .ne 8, 161, 166, 0, .null, [], [])),
  (161, (.iload 4, 163, 4, 0, .null, [], [])),
  (163, (.goto 7, 166, 170, 0, .null, [], [])),
  (166, (.aload_n 0, 167, 0, 0, .null, [], [])),
  (167, (.getfield 587, 170, 11, 66, (.int 0), [], [4111])),
  (170, (.putfield 587, 173, 11, 66, (.int 0), [], [4111])),
  (173, (.aload_n 0, 174, 0, 0, .null, [], [])),
  (174, (.dup, 175, 0, 0, .null, [], [])),
  (175, (.getfield 584, 178, 11, 65, (.int 0), [], [4110])),
  (178, (.iconst 1, 179, 0, 0, (.int 1), [], [])),
  (179, (.iadd, 180, 0, 0, .null, [], [])),
  (180, (.putfield 584, 183, 11, 65, (.int 0), [], [4110])),
  (183, (.iconst 0, 184, 0, 0, (.int 0), [], [])),
  (184, (.ireturn, 185, 0, 0, .null, [], []))]
/-- yX11_orders -/
def zc_264 : List (Nat × zE) := [(0, (.aload_n 0, 1, 0, 0, .null, [], [])),
  (1, (.iconst 0, 2, 0, 0, (.int 0), [], [])),
  (2, (.putfield 190, 5, 11, 0, (.int 0), [], [919])),
  (5, (.aload_n 0, 6, 0, 0, .null, [], [])),
  (6, (.iconst (-1), 7, 0, 0, (.int (-1)), [], [])),
  (7, (.putfield 181, 10, 11, 67, (.int 0), [], [812])),
  (10, (.aload_n 0, 11, 0, 0, .null, [], [])),
  (11, (.iconst 1, 12, 0, 0, (.int 1), [], [])),
  (12, (.invokevirtual 403, 15, 197, 1, .null, [], [3317, 3318, 3319, 5, 3320])),
  (15, (.aload_n 0, 16, 0, 0, .null, [], [])),
  (16, (.invokevirtual 596, 19, 260, 0, .null, [], [4112, 4113, 4114, 5, 4115])),
  (19, (.aload_n 0, 20, 0, 0, .null, [], [])),
  (20, (.getfield 264, 23, 11, 19, (.int 1), [], [2611])),
  (23, (.ifCond .ne 23, 26, 46, 0, .null, [], [])),
  (26, (.aload_n 0, 27, 0, 0, .null, [], [])),
  (27, (.bipush 59, 29, 0, 0, (.int 59), [], [])),
  (29, (.invokevirtual 335, 32, 178, 1, .null, [], [2801, 2802, 2803, 5, 2804])),
  (32, (.ifCond .eq 14, 35, 46, 0, .null, [], [])),
  (35, (.aload_n 0, 36, 0, 0, .null, [], [])),
  (36, (.invokevirtual 268, 39, 176, 0, .null, [], [2701, 2702, 2703, 5, 2704])),
  (39, (.aload_n 0, 40, 0, 0, .null, [], [])),
  (40, (.invokevirtual 596, 43, 260, 0, .null, [], [4112, 4113, 4114, 5, 4115])),
  (43, (.goto (-24), 46, 19, 0, .null, [], [])),
  (46, (.aload_n 0, 47, 0, 0, .null, [], [])),
  (47, (.invokevirtual 409, 50, 198, 0, .null, [], [3700, 3701, 3702, 5, 3703])),
  (50, (.aload_n 0, 51, 0, 0, .null, [], [])),
  (51, (.getfield 264, 54, 11, 19, (.int 1), [], [2611])),
  (54, (.ifCond .eq 10, 57, 64, 0, .null, [], [])),
  (57, (.aload_n 0, 58, 0, 0, .null, [], [])),
  (58, (.bipush (-6), 60, 0, 0, (.int (-6)), [], [])),
  (60, (.invokevirtual 199, 63, 153, 1, .null, [], [1009, 1010, 1011, 5, 1012])),
  (63, (.ireturn, 64, 0, 0, .null, [], [])),
  (64, (.aload_n 0, 65, 0, 0, .null, [], [])),
  (65, (.bipush 17, 67, 0, 0, (.int 17), [], [])),
  (67, (.invokevirtual 203, 70, 156, 1, .null, [], [4121, 4122, 4123, 5, 4200])),
  (70, (.aload_n 0, 71, 0, 0, .null, [], [])),
  (71, (.getfield 196, 74, 11, 8, (.int 0), [], [1008])),
  (74, (.istore_n 1, 75, 1, 0, .null, [], [])),
  (75, (.iconst 0, 76, 0, 0, (.int 0), [], [])),
  (76, (.istore_n 2, 77, 2, 0, .null, [], [])),
  (77, (.iload_n 2, 78, 2, 0, .null, [], [])),
  (78, (.sipush 1008, 81, 0, 0, (.int 1008), [], [])),
  (81, (.if_icmp .ge 21, 84, 102, 0, .null, [], [])),
  (84, (.aload_n 0, 85, 0, 0, .null, [], [])),
  (85, (.getfield 29, 88, 11, 9, (.int 3), [], [602])),
  (88, (.iload_n 2, 89, 2, 0, .null, [], [])),
  (89, (.aload_n 0, 90, 0, 0, .null, [], [])),
  (90, (.getfield 23, 93, 11, 6, (.int 3), [], [600])),
  (93, (.iload_n 2, 94, 2, 0, .null, [], [])),
  (94, (.iaload, 95, 0, 0, .null, [], [])),
  (95, (.iastore, 96, 0, 0, .null, [], [])),
  (96, (.iinc 2 1, 99, 2, 0, (.int 1), [], [])),
  (99, (.goto (-22), 102, 77, 0, .null, [], [])),
  (102, (.iconst 0, 103, 0, 0, (.int 0), [], [])),
  (103, (.istore_n 2, 104, 2, 0, .null, [], [])),
  (104, (.iload_n 2, 105, 2, 0, .null, [], [])),
  (105, (.bipush 16, 107, 0, 0, (.int 16), [], [])),
  (107, (.if_icmp .ge 21, 110, 128, 0, .null, [], [])),
  (110, (.aload_n 0, 111, 0, 0, .null, [], [])),
  (111, (.getfield 32, 114, 11, 10, (.int 3), [], [603])),
  (114, (.iload_n 2, 115, 2, 0, .null, [], [])),
  (115, (.aload_n 0, 116, 0, 0, .null, [], [])),
  (116, (.getfield 26, 119, 11, 7, (.int 3), [], [601])),
  (119, (.iload_n 2, 120, 2, 0, .null, [], [])),
  (120, (.iaload, 121, 0, 0, .null, [], [])),
  (121, (.iastore, 122, 0, 0, .null, [], [])),
  (122, (.iinc 2 1, 125, 2, 0, (.int 1), [], [])),
  (125, (.goto (-21), 128, 104, 0, .null, [], [])),
  (128, (.aload_n 0, 129, 0, 0, .null, [], [])),
  (129, (.iconst 0, 130, 0, 0, (.int 0), [], [])),
  (130, (.putfield 584, 133, 11, 65, (.int 0), [], [4110])),
  (133, (.aload_n 0, 134, 0, 0, .null, [], [])),
  (134, (.iconst (-1), 135, 0, 0, (.int (-1)), [], [])),
  (135, (.putfield 587, 138, 11, 66, (.int 0), [], [4111])),
  (138, (.iconst 0, 139, 0, 0, (.int 0), [], [])),
  (139, (.istore_n 2, 140, 2, 0, .null, [], [])),
  (140, (.iload_n 2, 141, 2, 0, .null, [], [])),
  (141, (.aload_n 0, 142, 0, 0, .null, [], [])),
  (142, (.getfield 395, 145, 11, 21, (.int 0), [], [3315])),
  (145, (.if_icmp .ge 61, 148, 206, 0, .null, [], [])),
  (148, (.iconst 0, 149, 0, 0, (.int 0), [], [])),
  (149, (.istore_n 3, 150, 3, 0, .null, [], [])),
  (150, (.iload_n 3, 151, 3, 0, .null, [], [])),
  (151, (.aload_n 0, 152, 0, 0, .null, [], [])),
  (152, (.getfield 178, 155, 11, 64, (.int 3), [], [811])),
  (155, (.bipush 8, 157, 0, 0, (.int 8), [], [])),
  (157, (.iload_n 2, 158, 2, 0, .null, [], [])),
  (158, (.imul, 159, 0, 0, .null, [], [])),
  (159, (.bipush 7, 161, 0, 0, (.int 7), [], [])),
  (161, (.iadd, 162, 0, 0, .null, [], [])),
  (162, (.iaload, 163, 0, 0, .null, [], [])),
  (163, (.if_icmp .ge 37, 166, 200, 0, .null, [], [])),
  (166, (.aload_n 0, 167, 0, 0, .null, [], [])),
  (167, (.bipush 8, 169, 0, 0, (.int 8), [], [])),
  (169, (.iload_n 2, 170, 2, 0, .null, [], [])),
  (170, (.imul, 171, 0, 0, .null, [], [])),
  (171, (.invokevirtual 599, 174, 263, 1, .null, [], [4201, 4202, 4203, 5, 4204])),
  (174, (.ifCond .ge 20, 177, 194, 0, .null, [], [])),
  (177, (.aload_n 0, 178, 0, 0, .null, [], [])),
  (178, (.iload_n 1, 179, 1, 0, .null, [], [])),
  (179, (.invokevirtual 602, 182, 265, 1, .null, [], [4504, 4505, 4506, 5, 4507])),
  (182, (.aload_n 0, 183, 0, 0, .null, [], [])),
  (183, (.iload_n 2, 184, 2, 0, .null, [], [])),
  (184, (.putfield 181, 187, 11, 67, (.int 0), [], [812])),
  (187, (.aload_n 0, 188, 0, 0, .null, [], [])),
  (188, (.bipush (-3), 190, 0, 0, (.int (-3)), [], [])),
  (190, (.invokevirtual 199, 193, 153, 1, .null, [], [1009, 1010, 1011, 5, 1012])),
  (193, (.ireturn, 194, 0, 0, .null, [], [])),
  (194, (.iinc 3 1, 197, 3, 0, (.int 1), [], [])),
  (197, (.goto (-47), 200, 150, 0, .null, [], [])),
  (200, (.iinc 2 1, 203, 2, 0, (.int 1), [], [])),
  (203, (.goto (-63), 206, 140, 0, .null, [], [])),
  (206, (.aload_n 0, 207, 0, 0, .null, [], [])),
  (207, (.aload_n 0, 208, 0, 0, .null, [], [])),
  (208, (.getfield 584, 211, 11, 65, (.int 0), [], [4110])),
  (211, (.invokevirtual 199, 214, 153, 1, .null, [], [1009, 1010, 1011, 5, 1012])),
  (214, (.ireturn, 215, 0, 0, .null, [], []))]
/-- yX11_giveBack -/
def zc_265 : List (Nat × zE) := [(0, (.aload_n 0, 1, 0, 0, .null, [], [])),
  (1, (.bipush 17, 3, 0, 0, (.int 17), [], [])),
  (3, (.invokevirtual 207, 6, 157, 1, .null, [], [4508, 4509, 4510, 5, 4511])),
  (6, (.iconst 0, 7, 0, 0, (.int 0), [], [])),
  (7, (.istore_n 2, 8, 2, 0, .null, [], [])),
  (8, (.iload_n 2, 9, 2, 0, .null, [], [])),
  (9, (.sipush 1008, 12, 0, 0, (.int 1008), [], [])),
  (12, (.if_icmp .ge 21, 15, 33, 0, .null, [], [])),
  (15, (.aload_n 0, 16, 0, 0, .null, [], [])),
  (16, (.getfield 23, 19, 11, 6, (.int 3), [], [600])),
  (19, (.iload_n 2, 20, 2, 0, .null, [], [])),
  (20, (.aload_n 0, 21, 0, 0, .null, [], [])),
  (21, (.getfield 29, 24, 11, 9, (.int 3), [], [602])),
  (24, (.iload_n 2, 25, 2, 0, .null, [], [])),
  (25, (.iaload, 26, 0, 0, .null, [], [])),
  (26, (.iastore, 27, 0, 0, .null, [], [])),
  (27, (.iinc 2 1, 30, 2, 0, (.int 1), [], [])),
  (30, (.goto (-22), 33, 8, 0, .null, [], [])),
  (33, (.iconst 0, 34, 0, 0, (.int 0), [], [])),
  (34, (.istore_n 2, 35, 2, 0, .null, [], [])),
  (35, (.iload_n 2, 36, 2, 0, .null, [], [])),
  (36, (.bipush 16, 38, 0, 0, (.int 16), [], [])),
  (38, (.if_icmp .ge 21, 41, 59, 0, .null, [], [])),
  (41, (.aload_n 0, 42, 0, 0, .null, [], [])),
  (42, (.getfield 26, 45, 11, 7, (.int 3), [], [601])),
  (45, (.iload_n 2, 46, 2, 0, .null, [], [])),
  (46, (.aload_n 0, 47, 0, 0, .null, [], [])),
  (47, (.getfield 32, 50, 11, 10, (.int 3), [], [603])),
  (50, (.iload_n 2, 51, 2, 0, .null, [], [])),
  (51, (.iaload, 52, 0, 0, .null, [], [])),
  (52, (.iastore, 53, 0, 0, .null, [], [])),
  (53, (.iinc 2 1, 56, 2, 0, (.int 1), [], [])),
  (56, (.goto (-21), 59, 35, 0, .null, [], [])),
  (59, (.aload_n 0, 60, 0, 0, .null, [], [])),
  (60, (.iload_n 1, 61, 1, 0, .null, [], [])),
  (61, (.putfield 196, 64, 11, 8, (.int 0), [], [1008])),
  (64, (.return_, 65, 0, 0, .null, [], []))]
/-- yX11_stopped -/
def zc_266 : List (Nat × zE) := [(0, (.aload_n 0, 1, 0, 0, .null, [], [])),
  (1, (.iconst 0, 2, 0, 0, (.int 0), [], [])),
  (2, (.putfield 190, 5, 11, 0, (.int 0), [], [919])),
  (5, (.aload_n 0, 6, 0, 0, .null, [], [])),
  (6, (.getfield 181, 9, 11, 67, (.int 0), [], [812])),
  (9, (.ireturn, 10, 0, 0, .null, [], []))]
/-- yX11_draw -/
def zc_267 : List (Nat × zE) := [(0, (.aload_n 0, 1, 0, 0, .null, [], [])),
  (1, (.aload_n 0, 2, 0, 0, .null, [], [])),
  (2, (.getfield 605, 5, 11, 69, (.int 2), [], [5903])),
  (5, (.ldc2_w 608, 8, 0, 0, (.long 1103), [], [5908])),
  (8, (.lmul, 9, 0, 0, .null, [], [])),
  (9, (.ldc2_w 610, 12, 0, 0, (.long 12345), [], [5909])),
  (12, (.ladd, 13, 0, 0, .null, [], [])),
  (13, (.ldc2_w 612, 16, 0, 0, (.long 1000003), [], [5910])),
  (16, (.lrem, 17, 0, 0, .null, [], [])),
  (17, (.putfield 605, 20, 11, 69, (.int 2), [], [5903])),
  (20, (.aload_n 0, 21, 0, 0, .null, [], [])),
  (21, (.getfield 605, 24, 11, 69, (.int 2), [], [5903])),
  (24, (.iload_n 1, 25, 1, 0, .null, [], [])),
  (25, (.i2l, 26, 0, 0, .null, [], [])),
  (26, (.lrem, 27, 0, 0, .null, [], [])),
  (27, (.l2i, 28, 0, 0, .null, [], [])),
  (28, (.ireturn, 29, 0, 0, .null, [], []))]
def zc_268_0 : List (Nat × zE) := [(0, (.aload_n 0, 1, 0, 0, .null, [], [])),
  (1, (.iconst 0, 2, 0, 0, (.int 0), [], [])),
  (2, (.putfield 190, 5, 11, 0, (.int 0), [], [919])),
  (5, (.iload_n 1, 6, 1, 0, .null, [], [])),
  (6, (.i2l, 7, 0, 0, .null, [], [])),
  (7, (.lconst 0, 8, 0, 0, (.long 0), [], [])),
  (8, (.ldc2_w 293, 11, 0, 0, (.long 1000000), [], [2709])),
  (11, (.invokestatic 210, 14, 150, 3, .null, [], [1001, 1002, 5, 1003])),
  (14, (.ifCond .eq 15, 17, 29, 0, .null, [], [])),
  (17, (.iload_n 2, 18, 2, 0, .null, [], [])),
  (18, (.i2l, 19, 0, 0, .null, [], [])),
  (19, (.lconst 1, 20, 0, 0, (.long 1), [], [])),
  (20, (.ldc2_w 614, 23, 0, 0, (.long 60), [], [5902])),
  (23, (.invokestatic 210, 26, 150, 3, .null, [], [1001, 1002, 5, 1003])),
  (26, (.ifCond .ne 9, 29, 35, 0, .null, [], [])),
  (29, (.aload_n 0, 30, 0, 0, .null, [], [])),
  (30, (.iconst (-1), 31, 0, 0, (.int (-1)), [], [])),
  (31, (.invokevirtual 199, 34, 153, 1, .null, [], [1009, 1010, 1011, 5, 1012])),
  (34, (.ireturn, 35, 0, 0, .null, [], [])),
  (35, (.aload_n 0, 36, 0, 0, .null, [], [])),
  (36, (.getfield 13, 39, 11, 3, (.int 3), [], [520])),
  (39, (.iconst 0, 40, 0, 0, (.int 0), [], [])),
  (40, (.iaload, 41, 0, 0, .null, [], [])),
  (41, (.ifCond .ne 10, 44, 51, 0, .null, [], [])),
  (44, (.aload_n 0, 45, 0, 0, .null, [], [])),
  (45, (.bipush (-3), 47, 0, 0, (.int (-3)), [], [])),
  (47, (.invokevirtual 199, 50, 153, 1, .null, [], [1009, 1010, 1011, 5, 1012])),
  (50, (.ireturn, 51, 0, 0, .null, [], [])),
  (51, (.aload_n 0, 52, 0, 0, .null, [], [])),
  (52, (.bipush 16, 54, 0, 0, (.int 16), [], [])),
  (54, (.invokevirtual 203, 57, 156, 1, .null, [], [4121, 4122, 4123, 5, 4200])),
  (57, (.aload_n 0, 58, 0, 0, .null, [], [])),
  (58, (.iload_n 1, 59, 1, 0, .null, [], [])),
  (59, (.i2l, 60, 0, 0, .null, [], [])),
  (60, (.putfield 605, 63, 11, 69, (.int 2), [], [5903])),
  (63, (.iconst 0, 64, 0, 0, (.int 0), [], [])),
  (64, (.istore_n 3, 65, 3, 0, .null, [], [])),
  (65, (.iconst 0, 66, 0, 0, (.int 0), [], [])),
  (66, (.istore 4, 68, 4, 0, .null, [], [])),
  (68, (.iload 4, 70, 4, 0, .null, [], [])),
  (70, (.iload_n 2, 71, 2, 0, .null, [], [])),
  (71, (.if_icmp .ge 130, 74, 201, 0, .null, [], [])),
  (74, (.aload_n 0, 75, 0, 0, .null, [], [])),
  (75, (.getfield 13, 78, 11, 3, (.int 3), [], [520])),
  (78, (.iconst 5, 79, 0, 0, (.int 5), [], [])),
  (79, (.iaload, 80, 0, 0, .null, [], [])),
  (80, (.sipush 999, 83, 0, 0, (.int 999), [], [])),
  (83, (.if_icmp .ge 118, 86, 201, 0, .null, [], [])),
  (86, (.aload_n 0, 87, 0, 0, .null, [], [])),
  (87, (.aload_n 0, 88, 0, 0, .null, [], [])),
  (88, (.getfield 13, 91, 11, 3, (.int 3), [], [520])),
  (91, (.iconst 0, 92, 0, 0, (.int 0), [], [])),
  (92, (.iaload, 93, 0, 0, .null, [], [])),
  (93, (.invokevirtual 616, 96, 267, 1, .null, [], [5904, 5905, 5906, 5, 5907])),
  (96, (.istore 5, 98, 5, 0, .null, [], [])),
  (98, (.aload_n 0, 99, 0, 0, .null, [], [])),
  (99, (.iconst 3, 100, 0, 0, (.int 3), [], [])),
  (100, (.invokevirtual 616, 103, 267, 1, .null, [], [5904, 5905, 5906, 5, 5907])),
  (103, (.istore 6, 105, 6, 0, .null, [], [])),
  (105, (.aload_n 0, 106, 0, 0, .null, [], [])),
  (106, (.iconst 4, 107, 0, 0, (.int 4), [], [])),
  (107, (.invokevirtual 616, 110, 267, 1, .null, [], [5904, 5905, 5906, 5, 5907])),
  (110, (.istore 7, 112, 7, 0, .null, [], [])),
  (112, (.iload 7, 114, 7, 0, .null, [], [])),
  (114, (.iconst 2, 115, 0, 0, (.int 2), [], [])),
  (115, (.if_icmp .ne 11, 118, 126, 0, .null, [], [])),
  (118, (.bipush 28, 120, 0, 0, (.int 28), [], [])),
  (120, (.iload 5, 122, 5, 0, .null, [], [])),
  (122, (.iadd, 123, 0, 0, .null, [], [])),
  (123, (.goto 22, 126, 145, 0, .null, [], [])),
  (126, (.iload 7, 128, 7, 0, .null, [], [])),
  (128, (.iconst 3, 129, 0, 0, (.int 3), [], [])),
  (129, (.if_icmp .ne 11, 132, 140, 0, .null, [], [])),
  (132, (.bipush 48, 134, 0, 0, (.int 48), [], [])),
  (134, (.iload 5, 136, 5, 0, .null, [], [])),
  (136, (.iadd, 137, 0, 0, .null, [], [])),
  (137, (.goto 8, 140, 145, 0, .null, [], [])),
  (140, (.bipush 8, 142, 0, 0, (.int 8), [], [])),
  (142, (.iload 5, 144, 5, 0, .null, [], [])),
  (144, (.iadd, 145, 0, 0, .null, [], [])),
  (145, (.istore 8, 147, 8, 0, .null, [], [])),
  (147, (.aload_n 0, 148, 0, 0, .null, [], [])),
  (148, (.getfield 13, 151, 11, 3, (.int 3), [], [520])),
  (151, (.iload 8, 153, 8, 0, .null, [], [])),
  (153, (.iload 7, 155, 7, 0, .null, [], [])),
  (155, (.iconst 2, 156, 0, 0, (.int 2), [], [])),
  (156, (.if_icmp .ge 8, 159, 164, 0, .null, [], [])),
  (159, (.iload 6, 161, 6, 0, .null, [], [])),
  (161, (.goto 12, 164, 173, 0, .null, [], [])),
  (164, (.iconst 1, 165, 0, 0, (.int 1), [], [])),
  (165, (.aload_n 0, 166, 0, 0, .null, [], [])),
  (166, (.getfield 13, 169, 11, 3, (.int 3), [], [520])),
  (169, (.iload 8, 171, 8, 0, .null, [], [])),
  (171, (.iaload, 172, 0, 0, .null, [], [])),
  (172, (.isub, 173, 0, 0, .null, [], [])),
  (173, (.iastore, 174, 0, 0, .null, [], [])),
  (174, (.iload_n 3, 175, 3, 0, .null, [], [])),
  (175, (.aload_n 0, 176, 0, 0, .null, [], [])),
  (176, (.aload_n 0, 177, 0, 0, .null, [], [])),
  (177, (.invokevirtual 542, 180, 240, 0, .null, [], [4206, 4207, 4208, 5, 4209])),
  (180, (.invokevirtual 554, 183, 241, 1, .null, [], [4500, 4501, 4502, 5, 4503])),
  (183, (.iadd, 184, 0, 0, .null, [], [])),
  (184, (.istore_n 3, 185, 3, 0, .null, [], [])),
  (185, (.aload_n 0, 186, 0, 0, .null, [], [])),
  (186, (.getfield 13, 189, 11, 3, (.int 3), [], [520])),
  (189, (.iconst 5, 190, 0, 0, (.int 5), [], [])),
  (190, (.dup2, 191, 0, 0, .null, [], [])),
  (191, (.iaload, 192, 0, 0, .null, [], [])),
  (192, (.iconst 1, 193, 0, 0, (.int 1), [], [])),
  (193, (.iadd, 194, 0, 0, .null, [], [])),
  (194, (.iastore, 195, 0, 0, .null, [], [])),
  (195, (.iinc 4 1, 198, 4, 0, (.int 1), [], [])),
  (198, (.goto (-130), 201, 68, 0, .null, [], [])),
  (201, (.iconst 0, 202, 0, 0, (.int 0), [], [])),
  (202, (.istore 4, 204, 4, 0, .null, [], [])),
  (204, (.iload 4, 206, 4, 0, .null, [], [])),
  (206, (.bipush 63, 208, 0, 0, (.int 63), [], [])),
  (208, (.if_icmp .ge 25, 211, 233, 0, .null, [], [])),
  (211, (.aload_n 0, 212, 0, 0, .null, [], [])),
  (212, (.getfield 184, 215, 11, 70, (.int 3), [], [813]))]
def zc_268_1 : List (Nat × zE) := [(215, (.iload 4, 217, 4, 0, .null, [], [])),
  (217, (.aload_n 0, 218, 0, 0, .null, [], [])),
  (218, (.getfield 13, 221, 11, 3, (.int 3), [], [520])),
  (221, (.iconst 5, 222, 0, 0, (.int 5), [], [])),
  (222, (.iload 4, 224, 4, 0, .null, [], [])),
  (224, (.iadd, 225, 0, 0, .null, [], [])),
  (225, (.iaload, 226, 0, 0, .null, [], [])),
  (226, (.iastore, 227, 0, 0, .null, [], [])),
  (227, (.iinc 4 1, 230, 4, 0, (.int 1), [], [])),
  (230, (.goto (-26), 233, 204, 0, .null, [], [])),
  (233, (.aload_n 0, 234, 0, 0, .null, [], [])),
  (234, (.aload_n 0, 235, 0, 0, .null, [], [])),
  (235, (.getfield 13, 238, 11, 3, (.int 3), [], [520])),
  (238, (.iconst 0, 239, 0, 0, (.int 0), [], [])),
  (239, (.iaload, 240, 0, 0, .null, [], [])),
  (240, (.putfield 187, 243, 11, 71, (.int 0), [], [814])),
  (243, (.aload_n 0, 244, 0, 0, .null, [], [])),
  (244, (.bipush 16, 246, 0, 0, (.int 16), [], [])),
  (246, (.invokevirtual 207, 249, 157, 1, .null, [], [4508, 4509, 4510, 5, 4511])),
  (249, (.aload_n 0, 250, 0, 0, .null, [], [])),
  (250, (.iload_n 3, 251, 3, 0, .null, [], [])),
  (251, (.invokevirtual 199, 254, 153, 1, .null, [], [1009, 1010, 1011, 5, 1012])),
  (254, (.ireturn, 255, 0, 0, .null, [], []))]
/-- yX11_weeks -/
def zc_268 : List (Nat × zE) := zc_268_0 ++ zc_268_1
/-- yX11_drawn -/
def zc_269 : List (Nat × zE) := [(0, (.aload_n 0, 1, 0, 0, .null, [], [])),
  (1, (.iconst 0, 2, 0, 0, (.int 0), [], [])),
  (2, (.putfield 190, 5, 11, 0, (.int 0), [], [919])),
  (5, (.iload_n 1, 6, 1, 0, .null, [], [])),
  (6, (.i2l, 7, 0, 0, .null, [], [])),
  (7, (.lconst 0, 8, 0, 0, (.long 0), [], [])),
  (8, (.aload_n 0, 9, 0, 0, .null, [], [])),
  (9, (.getfield 187, 12, 11, 71, (.int 0), [], [814])),
  (12, (.i2l, 13, 0, 0, .null, [], [])),
  (13, (.lconst 1, 14, 0, 0, (.long 1), [], [])),
  (14, (.lsub, 15, 0, 0, .null, [], [])),
  (15, (.invokestatic 210, 18, 150, 3, .null, [], [1001, 1002, 5, 1003])),
  (18, (.ifCond .eq 15, 21, 33, 0, .null, [], [])),
  (21, (.iload_n 2, 22, 2, 0, .null, [], [])),
  (22, (.i2l, 23, 0, 0, .null, [], [])),
  (23, (.lconst 0, 24, 0, 0, (.long 0), [], [])),
  (24, (.ldc2_w 217, 27, 0, 0, (.long 2), [], [1000])),
  (27, (.invokestatic 210, 30, 150, 3, .null, [], [1001, 1002, 5, 1003])),
  (30, (.ifCond .ne 5, 33, 35, 0, .null, [], [])),
  (33, (.iconst (-1), 34, 0, 0, (.int (-1)), [], [])),
  (34, (.ireturn, 35, 0, 0, .null, [], [])),
  (35, (.aload_n 0, 36, 0, 0, .null, [], [])),
  (36, (.getfield 184, 39, 11, 70, (.int 3), [], [813])),
  (39, (.iload_n 2, 40, 2, 0, .null, [], [])),
  (40, (.ifCond .ne 8, 43, 48, 0, .null, [], [])),
  (43, (.bipush 8, 45, 0, 0, (.int 8), [], [])),
  (45, (.goto 15, 48, 60, 0, .null, [], [])),
  (48, (.iload_n 2, 49, 2, 0, .null, [], [])),
  (49, (.iconst 1, 50, 0, 0, (.int 1), [], [])),
  (50, (.if_icmp .ne 8, 53, 58, 0, .null, [], [])),
  (53, (.bipush 28, 55, 0, 0, (.int 28), [], [])),
  (55, (.goto 5, 58, 60, 0, .null, [], [])),
  (58, (.bipush 48, 60, 0, 0, (.int 48), [], [])),
  (60, (.iconst 5, 61, 0, 0, (.int 5), [], [])),
  (61, (.isub, 62, 0, 0, .null, [], [])),
  (62, (.iload_n 1, 63, 1, 0, .null, [], [])),
  (63, (.iadd, 64, 0, 0, .null, [], [])),
  (64, (.iaload, 65, 0, 0, .null, [], [])),
  (65, (.ireturn, 66, 0, 0, .null, [], []))]
/-- yX11_count -/
def zc_270 : List (Nat × zE) := [(0, (.aload_n 0, 1, 0, 0, .null, [], [])),
  (1, (.iconst 0, 2, 0, 0, (.int 0), [], [])),
  (2, (.putfield 190, 5, 11, 0, (.int 0), [], [919])),
  (5, (.iload_n 1, 6, 1, 0, .null, [], [])),
  (6, (.tableswitch 143 0 11 #[62, 69, 76, 83, 90, 95, 100, 107, 114, 121, 128, 136], 68, 149, 0, .null, [(0, 68), (1, 75), (2, 82), (3, 89), (4, 96), (5, 101), (6, 106), (7, 113), (8, 120), (9, 127), (10, 134), (11, 142)], [])),
  (68, (.aload_n 0, 69, 0, 0, .null, [], [])),
  (69, (.getfield 13, 72, 11, 3, (.int 3), [], [520])),
  (72, (.iconst 0, 73, 0, 0, (.int 0), [], [])),
  (73, (.iaload, 74, 0, 0, .null, [], [])),
  (74, (.ireturn, 75, 0, 0, .null, [], [])),
  (75, (.aload_n 0, 76, 0, 0, .null, [], [])),
  (76, (.getfield 13, 79, 11, 3, (.int 3), [], [520])),
  (79, (.iconst 1, 80, 0, 0, (.int 1), [], [])),
  (80, (.iaload, 81, 0, 0, .null, [], [])),
  (81, (.ireturn, 82, 0, 0, .null, [], [])),
  (82, (.aload_n 0, 83, 0, 0, .null, [], [])),
  (83, (.getfield 13, 86, 11, 3, (.int 3), [], [520])),
  (86, (.iconst 2, 87, 0, 0, (.int 2), [], [])),
  (87, (.iaload, 88, 0, 0, .null, [], [])),
  (88, (.ireturn, 89, 0, 0, .null, [], [])),
  (89, (.aload_n 0, 90, 0, 0, .null, [], [])),
  (90, (.getfield 13, 93, 11, 3, (.int 3), [], [520])),
  (93, (.iconst 3, 94, 0, 0, (.int 3), [], [])),
  (94, (.iaload, 95, 0, 0, .null, [], [])),
  (95, (.ireturn, 96, 0, 0, .null, [], [])),
  (96, (.aload_n 0, 97, 0, 0, .null, [], [])),
  (97, (.getfield 196, 100, 11, 8, (.int 0), [], [1008])),
  (100, (.ireturn, 101, 0, 0, .null, [], [])),
  (101, (.aload_n 0, 102, 0, 0, .null, [], [])),
  (102, (.getfield 252, 105, 11, 13, (.int 0), [], [1705])),
  (105, (.ireturn, 106, 0, 0, .null, [], [])),
  (106, (.aload_n 0, 107, 0, 0, .null, [], [])),
  (107, (.getfield 7, 110, 11, 2, (.int 3), [], [519])),
  (110, (.iconst 1, 111, 0, 0, (.int 1), [], [])),
  (111, (.iaload, 112, 0, 0, .null, [], [])),
  (112, (.ireturn, 113, 0, 0, .null, [], [])),
  (113, (.aload_n 0, 114, 0, 0, .null, [], [])),
  (114, (.getfield 7, 117, 11, 2, (.int 3), [], [519])),
  (117, (.iconst 2, 118, 0, 0, (.int 2), [], [])),
  (118, (.iaload, 119, 0, 0, .null, [], [])),
  (119, (.ireturn, 120, 0, 0, .null, [], [])),
  (120, (.aload_n 0, 121, 0, 0, .null, [], [])),
  (121, (.getfield 7, 124, 11, 2, (.int 3), [], [519])),
  (124, (.iconst 3, 125, 0, 0, (.int 3), [], [])),
  (125, (.iaload, 126, 0, 0, .null, [], [])),
  (126, (.ireturn, 127, 0, 0, .null, [], [])),
  (127, (.aload_n 0, 128, 0, 0, .null, [], [])),
  (128, (.getfield 7, 131, 11, 2, (.int 3), [], [519])),
  (131, (.iconst 5, 132, 0, 0, (.int 5), [], [])),
  (132, (.iaload, 133, 0, 0, .null, [], [])),
  (133, (.ireturn, 134, 0, 0, .null, [], [])),
  (134, (.aload_n 0, 135, 0, 0, .null, [], [])),
  (135, (.getfield 7, 138, 11, 2, (.int 3), [], [519])),
  (138, (.bipush 6, 140, 0, 0, (.int 6), [], [])),
  (140, (.iaload, 141, 0, 0, .null, [], [])),
  (141, (.ireturn, 142, 0, 0, .null, [], [])),
  (142, (.aload_n 0, 143, 0, 0, .null, [], [])),
  (143, (.getfield 13, 146, 11, 3, (.int 3), [], [520])),
  (146, (.iconst 4, 147, 0, 0, (.int 4), [], [])),
  (147, (.iaload, 148, 0, 0, .null, [], [])),
  (148, (.ireturn, 149, 0, 0, .null, [], [])),
  (149, (.iload_n 1, 150, 1, 0, .null, [], [])),
  (150, (.i2l, 151, 0, 0, .null, [], [])),
  (151, (.ldc2_w 619, 154, 0, 0, (.long 12), [], [6019])),
  (154, (.ldc2_w 621, 157, 0, 0, (.long 14), [], [6020])),
  (157, (.invokestatic 210, 160, 150, 3, .null, [], [1001, 1002, 5, 1003])),
  (160, (.ifCond .eq 17, 163, 177, 0, .null, [], [])),
  (163, (.aload_n 0, 164, 0, 0, .null, [], [])),
  (164, (.getfield 13, 167, 11, 3, (.int 3), [], [520])),
  (167, (.iconst 5, 168, 0, 0, (.int 5), [], [])),
  (168, (.iload_n 1, 169, 1, 0, .null, [], [])),
  (169, (.iadd, 170, 0, 0, .null, [], [])),
  (170, (.bipush 12, 172, 0, 0, (.int 12), [], [])),
  (172, (.isub, 173, 0, 0, .null, [], [])),
  (173, (.iaload, 174, 0, 0, .null, [], [])),
  (174, (.goto 4, 177, 178, 0, .null, [], [])),
  (177, (.iconst (-1), 178, 0, 0, (.int (-1)), [], [])),
  (178, (.ireturn, 179, 0, 0, .null, [], []))]
/-- yX11_status -/
def zc_271 : List (Nat × zE) := [(0, (.aload_n 0, 1, 0, 0, .null, [], [])),
  (1, (.iconst 0, 2, 0, 0, (.int 0), [], [])),
  (2, (.putfield 190, 5, 11, 0, (.int 0), [], [919])),
  (5, (.aload_n 0, 6, 0, 0, .null, [], [])),
  (6, (.getfield 193, 9, 11, 1, (.int 0), [], [1013])),
  (9, (.ireturn, 10, 0, 0, .null, [], []))]
/-- Lib.Math.max.name -/
def zc_272 : List (Nat × zE) := [(0, (.iload_n 0, 1, 0, 0, .null, [], [])),
  (1, (.iload_n 1, 2, 1, 0, .null, [], [])),
  (2, (.if_icmp .lt 7, 5, 9, 0, .null, [], [])),
  (5, (.iload_n 0, 6, 0, 0, .null, [], [])),
  (6, (.goto 4, 9, 10, 0, .null, [], [])),
  (9, (.iload_n 1, 10, 1, 0, .null, [], [])),
  (10, (.ireturn, 11, 0, 0, .null, [], []))]
/-- Lib.Math.min.name -/
def zc_273 : List (Nat × zE) := [(0, (.iload_n 0, 1, 0, 0, .null, [], [])),
  (1, (.iload_n 1, 2, 1, 0, .null, [], [])),
  (2, (.if_icmp .gt 7, 5, 9, 0, .null, [], [])),
  (5, (.iload_n 0, 6, 0, 0, .null, [], [])),
  (6, (.goto 4, 9, 10, 0, .null, [], [])),
  (9, (.iload_n 1, 10, 1, 0, .null, [], [])),
  (10, (.ireturn, 11, 0, 0, .null, [], []))]
/-- Lib.MathLoose.min_long.x -/
def zc_274 : List (Nat × zE) := [(0, (.lload_n 0, 1, 0, 0, .null, [], [])),
  (1, (.lload_n 2, 2, 2, 0, .null, [], [])),
  (2, (.lcmp, 3, 0, 0, .null, [], [])),
  (3, (.ifCond .gt 7, 6, 10, 0, .null, [], [])),
  (6, (.lload_n 0, 7, 0, 0, .null, [], [])),
  (7, (.goto 4, 10, 11, 0, .null, [], [])),
  (10, (.lload_n 2, 11, 2, 0, .null, [], [])),
  (11, (.lreturn, 12, 0, 0, .null, [], []))]
/-- yJ6_bitCount_0f7a4 -/
def zc_275 : List (Nat × zE) := [(0, (.iload_n 0, 1, 0, 0, .null, [], [])),
  (1, (.iload_n 0, 2, 0, 0, .null, [], [])),
  (2, (.iconst 1, 3, 0, 0, (.int 1), [], [])),
  (3, (.iushr, 4, 0, 0, .null, [], [])),
  (4, (.ldc_w 265, 7, 0, 0, (.int 1431655765), [], [4103])),
  (7, (.iand, 8, 0, 0, .null, [], [])),
  (8, (.isub, 9, 0, 0, .null, [], [])),
  (9, (.istore_n 0, 10, 0, 0, .null, [], [])),
  (10, (.iload_n 0, 11, 0, 0, .null, [], [])),
  (11, (.ldc_w 266, 14, 0, 0, (.int 858993459), [], [4104])),
  (14, (.iand, 15, 0, 0, .null, [], [])),
  (15, (.iload_n 0, 16, 0, 0, .null, [], [])),
  (16, (.iconst 2, 17, 0, 0, (.int 2), [], [])),
  (17, (.iushr, 18, 0, 0, .null, [], [])),
  (18, (.ldc_w 266, 21, 0, 0, (.int 858993459), [], [4104])),
  (21, (.iand, 22, 0, 0, .null, [], [])),
  (22, (.iadd, 23, 0, 0, .null, [], [])),
  (23, (.istore_n 0, 24, 0, 0, .null, [], [])),
  (24, (.iload_n 0, 25, 0, 0, .null, [], [])),
  (25, (.iload_n 0, 26, 0, 0, .null, [], [])),
  (26, (.iconst 4, 27, 0, 0, (.int 4), [], [])),
  (27, (.iushr, 28, 0, 0, .null, [], [])),
  (28, (.iadd, 29, 0, 0, .null, [], [])),
  (29, (.ldc_w 267, 32, 0, 0, (.int 252645135), [], [4105])),
  (32, (.iand, 33, 0, 0, .null, [], [])),
  (33, (.istore_n 0, 34, 0, 0, .null, [], [])),
  (34, (.iload_n 0, 35, 0, 0, .null, [], [])),
  (35, (.iload_n 0, 36, 0, 0, .null, [], [])),
  (36, (.bipush 8, 38, 0, 0, (.int 8), [], [])),
  (38, (.iushr, 39, 0, 0, .null, [], [])),
  (39, (.iadd, 40, 0, 0, .null, [], [])),
  (40, (.istore_n 0, 41, 0, 0, .null, [], [])),
  (41, (.iload_n 0, 42, 0, 0, .null, [], [])),
  (42, (.iload_n 0, 43, 0, 0, .null, [], [])),
  (43, (.bipush 16, 45, 0, 0, (.int 16), [], [])),
  (45, (.iushr, 46, 0, 0, .null, [], [])),
  (46, (.iadd, 47, 0, 0, .null, [], [])),
  (47, (.istore_n 0, 48, 0, 0, .null, [], [])),
  (48, (.iload_n 0, 49, 0, 0, .null, [], [])),
  (49, (.bipush 63, 51, 0, 0, (.int 63), [], [])),
  (51, (.iand, 52, 0, 0, .null, [], [])),
  (52, (.ireturn, 53, 0, 0, .null, [], []))]
/-- yJ7_copyOf_59c91 -/
def zc_276 : List (Nat × zE) := [(0, (.iload_n 1, 1, 1, 0, .null, [], [])),
  (1, (.aload_n 0, 2, 0, 0, .null, [], [])),
  (2, (.arraylength, 3, 0, 0, .null, [], [])),
  (3, (.if_icmp .ne 11, 6, 14, 0, .null, [], [])),
  (6, (.aload_n 0, 7, 0, 0, .null, [], [])),
  (7, (.invokevirtual 316, 10, 9004, 0, .null, [], [2505])),
  (10, (.checkcast 317, 13, 0, 0, .null, [], [])),
  (13, (.areturn, 14, 0, 0, .null, [], [])),
  (14, (.iload_n 1, 15, 1, 0, .null, [], [])),
  (15, (.newarray .int, 17, 0, 0, .null, [], [200])),
  (17, (.astore_n 2, 18, 2, 0, .null, [], [])),
  (18, (.aload_n 0, 19, 0, 0, .null, [], [])),
  (19, (.iconst 0, 20, 0, 0, (.int 0), [], [])),
  (20, (.aload_n 2, 21, 2, 0, .null, [], [])),
  (21, (.iconst 0, 22, 0, 0, (.int 0), [], [])),
  (22, (.aload_n 0, 23, 0, 0, .null, [], [])),
  (23, (.arraylength, 24, 0, 0, .null, [], [])),
  (24, (.iload_n 1, 25, 1, 0, .null, [], [])),
  (25, (.invokestatic 304, 28, 273, 2, .null, [], [2511, 1208, 415, 1209])),
  (28, (.invokestatic 150, 31, 9001, 0, .null, [], [2512])),
  (31, (.aload_n 2, 32, 2, 0, .null, [], [])),
  (32, (.areturn, 33, 0, 0, .null, [], []))]
/-- yJ7_fill_53178 -/
def zc_277 : List (Nat × zE) := [(0, (.iconst 0, 1, 0, 0, (.int 0), [], [])),
  (1, (.istore_n 2, 2, 2, 0, .null, [], [])),
  (2, (.aload_n 0, 3, 0, 0, .null, [], [])),
  (3, (.arraylength, 4, 0, 0, .null, [], [])),
  (4, (.istore_n 3, 5, 3, 0, .null, [], [])),
  (5, (.iload_n 2, 6, 2, 0, .null, [], [])),
  (6, (.iload_n 3, 7, 3, 0, .null, [], [])),
  (7, (.if_icmp .ge 13, 10, 20, 0, .null, [], [])),
  (10, (.aload_n 0, 11, 0, 0, .null, [], [])),
  (11, (.iload_n 2, 12, 2, 0, .null, [], [])),
  (12, (.iload_n 1, 13, 1, 0, .null, [], [])),
  (13, (.iastore, 14, 0, 0, .null, [], [])),
  (14, (.iinc 2 1, 17, 2, 0, (.int 1), [], [])),
  (17, (.goto (-12), 20, 5, 0, .null, [], [])),
  (20, (.return_, 21, 0, 0, .null, [], []))]
/-- yJ7_fill_d0a16 -/
def zc_278 : List (Nat × zE) := [(0, (.iconst 0, 1, 0, 0, (.int 0), [], [])),
  (1, (.istore_n 3, 2, 3, 0, .null, [], [])),
  (2, (.aload_n 0, 3, 0, 0, .null, [], [])),
  (3, (.arraylength, 4, 0, 0, .null, [], [])),
  (4, (.istore 4, 6, 4, 0, .null, [], [])),
  (6, (.iload_n 3, 7, 3, 0, .null, [], [])),
  (7, (.iload 4, 9, 4, 0, .null, [], [])),
  (9, (.if_icmp .ge 13, 12, 22, 0, .null, [], [])),
  (12, (.aload_n 0, 13, 0, 0, .null, [], [])),
  (13, (.iload_n 3, 14, 3, 0, .null, [], [])),
  (14, (.lload_n 1, 15, 1, 0, .null, [], [])),
  (15, (.lastore, 16, 0, 0, .null, [], [])),
  (16, (.iinc 3 1, 19, 3, 0, (.int 1), [], [])),
  (19, (.goto (-13), 22, 6, 0, .null, [], [])),
  (22, (.return_, 23, 0, 0, .null, [], []))]
def zc_279_0 : List (Nat × zE) := [(0, (.new 7, 3, 10, 0, .null, [], [0, 1, 2])),
  (3, (.dup, 4, 0, 0, .null, [], [])),
  (4, (.invokespecial 9, 7, 96, 0, .null, [], [6, 7, 2, 8])),
  (7, (.astore_n 1, 8, 1, 0, .null, [], [])),
  (8, (.new 10, 11, 11, 0, .null, [], [3, 4, 5])),
  (11, (.dup, 12, 0, 0, .null, [], [])),
  (12, (.invokespecial 12, 15, 149, 0, .null, [], [515, 516, 5, 517])),
  (15, (.astore_n 2, 16, 2, 0, .null, [], [])),
  (16, (.iconst 0, 17, 0, 0, (.int 0), [], [])),
  (17, (.istore_n 3, 18, 3, 0, .null, [], [])),
  (18, (.iload_n 3, 19, 3, 0, .null, [], [])),
  (19, (.aload_n 0, 20, 0, 0, .null, [], [])),
  (20, (.arraylength, 21, 0, 0, .null, [], [])),
  (21, (.bipush 6, 23, 0, 0, (.int 6), [], [])),
  (23, (.isub, 24, 0, 0, .null, [], [])),
  (24, (.if_icmp .gt 1060, 27, 1084, 0, .null, [], [])),
  (27, (.aload_n 0, 28, 0, 0, .null, [], [])),
  (28, (.iload_n 3, 29, 3, 0, .null, [], [])),
  (29, (.iaload, 30, 0, 0, .null, [], [])),
  (30, (.bipush 63, 32, 0, 0, (.int 63), [], [])),
  (32, (.iand, 33, 0, 0, .null, [], [])),
  (33, (.tableswitch 1045 0 36 #[163, 206, 239, 272, 335, 358, 371, 384, 397, 410, 423, 436, 449, 472, 505, 528, 551, 564, 577, 600, 633, 656, 679, 702, 735, 748, 781, 794, 807, 830, 864, 897, 930, 963, 986, 1009, 1032], 196, 1078, 0, .null, [(0, 196), (1, 239), (2, 272), (3, 305), (4, 368), (5, 391), (6, 404), (7, 417), (8, 430), (9, 443), (10, 456), (11, 469), (12, 482), (13, 505), (14, 538), (15, 561), (16, 584), (17, 597), (18, 610), (19, 633), (20, 666), (21, 689), (22, 712), (23, 735), (24, 768), (25, 781), (26, 814), (27, 827), (28, 840), (29, 863), (30, 897), (31, 930), (32, 963), (33, 996), (34, 1019), (35, 1042), (36, 1065)], [])),
  (196, (.aload_n 1, 197, 1, 0, .null, [], [])),
  (197, (.aload_n 0, 198, 0, 0, .null, [], [])),
  (198, (.iload_n 3, 199, 3, 0, .null, [], [])),
  (199, (.iconst 1, 200, 0, 0, (.int 1), [], [])),
  (200, (.iadd, 201, 0, 0, .null, [], [])),
  (201, (.iaload, 202, 0, 0, .null, [], [])),
  (202, (.aload_n 0, 203, 0, 0, .null, [], [])),
  (203, (.iload_n 3, 204, 3, 0, .null, [], [])),
  (204, (.iconst 2, 205, 0, 0, (.int 2), [], [])),
  (205, (.iadd, 206, 0, 0, .null, [], [])),
  (206, (.iaload, 207, 0, 0, .null, [], [])),
  (207, (.aload_n 0, 208, 0, 0, .null, [], [])),
  (208, (.iload_n 3, 209, 3, 0, .null, [], [])),
  (209, (.iconst 3, 210, 0, 0, (.int 3), [], [])),
  (210, (.iadd, 211, 0, 0, .null, [], [])),
  (211, (.iaload, 212, 0, 0, .null, [], [])),
  (212, (.invokevirtual 13, 215, 97, 3, .null, [], [815, 816, 817, 2, 818])),
  (215, (.aload_n 2, 216, 2, 0, .null, [], [])),
  (216, (.aload_n 0, 217, 0, 0, .null, [], [])),
  (217, (.iload_n 3, 218, 3, 0, .null, [], [])),
  (218, (.iconst 1, 219, 0, 0, (.int 1), [], [])),
  (219, (.iadd, 220, 0, 0, .null, [], [])),
  (220, (.iaload, 221, 0, 0, .null, [], [])),
  (221, (.aload_n 0, 222, 0, 0, .null, [], [])),
  (222, (.iload_n 3, 223, 3, 0, .null, [], [])),
  (223, (.iconst 2, 224, 0, 0, (.int 2), [], [])),
  (224, (.iadd, 225, 0, 0, .null, [], [])),
  (225, (.iaload, 226, 0, 0, .null, [], [])),
  (226, (.aload_n 0, 227, 0, 0, .null, [], [])),
  (227, (.iload_n 3, 228, 3, 0, .null, [], [])),
  (228, (.iconst 3, 229, 0, 0, (.int 3), [], [])),
  (229, (.iadd, 230, 0, 0, .null, [], [])),
  (230, (.iaload, 231, 0, 0, .null, [], [])),
  (231, (.invokevirtual 17, 234, 165, 3, .null, [], [915, 916, 917, 5, 918])),
  (234, (.if_icmp .eq 844, 237, 1078, 0, .null, [], [])),
  (237, (.iconst 0, 238, 0, 0, (.int 0), [], [])),
  (238, (.ireturn, 239, 1, 0, .null, [], [])),
  (239, (.aload_n 1, 240, 1, 0, .null, [], [])),
  (240, (.aload_n 0, 241, 0, 0, .null, [], [])),
  (241, (.iload_n 3, 242, 3, 0, .null, [], [])),
  (242, (.iconst 1, 243, 0, 0, (.int 1), [], [])),
  (243, (.iadd, 244, 0, 0, .null, [], [])),
  (244, (.iaload, 245, 0, 0, .null, [], [])),
  (245, (.aload_n 0, 246, 0, 0, .null, [], [])),
  (246, (.iload_n 3, 247, 3, 0, .null, [], [])),
  (247, (.iconst 2, 248, 0, 0, (.int 2), [], [])),
  (248, (.iadd, 249, 0, 0, .null, [], [])),
  (249, (.iaload, 250, 0, 0, .null, [], [])),
  (250, (.invokevirtual 18, 253, 98, 2, .null, [], [1014, 1015, 1016, 2, 1017])),
  (253, (.aload_n 2, 254, 2, 0, .null, [], [])),
  (254, (.aload_n 0, 255, 0, 0, .null, [], [])),
  (255, (.iload_n 3, 256, 3, 0, .null, [], [])),
  (256, (.iconst 1, 257, 0, 0, (.int 1), [], [])),
  (257, (.iadd, 258, 0, 0, .null, [], [])),
  (258, (.iaload, 259, 0, 0, .null, [], [])),
  (259, (.aload_n 0, 260, 0, 0, .null, [], [])),
  (260, (.iload_n 3, 261, 3, 0, .null, [], [])),
  (261, (.iconst 2, 262, 0, 0, (.int 2), [], [])),
  (262, (.iadd, 263, 0, 0, .null, [], [])),
  (263, (.iaload, 264, 0, 0, .null, [], [])),
  (264, (.invokevirtual 22, 267, 166, 2, .null, [], [1310, 1311, 1312, 5, 1313])),
  (267, (.if_icmp .eq 811, 270, 1078, 0, .null, [], [])),
  (270, (.iconst 0, 271, 0, 0, (.int 0), [], [])),
  (271, (.ireturn, 272, 1, 0, .null, [], [])),
  (272, (.aload_n 1, 273, 1, 0, .null, [], [])),
  (273, (.aload_n 0, 274, 0, 0, .null, [], [])),
  (274, (.iload_n 3, 275, 3, 0, .null, [], [])),
  (275, (.iconst 1, 276, 0, 0, (.int 1), [], [])),
  (276, (.iadd, 277, 0, 0, .null, [], [])),
  (277, (.iaload, 278, 0, 0, .null, [], [])),
  (278, (.aload_n 0, 279, 0, 0, .null, [], [])),
  (279, (.iload_n 3, 280, 3, 0, .null, [], [])),
  (280, (.iconst 2, 281, 0, 0, (.int 2), [], [])),
  (281, (.iadd, 282, 0, 0, .null, [], [])),
  (282, (.iaload, 283, 0, 0, .null, [], [])),
  (283, (.invokevirtual 23, 286, 99, 2, .null, [], [1514, 1515, 1516, 2, 1517])),
  (286, (.aload_n 2, 287, 2, 0, .null, [], [])),
  (287, (.aload_n 0, 288, 0, 0, .null, [], [])),
  (288, (.iload_n 3, 289, 3, 0, .null, [], [])),
  (289, (.iconst 1, 290, 0, 0, (.int 1), [], [])),
  (290, (.iadd, 291, 0, 0, .null, [], [])),
  (291, (.iaload, 292, 0, 0, .null, [], [])),
  (292, (.aload_n 0, 293, 0, 0, .null, [], [])),
  (293, (.iload_n 3, 294, 3, 0, .null, [], [])),
  (294, (.iconst 2, 295, 0, 0, (.int 2), [], [])),
  (295, (.iadd, 296, 0, 0, .null, [], [])),
  (296, (.iaload, 297, 0, 0, .null, [], [])),
  (297, (.invokevirtual 26, 300, 167, 2, .null, [], [1600, 1601, 1602, 5, 1603])),
  (300, (.if_icmp .eq 778, 303, 1078, 0, .null, [], [])),
  (303, (.iconst 0, 304, 0, 0, (.int 0), [], [])),
  (304, (.ireturn, 305, 1, 0, .null, [], [])),
  (305, (.aload_n 1, 306, 1, 0, .null, [], [])),
  (306, (.aload_n 0, 307, 0, 0, .null, [], [])),
  (307, (.iload_n 3, 308, 3, 0, .null, [], [])),
  (308, (.iconst 1, 309, 0, 0, (.int 1), [], [])),
  (309, (.iadd, 310, 0, 0, .null, [], [])),
  (310, (.iaload, 311, 0, 0, .null, [], [])),
  (311, (.aload_n 0, 312, 0, 0, .null, [], []))]
def zc_279_1 : List (Nat × zE) := [(312, (.iload_n 3, 313, 3, 0, .null, [], [])),
  (313, (.iconst 2, 314, 0, 0, (.int 2), [], [])),
  (314, (.iadd, 315, 0, 0, .null, [], [])),
  (315, (.iaload, 316, 0, 0, .null, [], [])),
  (316, (.aload_n 0, 317, 0, 0, .null, [], [])),
  (317, (.iload_n 3, 318, 3, 0, .null, [], [])),
  (318, (.iconst 3, 319, 0, 0, (.int 3), [], [])),
  (319, (.iadd, 320, 0, 0, .null, [], [])),
  (320, (.iaload, 321, 0, 0, .null, [], [])),
  (321, (.aload_n 0, 322, 0, 0, .null, [], [])),
  (322, (.iload_n 3, 323, 3, 0, .null, [], [])),
  (323, (.iconst 4, 324, 0, 0, (.int 4), [], [])),
  (324, (.iadd, 325, 0, 0, .null, [], [])),
  (325, (.iaload, 326, 0, 0, .null, [], [])),
  (326, (.aload_n 0, 327, 0, 0, .null, [], [])),
  (327, (.iload_n 3, 328, 3, 0, .null, [], [])),
  (328, (.iconst 5, 329, 0, 0, (.int 5), [], [])),
  (329, (.iadd, 330, 0, 0, .null, [], [])),
  (330, (.iaload, 331, 0, 0, .null, [], [])),
  (331, (.invokevirtual 27, 334, 100, 5, .null, [], [1611, 1612, 1613, 2, 1614])),
  (334, (.aload_n 2, 335, 2, 0, .null, [], [])),
  (335, (.aload_n 0, 336, 0, 0, .null, [], [])),
  (336, (.iload_n 3, 337, 3, 0, .null, [], [])),
  (337, (.iconst 1, 338, 0, 0, (.int 1), [], [])),
  (338, (.iadd, 339, 0, 0, .null, [], [])),
  (339, (.iaload, 340, 0, 0, .null, [], [])),
  (340, (.aload_n 0, 341, 0, 0, .null, [], [])),
  (341, (.iload_n 3, 342, 3, 0, .null, [], [])),
  (342, (.iconst 2, 343, 0, 0, (.int 2), [], [])),
  (343, (.iadd, 344, 0, 0, .null, [], [])),
  (344, (.iaload, 345, 0, 0, .null, [], [])),
  (345, (.aload_n 0, 346, 0, 0, .null, [], [])),
  (346, (.iload_n 3, 347, 3, 0, .null, [], [])),
  (347, (.iconst 3, 348, 0, 0, (.int 3), [], [])),
  (348, (.iadd, 349, 0, 0, .null, [], [])),
  (349, (.iaload, 350, 0, 0, .null, [], [])),
  (350, (.aload_n 0, 351, 0, 0, .null, [], [])),
  (351, (.iload_n 3, 352, 3, 0, .null, [], [])),
  (352, (.iconst 4, 353, 0, 0, (.int 4), [], [])),
  (353, (.iadd, 354, 0, 0, .null, [], [])),
  (354, (.iaload, 355, 0, 0, .null, [], [])),
  (355, (.aload_n 0, 356, 0, 0, .null, [], [])),
  (356, (.iload_n 3, 357, 3, 0, .null, [], [])),
  (357, (.iconst 5, 358, 0, 0, (.int 5), [], [])),
  (358, (.iadd, 359, 0, 0, .null, [], [])),
  (359, (.iaload, 360, 0, 0, .null, [], [])),
  (360, (.invokevirtual 31, 363, 171, 5, .null, [], [1701, 1702, 1703, 5, 1704])),
  (363, (.if_icmp .eq 715, 366, 1078, 0, .null, [], [])),
  (366, (.iconst 0, 367, 0, 0, (.int 0), [], [])),
  (367, (.ireturn, 368, 1, 0, .null, [], [])),
  (368, (.aload_n 1, 369, 1, 0, .null, [], [])),
  (369, (.aload_n 0, 370, 0, 0, .null, [], [])),
  (370, (.iload_n 3, 371, 3, 0, .null, [], [])),
  (371, (.iconst 1, 372, 0, 0, (.int 1), [], [])),
  (372, (.iadd, 373, 0, 0, .null, [], [])),
  (373, (.iaload, 374, 0, 0, .null, [], [])),
  (374, (.invokevirtual 32, 377, 101, 1, .null, [], [1710, 1711, 1712, 2, 1713])),
  (377, (.aload_n 2, 378, 2, 0, .null, [], [])),
  (378, (.aload_n 0, 379, 0, 0, .null, [], [])),
  (379, (.iload_n 3, 380, 3, 0, .null, [], [])),
  (380, (.iconst 1, 381, 0, 0, (.int 1), [], [])),
  (381, (.iadd, 382, 0, 0, .null, [], [])),
  (382, (.iaload, 383, 0, 0, .null, [], [])),
  (383, (.invokevirtual 36, 386, 172, 1, .null, [], [1714, 1715, 1716, 5, 1717])),
  (386, (.if_icmp .eq 692, 389, 1078, 0, .null, [], [])),
  (389, (.iconst 0, 390, 0, 0, (.int 0), [], [])),
  (390, (.ireturn, 391, 1, 0, .null, [], [])),
  (391, (.aload_n 1, 392, 1, 0, .null, [], [])),
  (392, (.invokevirtual 37, 395, 102, 0, .null, [], [1718, 1719, 1720, 2, 1721])),
  (395, (.aload_n 2, 396, 2, 0, .null, [], [])),
  (396, (.invokevirtual 41, 399, 168, 0, .null, [], [1803, 1804, 1805, 5, 1806])),
  (399, (.if_icmp .eq 679, 402, 1078, 0, .null, [], [])),
  (402, (.iconst 0, 403, 0, 0, (.int 0), [], [])),
  (403, (.ireturn, 404, 1, 0, .null, [], [])),
  (404, (.aload_n 1, 405, 1, 0, .null, [], [])),
  (405, (.invokevirtual 42, 408, 103, 0, .null, [], [1808, 1809, 1810, 2, 1811])),
  (408, (.aload_n 2, 409, 2, 0, .null, [], [])),
  (409, (.invokevirtual 45, 412, 169, 0, .null, [], [1812, 1813, 1814, 5, 1815])),
  (412, (.if_icmp .eq 666, 415, 1078, 0, .null, [], [])),
  (415, (.iconst 0, 416, 0, 0, (.int 0), [], [])),
  (416, (.ireturn, 417, 1, 0, .null, [], [])),
  (417, (.aload_n 1, 418, 1, 0, .null, [], [])),
  (418, (.invokevirtual 46, 421, 104, 0, .null, [], [1816, 1817, 1818, 2, 1819])),
  (421, (.aload_n 2, 422, 2, 0, .null, [], [])),
  (422, (.invokevirtual 49, 425, 219, 0, .null, [], [2607, 2608, 2609, 5, 2610])),
  (425, (.if_icmp .eq 653, 428, 1078, 0, .null, [], [])),
  (428, (.iconst 0, 429, 0, 0, (.int 0), [], [])),
  (429, (.ireturn, 430, 1, 0, .null, [], [])),
  (430, (.aload_n 1, 431, 1, 0, .null, [], [])),
  (431, (.invokevirtual 50, 434, 105, 0, .null, [], [2923, 3000, 3001, 2, 3002])),
  (434, (.aload_n 2, 435, 2, 0, .null, [], [])),
  (435, (.invokevirtual 53, 438, 200, 0, .null, [], [3311, 3312, 3313, 5, 3314])),
  (438, (.if_icmp .eq 640, 441, 1078, 0, .null, [], [])),
  (441, (.iconst 0, 442, 0, 0, (.int 0), [], [])),
  (442, (.ireturn, 443, 1, 0, .null, [], [])),
  (443, (.aload_n 1, 444, 1, 0, .null, [], [])),
  (444, (.invokevirtual 54, 447, 106, 0, .null, [], [3704, 3705, 3706, 2, 3707])),
  (447, (.aload_n 2, 448, 2, 0, .null, [], [])),
  (448, (.invokevirtual 57, 451, 264, 0, .null, [], [4106, 4107, 4108, 5, 4109])),
  (451, (.if_icmp .eq 627, 454, 1078, 0, .null, [], [])),
  (454, (.iconst 0, 455, 0, 0, (.int 0), [], [])),
  (455, (.ireturn, 456, 1, 0, .null, [], [])),
  (456, (.aload_n 1, 457, 1, 0, .null, [], [])),
  (457, (.invokevirtual 58, 460, 107, 0, .null, [], [4512, 4513, 4514, 2, 4515])),
  (460, (.aload_n 2, 461, 2, 0, .null, [], [])),
  (461, (.invokevirtual 61, 464, 181, 0, .null, [], [4516, 4517, 4518, 5, 4519])),
  (464, (.if_icmp .eq 614, 467, 1078, 0, .null, [], [])),
  (467, (.iconst 0, 468, 0, 0, (.int 0), [], [])),
  (468, (.ireturn, 469, 1, 0, .null, [], [])),
  (469, (.aload_n 1, 470, 1, 0, .null, [], [])),
  (470, (.invokevirtual 62, 473, 108, 0, .null, [], [4520, 4521, 4522, 2, 4523])),
  (473, (.aload_n 2, 474, 2, 0, .null, [], [])),
  (474, (.invokevirtual 65, 477, 266, 0, .null, [], [4600, 4601, 4602, 5, 4603])),
  (477, (.if_icmp .eq 601, 480, 1078, 0, .null, [], [])),
  (480, (.iconst 0, 481, 0, 0, (.int 0), [], [])),
  (481, (.ireturn, 482, 1, 0, .null, [], [])),
  (482, (.aload_n 1, 483, 1, 0, .null, [], [])),
  (483, (.aload_n 0, 484, 0, 0, .null, [], [])),
  (484, (.iload_n 3, 485, 3, 0, .null, [], [])),
  (485, (.iconst 1, 486, 0, 0, (.int 1), [], []))]
def zc_279_2 : List (Nat × zE) := [(486, (.iadd, 487, 0, 0, .null, [], [])),
  (487, (.iaload, 488, 0, 0, .null, [], [])),
  (488, (.invokevirtual 66, 491, 109, 1, .null, [], [4604, 4605, 4606, 2, 4607])),
  (491, (.aload_n 2, 492, 2, 0, .null, [], [])),
  (492, (.aload_n 0, 493, 0, 0, .null, [], [])),
  (493, (.iload_n 3, 494, 3, 0, .null, [], [])),
  (494, (.iconst 1, 495, 0, 0, (.int 1), [], [])),
  (495, (.iadd, 496, 0, 0, .null, [], [])),
  (496, (.iaload, 497, 0, 0, .null, [], [])),
  (497, (.invokevirtual 69, 500, 202, 1, .null, [], [4608, 4609, 4610, 5, 4611])),
  (500, (.if_icmp .eq 578, 503, 1078, 0, .null, [], [])),
  (503, (.iconst 0, 504, 0, 0, (.int 0), [], [])),
  (504, (.ireturn, 505, 1, 0, .null, [], [])),
  (505, (.aload_n 1, 506, 1, 0, .null, [], [])),
  (506, (.aload_n 0, 507, 0, 0, .null, [], [])),
  (507, (.iload_n 3, 508, 3, 0, .null, [], [])),
  (508, (.iconst 1, 509, 0, 0, (.int 1), [], [])),
  (509, (.iadd, 510, 0, 0, .null, [], [])),
  (510, (.iaload, 511, 0, 0, .null, [], [])),
  (511, (.aload_n 0, 512, 0, 0, .null, [], [])),
  (512, (.iload_n 3, 513, 3, 0, .null, [], [])),
  (513, (.iconst 2, 514, 0, 0, (.int 2), [], [])),
  (514, (.iadd, 515, 0, 0, .null, [], [])),
  (515, (.iaload, 516, 0, 0, .null, [], [])),
  (516, (.invokevirtual 70, 519, 110, 2, .null, [], [4616, 4617, 4618, 2, 4619])),
  (519, (.aload_n 2, 520, 2, 0, .null, [], [])),
  (520, (.aload_n 0, 521, 0, 0, .null, [], [])),
  (521, (.iload_n 3, 522, 3, 0, .null, [], [])),
  (522, (.iconst 1, 523, 0, 0, (.int 1), [], [])),
  (523, (.iadd, 524, 0, 0, .null, [], [])),
  (524, (.iaload, 525, 0, 0, .null, [], [])),
  (525, (.aload_n 0, 526, 0, 0, .null, [], [])),
  (526, (.iload_n 3, 527, 3, 0, .null, [], [])),
  (527, (.iconst 2, 528, 0, 0, (.int 2), [], [])),
  (528, (.iadd, 529, 0, 0, .null, [], [])),
  (529, (.iaload, 530, 0, 0, .null, [], [])),
  (530, (.invokevirtual 73, 533, 245, 2, .null, [], [4700, 4701, 4702, 5, 4703])),
  (533, (.if_icmp .eq 545, 536, 1078, 0, .null, [], [])),
  (536, (.iconst 0, 537, 0, 0, (.int 0), [], [])),
  (537, (.ireturn, 538, 1, 0, .null, [], [])),
  (538, (.aload_n 1, 539, 1, 0, .null, [], [])),
  (539, (.aload_n 0, 540, 0, 0, .null, [], [])),
  (540, (.iload_n 3, 541, 3, 0, .null, [], [])),
  (541, (.iconst 1, 542, 0, 0, (.int 1), [], [])),
  (542, (.iadd, 543, 0, 0, .null, [], [])),
  (543, (.iaload, 544, 0, 0, .null, [], [])),
  (544, (.invokevirtual 74, 547, 111, 1, .null, [], [4704, 4705, 4706, 2, 4707])),
  (547, (.aload_n 2, 548, 2, 0, .null, [], [])),
  (548, (.aload_n 0, 549, 0, 0, .null, [], [])),
  (549, (.iload_n 3, 550, 3, 0, .null, [], [])),
  (550, (.iconst 1, 551, 0, 0, (.int 1), [], [])),
  (551, (.iadd, 552, 0, 0, .null, [], [])),
  (552, (.iaload, 553, 0, 0, .null, [], [])),
  (553, (.invokevirtual 77, 556, 247, 1, .null, [], [4708, 4709, 4710, 5, 4711])),
  (556, (.if_icmp .eq 522, 559, 1078, 0, .null, [], [])),
  (559, (.iconst 0, 560, 0, 0, (.int 0), [], [])),
  (560, (.ireturn, 561, 1, 0, .null, [], [])),
  (561, (.aload_n 1, 562, 1, 0, .null, [], [])),
  (562, (.aload_n 0, 563, 0, 0, .null, [], [])),
  (563, (.iload_n 3, 564, 3, 0, .null, [], [])),
  (564, (.iconst 1, 565, 0, 0, (.int 1), [], [])),
  (565, (.iadd, 566, 0, 0, .null, [], [])),
  (566, (.iaload, 567, 0, 0, .null, [], [])),
  (567, (.invokevirtual 78, 570, 112, 1, .null, [], [4712, 4713, 4714, 2, 4715])),
  (570, (.aload_n 2, 571, 2, 0, .null, [], [])),
  (571, (.aload_n 0, 572, 0, 0, .null, [], [])),
  (572, (.iload_n 3, 573, 3, 0, .null, [], [])),
  (573, (.iconst 1, 574, 0, 0, (.int 1), [], [])),
  (574, (.iadd, 575, 0, 0, .null, [], [])),
  (575, (.iaload, 576, 0, 0, .null, [], [])),
  (576, (.invokevirtual 81, 579, 248, 1, .null, [], [4716, 4717, 4718, 5, 4719])),
  (579, (.if_icmp .eq 499, 582, 1078, 0, .null, [], [])),
  (582, (.iconst 0, 583, 0, 0, (.int 0), [], [])),
  (583, (.ireturn, 584, 1, 0, .null, [], [])),
  (584, (.aload_n 1, 585, 1, 0, .null, [], [])),
  (585, (.invokevirtual 82, 588, 113, 0, .null, [], [4720, 4721, 4722, 2, 4723])),
  (588, (.aload_n 2, 589, 2, 0, .null, [], [])),
  (589, (.invokevirtual 85, 592, 250, 0, .null, [], [4800, 4801, 4802, 5, 4803])),
  (592, (.if_icmp .eq 486, 595, 1078, 0, .null, [], [])),
  (595, (.iconst 0, 596, 0, 0, (.int 0), [], [])),
  (596, (.ireturn, 597, 1, 0, .null, [], [])),
  (597, (.aload_n 1, 598, 1, 0, .null, [], [])),
  (598, (.invokevirtual 86, 601, 114, 0, .null, [], [4804, 4805, 4806, 2, 4807])),
  (601, (.aload_n 2, 602, 2, 0, .null, [], [])),
  (602, (.invokevirtual 89, 605, 159, 0, .null, [], [4900, 4901, 4902, 5, 4903])),
  (605, (.if_icmp .eq 473, 608, 1078, 0, .null, [], [])),
  (608, (.iconst 0, 609, 0, 0, (.int 0), [], [])),
  (609, (.ireturn, 610, 1, 0, .null, [], [])),
  (610, (.aload_n 1, 611, 1, 0, .null, [], [])),
  (611, (.aload_n 0, 612, 0, 0, .null, [], [])),
  (612, (.iload_n 3, 613, 3, 0, .null, [], [])),
  (613, (.iconst 1, 614, 0, 0, (.int 1), [], [])),
  (614, (.iadd, 615, 0, 0, .null, [], [])),
  (615, (.iaload, 616, 0, 0, .null, [], [])),
  (616, (.invokevirtual 90, 619, 115, 1, .null, [], [4904, 4905, 4906, 2, 4907])),
  (619, (.aload_n 2, 620, 2, 0, .null, [], [])),
  (620, (.aload_n 0, 621, 0, 0, .null, [], [])),
  (621, (.iload_n 3, 622, 3, 0, .null, [], [])),
  (622, (.iconst 1, 623, 0, 0, (.int 1), [], [])),
  (623, (.iadd, 624, 0, 0, .null, [], [])),
  (624, (.iaload, 625, 0, 0, .null, [], [])),
  (625, (.invokevirtual 93, 628, 233, 1, .null, [], [4909, 4910, 4911, 5, 4912])),
  (628, (.if_icmp .eq 450, 631, 1078, 0, .null, [], [])),
  (631, (.iconst 0, 632, 0, 0, (.int 0), [], [])),
  (632, (.ireturn, 633, 1, 0, .null, [], [])),
  (633, (.aload_n 1, 634, 1, 0, .null, [], [])),
  (634, (.aload_n 0, 635, 0, 0, .null, [], [])),
  (635, (.iload_n 3, 636, 3, 0, .null, [], [])),
  (636, (.iconst 1, 637, 0, 0, (.int 1), [], [])),
  (637, (.iadd, 638, 0, 0, .null, [], [])),
  (638, (.iaload, 639, 0, 0, .null, [], [])),
  (639, (.aload_n 0, 640, 0, 0, .null, [], [])),
  (640, (.iload_n 3, 641, 3, 0, .null, [], [])),
  (641, (.iconst 2, 642, 0, 0, (.int 2), [], [])),
  (642, (.iadd, 643, 0, 0, .null, [], [])),
  (643, (.iaload, 644, 0, 0, .null, [], [])),
  (644, (.invokevirtual 94, 647, 116, 2, .null, [], [4913, 4914, 4915, 2, 4916])),
  (647, (.aload_n 2, 648, 2, 0, .null, [], [])),
  (648, (.aload_n 0, 649, 0, 0, .null, [], [])),
  (649, (.iload_n 3, 650, 3, 0, .null, [], []))]
def zc_279_3 : List (Nat × zE) := [(650, (.iconst 1, 651, 0, 0, (.int 1), [], [])),
  (651, (.iadd, 652, 0, 0, .null, [], [])),
  (652, (.iaload, 653, 0, 0, .null, [], [])),
  (653, (.aload_n 0, 654, 0, 0, .null, [], [])),
  (654, (.iload_n 3, 655, 3, 0, .null, [], [])),
  (655, (.iconst 2, 656, 0, 0, (.int 2), [], [])),
  (656, (.iadd, 657, 0, 0, .null, [], [])),
  (657, (.iaload, 658, 0, 0, .null, [], [])),
  (658, (.invokevirtual 97, 661, 234, 2, .null, [], [5109, 5110, 5111, 5, 5112])),
  (661, (.if_icmp .eq 417, 664, 1078, 0, .null, [], [])),
  (664, (.iconst 0, 665, 0, 0, (.int 0), [], [])),
  (665, (.ireturn, 666, 1, 0, .null, [], [])),
  (666, (.aload_n 1, 667, 1, 0, .null, [], [])),
  (667, (.aload_n 0, 668, 0, 0, .null, [], [])),
  (668, (.iload_n 3, 669, 3, 0, .null, [], [])),
  (669, (.iconst 1, 670, 0, 0, (.int 1), [], [])),
  (670, (.iadd, 671, 0, 0, .null, [], [])),
  (671, (.iaload, 672, 0, 0, .null, [], [])),
  (672, (.invokevirtual 98, 675, 117, 1, .null, [], [5204, 5205, 5206, 2, 5207])),
  (675, (.aload_n 2, 676, 2, 0, .null, [], [])),
  (676, (.aload_n 0, 677, 0, 0, .null, [], [])),
  (677, (.iload_n 3, 678, 3, 0, .null, [], [])),
  (678, (.iconst 1, 679, 0, 0, (.int 1), [], [])),
  (679, (.iadd, 680, 0, 0, .null, [], [])),
  (680, (.iaload, 681, 0, 0, .null, [], [])),
  (681, (.invokevirtual 101, 684, 235, 1, .null, [], [5212, 5213, 5214, 5, 5215])),
  (684, (.if_icmp .eq 394, 687, 1078, 0, .null, [], [])),
  (687, (.iconst 0, 688, 0, 0, (.int 0), [], [])),
  (688, (.ireturn, 689, 1, 0, .null, [], [])),
  (689, (.aload_n 1, 690, 1, 0, .null, [], [])),
  (690, (.aload_n 0, 691, 0, 0, .null, [], [])),
  (691, (.iload_n 3, 692, 3, 0, .null, [], [])),
  (692, (.iconst 1, 693, 0, 0, (.int 1), [], [])),
  (693, (.iadd, 694, 0, 0, .null, [], [])),
  (694, (.iaload, 695, 0, 0, .null, [], [])),
  (695, (.invokevirtual 102, 698, 118, 1, .null, [], [5216, 5217, 5218, 2, 5219])),
  (698, (.aload_n 2, 699, 2, 0, .null, [], [])),
  (699, (.aload_n 0, 700, 0, 0, .null, [], [])),
  (700, (.iload_n 3, 701, 3, 0, .null, [], [])),
  (701, (.iconst 1, 702, 0, 0, (.int 1), [], [])),
  (702, (.iadd, 703, 0, 0, .null, [], [])),
  (703, (.iaload, 704, 0, 0, .null, [], [])),
  (704, (.invokevirtual 105, 707, 236, 1, .null, [], [5220, 5221, 5222, 5, 5223])),
  (707, (.if_icmp .eq 371, 710, 1078, 0, .null, [], [])),
  (710, (.iconst 0, 711, 0, 0, (.int 0), [], [])),
  (711, (.ireturn, 712, 1, 0, .null, [], [])),
  (712, (.aload_n 1, 713, 1, 0, .null, [], [])),
  (713, (.aload_n 0, 714, 0, 0, .null, [], [])),
  (714, (.iload_n 3, 715, 3, 0, .null, [], [])),
  (715, (.iconst 1, 716, 0, 0, (.int 1), [], [])),
  (716, (.iadd, 717, 0, 0, .null, [], [])),
  (717, (.iaload, 718, 0, 0, .null, [], [])),
  (718, (.invokevirtual 106, 721, 119, 1, .null, [], [5300, 5301, 5302, 2, 5303])),
  (721, (.aload_n 2, 722, 2, 0, .null, [], [])),
  (722, (.aload_n 0, 723, 0, 0, .null, [], [])),
  (723, (.iload_n 3, 724, 3, 0, .null, [], [])),
  (724, (.iconst 1, 725, 0, 0, (.int 1), [], [])),
  (725, (.iadd, 726, 0, 0, .null, [], [])),
  (726, (.iaload, 727, 0, 0, .null, [], [])),
  (727, (.invokevirtual 109, 730, 238, 1, .null, [], [5308, 5309, 5310, 5, 5311])),
  (730, (.if_icmp .eq 348, 733, 1078, 0, .null, [], [])),
  (733, (.iconst 0, 734, 0, 0, (.int 0), [], [])),
  (734, (.ireturn, 735, 1, 0, .null, [], [])),
  (735, (.aload_n 1, 736, 1, 0, .null, [], [])),
  (736, (.aload_n 0, 737, 0, 0, .null, [], [])),
  (737, (.iload_n 3, 738, 3, 0, .null, [], [])),
  (738, (.iconst 1, 739, 0, 0, (.int 1), [], [])),
  (739, (.iadd, 740, 0, 0, .null, [], [])),
  (740, (.iaload, 741, 0, 0, .null, [], [])),
  (741, (.aload_n 0, 742, 0, 0, .null, [], [])),
  (742, (.iload_n 3, 743, 3, 0, .null, [], [])),
  (743, (.iconst 2, 744, 0, 0, (.int 2), [], [])),
  (744, (.iadd, 745, 0, 0, .null, [], [])),
  (745, (.iaload, 746, 0, 0, .null, [], [])),
  (746, (.invokevirtual 110, 749, 120, 2, .null, [], [5316, 5317, 5318, 2, 5319])),
  (749, (.aload_n 2, 750, 2, 0, .null, [], [])),
  (750, (.aload_n 0, 751, 0, 0, .null, [], [])),
  (751, (.iload_n 3, 752, 3, 0, .null, [], [])),
  (752, (.iconst 1, 753, 0, 0, (.int 1), [], [])),
  (753, (.iadd, 754, 0, 0, .null, [], [])),
  (754, (.iaload, 755, 0, 0, .null, [], [])),
  (755, (.aload_n 0, 756, 0, 0, .null, [], [])),
  (756, (.iload_n 3, 757, 3, 0, .null, [], [])),
  (757, (.iconst 2, 758, 0, 0, (.int 2), [], [])),
  (758, (.iadd, 759, 0, 0, .null, [], [])),
  (759, (.iaload, 760, 0, 0, .null, [], [])),
  (760, (.invokevirtual 113, 763, 239, 2, .null, [], [5322, 5323, 5400, 5, 5401])),
  (763, (.if_icmp .eq 315, 766, 1078, 0, .null, [], [])),
  (766, (.iconst 0, 767, 0, 0, (.int 0), [], [])),
  (767, (.ireturn, 768, 1, 0, .null, [], [])),
  (768, (.aload_n 1, 769, 1, 0, .null, [], [])),
  (769, (.invokevirtual 114, 772, 121, 0, .null, [], [5402, 5403, 5404, 2, 5405])),
  (772, (.aload_n 2, 773, 2, 0, .null, [], [])),
  (773, (.invokevirtual 117, 776, 242, 0, .null, [], [5406, 5407, 5408, 5, 5409])),
  (776, (.if_icmp .eq 302, 779, 1078, 0, .null, [], [])),
  (779, (.iconst 0, 780, 0, 0, (.int 0), [], [])),
  (780, (.ireturn, 781, 1, 0, .null, [], [])),
  (781, (.aload_n 1, 782, 1, 0, .null, [], [])),
  (782, (.aload_n 0, 783, 0, 0, .null, [], [])),
  (783, (.iload_n 3, 784, 3, 0, .null, [], [])),
  (784, (.iconst 1, 785, 0, 0, (.int 1), [], [])),
  (785, (.iadd, 786, 0, 0, .null, [], [])),
  (786, (.iaload, 787, 0, 0, .null, [], [])),
  (787, (.aload_n 0, 788, 0, 0, .null, [], [])),
  (788, (.iload_n 3, 789, 3, 0, .null, [], [])),
  (789, (.iconst 2, 790, 0, 0, (.int 2), [], [])),
  (790, (.iadd, 791, 0, 0, .null, [], [])),
  (791, (.iaload, 792, 0, 0, .null, [], [])),
  (792, (.invokevirtual 118, 795, 122, 2, .null, [], [5410, 5411, 5412, 2, 5413])),
  (795, (.aload_n 2, 796, 2, 0, .null, [], [])),
  (796, (.aload_n 0, 797, 0, 0, .null, [], [])),
  (797, (.iload_n 3, 798, 3, 0, .null, [], [])),
  (798, (.iconst 1, 799, 0, 0, (.int 1), [], [])),
  (799, (.iadd, 800, 0, 0, .null, [], [])),
  (800, (.iaload, 801, 0, 0, .null, [], [])),
  (801, (.aload_n 0, 802, 0, 0, .null, [], [])),
  (802, (.iload_n 3, 803, 3, 0, .null, [], [])),
  (803, (.iconst 2, 804, 0, 0, (.int 2), [], [])),
  (804, (.iadd, 805, 0, 0, .null, [], [])),
  (805, (.iaload, 806, 0, 0, .null, [], []))]
def zc_279_4 : List (Nat × zE) := [(806, (.invokevirtual 121, 809, 251, 2, .null, [], [5419, 5420, 5421, 5, 5422])),
  (809, (.if_icmp .eq 269, 812, 1078, 0, .null, [], [])),
  (812, (.iconst 0, 813, 0, 0, (.int 0), [], [])),
  (813, (.ireturn, 814, 1, 0, .null, [], [])),
  (814, (.aload_n 1, 815, 1, 0, .null, [], [])),
  (815, (.invokevirtual 122, 818, 123, 0, .null, [], [5423, 5500, 5501, 2, 5502])),
  (818, (.aload_n 2, 819, 2, 0, .null, [], [])),
  (819, (.invokevirtual 125, 822, 252, 0, .null, [], [5503, 5504, 5505, 5, 5506])),
  (822, (.if_icmp .eq 256, 825, 1078, 0, .null, [], [])),
  (825, (.iconst 0, 826, 0, 0, (.int 0), [], [])),
  (826, (.ireturn, 827, 1, 0, .null, [], [])),
  (827, (.aload_n 1, 828, 1, 0, .null, [], [])),
  (828, (.invokevirtual 126, 831, 124, 0, .null, [], [5507, 5508, 5509, 2, 5510])),
  (831, (.aload_n 2, 832, 2, 0, .null, [], [])),
  (832, (.invokevirtual 129, 835, 255, 0, .null, [], [5601, 5602, 5603, 5, 5604])),
  (835, (.if_icmp .eq 243, 838, 1078, 0, .null, [], [])),
  (838, (.iconst 0, 839, 0, 0, (.int 0), [], [])),
  (839, (.ireturn, 840, 1, 0, .null, [], [])),
  (840, (.aload_n 1, 841, 1, 0, .null, [], [])),
  (841, (.aload_n 0, 842, 0, 0, .null, [], [])),
  (842, (.iload_n 3, 843, 3, 0, .null, [], [])),
  (843, (.iconst 1, 844, 0, 0, (.int 1), [], [])),
  (844, (.iadd, 845, 0, 0, .null, [], [])),
  (845, (.iaload, 846, 0, 0, .null, [], [])),
  (846, (.invokevirtual 130, 849, 125, 1, .null, [], [5613, 5614, 5615, 2, 5616])),
  (849, (.aload_n 2, 850, 2, 0, .null, [], [])),
  (850, (.aload_n 0, 851, 0, 0, .null, [], [])),
  (851, (.iload_n 3, 852, 3, 0, .null, [], [])),
  (852, (.iconst 1, 853, 0, 0, (.int 1), [], [])),
  (853, (.iadd, 854, 0, 0, .null, [], [])),
  (854, (.iaload, 855, 0, 0, .null, [], [])),
  (855, (.invokevirtual 133, 858, 257, 1, .null, [], [5623, 5700, 5701, 5, 5702])),
  (858, (.if_icmp .eq 220, 861, 1078, 0, .null, [], [])),
  (861, (.iconst 0, 862, 0, 0, (.int 0), [], [])),
  (862, (.ireturn, 863, 1, 0, .null, [], [])),
  (863, (.aload_n 1, 864, 1, 0, .null, [], [])),
  (864, (.aload_n 0, 865, 0, 0, .null, [], [])),
  (865, (.iload_n 3, 866, 3, 0, .null, [], [])),
  (866, (.iconst 1, 867, 0, 0, (.int 1), [], [])),
  (867, (.iadd, 868, 0, 0, .null, [], [])),
  (868, (.iaload, 869, 0, 0, .null, [], [])),
  (869, (.aload_n 0, 870, 0, 0, .null, [], [])),
  (870, (.iload_n 3, 871, 3, 0, .null, [], [])),
  (871, (.iconst 2, 872, 0, 0, (.int 2), [], [])),
  (872, (.iadd, 873, 0, 0, .null, [], [])),
  (873, (.iaload, 874, 0, 0, .null, [], [])),
  (874, (.invokevirtual 134, 877, 126, 2, .null, [], [5710, 5711, 5712, 2, 5713])),
  (877, (.aload_n 2, 878, 2, 0, .null, [], [])),
  (878, (.aload_n 0, 879, 0, 0, .null, [], [])),
  (879, (.iload_n 3, 880, 3, 0, .null, [], [])),
  (880, (.iconst 1, 881, 0, 0, (.int 1), [], [])),
  (881, (.iadd, 882, 0, 0, .null, [], [])),
  (882, (.iaload, 883, 0, 0, .null, [], [])),
  (883, (.aload_n 0, 884, 0, 0, .null, [], [])),
  (884, (.iload_n 3, 885, 3, 0, .null, [], [])),
  (885, (.iconst 2, 886, 0, 0, (.int 2), [], [])),
  (886, (.iadd, 887, 0, 0, .null, [], [])),
  (887, (.iaload, 888, 0, 0, .null, [], [])),
  (888, (.invokevirtual 138, 891, 258, 2, .null, [], [5720, 5721, 5722, 5, 5723])),
  (891, (.lcmp, 892, 0, 0, .null, [], [])),
  (892, (.ifCond .eq 186, 895, 1078, 0, .null, [], [])),
  (895, (.iconst 0, 896, 0, 0, (.int 0), [], [])),
  (896, (.ireturn, 897, 1, 0, .null, [], [])),
  (897, (.aload_n 1, 898, 1, 0, .null, [], [])),
  (898, (.aload_n 0, 899, 0, 0, .null, [], [])),
  (899, (.iload_n 3, 900, 3, 0, .null, [], [])),
  (900, (.iconst 1, 901, 0, 0, (.int 1), [], [])),
  (901, (.iadd, 902, 0, 0, .null, [], [])),
  (902, (.iaload, 903, 0, 0, .null, [], [])),
  (903, (.aload_n 0, 904, 0, 0, .null, [], [])),
  (904, (.iload_n 3, 905, 3, 0, .null, [], [])),
  (905, (.iconst 2, 906, 0, 0, (.int 2), [], [])),
  (906, (.iadd, 907, 0, 0, .null, [], [])),
  (907, (.iaload, 908, 0, 0, .null, [], [])),
  (908, (.invokevirtual 139, 911, 127, 2, .null, [], [5802, 5803, 5804, 2, 5805])),
  (911, (.aload_n 2, 912, 2, 0, .null, [], [])),
  (912, (.aload_n 0, 913, 0, 0, .null, [], [])),
  (913, (.iload_n 3, 914, 3, 0, .null, [], [])),
  (914, (.iconst 1, 915, 0, 0, (.int 1), [], [])),
  (915, (.iadd, 916, 0, 0, .null, [], [])),
  (916, (.iaload, 917, 0, 0, .null, [], [])),
  (917, (.aload_n 0, 918, 0, 0, .null, [], [])),
  (918, (.iload_n 3, 919, 3, 0, .null, [], [])),
  (919, (.iconst 2, 920, 0, 0, (.int 2), [], [])),
  (920, (.iadd, 921, 0, 0, .null, [], [])),
  (921, (.iaload, 922, 0, 0, .null, [], [])),
  (922, (.invokevirtual 142, 925, 243, 2, .null, [], [5806, 5807, 5808, 5, 5809])),
  (925, (.if_icmp .eq 153, 928, 1078, 0, .null, [], [])),
  (928, (.iconst 0, 929, 0, 0, (.int 0), [], [])),
  (929, (.ireturn, 930, 1, 0, .null, [], [])),
  (930, (.aload_n 1, 931, 1, 0, .null, [], [])),
  (931, (.aload_n 0, 932, 0, 0, .null, [], [])),
  (932, (.iload_n 3, 933, 3, 0, .null, [], [])),
  (933, (.iconst 1, 934, 0, 0, (.int 1), [], [])),
  (934, (.iadd, 935, 0, 0, .null, [], [])),
  (935, (.iaload, 936, 0, 0, .null, [], [])),
  (936, (.aload_n 0, 937, 0, 0, .null, [], [])),
  (937, (.iload_n 3, 938, 3, 0, .null, [], [])),
  (938, (.iconst 2, 939, 0, 0, (.int 2), [], [])),
  (939, (.iadd, 940, 0, 0, .null, [], [])),
  (940, (.iaload, 941, 0, 0, .null, [], [])),
  (941, (.invokevirtual 143, 944, 128, 2, .null, [], [5810, 5811, 5812, 2, 5813])),
  (944, (.aload_n 2, 945, 2, 0, .null, [], [])),
  (945, (.aload_n 0, 946, 0, 0, .null, [], [])),
  (946, (.iload_n 3, 947, 3, 0, .null, [], [])),
  (947, (.iconst 1, 948, 0, 0, (.int 1), [], [])),
  (948, (.iadd, 949, 0, 0, .null, [], [])),
  (949, (.iaload, 950, 0, 0, .null, [], [])),
  (950, (.aload_n 0, 951, 0, 0, .null, [], [])),
  (951, (.iload_n 3, 952, 3, 0, .null, [], [])),
  (952, (.iconst 2, 953, 0, 0, (.int 2), [], [])),
  (953, (.iadd, 954, 0, 0, .null, [], [])),
  (954, (.iaload, 955, 0, 0, .null, [], [])),
  (955, (.invokevirtual 146, 958, 268, 2, .null, [], [5822, 5823, 5900, 5, 5901])),
  (958, (.if_icmp .eq 120, 961, 1078, 0, .null, [], [])),
  (961, (.iconst 0, 962, 0, 0, (.int 0), [], [])),
  (962, (.ireturn, 963, 1, 0, .null, [], [])),
  (963, (.aload_n 1, 964, 1, 0, .null, [], [])),
  (964, (.aload_n 0, 965, 0, 0, .null, [], [])),
  (965, (.iload_n 3, 966, 3, 0, .null, [], []))]
def zc_279_5 : List (Nat × zE) := [(966, (.iconst 1, 967, 0, 0, (.int 1), [], [])),
  (967, (.iadd, 968, 0, 0, .null, [], [])),
  (968, (.iaload, 969, 0, 0, .null, [], [])),
  (969, (.aload_n 0, 970, 0, 0, .null, [], [])),
  (970, (.iload_n 3, 971, 3, 0, .null, [], [])),
  (971, (.iconst 2, 972, 0, 0, (.int 2), [], [])),
  (972, (.iadd, 973, 0, 0, .null, [], [])),
  (973, (.iaload, 974, 0, 0, .null, [], [])),
  (974, (.invokevirtual 147, 977, 129, 2, .null, [], [5911, 5912, 5913, 2, 5914])),
  (977, (.aload_n 2, 978, 2, 0, .null, [], [])),
  (978, (.aload_n 0, 979, 0, 0, .null, [], [])),
  (979, (.iload_n 3, 980, 3, 0, .null, [], [])),
  (980, (.iconst 1, 981, 0, 0, (.int 1), [], [])),
  (981, (.iadd, 982, 0, 0, .null, [], [])),
  (982, (.iaload, 983, 0, 0, .null, [], [])),
  (983, (.aload_n 0, 984, 0, 0, .null, [], [])),
  (984, (.iload_n 3, 985, 3, 0, .null, [], [])),
  (985, (.iconst 2, 986, 0, 0, (.int 2), [], [])),
  (986, (.iadd, 987, 0, 0, .null, [], [])),
  (987, (.iaload, 988, 0, 0, .null, [], [])),
  (988, (.invokevirtual 150, 991, 269, 2, .null, [], [5915, 5916, 5917, 5, 5918])),
  (991, (.if_icmp .eq 87, 994, 1078, 0, .null, [], [])),
  (994, (.iconst 0, 995, 0, 0, (.int 0), [], [])),
  (995, (.ireturn, 996, 1, 0, .null, [], [])),
  (996, (.aload_n 1, 997, 1, 0, .null, [], [])),
  (997, (.aload_n 0, 998, 0, 0, .null, [], [])),
  (998, (.iload_n 3, 999, 3, 0, .null, [], [])),
  (999, (.iconst 1, 1000, 0, 0, (.int 1), [], [])),
  (1000, (.iadd, 1001, 0, 0, .null, [], [])),
  (1001, (.iaload, 1002, 0, 0, .null, [], [])),
  (1002, (.invokevirtual 151, 1005, 130, 1, .null, [], [5919, 5920, 5921, 2, 5922])),
  (1005, (.aload_n 2, 1006, 2, 0, .null, [], [])),
  (1006, (.aload_n 0, 1007, 0, 0, .null, [], [])),
  (1007, (.iload_n 3, 1008, 3, 0, .null, [], [])),
  (1008, (.iconst 1, 1009, 0, 0, (.int 1), [], [])),
  (1009, (.iadd, 1010, 0, 0, .null, [], [])),
  (1010, (.iaload, 1011, 0, 0, .null, [], [])),
  (1011, (.invokevirtual 154, 1014, 160, 1, .null, [], [5923, 6000, 6001, 5, 6002])),
  (1014, (.if_icmp .eq 64, 1017, 1078, 0, .null, [], [])),
  (1017, (.iconst 0, 1018, 0, 0, (.int 0), [], [])),
  (1018, (.ireturn, 1019, 1, 0, .null, [], [])),
  (1019, (.aload_n 1, 1020, 1, 0, .null, [], [])),
  (1020, (.aload_n 0, 1021, 0, 0, .null, [], [])),
  (1021, (.iload_n 3, 1022, 3, 0, .null, [], [])),
  (1022, (.iconst 1, 1023, 0, 0, (.int 1), [], [])),
  (1023, (.iadd, 1024, 0, 0, .null, [], [])),
  (1024, (.iaload, 1025, 0, 0, .null, [], [])),
  (1025, (.invokevirtual 155, 1028, 131, 1, .null, [], [6003, 6004, 6005, 2, 6006])),
  (1028, (.aload_n 2, 1029, 2, 0, .null, [], [])),
  (1029, (.aload_n 0, 1030, 0, 0, .null, [], [])),
  (1030, (.iload_n 3, 1031, 3, 0, .null, [], [])),
  (1031, (.iconst 1, 1032, 0, 0, (.int 1), [], [])),
  (1032, (.iadd, 1033, 0, 0, .null, [], [])),
  (1033, (.iaload, 1034, 0, 0, .null, [], [])),
  (1034, (.invokevirtual 158, 1037, 161, 1, .null, [], [6007, 6008, 6009, 5, 6010])),
  (1037, (.if_icmp .eq 41, 1040, 1078, 0, .null, [], [])),
  (1040, (.iconst 0, 1041, 0, 0, (.int 0), [], [])),
  (1041, (.ireturn, 1042, 1, 0, .null, [], [])),
  (1042, (.aload_n 1, 1043, 1, 0, .null, [], [])),
  (1043, (.aload_n 0, 1044, 0, 0, .null, [], [])),
  (1044, (.iload_n 3, 1045, 3, 0, .null, [], [])),
  (1045, (.iconst 1, 1046, 0, 0, (.int 1), [], [])),
  (1046, (.iadd, 1047, 0, 0, .null, [], [])),
  (1047, (.iaload, 1048, 0, 0, .null, [], [])),
  (1048, (.invokevirtual 159, 1051, 132, 1, .null, [], [6011, 6012, 6013, 2, 6014])),
  (1051, (.aload_n 2, 1052, 2, 0, .null, [], [])),
  (1052, (.aload_n 0, 1053, 0, 0, .null, [], [])),
  (1053, (.iload_n 3, 1054, 3, 0, .null, [], [])),
  (1054, (.iconst 1, 1055, 0, 0, (.int 1), [], [])),
  (1055, (.iadd, 1056, 0, 0, .null, [], [])),
  (1056, (.iaload, 1057, 0, 0, .null, [], [])),
  (1057, (.invokevirtual 162, 1060, 270, 1, .null, [], [6015, 6016, 6017, 5, 6018])),
  (1060, (.if_icmp .eq 18, 1063, 1078, 0, .null, [], [])),
  (1063, (.iconst 0, 1064, 0, 0, (.int 0), [], [])),
  (1064, (.ireturn, 1065, 1, 0, .null, [], [])),
  (1065, (.aload_n 1, 1066, 1, 0, .null, [], [])),
  (1066, (.invokevirtual 163, 1069, 133, 0, .null, [], [6021, 6022, 6023, 2, 6100])),
  (1069, (.aload_n 2, 1070, 2, 0, .null, [], [])),
  (1070, (.invokevirtual 166, 1073, 271, 0, .null, [], [6101, 6102, 6103, 5, 6104])),
  (1073, (.if_icmp .eq 5, 1076, 1078, 0, .null, [], [])),
  (1076, (.iconst 0, 1077, 0, 0, (.int 0), [], [])),
  (1077, (.ireturn, 1078, 1, 0, .null, [], [])),
  (1078, (.iinc 3 6, 1081, 3, 0, (.int 6), [], [])),
  (1081, (.goto (-1063), 1084, 18, 0, .null, [], [])),
  (1084, (.iconst 1, 1085, 0, 0, (.int 1), [], [])),
  (1085, (.ireturn, 1086, 1, 0, .null, [], []))]
/-- yL_law -/
def zc_279 : List (Nat × zE) := zc_279_0 ++ zc_279_1 ++ zc_279_2 ++ zc_279_3 ++ zc_279_4 ++ zc_279_5
def zprog : List (List (Nat × zE)) := [zc_0, zc_1, zc_2, zc_3, zc_4, zc_5, zc_6, zc_7, zc_8, zc_9, zc_10, zc_11, zc_12, zc_13, zc_14, zc_15, zc_16, zc_17, zc_18, zc_19, zc_20, zc_21, zc_22, zc_23, zc_24, zc_25, zc_26, zc_27, zc_28, zc_29, zc_30, zc_31, zc_32, zc_33, zc_34, zc_35, zc_36, zc_37, zc_38, zc_39, zc_40, zc_41, zc_42, zc_43, zc_44, zc_45, zc_46, zc_47, zc_48, zc_49, zc_50, zc_51, zc_52, zc_53, zc_54, zc_55, zc_56, zc_57, zc_58, zc_59, zc_60, zc_61, zc_62, zc_63, zc_64, zc_65, zc_66, zc_67, zc_68, zc_69, zc_70, zc_71, zc_72, zc_73, zc_74, zc_75, zc_76, zc_77, zc_78, zc_79, zc_80, zc_81, zc_82, zc_83, zc_84, zc_85, zc_86, zc_87, zc_88, zc_89, zc_90, zc_91, zc_92, zc_93, zc_94, zc_95, zc_96, zc_97, zc_98, zc_99, zc_100, zc_101, zc_102, zc_103, zc_104, zc_105, zc_106, zc_107, zc_108, zc_109, zc_110, zc_111, zc_112, zc_113, zc_114, zc_115, zc_116, zc_117, zc_118, zc_119, zc_120, zc_121, zc_122, zc_123, zc_124, zc_125, zc_126, zc_127, zc_128, zc_129, zc_130, zc_131, zc_132, zc_133, zc_134, zc_135, zc_136, zc_137, zc_138, zc_139, zc_140, zc_141, zc_142, zc_143, zc_144, zc_145, zc_146, zc_147, zc_148, zc_149, zc_150, zc_151, zc_152, zc_153, zc_154, zc_155, zc_156, zc_157, zc_158, zc_159, zc_160, zc_161, zc_162, zc_163, zc_164, zc_165, zc_166, zc_167, zc_168, zc_169, zc_170, zc_171, zc_172, zc_173, zc_174, zc_175, zc_176, zc_177, zc_178, zc_179, zc_180, zc_181, zc_182, zc_183, zc_184, zc_185, zc_186, zc_187, zc_188, zc_189, zc_190, zc_191, zc_192, zc_193, zc_194, zc_195, zc_196, zc_197, zc_198, zc_199, zc_200, zc_201, zc_202, zc_203, zc_204, zc_205, zc_206, zc_207, zc_208, zc_209, zc_210, zc_211, zc_212, zc_213, zc_214, zc_215, zc_216, zc_217, zc_218, zc_219, zc_220, zc_221, zc_222, zc_223, zc_224, zc_225, zc_226, zc_227, zc_228, zc_229, zc_230, zc_231, zc_232, zc_233, zc_234, zc_235, zc_236, zc_237, zc_238, zc_239, zc_240, zc_241, zc_242, zc_243, zc_244, zc_245, zc_246, zc_247, zc_248, zc_249, zc_250, zc_251, zc_252, zc_253, zc_254, zc_255, zc_256, zc_257, zc_258, zc_259, zc_260, zc_261, zc_262, zc_263, zc_264, zc_265, zc_266, zc_267, zc_268, zc_269, zc_270, zc_271, zc_272, zc_273, zc_274, zc_275, zc_276, zc_277, zc_278, zc_279]
abbrev zY : Type := String × MethodName × ByteArray × Nat × Option FieldType
def zmeth : List zY := [(RX0, yX0_init, cX0_init, 1, (none : Option FieldType)),
  (RX0, yX0_readText, cX0_readText, 5, ((some .boolean) : Option FieldType)),
  (RX0, yX0_readClause, cX0_readClause, 5, (none : Option FieldType)),
  (RX0, yX0_readTimes, cX0_readTimes, 4, (none : Option FieldType)),
  (RX0, yX0_readTest, cX0_readTest, 9, (none : Option FieldType)),
  (RX0, yX0_skipNots, cX0_skipNots, 3, ((some .boolean) : Option FieldType)),
  (RX0, yX0_readComparison, cX0_readComparison, 1, ((some .int) : Option FieldType)),
  (RX0, yX0_readSum, cX0_readSum, 8, (none : Option FieldType)),
  (RX0, yX0_scalingOp, cX0_scalingOp, 1, ((some .int) : Option FieldType)),
  (RX0, yX0_readPart, cX0_readPart, 4, (none : Option FieldType)),
  (RX0, yX0_readLawWord, cX0_readLawWord, 3, (none : Option FieldType)),
  (RX0, yX0_readOrderWord, cX0_readOrderWord, 4, (none : Option FieldType)),
  (RX1, yX1_init, cX1_init, 3, (none : Option FieldType)),
  (RX1, yX1_fieldsFor, cX1_fieldsFor, 1, ((some (.array .int)) : Option FieldType)),
  (RX1, yX1_told, cX1_told, 4, ((some .int) : Option FieldType)),
  (RX1, yX1_tell, cX1_tell, 5, (none : Option FieldType)),
  (RX1, yX1_write, cX1_write, 3, ((some .int) : Option FieldType)),
  (RX1, yX1_aim, cX1_aim, 2, (none : Option FieldType)),
  (RX1, yX1_compact, cX1_compact, 2, ((some (.object "ScansionDesk$Clauses")) : Option FieldType)),
  (RX2, yX2_init, cX2_init, 1, (none : Option FieldType)),
  (RX2, yX2_copyFrom, cX2_copyFrom, 2, (none : Option FieldType)),
  (RX2, yX2_add, cX2_add, 4, (none : Option FieldType)),
  (RX2, yX2_dropOldest, cX2_dropOldest, 2, (none : Option FieldType)),
  (RX2, yX2_latestKind, cX2_latestKind, 1, ((some .int) : Option FieldType)),
  (RX2, yX2_latestSyllable, cX2_latestSyllable, 1, ((some .int) : Option FieldType)),
  (RX2, yX2_latestWeight, cX2_latestWeight, 1, ((some .int) : Option FieldType)),
  (RX2, yX2_latestIn, cX2_latestIn, 2, ((some .int) : Option FieldType)),
  (RX3, yX3_init, cX3_init, 7, (none : Option FieldType)),
  (RX4, yX4_init, cX4_init, 1, (none : Option FieldType)),
  (RX4, yX4_readText, cX4_readText, 4, ((some (.object "ScansionDesk$Metre")) : Option FieldType)),
  (RX4, yX4_readMetre, cX4_readMetre, 9, ((some .int) : Option FieldType)),
  (RX4, yX4_readChoice, cX4_readChoice, 9, ((some .int) : Option FieldType)),
  (RX4, yX4_readUnit, cX4_readUnit, 6, ((some .int) : Option FieldType)),
  (RX4, yX4_isStep, cX4_isStep, 1, ((some .boolean) : Option FieldType)),
  (RX4, yX4_beginsUnit, cX4_beginsUnit, 1, ((some .boolean) : Option FieldType)),
  (RX4, yX4_writeMetre, cX4_writeMetre, 9, ((some .int) : Option FieldType)),
  (RX4, yX4_writeChoice, cX4_writeChoice, 11, ((some .int) : Option FieldType)),
  (RX4, yX4_addNode, cX4_addNode, 7, ((some .int) : Option FieldType)),
  (RX4, yX4_get, cX4_get, 2, ((some .int) : Option FieldType)),
  (RX4, yX4_put, cX4_put, 3, (none : Option FieldType)),
  (RX5, yX5_init, cX5_init, 1, (none : Option FieldType)),
  (RX5, yX5_reckon, cX5_reckon, 9, ((some .int) : Option FieldType)),
  (RX5, yX5_combine, cX5_combine, 7, ((some .int) : Option FieldType)),
  (RX6, yX6_init, cX6_init, 1, (none : Option FieldType)),
  (RX6, yX6_lookAt, cX6_lookAt, 5, (none : Option FieldType)),
  (RX6, yX6_judge, cX6_judge, 13, (none : Option FieldType)),
  (RX6, yX6_canRead, cX6_canRead, 3, ((some .int) : Option FieldType)),
  (RX6, yX6_costOf, cX6_costOf, 4, ((some .int) : Option FieldType)),
  (RX6, yX6_hear, cX6_hear, 5, ((some .boolean) : Option FieldType)),
  (RX6, yX6_takes, cX6_takes, 2, ((some .boolean) : Option FieldType)),
  (RX6, yX6_reachOf, cX6_reachOf, 4, ((some .int) : Option FieldType)),
  (RX6, yX6_flowThrough, cX6_flowThrough, 6, (none : Option FieldType)),
  (RX6, yX6_spread, cX6_spread, 3, (none : Option FieldType)),
  (RX6, yX6_withElided, cX6_withElided, 3, ((some .int) : Option FieldType)),
  (RX6, yX6_least, cX6_least, 6, ((some .long) : Option FieldType)),
  (RX6, yX6_leastFrom, cX6_leastFrom, 8, ((some .long) : Option FieldType)),
  (RX6, yX6_leastIn, cX6_leastIn, 2, ((some .long) : Option FieldType)),
  (RX6, yX6_priceOf, cX6_priceOf, 4, ((some .long) : Option FieldType)),
  (RX6, yX6_setPrices, cX6_setPrices, 5, (none : Option FieldType)),
  (RX6, yX6_priceByCost, cX6_priceByCost, 3, ((some .long) : Option FieldType)),
  (RX6, yX6_costIn, cX6_costIn, 2, ((some .int) : Option FieldType)),
  (RX6, yX6_wayIn, cX6_wayIn, 3, ((some .int) : Option FieldType)),
  (RX7, yX7_init, cX7_init, 1, (none : Option FieldType)),
  (RX7, yX7_copyFrom, cX7_copyFrom, 3, (none : Option FieldType)),
  (RX7, yX7_isSyllable, cX7_isSyllable, 3, ((some .boolean) : Option FieldType)),
  (RX7, yX7_addSyllable, cX7_addSyllable, 5, ((some .boolean) : Option FieldType)),
  (RX7, yX7_hasSyllable, cX7_hasSyllable, 2, ((some .boolean) : Option FieldType)),
  (RX7, yX7_told, cX7_told, 4, ((some .int) : Option FieldType)),
  (RX7, yX7_setTold, cX7_setTold, 5, (none : Option FieldType)),
  (RX7, yX7_turn, cX7_turn, 4, ((some .int) : Option FieldType)),
  (RX7, yX7_termOf, cX7_termOf, 2, ((some .int) : Option FieldType)),
  (RX7, yX7_setTerm, cX7_setTerm, 3, (none : Option FieldType)),
  (RX7, yX7_addHeard, cX7_addHeard, 3, ((some .boolean) : Option FieldType)),
  (RX7, yX7_heardPlace, cX7_heardPlace, 2, ((some .int) : Option FieldType)),
  (RX7, yX7_heardWay, cX7_heardWay, 2, ((some .int) : Option FieldType)),
  (RX7, yX7_addMetre, cX7_addMetre, 2, (none : Option FieldType)),
  (RX7, yX7_addLaw, cX7_addLaw, 2, (none : Option FieldType)),
  (RX7, yX7_metreAt, cX7_metreAt, 2, ((some (.object "ScansionDesk$Metre")) : Option FieldType)),
  (RX7, yX7_lawAt, cX7_lawAt, 2, ((some (.object "ScansionDesk$Clauses")) : Option FieldType)),
  (RX8, yX8_init, cX8_init, 1, (none : Option FieldType)),
  (RX8, yX8_hasRoomForFive, cX8_hasRoomForFive, 1, ((some .boolean) : Option FieldType)),
  (RX8, yX8_addFour, cX8_addFour, 3, (none : Option FieldType)),
  (RX8, yX8_byteAt, cX8_byteAt, 2, ((some .int) : Option FieldType)),
  (RX9, yX9_init, cX9_init, 1, (none : Option FieldType)),
  (RX9, yX9_readTape, cX9_readTape, 5, (none : Option FieldType)),
  (RX9, yX9_addToken, cX9_addToken, 4, (none : Option FieldType)),
  (RX9, yX9_isLetter, cX9_isLetter, 1, ((some .boolean) : Option FieldType)),
  (RX9, yX9_isDigit, cX9_isDigit, 1, ((some .boolean) : Option FieldType)),
  (RX9, yX9_endOfToken, cX9_endOfToken, 4, ((some .int) : Option FieldType)),
  (RX9, yX9_wordCode, cX9_wordCode, 8, ((some .int) : Option FieldType)),
  (RX9, yX9_numberAt, cX9_numberAt, 5, ((some .int) : Option FieldType)),
  (RX9, yX9_codeAt, cX9_codeAt, 2, ((some .int) : Option FieldType)),
  (RX9, yX9_fail, cX9_fail, 1, (none : Option FieldType)),
  (RX9, yX9_skip, cX9_skip, 3, ((some .boolean) : Option FieldType)),
  (RX9, yX9_expect, cX9_expect, 2, (none : Option FieldType)),
  (RX9, yX9_takeNumber, cX9_takeNumber, 4, ((some .int) : Option FieldType)),
  (RX10, yX10_init, cX10_init, 1, (none : Option FieldType)),
  (RX10, yX10_syllable, cX10_syllable, 4, ((some .int) : Option FieldType)),
  (RX10, yX10_of, cX10_of, 4, ((some .int) : Option FieldType)),
  (RX10, yX10_terms, cX10_terms, 4, ((some .int) : Option FieldType)),
  (RX10, yX10_feed, cX10_feed, 6, ((some .int) : Option FieldType)),
  (RX10, yX10_end, cX10_end, 2, ((some .int) : Option FieldType)),
  (RX10, yX10_row, cX10_row, 4, ((some .int) : Option FieldType)),
  (RX10, yX10_mutes, cX10_mutes, 1, ((some .int) : Option FieldType)),
  (RX10, yX10_metre, cX10_metre, 2, ((some .int) : Option FieldType)),
  (RX10, yX10_law, cX10_law, 2, ((some .int) : Option FieldType)),
  (RX10, yX10_orders, cX10_orders, 6, ((some .int) : Option FieldType)),
  (RX10, yX10_fault, cX10_fault, 1, ((some .int) : Option FieldType)),
  (RX10, yX10_stopped, cX10_stopped, 1, ((some .int) : Option FieldType)),
  (RX10, yX10_force, cX10_force, 3, ((some .int) : Option FieldType)),
  (RX10, yX10_weigh, cX10_weigh, 3, ((some .int) : Option FieldType)),
  (RX10, yX10_ends, cX10_ends, 2, ((some .int) : Option FieldType)),
  (RX10, yX10_meets, cX10_meets, 2, ((some .int) : Option FieldType)),
  (RX10, yX10_pass, cX10_pass, 1, ((some .int) : Option FieldType)),
  (RX10, yX10_undo, cX10_undo, 3, ((some .int) : Option FieldType)),
  (RX10, yX10_steps, cX10_steps, 3, ((some .int) : Option FieldType)),
  (RX10, yX10_best, cX10_best, 5, ((some .int) : Option FieldType)),
  (RX10, yX10_elisions, cX10_elisions, 2, ((some .int) : Option FieldType)),
  (RX10, yX10_mend, cX10_mend, 2, ((some .int) : Option FieldType)),
  (RX10, yX10_reach, cX10_reach, 3, ((some .int) : Option FieldType)),
  (RX10, yX10_length, cX10_length, 4, ((some .int) : Option FieldType)),
  (RX10, yX10_fits, cX10_fits, 1, ((some .int) : Option FieldType)),
  (RX10, yX10_heard, cX10_heard, 3, ((some .int) : Option FieldType)),
  (RX10, yX10_forget, cX10_forget, 2, ((some .int) : Option FieldType)),
  (RX10, yX10_canBe, cX10_canBe, 1, ((some .int) : Option FieldType)),
  (RX10, yX10_listen, cX10_listen, 7, ((some .int) : Option FieldType)),
  (RX10, yX10_few, cX10_few, 8, ((some .long) : Option FieldType)),
  (RX10, yX10_compare, cX10_compare, 5, ((some .int) : Option FieldType)),
  (RX10, yX10_weeks, cX10_weeks, 9, ((some .int) : Option FieldType)),
  (RX10, yX10_drawn, cX10_drawn, 3, ((some .int) : Option FieldType)),
  (RX10, yX10_image, cX10_image, 3, ((some .int) : Option FieldType)),
  (RX10, yX10_back, cX10_back, 3, ((some .int) : Option FieldType)),
  (RX10, yX10_count, cX10_count, 2, ((some .int) : Option FieldType)),
  (RX10, yX10_status, cX10_status, 1, ((some .int) : Option FieldType)),
  (RX10, yX10_refuse, cX10_refuse, 3, ((some .int) : Option FieldType)),
  (RX10, yX10_accept, cX10_accept, 2, ((some .int) : Option FieldType)),
  (RX10, yX10_settle, cX10_settle, 2, ((some .int) : Option FieldType)),
  (RX10, yX10_takingMetres, cX10_takingMetres, 5, ((some .int) : Option FieldType)),
  (RX10, yX10_fittingMetres, cX10_fittingMetres, 2, ((some .int) : Option FieldType)),
  (RX10, yX10_bestReading, cX10_bestReading, 4, ((some .long) : Option FieldType)),
  (RX10, yX10_fewestBy, cX10_fewestBy, 6, ((some .int) : Option FieldType)),
  (RX10, yX10_mostAlike, cX10_mostAlike, 6, ((some .int) : Option FieldType)),
  (RX10, yX10_tryWeigh, cX10_tryWeigh, 4, ((some .int) : Option FieldType)),
  (RX10, yX10_tryTurn, cX10_tryTurn, 3, ((some .int) : Option FieldType)),
  (RX10, yX10_tryPass, cX10_tryPass, 3, ((some .int) : Option FieldType)),
  (RX10, yX10_runOnce, cX10_runOnce, 7, ((some .boolean) : Option FieldType)),
  (RX10, yX10_setOrderWords, cX10_setOrderWords, 4, (none : Option FieldType)),
  (RX10, yX10_nextDraw, cX10_nextDraw, 1, ((some .int) : Option FieldType)),
  (RX10, yX10_changeByDraws, cX10_changeByDraws, 4, (none : Option FieldType)),
  (RX11, yX11_init, cX11_init, 1, (none : Option FieldType)),
  (RX11, yX11_in, cX11_in, 6, ((some .boolean) : Option FieldType)),
  (RX11, yX11_is, cX11_is, 2, ((some .boolean) : Option FieldType)),
  (RX11, yX11_bounded, cX11_bounded, 4, ((some .int) : Option FieldType)),
  (RX11, yX11_tell, cX11_tell, 2, ((some .int) : Option FieldType)),
  (RX11, yX11_change, cX11_change, 4, ((some .int) : Option FieldType)),
  (RX11, yX11_lasting, cX11_lasting, 2, ((some .int) : Option FieldType)),
  (RX11, yX11_keepAll, cX11_keepAll, 3, (none : Option FieldType)),
  (RX11, yX11_putBack, cX11_putBack, 3, (none : Option FieldType)),
  (RX11, yX11_remember, cX11_remember, 3, (none : Option FieldType)),
  (RX11, yX11_undo, cX11_undo, 1, ((some .int) : Option FieldType)),
  (RX11, yX11_image, cX11_image, 3, ((some .int) : Option FieldType)),
  (RX11, yX11_back, cX11_back, 3, ((some .int) : Option FieldType)),
  (RX11, yX11_isSyllable, cX11_isSyllable, 2, ((some .boolean) : Option FieldType)),
  (RX11, yX11_isMetre, cX11_isMetre, 2, ((some .boolean) : Option FieldType)),
  (RX11, yX11_comes, cX11_comes, 5, ((some .int) : Option FieldType)),
  (RX11, yX11_syllable, cX11_syllable, 4, ((some .int) : Option FieldType)),
  (RX11, yX11_of, cX11_of, 3, ((some .int) : Option FieldType)),
  (RX11, yX11_terms, cX11_terms, 4, ((some .int) : Option FieldType)),
  (RX11, yX11_row, cX11_row, 4, ((some .int) : Option FieldType)),
  (RX11, yX11_mutes, cX11_mutes, 1, ((some .int) : Option FieldType)),
  (RX11, yX11_four, cX11_four, 3, (none : Option FieldType)),
  (RX11, yX11_feed, cX11_feed, 6, ((some .int) : Option FieldType)),
  (RX11, yX11_end, cX11_end, 2, ((some .int) : Option FieldType)),
  (RX11, yX11_isSmall, cX11_isSmall, 1, ((some .boolean) : Option FieldType)),
  (RX11, yX11_isDigit, cX11_isDigit, 1, ((some .boolean) : Option FieldType)),
  (RX11, yX11_begin, cX11_begin, 1, (none : Option FieldType)),
  (RX11, yX11_next, cX11_next, 1, (none : Option FieldType)),
  (RX11, yX11_isWord, cX11_isWord, 3, ((some .boolean) : Option FieldType)),
  (RX11, yX11_isSign, cX11_isSign, 2, ((some .boolean) : Option FieldType)),
  (RX11, yX11_must, cX11_must, 2, (none : Option FieldType)),
  (RX11, yX11_number, cX11_number, 6, ((some .int) : Option FieldType)),
  (RX11, yX11_fault, cX11_fault, 1, ((some .int) : Option FieldType)),
  (RX11, yX11_emit, cX11_emit, 3, (none : Option FieldType)),
  (RX11, yX11_push, cX11_push, 3, (none : Option FieldType)),
  (RX11, yX11_binds, cX11_binds, 1, ((some .int) : Option FieldType)),
  (RX11, yX11_settle, cX11_settle, 2, (none : Option FieldType)),
  (RX11, yX11_inner, cX11_inner, 3, ((some .int) : Option FieldType)),
  (RX11, yX11_isCompared, cX11_isCompared, 2, ((some .boolean) : Option FieldType)),
  (RX11, yX11_partAt, cX11_partAt, 3, ((some .int) : Option FieldType)),
  (RX11, yX11_orderPartAt, cX11_orderPartAt, 3, ((some .int) : Option FieldType)),
  (RX11, yX11_openBracket, cX11_openBracket, 2, (none : Option FieldType)),
  (RX11, yX11_leaf, cX11_leaf, 4, (none : Option FieldType)),
  (RX11, yX11_readPart, cX11_readPart, 4, ((some .int) : Option FieldType)),
  (RX11, yX11_readPlain, cX11_readPlain, 1, ((some .int) : Option FieldType)),
  (RX11, yX11_behindSum, cX11_behindSum, 4, ((some .int) : Option FieldType)),
  (RX11, yX11_behindTest, cX11_behindTest, 2, ((some .int) : Option FieldType)),
  (RX11, yX11_readExpression, cX11_readExpression, 3, (none : Option FieldType)),
  (RX11, yX11_beginText, cX11_beginText, 2, (none : Option FieldType)),
  (RX11, yX11_endText, cX11_endText, 1, (none : Option FieldType)),
  (RX11, yX11_readLaw, cX11_readLaw, 4, (none : Option FieldType)),
  (RX11, yX11_law, cX11_law, 3, ((some .int) : Option FieldType)),
  (RX11, yX11_isLaw, cX11_isLaw, 2, ((some .boolean) : Option FieldType)),
  (RX11, yX11_force, cX11_force, 2, ((some .int) : Option FieldType)),
  (RX11, yX11_reckon, cX11_reckon, 6, ((some .long) : Option FieldType)),
  (RX11, yX11_reckonAll, cX11_reckonAll, 7, (none : Option FieldType)),
  (RX11, yX11_isSo, cX11_isSo, 2, ((some .boolean) : Option FieldType)),
  (RX11, yX11_tells, cX11_tells, 10, ((some .long) : Option FieldType)),
  (RX11, yX11_canRead, cX11_canRead, 5, ((some .boolean) : Option FieldType)),
  (RX11, yX11_costsAs, cX11_costsAs, 4, ((some .int) : Option FieldType)),
  (RX11, yX11_sign, cX11_sign, 2, (none : Option FieldType)),
  (RX11, yX11_stepAt, cX11_stepAt, 3, ((some .int) : Option FieldType)),
  (RX11, yX11_beginMetre, cX11_beginMetre, 1, (none : Option FieldType)),
  (RX11, yX11_endUnit, cX11_endUnit, 2, (none : Option FieldType)),
  (RX11, yX11_endChoice, cX11_endChoice, 1, (none : Option FieldType)),
  (RX11, yX11_beginUnit, cX11_beginUnit, 2, ((some .boolean) : Option FieldType)),
  (RX11, yX11_readMetre, cX11_readMetre, 3, (none : Option FieldType)),
  (RX11, yX11_stepsOfRaw, cX11_stepsOfRaw, 4, ((some .int) : Option FieldType)),
  (RX11, yX11_writeOut, cX11_writeOut, 5, ((some .int) : Option FieldType)),
  (RX11, yX11_repeat, cX11_repeat, 7, ((some .int) : Option FieldType)),
  (RX11, yX11_metre, cX11_metre, 4, ((some .int) : Option FieldType)),
  (RX11, yX11_layMetre, cX11_layMetre, 7, (none : Option FieldType)),
  (RX11, yX11_join, cX11_join, 6, (none : Option FieldType)),
  (RX11, yX11_isOver, cX11_isOver, 2, ((some .boolean) : Option FieldType)),
  (RX11, yX11_layPrices, cX11_layPrices, 6, (none : Option FieldType)),
  (RX11, yX11_stepPrice, cX11_stepPrice, 5, ((some .int) : Option FieldType)),
  (RX11, yX11_canCut, cX11_canCut, 2, ((some .boolean) : Option FieldType)),
  (RX11, yX11_leftFrom, cX11_leftFrom, 7, ((some .int) : Option FieldType)),
  (RX11, yX11_layLeft, cX11_layLeft, 3, ((some .int) : Option FieldType)),
  (RX11, yX11_leastOf, cX11_leastOf, 4, ((some .int) : Option FieldType)),
  (RX11, yX11_passCuts, cX11_passCuts, 5, (none : Option FieldType)),
  (RX11, yX11_goesAs, cX11_goesAs, 2, ((some .boolean) : Option FieldType)),
  (RX11, yX11_layThen, cX11_layThen, 8, ((some .boolean) : Option FieldType)),
  (RX11, yX11_readBest, cX11_readBest, 5, (none : Option FieldType)),
  (RX11, yX11_steps, cX11_steps, 2, ((some .int) : Option FieldType)),
  (RX11, yX11_best, cX11_best, 4, ((some .int) : Option FieldType)),
  (RX11, yX11_elisions, cX11_elisions, 2, ((some .int) : Option FieldType)),
  (RX11, yX11_mend, cX11_mend, 2, ((some .int) : Option FieldType)),
  (RX11, yX11_isReached, cX11_isReached, 5, ((some .boolean) : Option FieldType)),
  (RX11, yX11_reach, cX11_reach, 5, ((some .int) : Option FieldType)),
  (RX11, yX11_length, cX11_length, 9, ((some .int) : Option FieldType)),
  (RX11, yX11_fitting, cX11_fitting, 3, ((some .int) : Option FieldType)),
  (RX11, yX11_many, cX11_many, 4, ((some .int) : Option FieldType)),
  (RX11, yX11_fits, cX11_fits, 1, ((some .int) : Option FieldType)),
  (RX11, yX11_compare, cX11_compare, 5, ((some .int) : Option FieldType)),
  (RX11, yX11_weighNow, cX11_weighNow, 4, ((some .int) : Option FieldType)),
  (RX11, yX11_weigh, cX11_weigh, 3, ((some .int) : Option FieldType)),
  (RX11, yX11_toggle, cX11_toggle, 4, ((some .int) : Option FieldType)),
  (RX11, yX11_ends, cX11_ends, 2, ((some .int) : Option FieldType)),
  (RX11, yX11_meets, cX11_meets, 2, ((some .int) : Option FieldType)),
  (RX11, yX11_passNow, cX11_passNow, 2, ((some .int) : Option FieldType)),
  (RX11, yX11_pass, cX11_pass, 1, ((some .int) : Option FieldType)),
  (RX11, yX11_heard, cX11_heard, 4, ((some .int) : Option FieldType)),
  (RX11, yX11_forget, cX11_forget, 2, ((some .int) : Option FieldType)),
  (RX11, yX11_isHeard, cX11_isHeard, 6, ((some .boolean) : Option FieldType)),
  (RX11, yX11_thatCanBe, cX11_thatCanBe, 3, ((some .int) : Option FieldType)),
  (RX11, yX11_canBe, cX11_canBe, 1, ((some .int) : Option FieldType)),
  (RX11, yX11_mostAlike, cX11_mostAlike, 7, ((some .int) : Option FieldType)),
  (RX11, yX11_listen, cX11_listen, 7, ((some .int) : Option FieldType)),
  (RX11, yX11_few, cX11_few, 8, ((some .long) : Option FieldType)),
  (RX11, yX11_readSum, cX11_readSum, 2, (none : Option FieldType)),
  (RX11, yX11_readOrder, cX11_readOrder, 4, (none : Option FieldType)),
  (RX11, yX11_sumOf, cX11_sumOf, 2, ((some .int) : Option FieldType)),
  (RX11, yX11_act, cX11_act, 4, ((some .int) : Option FieldType)),
  (RX11, yX11_run, cX11_run, 5, ((some .int) : Option FieldType)),
  (RX11, yX11_orders, cX11_orders, 4, ((some .int) : Option FieldType)),
  (RX11, yX11_giveBack, cX11_giveBack, 3, (none : Option FieldType)),
  (RX11, yX11_stopped, cX11_stopped, 1, ((some .int) : Option FieldType)),
  (RX11, yX11_draw, cX11_draw, 2, ((some .int) : Option FieldType)),
  (RX11, yX11_weeks, cX11_weeks, 9, ((some .int) : Option FieldType)),
  (RX11, yX11_drawn, cX11_drawn, 3, ((some .int) : Option FieldType)),
  (RX11, yX11_count, cX11_count, 2, ((some .int) : Option FieldType)),
  (RX11, yX11_status, cX11_status, 1, ((some .int) : Option FieldType)),
  ("java/lang/Math", Lib.Math.max.name, Lib.Math.max.code, 2, ((some .int) : Option FieldType)),
  ("java/lang/Math", Lib.Math.min.name, Lib.Math.min.code, 2, ((some .int) : Option FieldType)),
  ("java/lang/Math", Lib.MathLoose.min_long.x, Lib.MathLoose.min_long.code, 4, ((some .long) : Option FieldType)),
  (RJ6, yJ6_bitCount_0f7a4, cJ6_bitCount_0f7a4, 1, ((some .int) : Option FieldType)),
  (RJ7, yJ7_copyOf_59c91, cJ7_copyOf_59c91, 3, ((some (.array .int)) : Option FieldType)),
  (RJ7, yJ7_fill_53178, cJ7_fill_53178, 4, (none : Option FieldType)),
  (RJ7, yJ7_fill_d0a16, cJ7_fill_d0a16, 5, (none : Option FieldType)),
  (RL, yL_law, cL_law, 4, ((some .boolean) : Option FieldType))]
def z_get {α : Type} : List α → Nat → Option α
  | [], _ => none
  | x :: _, 0 => some x
  | _ :: r, n + 1 => z_get r n
/-- the class of a method's own objects, by the method's number -/
def zcls : List Nat := [0, 0, 0, 0, 0, 0, 0, 0, 0, 0, 0, 0, 1, 1, 1, 1, 1, 1, 1, 2, 2, 2, 2, 2, 2, 2, 2, 3, 4, 4, 4, 4, 4, 4, 4, 4, 4, 4, 4, 4, 5, 5, 5, 6, 6, 6, 6, 6, 6, 6, 6, 6, 6, 6, 6, 6, 6, 6, 6, 6, 6, 6, 7, 7, 7, 7, 7, 7, 7, 7, 7, 7, 7, 7, 7, 7, 7, 7, 7, 8, 8, 8, 8, 9, 9, 9, 9, 9, 9, 9, 9, 9, 9, 9, 9, 9, 10, 10, 10, 10, 10, 10, 10, 10, 10, 10, 10, 10, 10, 10, 10, 10, 10, 10, 10, 10, 10, 10, 10, 10, 10, 10, 10, 10, 10, 10, 10, 10, 10, 10, 10, 10, 10, 10, 10, 10, 10, 10, 10, 10, 10, 10, 10, 10, 10, 10, 10, 10, 10, 11, 11, 11, 11, 11, 11, 11, 11, 11, 11, 11, 11, 11, 11, 11, 11, 11, 11, 11, 11, 11, 11, 11, 11, 11, 11, 11, 11, 11, 11, 11, 11, 11, 11, 11, 11, 11, 11, 11, 11, 11, 11, 11, 11, 11, 11, 11, 11, 11, 11, 11, 11, 11, 11, 11, 11, 11, 11, 11, 11, 11, 11, 11, 11, 11, 11, 11, 11, 11, 11, 11, 11, 11, 11, 11, 11, 11, 11, 11, 11, 11, 11, 11, 11, 11, 11, 11, 11, 11, 11, 11, 11, 11, 11, 11, 11, 11, 11, 11, 11, 11, 11, 11, 11, 11, 11, 11, 11, 11, 11, 11, 11, 11, 11, 11, 11, 11, 11, 11, 11, 11, 11, 11, 99, 99, 99, 99, 99, 99, 99, 99]
def z_cls (mi : Nat) : Nat := match z_get zcls mi with
  | some c => c
  | none => 99
/-- which class the elements of an array of objects have -/
def z_elem (t : Nat) : Nat := match t with
  | 3 => 3
  | 4 => 1
  | 5 => 7
  | _ => 99
end
section
def zw (n : Nat) : Option Cond := match z_get zchunks (n / 100) with
  | some l => z_get l (n % 100)
  | none => none
theorem z_get_mem {α : Type} : ∀ (l : List α) (i : Nat) (x : α), z_get l i = some x → x ∈ l := by
  intro l
  induction l with
  | nil => intro i x h; cases h
  | cons y r ih =>
    intro i x h
    cases i with
    | zero => cases h; exact List.mem_cons_self
    | succ i => exact List.mem_cons_of_mem _ (ih i x h)
theorem zw_in {n : Nat} {w : Cond} (h : zw n = some w) : w ∈ zG := by
  unfold zw at h
  split at h
  · next l hl => exact List.mem_flatten.mpr ⟨l, z_get_mem _ _ _ hl, z_get_mem _ _ _ h⟩
  · cases h
/-- word number j of an entry is w -/
def z_hw (ws : List Nat) (j : Nat) (w : Cond) : Bool := match z_get ws j with
  | some n => decide (zw n = some w)
  | none => false
theorem z_hw_in {ws : List Nat} {j : Nat} {w : Cond} (h : z_hw ws j w = true) : w ∈ zG := by
  unfold z_hw at h
  split at h
  · exact zw_in (of_decide_eq_true h)
  · cases h
def z_meth (mi : Nat) : zY := match z_get zmeth mi with
  | some y => y
  | none => ("", ⟨"", "", ""⟩, ⟨#[]⟩, 0, none)
def z_cl (ci : Nat) : vw_C := match z_get vwCl ci with
  | some q => q
  | none => ("", fun _ => ("", "", "", false), 0)
/-- what a field's type is, as the entry says it -/
def z_ft (val : Value) (d : String) : Bool := match val with
  | .int 0 => decide (d = "I")
  | .int 1 => decide (d = "Z")
  | .int 2 => decide (d = "J")
  | .int 3 => match parseFieldDescriptor d with
    | some (.object _) => true
    | some (.array _) => true
    | _ => false
  | _ => false
def z_fld1 (own : String) (i a b : Nat) (val : Value) (ws : List Nat) : Bool := decide (a < 12) && decide (b < (z_cl a).2.2) && z_hw ws 0 (.fieldLink own i ((z_cl a).2.1 b).1 ((z_cl a).2.1 b).2.1 ((z_cl a).2.1 b).2.2.1) && z_ft val ((z_cl a).2.1 b).2.2.1
def z_nests : List (String × Nat × MethodName × String) := [("ScansionDesk", 11, ⟨"ScansionDesk$State", "<init>", "()V"⟩, "ScansionDesk"), ("ScansionDesk", 28, ⟨"ScansionDesk$History", "<init>", "()V"⟩, "ScansionDesk"), ("ScansionDesk", 38, ⟨"ScansionDesk$Tape", "<init>", "()V"⟩, "ScansionDesk"), ("ScansionDesk", 45, ⟨"ScansionDesk$Tokens", "<init>", "()V"⟩, "ScansionDesk"), ("ScansionDesk", 52, ⟨"ScansionDesk$MetreReader", "<init>", "()V"⟩, "ScansionDesk"), ("ScansionDesk", 59, ⟨"ScansionDesk$ClauseReader", "<init>", "()V"⟩, "ScansionDesk"), ("ScansionDesk", 66, ⟨"ScansionDesk$Reckoner", "<init>", "()V"⟩, "ScansionDesk"), ("ScansionDesk", 73, ⟨"ScansionDesk$Scansion", "<init>", "()V"⟩, "ScansionDesk"), ("ScansionDesk$Scansion", 11, ⟨"ScansionDesk$Reckoner", "<init>", "()V"⟩, "ScansionDesk")]
def z_cal1 (kind : Nat) (own : String) (i a b : Nat) (ws : List Nat) : Bool :=
  if 9000 ≤ a then decide (kind = 2 → a = 9000) && decide (a = 9000 → kind = 2) && (match a - 9000 with
    | 0 => z_hw ws 0 (.methodLink own i objectInit)
    | 1 => decide (kind = 0) && z_hw ws 0 (.methodLink own i arraycopyName)
    | 2 => decide (kind = 1) && z_hw ws 0 (.methodLink own i yJ0_length_8abf5)
    | 3 => decide (kind = 1) && z_hw ws 0 (.methodLink own i yJ0_charAt_5068e)
    | 4 => decide (kind = 1) && z_hw ws 0 (.methodLink own i ⟨"[I", "clone", "()Ljava/lang/Object;"⟩)
    | _ => false)
  else decide (a < 280) && decide ((parseMethodDescriptor (z_meth a).2.1.desc).map (fun d => d.parameters.length) = some b) && decide ((z_meth a).2.1.cls = (z_meth a).1) && (match kind with
    | 0 => z_hw ws 0 (.methodLink own i (z_meth a).2.1) && z_hw ws 1 (.static (z_meth a).2.1) && z_hw ws 2 (.initialized (z_meth a).1)
    | 1 => z_hw ws 0 (.methodLink own i (z_meth a).2.1) && z_hw ws 1 (.instanceMethod (z_meth a).2.1) && z_hw ws 2 (.selects (z_meth a).1 (z_meth a).2.1 (z_meth a).2.1) && z_hw ws 3 (.initialized (z_meth a).1) && decide (z_cls a < 12) && decide ((z_cl (z_cls a)).1 = (z_meth a).1)
    | _ => decide ((z_meth a).2.1.name = "<init>") && decide ((z_meth a).2.2.2.2 = none) && (z_hw ws 0 (.methodLink own i (z_meth a).2.1) || z_nests.contains (own, i, (z_meth a).2.1, "ScansionDesk")) && z_hw ws 1 (.instanceMethod (z_meth a).2.1) && z_hw ws 2 (.initialized (z_meth a).1))
def z_jmp (pc a npc : Nat) (off : Int) : Bool := decide ((pc : Int) + off = (a : Int)) && decide (npc = pc + 3)
def z_sws (pc : Nat) : Int → List Int → List (Int32 × Nat) → Bool
  | _, [], [] => true
  | lo, off :: r, (x, t) :: q => decide (x.toInt = lo) && decide ((pc : Int) + off = (t : Int)) && z_sws pc (lo + 1) r q
  | _, _, _ => false
def z_lws (pc : Nat) : List (Int × Int) → List (Int32 × Nat) → Bool
  | [], [] => true
  | (k, off) :: r, (x, t) :: q => decide (x.toInt = k) && decide ((pc : Int) + off = (t : Int)) && z_lws pc r q
  | _, _ => false
def z_arg (own : String) (nL : Nat) (ret : Option FieldType) (pc : Nat) (ins : Instr) (npc a b : Nat) (val : Value) (sw : List (Int32 × Nat)) (ws : List Nat) : Bool := match ins with
  | .iload i => decide (a = i) && decide (npc = pc + 2)
  | .lload i => decide (a = i) && decide (npc = pc + 2)
  | .aload i => decide (a = i) && decide (npc = pc + 2)
  | .iload_n i => decide (i.val = a) && decide (npc = pc + 1)
  | .lload_n i => decide (i.val = a) && decide (npc = pc + 1)
  | .aload_n i => decide (i.val = a) && decide (npc = pc + 1)
  | .istore i => decide (a = i) && decide (npc = pc + 2) && decide (a < nL)
  | .lstore i => decide (a = i) && decide (npc = pc + 2) && decide (a + 1 < nL)
  | .astore i => decide (a = i) && decide (npc = pc + 2) && decide (a < nL)
  | .istore_n i => decide (i.val = a) && decide (npc = pc + 1) && decide (a < nL)
  | .lstore_n i => decide (i.val = a) && decide (npc = pc + 1) && decide (a + 1 < nL)
  | .astore_n i => decide (i.val = a) && decide (npc = pc + 1) && decide (a < nL)
  | .iinc i n => decide (a = i) && decide (npc = pc + 3) && decide (a < nL) && decide (val = .int (Int32.ofInt n))
  | .iconst n => decide (npc = pc + 1) && decide (val = .int (Int32.ofInt n))
  | .bipush n => decide (npc = pc + 2) && decide (val = .int (Int8.ofInt n).toInt32)
  | .sipush n => decide (npc = pc + 3) && decide (val = .int (Int16.ofInt n).toInt32)
  | .lconst n => decide (npc = pc + 1) && decide (val = .long (Int64.ofNat n.val))
  | .ldc i => decide (npc = pc + 2) && (match val with
    | .int v => z_hw ws 0 (.constant own i v)
    | .ref q => decide (q = 3) && decide (own = RX9) && decide (i = 66)
    | _ => false)
  | .ldc_w i => decide (npc = pc + 3) && (match val with
    | .int v => z_hw ws 0 (.constant own i v)
    | _ => false)
  | .ldc2_w i => decide (npc = pc + 3) && (match val with
    | .long v => z_hw ws 0 (.constantLong own i v)
    | _ => false)
  | .aconst_null => decide (npc = pc + 1) && decide (val = .null)
  | .getstatic i => decide (npc = pc + 3) && ((decide (val = .ref 0) && z_hw ws 0 (.fieldLink own i "ScansionDesk" "REFUSAL_CODES" "[I")) || (decide (val = .ref 1) && (z_hw ws 0 (.fieldLink own i "ScansionDesk" "HIGHEST_TERMS" "[I") || (decide (own = RX7) && decide (i = 46)))))
  | .goto off => z_jmp pc a npc off
  | .ifCond _ off => z_jmp pc a npc off
  | .if_icmp _ off => z_jmp pc a npc off
  | .ifnull off => z_jmp pc a npc off
  | .ifnonnull off => z_jmp pc a npc off
  | .tableswitch d lo hi offs => decide ((pc : Int) + d = (a : Int)) && z_sws pc lo offs.toList sw && decide (hi = lo + offs.size - 1)
  | .lookupswitch d ps => decide ((pc : Int) + d = (a : Int)) && z_lws pc ps.toList sw && (ps.toList.zip (ps.toList.drop 1)).all (fun (a, next) => a.1 < next.1)
  | .getfield i => decide (npc = pc + 3) && z_fld1 own i a b val ws
  | .putfield i => decide (npc = pc + 3) && z_fld1 own i a b val ws
  | .new i => decide (npc = pc + 3) && decide (a < 12) && z_hw ws 0 (.classLink own i (z_cl a).1) && z_hw ws 1 (.instantiable (z_cl a).1 (z_cl a).2.2) && z_hw ws 2 (.initialized (z_cl a).1)
  | .newarray .int => decide (npc = pc + 2) && z_hw ws 0 (.arrayClass .int)
  | .newarray .long => decide (npc = pc + 2) && z_hw ws 0 (.arrayClass .long)
  | .newarray .boolean => decide (npc = pc + 2) && z_hw ws 0 (.arrayClass .boolean)
  | .anewarray i => decide (npc = pc + 3) && decide (3 ≤ a) && decide (a < 6) && z_hw ws 0 (.classLink own i (z_cl (z_elem a)).1)
  | .checkcast i => decide (npc = pc + 3) && z_hw ws 0 (.classLink own i "[I")
  | .invokestatic i => decide (npc = pc + 3) && z_cal1 0 own i a b ws
  | .invokevirtual i => decide (npc = pc + 3) && z_cal1 1 own i a b ws
  | .invokespecial i => decide (npc = pc + 3) && z_cal1 2 own i a b ws
  | .ireturn => decide (npc = pc + 1) && decide (a = 0 → ret = some .int) && decide (a ≠ 0 → ret = some .boolean)
  | .lreturn => decide (npc = pc + 1) && decide (ret = some .long)
  | .areturn => decide (npc = pc + 1) && (match ret with
    | some (.object _) => true
    | some (.array _) => true
    | _ => false)
  | .return_ => decide (npc = pc + 1) && decide (ret = none)
  | _ => decide (npc = pc + 1)
def z_chk (own : String) (bytes : ByteArray) (nL : Nat) (ret : Option FieldType) (pc : Nat) (e : zE) : Bool :=
  decide (decode bytes pc = .ok (e.1, e.2.1 - pc)) && z_arg own nL ret pc e.1 e.2.1 e.2.2.1 e.2.2.2.1 e.2.2.2.2.1 e.2.2.2.2.2.1 e.2.2.2.2.2.2
def z_chkL (y : zY) (l : List (Nat × zE)) : Bool := l.all (fun q => z_chk y.1 y.2.2.1 y.2.2.2.1 y.2.2.2.2 q.1 q.2)
end
section
/-! AN INTERPRETER over the program as data: values, cells and locals as the worlds have them, addresses as places in one list of cells -/
/-- the next free number, the slots made so far, the cells -/
abbrev zM : Type := Nat × Nat × (Nat → Option va_E)
def z_esz (e : va_E) : Nat := match e with
  | .inl (_, n, _) => n
  | .inr (_, fs) => fs.length
def z_upd (M : zM) (a : Nat) (e : va_E) : zM := (M.1, M.2.1, va_up M.2.2 a (some e))
def z_new (M : zM) (e : va_E) : zM := (M.1 + 1, M.2.1 + z_esz e, va_up M.2.2 M.1 (some e))
abbrev zL : Type := List (Option Value)
abbrev zC : Type := Nat × Nat × zL × List Value × zM
abbrev zR : Type := Option Value × zM
abbrev zX : Type := Nat × (Nat → Int32)
def z_look : List (Nat × zE) → Nat → Option zE
  | [], _ => none
  | (p, e) :: r, pc => match Nat.beq p pc with
    | true => some e
    | false => z_look r pc
def zat (mi pc : Nat) : Option zE := match z_get zprog mi with
  | none => none
  | some l => z_look l pc
def z_lset : zL → Nat → Option Value → zL
  | [], _, _ => []
  | _ :: r, 0, v => v :: r
  | x :: r, n + 1, v => x :: z_lset r n v
/-- a store at place i makes a long that stands at i - 1 unknown -/
def z_kill (L : zL) (i : Nat) : zL := match i with
  | 0 => L
  | j + 1 => match z_get L j with
    | some (some (.long _)) => z_lset L j none
    | some (some (.double _)) => z_lset L j none
    | _ => L
def z_st1 (L : zL) (i : Nat) (v : Value) : zL := z_lset (z_kill L i) i (some v)
def z_st2 (L : zL) (i : Nat) (v : Value) : zL := z_lset (z_lset (z_kill L i) i (some v)) (i + 1) none
def z_isA.{u} {ρ : Sort u} (fail : ρ) (v : Value) (k : ρ) : ρ := match v with
  | .ref _ => k
  | .null => k
  | _ => fail
def z_ldI.{u} {ρ : Sort u} (fail : ρ) (L : zL) (a : Nat) (k : Int32 → ρ) : ρ := match z_get L a with
  | some (some (.int x)) => k x
  | _ => fail
def z_ldJ.{u} {ρ : Sort u} (fail : ρ) (L : zL) (a : Nat) (k : Int64 → ρ) : ρ := match z_get L a with
  | some (some (.long x)) => k x
  | _ => fail
def z_ldA.{u} {ρ : Sort u} (fail : ρ) (L : zL) (a : Nat) (k : Value → ρ) : ρ := match z_get L a with
  | some (some v) => z_isA fail v (k v)
  | _ => fail
def z_I1.{u} {ρ : Sort u} (fail : ρ) (st : List Value) (k : Int32 → List Value → ρ) : ρ := match st with
  | .int x :: r => k x r
  | _ => fail
def z_I2.{u} {ρ : Sort u} (fail : ρ) (st : List Value) (k : Int32 → Int32 → List Value → ρ) : ρ := match st with
  | .int y :: .int x :: r => k x y r
  | _ => fail
def z_J1.{u} {ρ : Sort u} (fail : ρ) (st : List Value) (k : Int64 → List Value → ρ) : ρ := match st with
  | .long x :: r => k x r
  | _ => fail
def z_J2.{u} {ρ : Sort u} (fail : ρ) (st : List Value) (k : Int64 → Int64 → List Value → ρ) : ρ := match st with
  | .long y :: .long x :: r => k x y r
  | _ => fail
def z_JI.{u} {ρ : Sort u} (fail : ρ) (st : List Value) (k : Int64 → Int32 → List Value → ρ) : ρ := match st with
  | .int y :: .long x :: r => k x y r
  | _ => fail
def z_V1.{u} {ρ : Sort u} (fail : ρ) (st : List Value) (k : Value → List Value → ρ) : ρ := match st with
  | v :: r => k v r
  | _ => fail
def z_nil.{u} {ρ : Sort u} (fail : ρ) (st : List Value) (k : ρ) : ρ := match st with
  | [] => k
  | _ => fail
def z_R1.{u} {ρ : Sort u} (fail : ρ) (st : List Value) (k : Nat → List Value → ρ) : ρ := match st with
  | .ref a :: r => k a r
  | _ => fail
def z_RI.{u} {ρ : Sort u} (fail : ρ) (st : List Value) (k : Nat → Int32 → List Value → ρ) : ρ := match st with
  | .int i :: .ref a :: r => k a i r
  | _ => fail
def z_cat1.{u} {ρ : Sort u} (fail : ρ) (v : Value) (k : ρ) : ρ := match v with
  | .int _ => k
  | .ref _ => k
  | .null => k
  | _ => fail
def z_nul.{u} {ρ : Sort u} (fail : ρ) (v : Value) (kn kr : ρ) : ρ := match v with
  | .null => kn
  | .ref _ => kr
  | _ => fail
def z_ite.{u} {ρ : Sort u} (c : Prop) (_ : Decidable c) (a b : ρ) : ρ := if c then a else b
/-- a whole number within a row -/
abbrev z_in (i : Int32) (n : Nat) : Prop := 0 ≤ i ∧ i.toNatClampNeg < n
/-- static rows: 0 REFUSAL_CODES, 1 HIGHEST_TERMS, 2 the script (3: the text of all words); cells begin at 4 -/
def z_stat (X : zX) (a : Nat) : Option zX := match a with
  | 0 => some (5, fun i => match i with | 0 => -1 | 1 => -2 | 2 => -3 | 3 => -5 | _ => -6)
  | 1 => some (3, fun i => match i with | 0 => 999 | 1 => 10 | _ => 9)
  | 2 => some X
  | _ => none
def z_words : List Nat := [108, 111, 110, 103, 32, 115, 104, 111, 114, 116, 32, 97, 110, 121, 32, 99, 117, 116, 32, 111, 114, 32, 116, 105, 109, 101, 115, 32, 99, 111, 115, 116, 115, 32, 97, 108, 108, 111, 119, 115, 32, 98, 97, 114, 115, 32, 105, 102, 32, 97, 110, 100, 32, 110, 111, 116, 32, 112, 108, 97, 99, 101, 32, 119, 101, 105, 103, 104, 116, 32, 97, 115, 32, 101, 110, 100, 115, 32, 109, 101, 101, 116, 115, 32, 99, 111, 117, 110, 116, 32, 100, 97, 121, 32, 109, 111, 111, 100, 32, 119, 101, 105, 103, 104, 32, 116, 111, 32, 101, 110, 100, 32, 109, 101, 101, 116, 32, 112, 97, 115, 115, 32, 100, 111, 110, 101, 32, 108, 97, 116, 101, 115, 116, 32, 115, 99, 97, 110, 115, 32]
def z_ald.{u} {ρ : Sort u} (X : zX) (fail : ρ) (M : zM) (t a : Nat) (i : Int32) (k : Int32 → ρ) : ρ := match z_stat X a with
  | some q => if t = 0 ∧ z_in i q.1 then k (q.2 i.toNatClampNeg) else fail
  | none => match M.2.2 a with
    | some (.inl (t', n, .inl f)) => if t' = t ∧ z_in i n then k (f i.toNatClampNeg) else fail
    | _ => fail
def z_jld.{u} {ρ : Sort u} (fail : ρ) (M : zM) (a : Nat) (i : Int32) (k : Int64 → ρ) : ρ := match M.2.2 a with
  | some (.inl (t', n, .inr (.inl f))) => if t' = 1 ∧ z_in i n then k (f i.toNatClampNeg) else fail
  | _ => fail
def z_qld.{u} {ρ : Sort u} (fail : ρ) (M : zM) (a : Nat) (i : Int32) (kn : ρ) (k : Nat → ρ) : ρ := match M.2.2 a with
  | some (.inl (t', n, .inr (.inr (.inr (.inr f))))) => if 3 ≤ t' ∧ t' < 6 ∧ z_in i n then (match f i.toNatClampNeg with
    | none => kn
    | some q => k q) else fail
  | _ => fail
def z_ast.{u} {ρ : Sort u} (fail : ρ) (M : zM) (t a : Nat) (i x : Int32) (k : zM → ρ) : ρ := match M.2.2 a with
  | some (.inl (t', n, .inl f)) => if t' = t ∧ z_in i n ∧ (t = 2 → x = 0 ∨ x = 1) then k (z_upd M a (.inl (t', n, .inl (upd f i.toNatClampNeg x)))) else fail
  | _ => fail
def z_jst.{u} {ρ : Sort u} (fail : ρ) (M : zM) (a : Nat) (i : Int32) (x : Int64) (k : zM → ρ) : ρ := match M.2.2 a with
  | some (.inl (t', n, .inr (.inl f))) => if t' = 1 ∧ z_in i n then k (z_upd M a (.inl (t', n, .inr (.inl (vp_updL f i.toNatClampNeg x))))) else fail
  | _ => fail
def z_qst.{u} {ρ : Sort u} (fail : ρ) (M : zM) (a : Nat) (i : Int32) (v : Value) (k : zM → ρ) : ρ := match M.2.2 a with
  | some (.inl (t', n, .inr (.inr (.inr (.inr f))))) => (match v with
    | .null => if 3 ≤ t' ∧ t' < 6 ∧ z_in i n then k (z_upd M a (.inl (t', n, .inr (.inr (.inr (.inr (va_up f i.toNatClampNeg none))))))) else fail
    | .ref q => (match M.2.2 q with
      | some (.inr (ci, _)) => if 3 ≤ t' ∧ t' < 6 ∧ z_in i n ∧ ci = z_elem t' then k (z_upd M a (.inl (t', n, .inr (.inr (.inr (.inr (va_up f i.toNatClampNeg (some q)))))))) else fail
      | _ => fail)
    | _ => fail)
  | _ => fail
def z_len.{u} {ρ : Sort u} (X : zX) (fail : ρ) (M : zM) (a : Nat) (k : Int32 → ρ) : ρ := match z_stat X a with
  | some q => k (Int32.ofNat q.1)
  | none => match M.2.2 a with
    | some (.inl (t, n, _)) => if t < 6 then k (Int32.ofNat n) else fail
    | _ => fail
def z_ar0.{u} {ρ : Sort u} (fail : ρ) (M : zM) (a : Nat) (k : ρ) : ρ := match M.2.2 a with
  | some (.inl (t, _, _)) => if t = 0 then k else fail
  | _ => fail
def z_fld.{u} {ρ : Sort u} (fail : ρ) (M : zM) (a ci j : Nat) (k : Value → ρ) : ρ := match M.2.2 a with
  | some (.inr (ci', fs)) => if ci' = ci then (match fs[j]? with
    | some v => k v
    | none => fail) else fail
  | _ => fail
def z_isI.{u} {ρ : Sort u} (fail : ρ) (v : Value) (k : Int32 → ρ) : ρ := match v with
  | .int x => k x
  | _ => fail
def z_isJ.{u} {ρ : Sort u} (fail : ρ) (v : Value) (k : Int64 → ρ) : ρ := match v with
  | .long x => k x
  | _ => fail
def z_isR.{u} {ρ : Sort u} (fail : ρ) (v : Value) (k : Nat → ρ) : ρ := match v with
  | .ref x => k x
  | _ => fail
def z_fldI.{u} {ρ : Sort u} (fail : ρ) (M : zM) (a ci j : Nat) (k : Int32 → ρ) : ρ := z_fld fail M a ci j (fun v => z_isI fail v k)
def z_fldJ.{u} {ρ : Sort u} (fail : ρ) (M : zM) (a ci j : Nat) (k : Int64 → ρ) : ρ := z_fld fail M a ci j (fun v => z_isJ fail v k)
def z_fldA.{u} {ρ : Sort u} (fail : ρ) (M : zM) (a ci j : Nat) (k : Nat → ρ) : ρ := z_fld fail M a ci j (fun v => z_isR fail v k)
def z_fset.{u} {ρ : Sort u} (fail : ρ) (M : zM) (a ci j : Nat) (v : Value) (k : zM → ρ) : ρ := match M.2.2 a with
  | some (.inr (ci', fs)) => if ci' = ci ∧ j < fs.length then k (z_upd M a (.inr (ci', fs.set j v))) else fail
  | _ => fail
def z_bool.{u} {ρ : Sort u} (fail : ρ) (x : Int32) (k : ρ) : ρ := if x = 0 ∨ x = 1 then k else fail
def z_defs (ci : Nat) : List Value := match ci with
  | 0 => [.null, .int 0, .int 0]
  | 1 => [.null, .null, .int 0, .int 0, .int 0]
  | 2 => [.null, .null, .null, .int 0]
  | 3 => [.null, .null, .null, .int 0, .int 0, .int 0]
  | 4 => [.null, .null, .null, .null, .null, .null, .null, .null, .null, .null, .int 0]
  | 5 => [.null]
  | 6 => [.null, .null, .null, .null, .null, .null, .null, .null, .int 0, .int 0, .int 0]
  | 7 => [.null, .null, .null, .null, .null, .null, .int 0, .int 0, .int 0, .int 0, .int 0]
  | 8 => [.null, .int 0]
  | 9 => [.null, .null, .null, .int 0, .int 0, .int 0]
  | 10 => [.null, .null, .null, .null, .null, .null, .null, .null, .null, .null, .null, .null, .null, .null, .null, .null, .int 0, .int 0, .int 0, .int 0]
  | 11 => [.int 0, .int 0, .null, .null, .null, .null, .null, .null, .int 0, .null, .null, .int 0, .null, .int 0, .int 0, .int 0, .int 0, .long 0, .int 0, .int 0, .int 0, .int 0, .null, .int 0, .null, .null, .int 0, .null, .null, .int 0, .int 0, .null, .null, .null, .int 0, .null, .null, .null, .int 0, .long 0, .int 0, .long 0, .null, .null, .int 0, .null, .null, .int 0, .null, .null, .null, .int 0, .null, .null, .null, .null, .null, .null, .null, .null, .null, .null, .null, .null, .null, .int 0, .int 0, .int 0, .int 0, .long 0, .null, .int 0]
  | _ => []
def z_catS (st : List Value) : Nat := (st.map fun v => v.category).sum
def z_pop.{u} {ρ : Sort u} (fail : ρ) : Nat → List Value → List Value → (List Value → List Value → ρ) → ρ
  | 0, st, acc, k => k acc st
  | n + 1, v :: st, acc, k => z_pop fail n st (v :: acc) k
  | _ + 1, [], _, _ => fail
/-- the receiver of a virtual call is an object of the method's own class -/
def z_obj.{u} {ρ : Sort u} (fail : ρ) (M : zM) (v : Value) (ci : Nat) (k : ρ) : ρ := match v with
  | .ref a => (match M.2.2 a with
    | some (.inr (ci', _)) => if ci' = ci then k else fail
    | _ => fail)
  | _ => fail
def z_sw.{u} {ρ : Sort u} (x : Int32) : List (Int32 × Nat) → Nat → (Nat → ρ) → ρ
  | [], d, k => k d
  | (y, t) :: r, d, k => if x = y then k t else z_sw x r d k
def z_cpy.{u} {ρ : Sort u} (fail : ρ) (M : zM) (a0 : Nat) (sp : Int32) (a : Nat) (dp n : Int32) (k : zM → ρ) : ρ := match M.2.2 a0 with
  | some (.inl (t0, n0, .inl f)) => (match M.2.2 a with
    | some (.inl (t1, n1, .inl g)) => if t0 = 0 ∧ t1 = 0 ∧ 0 ≤ sp ∧ 0 ≤ dp ∧ 0 ≤ n ∧ sp.toNatClampNeg + n.toNatClampNeg ≤ n0 ∧ dp.toNatClampNeg + n.toNatClampNeg ≤ n1 then k (z_upd M a (.inl (t1, n1, .inl (va_cpy f g sp.toNatClampNeg dp.toNatClampNeg n.toNatClampNeg)))) else fail
    | _ => fail)
  | _ => fail
def z_cln.{u} {ρ : Sort u} (fail : ρ) (M : zM) (a : Nat) (k : zM → ρ) : ρ := match M.2.2 a with
  | some (.inl (t, n, .inl f)) => if t = 0 then k (z_new M (.inl (t, n, .inl f))) else fail
  | _ => fail
def z_sm.{u} {ρ : Sort u} (fail : ρ) (r : List Value) (k : ρ) : ρ := match Nat.ble (z_catS r) 8 with
  | true => k
  | false => fail
def z_cp5.{u} {ρ : Sort u} (fail : ρ) (st : List Value) (k : Int32 → Int32 → Nat → Int32 → Nat → List Value → ρ) : ρ := match st with
  | .int n :: .int dp :: .ref a :: .int sp :: .ref a0 :: r => k n dp a sp a0 r
  | _ => fail
def z_str.{u} {ρ : Sort u} (fail : ρ) (a : Nat) (k : ρ) : ρ := match Nat.beq a 3 with
  | true => k
  | false => fail
def z_spec.{u} {ρ : Sort u} (fail : ρ) (k : zC → ρ) (a npc mi : Nat) (L : zL) (st : List Value) (M : zM) : ρ := match a - 9000 with
  | 0 => z_R1 fail st (fun _ r => z_sm fail r (k (mi, npc, L, r, M)))
  | 1 => z_cp5 fail st (fun n dp a sp a0 r => z_sm fail r (z_cpy fail M a0 sp a dp n (fun M' => k (mi, npc, L, r, M'))))
  | 2 => z_R1 fail st (fun a r => z_sm fail r (z_str fail a (k (mi, npc, L, .int (Int32.ofNat z_words.length) :: r, M))))
  | 3 => z_RI fail st (fun a i r => z_sm fail r (z_str fail a (if z_in i z_words.length then k (mi, npc, L, .int (Int32.ofNat (z_words.getD i.toNatClampNeg 0)) :: r, M) else fail)))
  | 4 => z_R1 fail st (fun a r => z_sm fail r (z_cln fail M a (fun M' => k (mi, npc, L, .ref M.1 :: r, M'))))
  | _ => fail
/-- kind 0: static; 1: virtual; 2: special (a constructor) -/
def z_inv.{u} {ρ : Sort u} (fail : ρ) (k : zC → ρ) (call : Nat → List Value → zC → ρ) (kind a b npc mi : Nat) (L : zL) (st : List Value) (M : zM) : ρ :=
  match Nat.ble 9000 a with
  | true => z_spec fail k a npc mi L st M
  | false => z_pop fail b st [] (fun as r => match kind with
    | 0 => z_sm fail r (call a as (mi, npc, L, r, M))
    | _ => z_V1 fail r (fun v r => z_sm fail r (z_obj fail M v (z_cls a) (call a (v :: as) (mi, npc, L, r, M)))))
def z_getf.{u} {ρ : Sort u} (fail : ρ) (M : zM) (val : Value) (o a b : Nat) (k : Value → ρ) : ρ := match val with
  | .int 2 => z_fldJ fail M o a b (fun x => k (.long x))
  | .int 3 => z_fldA fail M o a b (fun x => k (.ref x))
  | _ => z_fldI fail M o a b (fun x => k (.int x))
def z_putf.{u} {ρ : Sort u} (fail : ρ) (M : zM) (val : Value) (o a b : Nat) (v : Value) (k : zM → ρ) : ρ := match val with
  | .int 0 => z_isI fail v (fun x => z_fset fail M o a b (.int x) k)
  | .int 1 => z_isI fail v (fun x => z_bool fail x (z_fset fail M o a b (.int x) k))
  | .int 2 => z_isJ fail v (fun x => z_fset fail M o a b (.long x) k)
  | _ => z_isA fail v (z_fset fail M o a b v k)
/-- one instruction: what comes next -/
def z_step.{u} {ρ : Sort u} (X : zX) (fail : ρ) (k : zC → ρ) (call : Nat → List Value → zC → ρ) (ret : Option Value → zM → ρ) (ins : Instr) (npc a b : Nat) (val : Value) (sw : List (Int32 × Nat)) (mi : Nat) (L : zL) (st : List Value) (M : zM) : ρ :=
  match ins with
  | .iload _ => z_ldI fail L a (fun x => k (mi, npc, L, .int x :: st, M))
  | .iload_n _ => z_ldI fail L a (fun x => k (mi, npc, L, .int x :: st, M))
  | .lload _ => z_ldJ fail L a (fun x => k (mi, npc, L, .long x :: st, M))
  | .lload_n _ => z_ldJ fail L a (fun x => k (mi, npc, L, .long x :: st, M))
  | .aload _ => z_ldA fail L a (fun v => k (mi, npc, L, v :: st, M))
  | .aload_n _ => z_ldA fail L a (fun v => k (mi, npc, L, v :: st, M))
  | .istore _ => z_I1 fail st (fun x r => k (mi, npc, z_st1 L a (.int x), r, M))
  | .istore_n _ => z_I1 fail st (fun x r => k (mi, npc, z_st1 L a (.int x), r, M))
  | .lstore _ => z_J1 fail st (fun x r => k (mi, npc, z_st2 L a (.long x), r, M))
  | .lstore_n _ => z_J1 fail st (fun x r => k (mi, npc, z_st2 L a (.long x), r, M))
  | .astore _ => z_V1 fail st (fun v r => z_isA fail v (k (mi, npc, z_st1 L a v, r, M)))
  | .astore_n _ => z_V1 fail st (fun v r => z_isA fail v (k (mi, npc, z_st1 L a v, r, M)))
  | .iinc _ _ => z_ldI fail L a (fun x => z_isI fail val (fun n => k (mi, npc, z_st1 L a (.int (x + n)), st, M)))
  | .iconst _ => k (mi, npc, L, val :: st, M)
  | .bipush _ => k (mi, npc, L, val :: st, M)
  | .sipush _ => k (mi, npc, L, val :: st, M)
  | .ldc _ => k (mi, npc, L, val :: st, M)
  | .ldc_w _ => k (mi, npc, L, val :: st, M)
  | .lconst _ => k (mi, npc, L, val :: st, M)
  | .ldc2_w _ => k (mi, npc, L, val :: st, M)
  | .aconst_null => k (mi, npc, L, val :: st, M)
  | .getstatic _ => k (mi, npc, L, val :: st, M)
  | .iadd => z_I2 fail st (fun x y r => k (mi, npc, L, .int (x + y) :: r, M))
  | .isub => z_I2 fail st (fun x y r => k (mi, npc, L, .int (x - y) :: r, M))
  | .imul => z_I2 fail st (fun x y r => k (mi, npc, L, .int (x * y) :: r, M))
  | .iand => z_I2 fail st (fun x y r => k (mi, npc, L, .int (x &&& y) :: r, M))
  | .ior => z_I2 fail st (fun x y r => k (mi, npc, L, .int (x ||| y) :: r, M))
  | .ixor => z_I2 fail st (fun x y r => k (mi, npc, L, .int (x ^^^ y) :: r, M))
  | .ishl => z_I2 fail st (fun x y r => k (mi, npc, L, .int (x <<< (y &&& 31)) :: r, M))
  | .ishr => z_I2 fail st (fun x y r => k (mi, npc, L, .int (x >>> (y &&& 31)) :: r, M))
  | .iushr => z_I2 fail st (fun x y r => k (mi, npc, L, .int ((x.toUInt32 >>> (y.toUInt32 &&& Int32.toUInt32 31)).toInt32) :: r, M))
  | .idiv => z_I2 fail st (fun x y r => if y = 0 then fail else k (mi, npc, L, .int (x / y) :: r, M))
  | .irem => z_I2 fail st (fun x y r => if y = 0 then fail else k (mi, npc, L, .int (x - x / y * y) :: r, M))
  | .ineg => z_I1 fail st (fun x r => k (mi, npc, L, .int (-x) :: r, M))
  | .ladd => z_J2 fail st (fun x y r => k (mi, npc, L, .long (x + y) :: r, M))
  | .lsub => z_J2 fail st (fun x y r => k (mi, npc, L, .long (x - y) :: r, M))
  | .lmul => z_J2 fail st (fun x y r => k (mi, npc, L, .long (x * y) :: r, M))
  | .ldiv => z_J2 fail st (fun x y r => if y = 0 then fail else k (mi, npc, L, .long (x / y) :: r, M))
  | .lrem => z_J2 fail st (fun x y r => if y = 0 then fail else k (mi, npc, L, .long (x - x / y * y) :: r, M))
  | .lshl => z_JI fail st (fun x y r => k (mi, npc, L, .long (x <<< (y.toInt64 &&& 63)) :: r, M))
  | .lshr => z_JI fail st (fun x y r => k (mi, npc, L, .long (x >>> (y.toInt64 &&& 63)) :: r, M))
  | .lcmp => z_J2 fail st (fun x y r => k (mi, npc, L, .int (lg_cmp x y) :: r, M))
  | .i2l => z_I1 fail st (fun x r => k (mi, npc, L, .long x.toInt64 :: r, M))
  | .l2i => z_J1 fail st (fun x r => k (mi, npc, L, .int x.toInt32 :: r, M))
  | .dup => z_V1 fail st (fun v r => z_cat1 fail v (k (mi, npc, L, v :: v :: r, M)))
  | .pop => z_V1 fail st (fun v r => z_cat1 fail v (k (mi, npc, L, r, M)))
  | .dup2 => z_RI fail st (fun o i r => k (mi, npc, L, .int i :: .ref o :: .int i :: .ref o :: r, M))
  | .ifCond .eq _ => z_I1 fail st (fun x r => if x = 0 then k (mi, a, L, r, M) else k (mi, npc, L, r, M))
  | .if_icmp .eq _ => z_I2 fail st (fun x y r => if x = y then k (mi, a, L, r, M) else k (mi, npc, L, r, M))
  | .ifCond .lt _ => z_I1 fail st (fun x r => if x < 0 then k (mi, a, L, r, M) else k (mi, npc, L, r, M))
  | .if_icmp .lt _ => z_I2 fail st (fun x y r => if x < y then k (mi, a, L, r, M) else k (mi, npc, L, r, M))
  | .ifCond .ge _ => z_I1 fail st (fun x r => if 0 ≤ x then k (mi, a, L, r, M) else k (mi, npc, L, r, M))
  | .if_icmp .ge _ => z_I2 fail st (fun x y r => if y ≤ x then k (mi, a, L, r, M) else k (mi, npc, L, r, M))
  | .ifCond .gt _ => z_I1 fail st (fun x r => if 0 < x then k (mi, a, L, r, M) else k (mi, npc, L, r, M))
  | .if_icmp .gt _ => z_I2 fail st (fun x y r => if y < x then k (mi, a, L, r, M) else k (mi, npc, L, r, M))
  | .ifCond .le _ => z_I1 fail st (fun x r => if x ≤ 0 then k (mi, a, L, r, M) else k (mi, npc, L, r, M))
  | .if_icmp .le _ => z_I2 fail st (fun x y r => if x ≤ y then k (mi, a, L, r, M) else k (mi, npc, L, r, M))
  | .ifCond .ne _ => z_I1 fail st (fun x r => if x = 0 then k (mi, npc, L, r, M) else k (mi, a, L, r, M))
  | .if_icmp .ne _ => z_I2 fail st (fun x y r => if x = y then k (mi, npc, L, r, M) else k (mi, a, L, r, M))
  | .goto _ => k (mi, a, L, st, M)
  | .ifnull _ => z_V1 fail st (fun v r => z_nul fail v (k (mi, a, L, r, M)) (k (mi, npc, L, r, M)))
  | .ifnonnull _ => z_V1 fail st (fun v r => z_nul fail v (k (mi, npc, L, r, M)) (k (mi, a, L, r, M)))
  | .tableswitch _ _ _ _ => z_I1 fail st (fun x r => z_sw x sw a (fun t => k (mi, t, L, r, M)))
  | .lookupswitch _ _ => z_I1 fail st (fun x r => z_sw x sw a (fun t => k (mi, t, L, r, M)))
  | .getfield _ => z_R1 fail st (fun o r => z_getf fail M val o a b (fun v => k (mi, npc, L, v :: r, M)))
  | .putfield _ => z_V1 fail st (fun v r => z_R1 fail r (fun o r => z_putf fail M val o a b v (fun M => k (mi, npc, L, r, M))))
  | .iaload => z_RI fail st (fun o i r => z_ald X fail M 0 o i (fun x => k (mi, npc, L, .int x :: r, M)))
  | .baload => z_RI fail st (fun o i r => z_ald X fail M 2 o i (fun x => k (mi, npc, L, .int x :: r, M)))
  | .laload => z_RI fail st (fun o i r => z_jld fail M o i (fun x => k (mi, npc, L, .long x :: r, M)))
  | .aaload => z_RI fail st (fun o i r => z_qld fail M o i (k (mi, npc, L, .null :: r, M)) (fun q => k (mi, npc, L, .ref q :: r, M)))
  | .iastore => z_I1 fail st (fun x r => z_RI fail r (fun o i r => z_ast fail M 0 o i x (fun M => k (mi, npc, L, r, M))))
  | .bastore => z_I1 fail st (fun x r => z_RI fail r (fun o i r => z_ast fail M 2 o i x (fun M => k (mi, npc, L, r, M))))
  | .lastore => z_J1 fail st (fun x r => z_RI fail r (fun o i r => z_jst fail M o i x (fun M => k (mi, npc, L, r, M))))
  | .aastore => z_V1 fail st (fun v r => z_RI fail r (fun o i r => z_qst fail M o i v (fun M => k (mi, npc, L, r, M))))
  | .arraylength => z_R1 fail st (fun o r => z_len X fail M o (fun x => k (mi, npc, L, .int x :: r, M)))
  | .new _ => k (mi, npc, L, .ref M.1 :: st, z_new M (.inr (a, z_defs a)))
  | .newarray .int => z_I1 fail st (fun n r => if 0 ≤ n ∧ n ≤ 100000 then k (mi, npc, L, .ref M.1 :: r, z_new M (.inl (0, n.toNatClampNeg, .inl (fun _ => 0)))) else fail)
  | .newarray .boolean => z_I1 fail st (fun n r => if 0 ≤ n ∧ n ≤ 100000 then k (mi, npc, L, .ref M.1 :: r, z_new M (.inl (2, n.toNatClampNeg, .inl (fun _ => 0)))) else fail)
  | .newarray .long => z_I1 fail st (fun n r => if 0 ≤ n ∧ n ≤ 100000 then k (mi, npc, L, .ref M.1 :: r, z_new M (.inl (1, n.toNatClampNeg, .inr (.inl (fun _ => 0))))) else fail)
  | .anewarray _ => z_I1 fail st (fun n r => if 0 ≤ n ∧ n ≤ 100000 then k (mi, npc, L, .ref M.1 :: r, z_new M (.inl (a, n.toNatClampNeg, .inr (.inr (.inr (.inr (fun _ => none))))))) else fail)
  | .checkcast _ => z_R1 fail st (fun o r => z_ar0 fail M o (k (mi, npc, L, .ref o :: r, M)))
  | .invokestatic _ => z_inv fail k call 0 a b npc mi L st M
  | .invokevirtual _ => z_inv fail k call 1 a b npc mi L st M
  | .invokespecial _ => z_inv fail k call 2 a b npc mi L st M
  | .ireturn => z_I1 fail st (fun x r => z_nil fail r (match a with
    | 0 => ret (some (.int x)) M
    | _ => z_bool fail x (ret (some (.int x)) M)))
  | .lreturn => z_J1 fail st (fun x r => z_nil fail r (ret (some (.long x)) M))
  | .areturn => z_V1 fail st (fun v r => z_nil fail r (z_isA fail v (ret (some v) M)))
  | .return_ => z_nil fail st (ret none M)
  | _ => fail
def z_stepc.{u} {ρ : Sort u} (X : zX) (fail : ρ) (k : zC → ρ) (call : Nat → List Value → zC → ρ) (ret : Option Value → zM → ρ) (c : zC) : ρ :=
  match c with
  | (mi, pc, L, st, M) => match zat mi pc with
    | some (ins, npc, a, b, val, sw, _) => z_step X fail k call ret ins npc a b val sw mi L st M
    | none => fail
def z_ent : List Value → zL
  | [] => []
  | .long x :: r => some (.long x) :: none :: z_ent r
  | .double x :: r => some (.double x) :: none :: z_ent r
  | v :: r => some v :: z_ent r
def z_pad : Nat → zL → zL
  | n, [] => List.replicate n none
  | 0, l => l
  | n + 1, x :: r => x :: z_pad n r
def z_maxL (mi : Nat) : Nat := match z_get zmeth mi with
  | some y => y.2.2.2.1
  | none => 0
def z_entry (mi : Nat) (as : List Value) (M : zM) : zC := (mi, 0, z_pad (z_maxL mi) (z_ent as), [], M)
def z_ret (r : zR) (c : zC) : zC := match c with
  | (mi, pc, L, st, _) => (mi, pc, L, r.1.toList ++ st, r.2)
def z_call (f g : zC → Option zR) (mi : Nat) (as : List Value) (c : zC) : Option zR := match f (z_entry mi as c.2.2.2.2) with
  | none => none
  | some r => g (z_ret r c)
def z_run (X : zX) : Nat → Nat → zC → Option zR
  | 0, _, _ => none
  | n + 1, d, c => z_stepc X none (z_run X n d) (fun mi as ck => match d with
    | 0 => none
    | d' + 1 => z_call (z_run X n d') (z_run X n d) mi as ck) (fun v M => some (v, M)) c
end
section
/-! what an instruction does is one of: nothing, go on, call, return -/
abbrev zAct : Type := zC ⊕ (Nat × List Value × zC) ⊕ (Option Value × zM)
def z_fold.{u} {ρ : Sort u} (fail : ρ) (k : zC → ρ) (call : Nat → List Value → zC → ρ) (ret : Option Value → zM → ρ) (a : Option zAct) : ρ := match a with
  | none => fail
  | some (.inl c) => k c
  | some (.inr (.inl q)) => call q.1 q.2.1 q.2.2
  | some (.inr (.inr q)) => ret q.1 q.2
def z_kK (c : zC) : Option zAct := some (.inl c)
def z_kC (m : Nat) (as : List Value) (c : zC) : Option zAct := some (.inr (.inl (m, as, c)))
def z_kR (v : Option Value) (M : zM) : Option zAct := some (.inr (.inr (v, M)))
def z_act (X : zX) (c : zC) : Option zAct := z_stepc X none z_kK z_kC z_kR c
theorem zf_isA.{u} {ρ : Sort u} (φ : Option zAct → ρ) (v : Value) (g0 : Option zAct) : φ (z_isA none v g0) = z_isA (φ none) v (φ g0) := by
  unfold z_isA
  (repeat' split) <;> first | rfl | contradiction
theorem zf_cat1.{u} {ρ : Sort u} (φ : Option zAct → ρ) (v : Value) (g0 : Option zAct) : φ (z_cat1 none v g0) = z_cat1 (φ none) v (φ g0) := by
  unfold z_cat1
  (repeat' split) <;> first | rfl | contradiction
theorem zf_I1.{u} {ρ : Sort u} (φ : Option zAct → ρ) (st : List Value) (g0 : Int32 → List Value → Option zAct) : φ (z_I1 none st g0) = z_I1 (φ none) st (fun x r => φ (g0 x r)) := by
  unfold z_I1
  (repeat' split) <;> first | rfl | contradiction
theorem zf_J1.{u} {ρ : Sort u} (φ : Option zAct → ρ) (st : List Value) (g0 : Int64 → List Value → Option zAct) : φ (z_J1 none st g0) = z_J1 (φ none) st (fun x r => φ (g0 x r)) := by
  unfold z_J1
  (repeat' split) <;> first | rfl | contradiction
theorem zf_I2.{u} {ρ : Sort u} (φ : Option zAct → ρ) (st : List Value) (g0 : Int32 → Int32 → List Value → Option zAct) : φ (z_I2 none st g0) = z_I2 (φ none) st (fun x y r => φ (g0 x y r)) := by
  unfold z_I2
  (repeat' split) <;> first | rfl | contradiction
theorem zf_J2.{u} {ρ : Sort u} (φ : Option zAct → ρ) (st : List Value) (g0 : Int64 → Int64 → List Value → Option zAct) : φ (z_J2 none st g0) = z_J2 (φ none) st (fun x y r => φ (g0 x y r)) := by
  unfold z_J2
  (repeat' split) <;> first | rfl | contradiction
theorem zf_JI.{u} {ρ : Sort u} (φ : Option zAct → ρ) (st : List Value) (g0 : Int64 → Int32 → List Value → Option zAct) : φ (z_JI none st g0) = z_JI (φ none) st (fun x y r => φ (g0 x y r)) := by
  unfold z_JI
  (repeat' split) <;> first | rfl | contradiction
theorem zf_V1.{u} {ρ : Sort u} (φ : Option zAct → ρ) (st : List Value) (g0 : Value → List Value → Option zAct) : φ (z_V1 none st g0) = z_V1 (φ none) st (fun x r => φ (g0 x r)) := by
  unfold z_V1
  (repeat' split) <;> first | rfl | contradiction
theorem zf_R1.{u} {ρ : Sort u} (φ : Option zAct → ρ) (st : List Value) (g0 : Nat → List Value → Option zAct) : φ (z_R1 none st g0) = z_R1 (φ none) st (fun x r => φ (g0 x r)) := by
  unfold z_R1
  (repeat' split) <;> first | rfl | contradiction
theorem zf_RI.{u} {ρ : Sort u} (φ : Option zAct → ρ) (st : List Value) (g0 : Nat → Int32 → List Value → Option zAct) : φ (z_RI none st g0) = z_RI (φ none) st (fun x y r => φ (g0 x y r)) := by
  unfold z_RI
  (repeat' split) <;> first | rfl | contradiction
theorem zf_cp5.{u} {ρ : Sort u} (φ : Option zAct → ρ) (st : List Value) (g0 : Int32 → Int32 → Nat → Int32 → Nat → List Value → Option zAct) : φ (z_cp5 none st g0) = z_cp5 (φ none) st (fun a b c d e f => φ (g0 a b c d e f)) := by
  unfold z_cp5
  (repeat' split) <;> first | rfl | contradiction
theorem zf_ldI.{u} {ρ : Sort u} (φ : Option zAct → ρ) (L : zL) (a : Nat) (g0 : Int32 → Option zAct) : φ (z_ldI none L a g0) = z_ldI (φ none) L a (fun x => φ (g0 x)) := by
  unfold z_ldI
  (repeat' split) <;> first | rfl | contradiction
theorem zf_ldJ.{u} {ρ : Sort u} (φ : Option zAct → ρ) (L : zL) (a : Nat) (g0 : Int64 → Option zAct) : φ (z_ldJ none L a g0) = z_ldJ (φ none) L a (fun x => φ (g0 x)) := by
  unfold z_ldJ
  (repeat' split) <;> first | rfl | contradiction
theorem zf_nul.{u} {ρ : Sort u} (φ : Option zAct → ρ) (v : Value) (g0 : Option zAct) (g1 : Option zAct) : φ (z_nul none v g0 g1) = z_nul (φ none) v (φ g0) (φ g1) := by
  unfold z_nul
  (repeat' split) <;> first | rfl | contradiction
theorem zf_jld.{u} {ρ : Sort u} (φ : Option zAct → ρ) (M : zM) (a : Nat) (i : Int32) (g0 : Int64 → Option zAct) : φ (z_jld none M a i g0) = z_jld (φ none) M a i (fun x => φ (g0 x)) := by
  unfold z_jld
  (repeat' split) <;> first | rfl | contradiction
theorem zf_qld.{u} {ρ : Sort u} (φ : Option zAct → ρ) (M : zM) (a : Nat) (i : Int32) (g0 : Option zAct) (g1 : Nat → Option zAct) : φ (z_qld none M a i g0 g1) = z_qld (φ none) M a i (φ g0) (fun x => φ (g1 x)) := by
  unfold z_qld
  (repeat' split) <;> first | rfl | contradiction
theorem zf_ast.{u} {ρ : Sort u} (φ : Option zAct → ρ) (M : zM) (t a : Nat) (i x : Int32) (g0 : zM → Option zAct) : φ (z_ast none M t a i x g0) = z_ast (φ none) M t a i x (fun m => φ (g0 m)) := by
  unfold z_ast
  (repeat' split) <;> first | rfl | contradiction
theorem zf_jst.{u} {ρ : Sort u} (φ : Option zAct → ρ) (M : zM) (a : Nat) (i : Int32) (x : Int64) (g0 : zM → Option zAct) : φ (z_jst none M a i x g0) = z_jst (φ none) M a i x (fun m => φ (g0 m)) := by
  unfold z_jst
  (repeat' split) <;> first | rfl | contradiction
theorem zf_qst.{u} {ρ : Sort u} (φ : Option zAct → ρ) (M : zM) (a : Nat) (i : Int32) (v : Value) (g0 : zM → Option zAct) : φ (z_qst none M a i v g0) = z_qst (φ none) M a i v (fun m => φ (g0 m)) := by
  unfold z_qst
  (repeat' split) <;> first | rfl | contradiction
theorem zf_fset.{u} {ρ : Sort u} (φ : Option zAct → ρ) (M : zM) (a ci j : Nat) (v : Value) (g0 : zM → Option zAct) : φ (z_fset none M a ci j v g0) = z_fset (φ none) M a ci j v (fun m => φ (g0 m)) := by
  unfold z_fset
  (repeat' split) <;> first | rfl | contradiction
theorem zf_bool.{u} {ρ : Sort u} (φ : Option zAct → ρ) (x : Int32) (g0 : Option zAct) : φ (z_bool none x g0) = z_bool (φ none) x (φ g0) := by
  unfold z_bool
  (repeat' split) <;> first | rfl | contradiction
theorem zf_obj.{u} {ρ : Sort u} (φ : Option zAct → ρ) (M : zM) (v : Value) (ci : Nat) (g0 : Option zAct) : φ (z_obj none M v ci g0) = z_obj (φ none) M v ci (φ g0) := by
  unfold z_obj
  (repeat' split) <;> first | rfl | contradiction
theorem zf_cpy.{u} {ρ : Sort u} (φ : Option zAct → ρ) (M : zM) (a0 : Nat) (sp : Int32) (a : Nat) (dp n : Int32) (g0 : zM → Option zAct) : φ (z_cpy none M a0 sp a dp n g0) = z_cpy (φ none) M a0 sp a dp n (fun m => φ (g0 m)) := by
  unfold z_cpy
  (repeat' split) <;> first | rfl | contradiction
theorem zf_cln.{u} {ρ : Sort u} (φ : Option zAct → ρ) (M : zM) (a : Nat) (g0 : zM → Option zAct) : φ (z_cln none M a g0) = z_cln (φ none) M a (fun m => φ (g0 m)) := by
  unfold z_cln
  (repeat' split) <;> first | rfl | contradiction
theorem zf_ar0.{u} {ρ : Sort u} (φ : Option zAct → ρ) (M : zM) (a : Nat) (g0 : Option zAct) : φ (z_ar0 none M a g0) = z_ar0 (φ none) M a (φ g0) := by
  unfold z_ar0
  (repeat' split) <;> first | rfl | contradiction
theorem zf_nil.{u} {ρ : Sort u} (φ : Option zAct → ρ) (r : List Value) (g0 : Option zAct) : φ (z_nil none r g0) = z_nil (φ none) r (φ g0) := by
  unfold z_nil
  (repeat' split) <;> first | rfl | contradiction
theorem zf_sm.{u} {ρ : Sort u} (φ : Option zAct → ρ) (r : List Value) (g0 : Option zAct) : φ (z_sm none r g0) = z_sm (φ none) r (φ g0) := by
  unfold z_sm
  (repeat' split) <;> first | rfl | contradiction
theorem zf_str.{u} {ρ : Sort u} (φ : Option zAct → ρ) (a : Nat) (g0 : Option zAct) : φ (z_str none a g0) = z_str (φ none) a (φ g0) := by
  unfold z_str
  (repeat' split) <;> first | rfl | contradiction
theorem zf_isI.{u} {ρ : Sort u} (φ : Option zAct → ρ) (v : Value) (g0 : Int32 → Option zAct) : φ (z_isI none v g0) = z_isI (φ none) v (fun x => φ (g0 x)) := by
  unfold z_isI
  (repeat' split) <;> first | rfl | contradiction
theorem zf_isJ.{u} {ρ : Sort u} (φ : Option zAct → ρ) (v : Value) (g0 : Int64 → Option zAct) : φ (z_isJ none v g0) = z_isJ (φ none) v (fun x => φ (g0 x)) := by
  unfold z_isJ
  (repeat' split) <;> first | rfl | contradiction
theorem zf_isR.{u} {ρ : Sort u} (φ : Option zAct → ρ) (v : Value) (g0 : Nat → Option zAct) : φ (z_isR none v g0) = z_isR (φ none) v (fun x => φ (g0 x)) := by
  unfold z_isR
  (repeat' split) <;> first | rfl | contradiction
theorem zf_fld.{u} {ρ : Sort u} (φ : Option zAct → ρ) (M : zM) (a ci j : Nat) (g0 : Value → Option zAct) : φ (z_fld none M a ci j g0) = z_fld (φ none) M a ci j (fun x => φ (g0 x)) := by
  unfold z_fld
  (repeat' split) <;> first | rfl | contradiction
theorem zf_ald.{u} {ρ : Sort u} (φ : Option zAct → ρ) (X : zX) (M : zM) (t a : Nat) (i : Int32) (g : Int32 → Option zAct) : φ (z_ald X none M t a i g) = z_ald X (φ none) M t a i (fun x => φ (g x)) := by
  unfold z_ald
  (repeat' split) <;> first | rfl | contradiction
theorem zf_len.{u} {ρ : Sort u} (φ : Option zAct → ρ) (X : zX) (M : zM) (a : Nat) (g : Int32 → Option zAct) : φ (z_len X none M a g) = z_len X (φ none) M a (fun x => φ (g x)) := by
  unfold z_len
  (repeat' split) <;> first | rfl | contradiction
theorem zf_ldA.{u} {ρ : Sort u} (φ : Option zAct → ρ) (L : zL) (a : Nat) (g : Value → Option zAct) : φ (z_ldA none L a g) = z_ldA (φ none) L a (fun x => φ (g x)) := by
  unfold z_ldA
  split
  · exact zf_isA φ _ _
  · rfl
theorem zf_fldI.{u} {ρ : Sort u} (φ : Option zAct → ρ) (M : zM) (a ci j : Nat) (g : Int32 → Option zAct) : φ (z_fldI none M a ci j g) = z_fldI (φ none) M a ci j (fun x => φ (g x)) := by
  unfold z_fldI
  rw [zf_fld φ]
  simp only [zf_isI φ]
theorem zf_fldJ.{u} {ρ : Sort u} (φ : Option zAct → ρ) (M : zM) (a ci j : Nat) (g : Int64 → Option zAct) : φ (z_fldJ none M a ci j g) = z_fldJ (φ none) M a ci j (fun x => φ (g x)) := by
  unfold z_fldJ
  rw [zf_fld φ]
  simp only [zf_isJ φ]
theorem zf_fldA.{u} {ρ : Sort u} (φ : Option zAct → ρ) (M : zM) (a ci j : Nat) (g : Nat → Option zAct) : φ (z_fldA none M a ci j g) = z_fldA (φ none) M a ci j (fun x => φ (g x)) := by
  unfold z_fldA
  rw [zf_fld φ]
  simp only [zf_isR φ]
theorem zf_pop.{u} {ρ : Sort u} (φ : Option zAct → ρ) (n : Nat) : ∀ (st acc : List Value) (g : List Value → List Value → Option zAct), φ (z_pop none n st acc g) = z_pop (φ none) n st acc (fun x r => φ (g x r)) := by
  induction n with
  | zero => intro st acc g; rfl
  | succ n ih =>
    intro st acc g
    cases st with
    | nil => rfl
    | cons v st => exact ih st (v :: acc) g
theorem zf_sw.{u} {ρ : Sort u} (φ : Option zAct → ρ) (x : Int32) (d : Nat) (g : Nat → Option zAct) : ∀ sw : List (Int32 × Nat), φ (z_sw x sw d g) = z_sw x sw d (fun t => φ (g t)) := by
  intro sw
  induction sw with
  | nil => rfl
  | cons q r ih =>
    obtain ⟨y, t⟩ := q
    show φ (if x = y then g t else z_sw x r d g) = if x = y then φ (g t) else z_sw x r d (fun t => φ (g t))
    split
    · rfl
    · exact ih
theorem zf_getf.{u} {ρ : Sort u} (φ : Option zAct → ρ) (M : zM) (val : Value) (o a b : Nat) (g : Value → Option zAct) : φ (z_getf none M val o a b g) = z_getf (φ none) M val o a b (fun x => φ (g x)) := by
  unfold z_getf
  split
  · exact zf_fldJ φ M o a b _
  · exact zf_fldA φ M o a b _
  · exact zf_fldI φ M o a b _
theorem zf_putf.{u} {ρ : Sort u} (φ : Option zAct → ρ) (M : zM) (val : Value) (o a b : Nat) (v : Value) (g : zM → Option zAct) : φ (z_putf none M val o a b v g) = z_putf (φ none) M val o a b v (fun x => φ (g x)) := by
  unfold z_putf
  split
  · rw [zf_isI φ]; simp only [zf_fset φ]
  · rw [zf_isI φ]; simp only [zf_bool φ, zf_fset φ]
  · rw [zf_isJ φ]; simp only [zf_fset φ]
  · rw [zf_isA φ]; simp only [zf_fset φ]
theorem zf_ite.{u} {ρ : Sort u} (φ : Option zAct → ρ) (c : Prop) [Decidable c] (a b : Option zAct) : φ (if c then a else b) = if c then φ a else φ b := by
  split <;> rfl
section
variable {X : zX}
theorem zf_spec.{u} {ρ : Sort u} (fail : ρ) (k : zC → ρ) (call : Nat → List Value → zC → ρ) (ret : Option Value → zM → ρ) (a npc mi : Nat) (L : zL) (st : List Value) (M : zM) : z_spec fail k a npc mi L st M = z_fold fail k call ret (z_spec none z_kK a npc mi L st M) := by
  unfold z_spec
  split <;> first | rfl | (simp only [zf_isA (z_fold fail k call ret), zf_cat1 (z_fold fail k call ret), zf_I1 (z_fold fail k call ret), zf_J1 (z_fold fail k call ret), zf_I2 (z_fold fail k call ret), zf_J2 (z_fold fail k call ret), zf_JI (z_fold fail k call ret), zf_V1 (z_fold fail k call ret), zf_R1 (z_fold fail k call ret), zf_RI (z_fold fail k call ret), zf_cp5 (z_fold fail k call ret), zf_ldI (z_fold fail k call ret), zf_ldJ (z_fold fail k call ret), zf_nul (z_fold fail k call ret), zf_jld (z_fold fail k call ret), zf_qld (z_fold fail k call ret), zf_ast (z_fold fail k call ret), zf_jst (z_fold fail k call ret), zf_qst (z_fold fail k call ret), zf_fset (z_fold fail k call ret), zf_bool (z_fold fail k call ret), zf_obj (z_fold fail k call ret), zf_cpy (z_fold fail k call ret), zf_cln (z_fold fail k call ret), zf_ar0 (z_fold fail k call ret), zf_nil (z_fold fail k call ret), zf_sm (z_fold fail k call ret), zf_str (z_fold fail k call ret), zf_isI (z_fold fail k call ret), zf_isJ (z_fold fail k call ret), zf_isR (z_fold fail k call ret), zf_fld (z_fold fail k call ret), zf_ald (z_fold fail k call ret), zf_len (z_fold fail k call ret), zf_ldA (z_fold fail k call ret), zf_pop (z_fold fail k call ret), zf_sw (z_fold fail k call ret), zf_getf (z_fold fail k call ret), zf_putf (z_fold fail k call ret), zf_ite (z_fold fail k call ret)]; rfl)
theorem zf_inv.{u} {ρ : Sort u} (fail : ρ) (k : zC → ρ) (call : Nat → List Value → zC → ρ) (ret : Option Value → zM → ρ) (kind a b npc mi : Nat) (L : zL) (st : List Value) (M : zM) : z_inv fail k call kind a b npc mi L st M = z_fold fail k call ret (z_inv none z_kK z_kC kind a b npc mi L st M) := by
  unfold z_inv
  split
  · exact zf_spec fail k call ret a npc mi L st M
  · rw [zf_pop (z_fold fail k call ret)]
    congr 1
    funext as r
    split
    · rw [zf_sm (z_fold fail k call ret)]; rfl
    · simp only [zf_V1 (z_fold fail k call ret), zf_sm (z_fold fail k call ret), zf_obj (z_fold fail k call ret)]; rfl
set_option maxHeartbeats 4000000 in
theorem z_step_param.{u} {ρ : Sort u} (fail : ρ) (k : zC → ρ) (call : Nat → List Value → zC → ρ) (ret : Option Value → zM → ρ) (ins : Instr) (npc a b : Nat) (val : Value) (sw : List (Int32 × Nat)) (mi : Nat) (L : zL) (st : List Value) (M : zM) : z_step X fail k call ret ins npc a b val sw mi L st M = z_fold fail k call ret (z_step X none z_kK z_kC z_kR ins npc a b val sw mi L st M) := by
  unfold z_step
  split
  all_goals first
    | rfl
    | exact zf_inv fail k call ret _ _ _ _ _ _ _ _
    | (simp only [zf_isA (z_fold fail k call ret), zf_cat1 (z_fold fail k call ret), zf_I1 (z_fold fail k call ret), zf_J1 (z_fold fail k call ret), zf_I2 (z_fold fail k call ret), zf_J2 (z_fold fail k call ret), zf_JI (z_fold fail k call ret), zf_V1 (z_fold fail k call ret), zf_R1 (z_fold fail k call ret), zf_RI (z_fold fail k call ret), zf_cp5 (z_fold fail k call ret), zf_ldI (z_fold fail k call ret), zf_ldJ (z_fold fail k call ret), zf_nul (z_fold fail k call ret), zf_jld (z_fold fail k call ret), zf_qld (z_fold fail k call ret), zf_ast (z_fold fail k call ret), zf_jst (z_fold fail k call ret), zf_qst (z_fold fail k call ret), zf_fset (z_fold fail k call ret), zf_bool (z_fold fail k call ret), zf_obj (z_fold fail k call ret), zf_cpy (z_fold fail k call ret), zf_cln (z_fold fail k call ret), zf_ar0 (z_fold fail k call ret), zf_nil (z_fold fail k call ret), zf_sm (z_fold fail k call ret), zf_str (z_fold fail k call ret), zf_isI (z_fold fail k call ret), zf_isJ (z_fold fail k call ret), zf_isR (z_fold fail k call ret), zf_fld (z_fold fail k call ret), zf_ald (z_fold fail k call ret), zf_len (z_fold fail k call ret), zf_ldA (z_fold fail k call ret), zf_pop (z_fold fail k call ret), zf_sw (z_fold fail k call ret), zf_getf (z_fold fail k call ret), zf_putf (z_fold fail k call ret), zf_ite (z_fold fail k call ret)]; done)
    | (simp only [zf_isA (z_fold fail k call ret), zf_cat1 (z_fold fail k call ret), zf_I1 (z_fold fail k call ret), zf_J1 (z_fold fail k call ret), zf_I2 (z_fold fail k call ret), zf_J2 (z_fold fail k call ret), zf_JI (z_fold fail k call ret), zf_V1 (z_fold fail k call ret), zf_R1 (z_fold fail k call ret), zf_RI (z_fold fail k call ret), zf_cp5 (z_fold fail k call ret), zf_ldI (z_fold fail k call ret), zf_ldJ (z_fold fail k call ret), zf_nul (z_fold fail k call ret), zf_jld (z_fold fail k call ret), zf_qld (z_fold fail k call ret), zf_ast (z_fold fail k call ret), zf_jst (z_fold fail k call ret), zf_qst (z_fold fail k call ret), zf_fset (z_fold fail k call ret), zf_bool (z_fold fail k call ret), zf_obj (z_fold fail k call ret), zf_cpy (z_fold fail k call ret), zf_cln (z_fold fail k call ret), zf_ar0 (z_fold fail k call ret), zf_nil (z_fold fail k call ret), zf_sm (z_fold fail k call ret), zf_str (z_fold fail k call ret), zf_isI (z_fold fail k call ret), zf_isJ (z_fold fail k call ret), zf_isR (z_fold fail k call ret), zf_fld (z_fold fail k call ret), zf_ald (z_fold fail k call ret), zf_len (z_fold fail k call ret), zf_ldA (z_fold fail k call ret), zf_pop (z_fold fail k call ret), zf_sw (z_fold fail k call ret), zf_getf (z_fold fail k call ret), zf_putf (z_fold fail k call ret), zf_ite (z_fold fail k call ret)]; rfl)
    | (simp only [zf_I1 (z_fold fail k call ret), zf_nil (z_fold fail k call ret)]; congr 1; funext x r; congr 1; split <;> first | rfl | (rw [zf_bool (z_fold fail k call ret)]; rfl))
theorem z_param.{u} {ρ : Sort u} (fail : ρ) (k : zC → ρ) (call : Nat → List Value → zC → ρ) (ret : Option Value → zM → ρ) (c : zC) : z_stepc X fail k call ret c = z_fold fail k call ret (z_act X c) := by
  obtain ⟨mi, pc, L, st, M⟩ := c
  unfold z_act z_stepc
  dsimp only
  split
  · exact z_step_param _ _ _ _ _ _ _ _ _ _ _ _ _ _
  · rfl
end
/-! more steps, and the limit -/
theorem z_run_succ (X : zX) (n d : Nat) (c : zC) : z_run X (n + 1) d c = z_fold none (z_run X n d) (fun mi as ck => match d with
    | 0 => none
    | d' + 1 => z_call (z_run X n d') (z_run X n d) mi as ck) (fun v M => some (v, M)) (z_act X c) := z_param _ _ _ _ _
theorem z_run_mono (X : zX) : ∀ (n d : Nat) (c : zC) (r : zR), z_run X n d c = some r → z_run X (n + 1) d c = some r := by
  intro n
  induction n with
  | zero => intro d c r h; cases h
  | succ n ih =>
    intro d c r h
    rw [z_run_succ] at h ⊢
    revert h
    match z_act X c with
    | none => intro h; cases h
    | some (.inl c') => intro h; exact ih d c' r h
    | some (.inr (.inr q)) => intro h; exact h
    | some (.inr (.inl q)) =>
      match d with
      | 0 => intro h; cases h
      | d' + 1 =>
        show z_call _ _ q.1 q.2.1 q.2.2 = some r → z_call _ _ q.1 q.2.1 q.2.2 = some r
        unfold z_call
        intro h
        cases h1 : z_run X n d' (z_entry q.1 q.2.1 q.2.2.2.2.2.2) with
        | none => rw [h1] at h; cases h
        | some r1 =>
          rw [h1] at h
          rw [ih d' _ r1 h1]
          exact ih (d' + 1) _ r h
theorem z_run_le (X : zX) {n m d : Nat} {c : zC} {r : zR} (h : n ≤ m) (hr : z_run X n d c = some r) : z_run X m d c = some r := by
  induction m with
  | zero => cases Nat.le_zero.mp h; exact hr
  | succ m ih =>
    rcases Nat.lt_or_ge n (m + 1) with q | q
    · exact z_run_mono X m d c r (ih (Nat.le_of_lt_succ q))
    · cases Nat.le_antisymm h q; exact hr
noncomputable def z_ev (X : zX) (d : Nat) (c : zC) : Option zR := @dite _ (∃ (n : Nat) (r : zR), z_run X n d c = some r) (Classical.propDecidable _) (fun h => some h.choose_spec.choose) (fun _ => none)
theorem z_ev_iff (X : zX) (d : Nat) (c : zC) (r : zR) : z_ev X d c = some r ↔ ∃ n, z_run X n d c = some r := by
  unfold z_ev
  constructor
  · intro h
    split at h
    · next hh =>
      have h2 := hh.choose_spec.choose_spec
      exact ⟨hh.choose, by rw [h2]; exact congrArg some (Option.some.inj h)⟩
    · cases h
  · intro ⟨n, hn⟩
    have hh : ∃ (n : Nat) (r : zR), z_run X n d c = some r := ⟨n, r, hn⟩
    rw [dif_pos hh]
    have h2 := hh.choose_spec.choose_spec
    have h3 := z_run_le X (Nat.le_max_left n hh.choose) hn
    have h4 := z_run_le X (Nat.le_max_right n hh.choose) h2
    rw [h3] at h4
    exact h4.symm
theorem z_opt_ext {α : Type} {a b : Option α} (h : ∀ r, a = some r ↔ b = some r) : a = b := by
  cases a with
  | none =>
    cases b with
    | none => rfl
    | some y => exact absurd ((h y).mpr rfl) (by simp)
  | some x => exact ((h x).mp rfl).symm
/-- a call, over the limit -/
noncomputable def z_evc (X : zX) (d : Nat) (mi : Nat) (as : List Value) (ck : zC) : Option zR := match d with
  | 0 => none
  | d' + 1 => z_call (z_ev X d') (z_ev X d) mi as ck
def z_rt (v : Option Value) (M : zM) : Option zR := some (v, M)
theorem z_ev_step (X : zX) (d : Nat) (c : zC) : z_ev X d c = z_stepc X none (z_ev X d) (z_evc X d) z_rt c := by
  rw [z_param]
  apply z_opt_ext
  intro r
  rw [z_ev_iff]
  constructor
  · intro ⟨n, hn⟩
    cases n with
    | zero => cases hn
    | succ n =>
      rw [z_run_succ] at hn
      revert hn
      match z_act X c with
      | none => intro h; cases h
      | some (.inl c') => intro h; exact (z_ev_iff X d c' r).mpr ⟨n, h⟩
      | some (.inr (.inr q)) => intro h; exact h
      | some (.inr (.inl q)) =>
        match d with
        | 0 => intro h; cases h
        | d' + 1 =>
          show z_call _ _ q.1 q.2.1 q.2.2 = some r → z_call _ _ q.1 q.2.1 q.2.2 = some r
          unfold z_call
          intro h
          cases h1 : z_run X n d' (z_entry q.1 q.2.1 q.2.2.2.2.2.2) with
          | none => rw [h1] at h; cases h
          | some r1 =>
            rw [h1] at h
            rw [(z_ev_iff X d' _ r1).mpr ⟨n, h1⟩]
            exact (z_ev_iff X (d' + 1) _ r).mpr ⟨n, h⟩
  · intro h
    suffices hh : ∃ n, z_run X (n + 1) d c = some r by
      obtain ⟨n, hn⟩ := hh
      exact ⟨n + 1, hn⟩
    have e : ∀ n, z_run X (n + 1) d c = _ := fun n => z_run_succ X n d c
    revert h e
    match z_act X c with
    | none => intro h; cases h
    | some (.inl c') =>
      intro h e
      obtain ⟨n, hn⟩ := (z_ev_iff X d c' r).mp h
      exact ⟨n, (e n).trans hn⟩
    | some (.inr (.inr q)) => intro h e; exact ⟨0, (e 0).trans h⟩
    | some (.inr (.inl q)) =>
      match d with
      | 0 => intro h; cases h
      | d' + 1 =>
        intro h e
        have h : z_call (z_ev X d') (z_ev X (d' + 1)) q.1 q.2.1 q.2.2 = some r := h
        unfold z_call at h
        cases h1 : z_ev X d' (z_entry q.1 q.2.1 q.2.2.2.2.2.2) with
        | none => rw [h1] at h; cases h
        | some r1 =>
          rw [h1] at h
          obtain ⟨n1, hn1⟩ := (z_ev_iff X d' _ r1).mp h1
          obtain ⟨n2, hn2⟩ := (z_ev_iff X (d' + 1) _ r).mp h
          refine ⟨max n1 n2, (e _).trans ?_⟩
          show z_call _ _ q.1 q.2.1 q.2.2 = some r
          unfold z_call
          rw [z_run_le X (Nat.le_max_left n1 n2) hn1]
          exact z_run_le X (Nat.le_max_right n1 n2) hn2
/-- some steps at once -/
noncomputable def z_evs (X : zX) (d : Nat) : Nat → zC → Option zR
  | 0, c => z_ev X d c
  | n + 1, c => z_stepc X none (z_evs X d n) (z_evc X d) z_rt c
theorem z_ev_steps (X : zX) (d n : Nat) (c : zC) : z_ev X d c = z_evs X d n c := by
  induction n generalizing c with
  | zero => rfl
  | succ n ih =>
    rw [z_ev_step]
    show _ = z_stepc X none (z_evs X d n) (z_evc X d) z_rt c
    rw [show z_evs X d n = z_ev X d from funext fun c => (ih c).symm]
end
section
/-! the interpreter's memory and the machine's heap -/
def z_ad (b : Nat) (sa : Nat → Nat) (i : Nat) : Nat := if i < 4 then sa i else b + (i - 4)
def z_tv (b : Nat) (sa : Nat → Nat) (v : Value) : Value := match v with
  | .ref i => .ref (z_ad b sa i)
  | v => v
def z_ta (b : Nat) (sa : Nat → Nat) (x : (Nat → Int32) ⊕ (Nat → Int64) ⊕ (Nat → UInt32) ⊕ (Nat → UInt64) ⊕ (Nat → Option Nat)) : (Nat → Int32) ⊕ (Nat → Int64) ⊕ (Nat → UInt32) ⊕ (Nat → UInt64) ⊕ (Nat → Option Nat) := match x with
  | .inr (.inr (.inr (.inr f))) => .inr (.inr (.inr (.inr (fun i => (f i).map (z_ad b sa)))))
  | x => x
def z_te (b : Nat) (sa : Nat → Nat) (cA : ClassId) (e : va_E) : va_E := match e with
  | .inl (_, n, x) => .inl (cA, n, z_ta b sa x)
  | .inr (ci, fs) => .inr (ci, fs.map (z_tv b sa))
def z_tc (b : Nat) (sa : Nat → Nat) (cs : Nat → ClassId) (M : zM) (i : Nat) : va_E := match M.2.2 i with
  | some e => z_te b sa (cs i) e
  | none => .inr (0, [])
def z_ws (b : Nat) (sa : Nat → Nat) (cs : Nat → ClassId) (M : zM) : va_W := (List.range (M.1 - 4)).map (fun j => (b + j, z_tc b sa cs M (j + 4)))
def z_fty (t : Nat) : FieldType := match t with
  | 0 => .int
  | 1 => .long
  | 2 => .boolean
  | 3 => .object "ScansionDesk$Metre"
  | 4 => .object "ScansionDesk$Clauses"
  | _ => .object "ScansionDesk$State"
def z_wf (M : zM) : Prop := 4 ≤ M.1 ∧ ∀ i, (M.2.2 i).isSome = true ↔ 4 ≤ i ∧ i < M.1
theorem z_ad_ge {b : Nat} {sa : Nat → Nat} {i : Nat} (h : 4 ≤ i) : z_ad b sa i = b + (i - 4) := if_neg (by omega)
theorem z_ws_len (b : Nat) (sa : Nat → Nat) (cs : Nat → ClassId) (M : zM) : (z_ws b sa cs M).length = M.1 - 4 := by simp [z_ws]
theorem z_ws_at (b : Nat) (sa : Nat → Nat) (cs : Nat → ClassId) (M : zM) (j : Nat) : (z_ws b sa cs M)[j]? = if j < M.1 - 4 then some (b + j, z_tc b sa cs M (j + 4)) else none := by
  unfold z_ws
  rw [List.getElem?_map]
  split
  · next h => rw [List.getElem?_range h]; rfl
  · next h => rw [List.getElem?_eq_none (by simpa using h)]; rfl
theorem z_wf.lt {M : zM} (h : z_wf M) {i : Nat} {e : va_E} (hi : M.2.2 i = some e) : 4 ≤ i ∧ i < M.1 := (h.2 i).mp (by rw [hi]; rfl)
theorem z_ws_get {b : Nat} {sa : Nat → Nat} {cs : Nat → ClassId} {M : zM} (h : z_wf M) {i : Nat} {e : va_E} (hi : M.2.2 i = some e) : (z_ws b sa cs M)[i - 4]? = some (z_ad b sa i, z_te b sa (cs i) e) := by
  obtain ⟨h1, h2⟩ := h.lt hi
  rw [z_ws_at, if_pos (by omega), z_ad_ge h1]
  have : i - 4 + 4 = i := by omega
  rw [this, z_tc, hi]
theorem z_wf.upd {M : zM} (h : z_wf M) {i : Nat} {e e' : va_E} (hi : M.2.2 i = some e) : z_wf (z_upd M i e') := by
  obtain ⟨h1, h2⟩ := h.lt hi
  refine ⟨h.1, fun j => ?_⟩
  show ((va_up M.2.2 i (some e')) j).isSome = true ↔ _
  unfold va_up
  split
  · next q => subst q; exact ⟨fun _ => ⟨h1, h2⟩, fun _ => rfl⟩
  · exact h.2 j
theorem z_wf.new {M : zM} (h : z_wf M) (e : va_E) : z_wf (z_new M e) := by
  refine ⟨Nat.le_succ_of_le h.1, fun j => ?_⟩
  have := h.1
  show ((va_up M.2.2 M.1 (some e)) j).isSome = true ↔ 4 ≤ j ∧ j < M.1 + 1
  unfold va_up
  split
  · next q => subst q; exact ⟨fun _ => ⟨h.1, Nat.lt_succ_self _⟩, fun _ => rfl⟩
  · next q => rw [h.2 j]; constructor <;> intro ⟨a1, a2⟩ <;> exact ⟨a1, by omega⟩
theorem z_ws_upd {b : Nat} {sa : Nat → Nat} {cs : Nat → ClassId} {M : zM} (h : z_wf M) {i : Nat} {e e' : va_E} (hi : M.2.2 i = some e) : z_ws b sa cs (z_upd M i e') = (z_ws b sa cs M).set (i - 4) (z_ad b sa i, z_te b sa (cs i) e') := by
  obtain ⟨h1, h2⟩ := h.lt hi
  apply List.ext_getElem?
  intro j
  rw [z_ws_at, List.getElem?_set, z_ws_len, z_ws_at]
  show (if j < M.1 - 4 then _ else _) = _
  by_cases hj : i - 4 = j
  · subst hj
    rw [if_pos (by omega), if_pos rfl, if_pos (by omega), z_ad_ge h1]
    have : i - 4 + 4 = i := by omega
    rw [this, z_tc]
    show some (b + (i - 4), match va_up M.2.2 i (some e') i with | some e => _ | none => _) = _
    rw [va_up, if_pos rfl]
  · rw [if_neg hj]
    split
    · congr 2
      show (match va_up M.2.2 i (some e') (j + 4) with | some e => _ | none => _) = z_tc b sa cs M (j + 4)
      rw [va_up, if_neg (by omega)]
      rfl
    · rfl
theorem z_ws_new {b : Nat} {sa : Nat → Nat} {cs : Nat → ClassId} {M : zM} (h : z_wf M) (e : va_E) (cA : ClassId) : z_ws b sa (va_up cs M.1 cA) (z_new M e) = z_ws b sa cs M ++ [(z_ad b sa M.1, z_te b sa cA e)] := by
  have h0 := h.1
  apply List.ext_getElem?
  intro j
  rw [z_ws_at, List.getElem?_append, z_ws_len, z_ws_at]
  show (if j < M.1 + 1 - 4 then _ else _) = _
  by_cases hj : j < M.1 - 4
  · rw [if_pos (by omega), if_pos hj, if_pos hj]
    congr 2
    show (match va_up M.2.2 M.1 (some e) (j + 4) with | some e => z_te b sa (va_up cs M.1 cA (j + 4)) e | none => _) = z_tc b sa cs M (j + 4)
    rw [va_up, if_neg (by omega), va_up, if_neg (by omega)]
    rfl
  · rw [if_neg hj]
    by_cases hj2 : j = M.1 - 4
    · subst hj2
      rw [if_pos (by omega), z_ad_ge h0]
      have : M.1 - 4 + 4 = M.1 := by omega
      rw [this, z_tc]
      show some (b + (M.1 - 4), match va_up M.2.2 M.1 (some e) M.1 with | some e => z_te b sa (va_up cs M.1 cA M.1) e | none => _) = _
      rw [va_up, if_pos rfl, va_up, if_pos rfl]
      simp
    · rw [if_neg (by omega)]
      rw [List.getElem?_eq_none (by simp; omega)]
theorem z_ws_cs {b : Nat} {sa : Nat → Nat} {cs cs' : Nat → ClassId} {M : zM} (h : ∀ i, i < M.1 → cs' i = cs i) : z_ws b sa cs' M = z_ws b sa cs M := by
  apply List.ext_getElem?
  intro j
  rw [z_ws_at, z_ws_at]
  split
  · next q => rw [z_tc, z_tc, h (j + 4) (by omega)]
  · rfl
/-- what the machine's heap is, of a method that began at s -/
def zH (D : va_G) (b : Nat) (sa : Nat → Nat) (s : State) (M : zM) (H : Heap) (locs : List Loc) : Prop :=
  z_wf M ∧ ∃ (cs : Nat → ClassId) (tys : List (ClassId × FieldType)), va_K D vwCl tys s ∧ va_P D vwCl (z_ws b sa cs M) H ∧ va_D (fun q => b ≤ q) (z_ws b sa cs M) ∧ va_S (fun q => b ≤ q) s.heap H locs ∧ ∀ i t n x, M.2.2 i = some (.inl (t, n, x)) → ∃ t0 : Nat, tys[t0]? = some (cs i, z_fty t)
/-- the locals -/
def zLs (b : Nat) (sa : Nat → Nat) (nL : Nat) (L : zL) (ls : Array Slot) : Prop := ls.size = nL ∧ lv_wf ls ∧ ∀ i v, z_get L i = some (some v) → ls[i]? = some (.val (z_tv b sa v))
/-- the locals as the kit lists them -/
def z_lv (b : Nat) (sa : Nat → Nat) : Nat → zL → List (Nat × Value)
  | _, [] => []
  | i, some v :: r => (i, z_tv b sa v) :: z_lv b sa (i + 1) r
  | i, none :: r => z_lv b sa (i + 1) r
theorem z_lv_mem {b : Nat} {sa : Nat → Nat} : ∀ (L : zL) (k : Nat) (q : Nat × Value), q ∈ z_lv b sa k L ↔ ∃ i v, z_get L i = some (some v) ∧ q = (k + i, z_tv b sa v) := by
  intro L
  induction L with
  | nil => intro k q; constructor
           · intro h; cases h
           · rintro ⟨i, v, h, -⟩; cases h
  | cons x r ih =>
    intro k q
    have key : (∃ i v, z_get r i = some (some v) ∧ q = (k + 1 + i, z_tv b sa v)) → ∃ i v, z_get (x :: r) i = some (some v) ∧ q = (k + i, z_tv b sa v) := by
      rintro ⟨i, v, h, e⟩
      exact ⟨i + 1, v, h, by rw [e]; congr 1; omega⟩
    cases x with
    | none =>
      show q ∈ z_lv b sa (k + 1) r ↔ _
      rw [ih]
      refine ⟨key, ?_⟩
      rintro ⟨i, v, h, e⟩
      cases i with
      | zero => cases h
      | succ i => exact ⟨i, v, h, by rw [e]; congr 1; omega⟩
    | some w =>
      show q ∈ (k, z_tv b sa w) :: z_lv b sa (k + 1) r ↔ _
      rw [List.mem_cons, ih]
      constructor
      · rintro (h | h)
        · exact ⟨0, w, rfl, h⟩
        · exact key h
      · rintro ⟨i, v, h, e⟩
        cases i with
        | zero => cases h; exact Or.inl e
        | succ i => exact Or.inr ⟨i, v, h, by rw [e]; congr 1; omega⟩
theorem zLs.has {b : Nat} {sa : Nat → Nat} {nL : Nat} {L : zL} {ls : Array Slot} (h : zLs b sa nL L ls) : lv_has ls nL (z_lv b sa 0 L) := by
  refine ⟨h.1, h.2.1, fun q hq => ?_⟩
  obtain ⟨i, v, h1, rfl⟩ := (z_lv_mem L 0 q).mp hq
  rw [Nat.zero_add]
  exact h.2.2 i v h1
theorem z_get_lset : ∀ (L : zL) (i j : Nat) (v : Option Value), z_get (z_lset L i v) j = if j = i ∧ j < L.length then some v else z_get L j := by
  intro L
  induction L with
  | nil => intro i j v; simp [z_lset, z_get]
  | cons x r ih =>
    intro i j v
    cases i with
    | zero =>
      cases j with
      | zero => simp [z_lset, z_get]
      | succ j => simp [z_lset, z_get]
    | succ i =>
      cases j with
      | zero => simp [z_lset, z_get]
      | succ j => simp only [z_lset, z_get, ih, List.length_cons]; congr 1; simp
theorem z_get_lt : ∀ (L : zL) (i : Nat) (x : Option Value), z_get L i = some x → i < L.length := by
  intro L
  induction L with
  | nil => intro i x h; cases h
  | cons y r ih =>
    intro i x h
    cases i with
    | zero => simp
    | succ i => have := ih i x h; simp; omega
theorem z_tv_cat (b : Nat) (sa : Nat → Nat) (v : Value) : (z_tv b sa v).category = v.category := by cases v <;> rfl
end
section
theorem p_I1 {st : List Value} {g : Int32 → List Value → Prop} (h : z_I1 False st g) : ∃ x r, st = .int x :: r ∧ g x r := by
  unfold z_I1 at h
  split at h
  · exact ⟨_, _, rfl, h⟩
  · exact h.elim
theorem p_I2 {st : List Value} {g : Int32 → Int32 → List Value → Prop} (h : z_I2 False st g) : ∃ x y r, st = .int y :: .int x :: r ∧ g x y r := by
  unfold z_I2 at h
  split at h
  · exact ⟨_, _, _, rfl, h⟩
  · exact h.elim
theorem p_J1 {st : List Value} {g : Int64 → List Value → Prop} (h : z_J1 False st g) : ∃ x r, st = .long x :: r ∧ g x r := by
  unfold z_J1 at h
  split at h
  · exact ⟨_, _, rfl, h⟩
  · exact h.elim
theorem p_J2 {st : List Value} {g : Int64 → Int64 → List Value → Prop} (h : z_J2 False st g) : ∃ x y r, st = .long y :: .long x :: r ∧ g x y r := by
  unfold z_J2 at h
  split at h
  · exact ⟨_, _, _, rfl, h⟩
  · exact h.elim
theorem p_JI {st : List Value} {g : Int64 → Int32 → List Value → Prop} (h : z_JI False st g) : ∃ x y r, st = .int y :: .long x :: r ∧ g x y r := by
  unfold z_JI at h
  split at h
  · exact ⟨_, _, _, rfl, h⟩
  · exact h.elim
theorem p_V1 {st : List Value} {g : Value → List Value → Prop} (h : z_V1 False st g) : ∃ x r, st = x :: r ∧ g x r := by
  unfold z_V1 at h
  split at h
  · exact ⟨_, _, rfl, h⟩
  · exact h.elim
theorem p_R1 {st : List Value} {g : Nat → List Value → Prop} (h : z_R1 False st g) : ∃ x r, st = .ref x :: r ∧ g x r := by
  unfold z_R1 at h
  split at h
  · exact ⟨_, _, rfl, h⟩
  · exact h.elim
theorem p_RI {st : List Value} {g : Nat → Int32 → List Value → Prop} (h : z_RI False st g) : ∃ x y r, st = .int y :: .ref x :: r ∧ g x y r := by
  unfold z_RI at h
  split at h
  · exact ⟨_, _, _, rfl, h⟩
  · exact h.elim
theorem p_cp5 {st : List Value} {g : Int32 → Int32 → Nat → Int32 → Nat → List Value → Prop} (h : z_cp5 False st g) : ∃ n dp a sp a0 r, st = .int n :: .int dp :: .ref a :: .int sp :: .ref a0 :: r ∧ g n dp a sp a0 r := by
  unfold z_cp5 at h
  split at h
  · exact ⟨_, _, _, _, _, _, rfl, h⟩
  · exact h.elim
theorem p_nil {st : List Value} {g : Prop} (h : z_nil False st g) : st = [] ∧ g := by
  unfold z_nil at h
  split at h
  · exact ⟨rfl, h⟩
  · exact h.elim
theorem p_isI {v : Value} {g : Int32 → Prop} (h : z_isI False v g) : ∃ x, v = .int x ∧ g x := by
  unfold z_isI at h
  split at h
  · exact ⟨_, rfl, h⟩
  · exact h.elim
theorem p_isJ {v : Value} {g : Int64 → Prop} (h : z_isJ False v g) : ∃ x, v = .long x ∧ g x := by
  unfold z_isJ at h
  split at h
  · exact ⟨_, rfl, h⟩
  · exact h.elim
theorem p_isR {v : Value} {g : Nat → Prop} (h : z_isR False v g) : ∃ x, v = .ref x ∧ g x := by
  unfold z_isR at h
  split at h
  · exact ⟨_, rfl, h⟩
  · exact h.elim
theorem p_ldI {L : zL} {a : Nat} {g : Int32 → Prop} (h : z_ldI False L a g) : ∃ x, z_get L a = some (some (.int x)) ∧ g x := by
  unfold z_ldI at h
  split at h
  · next q => exact ⟨_, q, h⟩
  · exact h.elim
theorem p_ldJ {L : zL} {a : Nat} {g : Int64 → Prop} (h : z_ldJ False L a g) : ∃ x, z_get L a = some (some (.long x)) ∧ g x := by
  unfold z_ldJ at h
  split at h
  · next q => exact ⟨_, q, h⟩
  · exact h.elim
theorem p_isA {v : Value} {g : Prop} (h : z_isA False v g) : ((∃ a, v = .ref a) ∨ v = .null) ∧ g := by
  unfold z_isA at h
  split at h
  · exact ⟨Or.inl ⟨_, rfl⟩, h⟩
  · exact ⟨Or.inr rfl, h⟩
  · exact h.elim
theorem p_ldA {L : zL} {a : Nat} {g : Value → Prop} (h : z_ldA False L a g) : ∃ v, z_get L a = some (some v) ∧ ((∃ a, v = .ref a) ∨ v = .null) ∧ g v := by
  unfold z_ldA at h
  split at h
  · next q => exact ⟨_, q, p_isA h⟩
  · exact h.elim
theorem p_cat1 {v : Value} {g : Prop} (h : z_cat1 False v g) : v.category = 1 ∧ g := by
  unfold z_cat1 at h
  split at h
  · exact ⟨rfl, h⟩
  · exact ⟨rfl, h⟩
  · exact ⟨rfl, h⟩
  · exact h.elim
theorem p_nul {v : Value} {gn gr : Prop} (h : z_nul False v gn gr) : (v = .null ∧ gn) ∨ ∃ a, v = .ref a ∧ gr := by
  unfold z_nul at h
  split at h
  · exact Or.inl ⟨rfl, h⟩
  · exact Or.inr ⟨_, rfl, h⟩
  · exact h.elim
theorem p_sm {r : List Value} {g : Prop} (h : z_sm False r g) : z_catS r ≤ 8 ∧ g := by
  unfold z_sm at h
  split at h
  · next q => exact ⟨Nat.le_of_ble_eq_true q, h⟩
  · exact h.elim
theorem p_str {a : Nat} {g : Prop} (h : z_str False a g) : a = 3 ∧ g := by
  unfold z_str at h
  split at h
  · next q => exact ⟨Nat.eq_of_beq_eq_true q, h⟩
  · exact h.elim
theorem p_bool {x : Int32} {g : Prop} (h : z_bool False x g) : (x = 0 ∨ x = 1) ∧ g := by
  unfold z_bool at h
  split at h
  · next q => exact ⟨q, h⟩
  · exact h.elim
theorem p_ald {X : zX} {M : zM} {t a : Nat} {i : Int32} {g : Int32 → Prop} (h : z_ald X False M t a i g) : (∃ q, z_stat X a = some q ∧ t = 0 ∧ z_in i q.1 ∧ g (q.2 i.toNatClampNeg)) ∨ ∃ n f, M.2.2 a = some (.inl (t, n, .inl f)) ∧ z_in i n ∧ g (f i.toNatClampNeg) := by
  unfold z_ald at h
  split at h
  · next q hq =>
    split at h
    · next hc => exact Or.inl ⟨q, hq, hc.1, hc.2, h⟩
    · exact h.elim
  · split at h
    · next hM =>
      split at h
      · next hc => obtain ⟨rfl, hc⟩ := hc; exact Or.inr ⟨_, _, hM, hc, h⟩
      · exact h.elim
    · exact h.elim
theorem p_len {X : zX} {M : zM} {a : Nat} {g : Int32 → Prop} (h : z_len X False M a g) : (∃ q, z_stat X a = some q ∧ g (Int32.ofNat q.1)) ∨ ∃ t n x, M.2.2 a = some (.inl (t, n, x)) ∧ g (Int32.ofNat n) := by
  unfold z_len at h
  split at h
  · next q hq => exact Or.inl ⟨q, hq, h⟩
  · split at h
    · next hM =>
      split at h
      · exact Or.inr ⟨_, _, _, hM, h⟩
      · exact h.elim
    · exact h.elim
theorem p_jld {M : zM} {a : Nat} {i : Int32} {g : Int64 → Prop} (h : z_jld False M a i g) : ∃ n f, M.2.2 a = some (.inl (1, n, .inr (.inl f))) ∧ z_in i n ∧ g (f i.toNatClampNeg) := by
  unfold z_jld at h
  split at h
  · next hM =>
    split at h
    · next hc => obtain ⟨rfl, hc⟩ := hc; exact ⟨_, _, hM, hc, h⟩
    · exact h.elim
  · exact h.elim
theorem p_qld {M : zM} {a : Nat} {i : Int32} {gn : Prop} {g : Nat → Prop} (h : z_qld False M a i gn g) : ∃ (t n : Nat) (f : Nat → Option Nat), M.2.2 a = some (.inl (t, n, .inr (.inr (.inr (.inr f))))) ∧ 3 ≤ t ∧ t < 6 ∧ z_in i n ∧ ((f i.toNatClampNeg = none ∧ gn) ∨ ∃ q, f i.toNatClampNeg = some q ∧ g q) := by
  unfold z_qld at h
  split at h
  · next hM =>
    split at h
    · next hc =>
      split at h
      · next hq => exact ⟨_, _, _, hM, hc.1, hc.2.1, hc.2.2, Or.inl ⟨hq, h⟩⟩
      · next hq => exact ⟨_, _, _, hM, hc.1, hc.2.1, hc.2.2, Or.inr ⟨_, hq, h⟩⟩
    · exact h.elim
  · exact h.elim
theorem p_ast {M : zM} {t a : Nat} {i x : Int32} {g : zM → Prop} (h : z_ast False M t a i x g) : ∃ n f, M.2.2 a = some (.inl (t, n, .inl f)) ∧ z_in i n ∧ (t = 2 → x = 0 ∨ x = 1) ∧ g (z_upd M a (.inl (t, n, .inl (upd f i.toNatClampNeg x)))) := by
  unfold z_ast at h
  split at h
  · next hM =>
    split at h
    · next hc => obtain ⟨rfl, hc1, hc2⟩ := hc; exact ⟨_, _, hM, hc1, hc2, h⟩
    · exact h.elim
  · exact h.elim
theorem p_jst {M : zM} {a : Nat} {i : Int32} {x : Int64} {g : zM → Prop} (h : z_jst False M a i x g) : ∃ n f, M.2.2 a = some (.inl (1, n, .inr (.inl f))) ∧ z_in i n ∧ g (z_upd M a (.inl (1, n, .inr (.inl (vp_updL f i.toNatClampNeg x))))) := by
  unfold z_jst at h
  split at h
  · next hM =>
    split at h
    · next hc => obtain ⟨rfl, hc1⟩ := hc; exact ⟨_, _, hM, hc1, h⟩
    · exact h.elim
  · exact h.elim
theorem p_qst {M : zM} {a : Nat} {i : Int32} {v : Value} {g : zM → Prop} (h : z_qst False M a i v g) : ∃ (t n : Nat) (f : Nat → Option Nat), M.2.2 a = some (.inl (t, n, .inr (.inr (.inr (.inr f))))) ∧ 3 ≤ t ∧ t < 6 ∧ z_in i n ∧ ((v = .null ∧ g (z_upd M a (.inl (t, n, .inr (.inr (.inr (.inr (va_up f i.toNatClampNeg none)))))))) ∨ ∃ q fs, v = .ref q ∧ M.2.2 q = some (.inr (z_elem t, fs)) ∧ g (z_upd M a (.inl (t, n, .inr (.inr (.inr (.inr (va_up f i.toNatClampNeg (some q))))))))) := by
  unfold z_qst at h
  split at h
  · next hM =>
    split at h
    · split at h
      · next hc => exact ⟨_, _, _, hM, hc.1, hc.2.1, hc.2.2, Or.inl ⟨rfl, h⟩⟩
      · exact h.elim
    · split at h
      · next hq =>
        split at h
        · next hc => obtain ⟨h1, h2, h3, rfl⟩ := hc; exact ⟨_, _, _, hM, h1, h2, h3, Or.inr ⟨_, _, rfl, hq, h⟩⟩
        · exact h.elim
      · exact h.elim
    · exact h.elim
  · exact h.elim
theorem p_fld {M : zM} {a ci j : Nat} {g : Value → Prop} (h : z_fld False M a ci j g) : ∃ fs v, M.2.2 a = some (.inr (ci, fs)) ∧ fs[j]? = some v ∧ g v := by
  unfold z_fld at h
  split at h
  · next hM =>
    split at h
    · next hc =>
      subst hc
      split at h
      · next hv => exact ⟨_, _, hM, hv, h⟩
      · exact h.elim
    · exact h.elim
  · exact h.elim
theorem p_getf {M : zM} {val : Value} {o a b : Nat} {g : Value → Prop} (h : z_getf False M val o a b g) : ∃ fs v, M.2.2 o = some (.inr (a, fs)) ∧ fs[b]? = some v ∧ g v := by
  unfold z_getf at h
  split at h
  · obtain ⟨fs, v, h1, h2, h3⟩ := p_fld h
    obtain ⟨x, rfl, h4⟩ := p_isJ h3
    exact ⟨fs, _, h1, h2, h4⟩
  · obtain ⟨fs, v, h1, h2, h3⟩ := p_fld h
    obtain ⟨x, rfl, h4⟩ := p_isR h3
    exact ⟨fs, _, h1, h2, h4⟩
  · obtain ⟨fs, v, h1, h2, h3⟩ := p_fld h
    obtain ⟨x, rfl, h4⟩ := p_isI h3
    exact ⟨fs, _, h1, h2, h4⟩
theorem p_fset {M : zM} {a ci j : Nat} {v : Value} {g : zM → Prop} (h : z_fset False M a ci j v g) : ∃ fs, M.2.2 a = some (.inr (ci, fs)) ∧ j < fs.length ∧ g (z_upd M a (.inr (ci, fs.set j v))) := by
  unfold z_fset at h
  split at h
  · next hM =>
    split at h
    · next hc => obtain ⟨rfl, hc⟩ := hc; exact ⟨_, hM, hc, h⟩
    · exact h.elim
  · exact h.elim
/-- a value that a field of this kind takes -/
def z_okv (val v : Value) : Prop := (val = .int 0 ∧ ∃ x, v = .int x) ∨ (val = .int 1 ∧ (v = .int 0 ∨ v = .int 1)) ∨ (val = .int 2 ∧ ∃ x, v = .long x) ∨ (val ≠ .int 0 ∧ val ≠ .int 1 ∧ val ≠ .int 2 ∧ ((∃ a, v = .ref a) ∨ v = .null))
theorem p_putf {M : zM} {val : Value} {o a b : Nat} {v : Value} {g : zM → Prop} (h : z_putf False M val o a b v g) : z_okv val v ∧ ∃ fs, M.2.2 o = some (.inr (a, fs)) ∧ b < fs.length ∧ g (z_upd M o (.inr (a, fs.set b v))) := by
  unfold z_putf at h
  split at h
  · obtain ⟨x, rfl, h⟩ := p_isI h
    exact ⟨Or.inl ⟨rfl, _, rfl⟩, p_fset h⟩
  · obtain ⟨x, rfl, h⟩ := p_isI h
    obtain ⟨hx, h⟩ := p_bool h
    exact ⟨Or.inr (Or.inl ⟨rfl, by rcases hx with rfl | rfl <;> simp⟩), p_fset h⟩
  · obtain ⟨x, rfl, h⟩ := p_isJ h
    exact ⟨Or.inr (Or.inr (Or.inl ⟨rfl, _, rfl⟩)), p_fset h⟩
  · next n0 n1 n2 =>
    obtain ⟨hv, h⟩ := p_isA h
    exact ⟨Or.inr (Or.inr (Or.inr ⟨n0, n1, n2, hv⟩)), p_fset h⟩
theorem p_obj {M : zM} {v : Value} {ci : Nat} {g : Prop} (h : z_obj False M v ci g) : ∃ a fs, v = .ref a ∧ M.2.2 a = some (.inr (ci, fs)) ∧ g := by
  unfold z_obj at h
  split at h
  · split at h
    · next hM =>
      split at h
      · next hc => subst hc; exact ⟨_, _, rfl, hM, h⟩
      · exact h.elim
    · exact h.elim
  · exact h.elim
theorem p_pop {g : List Value → List Value → Prop} : ∀ (n : Nat) (st acc : List Value), z_pop False n st acc g → ∃ as r, as.length = n ∧ st = as.reverse ++ r ∧ g (as ++ acc) r := by
  intro n
  induction n with
  | zero => intro st acc h; exact ⟨[], st, rfl, rfl, h⟩
  | succ n ih =>
    intro st acc h
    cases st with
    | nil => exact h.elim
    | cons v st =>
      obtain ⟨as, r, h1, h2, h3⟩ := ih st (v :: acc) h
      refine ⟨as ++ [v], r, by simp [h1], by simp [h2], ?_⟩
      rw [List.append_assoc]
      exact h3
theorem p_cpy {M : zM} {a0 : Nat} {sp : Int32} {a : Nat} {dp n : Int32} {g : zM → Prop} (h : z_cpy False M a0 sp a dp n g) : ∃ n0 f n1 f1, M.2.2 a0 = some (.inl (0, n0, .inl f)) ∧ M.2.2 a = some (.inl (0, n1, .inl f1)) ∧ 0 ≤ sp ∧ 0 ≤ dp ∧ 0 ≤ n ∧ sp.toNatClampNeg + n.toNatClampNeg ≤ n0 ∧ dp.toNatClampNeg + n.toNatClampNeg ≤ n1 ∧ g (z_upd M a (.inl (0, n1, .inl (va_cpy f f1 sp.toNatClampNeg dp.toNatClampNeg n.toNatClampNeg)))) := by
  unfold z_cpy at h
  split at h
  · next hM =>
    split at h
    · next hM1 =>
      split at h
      · next hc => obtain ⟨rfl, rfl, h1, h2, h3, h4, h5⟩ := hc; exact ⟨_, _, _, _, hM, hM1, h1, h2, h3, h4, h5, h⟩
      · exact h.elim
    · exact h.elim
  · exact h.elim
theorem p_cln {M : zM} {a : Nat} {g : zM → Prop} (h : z_cln False M a g) : ∃ n f, M.2.2 a = some (.inl (0, n, .inl f)) ∧ g (z_new M (.inl (0, n, .inl f))) := by
  unfold z_cln at h
  split at h
  · next hM =>
    split at h
    · next hc => subst hc; exact ⟨_, _, hM, h⟩
    · exact h.elim
  · exact h.elim
theorem p_ar0 {M : zM} {a : Nat} {g : Prop} (h : z_ar0 False M a g) : ∃ n x, M.2.2 a = some (.inl (0, n, x)) ∧ g := by
  unfold z_ar0 at h
  split at h
  · next hM =>
    split at h
    · next hc => subst hc; exact ⟨_, _, hM, h⟩
    · exact h.elim
  · exact h.elim
theorem p_ite {c : Prop} [Decidable c] {a b : Prop} (h : if c then a else b) : (c → a) ∧ (¬ c → b) := by
  split at h
  · next q => exact ⟨fun _ => h, fun n => absurd q n⟩
  · next q => exact ⟨fun n => absurd n q, fun _ => h⟩
end
section
section ZX
variable {p : Program} {l : Launch} {e : Env} {R : Room} {s : State} {m : MethodId} {args : Array Value} {below : List Frame} {meth : Method} {c : Code} {Q : State → Prop} {D : va_G} {b : Nat} {sa : Nat → Nat} {nL n0 k0 : Nat}
/-- the machine goes on from this place to Q -/
def zW (p : Program) (l : Launch) (e : Env) (R : Room) (s : State) (m : MethodId) (args : Array Value) (below : List Frame) (meth : Method) (c : Code) (Q : State → Prop) (D : va_G) (b : Nat) (sa : Nat → Nat) (nL n0 k0 : Nat) (q : zC) : Prop :=
  ∀ (H : Heap) (locs : List Loc) (ls : Array Slot), zH D b sa s q.2.2.2.2 H locs → zLs b sa nL q.2.2.1 ls → W p l e R s m args below meth c H locs (q.2.2.2.2.1 - n0) (q.2.2.2.2.2.1 - k0) Q (F0 m q.2.1 ls (q.2.2.2.1.map (z_tv b sa)))
def zB (R : Room) (n0 k0 : Nat) (M : zM) : Prop := n0 ≤ M.1 ∧ k0 ≤ M.2.1 ∧ M.1 ≤ n0 + R.cells ∧ M.2.1 ≤ k0 + R.slots
def zK (p : Program) (l : Launch) (e : Env) (R : Room) (s : State) (m : MethodId) (args : Array Value) (below : List Frame) (meth : Method) (c : Code) (Q : State → Prop) (D : va_G) (b : Nat) (sa : Nat → Nat) (nL n0 k0 : Nat) (q : zC) : Prop :=
  zB R n0 k0 q.2.2.2.2 ∧ zW p l e R s m args below meth c Q D b sa nL n0 k0 q
theorem z_lset_len : ∀ (K : zL) (i : Nat) (z : Option Value), (z_lset K i z).length = K.length := by
  intro K
  induction K with
  | nil => intro i z; rfl
  | cons x r ih =>
    intro i z
    cases i with
    | zero => rfl
    | succ i => simp only [z_lset, List.length_cons, ih]
theorem z_kill_get {L : zL} {i j : Nat} {w : Value} (h : z_get (z_kill L i) j = some (some w)) : z_get L j = some (some w) ∧ ¬ (j + 1 = i ∧ w.category = 2) := by
  unfold z_kill at h
  cases i with
  | zero => exact ⟨h, fun q => by omega⟩
  | succ i =>
    dsimp only at h
    split at h
    · next x hx =>
      rw [z_get_lset] at h
      split at h
      · cases h
      · next q =>
        refine ⟨h, fun hh => q ⟨by omega, ?_⟩⟩
        exact z_get_lt L j _ h
    · next x hx =>
      rw [z_get_lset] at h
      split at h
      · cases h
      · next q =>
        refine ⟨h, fun hh => q ⟨by omega, ?_⟩⟩
        exact z_get_lt L j _ h
    · next q1 q2 =>
      refine ⟨h, fun hh => ?_⟩
      obtain ⟨h1, h2⟩ := hh
      have : j = i := by omega
      subst this
      cases w with
      | long x => exact q1 x h
      | double x => exact q2 x h
      | _ => cases h2
theorem z_st1_ls {L : zL} {i : Nat} {v : Value} {ls' : Array Slot} (h : lv_has ls' nL ((i, z_tv b sa v) :: (z_lv b sa 0 L).filter (fun q => !(q.1 == i) && !(q.1 + 1 == i && q.2.category == 2)))) : zLs b sa nL (z_st1 L i v) ls' := by
  refine ⟨h.1, h.2.1, fun j w hj => ?_⟩
  unfold z_st1 at hj
  rw [z_get_lset] at hj
  split at hj
  · next q =>
    obtain ⟨rfl, -⟩ := q
    cases hj
    exact h.2.2 _ List.mem_cons_self
  · next q =>
    obtain ⟨h1, h2⟩ := z_kill_get hj
    have hji : j ≠ i := fun hh => q ⟨hh, z_get_lt _ _ _ hj⟩
    refine h.2.2 (j, z_tv b sa w) (List.mem_cons_of_mem _ (List.mem_filter.mpr ⟨(z_lv_mem L 0 _).mpr ⟨j, w, h1, by rw [Nat.zero_add]⟩, ?_⟩))
    simp only [Bool.and_eq_true, Bool.not_eq_true', beq_eq_false_iff_ne, Bool.and_eq_false_iff, ne_eq, z_tv_cat]
    refine ⟨hji, ?_⟩
    by_cases q1 : j + 1 = i
    · exact Or.inr fun q2 => h2 ⟨q1, q2⟩
    · exact Or.inl q1
theorem z_st2_ls {L : zL} {i : Nat} {v : Value} {ls' : Array Slot} (h : lv_has ls' nL ((i, z_tv b sa v) :: (z_lv b sa 0 L).filter (fun q => !(q.1 == i) && (!(q.1 == i + 1) && !(q.1 + 1 == i && q.2.category == 2))))) : zLs b sa nL (z_st2 L i v) ls' := by
  refine ⟨h.1, h.2.1, fun j w hj => ?_⟩
  unfold z_st2 at hj
  rw [z_get_lset] at hj
  split at hj
  · cases hj
  · next q0 =>
    rw [z_get_lset] at hj
    split at hj
    · next q =>
      obtain ⟨rfl, -⟩ := q
      cases hj
      exact h.2.2 _ List.mem_cons_self
    · next q =>
      obtain ⟨h1, h2⟩ := z_kill_get hj
      have hlt := z_get_lt _ _ _ hj
      have hlen : (z_lset (z_kill L i) i (some v)).length = (z_kill L i).length := z_lset_len _ _ _
      have hji : j ≠ i := fun hh => q ⟨hh, hlt⟩
      have hji1 : j ≠ i + 1 := fun hh => q0 ⟨hh, by rw [hlen]; exact hlt⟩
      refine h.2.2 (j, z_tv b sa w) (List.mem_cons_of_mem _ (List.mem_filter.mpr ⟨(z_lv_mem L 0 _).mpr ⟨j, w, h1, by rw [Nat.zero_add]⟩, ?_⟩))
      simp only [Bool.and_eq_true, Bool.not_eq_true', beq_eq_false_iff_ne, Bool.and_eq_false_iff, ne_eq, z_tv_cat]
      refine ⟨hji, hji1, ?_⟩
      by_cases q1 : j + 1 = i
      · exact Or.inr fun q2 => h2 ⟨q1, q2⟩
      · exact Or.inl q1
variable {cc : ByteArray} {pc a mi : Nat} {L : zL} {st : List Value} {M : zM} {val : Value}
theorem zs_iload (hx : p.tables.exec = Jvm.exec) (hb : c.code = cc) (hd : decode cc pc = .ok (.iload a, 2)) (h : z_ldI False L a (fun x => zK p l e R s m args below meth c Q D b sa nL n0 k0 (mi, pc + 2, L, .int x :: st, M))) : zW p l e R s m args below meth c Q D b sa nL n0 k0 (mi, pc, L, st, M) := by
  obtain ⟨x, h1, h2⟩ := p_ldI h
  intro H locs ls hH hL
  exact lv_iload hx hb hd (hL.2.2 a _ h1) (h2.2 H locs ls hH hL)
theorem zs_iload_n {k : Fin 4} (hx : p.tables.exec = Jvm.exec) (hb : c.code = cc) (hd : decode cc pc = .ok (.iload_n k, 1)) (hk : k.val = a) (h : z_ldI False L a (fun x => zK p l e R s m args below meth c Q D b sa nL n0 k0 (mi, pc + 1, L, .int x :: st, M))) : zW p l e R s m args below meth c Q D b sa nL n0 k0 (mi, pc, L, st, M) := by
  obtain ⟨x, h1, h2⟩ := p_ldI h
  intro H locs ls hH hL
  exact lv_iload_n hx hb hd hk (hL.2.2 a _ h1) (h2.2 H locs ls hH hL)
theorem zs_lload (hx : p.tables.exec = Jvm.exec) (hb : c.code = cc) (hd : decode cc pc = .ok (.lload a, 2)) (h : z_ldJ False L a (fun x => zK p l e R s m args below meth c Q D b sa nL n0 k0 (mi, pc + 2, L, .long x :: st, M))) : zW p l e R s m args below meth c Q D b sa nL n0 k0 (mi, pc, L, st, M) := by
  obtain ⟨x, h1, h2⟩ := p_ldJ h
  intro H locs ls hH hL
  exact lv_lload hx hb hd (hL.2.2 a _ h1) (h2.2 H locs ls hH hL)
theorem zs_lload_n {k : Fin 4} (hx : p.tables.exec = Jvm.exec) (hb : c.code = cc) (hd : decode cc pc = .ok (.lload_n k, 1)) (hk : k.val = a) (h : z_ldJ False L a (fun x => zK p l e R s m args below meth c Q D b sa nL n0 k0 (mi, pc + 1, L, .long x :: st, M))) : zW p l e R s m args below meth c Q D b sa nL n0 k0 (mi, pc, L, st, M) := by
  obtain ⟨x, h1, h2⟩ := p_ldJ h
  intro H locs ls hH hL
  exact lv_lload_n hx hb hd hk (hL.2.2 a _ h1) (h2.2 H locs ls hH hL)
theorem zs_aload (hx : p.tables.exec = Jvm.exec) (hb : c.code = cc) (hd : decode cc pc = .ok (.aload a, 2)) (h : z_ldA False L a (fun v => zK p l e R s m args below meth c Q D b sa nL n0 k0 (mi, pc + 2, L, v :: st, M))) : zW p l e R s m args below meth c Q D b sa nL n0 k0 (mi, pc, L, st, M) := by
  obtain ⟨v, h1, hv, h2⟩ := p_ldA h
  intro H locs ls hH hL
  rcases hv with ⟨q, rfl⟩ | rfl
  · exact lv_aload hx hb hd (hL.2.2 a _ h1) (h2.2 H locs ls hH hL)
  · exact lv_aloadN hx hb hd (hL.2.2 a _ h1) (h2.2 H locs ls hH hL)
theorem zs_aload_n {k : Fin 4} (hx : p.tables.exec = Jvm.exec) (hb : c.code = cc) (hd : decode cc pc = .ok (.aload_n k, 1)) (hk : k.val = a) (h : z_ldA False L a (fun v => zK p l e R s m args below meth c Q D b sa nL n0 k0 (mi, pc + 1, L, v :: st, M))) : zW p l e R s m args below meth c Q D b sa nL n0 k0 (mi, pc, L, st, M) := by
  obtain ⟨v, h1, hv, h2⟩ := p_ldA h
  intro H locs ls hH hL
  rcases hv with ⟨q, rfl⟩ | rfl
  · exact lv_aload_n hx hb hd hk (hL.2.2 a _ h1) (h2.2 H locs ls hH hL)
  · exact lv_aload_nN hx hb hd hk (hL.2.2 a _ h1) (h2.2 H locs ls hH hL)
theorem zs_istore (hx : p.tables.exec = Jvm.exec) (hb : c.code = cc) (hd : decode cc pc = .ok (.istore a, 2)) (hn : a < nL) (h : z_I1 False st (fun x r => zK p l e R s m args below meth c Q D b sa nL n0 k0 (mi, pc + 2, z_st1 L a (.int x), r, M))) : zW p l e R s m args below meth c Q D b sa nL n0 k0 (mi, pc, L, st, M) := by
  obtain ⟨x, r, rfl, h2⟩ := p_I1 h
  intro H locs ls hH hL
  exact lv_istore hx hb hd hL.has hn rfl (fun ls1 h1 => h2.2 H locs ls1 hH (z_st1_ls (v := .int x) h1))
theorem zs_lstore (hx : p.tables.exec = Jvm.exec) (hb : c.code = cc) (hd : decode cc pc = .ok (.lstore a, 2)) (hn : a + 1 < nL) (h : z_J1 False st (fun x r => zK p l e R s m args below meth c Q D b sa nL n0 k0 (mi, pc + 2, z_st2 L a (.long x), r, M))) : zW p l e R s m args below meth c Q D b sa nL n0 k0 (mi, pc, L, st, M) := by
  obtain ⟨x, r, rfl, h2⟩ := p_J1 h
  intro H locs ls hH hL
  exact lv_lstore hx hb hd hL.has hn rfl (fun ls1 h1 => h2.2 H locs ls1 hH (z_st2_ls (v := .long x) h1))
theorem zs_astore (hx : p.tables.exec = Jvm.exec) (hb : c.code = cc) (hd : decode cc pc = .ok (.astore a, 2)) (hn : a < nL) (h : z_V1 False st (fun v r => z_isA False v (zK p l e R s m args below meth c Q D b sa nL n0 k0 (mi, pc + 2, z_st1 L a v, r, M)))) : zW p l e R s m args below meth c Q D b sa nL n0 k0 (mi, pc, L, st, M) := by
  obtain ⟨v, r, rfl, h1⟩ := p_V1 h
  obtain ⟨hv, h2⟩ := p_isA h1
  intro H locs ls hH hL
  rcases hv with ⟨q, rfl⟩ | rfl
  · exact lv_astore hx hb hd hL.has hn rfl (fun ls1 h1 => h2.2 H locs ls1 hH (z_st1_ls (v := .ref q) h1))
  · exact lv_astoreN hx hb hd hL.has hn rfl (fun ls1 h1 => h2.2 H locs ls1 hH (z_st1_ls (v := .null) h1))
theorem zs_istore_n {k : Fin 4} (hx : p.tables.exec = Jvm.exec) (hb : c.code = cc) (hd : decode cc pc = .ok (.istore_n k, 1)) (hk : k.val = a) (hn : a < nL) (h : z_I1 False st (fun x r => zK p l e R s m args below meth c Q D b sa nL n0 k0 (mi, pc + 1, z_st1 L a (.int x), r, M))) : zW p l e R s m args below meth c Q D b sa nL n0 k0 (mi, pc, L, st, M) := by
  obtain ⟨x, r, rfl, h2⟩ := p_I1 h
  intro H locs ls hH hL
  exact lv_istore_n hx hb hd hk hL.has hn rfl (fun ls1 h1 => h2.2 H locs ls1 hH (z_st1_ls (v := .int x) h1))
theorem zs_lstore_n {k : Fin 4} (hx : p.tables.exec = Jvm.exec) (hb : c.code = cc) (hd : decode cc pc = .ok (.lstore_n k, 1)) (hk : k.val = a) (hn : a + 1 < nL) (h : z_J1 False st (fun x r => zK p l e R s m args below meth c Q D b sa nL n0 k0 (mi, pc + 1, z_st2 L a (.long x), r, M))) : zW p l e R s m args below meth c Q D b sa nL n0 k0 (mi, pc, L, st, M) := by
  obtain ⟨x, r, rfl, h2⟩ := p_J1 h
  intro H locs ls hH hL
  exact lv_lstore_n hx hb hd hk hL.has hn rfl (fun ls1 h1 => h2.2 H locs ls1 hH (z_st2_ls (v := .long x) h1))
theorem zs_astore_n {k : Fin 4} (hx : p.tables.exec = Jvm.exec) (hb : c.code = cc) (hd : decode cc pc = .ok (.astore_n k, 1)) (hk : k.val = a) (hn : a < nL) (h : z_V1 False st (fun v r => z_isA False v (zK p l e R s m args below meth c Q D b sa nL n0 k0 (mi, pc + 1, z_st1 L a v, r, M)))) : zW p l e R s m args below meth c Q D b sa nL n0 k0 (mi, pc, L, st, M) := by
  obtain ⟨v, r, rfl, h1⟩ := p_V1 h
  obtain ⟨hv, h2⟩ := p_isA h1
  intro H locs ls hH hL
  rcases hv with ⟨q, rfl⟩ | rfl
  · exact lv_astore_n hx hb hd hk hL.has hn rfl (fun ls1 h1 => h2.2 H locs ls1 hH (z_st1_ls (v := .ref q) h1))
  · exact lv_astore_nN hx hb hd hk hL.has hn rfl (fun ls1 h1 => h2.2 H locs ls1 hH (z_st1_ls (v := .null) h1))
theorem zs_iinc {n : Int} (hx : p.tables.exec = Jvm.exec) (hb : c.code = cc) (hd : decode cc pc = .ok (.iinc a n, 3)) (hn : a < nL) (h : z_ldI False L a (fun x => zK p l e R s m args below meth c Q D b sa nL n0 k0 (mi, pc + 3, z_st1 L a (.int (x + Int32.ofInt n)), st, M))) : zW p l e R s m args below meth c Q D b sa nL n0 k0 (mi, pc, L, st, M) := by
  obtain ⟨x, h1, h2⟩ := p_ldI h
  intro H locs ls hH hL
  obtain ⟨k, hk⟩ := List.getElem?_of_mem ((z_lv_mem (b := b) (sa := sa) L 0 (a, .int x)).mpr ⟨a, .int x, h1, by rw [Nat.zero_add]; rfl⟩)
  exact lv_iinc hx hb hd hL.has hk rfl hn rfl (fun ls1 h1 => h2.2 H locs ls1 hH (z_st1_ls (v := .int (x + Int32.ofInt n)) h1))
theorem zs_iconst {n : Int} (hx : p.tables.exec = Jvm.exec) (hb : c.code = cc) (hd : decode cc pc = .ok (.iconst n, 1)) (h : zK p l e R s m args below meth c Q D b sa nL n0 k0 (mi, pc + 1, L, .int (Int32.ofInt n) :: st, M)) : zW p l e R s m args below meth c Q D b sa nL n0 k0 (mi, pc, L, st, M) := by
  intro H locs ls hH hL
  exact lv_iconst hx hb hd rfl (h.2 H locs ls hH hL)
theorem zs_bipush {n : Int} (hx : p.tables.exec = Jvm.exec) (hb : c.code = cc) (hd : decode cc pc = .ok (.bipush n, 2)) (h : zK p l e R s m args below meth c Q D b sa nL n0 k0 (mi, pc + 2, L, .int (Int8.ofInt n).toInt32 :: st, M)) : zW p l e R s m args below meth c Q D b sa nL n0 k0 (mi, pc, L, st, M) := by
  intro H locs ls hH hL
  exact lv_bipush hx hb hd rfl (h.2 H locs ls hH hL)
theorem zs_sipush {n : Int} (hx : p.tables.exec = Jvm.exec) (hb : c.code = cc) (hd : decode cc pc = .ok (.sipush n, 3)) (h : zK p l e R s m args below meth c Q D b sa nL n0 k0 (mi, pc + 3, L, .int (Int16.ofInt n).toInt32 :: st, M)) : zW p l e R s m args below meth c Q D b sa nL n0 k0 (mi, pc, L, st, M) := by
  intro H locs ls hH hL
  exact lv_sipush hx hb hd rfl (h.2 H locs ls hH hL)
theorem zs_lconst {n : Fin 2} (hx : p.tables.exec = Jvm.exec) (hb : c.code = cc) (hd : decode cc pc = .ok (.lconst n, 1)) (h : zK p l e R s m args below meth c Q D b sa nL n0 k0 (mi, pc + 1, L, .long (Int64.ofNat n.val) :: st, M)) : zW p l e R s m args below meth c Q D b sa nL n0 k0 (mi, pc, L, st, M) := by
  intro H locs ls hH hL
  exact lv_lconst hx hb hd rfl (h.2 H locs ls hH hL)
theorem zs_null (hx : p.tables.exec = Jvm.exec) (hb : c.code = cc) (hd : decode cc pc = .ok (.aconst_null, 1)) (h : zK p l e R s m args below meth c Q D b sa nL n0 k0 (mi, pc + 1, L, .null :: st, M)) : zW p l e R s m args below meth c Q D b sa nL n0 k0 (mi, pc, L, st, M) := by
  intro H locs ls hH hL
  exact lv_null hx hb hd (h.2 H locs ls hH hL)
theorem zs_ldc {own : String} {i : Nat} {v : Int32} (hx : p.tables.exec = Jvm.exec) (hb : c.code = cc) (hd : decode cc pc = .ok (.ldc i, 2)) (hown : s.vm.findClass own = some m.cls) (hw : (Cond.constant own i v).before args s = true) (h : zK p l e R s m args below meth c Q D b sa nL n0 k0 (mi, pc + 2, L, .int v :: st, M)) : zW p l e R s m args below meth c Q D b sa nL n0 k0 (mi, pc, L, st, M) := by
  intro H locs ls hH hL
  exact lv_ldc hx hb hown hw hd (h.2 H locs ls hH hL)
theorem zs_ldcw {own : String} {i : Nat} {v : Int32} (hx : p.tables.exec = Jvm.exec) (hb : c.code = cc) (hd : decode cc pc = .ok (.ldc_w i, 3)) (hown : s.vm.findClass own = some m.cls) (hw : (Cond.constant own i v).before args s = true) (h : zK p l e R s m args below meth c Q D b sa nL n0 k0 (mi, pc + 3, L, .int v :: st, M)) : zW p l e R s m args below meth c Q D b sa nL n0 k0 (mi, pc, L, st, M) := by
  intro H locs ls hH hL
  exact lv_ldcw hx hb hown hw hd (h.2 H locs ls hH hL)
theorem zs_ldc2 {own : String} {i : Nat} {v : Int64} (hx : p.tables.exec = Jvm.exec) (hb : c.code = cc) (hd : decode cc pc = .ok (.ldc2_w i, 3)) (hown : s.vm.findClass own = some m.cls) (hw : (Cond.constantLong own i v).before args s = true) (h : zK p l e R s m args below meth c Q D b sa nL n0 k0 (mi, pc + 3, L, .long v :: st, M)) : zW p l e R s m args below meth c Q D b sa nL n0 k0 (mi, pc, L, st, M) := by
  intro H locs ls hH hL
  exact lv_ldc2 hx hb hown hw hd (h.2 H locs ls hH hL)
theorem zs_iadd (hx : p.tables.exec = Jvm.exec) (hb : c.code = cc) (hd : decode cc pc = .ok (.iadd, 1)) (h : z_I2 False st (fun x y r => zK p l e R s m args below meth c Q D b sa nL n0 k0 (mi, pc + 1, L, .int (x + y) :: r, M))) : zW p l e R s m args below meth c Q D b sa nL n0 k0 (mi, pc, L, st, M) := by
  obtain ⟨x, y, r, rfl, h2⟩ := p_I2 h
  intro H locs ls hH hL
  exact lv_iadd hx hb hd (h2.2 H locs ls hH hL)
theorem zs_isub (hx : p.tables.exec = Jvm.exec) (hb : c.code = cc) (hd : decode cc pc = .ok (.isub, 1)) (h : z_I2 False st (fun x y r => zK p l e R s m args below meth c Q D b sa nL n0 k0 (mi, pc + 1, L, .int (x - y) :: r, M))) : zW p l e R s m args below meth c Q D b sa nL n0 k0 (mi, pc, L, st, M) := by
  obtain ⟨x, y, r, rfl, h2⟩ := p_I2 h
  intro H locs ls hH hL
  exact lv_isub hx hb hd (h2.2 H locs ls hH hL)
theorem zs_imul (hx : p.tables.exec = Jvm.exec) (hb : c.code = cc) (hd : decode cc pc = .ok (.imul, 1)) (h : z_I2 False st (fun x y r => zK p l e R s m args below meth c Q D b sa nL n0 k0 (mi, pc + 1, L, .int (x * y) :: r, M))) : zW p l e R s m args below meth c Q D b sa nL n0 k0 (mi, pc, L, st, M) := by
  obtain ⟨x, y, r, rfl, h2⟩ := p_I2 h
  intro H locs ls hH hL
  exact lv_imul hx hb hd (h2.2 H locs ls hH hL)
theorem zs_iand (hx : p.tables.exec = Jvm.exec) (hb : c.code = cc) (hd : decode cc pc = .ok (.iand, 1)) (h : z_I2 False st (fun x y r => zK p l e R s m args below meth c Q D b sa nL n0 k0 (mi, pc + 1, L, .int (x &&& y) :: r, M))) : zW p l e R s m args below meth c Q D b sa nL n0 k0 (mi, pc, L, st, M) := by
  obtain ⟨x, y, r, rfl, h2⟩ := p_I2 h
  intro H locs ls hH hL
  exact lv_iand hx hb hd (h2.2 H locs ls hH hL)
theorem zs_ior (hx : p.tables.exec = Jvm.exec) (hb : c.code = cc) (hd : decode cc pc = .ok (.ior, 1)) (h : z_I2 False st (fun x y r => zK p l e R s m args below meth c Q D b sa nL n0 k0 (mi, pc + 1, L, .int (x ||| y) :: r, M))) : zW p l e R s m args below meth c Q D b sa nL n0 k0 (mi, pc, L, st, M) := by
  obtain ⟨x, y, r, rfl, h2⟩ := p_I2 h
  intro H locs ls hH hL
  exact lv_ior hx hb hd (h2.2 H locs ls hH hL)
theorem zs_ixor (hx : p.tables.exec = Jvm.exec) (hb : c.code = cc) (hd : decode cc pc = .ok (.ixor, 1)) (h : z_I2 False st (fun x y r => zK p l e R s m args below meth c Q D b sa nL n0 k0 (mi, pc + 1, L, .int (x ^^^ y) :: r, M))) : zW p l e R s m args below meth c Q D b sa nL n0 k0 (mi, pc, L, st, M) := by
  obtain ⟨x, y, r, rfl, h2⟩ := p_I2 h
  intro H locs ls hH hL
  exact lv_ixor hx hb hd (h2.2 H locs ls hH hL)
theorem zs_ishl (hx : p.tables.exec = Jvm.exec) (hb : c.code = cc) (hd : decode cc pc = .ok (.ishl, 1)) (h : z_I2 False st (fun x y r => zK p l e R s m args below meth c Q D b sa nL n0 k0 (mi, pc + 1, L, .int (x <<< (y &&& 31)) :: r, M))) : zW p l e R s m args below meth c Q D b sa nL n0 k0 (mi, pc, L, st, M) := by
  obtain ⟨x, y, r, rfl, h2⟩ := p_I2 h
  intro H locs ls hH hL
  exact lv_ishl hx hb hd (h2.2 H locs ls hH hL)
theorem zs_ishr (hx : p.tables.exec = Jvm.exec) (hb : c.code = cc) (hd : decode cc pc = .ok (.ishr, 1)) (h : z_I2 False st (fun x y r => zK p l e R s m args below meth c Q D b sa nL n0 k0 (mi, pc + 1, L, .int (x >>> (y &&& 31)) :: r, M))) : zW p l e R s m args below meth c Q D b sa nL n0 k0 (mi, pc, L, st, M) := by
  obtain ⟨x, y, r, rfl, h2⟩ := p_I2 h
  intro H locs ls hH hL
  exact lv_ishr hx hb hd (h2.2 H locs ls hH hL)
theorem zs_iushr (hx : p.tables.exec = Jvm.exec) (hb : c.code = cc) (hd : decode cc pc = .ok (.iushr, 1)) (h : z_I2 False st (fun x y r => zK p l e R s m args below meth c Q D b sa nL n0 k0 (mi, pc + 1, L, .int ((x.toUInt32 >>> (y.toUInt32 &&& Int32.toUInt32 31)).toInt32) :: r, M))) : zW p l e R s m args below meth c Q D b sa nL n0 k0 (mi, pc, L, st, M) := by
  obtain ⟨x, y, r, rfl, h2⟩ := p_I2 h
  intro H locs ls hH hL
  exact lv_iushr hx hb hd rfl (h2.2 H locs ls hH hL)
theorem zs_idiv (hx : p.tables.exec = Jvm.exec) (hb : c.code = cc) (hd : decode cc pc = .ok (.idiv, 1)) (h : z_I2 False st (fun x y r => if y = 0 then False else zK p l e R s m args below meth c Q D b sa nL n0 k0 (mi, pc + 1, L, .int (x / y) :: r, M))) : zW p l e R s m args below meth c Q D b sa nL n0 k0 (mi, pc, L, st, M) := by
  obtain ⟨x, y, r, rfl, h2⟩ := p_I2 h
  obtain ⟨h3, h4⟩ := p_ite h2
  intro H locs ls hH hL
  exact lv_idiv hx hb hd (fun q => h3 q) ((h4 (fun q => h3 q)).2 H locs ls hH hL)
theorem zs_irem (hx : p.tables.exec = Jvm.exec) (hb : c.code = cc) (hd : decode cc pc = .ok (.irem, 1)) (h : z_I2 False st (fun x y r => if y = 0 then False else zK p l e R s m args below meth c Q D b sa nL n0 k0 (mi, pc + 1, L, .int (x - x / y * y) :: r, M))) : zW p l e R s m args below meth c Q D b sa nL n0 k0 (mi, pc, L, st, M) := by
  obtain ⟨x, y, r, rfl, h2⟩ := p_I2 h
  obtain ⟨h3, h4⟩ := p_ite h2
  intro H locs ls hH hL
  exact lv_irem hx hb hd (fun q => h3 q) ((h4 (fun q => h3 q)).2 H locs ls hH hL)
theorem zs_ldiv (hx : p.tables.exec = Jvm.exec) (hb : c.code = cc) (hd : decode cc pc = .ok (.ldiv, 1)) (h : z_J2 False st (fun x y r => if y = 0 then False else zK p l e R s m args below meth c Q D b sa nL n0 k0 (mi, pc + 1, L, .long (x / y) :: r, M))) : zW p l e R s m args below meth c Q D b sa nL n0 k0 (mi, pc, L, st, M) := by
  obtain ⟨x, y, r, rfl, h2⟩ := p_J2 h
  obtain ⟨h3, h4⟩ := p_ite h2
  intro H locs ls hH hL
  exact lv_ldiv hx hb hd (fun q => h3 q) ((h4 (fun q => h3 q)).2 H locs ls hH hL)
theorem zs_lrem (hx : p.tables.exec = Jvm.exec) (hb : c.code = cc) (hd : decode cc pc = .ok (.lrem, 1)) (h : z_J2 False st (fun x y r => if y = 0 then False else zK p l e R s m args below meth c Q D b sa nL n0 k0 (mi, pc + 1, L, .long (x - x / y * y) :: r, M))) : zW p l e R s m args below meth c Q D b sa nL n0 k0 (mi, pc, L, st, M) := by
  obtain ⟨x, y, r, rfl, h2⟩ := p_J2 h
  obtain ⟨h3, h4⟩ := p_ite h2
  intro H locs ls hH hL
  exact lv_lrem hx hb hd (fun q => h3 q) ((h4 (fun q => h3 q)).2 H locs ls hH hL)
theorem zs_ineg (hx : p.tables.exec = Jvm.exec) (hb : c.code = cc) (hd : decode cc pc = .ok (.ineg, 1)) (h : z_I1 False st (fun x r => zK p l e R s m args below meth c Q D b sa nL n0 k0 (mi, pc + 1, L, .int (-x) :: r, M))) : zW p l e R s m args below meth c Q D b sa nL n0 k0 (mi, pc, L, st, M) := by
  obtain ⟨x, r, rfl, h2⟩ := p_I1 h
  intro H locs ls hH hL
  exact lv_ineg hx hb hd (h2.2 H locs ls hH hL)
theorem zs_ladd (hx : p.tables.exec = Jvm.exec) (hb : c.code = cc) (hd : decode cc pc = .ok (.ladd, 1)) (h : z_J2 False st (fun x y r => zK p l e R s m args below meth c Q D b sa nL n0 k0 (mi, pc + 1, L, .long (x + y) :: r, M))) : zW p l e R s m args below meth c Q D b sa nL n0 k0 (mi, pc, L, st, M) := by
  obtain ⟨x, y, r, rfl, h2⟩ := p_J2 h
  intro H locs ls hH hL
  exact lv_ladd hx hb hd (h2.2 H locs ls hH hL)
theorem zs_lsub (hx : p.tables.exec = Jvm.exec) (hb : c.code = cc) (hd : decode cc pc = .ok (.lsub, 1)) (h : z_J2 False st (fun x y r => zK p l e R s m args below meth c Q D b sa nL n0 k0 (mi, pc + 1, L, .long (x - y) :: r, M))) : zW p l e R s m args below meth c Q D b sa nL n0 k0 (mi, pc, L, st, M) := by
  obtain ⟨x, y, r, rfl, h2⟩ := p_J2 h
  intro H locs ls hH hL
  exact lv_lsub hx hb hd (h2.2 H locs ls hH hL)
theorem zs_lmul (hx : p.tables.exec = Jvm.exec) (hb : c.code = cc) (hd : decode cc pc = .ok (.lmul, 1)) (h : z_J2 False st (fun x y r => zK p l e R s m args below meth c Q D b sa nL n0 k0 (mi, pc + 1, L, .long (x * y) :: r, M))) : zW p l e R s m args below meth c Q D b sa nL n0 k0 (mi, pc, L, st, M) := by
  obtain ⟨x, y, r, rfl, h2⟩ := p_J2 h
  intro H locs ls hH hL
  exact lv_lmul hx hb hd (h2.2 H locs ls hH hL)
theorem zs_lshl (hx : p.tables.exec = Jvm.exec) (hb : c.code = cc) (hd : decode cc pc = .ok (.lshl, 1)) (h : z_JI False st (fun x y r => zK p l e R s m args below meth c Q D b sa nL n0 k0 (mi, pc + 1, L, .long (x <<< (y.toInt64 &&& 63)) :: r, M))) : zW p l e R s m args below meth c Q D b sa nL n0 k0 (mi, pc, L, st, M) := by
  obtain ⟨x, y, r, rfl, h2⟩ := p_JI h
  intro H locs ls hH hL
  exact lv_lshl hx hb hd rfl (h2.2 H locs ls hH hL)
theorem zs_lshr (hx : p.tables.exec = Jvm.exec) (hb : c.code = cc) (hd : decode cc pc = .ok (.lshr, 1)) (h : z_JI False st (fun x y r => zK p l e R s m args below meth c Q D b sa nL n0 k0 (mi, pc + 1, L, .long (x >>> (y.toInt64 &&& 63)) :: r, M))) : zW p l e R s m args below meth c Q D b sa nL n0 k0 (mi, pc, L, st, M) := by
  obtain ⟨x, y, r, rfl, h2⟩ := p_JI h
  intro H locs ls hH hL
  exact lv_lshr hx hb hd rfl (h2.2 H locs ls hH hL)
theorem zs_lcmp (hx : p.tables.exec = Jvm.exec) (hb : c.code = cc) (hd : decode cc pc = .ok (.lcmp, 1)) (h : z_J2 False st (fun x y r => zK p l e R s m args below meth c Q D b sa nL n0 k0 (mi, pc + 1, L, .int (lg_cmp x y) :: r, M))) : zW p l e R s m args below meth c Q D b sa nL n0 k0 (mi, pc, L, st, M) := by
  obtain ⟨x, y, r, rfl, h2⟩ := p_J2 h
  intro H locs ls hH hL
  exact W.lcmp hx hb hd (h2.2 H locs ls hH hL)
theorem zs_i2l (hx : p.tables.exec = Jvm.exec) (hb : c.code = cc) (hd : decode cc pc = .ok (.i2l, 1)) (h : z_I1 False st (fun x r => zK p l e R s m args below meth c Q D b sa nL n0 k0 (mi, pc + 1, L, .long x.toInt64 :: r, M))) : zW p l e R s m args below meth c Q D b sa nL n0 k0 (mi, pc, L, st, M) := by
  obtain ⟨x, r, rfl, h2⟩ := p_I1 h
  intro H locs ls hH hL
  exact lv_i2l hx hb hd rfl (h2.2 H locs ls hH hL)
theorem zs_l2i (hx : p.tables.exec = Jvm.exec) (hb : c.code = cc) (hd : decode cc pc = .ok (.l2i, 1)) (h : z_J1 False st (fun x r => zK p l e R s m args below meth c Q D b sa nL n0 k0 (mi, pc + 1, L, .int x.toInt32 :: r, M))) : zW p l e R s m args below meth c Q D b sa nL n0 k0 (mi, pc, L, st, M) := by
  obtain ⟨x, r, rfl, h2⟩ := p_J1 h
  intro H locs ls hH hL
  exact lv_l2i hx hb hd rfl (h2.2 H locs ls hH hL)
theorem zs_dup (hx : p.tables.exec = Jvm.exec) (hb : c.code = cc) (hd : decode cc pc = .ok (.dup, 1)) (h : z_V1 False st (fun v r => z_cat1 False v (zK p l e R s m args below meth c Q D b sa nL n0 k0 (mi, pc + 1, L, v :: v :: r, M)))) : zW p l e R s m args below meth c Q D b sa nL n0 k0 (mi, pc, L, st, M) := by
  obtain ⟨v, r, rfl, h1⟩ := p_V1 h
  obtain ⟨hv, h2⟩ := p_cat1 h1
  intro H locs ls hH hL
  exact lv_dup hx hb hd (by rw [z_tv_cat]; exact hv) (h2.2 H locs ls hH hL)
theorem zs_pop (hx : p.tables.exec = Jvm.exec) (hb : c.code = cc) (hd : decode cc pc = .ok (.pop, 1)) (h : z_V1 False st (fun v r => z_cat1 False v (zK p l e R s m args below meth c Q D b sa nL n0 k0 (mi, pc + 1, L, r, M)))) : zW p l e R s m args below meth c Q D b sa nL n0 k0 (mi, pc, L, st, M) := by
  obtain ⟨v, r, rfl, h1⟩ := p_V1 h
  obtain ⟨hv, h2⟩ := p_cat1 h1
  intro H locs ls hH hL
  exact lv_pop hx hb hd (by rw [z_tv_cat]; exact hv) (h2.2 H locs ls hH hL)
theorem zs_dup2 (hx : p.tables.exec = Jvm.exec) (hb : c.code = cc) (hd : decode cc pc = .ok (.dup2, 1)) (h : z_RI False st (fun o i r => zK p l e R s m args below meth c Q D b sa nL n0 k0 (mi, pc + 1, L, .int i :: .ref o :: .int i :: .ref o :: r, M))) : zW p l e R s m args below meth c Q D b sa nL n0 k0 (mi, pc, L, st, M) := by
  obtain ⟨x, y, r, rfl, h2⟩ := p_RI h
  intro H locs ls hH hL
  exact lv_dup2_11 hx hb hd rfl rfl (h2.2 H locs ls hH hL)
theorem zs_if_eq {off : Int} (hx : p.tables.exec = Jvm.exec) (hb : c.code = cc) (hd : decode cc pc = .ok (.ifCond .eq off, 3)) (ht : (pc : Int) + off = (a : Int)) (h : z_I1 False st (fun x r => if x = 0 then zK p l e R s m args below meth c Q D b sa nL n0 k0 (mi, a, L, r, M) else zK p l e R s m args below meth c Q D b sa nL n0 k0 (mi, pc + 3, L, r, M))) : zW p l e R s m args below meth c Q D b sa nL n0 k0 (mi, pc, L, st, M) := by
  obtain ⟨x, r, rfl, h2⟩ := p_I1 h
  obtain ⟨h3, h4⟩ := p_ite h2
  intro H locs ls hH hL
  exact lv_if_eq hx hb hd ht (fun q => (h3 q).2 H locs ls hH hL) (fun q => (h4 q).2 H locs ls hH hL)
theorem zs_icmp_eq {off : Int} (hx : p.tables.exec = Jvm.exec) (hb : c.code = cc) (hd : decode cc pc = .ok (.if_icmp .eq off, 3)) (ht : (pc : Int) + off = (a : Int)) (h : z_I2 False st (fun x y r => if x = y then zK p l e R s m args below meth c Q D b sa nL n0 k0 (mi, a, L, r, M) else zK p l e R s m args below meth c Q D b sa nL n0 k0 (mi, pc + 3, L, r, M))) : zW p l e R s m args below meth c Q D b sa nL n0 k0 (mi, pc, L, st, M) := by
  obtain ⟨x, y, r, rfl, h2⟩ := p_I2 h
  obtain ⟨h3, h4⟩ := p_ite h2
  intro H locs ls hH hL
  exact lv_icmp_eq hx hb hd ht (fun q => (h3 q).2 H locs ls hH hL) (fun q => (h4 q).2 H locs ls hH hL)
theorem zs_if_lt {off : Int} (hx : p.tables.exec = Jvm.exec) (hb : c.code = cc) (hd : decode cc pc = .ok (.ifCond .lt off, 3)) (ht : (pc : Int) + off = (a : Int)) (h : z_I1 False st (fun x r => if x < 0 then zK p l e R s m args below meth c Q D b sa nL n0 k0 (mi, a, L, r, M) else zK p l e R s m args below meth c Q D b sa nL n0 k0 (mi, pc + 3, L, r, M))) : zW p l e R s m args below meth c Q D b sa nL n0 k0 (mi, pc, L, st, M) := by
  obtain ⟨x, r, rfl, h2⟩ := p_I1 h
  obtain ⟨h3, h4⟩ := p_ite h2
  intro H locs ls hH hL
  exact lv_if_lt hx hb hd ht (fun q => (h3 q).2 H locs ls hH hL) (fun q => (h4 q).2 H locs ls hH hL)
theorem zs_icmp_lt {off : Int} (hx : p.tables.exec = Jvm.exec) (hb : c.code = cc) (hd : decode cc pc = .ok (.if_icmp .lt off, 3)) (ht : (pc : Int) + off = (a : Int)) (h : z_I2 False st (fun x y r => if x < y then zK p l e R s m args below meth c Q D b sa nL n0 k0 (mi, a, L, r, M) else zK p l e R s m args below meth c Q D b sa nL n0 k0 (mi, pc + 3, L, r, M))) : zW p l e R s m args below meth c Q D b sa nL n0 k0 (mi, pc, L, st, M) := by
  obtain ⟨x, y, r, rfl, h2⟩ := p_I2 h
  obtain ⟨h3, h4⟩ := p_ite h2
  intro H locs ls hH hL
  exact lv_icmp_lt hx hb hd ht (fun q => (h3 q).2 H locs ls hH hL) (fun q => (h4 q).2 H locs ls hH hL)
theorem zs_if_ge {off : Int} (hx : p.tables.exec = Jvm.exec) (hb : c.code = cc) (hd : decode cc pc = .ok (.ifCond .ge off, 3)) (ht : (pc : Int) + off = (a : Int)) (h : z_I1 False st (fun x r => if 0 ≤ x then zK p l e R s m args below meth c Q D b sa nL n0 k0 (mi, a, L, r, M) else zK p l e R s m args below meth c Q D b sa nL n0 k0 (mi, pc + 3, L, r, M))) : zW p l e R s m args below meth c Q D b sa nL n0 k0 (mi, pc, L, st, M) := by
  obtain ⟨x, r, rfl, h2⟩ := p_I1 h
  obtain ⟨h3, h4⟩ := p_ite h2
  intro H locs ls hH hL
  exact lv_if_ge hx hb hd ht (fun q => (h3 q).2 H locs ls hH hL) (fun q => (h4 q).2 H locs ls hH hL)
theorem zs_icmp_ge {off : Int} (hx : p.tables.exec = Jvm.exec) (hb : c.code = cc) (hd : decode cc pc = .ok (.if_icmp .ge off, 3)) (ht : (pc : Int) + off = (a : Int)) (h : z_I2 False st (fun x y r => if y ≤ x then zK p l e R s m args below meth c Q D b sa nL n0 k0 (mi, a, L, r, M) else zK p l e R s m args below meth c Q D b sa nL n0 k0 (mi, pc + 3, L, r, M))) : zW p l e R s m args below meth c Q D b sa nL n0 k0 (mi, pc, L, st, M) := by
  obtain ⟨x, y, r, rfl, h2⟩ := p_I2 h
  obtain ⟨h3, h4⟩ := p_ite h2
  intro H locs ls hH hL
  exact lv_icmp_ge hx hb hd ht (fun q => (h3 q).2 H locs ls hH hL) (fun q => (h4 q).2 H locs ls hH hL)
theorem zs_if_gt {off : Int} (hx : p.tables.exec = Jvm.exec) (hb : c.code = cc) (hd : decode cc pc = .ok (.ifCond .gt off, 3)) (ht : (pc : Int) + off = (a : Int)) (h : z_I1 False st (fun x r => if 0 < x then zK p l e R s m args below meth c Q D b sa nL n0 k0 (mi, a, L, r, M) else zK p l e R s m args below meth c Q D b sa nL n0 k0 (mi, pc + 3, L, r, M))) : zW p l e R s m args below meth c Q D b sa nL n0 k0 (mi, pc, L, st, M) := by
  obtain ⟨x, r, rfl, h2⟩ := p_I1 h
  obtain ⟨h3, h4⟩ := p_ite h2
  intro H locs ls hH hL
  exact lv_if_gt hx hb hd ht (fun q => (h3 q).2 H locs ls hH hL) (fun q => (h4 q).2 H locs ls hH hL)
theorem zs_icmp_gt {off : Int} (hx : p.tables.exec = Jvm.exec) (hb : c.code = cc) (hd : decode cc pc = .ok (.if_icmp .gt off, 3)) (ht : (pc : Int) + off = (a : Int)) (h : z_I2 False st (fun x y r => if y < x then zK p l e R s m args below meth c Q D b sa nL n0 k0 (mi, a, L, r, M) else zK p l e R s m args below meth c Q D b sa nL n0 k0 (mi, pc + 3, L, r, M))) : zW p l e R s m args below meth c Q D b sa nL n0 k0 (mi, pc, L, st, M) := by
  obtain ⟨x, y, r, rfl, h2⟩ := p_I2 h
  obtain ⟨h3, h4⟩ := p_ite h2
  intro H locs ls hH hL
  exact lv_icmp_gt hx hb hd ht (fun q => (h3 q).2 H locs ls hH hL) (fun q => (h4 q).2 H locs ls hH hL)
theorem zs_if_le {off : Int} (hx : p.tables.exec = Jvm.exec) (hb : c.code = cc) (hd : decode cc pc = .ok (.ifCond .le off, 3)) (ht : (pc : Int) + off = (a : Int)) (h : z_I1 False st (fun x r => if x ≤ 0 then zK p l e R s m args below meth c Q D b sa nL n0 k0 (mi, a, L, r, M) else zK p l e R s m args below meth c Q D b sa nL n0 k0 (mi, pc + 3, L, r, M))) : zW p l e R s m args below meth c Q D b sa nL n0 k0 (mi, pc, L, st, M) := by
  obtain ⟨x, r, rfl, h2⟩ := p_I1 h
  obtain ⟨h3, h4⟩ := p_ite h2
  intro H locs ls hH hL
  exact lv_if_le hx hb hd ht (fun q => (h3 q).2 H locs ls hH hL) (fun q => (h4 q).2 H locs ls hH hL)
theorem zs_icmp_le {off : Int} (hx : p.tables.exec = Jvm.exec) (hb : c.code = cc) (hd : decode cc pc = .ok (.if_icmp .le off, 3)) (ht : (pc : Int) + off = (a : Int)) (h : z_I2 False st (fun x y r => if x ≤ y then zK p l e R s m args below meth c Q D b sa nL n0 k0 (mi, a, L, r, M) else zK p l e R s m args below meth c Q D b sa nL n0 k0 (mi, pc + 3, L, r, M))) : zW p l e R s m args below meth c Q D b sa nL n0 k0 (mi, pc, L, st, M) := by
  obtain ⟨x, y, r, rfl, h2⟩ := p_I2 h
  obtain ⟨h3, h4⟩ := p_ite h2
  intro H locs ls hH hL
  exact lv_icmp_le hx hb hd ht (fun q => (h3 q).2 H locs ls hH hL) (fun q => (h4 q).2 H locs ls hH hL)
theorem zs_if_ne {off : Int} (hx : p.tables.exec = Jvm.exec) (hb : c.code = cc) (hd : decode cc pc = .ok (.ifCond .ne off, 3)) (ht : (pc : Int) + off = (a : Int)) (h : z_I1 False st (fun x r => if x = 0 then zK p l e R s m args below meth c Q D b sa nL n0 k0 (mi, pc + 3, L, r, M) else zK p l e R s m args below meth c Q D b sa nL n0 k0 (mi, a, L, r, M))) : zW p l e R s m args below meth c Q D b sa nL n0 k0 (mi, pc, L, st, M) := by
  obtain ⟨x, r, rfl, h2⟩ := p_I1 h
  obtain ⟨h3, h4⟩ := p_ite h2
  intro H locs ls hH hL
  exact lv_if_ne hx hb hd ht (fun q => (h4 q).2 H locs ls hH hL) (fun q => (h3 q).2 H locs ls hH hL)
theorem zs_icmp_ne {off : Int} (hx : p.tables.exec = Jvm.exec) (hb : c.code = cc) (hd : decode cc pc = .ok (.if_icmp .ne off, 3)) (ht : (pc : Int) + off = (a : Int)) (h : z_I2 False st (fun x y r => if x = y then zK p l e R s m args below meth c Q D b sa nL n0 k0 (mi, pc + 3, L, r, M) else zK p l e R s m args below meth c Q D b sa nL n0 k0 (mi, a, L, r, M))) : zW p l e R s m args below meth c Q D b sa nL n0 k0 (mi, pc, L, st, M) := by
  obtain ⟨x, y, r, rfl, h2⟩ := p_I2 h
  obtain ⟨h3, h4⟩ := p_ite h2
  intro H locs ls hH hL
  exact lv_icmp_ne hx hb hd ht (fun q => (h4 q).2 H locs ls hH hL) (fun q => (h3 q).2 H locs ls hH hL)
theorem zs_goto {off : Int} (hx : p.tables.exec = Jvm.exec) (hb : c.code = cc) (hd : decode cc pc = .ok (.goto off, 3)) (ht : (pc : Int) + off = (a : Int)) (h : zK p l e R s m args below meth c Q D b sa nL n0 k0 (mi, a, L, st, M)) : zW p l e R s m args below meth c Q D b sa nL n0 k0 (mi, pc, L, st, M) := by
  intro H locs ls hH hL
  exact lv_goto hx hb hd ht (h.2 H locs ls hH hL)
theorem zs_ifnull {off : Int} (hx : p.tables.exec = Jvm.exec) (hb : c.code = cc) (hd : decode cc pc = .ok (.ifnull off, 3)) (ht : (pc : Int) + off = (a : Int)) (h : z_V1 False st (fun v r => z_nul False v (zK p l e R s m args below meth c Q D b sa nL n0 k0 (mi, a, L, r, M)) (zK p l e R s m args below meth c Q D b sa nL n0 k0 (mi, pc + 3, L, r, M)))) : zW p l e R s m args below meth c Q D b sa nL n0 k0 (mi, pc, L, st, M) := by
  obtain ⟨v, r, rfl, h1⟩ := p_V1 h
  intro H locs ls hH hL
  rcases p_nul h1 with ⟨rfl, h2⟩ | ⟨q, rfl, h2⟩
  · exact lv_ifnullN hx hb hd ht (h2.2 H locs ls hH hL)
  · exact lv_ifnull hx hb hd (h2.2 H locs ls hH hL)
theorem zs_ifnonnull {off : Int} (hx : p.tables.exec = Jvm.exec) (hb : c.code = cc) (hd : decode cc pc = .ok (.ifnonnull off, 3)) (ht : (pc : Int) + off = (a : Int)) (h : z_V1 False st (fun v r => z_nul False v (zK p l e R s m args below meth c Q D b sa nL n0 k0 (mi, pc + 3, L, r, M)) (zK p l e R s m args below meth c Q D b sa nL n0 k0 (mi, a, L, r, M)))) : zW p l e R s m args below meth c Q D b sa nL n0 k0 (mi, pc, L, st, M) := by
  obtain ⟨v, r, rfl, h1⟩ := p_V1 h
  intro H locs ls hH hL
  rcases p_nul h1 with ⟨rfl, h2⟩ | ⟨q, rfl, h2⟩
  · exact lv_ifnonnullN hx hb hd (h2.2 H locs ls hH hL)
  · exact lv_ifnonnull hx hb hd ht (h2.2 H locs ls hH hL)
theorem z_sws_ok {x : Int32} {d : Nat} {g : Nat → Prop} : ∀ (offs : List Int) (sw : List (Int32 × Nat)) (lo : Int), z_sws pc lo offs sw = true → z_sw x sw d g → (lo ≤ x.toInt ∧ x.toInt < lo + offs.length ∧ ∃ (off : Int) (t : Nat), offs[(x.toInt - lo).toNat]? = some off ∧ (pc : Int) + off = (t : Int) ∧ g t) ∨ ((x.toInt < lo ∨ lo + offs.length ≤ x.toInt) ∧ g d) := by
  intro offs
  induction offs with
  | nil =>
    intro sw lo h1 h2
    cases sw with
    | nil => exact Or.inr ⟨by simp; omega, h2⟩
    | cons q r => cases h1
  | cons off r ih =>
    intro sw lo h1 h2
    cases sw with
    | nil => cases h1
    | cons q sw =>
      obtain ⟨y, t⟩ := q
      simp only [z_sws, Bool.and_eq_true, decide_eq_true_eq] at h1
      obtain ⟨⟨hy, ht⟩, h1⟩ := h1
      have h2 : if x = y then g t else z_sw x sw d g := h2
      obtain ⟨h3, h4⟩ := p_ite h2
      by_cases hxy : x = y
      · subst hxy
        refine Or.inl ⟨by omega, by simp; omega, off, t, ?_, ht, h3 rfl⟩
        rw [show (x.toInt - lo).toNat = 0 by omega]
        rfl
      · have hne : x.toInt ≠ lo := fun hh => hxy (Int32.toInt_inj.mp (by omega))
        rcases ih sw (lo + 1) h1 (h4 hxy) with ⟨a1, a2, off', t', a3, a4, a5⟩ | ⟨a1, a2⟩
        · refine Or.inl ⟨by omega, by simp; omega, off', t', ?_, a4, a5⟩
          rw [show (x.toInt - lo).toNat = (x.toInt - (lo + 1)).toNat + 1 by omega]
          exact a3
        · exact Or.inr ⟨by simp; omega, a2⟩
theorem z_lws_ok {x : Int32} {d : Nat} {dflt : Int} {g : Nat → Prop} (hd : (pc : Int) + dflt = (d : Int)) : ∀ (ps : List (Int × Int)) (sw : List (Int32 × Nat)), z_lws pc ps sw = true → z_sw x sw d g → ∃ t : Nat, (pc : Int) + Op.lookupswitch.offset ps dflt x.toInt = (t : Int) ∧ g t := by
  intro ps
  induction ps with
  | nil =>
    intro sw h1 h2
    cases sw with
    | nil => exact ⟨d, hd, h2⟩
    | cons q r => cases h1
  | cons q ps ih =>
    intro sw h1 h2
    cases sw with
    | nil => obtain ⟨k, off⟩ := q; cases h1
    | cons q' sw =>
      obtain ⟨k, off⟩ := q
      obtain ⟨y, t⟩ := q'
      simp only [z_lws, Bool.and_eq_true, decide_eq_true_eq] at h1
      obtain ⟨⟨hy, ht⟩, h1⟩ := h1
      have h2 : if x = y then g t else z_sw x sw d g := h2
      obtain ⟨h3, h4⟩ := p_ite h2
      by_cases hxy : x = y
      · subst hxy
        refine ⟨t, ?_, h3 rfl⟩
        rw [← hy]
        simp only [Op.lookupswitch.offset, if_pos]
        exact ht
      · rw [lv_osw hxy hy]
        exact ih sw h1 (h4 hxy)
theorem zs_tsw {dflt lo hi : Int} {offs : Array Int} {len : Nat} {sw : List (Int32 × Nat)} (hx : p.tables.exec = Jvm.exec) (hb : c.code = cc) (hd : decode cc pc = .ok (.tableswitch dflt lo hi offs, len)) (hs : z_sws pc lo offs.toList sw = true) (hh : hi = lo + offs.size - 1) (hdf : (pc : Int) + dflt = (a : Int)) (h : z_I1 False st (fun x r => z_sw x sw a (fun t => zK p l e R s m args below meth c Q D b sa nL n0 k0 (mi, t, L, r, M)))) : zW p l e R s m args below meth c Q D b sa nL n0 k0 (mi, pc, L, st, M) := by
  obtain ⟨x, r, rfl, h2⟩ := p_I1 h
  intro H locs ls hH hL
  rcases z_sws_ok offs.toList sw lo hs h2 with ⟨a1, a2, off, t, a3, a4, a5⟩ | ⟨a1, a2⟩
  · exact lv_tableIn hx hb hd (by omega) (by rw [hh]; simp at a2; omega) (by rw [← Array.getElem?_toList]; exact a3) a4 (a5.2 H locs ls hH hL)
  · exact lv_tableOut hx hb hd (by rw [hh]; simp at a1; omega) hdf (a2.2 H locs ls hH hL)
theorem zs_lsw {dflt : Int} {ps : Array (Int × Int)} {len : Nat} {sw : List (Int32 × Nat)} (hx : p.tables.exec = Jvm.exec) (hb : c.code = cc) (hd : decode cc pc = .ok (.lookupswitch dflt ps, len)) (hs : z_lws pc ps.toList sw = true) (hp : (ps.toList.zip (ps.toList.drop 1)).all (fun (a, next) => a.1 < next.1) = true) (hdf : (pc : Int) + dflt = (a : Int)) (h : z_I1 False st (fun x r => z_sw x sw a (fun t => zK p l e R s m args below meth c Q D b sa nL n0 k0 (mi, t, L, r, M)))) : zW p l e R s m args below meth c Q D b sa nL n0 k0 (mi, pc, L, st, M) := by
  obtain ⟨x, r, rfl, h2⟩ := p_I1 h
  intro H locs ls hH hL
  obtain ⟨t, a1, a2⟩ := z_lws_ok hdf ps.toList sw hs h2
  exact lv_lookup hx hb hd hp rfl a1 (a2.2 H locs ls hH hL)
end ZX
end
section
abbrev zA (b : Nat) : Nat → Prop := fun q => b ≤ q
theorem z_in_vp {i : Int32} {n : Nat} (h : z_in i n) : vp_in i n := by
  intro q
  rcases q with q | q
  · exact absurd h.1 (Int32.not_le.mpr q)
  · exact absurd h.2 (Nat.not_lt.mpr q)
theorem z_cl_at {ci : Nat} (h : ci < 12) : vwCl[ci]? = some (z_cl ci) := by
  rcases (show ci = 0 ∨ ci = 1 ∨ ci = 2 ∨ ci = 3 ∨ ci = 4 ∨ ci = 5 ∨ ci = 6 ∨ ci = 7 ∨ ci = 8 ∨ ci = 9 ∨ ci = 10 ∨ ci = 11 by omega) with rfl | rfl | rfl | rfl | rfl | rfl | rfl | rfl | rfl | rfl | rfl | rfl <;> rfl
theorem z_cl_ws {ci : Nat} (h : ci < 12) : ∀ w ∈ u_ws (z_cl ci).1 (z_cl ci).2.1 (z_cl ci).2.2, w ∈ zG := by
  intro w hw
  refine List.mem_flatten.mpr ⟨u_ws (z_cl ci).1 (z_cl ci).2.1 (z_cl ci).2.2, z_get_mem zchunks (62 + ci) _ ?_, hw⟩
  rcases (show ci = 0 ∨ ci = 1 ∨ ci = 2 ∨ ci = 3 ∨ ci = 4 ∨ ci = 5 ∨ ci = 6 ∨ ci = 7 ∨ ci = 8 ∨ ci = 9 ∨ ci = 10 ∨ ci = 11 by omega) with rfl | rfl | rfl | rfl | rfl | rfl | rfl | rfl | rfl | rfl | rfl | rfl <;> rfl
/-- types of the fields, names apart, what is in a new object -/
theorem z_cl_ty {ci : Nat} (h : ci < 12) : ∃ ty : Nat → FieldType, (∀ k, k < (z_cl ci).2.2 → parseFieldDescriptor ((z_cl ci).2.1 k).2.2.1 = some (ty k)) ∧ (∀ a, a < (z_cl ci).2.2 → ∀ b, b < (z_cl ci).2.2 → a ≠ b → ((z_cl ci).2.1 a).2.1 ≠ ((z_cl ci).2.1 b).2.1) ∧ (∀ j, j < (z_cl ci).2.2 → defaultValue (ty j) = vp_V (z_defs ci) j) ∧ (z_defs ci).length = (z_cl ci).2.2 ∧ ∀ (b : Nat) (sa : Nat → Nat), (z_defs ci).map (z_tv b sa) = z_defs ci := by
  rcases (show ci = 0 ∨ ci = 1 ∨ ci = 2 ∨ ci = 3 ∨ ci = 4 ∨ ci = 5 ∨ ci = 6 ∨ ci = 7 ∨ ci = 8 ∨ ci = 9 ∨ ci = 10 ∨ ci = 11 by omega) with rfl | rfl | rfl | rfl | rfl | rfl | rfl | rfl | rfl | rfl | rfl | rfl
  · exact ⟨tyX0, tyX0_ok, nmX0, by decide +kernel, rfl, fun _ _ => rfl⟩
  · exact ⟨tyX1, tyX1_ok, nmX1, by decide +kernel, rfl, fun _ _ => rfl⟩
  · exact ⟨tyX2, tyX2_ok, nmX2, by decide +kernel, rfl, fun _ _ => rfl⟩
  · exact ⟨tyX3, tyX3_ok, nmX3, by decide +kernel, rfl, fun _ _ => rfl⟩
  · exact ⟨tyX4, tyX4_ok, nmX4, by decide +kernel, rfl, fun _ _ => rfl⟩
  · exact ⟨tyX5, tyX5_ok, nmX5, by decide +kernel, rfl, fun _ _ => rfl⟩
  · exact ⟨tyX6, tyX6_ok, nmX6, by decide +kernel, rfl, fun _ _ => rfl⟩
  · exact ⟨tyX7, tyX7_ok, nmX7, by decide +kernel, rfl, fun _ _ => rfl⟩
  · exact ⟨tyX8, tyX8_ok, nmX8, by decide +kernel, rfl, fun _ _ => rfl⟩
  · exact ⟨tyX9, tyX9_ok, nmX9, by decide +kernel, rfl, fun _ _ => rfl⟩
  · exact ⟨tyX10, tyX10_ok, nmX10, by decide +kernel, rfl, fun _ _ => rfl⟩
  · exact ⟨tyX11, tyX11_ok, nmX11, by decide +kernel, rfl, fun _ _ => rfl⟩
section ZY
variable {p : Program} {l : Launch} {e : Env} {R : Room} {s : State} {m : MethodId} {args : Array Value} {below : List Frame} {meth : Method} {c : Code} {Q : State → Prop} {D : va_G} {b : Nat} {sa : Nat → Nat} {nL n0 k0 : Nat}
variable {cc : ByteArray} {pc a mi : Nat} {L : zL} {st : List Value} {M : zM} {val : Value} {H : Heap} {locs : List Loc}
theorem zH_upd {cs : Nat → ClassId} {tys : List (ClassId × FieldType)} {i : Nat} {e0 e1 : va_E} {H1 : Heap} {locs1 : List Loc} (hw : z_wf M) (hK : va_K D vwCl tys s) (ht : ∀ i t n x, M.2.2 i = some (.inl (t, n, x)) → ∃ t0 : Nat, tys[t0]? = some (cs i, z_fty t)) (hi : M.2.2 i = some e0) (hs : ∀ t n x, e1 = .inl (t, n, x) → ∃ n' x', e0 = .inl (t, n', x'))
    (hP : va_P D vwCl ((z_ws b sa cs M).set (i - 4) (z_ad b sa i, z_te b sa (cs i) e1)) H1) (hD : va_D (zA b) ((z_ws b sa cs M).set (i - 4) (z_ad b sa i, z_te b sa (cs i) e1))) (hS : va_S (zA b) s.heap H1 locs1) : zH D b sa s (z_upd M i e1) H1 locs1 := by
  rw [← z_ws_upd hw hi] at hP hD
  refine ⟨hw.upd hi, cs, tys, hK, hP, hD, hS, fun j t n x hj => ?_⟩
  have hj2 : (if j = i then some e1 else M.2.2 j) = some (.inl (t, n, x)) := hj
  by_cases q : j = i
  · rw [if_pos q] at hj2
    obtain ⟨n', x', h0⟩ := hs t n x (Option.some.inj hj2)
    rw [q]
    exact ht i t n' x' (by rw [hi, h0])
  · rw [if_neg q] at hj2
    exact ht j t n x hj2
theorem va_at_lt {q : Nat × va_E} (h : va_at D vwCl q H) : q.1 < H.size := by
  obtain ⟨a, e⟩ := q
  cases e with
  | inl x => exact (Array.getElem?_eq_some_iff.mp (show H[a]? = some _ from h)).1
  | inr x =>
    obtain ⟨r, -, cell, hc, -⟩ := (show ∃ r : vw_C, vwCl[x.1]? = some r ∧ t_OB a (D.1 x.1) r.2.2 (D.2 x.1) H (vp_V x.2) from h)
    exact (Array.getElem?_eq_some_iff.mp hc).1
theorem z_fresh {cs : Nat → ClassId} {q : Nat} {e1 : va_E} {H1 : Heap} (hw : z_wf M) (hP : va_P D vwCl (z_ws b sa cs M ++ [(q, e1)]) H1) (hD : va_D (zA b) (z_ws b sa cs M ++ [(q, e1)])) (hsz : H1.size ≤ b + (M.1 - 4) + 1) : q = z_ad b sa M.1 := by
  have h0 := hw.1
  have hlast : (z_ws b sa cs M ++ [(q, e1)])[M.1 - 4]? = some (q, e1) := by
    rw [List.getElem?_append_right (by rw [z_ws_len]; exact Nat.le_refl _), z_ws_len, Nat.sub_self]; rfl
  have h1 : b ≤ q := hD.2 _ _ hlast
  have h2 : q < H1.size := va_at_lt (hP _ _ hlast)
  rw [z_ad_ge h0]
  rcases Nat.lt_or_ge q (b + (M.1 - 4)) with h3 | h3
  · have hj : (z_ws b sa cs M ++ [(q, e1)])[q - b]? = some (b + (q - b), z_tc b sa cs M (q - b + 4)) := by
      rw [List.getElem?_append_left (by rw [z_ws_len]; omega), z_ws_at, if_pos (by omega)]
    have := hD.1 _ _ _ _ hj hlast (by show b + (q - b) = q; omega)
    omega
  · omega
theorem zH_new {cs : Nat → ClassId} {tys tys1 : List (ClassId × FieldType)} {q : Nat} {e0 : va_E} {cA : ClassId} {H1 : Heap} (hw : z_wf M) (ht : ∀ i t n x, M.2.2 i = some (.inl (t, n, x)) → ∃ t0 : Nat, tys[t0]? = some (cs i, z_fty t)) (hK : va_K D vwCl (tys ++ tys1) s) (hs : ∀ t n x, e0 = .inl (t, n, x) → tys1 = [(cA, z_fty t)]) (hP : va_P D vwCl (z_ws b sa cs M ++ [(q, z_te b sa cA e0)]) H1) (hD : va_D (zA b) (z_ws b sa cs M ++ [(q, z_te b sa cA e0)])) (hS : va_S (zA b) s.heap H1 locs) (hq : q = z_ad b sa M.1) : zH D b sa s (z_new M e0) H1 locs := by
  subst hq
  rw [← z_ws_new hw] at hP hD
  refine ⟨hw.new e0, va_up cs M.1 cA, tys ++ tys1, hK, hP, hD, hS, fun j t n x hj => ?_⟩
  have hj2 : (if j = M.1 then some e0 else M.2.2 j) = some (.inl (t, n, x)) := hj
  unfold va_up
  by_cases q : j = M.1
  · rw [if_pos q] at hj2 ⊢
    rw [hs t n x (Option.some.inj hj2)]
    exact ⟨tys.length, by rw [List.getElem?_append_right (Nat.le_refl _), Nat.sub_self]; rfl⟩
  · rw [if_neg q] at hj2 ⊢
    obtain ⟨t0, h0⟩ := ht j t n x hj2
    exact ⟨t0, by rw [List.getElem?_append_left (by exact (List.getElem?_eq_some_iff.mp h0).1)]; exact h0⟩
theorem zs_getfield {own : String} {i ci k : Nat} (hx : p.tables.exec = Jvm.exec) (hb : c.code = cc) (hts : ∀ w ∈ zG, w.before args s = true) (hown : s.vm.findClass own = some m.cls) (hd : decode cc pc = .ok (.getfield i, 3)) (hci : ci < 12) (hk : k < (z_cl ci).2.2) (hw : Cond.fieldLink own i ((z_cl ci).2.1 k).1 ((z_cl ci).2.1 k).2.1 ((z_cl ci).2.1 k).2.2.1 ∈ zG)
    (h : z_R1 False st (fun o r => z_getf False M val o ci k (fun v => zK p l e R s m args below meth c Q D b sa nL n0 k0 (mi, pc + 3, L, v :: r, M)))) : zW p l e R s m args below meth c Q D b sa nL n0 k0 (mi, pc, L, st, M) := by
  obtain ⟨o, r, rfl, h1⟩ := p_R1 h
  obtain ⟨fs, v, h2, h3, h4⟩ := p_getf h1
  intro H locs ls hH hL
  obtain ⟨hwf, cs, tys, hK, hP, hD, hS, ht⟩ := id hH
  exact va_get hx hb (T := (z_cl ci).2.1) (N := (z_cl ci).2.2) hts (z_cl_ws hci) hown hK hP (o - 4) (z_ws_get hwf h2) (z_cl_at hci) k hk (hts _ hw) (fun _ q => q) (by rw [List.getElem?_map, h3]; rfl) hd (h4.2 H locs ls hH hL)
theorem z_okv_fit {val v : Value} {d : String} {ty : FieldType} (h : z_okv val v) (hf : z_ft val d = true) (hd : parseFieldDescriptor d = some ty) : narrow ty (z_tv b sa v) = z_tv b sa v ∧ fits ty (z_tv b sa v) = true := by
  rcases h with ⟨rfl, x, rfl⟩ | ⟨rfl, hv⟩ | ⟨rfl, x, rfl⟩ | ⟨n0, n1, n2, hv⟩
  · have hf : d = "I" := of_decide_eq_true hf
    subst hf
    have : ty = .int := Option.some.inj (hd.symm.trans (by decide +kernel))
    subst this
    exact ⟨rfl, rfl⟩
  · have hf : d = "Z" := of_decide_eq_true hf
    subst hf
    have : ty = .boolean := Option.some.inj (hd.symm.trans (by decide +kernel))
    subst this
    rcases hv with rfl | rfl <;> exact ⟨rfl, rfl⟩
  · have hf : d = "J" := of_decide_eq_true hf
    subst hf
    have : ty = .long := Option.some.inj (hd.symm.trans (by decide +kernel))
    subst this
    exact ⟨rfl, rfl⟩
  · have h3 : (∃ n, ty = .object n) ∨ ∃ t, ty = .array t := by
      unfold z_ft at hf
      split at hf
      · exact absurd rfl n0
      · exact absurd rfl n1
      · exact absurd rfl n2
      · rw [hd] at hf
        split at hf
        · next q => exact Or.inl ⟨_, Option.some.inj q⟩
        · next q => exact Or.inr ⟨_, Option.some.inj q⟩
        · cases hf
      · cases hf
    rcases h3 with ⟨n, rfl⟩ | ⟨t, rfl⟩ <;> rcases hv with ⟨q, rfl⟩ | rfl <;> exact ⟨rfl, rfl⟩
theorem zs_putfield {own : String} {i ci k : Nat} (hx : p.tables.exec = Jvm.exec) (hb : c.code = cc) (hts : ∀ w ∈ zG, w.before args s = true) (hown : s.vm.findClass own = some m.cls) (hd : decode cc pc = .ok (.putfield i, 3)) (hci : ci < 12) (hk : k < (z_cl ci).2.2) (hw : Cond.fieldLink own i ((z_cl ci).2.1 k).1 ((z_cl ci).2.1 k).2.1 ((z_cl ci).2.1 k).2.2.1 ∈ zG) (hf : z_ft val ((z_cl ci).2.1 k).2.2.1 = true) (hfin : ((z_cl ci).2.1 k).2.2.2 = true → meth.name = "<init>" ∧ ((z_cl ci).2.1 k).1 = own)
    (h : z_V1 False st (fun v r => z_R1 False r (fun o r => z_putf False M val o ci k v (fun M => zK p l e R s m args below meth c Q D b sa nL n0 k0 (mi, pc + 3, L, r, M))))) : zW p l e R s m args below meth c Q D b sa nL n0 k0 (mi, pc, L, st, M) := by
  obtain ⟨v, r, rfl, h1⟩ := p_V1 h
  obtain ⟨o, r2, hr2, hz1⟩ := p_R1 h1
  subst hr2
  obtain ⟨hv, fs, h2, h3, h4⟩ := p_putf hz1
  intro H locs ls hH hL
  obtain ⟨hwf, cs, tys, hK, hP, hD, hS, ht⟩ := id hH
  obtain ⟨ty, hty, hnm, -⟩ := z_cl_ty hci
  obtain ⟨f1, f2⟩ := z_okv_fit (b := b) (sa := sa) hv hf (hty k hk)
  have hgo : ∀ (H1 : Heap) (locs1 : List Loc), va_P D vwCl ((z_ws b sa cs M).set (o - 4) (z_ad b sa o, .inr (ci, (fs.map (z_tv b sa)).set k (z_tv b sa v)))) H1 → va_D (zA b) ((z_ws b sa cs M).set (o - 4) (z_ad b sa o, .inr (ci, (fs.map (z_tv b sa)).set k (z_tv b sa v)))) → va_S (zA b) s.heap H1 locs1 → W p l e R s m args below meth c H1 locs1 (M.1 - n0) (M.2.1 - k0) Q (F0 m (pc + 3) ls (r2.map (z_tv b sa))) := by
    intro H1 locs1 hP1 hD1 hS1
    refine h4.2 H1 locs1 ls (zH_upd hwf hK ht h2 (fun _ _ _ q => by cases q) ?_ ?_ hS1) hL
    · show va_P D vwCl ((z_ws b sa cs M).set (o - 4) (z_ad b sa o, .inr (ci, (fs.set k v).map (z_tv b sa)))) H1
      rw [List.map_set]; exact hP1
    · show va_D (zA b) ((z_ws b sa cs M).set (o - 4) (z_ad b sa o, .inr (ci, (fs.set k v).map (z_tv b sa))))
      rw [List.map_set]; exact hD1
  cases hq : ((z_cl ci).2.1 k).2.2.2 with
  | false => exact va_put hx hb (T := (z_cl ci).2.1) (N := (z_cl ci).2.2) hts (z_cl_ws hci) ty hty hnm hown hK hP hD hS (o - 4) (z_ws_get hwf h2) (z_cl_at hci) k hk (hts _ hw) (fun _ q => q) hq (hty k hk) f1 f2 (by rw [List.length_map]; exact h3) hd hgo
  | true => exact va_putF hx hb (T := (z_cl ci).2.1) (N := (z_cl ci).2.2) hts (z_cl_ws hci) ty hty hnm hown hK hP hD hS (o - 4) (z_ws_get hwf h2) (z_cl_at hci) k hk (hts _ hw) (fun _ q => q) hq (hfin hq).1 (hfin hq).2 (hty k hk) f1 f2 (by rw [List.length_map]; exact h3) hd hgo
theorem zs_laload (hx : p.tables.exec = Jvm.exec) (hb : c.code = cc) (hd : decode cc pc = .ok (.laload, 1)) (h : z_RI False st (fun o i r => z_jld False M o i (fun x => zK p l e R s m args below meth c Q D b sa nL n0 k0 (mi, pc + 1, L, .long x :: r, M)))) : zW p l e R s m args below meth c Q D b sa nL n0 k0 (mi, pc, L, st, M) := by
  obtain ⟨o, i, r, rfl, h1⟩ := p_RI h
  obtain ⟨n, f, h2, h3, h4⟩ := p_jld h1
  intro H locs ls hH hL
  obtain ⟨hwf, cs, tys, hK, hP, hD, hS, ht⟩ := id hH
  obtain ⟨t0, h0⟩ := ht _ _ _ _ h2
  exact va_lald hx hb hK hP (o - 4) t0 (z_ws_get hwf h2) h0 (z_in_vp h3) hd (h4.2 H locs ls hH hL)
theorem zs_lastore (hx : p.tables.exec = Jvm.exec) (hb : c.code = cc) (hd : decode cc pc = .ok (.lastore, 1)) (h : z_J1 False st (fun x r => z_RI False r (fun o i r => z_jst False M o i x (fun M => zK p l e R s m args below meth c Q D b sa nL n0 k0 (mi, pc + 1, L, r, M))))) : zW p l e R s m args below meth c Q D b sa nL n0 k0 (mi, pc, L, st, M) := by
  obtain ⟨x, r, rfl, h1⟩ := p_J1 h
  obtain ⟨o, i, r2, hr2, hz1⟩ := p_RI h1
  subst hr2
  obtain ⟨n, f, h2, h3, h4⟩ := p_jst hz1
  intro H locs ls hH hL
  obtain ⟨hwf, cs, tys, hK, hP, hD, hS, ht⟩ := id hH
  obtain ⟨t0, h0⟩ := ht _ _ _ _ h2
  exact va_last hx hb hK hP hD hS (o - 4) t0 (z_ws_get hwf h2) h0 (z_in_vp h3) hd (fun H1 locs1 hP1 hD1 hS1 => h4.2 H1 locs1 ls (zH_upd hwf hK ht h2 (fun t n' x' q => by cases q; exact ⟨_, _, rfl⟩) hP1 hD1 hS1) hL)
theorem zs_iastore (hx : p.tables.exec = Jvm.exec) (hb : c.code = cc) (hd : decode cc pc = .ok (.iastore, 1)) (h : z_I1 False st (fun x r => z_RI False r (fun o i r => z_ast False M 0 o i x (fun M => zK p l e R s m args below meth c Q D b sa nL n0 k0 (mi, pc + 1, L, r, M))))) : zW p l e R s m args below meth c Q D b sa nL n0 k0 (mi, pc, L, st, M) := by
  obtain ⟨x, r, rfl, h1⟩ := p_I1 h
  obtain ⟨o, i, r2, hr2, hz1⟩ := p_RI h1
  subst hr2
  obtain ⟨n, f, h2, h3, -, h4⟩ := p_ast hz1
  intro H locs ls hH hL
  obtain ⟨hwf, cs, tys, hK, hP, hD, hS, ht⟩ := id hH
  obtain ⟨t0, h0⟩ := ht _ _ _ _ h2
  exact va_iast hx hb hK hP hD hS (o - 4) t0 (z_ws_get hwf h2) h0 (z_in_vp h3) hd (fun H1 locs1 hP1 hD1 hS1 => h4.2 H1 locs1 ls (zH_upd hwf hK ht h2 (fun t n' x' q => by cases q; exact ⟨_, _, rfl⟩) hP1 hD1 hS1) hL)
theorem z_nar {x : Int32} (h : x = 0 ∨ x = 1) : vp_nar .boolean x = x := by
  rcases h with rfl | rfl <;> decide +kernel
theorem zs_bastore (hx : p.tables.exec = Jvm.exec) (hb : c.code = cc) (hd : decode cc pc = .ok (.bastore, 1)) (h : z_I1 False st (fun x r => z_RI False r (fun o i r => z_ast False M 2 o i x (fun M => zK p l e R s m args below meth c Q D b sa nL n0 k0 (mi, pc + 1, L, r, M))))) : zW p l e R s m args below meth c Q D b sa nL n0 k0 (mi, pc, L, st, M) := by
  obtain ⟨x, r, rfl, h1⟩ := p_I1 h
  obtain ⟨o, i, r2, hr2, hz1⟩ := p_RI h1
  subst hr2
  obtain ⟨n, f, h2, h3, hb1, h4⟩ := p_ast hz1
  intro H locs ls hH hL
  obtain ⟨hwf, cs, tys, hK, hP, hD, hS, ht⟩ := id hH
  obtain ⟨t0, h0⟩ := ht _ _ _ _ h2
  exact va_zast hx hb hK hP hD hS (o - 4) t0 (z_ws_get hwf h2) h0 (z_in_vp h3) hd (fun H1 locs1 hP1 hD1 hS1 => by
    rw [z_nar (hb1 rfl)] at hP1 hD1
    exact h4.2 H1 locs1 ls (zH_upd hwf hK ht h2 (fun t n' x' q => by cases q; exact ⟨_, _, rfl⟩) hP1 hD1 hS1) hL)
theorem zs_aaload (hx : p.tables.exec = Jvm.exec) (hb : c.code = cc) (hd : decode cc pc = .ok (.aaload, 1)) (h : z_RI False st (fun o i r => z_qld False M o i (zK p l e R s m args below meth c Q D b sa nL n0 k0 (mi, pc + 1, L, .null :: r, M)) (fun q => zK p l e R s m args below meth c Q D b sa nL n0 k0 (mi, pc + 1, L, .ref q :: r, M)))) : zW p l e R s m args below meth c Q D b sa nL n0 k0 (mi, pc, L, st, M) := by
  obtain ⟨o, i, r, rfl, h1⟩ := p_RI h
  obtain ⟨t, n, f, h2, ht1, ht2, h3, h4⟩ := p_qld h1
  intro H locs ls hH hL
  obtain ⟨hwf, cs, tys, hK, hP, hD, hS, ht⟩ := id hH
  obtain ⟨t0, h0⟩ := ht _ _ _ _ h2
  have hty : ∃ C, z_fty t = .object C := by rcases (show t = 3 ∨ t = 4 ∨ t = 5 by omega) with rfl | rfl | rfl <;> exact ⟨_, rfl⟩
  obtain ⟨C, hC⟩ := hty
  rw [hC] at h0
  refine va_aldq hx hb hK hP (o - 4) t0 (z_ws_get hwf h2) h0 (z_in_vp h3) hd ?_
  show W p l e R s m args below meth c H locs _ _ Q (F0 m (pc + 1) ls (va_rf ((f i.toNatClampNeg).map (z_ad b sa)) :: r.map (z_tv b sa)))
  rcases h4 with ⟨e1, h4⟩ | ⟨q, e1, h4⟩
  · rw [e1]; exact h4.2 H locs ls hH hL
  · rw [e1]; exact h4.2 H locs ls hH hL
theorem z_up_map {f : Nat → Option Nat} {k : Nat} {v : Option Nat} : (fun i => ((va_up f k v) i).map (z_ad b sa)) = va_up (fun i => (f i).map (z_ad b sa)) k (v.map (z_ad b sa)) := by
  funext i
  unfold va_up
  split <;> rfl
theorem zs_aastore (hx : p.tables.exec = Jvm.exec) (hb : c.code = cc) (hd : decode cc pc = .ok (.aastore, 1)) (h : z_V1 False st (fun v r => z_RI False r (fun o i r => z_qst False M o i v (fun M => zK p l e R s m args below meth c Q D b sa nL n0 k0 (mi, pc + 1, L, r, M))))) : zW p l e R s m args below meth c Q D b sa nL n0 k0 (mi, pc, L, st, M) := by
  obtain ⟨v, r, rfl, h1⟩ := p_V1 h
  obtain ⟨o, i, r2, hr2, hz1⟩ := p_RI h1
  subst hr2
  obtain ⟨t, n, f, h2, ht1, ht2, h3, h4⟩ := p_qst hz1
  intro H locs ls hH hL
  obtain ⟨hwf, cs, tys, hK, hP, hD, hS, ht⟩ := id hH
  obtain ⟨t0, h0⟩ := ht _ _ _ _ h2
  have hty : z_fty t = .object (z_cl (z_elem t)).1 ∧ z_elem t < 12 := by rcases (show t = 3 ∨ t = 4 ∨ t = 5 by omega) with rfl | rfl | rfl <;> exact ⟨rfl, by decide⟩
  rw [hty.1] at h0
  rcases h4 with ⟨rfl, h4⟩ | ⟨q, fs, rfl, h5, h4⟩
  · exact va_astqN hx hb hK hP hD hS (o - 4) t0 (z_ws_get hwf h2) h0 (z_in_vp h3) hd (fun H1 locs1 hP1 hD1 hS1 => h4.2 H1 locs1 ls (zH_upd hwf hK ht h2 (fun t n' x' q => by cases q; exact ⟨_, _, rfl⟩) (by
      show va_P D vwCl ((z_ws b sa cs M).set (o - 4) (z_ad b sa o, .inl (cs o, n, .inr (.inr (.inr (.inr (fun j => ((va_up f i.toNatClampNeg none) j).map (z_ad b sa)))))))) H1
      rw [z_up_map]; exact hP1) (by
      show va_D (zA b) ((z_ws b sa cs M).set (o - 4) (z_ad b sa o, .inl (cs o, n, .inr (.inr (.inr (.inr (fun j => ((va_up f i.toNatClampNeg none) j).map (z_ad b sa))))))))
      rw [z_up_map]; exact hD1) hS1) hL)
  · exact va_astq hx hb hK hP hD hS (o - 4) t0 (q - 4) (z_elem t) (z_ws_get hwf h2) h0 (z_ws_get hwf h5) (z_cl_at hty.2) (z_in_vp h3) hd (fun H1 locs1 hP1 hD1 hS1 => h4.2 H1 locs1 ls (zH_upd hwf hK ht h2 (fun t n' x' q => by cases q; exact ⟨_, _, rfl⟩) (by
      show va_P D vwCl ((z_ws b sa cs M).set (o - 4) (z_ad b sa o, .inl (cs o, n, .inr (.inr (.inr (.inr (fun j => ((va_up f i.toNatClampNeg (some q)) j).map (z_ad b sa)))))))) H1
      rw [z_up_map]; exact hP1) (by
      show va_D (zA b) ((z_ws b sa cs M).set (o - 4) (z_ad b sa o, .inl (cs o, n, .inr (.inr (.inr (.inr (fun j => ((va_up f i.toNatClampNeg (some q)) j).map (z_ad b sa))))))))
      rw [z_up_map]; exact hD1) hS1) hL)
theorem zs_checkcast {own : String} {i : Nat} (hx : p.tables.exec = Jvm.exec) (hb : c.code = cc) (hown : s.vm.findClass own = some m.cls) (hw : (Cond.classLink own i "[I").before args s = true) (hd : decode cc pc = .ok (.checkcast i, 3)) (h : z_R1 False st (fun o r => z_ar0 False M o (zK p l e R s m args below meth c Q D b sa nL n0 k0 (mi, pc + 3, L, .ref o :: r, M)))) : zW p l e R s m args below meth c Q D b sa nL n0 k0 (mi, pc, L, st, M) := by
  obtain ⟨o, r, rfl, h1⟩ := p_R1 h
  obtain ⟨n, x, h2, h4⟩ := p_ar0 h1
  intro H locs ls hH hL
  obtain ⟨hwf, cs, tys, hK, hP, hD, hS, ht⟩ := id hH
  obtain ⟨t0, h0⟩ := ht _ _ _ _ h2
  exact va_castA hx hb hown hw hP (o - 4) (z_ws_get hwf h2) (show s.vm.findClass ("[" ++ FieldType.int.toString) = some (cs o) from (hK.2 t0 _ h0).2) hd (h4.2 H locs ls hH hL)
end ZY
end

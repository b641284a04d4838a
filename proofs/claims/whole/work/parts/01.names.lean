-- ===== PART A: goes FIRST, ahead of the names: the tables' words, and 'selects' of the private methods out of them =====
/-- a private method of a class that the tables say can be made, by its rows of tables_1 -/
def lw_okq (q : MethodName × Nat) : Prop := (q.1.cls ≠ "java/lang/invoke/MethodHandle" ∧ q.1.cls ≠ "java/lang/invoke/VarHandle") ∧ Cond.instantiable q.1.cls q.2 ∈ tables_1 ∧ Cond.privateMethod q.1 ∈ tables_1 ∧ Cond.instanceMethod q.1 ∈ tables_1
theorem lw_p0 : lw_okq (⟨"ScansionDesk", "refuse", "(I)I"⟩, 20) := ⟨⟨by decide +kernel, by decide +kernel⟩, List.mem_of_getElem? (i := 22) (by decide +kernel), List.mem_of_getElem? (i := 363) (by decide +kernel), List.mem_of_getElem? (i := 364) (by decide +kernel)⟩
theorem lw_p1 : lw_okq (⟨"ScansionDesk", "accept", "(I)I"⟩, 20) := ⟨⟨by decide +kernel, by decide +kernel⟩, List.mem_of_getElem? (i := 22) (by decide +kernel), List.mem_of_getElem? (i := 372) (by decide +kernel), List.mem_of_getElem? (i := 373) (by decide +kernel)⟩
theorem lw_p2 : lw_okq (⟨"ScansionDesk$Scansion", "judge", "(LScansionDesk$Clauses;II)V"⟩, 11) := ⟨⟨by decide +kernel, by decide +kernel⟩, List.mem_of_getElem? (i := 250) (by decide +kernel), List.mem_of_getElem? (i := 404) (by decide +kernel), List.mem_of_getElem? (i := 405) (by decide +kernel)⟩
theorem lw_p3 : lw_okq (⟨"ScansionDesk$Tokens", "addToken", "(III)V"⟩, 6) := ⟨⟨by decide +kernel, by decide +kernel⟩, List.mem_of_getElem? (i := 118) (by decide +kernel), List.mem_of_getElem? (i := 545) (by decide +kernel), List.mem_of_getElem? (i := 546) (by decide +kernel)⟩
theorem lw_p4 : lw_okq (⟨"ScansionDesk$MetreReader", "readMetre", "(LScansionDesk$Tokens;II)I"⟩, 11) := ⟨⟨by decide +kernel, by decide +kernel⟩, List.mem_of_getElem? (i := 148) (by decide +kernel), List.mem_of_getElem? (i := 558) (by decide +kernel), List.mem_of_getElem? (i := 559) (by decide +kernel)⟩
theorem lw_p5 : lw_okq (⟨"ScansionDesk$MetreReader", "readChoice", "(LScansionDesk$Tokens;II)I"⟩, 11) := ⟨⟨by decide +kernel, by decide +kernel⟩, List.mem_of_getElem? (i := 148) (by decide +kernel), List.mem_of_getElem? (i := 562) (by decide +kernel), List.mem_of_getElem? (i := 563) (by decide +kernel)⟩
theorem lw_p6 : lw_okq (⟨"ScansionDesk$MetreReader", "readUnit", "(LScansionDesk$Tokens;II)I"⟩, 11) := ⟨⟨by decide +kernel, by decide +kernel⟩, List.mem_of_getElem? (i := 148) (by decide +kernel), List.mem_of_getElem? (i := 566) (by decide +kernel), List.mem_of_getElem? (i := 567) (by decide +kernel)⟩
theorem lw_p7 : lw_okq (⟨"ScansionDesk$MetreReader", "addNode", "(III)I"⟩, 11) := ⟨⟨by decide +kernel, by decide +kernel⟩, List.mem_of_getElem? (i := 148) (by decide +kernel), List.mem_of_getElem? (i := 602) (by decide +kernel), List.mem_of_getElem? (i := 603) (by decide +kernel)⟩
theorem lw_p8 : lw_okq (⟨"ScansionDesk$MetreReader", "writeMetre", "(LScansionDesk$Tokens;III)I"⟩, 11) := ⟨⟨by decide +kernel, by decide +kernel⟩, List.mem_of_getElem? (i := 148) (by decide +kernel), List.mem_of_getElem? (i := 610) (by decide +kernel), List.mem_of_getElem? (i := 611) (by decide +kernel)⟩
theorem lw_p9 : lw_okq (⟨"ScansionDesk$MetreReader", "writeChoice", "(LScansionDesk$Tokens;III)I"⟩, 11) := ⟨⟨by decide +kernel, by decide +kernel⟩, List.mem_of_getElem? (i := 148) (by decide +kernel), List.mem_of_getElem? (i := 614) (by decide +kernel), List.mem_of_getElem? (i := 615) (by decide +kernel)⟩
theorem lw_p10 : lw_okq (⟨"ScansionDesk$ClauseReader", "readClause", "(LScansionDesk$Tokens;I)V"⟩, 3) := ⟨⟨by decide +kernel, by decide +kernel⟩, List.mem_of_getElem? (i := 188) (by decide +kernel), List.mem_of_getElem? (i := 673) (by decide +kernel), List.mem_of_getElem? (i := 674) (by decide +kernel)⟩
theorem lw_p11 : lw_okq (⟨"ScansionDesk$ClauseReader", "readSum", "(LScansionDesk$Tokens;I)V"⟩, 3) := ⟨⟨by decide +kernel, by decide +kernel⟩, List.mem_of_getElem? (i := 188) (by decide +kernel), List.mem_of_getElem? (i := 684) (by decide +kernel), List.mem_of_getElem? (i := 685) (by decide +kernel)⟩
theorem lw_p12 : lw_okq (⟨"ScansionDesk$ClauseReader", "readPart", "(LScansionDesk$Tokens;I)V"⟩, 3) := ⟨⟨by decide +kernel, by decide +kernel⟩, List.mem_of_getElem? (i := 188) (by decide +kernel), List.mem_of_getElem? (i := 688) (by decide +kernel), List.mem_of_getElem? (i := 689) (by decide +kernel)⟩
theorem lw_p13 : lw_okq (⟨"ScansionDesk$ClauseReader", "readOrderWord", "(LScansionDesk$Tokens;)V"⟩, 3) := ⟨⟨by decide +kernel, by decide +kernel⟩, List.mem_of_getElem? (i := 188) (by decide +kernel), List.mem_of_getElem? (i := 698) (by decide +kernel), List.mem_of_getElem? (i := 699) (by decide +kernel)⟩
theorem lw_p14 : lw_okq (⟨"ScansionDesk$ClauseReader", "readLawWord", "(LScansionDesk$Tokens;)V"⟩, 3) := ⟨⟨by decide +kernel, by decide +kernel⟩, List.mem_of_getElem? (i := 188) (by decide +kernel), List.mem_of_getElem? (i := 702) (by decide +kernel), List.mem_of_getElem? (i := 703) (by decide +kernel)⟩
theorem lw_p15 : lw_okq (⟨"ScansionDesk$ClauseReader", "readTimes", "(LScansionDesk$Tokens;I)V"⟩, 3) := ⟨⟨by decide +kernel, by decide +kernel⟩, List.mem_of_getElem? (i := 188) (by decide +kernel), List.mem_of_getElem? (i := 709) (by decide +kernel), List.mem_of_getElem? (i := 710) (by decide +kernel)⟩
def lw_privs_1 : List (MethodName × Nat) := [(⟨"ScansionDesk", "refuse", "(I)I"⟩, 20), (⟨"ScansionDesk", "accept", "(I)I"⟩, 20), (⟨"ScansionDesk$Scansion", "judge", "(LScansionDesk$Clauses;II)V"⟩, 11), (⟨"ScansionDesk$Tokens", "addToken", "(III)V"⟩, 6), (⟨"ScansionDesk$MetreReader", "readMetre", "(LScansionDesk$Tokens;II)I"⟩, 11), (⟨"ScansionDesk$MetreReader", "readChoice", "(LScansionDesk$Tokens;II)I"⟩, 11), (⟨"ScansionDesk$MetreReader", "readUnit", "(LScansionDesk$Tokens;II)I"⟩, 11), (⟨"ScansionDesk$MetreReader", "addNode", "(III)I"⟩, 11), (⟨"ScansionDesk$MetreReader", "writeMetre", "(LScansionDesk$Tokens;III)I"⟩, 11), (⟨"ScansionDesk$MetreReader", "writeChoice", "(LScansionDesk$Tokens;III)I"⟩, 11), (⟨"ScansionDesk$ClauseReader", "readClause", "(LScansionDesk$Tokens;I)V"⟩, 3), (⟨"ScansionDesk$ClauseReader", "readSum", "(LScansionDesk$Tokens;I)V"⟩, 3), (⟨"ScansionDesk$ClauseReader", "readPart", "(LScansionDesk$Tokens;I)V"⟩, 3), (⟨"ScansionDesk$ClauseReader", "readOrderWord", "(LScansionDesk$Tokens;)V"⟩, 3), (⟨"ScansionDesk$ClauseReader", "readLawWord", "(LScansionDesk$Tokens;)V"⟩, 3), (⟨"ScansionDesk$ClauseReader", "readTimes", "(LScansionDesk$Tokens;I)V"⟩, 3)]
theorem lw_r1 : ∀ q ∈ lw_privs_1, lw_okq q := List.forall_mem_cons.mpr ⟨lw_p0, List.forall_mem_cons.mpr ⟨lw_p1, List.forall_mem_cons.mpr ⟨lw_p2, List.forall_mem_cons.mpr ⟨lw_p3, List.forall_mem_cons.mpr ⟨lw_p4, List.forall_mem_cons.mpr ⟨lw_p5, List.forall_mem_cons.mpr ⟨lw_p6, List.forall_mem_cons.mpr ⟨lw_p7, List.forall_mem_cons.mpr ⟨lw_p8, List.forall_mem_cons.mpr ⟨lw_p9, List.forall_mem_cons.mpr ⟨lw_p10, List.forall_mem_cons.mpr ⟨lw_p11, List.forall_mem_cons.mpr ⟨lw_p12, List.forall_mem_cons.mpr ⟨lw_p13, List.forall_mem_cons.mpr ⟨lw_p14, List.forall_mem_cons.mpr ⟨lw_p15, fun _ h => absurd h List.not_mem_nil⟩⟩⟩⟩⟩⟩⟩⟩⟩⟩⟩⟩⟩⟩⟩⟩
theorem lw_p16 : lw_okq (⟨"ScansionDesk$ClauseReader", "readTest", "(LScansionDesk$Tokens;I)V"⟩, 3) := ⟨⟨by decide +kernel, by decide +kernel⟩, List.mem_of_getElem? (i := 188) (by decide +kernel), List.mem_of_getElem? (i := 713) (by decide +kernel), List.mem_of_getElem? (i := 714) (by decide +kernel)⟩
theorem lw_p17 : lw_okq (⟨"ScansionDesk", "setOrderWords", "(Z)V"⟩, 20) := ⟨⟨by decide +kernel, by decide +kernel⟩, List.mem_of_getElem? (i := 22) (by decide +kernel), List.mem_of_getElem? (i := 753) (by decide +kernel), List.mem_of_getElem? (i := 754) (by decide +kernel)⟩
theorem lw_p18 : lw_okq (⟨"ScansionDesk", "fittingMetres", "(LScansionDesk$State;)I"⟩, 20) := ⟨⟨by decide +kernel, by decide +kernel⟩, List.mem_of_getElem? (i := 22) (by decide +kernel), List.mem_of_getElem? (i := 757) (by decide +kernel), List.mem_of_getElem? (i := 758) (by decide +kernel)⟩
theorem lw_p19 : lw_okq (⟨"ScansionDesk", "takingMetres", "(LScansionDesk$State;)I"⟩, 20) := ⟨⟨by decide +kernel, by decide +kernel⟩, List.mem_of_getElem? (i := 22) (by decide +kernel), List.mem_of_getElem? (i := 761) (by decide +kernel), List.mem_of_getElem? (i := 762) (by decide +kernel)⟩
theorem lw_p20 : lw_okq (⟨"ScansionDesk$Scansion", "flowThrough", "(LScansionDesk$Metre;)V"⟩, 11) := ⟨⟨by decide +kernel, by decide +kernel⟩, List.mem_of_getElem? (i := 250) (by decide +kernel), List.mem_of_getElem? (i := 773) (by decide +kernel), List.mem_of_getElem? (i := 774) (by decide +kernel)⟩
theorem lw_p21 : lw_okq (⟨"ScansionDesk$Scansion", "spread", "(II)V"⟩, 11) := ⟨⟨by decide +kernel, by decide +kernel⟩, List.mem_of_getElem? (i := 250) (by decide +kernel), List.mem_of_getElem? (i := 781) (by decide +kernel), List.mem_of_getElem? (i := 782) (by decide +kernel)⟩
theorem lw_p22 : lw_okq (⟨"ScansionDesk$Scansion", "withElided", "(I)I"⟩, 11) := ⟨⟨by decide +kernel, by decide +kernel⟩, List.mem_of_getElem? (i := 250) (by decide +kernel), List.mem_of_getElem? (i := 785) (by decide +kernel), List.mem_of_getElem? (i := 786) (by decide +kernel)⟩
theorem lw_p23 : lw_okq (⟨"ScansionDesk", "runOnce", "(LScansionDesk$Clauses;I)Z"⟩, 20) := ⟨⟨by decide +kernel, by decide +kernel⟩, List.mem_of_getElem? (i := 22) (by decide +kernel), List.mem_of_getElem? (i := 802) (by decide +kernel), List.mem_of_getElem? (i := 803) (by decide +kernel)⟩
theorem lw_p24 : lw_okq (⟨"ScansionDesk", "tryWeigh", "(II)I"⟩, 20) := ⟨⟨by decide +kernel, by decide +kernel⟩, List.mem_of_getElem? (i := 22) (by decide +kernel), List.mem_of_getElem? (i := 807) (by decide +kernel), List.mem_of_getElem? (i := 808) (by decide +kernel)⟩
theorem lw_p25 : lw_okq (⟨"ScansionDesk$History", "dropOldest", "()V"⟩, 4) := ⟨⟨by decide +kernel, by decide +kernel⟩, List.mem_of_getElem? (i := 83) (by decide +kernel), List.mem_of_getElem? (i := 819) (by decide +kernel), List.mem_of_getElem? (i := 820) (by decide +kernel)⟩
theorem lw_p26 : lw_okq (⟨"ScansionDesk", "tryTurn", "(II)I"⟩, 20) := ⟨⟨by decide +kernel, by decide +kernel⟩, List.mem_of_getElem? (i := 22) (by decide +kernel), List.mem_of_getElem? (i := 823) (by decide +kernel), List.mem_of_getElem? (i := 824) (by decide +kernel)⟩
theorem lw_p27 : lw_okq (⟨"ScansionDesk", "tryPass", "()I"⟩, 20) := ⟨⟨by decide +kernel, by decide +kernel⟩, List.mem_of_getElem? (i := 22) (by decide +kernel), List.mem_of_getElem? (i := 833) (by decide +kernel), List.mem_of_getElem? (i := 834) (by decide +kernel)⟩
theorem lw_p28 : lw_okq (⟨"ScansionDesk", "settle", "(I)I"⟩, 20) := ⟨⟨by decide +kernel, by decide +kernel⟩, List.mem_of_getElem? (i := 22) (by decide +kernel), List.mem_of_getElem? (i := 859) (by decide +kernel), List.mem_of_getElem? (i := 860) (by decide +kernel)⟩
theorem lw_p29 : lw_okq (⟨"ScansionDesk$History", "latestIn", "([I)I"⟩, 4) := ⟨⟨by decide +kernel, by decide +kernel⟩, List.mem_of_getElem? (i := 83) (by decide +kernel), List.mem_of_getElem? (i := 883) (by decide +kernel), List.mem_of_getElem? (i := 884) (by decide +kernel)⟩
theorem lw_p30 : lw_okq (⟨"ScansionDesk", "bestReading", "(II)J"⟩, 20) := ⟨⟨by decide +kernel, by decide +kernel⟩, List.mem_of_getElem? (i := 22) (by decide +kernel), List.mem_of_getElem? (i := 903) (by decide +kernel), List.mem_of_getElem? (i := 904) (by decide +kernel)⟩
theorem lw_p31 : lw_okq (⟨"ScansionDesk$Scansion", "setPrices", "(I)V"⟩, 11) := ⟨⟨by decide +kernel, by decide +kernel⟩, List.mem_of_getElem? (i := 250) (by decide +kernel), List.mem_of_getElem? (i := 912) (by decide +kernel), List.mem_of_getElem? (i := 913) (by decide +kernel)⟩
def lw_privs_2 : List (MethodName × Nat) := [(⟨"ScansionDesk$ClauseReader", "readTest", "(LScansionDesk$Tokens;I)V"⟩, 3), (⟨"ScansionDesk", "setOrderWords", "(Z)V"⟩, 20), (⟨"ScansionDesk", "fittingMetres", "(LScansionDesk$State;)I"⟩, 20), (⟨"ScansionDesk", "takingMetres", "(LScansionDesk$State;)I"⟩, 20), (⟨"ScansionDesk$Scansion", "flowThrough", "(LScansionDesk$Metre;)V"⟩, 11), (⟨"ScansionDesk$Scansion", "spread", "(II)V"⟩, 11), (⟨"ScansionDesk$Scansion", "withElided", "(I)I"⟩, 11), (⟨"ScansionDesk", "runOnce", "(LScansionDesk$Clauses;I)Z"⟩, 20), (⟨"ScansionDesk", "tryWeigh", "(II)I"⟩, 20), (⟨"ScansionDesk$History", "dropOldest", "()V"⟩, 4), (⟨"ScansionDesk", "tryTurn", "(II)I"⟩, 20), (⟨"ScansionDesk", "tryPass", "()I"⟩, 20), (⟨"ScansionDesk", "settle", "(I)I"⟩, 20), (⟨"ScansionDesk$History", "latestIn", "([I)I"⟩, 4), (⟨"ScansionDesk", "bestReading", "(II)J"⟩, 20), (⟨"ScansionDesk$Scansion", "setPrices", "(I)V"⟩, 11)]
theorem lw_r2 : ∀ q ∈ lw_privs_2, lw_okq q := List.forall_mem_cons.mpr ⟨lw_p16, List.forall_mem_cons.mpr ⟨lw_p17, List.forall_mem_cons.mpr ⟨lw_p18, List.forall_mem_cons.mpr ⟨lw_p19, List.forall_mem_cons.mpr ⟨lw_p20, List.forall_mem_cons.mpr ⟨lw_p21, List.forall_mem_cons.mpr ⟨lw_p22, List.forall_mem_cons.mpr ⟨lw_p23, List.forall_mem_cons.mpr ⟨lw_p24, List.forall_mem_cons.mpr ⟨lw_p25, List.forall_mem_cons.mpr ⟨lw_p26, List.forall_mem_cons.mpr ⟨lw_p27, List.forall_mem_cons.mpr ⟨lw_p28, List.forall_mem_cons.mpr ⟨lw_p29, List.forall_mem_cons.mpr ⟨lw_p30, List.forall_mem_cons.mpr ⟨lw_p31, fun _ h => absurd h List.not_mem_nil⟩⟩⟩⟩⟩⟩⟩⟩⟩⟩⟩⟩⟩⟩⟩⟩
theorem lw_p32 : lw_okq (⟨"ScansionDesk$Scansion", "priceByCost", "(II)J"⟩, 11) := ⟨⟨by decide +kernel, by decide +kernel⟩, List.mem_of_getElem? (i := 250) (by decide +kernel), List.mem_of_getElem? (i := 918) (by decide +kernel), List.mem_of_getElem? (i := 919) (by decide +kernel)⟩
theorem lw_p33 : lw_okq (⟨"ScansionDesk$Scansion", "leastFrom", "(LScansionDesk$Metre;II)J"⟩, 11) := ⟨⟨by decide +kernel, by decide +kernel⟩, List.mem_of_getElem? (i := 250) (by decide +kernel), List.mem_of_getElem? (i := 923) (by decide +kernel), List.mem_of_getElem? (i := 924) (by decide +kernel)⟩
theorem lw_p34 : lw_okq (⟨"ScansionDesk$Scansion", "priceOf", "(II)J"⟩, 11) := ⟨⟨by decide +kernel, by decide +kernel⟩, List.mem_of_getElem? (i := 250) (by decide +kernel), List.mem_of_getElem? (i := 927) (by decide +kernel), List.mem_of_getElem? (i := 928) (by decide +kernel)⟩
theorem lw_p35 : lw_okq (⟨"ScansionDesk", "fewestBy", "(II)I"⟩, 20) := ⟨⟨by decide +kernel, by decide +kernel⟩, List.mem_of_getElem? (i := 22) (by decide +kernel), List.mem_of_getElem? (i := 947) (by decide +kernel), List.mem_of_getElem? (i := 948) (by decide +kernel)⟩
theorem lw_p36 : lw_okq (⟨"ScansionDesk", "mostAlike", "(I)I"⟩, 20) := ⟨⟨by decide +kernel, by decide +kernel⟩, List.mem_of_getElem? (i := 22) (by decide +kernel), List.mem_of_getElem? (i := 1005) (by decide +kernel), List.mem_of_getElem? (i := 1006) (by decide +kernel)⟩
theorem lw_p37 : lw_okq (⟨"ScansionDeskModel", "tell", "(I)I"⟩, 72) := ⟨⟨by decide +kernel, by decide +kernel⟩, List.mem_of_getElem? (i := 1056) (by decide +kernel), List.mem_of_getElem? (i := 1307) (by decide +kernel), List.mem_of_getElem? (i := 1308) (by decide +kernel)⟩
theorem lw_p38 : lw_okq (⟨"ScansionDeskModel", "putBack", "(I)V"⟩, 72) := ⟨⟨by decide +kernel, by decide +kernel⟩, List.mem_of_getElem? (i := 1056) (by decide +kernel), List.mem_of_getElem? (i := 1311) (by decide +kernel), List.mem_of_getElem? (i := 1312) (by decide +kernel)⟩
theorem lw_p39 : lw_okq (⟨"ScansionDeskModel", "lasting", "(I)I"⟩, 72) := ⟨⟨by decide +kernel, by decide +kernel⟩, List.mem_of_getElem? (i := 1056) (by decide +kernel), List.mem_of_getElem? (i := 1326) (by decide +kernel), List.mem_of_getElem? (i := 1327) (by decide +kernel)⟩
theorem lw_p40 : lw_okq (⟨"ScansionDeskModel", "comes", "(III)I"⟩, 72) := ⟨⟨by decide +kernel, by decide +kernel⟩, List.mem_of_getElem? (i := 1056) (by decide +kernel), List.mem_of_getElem? (i := 1334) (by decide +kernel), List.mem_of_getElem? (i := 1335) (by decide +kernel)⟩
theorem lw_p41 : lw_okq (⟨"ScansionDeskModel", "isSyllable", "(I)Z"⟩, 72) := ⟨⟨by decide +kernel, by decide +kernel⟩, List.mem_of_getElem? (i := 1056) (by decide +kernel), List.mem_of_getElem? (i := 1343) (by decide +kernel), List.mem_of_getElem? (i := 1344) (by decide +kernel)⟩
theorem lw_p42 : lw_okq (⟨"ScansionDeskModel", "canRead", "(II)Z"⟩, 72) := ⟨⟨by decide +kernel, by decide +kernel⟩, List.mem_of_getElem? (i := 1056) (by decide +kernel), List.mem_of_getElem? (i := 1349) (by decide +kernel), List.mem_of_getElem? (i := 1350) (by decide +kernel)⟩
theorem lw_p43 : lw_okq (⟨"ScansionDeskModel", "tells", "(IIIJ)J"⟩, 72) := ⟨⟨by decide +kernel, by decide +kernel⟩, List.mem_of_getElem? (i := 1056) (by decide +kernel), List.mem_of_getElem? (i := 1353) (by decide +kernel), List.mem_of_getElem? (i := 1354) (by decide +kernel)⟩
theorem lw_p44 : lw_okq (⟨"ScansionDeskModel", "isSo", "(I)Z"⟩, 72) := ⟨⟨by decide +kernel, by decide +kernel⟩, List.mem_of_getElem? (i := 1056) (by decide +kernel), List.mem_of_getElem? (i := 1357) (by decide +kernel), List.mem_of_getElem? (i := 1358) (by decide +kernel)⟩
theorem lw_p45 : lw_okq (⟨"ScansionDeskModel", "reckonAll", "(II)V"⟩, 72) := ⟨⟨by decide +kernel, by decide +kernel⟩, List.mem_of_getElem? (i := 1056) (by decide +kernel), List.mem_of_getElem? (i := 1361) (by decide +kernel), List.mem_of_getElem? (i := 1362) (by decide +kernel)⟩
theorem lw_p46 : lw_okq (⟨"ScansionDeskModel", "isMetre", "(I)Z"⟩, 72) := ⟨⟨by decide +kernel, by decide +kernel⟩, List.mem_of_getElem? (i := 1056) (by decide +kernel), List.mem_of_getElem? (i := 1365) (by decide +kernel), List.mem_of_getElem? (i := 1366) (by decide +kernel)⟩
theorem lw_p47 : lw_okq (⟨"ScansionDeskModel", "reckon", "(IJJ)J"⟩, 72) := ⟨⟨by decide +kernel, by decide +kernel⟩, List.mem_of_getElem? (i := 1056) (by decide +kernel), List.mem_of_getElem? (i := 1370) (by decide +kernel), List.mem_of_getElem? (i := 1371) (by decide +kernel)⟩
def lw_privs_3 : List (MethodName × Nat) := [(⟨"ScansionDesk$Scansion", "priceByCost", "(II)J"⟩, 11), (⟨"ScansionDesk$Scansion", "leastFrom", "(LScansionDesk$Metre;II)J"⟩, 11), (⟨"ScansionDesk$Scansion", "priceOf", "(II)J"⟩, 11), (⟨"ScansionDesk", "fewestBy", "(II)I"⟩, 20), (⟨"ScansionDesk", "mostAlike", "(I)I"⟩, 20), (⟨"ScansionDeskModel", "tell", "(I)I"⟩, 72), (⟨"ScansionDeskModel", "putBack", "(I)V"⟩, 72), (⟨"ScansionDeskModel", "lasting", "(I)I"⟩, 72), (⟨"ScansionDeskModel", "comes", "(III)I"⟩, 72), (⟨"ScansionDeskModel", "isSyllable", "(I)Z"⟩, 72), (⟨"ScansionDeskModel", "canRead", "(II)Z"⟩, 72), (⟨"ScansionDeskModel", "tells", "(IIIJ)J"⟩, 72), (⟨"ScansionDeskModel", "isSo", "(I)Z"⟩, 72), (⟨"ScansionDeskModel", "reckonAll", "(II)V"⟩, 72), (⟨"ScansionDeskModel", "isMetre", "(I)Z"⟩, 72), (⟨"ScansionDeskModel", "reckon", "(IJJ)J"⟩, 72)]
theorem lw_r3 : ∀ q ∈ lw_privs_3, lw_okq q := List.forall_mem_cons.mpr ⟨lw_p32, List.forall_mem_cons.mpr ⟨lw_p33, List.forall_mem_cons.mpr ⟨lw_p34, List.forall_mem_cons.mpr ⟨lw_p35, List.forall_mem_cons.mpr ⟨lw_p36, List.forall_mem_cons.mpr ⟨lw_p37, List.forall_mem_cons.mpr ⟨lw_p38, List.forall_mem_cons.mpr ⟨lw_p39, List.forall_mem_cons.mpr ⟨lw_p40, List.forall_mem_cons.mpr ⟨lw_p41, List.forall_mem_cons.mpr ⟨lw_p42, List.forall_mem_cons.mpr ⟨lw_p43, List.forall_mem_cons.mpr ⟨lw_p44, List.forall_mem_cons.mpr ⟨lw_p45, List.forall_mem_cons.mpr ⟨lw_p46, List.forall_mem_cons.mpr ⟨lw_p47, fun _ h => absurd h List.not_mem_nil⟩⟩⟩⟩⟩⟩⟩⟩⟩⟩⟩⟩⟩⟩⟩⟩
theorem lw_p48 : lw_okq (⟨"ScansionDeskModel", "costsAs", "(II)I"⟩, 72) := ⟨⟨by decide +kernel, by decide +kernel⟩, List.mem_of_getElem? (i := 1056) (by decide +kernel), List.mem_of_getElem? (i := 1378) (by decide +kernel), List.mem_of_getElem? (i := 1379) (by decide +kernel)⟩
theorem lw_p49 : lw_okq (⟨"ScansionDeskModel", "change", "(II)I"⟩, 72) := ⟨⟨by decide +kernel, by decide +kernel⟩, List.mem_of_getElem? (i := 1056) (by decide +kernel), List.mem_of_getElem? (i := 1392) (by decide +kernel), List.mem_of_getElem? (i := 1393) (by decide +kernel)⟩
theorem lw_p50 : lw_okq (⟨"ScansionDeskModel", "four", "(I)V"⟩, 72) := ⟨⟨by decide +kernel, by decide +kernel⟩, List.mem_of_getElem? (i := 1056) (by decide +kernel), List.mem_of_getElem? (i := 1408) (by decide +kernel), List.mem_of_getElem? (i := 1409) (by decide +kernel)⟩
theorem lw_p51 : lw_okq (⟨"ScansionDeskModel", "beginText", "(Z)V"⟩, 72) := ⟨⟨by decide +kernel, by decide +kernel⟩, List.mem_of_getElem? (i := 1056) (by decide +kernel), List.mem_of_getElem? (i := 1424) (by decide +kernel), List.mem_of_getElem? (i := 1425) (by decide +kernel)⟩
theorem lw_p52 : lw_okq (⟨"ScansionDeskModel", "begin", "()V"⟩, 72) := ⟨⟨by decide +kernel, by decide +kernel⟩, List.mem_of_getElem? (i := 1056) (by decide +kernel), List.mem_of_getElem? (i := 1428) (by decide +kernel), List.mem_of_getElem? (i := 1429) (by decide +kernel)⟩
theorem lw_p53 : lw_okq (⟨"ScansionDeskModel", "next", "()V"⟩, 72) := ⟨⟨by decide +kernel, by decide +kernel⟩, List.mem_of_getElem? (i := 1056) (by decide +kernel), List.mem_of_getElem? (i := 1432) (by decide +kernel), List.mem_of_getElem? (i := 1433) (by decide +kernel)⟩
theorem lw_p54 : lw_okq (⟨"ScansionDeskModel", "readLaw", "()V"⟩, 72) := ⟨⟨by decide +kernel, by decide +kernel⟩, List.mem_of_getElem? (i := 1056) (by decide +kernel), List.mem_of_getElem? (i := 1446) (by decide +kernel), List.mem_of_getElem? (i := 1447) (by decide +kernel)⟩
theorem lw_p55 : lw_okq (⟨"ScansionDeskModel", "isWord", "(J)Z"⟩, 72) := ⟨⟨by decide +kernel, by decide +kernel⟩, List.mem_of_getElem? (i := 1056) (by decide +kernel), List.mem_of_getElem? (i := 1450) (by decide +kernel), List.mem_of_getElem? (i := 1451) (by decide +kernel)⟩
theorem lw_p56 : lw_okq (⟨"ScansionDeskModel", "must", "(Z)V"⟩, 72) := ⟨⟨by decide +kernel, by decide +kernel⟩, List.mem_of_getElem? (i := 1056) (by decide +kernel), List.mem_of_getElem? (i := 1454) (by decide +kernel), List.mem_of_getElem? (i := 1455) (by decide +kernel)⟩
theorem lw_p57 : lw_okq (⟨"ScansionDeskModel", "readExpression", "(Z)V"⟩, 72) := ⟨⟨by decide +kernel, by decide +kernel⟩, List.mem_of_getElem? (i := 1056) (by decide +kernel), List.mem_of_getElem? (i := 1458) (by decide +kernel), List.mem_of_getElem? (i := 1459) (by decide +kernel)⟩
theorem lw_p58 : lw_okq (⟨"ScansionDeskModel", "readPlain", "()I"⟩, 72) := ⟨⟨by decide +kernel, by decide +kernel⟩, List.mem_of_getElem? (i := 1056) (by decide +kernel), List.mem_of_getElem? (i := 1462) (by decide +kernel), List.mem_of_getElem? (i := 1463) (by decide +kernel)⟩
theorem lw_p59 : lw_okq (⟨"ScansionDeskModel", "push", "(II)V"⟩, 72) := ⟨⟨by decide +kernel, by decide +kernel⟩, List.mem_of_getElem? (i := 1056) (by decide +kernel), List.mem_of_getElem? (i := 1467) (by decide +kernel), List.mem_of_getElem? (i := 1468) (by decide +kernel)⟩
theorem lw_p60 : lw_okq (⟨"ScansionDeskModel", "isSign", "(I)Z"⟩, 72) := ⟨⟨by decide +kernel, by decide +kernel⟩, List.mem_of_getElem? (i := 1056) (by decide +kernel), List.mem_of_getElem? (i := 1471) (by decide +kernel), List.mem_of_getElem? (i := 1472) (by decide +kernel)⟩
theorem lw_p61 : lw_okq (⟨"ScansionDeskModel", "openBracket", "(I)V"⟩, 72) := ⟨⟨by decide +kernel, by decide +kernel⟩, List.mem_of_getElem? (i := 1056) (by decide +kernel), List.mem_of_getElem? (i := 1475) (by decide +kernel), List.mem_of_getElem? (i := 1476) (by decide +kernel)⟩
theorem lw_p62 : lw_okq (⟨"ScansionDeskModel", "readPart", "()I"⟩, 72) := ⟨⟨by decide +kernel, by decide +kernel⟩, List.mem_of_getElem? (i := 1056) (by decide +kernel), List.mem_of_getElem? (i := 1479) (by decide +kernel), List.mem_of_getElem? (i := 1480) (by decide +kernel)⟩
theorem lw_p63 : lw_okq (⟨"ScansionDeskModel", "orderPartAt", "()I"⟩, 72) := ⟨⟨by decide +kernel, by decide +kernel⟩, List.mem_of_getElem? (i := 1056) (by decide +kernel), List.mem_of_getElem? (i := 1483) (by decide +kernel), List.mem_of_getElem? (i := 1484) (by decide +kernel)⟩
def lw_privs_4 : List (MethodName × Nat) := [(⟨"ScansionDeskModel", "costsAs", "(II)I"⟩, 72), (⟨"ScansionDeskModel", "change", "(II)I"⟩, 72), (⟨"ScansionDeskModel", "four", "(I)V"⟩, 72), (⟨"ScansionDeskModel", "beginText", "(Z)V"⟩, 72), (⟨"ScansionDeskModel", "begin", "()V"⟩, 72), (⟨"ScansionDeskModel", "next", "()V"⟩, 72), (⟨"ScansionDeskModel", "readLaw", "()V"⟩, 72), (⟨"ScansionDeskModel", "isWord", "(J)Z"⟩, 72), (⟨"ScansionDeskModel", "must", "(Z)V"⟩, 72), (⟨"ScansionDeskModel", "readExpression", "(Z)V"⟩, 72), (⟨"ScansionDeskModel", "readPlain", "()I"⟩, 72), (⟨"ScansionDeskModel", "push", "(II)V"⟩, 72), (⟨"ScansionDeskModel", "isSign", "(I)Z"⟩, 72), (⟨"ScansionDeskModel", "openBracket", "(I)V"⟩, 72), (⟨"ScansionDeskModel", "readPart", "()I"⟩, 72), (⟨"ScansionDeskModel", "orderPartAt", "()I"⟩, 72)]
theorem lw_r4 : ∀ q ∈ lw_privs_4, lw_okq q := List.forall_mem_cons.mpr ⟨lw_p48, List.forall_mem_cons.mpr ⟨lw_p49, List.forall_mem_cons.mpr ⟨lw_p50, List.forall_mem_cons.mpr ⟨lw_p51, List.forall_mem_cons.mpr ⟨lw_p52, List.forall_mem_cons.mpr ⟨lw_p53, List.forall_mem_cons.mpr ⟨lw_p54, List.forall_mem_cons.mpr ⟨lw_p55, List.forall_mem_cons.mpr ⟨lw_p56, List.forall_mem_cons.mpr ⟨lw_p57, List.forall_mem_cons.mpr ⟨lw_p58, List.forall_mem_cons.mpr ⟨lw_p59, List.forall_mem_cons.mpr ⟨lw_p60, List.forall_mem_cons.mpr ⟨lw_p61, List.forall_mem_cons.mpr ⟨lw_p62, List.forall_mem_cons.mpr ⟨lw_p63, fun _ h => absurd h List.not_mem_nil⟩⟩⟩⟩⟩⟩⟩⟩⟩⟩⟩⟩⟩⟩⟩⟩
theorem lw_p64 : lw_okq (⟨"ScansionDeskModel", "partAt", "()I"⟩, 72) := ⟨⟨by decide +kernel, by decide +kernel⟩, List.mem_of_getElem? (i := 1056) (by decide +kernel), List.mem_of_getElem? (i := 1487) (by decide +kernel), List.mem_of_getElem? (i := 1488) (by decide +kernel)⟩
theorem lw_p65 : lw_okq (⟨"ScansionDeskModel", "leaf", "(ZII)V"⟩, 72) := ⟨⟨by decide +kernel, by decide +kernel⟩, List.mem_of_getElem? (i := 1056) (by decide +kernel), List.mem_of_getElem? (i := 1492) (by decide +kernel), List.mem_of_getElem? (i := 1493) (by decide +kernel)⟩
theorem lw_p66 : lw_okq (⟨"ScansionDeskModel", "emit", "(II)V"⟩, 72) := ⟨⟨by decide +kernel, by decide +kernel⟩, List.mem_of_getElem? (i := 1056) (by decide +kernel), List.mem_of_getElem? (i := 1496) (by decide +kernel), List.mem_of_getElem? (i := 1497) (by decide +kernel)⟩
theorem lw_p67 : lw_okq (⟨"ScansionDeskModel", "number", "(JJ)I"⟩, 72) := ⟨⟨by decide +kernel, by decide +kernel⟩, List.mem_of_getElem? (i := 1056) (by decide +kernel), List.mem_of_getElem? (i := 1501) (by decide +kernel), List.mem_of_getElem? (i := 1502) (by decide +kernel)⟩
theorem lw_p68 : lw_okq (⟨"ScansionDeskModel", "behindSum", "(Z)I"⟩, 72) := ⟨⟨by decide +kernel, by decide +kernel⟩, List.mem_of_getElem? (i := 1056) (by decide +kernel), List.mem_of_getElem? (i := 1505) (by decide +kernel), List.mem_of_getElem? (i := 1506) (by decide +kernel)⟩
theorem lw_p69 : lw_okq (⟨"ScansionDeskModel", "settle", "(I)V"⟩, 72) := ⟨⟨by decide +kernel, by decide +kernel⟩, List.mem_of_getElem? (i := 1056) (by decide +kernel), List.mem_of_getElem? (i := 1512) (by decide +kernel), List.mem_of_getElem? (i := 1513) (by decide +kernel)⟩
theorem lw_p70 : lw_okq (⟨"ScansionDeskModel", "inner", "()I"⟩, 72) := ⟨⟨by decide +kernel, by decide +kernel⟩, List.mem_of_getElem? (i := 1056) (by decide +kernel), List.mem_of_getElem? (i := 1516) (by decide +kernel), List.mem_of_getElem? (i := 1517) (by decide +kernel)⟩
theorem lw_p71 : lw_okq (⟨"ScansionDeskModel", "isCompared", "()Z"⟩, 72) := ⟨⟨by decide +kernel, by decide +kernel⟩, List.mem_of_getElem? (i := 1056) (by decide +kernel), List.mem_of_getElem? (i := 1520) (by decide +kernel), List.mem_of_getElem? (i := 1521) (by decide +kernel)⟩
theorem lw_p72 : lw_okq (⟨"ScansionDeskModel", "behindTest", "()I"⟩, 72) := ⟨⟨by decide +kernel, by decide +kernel⟩, List.mem_of_getElem? (i := 1056) (by decide +kernel), List.mem_of_getElem? (i := 1528) (by decide +kernel), List.mem_of_getElem? (i := 1529) (by decide +kernel)⟩
theorem lw_p73 : lw_okq (⟨"ScansionDeskModel", "endText", "()V"⟩, 72) := ⟨⟨by decide +kernel, by decide +kernel⟩, List.mem_of_getElem? (i := 1056) (by decide +kernel), List.mem_of_getElem? (i := 1535) (by decide +kernel), List.mem_of_getElem? (i := 1536) (by decide +kernel)⟩
theorem lw_p74 : lw_okq (⟨"ScansionDeskModel", "isLaw", "(I)Z"⟩, 72) := ⟨⟨by decide +kernel, by decide +kernel⟩, List.mem_of_getElem? (i := 1056) (by decide +kernel), List.mem_of_getElem? (i := 1543) (by decide +kernel), List.mem_of_getElem? (i := 1544) (by decide +kernel)⟩
theorem lw_p75 : lw_okq (⟨"ScansionDeskModel", "readMetre", "()V"⟩, 72) := ⟨⟨by decide +kernel, by decide +kernel⟩, List.mem_of_getElem? (i := 1056) (by decide +kernel), List.mem_of_getElem? (i := 1551) (by decide +kernel), List.mem_of_getElem? (i := 1552) (by decide +kernel)⟩
theorem lw_p76 : lw_okq (⟨"ScansionDeskModel", "beginMetre", "()V"⟩, 72) := ⟨⟨by decide +kernel, by decide +kernel⟩, List.mem_of_getElem? (i := 1056) (by decide +kernel), List.mem_of_getElem? (i := 1555) (by decide +kernel), List.mem_of_getElem? (i := 1556) (by decide +kernel)⟩
theorem lw_p77 : lw_okq (⟨"ScansionDeskModel", "beginUnit", "()Z"⟩, 72) := ⟨⟨by decide +kernel, by decide +kernel⟩, List.mem_of_getElem? (i := 1056) (by decide +kernel), List.mem_of_getElem? (i := 1559) (by decide +kernel), List.mem_of_getElem? (i := 1560) (by decide +kernel)⟩
theorem lw_p78 : lw_okq (⟨"ScansionDeskModel", "stepAt", "()I"⟩, 72) := ⟨⟨by decide +kernel, by decide +kernel⟩, List.mem_of_getElem? (i := 1056) (by decide +kernel), List.mem_of_getElem? (i := 1563) (by decide +kernel), List.mem_of_getElem? (i := 1564) (by decide +kernel)⟩
theorem lw_p79 : lw_okq (⟨"ScansionDeskModel", "sign", "(I)V"⟩, 72) := ⟨⟨by decide +kernel, by decide +kernel⟩, List.mem_of_getElem? (i := 1056) (by decide +kernel), List.mem_of_getElem? (i := 1567) (by decide +kernel), List.mem_of_getElem? (i := 1568) (by decide +kernel)⟩
def lw_privs_5 : List (MethodName × Nat) := [(⟨"ScansionDeskModel", "partAt", "()I"⟩, 72), (⟨"ScansionDeskModel", "leaf", "(ZII)V"⟩, 72), (⟨"ScansionDeskModel", "emit", "(II)V"⟩, 72), (⟨"ScansionDeskModel", "number", "(JJ)I"⟩, 72), (⟨"ScansionDeskModel", "behindSum", "(Z)I"⟩, 72), (⟨"ScansionDeskModel", "settle", "(I)V"⟩, 72), (⟨"ScansionDeskModel", "inner", "()I"⟩, 72), (⟨"ScansionDeskModel", "isCompared", "()Z"⟩, 72), (⟨"ScansionDeskModel", "behindTest", "()I"⟩, 72), (⟨"ScansionDeskModel", "endText", "()V"⟩, 72), (⟨"ScansionDeskModel", "isLaw", "(I)Z"⟩, 72), (⟨"ScansionDeskModel", "readMetre", "()V"⟩, 72), (⟨"ScansionDeskModel", "beginMetre", "()V"⟩, 72), (⟨"ScansionDeskModel", "beginUnit", "()Z"⟩, 72), (⟨"ScansionDeskModel", "stepAt", "()I"⟩, 72), (⟨"ScansionDeskModel", "sign", "(I)V"⟩, 72)]
theorem lw_r5 : ∀ q ∈ lw_privs_5, lw_okq q := List.forall_mem_cons.mpr ⟨lw_p64, List.forall_mem_cons.mpr ⟨lw_p65, List.forall_mem_cons.mpr ⟨lw_p66, List.forall_mem_cons.mpr ⟨lw_p67, List.forall_mem_cons.mpr ⟨lw_p68, List.forall_mem_cons.mpr ⟨lw_p69, List.forall_mem_cons.mpr ⟨lw_p70, List.forall_mem_cons.mpr ⟨lw_p71, List.forall_mem_cons.mpr ⟨lw_p72, List.forall_mem_cons.mpr ⟨lw_p73, List.forall_mem_cons.mpr ⟨lw_p74, List.forall_mem_cons.mpr ⟨lw_p75, List.forall_mem_cons.mpr ⟨lw_p76, List.forall_mem_cons.mpr ⟨lw_p77, List.forall_mem_cons.mpr ⟨lw_p78, List.forall_mem_cons.mpr ⟨lw_p79, fun _ h => absurd h List.not_mem_nil⟩⟩⟩⟩⟩⟩⟩⟩⟩⟩⟩⟩⟩⟩⟩⟩
theorem lw_p80 : lw_okq (⟨"ScansionDeskModel", "endUnit", "()V"⟩, 72) := ⟨⟨by decide +kernel, by decide +kernel⟩, List.mem_of_getElem? (i := 1056) (by decide +kernel), List.mem_of_getElem? (i := 1571) (by decide +kernel), List.mem_of_getElem? (i := 1572) (by decide +kernel)⟩
theorem lw_p81 : lw_okq (⟨"ScansionDeskModel", "endChoice", "()V"⟩, 72) := ⟨⟨by decide +kernel, by decide +kernel⟩, List.mem_of_getElem? (i := 1056) (by decide +kernel), List.mem_of_getElem? (i := 1576) (by decide +kernel), List.mem_of_getElem? (i := 1577) (by decide +kernel)⟩
theorem lw_p82 : lw_okq (⟨"ScansionDeskModel", "stepsOfRaw", "()I"⟩, 72) := ⟨⟨by decide +kernel, by decide +kernel⟩, List.mem_of_getElem? (i := 1056) (by decide +kernel), List.mem_of_getElem? (i := 1580) (by decide +kernel), List.mem_of_getElem? (i := 1581) (by decide +kernel)⟩
theorem lw_p83 : lw_okq (⟨"ScansionDeskModel", "writeOut", "()I"⟩, 72) := ⟨⟨by decide +kernel, by decide +kernel⟩, List.mem_of_getElem? (i := 1056) (by decide +kernel), List.mem_of_getElem? (i := 1585) (by decide +kernel), List.mem_of_getElem? (i := 1586) (by decide +kernel)⟩
theorem lw_p84 : lw_okq (⟨"ScansionDeskModel", "repeat", "(III)I"⟩, 72) := ⟨⟨by decide +kernel, by decide +kernel⟩, List.mem_of_getElem? (i := 1056) (by decide +kernel), List.mem_of_getElem? (i := 1589) (by decide +kernel), List.mem_of_getElem? (i := 1590) (by decide +kernel)⟩
theorem lw_p85 : lw_okq (⟨"ScansionDeskModel", "layMetre", "(I)V"⟩, 72) := ⟨⟨by decide +kernel, by decide +kernel⟩, List.mem_of_getElem? (i := 1056) (by decide +kernel), List.mem_of_getElem? (i := 1597) (by decide +kernel), List.mem_of_getElem? (i := 1598) (by decide +kernel)⟩
theorem lw_p86 : lw_okq (⟨"ScansionDeskModel", "join", "(III)V"⟩, 72) := ⟨⟨by decide +kernel, by decide +kernel⟩, List.mem_of_getElem? (i := 1056) (by decide +kernel), List.mem_of_getElem? (i := 1601) (by decide +kernel), List.mem_of_getElem? (i := 1602) (by decide +kernel)⟩
theorem lw_p87 : lw_okq (⟨"ScansionDeskModel", "leastOf", "(II)I"⟩, 72) := ⟨⟨by decide +kernel, by decide +kernel⟩, List.mem_of_getElem? (i := 1056) (by decide +kernel), List.mem_of_getElem? (i := 1609) (by decide +kernel), List.mem_of_getElem? (i := 1610) (by decide +kernel)⟩
theorem lw_p88 : lw_okq (⟨"ScansionDeskModel", "layPrices", "(I)V"⟩, 72) := ⟨⟨by decide +kernel, by decide +kernel⟩, List.mem_of_getElem? (i := 1056) (by decide +kernel), List.mem_of_getElem? (i := 1613) (by decide +kernel), List.mem_of_getElem? (i := 1614) (by decide +kernel)⟩
theorem lw_p89 : lw_okq (⟨"ScansionDeskModel", "layLeft", "()I"⟩, 72) := ⟨⟨by decide +kernel, by decide +kernel⟩, List.mem_of_getElem? (i := 1056) (by decide +kernel), List.mem_of_getElem? (i := 1618) (by decide +kernel), List.mem_of_getElem? (i := 1619) (by decide +kernel)⟩
theorem lw_p90 : lw_okq (⟨"ScansionDeskModel", "leftFrom", "(II)I"⟩, 72) := ⟨⟨by decide +kernel, by decide +kernel⟩, List.mem_of_getElem? (i := 1056) (by decide +kernel), List.mem_of_getElem? (i := 1622) (by decide +kernel), List.mem_of_getElem? (i := 1623) (by decide +kernel)⟩
theorem lw_p91 : lw_okq (⟨"ScansionDeskModel", "isOver", "(I)Z"⟩, 72) := ⟨⟨by decide +kernel, by decide +kernel⟩, List.mem_of_getElem? (i := 1056) (by decide +kernel), List.mem_of_getElem? (i := 1626) (by decide +kernel), List.mem_of_getElem? (i := 1627) (by decide +kernel)⟩
theorem lw_p92 : lw_okq (⟨"ScansionDeskModel", "canCut", "(I)Z"⟩, 72) := ⟨⟨by decide +kernel, by decide +kernel⟩, List.mem_of_getElem? (i := 1056) (by decide +kernel), List.mem_of_getElem? (i := 1630) (by decide +kernel), List.mem_of_getElem? (i := 1631) (by decide +kernel)⟩
theorem lw_p93 : lw_okq (⟨"ScansionDeskModel", "stepPrice", "(II)I"⟩, 72) := ⟨⟨by decide +kernel, by decide +kernel⟩, List.mem_of_getElem? (i := 1056) (by decide +kernel), List.mem_of_getElem? (i := 1634) (by decide +kernel), List.mem_of_getElem? (i := 1635) (by decide +kernel)⟩
theorem lw_p94 : lw_okq (⟨"ScansionDeskModel", "readBest", "()V"⟩, 72) := ⟨⟨by decide +kernel, by decide +kernel⟩, List.mem_of_getElem? (i := 1056) (by decide +kernel), List.mem_of_getElem? (i := 1638) (by decide +kernel), List.mem_of_getElem? (i := 1639) (by decide +kernel)⟩
theorem lw_p95 : lw_okq (⟨"ScansionDeskModel", "passCuts", "(II)V"⟩, 72) := ⟨⟨by decide +kernel, by decide +kernel⟩, List.mem_of_getElem? (i := 1056) (by decide +kernel), List.mem_of_getElem? (i := 1642) (by decide +kernel), List.mem_of_getElem? (i := 1643) (by decide +kernel)⟩
def lw_privs_6 : List (MethodName × Nat) := [(⟨"ScansionDeskModel", "endUnit", "()V"⟩, 72), (⟨"ScansionDeskModel", "endChoice", "()V"⟩, 72), (⟨"ScansionDeskModel", "stepsOfRaw", "()I"⟩, 72), (⟨"ScansionDeskModel", "writeOut", "()I"⟩, 72), (⟨"ScansionDeskModel", "repeat", "(III)I"⟩, 72), (⟨"ScansionDeskModel", "layMetre", "(I)V"⟩, 72), (⟨"ScansionDeskModel", "join", "(III)V"⟩, 72), (⟨"ScansionDeskModel", "leastOf", "(II)I"⟩, 72), (⟨"ScansionDeskModel", "layPrices", "(I)V"⟩, 72), (⟨"ScansionDeskModel", "layLeft", "()I"⟩, 72), (⟨"ScansionDeskModel", "leftFrom", "(II)I"⟩, 72), (⟨"ScansionDeskModel", "isOver", "(I)Z"⟩, 72), (⟨"ScansionDeskModel", "canCut", "(I)Z"⟩, 72), (⟨"ScansionDeskModel", "stepPrice", "(II)I"⟩, 72), (⟨"ScansionDeskModel", "readBest", "()V"⟩, 72), (⟨"ScansionDeskModel", "passCuts", "(II)V"⟩, 72)]
theorem lw_r6 : ∀ q ∈ lw_privs_6, lw_okq q := List.forall_mem_cons.mpr ⟨lw_p80, List.forall_mem_cons.mpr ⟨lw_p81, List.forall_mem_cons.mpr ⟨lw_p82, List.forall_mem_cons.mpr ⟨lw_p83, List.forall_mem_cons.mpr ⟨lw_p84, List.forall_mem_cons.mpr ⟨lw_p85, List.forall_mem_cons.mpr ⟨lw_p86, List.forall_mem_cons.mpr ⟨lw_p87, List.forall_mem_cons.mpr ⟨lw_p88, List.forall_mem_cons.mpr ⟨lw_p89, List.forall_mem_cons.mpr ⟨lw_p90, List.forall_mem_cons.mpr ⟨lw_p91, List.forall_mem_cons.mpr ⟨lw_p92, List.forall_mem_cons.mpr ⟨lw_p93, List.forall_mem_cons.mpr ⟨lw_p94, List.forall_mem_cons.mpr ⟨lw_p95, fun _ h => absurd h List.not_mem_nil⟩⟩⟩⟩⟩⟩⟩⟩⟩⟩⟩⟩⟩⟩⟩⟩
theorem lw_p96 : lw_okq (⟨"ScansionDeskModel", "layThen", "(III)Z"⟩, 72) := ⟨⟨by decide +kernel, by decide +kernel⟩, List.mem_of_getElem? (i := 1056) (by decide +kernel), List.mem_of_getElem? (i := 1646) (by decide +kernel), List.mem_of_getElem? (i := 1647) (by decide +kernel)⟩
theorem lw_p97 : lw_okq (⟨"ScansionDeskModel", "isReached", "(II)Z"⟩, 72) := ⟨⟨by decide +kernel, by decide +kernel⟩, List.mem_of_getElem? (i := 1056) (by decide +kernel), List.mem_of_getElem? (i := 1665) (by decide +kernel), List.mem_of_getElem? (i := 1666) (by decide +kernel)⟩
theorem lw_p98 : lw_okq (⟨"ScansionDeskModel", "fitting", "()I"⟩, 72) := ⟨⟨by decide +kernel, by decide +kernel⟩, List.mem_of_getElem? (i := 1056) (by decide +kernel), List.mem_of_getElem? (i := 1677) (by decide +kernel), List.mem_of_getElem? (i := 1678) (by decide +kernel)⟩
theorem lw_p99 : lw_okq (⟨"ScansionDeskModel", "weighNow", "(II)I"⟩, 72) := ⟨⟨by decide +kernel, by decide +kernel⟩, List.mem_of_getElem? (i := 1056) (by decide +kernel), List.mem_of_getElem? (i := 1689) (by decide +kernel), List.mem_of_getElem? (i := 1690) (by decide +kernel)⟩
theorem lw_p100 : lw_okq (⟨"ScansionDeskModel", "remember", "(I)V"⟩, 72) := ⟨⟨by decide +kernel, by decide +kernel⟩, List.mem_of_getElem? (i := 1056) (by decide +kernel), List.mem_of_getElem? (i := 1693) (by decide +kernel), List.mem_of_getElem? (i := 1694) (by decide +kernel)⟩
theorem lw_p101 : lw_okq (⟨"ScansionDeskModel", "keepAll", "(I)V"⟩, 72) := ⟨⟨by decide +kernel, by decide +kernel⟩, List.mem_of_getElem? (i := 1056) (by decide +kernel), List.mem_of_getElem? (i := 1697) (by decide +kernel), List.mem_of_getElem? (i := 1698) (by decide +kernel)⟩
theorem lw_p102 : lw_okq (⟨"ScansionDeskModel", "toggle", "(III)I"⟩, 72) := ⟨⟨by decide +kernel, by decide +kernel⟩, List.mem_of_getElem? (i := 1056) (by decide +kernel), List.mem_of_getElem? (i := 1705) (by decide +kernel), List.mem_of_getElem? (i := 1706) (by decide +kernel)⟩
theorem lw_p103 : lw_okq (⟨"ScansionDeskModel", "passNow", "()I"⟩, 72) := ⟨⟨by decide +kernel, by decide +kernel⟩, List.mem_of_getElem? (i := 1056) (by decide +kernel), List.mem_of_getElem? (i := 1717) (by decide +kernel), List.mem_of_getElem? (i := 1718) (by decide +kernel)⟩
theorem lw_p104 : lw_okq (⟨"ScansionDeskModel", "many", "(I)I"⟩, 72) := ⟨⟨by decide +kernel, by decide +kernel⟩, List.mem_of_getElem? (i := 1056) (by decide +kernel), List.mem_of_getElem? (i := 1721) (by decide +kernel), List.mem_of_getElem? (i := 1722) (by decide +kernel)⟩
theorem lw_p105 : lw_okq (⟨"ScansionDeskModel", "thatCanBe", "()I"⟩, 72) := ⟨⟨by decide +kernel, by decide +kernel⟩, List.mem_of_getElem? (i := 1056) (by decide +kernel), List.mem_of_getElem? (i := 1737) (by decide +kernel), List.mem_of_getElem? (i := 1738) (by decide +kernel)⟩
theorem lw_p106 : lw_okq (⟨"ScansionDeskModel", "isHeard", "(I)Z"⟩, 72) := ⟨⟨by decide +kernel, by decide +kernel⟩, List.mem_of_getElem? (i := 1056) (by decide +kernel), List.mem_of_getElem? (i := 1741) (by decide +kernel), List.mem_of_getElem? (i := 1742) (by decide +kernel)⟩
theorem lw_p107 : lw_okq (⟨"ScansionDeskModel", "mostAlike", "(II)I"⟩, 72) := ⟨⟨by decide +kernel, by decide +kernel⟩, List.mem_of_getElem? (i := 1056) (by decide +kernel), List.mem_of_getElem? (i := 1752) (by decide +kernel), List.mem_of_getElem? (i := 1753) (by decide +kernel)⟩
theorem lw_p108 : lw_okq (⟨"ScansionDeskModel", "readOrder", "()V"⟩, 72) := ⟨⟨by decide +kernel, by decide +kernel⟩, List.mem_of_getElem? (i := 1056) (by decide +kernel), List.mem_of_getElem? (i := 1766) (by decide +kernel), List.mem_of_getElem? (i := 1767) (by decide +kernel)⟩
theorem lw_p109 : lw_okq (⟨"ScansionDeskModel", "readSum", "(I)V"⟩, 72) := ⟨⟨by decide +kernel, by decide +kernel⟩, List.mem_of_getElem? (i := 1056) (by decide +kernel), List.mem_of_getElem? (i := 1770) (by decide +kernel), List.mem_of_getElem? (i := 1771) (by decide +kernel)⟩
theorem lw_p110 : lw_okq (⟨"ScansionDeskModel", "run", "(I)I"⟩, 72) := ⟨⟨by decide +kernel, by decide +kernel⟩, List.mem_of_getElem? (i := 1056) (by decide +kernel), List.mem_of_getElem? (i := 1775) (by decide +kernel), List.mem_of_getElem? (i := 1776) (by decide +kernel)⟩
theorem lw_p111 : lw_okq (⟨"ScansionDeskModel", "sumOf", "(I)I"⟩, 72) := ⟨⟨by decide +kernel, by decide +kernel⟩, List.mem_of_getElem? (i := 1056) (by decide +kernel), List.mem_of_getElem? (i := 1779) (by decide +kernel), List.mem_of_getElem? (i := 1780) (by decide +kernel)⟩
def lw_privs_7 : List (MethodName × Nat) := [(⟨"ScansionDeskModel", "layThen", "(III)Z"⟩, 72), (⟨"ScansionDeskModel", "isReached", "(II)Z"⟩, 72), (⟨"ScansionDeskModel", "fitting", "()I"⟩, 72), (⟨"ScansionDeskModel", "weighNow", "(II)I"⟩, 72), (⟨"ScansionDeskModel", "remember", "(I)V"⟩, 72), (⟨"ScansionDeskModel", "keepAll", "(I)V"⟩, 72), (⟨"ScansionDeskModel", "toggle", "(III)I"⟩, 72), (⟨"ScansionDeskModel", "passNow", "()I"⟩, 72), (⟨"ScansionDeskModel", "many", "(I)I"⟩, 72), (⟨"ScansionDeskModel", "thatCanBe", "()I"⟩, 72), (⟨"ScansionDeskModel", "isHeard", "(I)Z"⟩, 72), (⟨"ScansionDeskModel", "mostAlike", "(II)I"⟩, 72), (⟨"ScansionDeskModel", "readOrder", "()V"⟩, 72), (⟨"ScansionDeskModel", "readSum", "(I)V"⟩, 72), (⟨"ScansionDeskModel", "run", "(I)I"⟩, 72), (⟨"ScansionDeskModel", "sumOf", "(I)I"⟩, 72)]
theorem lw_r7 : ∀ q ∈ lw_privs_7, lw_okq q := List.forall_mem_cons.mpr ⟨lw_p96, List.forall_mem_cons.mpr ⟨lw_p97, List.forall_mem_cons.mpr ⟨lw_p98, List.forall_mem_cons.mpr ⟨lw_p99, List.forall_mem_cons.mpr ⟨lw_p100, List.forall_mem_cons.mpr ⟨lw_p101, List.forall_mem_cons.mpr ⟨lw_p102, List.forall_mem_cons.mpr ⟨lw_p103, List.forall_mem_cons.mpr ⟨lw_p104, List.forall_mem_cons.mpr ⟨lw_p105, List.forall_mem_cons.mpr ⟨lw_p106, List.forall_mem_cons.mpr ⟨lw_p107, List.forall_mem_cons.mpr ⟨lw_p108, List.forall_mem_cons.mpr ⟨lw_p109, List.forall_mem_cons.mpr ⟨lw_p110, List.forall_mem_cons.mpr ⟨lw_p111, fun _ h => absurd h List.not_mem_nil⟩⟩⟩⟩⟩⟩⟩⟩⟩⟩⟩⟩⟩⟩⟩⟩
theorem lw_p112 : lw_okq (⟨"ScansionDeskModel", "act", "(III)I"⟩, 72) := ⟨⟨by decide +kernel, by decide +kernel⟩, List.mem_of_getElem? (i := 1056) (by decide +kernel), List.mem_of_getElem? (i := 1783) (by decide +kernel), List.mem_of_getElem? (i := 1784) (by decide +kernel)⟩
theorem lw_p113 : lw_okq (⟨"ScansionDeskModel", "giveBack", "(I)V"⟩, 72) := ⟨⟨by decide +kernel, by decide +kernel⟩, List.mem_of_getElem? (i := 1056) (by decide +kernel), List.mem_of_getElem? (i := 1787) (by decide +kernel), List.mem_of_getElem? (i := 1788) (by decide +kernel)⟩
theorem lw_p114 : lw_okq (⟨"ScansionDeskModel", "draw", "(I)I"⟩, 72) := ⟨⟨by decide +kernel, by decide +kernel⟩, List.mem_of_getElem? (i := 1056) (by decide +kernel), List.mem_of_getElem? (i := 1800) (by decide +kernel), List.mem_of_getElem? (i := 1801) (by decide +kernel)⟩
def lw_privs_8 : List (MethodName × Nat) := [(⟨"ScansionDeskModel", "act", "(III)I"⟩, 72), (⟨"ScansionDeskModel", "giveBack", "(I)V"⟩, 72), (⟨"ScansionDeskModel", "draw", "(I)I"⟩, 72)]
theorem lw_r8 : ∀ q ∈ lw_privs_8, lw_okq q := List.forall_mem_cons.mpr ⟨lw_p112, List.forall_mem_cons.mpr ⟨lw_p113, List.forall_mem_cons.mpr ⟨lw_p114, fun _ h => absurd h List.not_mem_nil⟩⟩⟩
def lw_privs : List (MethodName × Nat) := lw_privs_1 ++ (lw_privs_2 ++ (lw_privs_3 ++ (lw_privs_4 ++ (lw_privs_5 ++ (lw_privs_6 ++ (lw_privs_7 ++ (lw_privs_8)))))))
def lw_tbl : List Cond := k2_sels lw_privs ++ tables_1
theorem lw_privs_ok : ∀ q ∈ lw_privs, lw_okq q := by
  show ∀ q ∈ lw_privs_1 ++ (lw_privs_2 ++ (lw_privs_3 ++ (lw_privs_4 ++ (lw_privs_5 ++ (lw_privs_6 ++ (lw_privs_7 ++ (lw_privs_8))))))), lw_okq q
  exact List.forall_mem_append.mpr ⟨lw_r1, List.forall_mem_append.mpr ⟨lw_r2, List.forall_mem_append.mpr ⟨lw_r3, List.forall_mem_append.mpr ⟨lw_r4, List.forall_mem_append.mpr ⟨lw_r5, List.forall_mem_append.mpr ⟨lw_r6, List.forall_mem_append.mpr ⟨lw_r7, lw_r8⟩⟩⟩⟩⟩⟩⟩

theorem goodIn_r {big : List Cond} (ws : List Cond) (ps : List Nat) (hp : ws = ps.filterMap (fun i => big[i]?)) (h : ws.all goodWord = true) : GoodIn big ws := by
  intro w hw
  have h1 := List.all_eq_true.mp h w hw
  rw [hp] at hw
  obtain ⟨i, -, hi⟩ := List.mem_filterMap.mp hw
  have hm : w ∈ big := by first | exact List.mem_of_getElem? hi | exact List.getElem?_mem hi
  exact ⟨hm, good_of_word h1⟩
theorem goodIn_app {big a b : List Cond} (ha : GoodIn big a) (hb : GoodIn big b) : GoodIn big (a ++ b) := fun w h => (List.mem_append.mp h).elim (ha w) (hb w)
theorem goodIn_ca {big a b : List Cond} {c : Cond} (ha : GoodIn big (c :: a)) (hb : GoodIn big b) : GoodIn big (c :: (a ++ b)) := fun w h => (List.mem_cons.mp h).elim (fun e => ha w (List.mem_cons.mpr (Or.inl e))) (fun h => (List.mem_append.mp h).elim (fun h => ha w (List.mem_cons.mpr (Or.inr h))) (hb w))
theorem goodIn_sub {big ws : List Cond} (hm : ∀ w ∈ ws, w ∈ big) (h : ws.all goodWord = true) : GoodIn big ws := fun w hw => ⟨hm w hw, good_of_word (List.all_eq_true.mp h w hw)⟩
def RX0 : String := "ScansionDesk$ClauseReader"
def TX0 : u_T := fun k => match k with
  | 0 => ("ScansionDesk$ClauseReader", "text", "LScansionDesk$Clauses;", true)
  | 1 => ("ScansionDesk$ClauseReader", "forOrders", "Z", false)
  | _ => ("ScansionDesk$ClauseReader", "parts", "I", false)
def tyX0 : Nat → FieldType := fun k => match k with
  | 0 => .object "ScansionDesk$Clauses"
  | 1 => .boolean
  | _ => .int
abbrev wsX00 : List Cond := u_ws RX0 TX0 3
theorem nmX0 : ∀ a, a < 3 → ∀ b, b < 3 → a ≠ b → (TX0 a).2.1 ≠ (TX0 b).2.1 := by decide +kernel
theorem tyX0_ok : ∀ k, k < 3 → parseFieldDescriptor (TX0 k).2.2.1 = some (tyX0 k) := by decide +kernel
abbrev cX0_init : ByteArray := prog_2_method_1_code
def yX0_init : MethodName := ⟨RX0, "<init>", "()V"⟩
abbrev cX0_readText : ByteArray := prog_2_method_2_code
def yX0_readText : MethodName := ⟨RX0, "readText", "(LScansionDesk$Tokens;Z)Z"⟩
abbrev cX0_readClause : ByteArray := prog_2_method_3_code
def yX0_readClause : MethodName := ⟨RX0, "readClause", "(LScansionDesk$Tokens;I)V"⟩
abbrev cX0_readTimes : ByteArray := prog_2_method_4_code
def yX0_readTimes : MethodName := ⟨RX0, "readTimes", "(LScansionDesk$Tokens;I)V"⟩
abbrev cX0_readTest : ByteArray := prog_2_method_5_code
def yX0_readTest : MethodName := ⟨RX0, "readTest", "(LScansionDesk$Tokens;I)V"⟩
abbrev cX0_skipNots : ByteArray := prog_2_method_6_code
def yX0_skipNots : MethodName := ⟨RX0, "skipNots", "(LScansionDesk$Tokens;)Z"⟩
abbrev cX0_readComparison : ByteArray := prog_2_method_7_code
def yX0_readComparison : MethodName := ⟨RX0, "readComparison", "(LScansionDesk$Tokens;)I"⟩
abbrev cX0_readSum : ByteArray := prog_2_method_8_code
def yX0_readSum : MethodName := ⟨RX0, "readSum", "(LScansionDesk$Tokens;I)V"⟩
abbrev cX0_scalingOp : ByteArray := prog_2_method_9_code
def yX0_scalingOp : MethodName := ⟨RX0, "scalingOp", "(I)I"⟩
abbrev cX0_readPart : ByteArray := prog_2_method_10_code
def yX0_readPart : MethodName := ⟨RX0, "readPart", "(LScansionDesk$Tokens;I)V"⟩
abbrev cX0_readLawWord : ByteArray := prog_2_method_11_code
def yX0_readLawWord : MethodName := ⟨RX0, "readLawWord", "(LScansionDesk$Tokens;)V"⟩
abbrev cX0_readOrderWord : ByteArray := prog_2_method_12_code
def yX0_readOrderWord : MethodName := ⟨RX0, "readOrderWord", "(LScansionDesk$Tokens;)V"⟩
def RX1 : String := "ScansionDesk$Clauses"
def TX1 : u_T := fun k => match k with
  | 0 => ("ScansionDesk$Clauses", "code", "[I", true)
  | 1 => ("ScansionDesk$Clauses", "fields", "[I", true)
  | 2 => ("ScansionDesk$Clauses", "count", "I", false)
  | 3 => ("ScansionDesk$Clauses", "codeSize", "I", false)
  | _ => ("ScansionDesk$Clauses", "asksScans", "Z", false)
def tyX1 : Nat → FieldType := fun k => match k with
  | 0 => .array .int
  | 1 => .array .int
  | 2 => .int
  | 3 => .int
  | _ => .boolean
abbrev wsX10 : List Cond := u_ws RX1 TX1 5
theorem nmX1 : ∀ a, a < 5 → ∀ b, b < 5 → a ≠ b → (TX1 a).2.1 ≠ (TX1 b).2.1 := by decide +kernel
theorem tyX1_ok : ∀ k, k < 5 → parseFieldDescriptor (TX1 k).2.2.1 = some (tyX1 k) := by decide +kernel
abbrev cX1_init : ByteArray := prog_3_method_1_code
def yX1_init : MethodName := ⟨RX1, "<init>", "([I[I)V"⟩
abbrev cX1_fieldsFor : ByteArray := prog_3_method_2_code
def yX1_fieldsFor : MethodName := ⟨RX1, "fieldsFor", "(I)[I"⟩
abbrev cX1_told : ByteArray := prog_3_method_3_code
def yX1_told : MethodName := ⟨RX1, "told", "(II)I"⟩
abbrev cX1_tell : ByteArray := prog_3_method_4_code
def yX1_tell : MethodName := ⟨RX1, "tell", "(III)V"⟩
abbrev cX1_write : ByteArray := prog_3_method_5_code
def yX1_write : MethodName := ⟨RX1, "write", "(II)I"⟩
abbrev cX1_aim : ByteArray := prog_3_method_6_code
def yX1_aim : MethodName := ⟨RX1, "aim", "(I)V"⟩
abbrev cX1_compact : ByteArray := prog_3_method_7_code
def yX1_compact : MethodName := ⟨RX1, "compact", "()LScansionDesk$Clauses;"⟩
def RX2 : String := "ScansionDesk$History"
def TX2 : u_T := fun k => match k with
  | 0 => ("ScansionDesk$History", "kinds", "[I", true)
  | 1 => ("ScansionDesk$History", "syllables", "[I", true)
  | 2 => ("ScansionDesk$History", "weights", "[I", true)
  | _ => ("ScansionDesk$History", "size", "I", false)
def tyX2 : Nat → FieldType := fun k => match k with
  | 0 => .array .int
  | 1 => .array .int
  | 2 => .array .int
  | _ => .int
abbrev wsX20 : List Cond := u_ws RX2 TX2 4
theorem nmX2 : ∀ a, a < 4 → ∀ b, b < 4 → a ≠ b → (TX2 a).2.1 ≠ (TX2 b).2.1 := by decide +kernel
theorem tyX2_ok : ∀ k, k < 4 → parseFieldDescriptor (TX2 k).2.2.1 = some (tyX2 k) := by decide +kernel
abbrev cX2_init : ByteArray := prog_4_method_1_code
def yX2_init : MethodName := ⟨RX2, "<init>", "()V"⟩
abbrev cX2_copyFrom : ByteArray := prog_4_method_2_code
def yX2_copyFrom : MethodName := ⟨RX2, "copyFrom", "(LScansionDesk$History;)V"⟩
abbrev cX2_add : ByteArray := prog_4_method_3_code
def yX2_add : MethodName := ⟨RX2, "add", "(III)V"⟩
abbrev cX2_dropOldest : ByteArray := prog_4_method_4_code
def yX2_dropOldest : MethodName := ⟨RX2, "dropOldest", "()V"⟩
abbrev cX2_latestKind : ByteArray := prog_4_method_5_code
def yX2_latestKind : MethodName := ⟨RX2, "latestKind", "()I"⟩
abbrev cX2_latestSyllable : ByteArray := prog_4_method_6_code
def yX2_latestSyllable : MethodName := ⟨RX2, "latestSyllable", "()I"⟩
abbrev cX2_latestWeight : ByteArray := prog_4_method_7_code
def yX2_latestWeight : MethodName := ⟨RX2, "latestWeight", "()I"⟩
abbrev cX2_latestIn : ByteArray := prog_4_method_8_code
def yX2_latestIn : MethodName := ⟨RX2, "latestIn", "([I)I"⟩
def RX3 : String := "ScansionDesk$Metre"
def TX3 : u_T := fun k => match k with
  | 0 => ("ScansionDesk$Metre", "kinds", "[I", true)
  | 1 => ("ScansionDesk$Metre", "nexts", "[I", true)
  | 2 => ("ScansionDesk$Metre", "others", "[I", true)
  | 3 => ("ScansionDesk$Metre", "steps", "I", true)
  | 4 => ("ScansionDesk$Metre", "shortest", "I", true)
  | _ => ("ScansionDesk$Metre", "longest", "I", true)
def tyX3 : Nat → FieldType := fun k => match k with
  | 0 => .array .int
  | 1 => .array .int
  | 2 => .array .int
  | 3 => .int
  | 4 => .int
  | _ => .int
abbrev wsX30 : List Cond := u_ws RX3 TX3 6
theorem nmX3 : ∀ a, a < 6 → ∀ b, b < 6 → a ≠ b → (TX3 a).2.1 ≠ (TX3 b).2.1 := by decide +kernel
theorem tyX3_ok : ∀ k, k < 6 → parseFieldDescriptor (TX3 k).2.2.1 = some (tyX3 k) := by decide +kernel
abbrev cX3_init : ByteArray := prog_5_method_1_code
def yX3_init : MethodName := ⟨RX3, "<init>", "([I[I[IIII)V"⟩
abbrev cX3_start : ByteArray := prog_5_method_2_code
def yX3_start : MethodName := ⟨RX3, "start", "()I"⟩
abbrev cX3_kindAt : ByteArray := prog_5_method_3_code
def yX3_kindAt : MethodName := ⟨RX3, "kindAt", "(I)I"⟩
abbrev cX3_nextAt : ByteArray := prog_5_method_4_code
def yX3_nextAt : MethodName := ⟨RX3, "nextAt", "(I)I"⟩
abbrev cX3_otherAt : ByteArray := prog_5_method_5_code
def yX3_otherAt : MethodName := ⟨RX3, "otherAt", "(I)I"⟩
def RX4 : String := "ScansionDesk$MetreReader"
def TX4 : u_T := fun k => match k with
  | 0 => ("ScansionDesk$MetreReader", "unitTimes", "[I", true)
  | 1 => ("ScansionDesk$MetreReader", "unitBefore", "[I", true)
  | 2 => ("ScansionDesk$MetreReader", "lastUnit", "[I", true)
  | 3 => ("ScansionDesk$MetreReader", "choiceBefore", "[I", true)
  | 4 => ("ScansionDesk$MetreReader", "lastChoice", "[I", true)
  | 5 => ("ScansionDesk$MetreReader", "kinds", "[I", true)
  | 6 => ("ScansionDesk$MetreReader", "nexts", "[I", true)
  | 7 => ("ScansionDesk$MetreReader", "others", "[I", true)
  | 8 => ("ScansionDesk$MetreReader", "fewest", "[I", true)
  | 9 => ("ScansionDesk$MetreReader", "most", "[I", true)
  | _ => ("ScansionDesk$MetreReader", "size", "I", false)
def tyX4 : Nat → FieldType := fun k => match k with
  | 0 => .array .int
  | 1 => .array .int
  | 2 => .array .int
  | 3 => .array .int
  | 4 => .array .int
  | 5 => .array .int
  | 6 => .array .int
  | 7 => .array .int
  | 8 => .array .int
  | 9 => .array .int
  | _ => .int
abbrev wsX40 : List Cond := u_ws RX4 TX4 11
theorem nmX4 : ∀ a, a < 11 → ∀ b, b < 11 → a ≠ b → (TX4 a).2.1 ≠ (TX4 b).2.1 := by decide +kernel
theorem tyX4_ok : ∀ k, k < 11 → parseFieldDescriptor (TX4 k).2.2.1 = some (tyX4 k) := by decide +kernel
abbrev cX4_init : ByteArray := prog_6_method_1_code
def yX4_init : MethodName := ⟨RX4, "<init>", "()V"⟩
abbrev cX4_readText : ByteArray := prog_6_method_2_code
def yX4_readText : MethodName := ⟨RX4, "readText", "(LScansionDesk$Tokens;)LScansionDesk$Metre;"⟩
abbrev cX4_readMetre : ByteArray := prog_6_method_3_code
def yX4_readMetre : MethodName := ⟨RX4, "readMetre", "(LScansionDesk$Tokens;II)I"⟩
abbrev cX4_readChoice : ByteArray := prog_6_method_4_code
def yX4_readChoice : MethodName := ⟨RX4, "readChoice", "(LScansionDesk$Tokens;II)I"⟩
abbrev cX4_readUnit : ByteArray := prog_6_method_5_code
def yX4_readUnit : MethodName := ⟨RX4, "readUnit", "(LScansionDesk$Tokens;II)I"⟩
abbrev cX4_isStep : ByteArray := prog_6_method_6_code
def yX4_isStep : MethodName := ⟨RX4, "isStep", "(I)Z"⟩
abbrev cX4_beginsUnit : ByteArray := prog_6_method_7_code
def yX4_beginsUnit : MethodName := ⟨RX4, "beginsUnit", "(I)Z"⟩
abbrev cX4_writeMetre : ByteArray := prog_6_method_8_code
def yX4_writeMetre : MethodName := ⟨RX4, "writeMetre", "(LScansionDesk$Tokens;III)I"⟩
abbrev cX4_writeChoice : ByteArray := prog_6_method_9_code
def yX4_writeChoice : MethodName := ⟨RX4, "writeChoice", "(LScansionDesk$Tokens;III)I"⟩
abbrev cX4_addNode : ByteArray := prog_6_method_10_code
def yX4_addNode : MethodName := ⟨RX4, "addNode", "(III)I"⟩
abbrev cX4_get : ByteArray := prog_6_method_11_code
def yX4_get : MethodName := ⟨RX4, "get", "([II)I"⟩
abbrev cX4_put : ByteArray := prog_6_method_12_code
def yX4_put : MethodName := ⟨RX4, "put", "([III)V"⟩
def RX5 : String := "ScansionDesk$Reckoner"
def TX5 : u_T := fun k => match k with
  | _ => ("ScansionDesk$Reckoner", "stack", "[I", true)
def tyX5 : Nat → FieldType := fun k => match k with
  | _ => .array .int
abbrev wsX50 : List Cond := u_ws RX5 TX5 1
theorem nmX5 : ∀ a, a < 1 → ∀ b, b < 1 → a ≠ b → (TX5 a).2.1 ≠ (TX5 b).2.1 := by decide +kernel
theorem tyX5_ok : ∀ k, k < 1 → parseFieldDescriptor (TX5 k).2.2.1 = some (tyX5 k) := by decide +kernel
abbrev cX5_init : ByteArray := prog_7_method_1_code
def yX5_init : MethodName := ⟨RX5, "<init>", "()V"⟩
abbrev cX5_reckon : ByteArray := prog_7_method_2_code
def yX5_reckon : MethodName := ⟨RX5, "reckon", "([II[I)I"⟩
abbrev cX5_combine : ByteArray := prog_7_method_3_code
def yX5_combine : MethodName := ⟨RX5, "combine", "(IJJ)I"⟩
def RX6 : String := "ScansionDesk$Scansion"
def TX6 : u_T := fun k => match k with
  | 0 => ("ScansionDesk$Scansion", "reckoner", "LScansionDesk$Reckoner;", true)
  | 1 => ("ScansionDesk$Scansion", "lawWords", "[I", true)
  | 2 => ("ScansionDesk$Scansion", "can", "[I", true)
  | 3 => ("ScansionDesk$Scansion", "costs", "[I", true)
  | 4 => ("ScansionDesk$Scansion", "prices", "[J", true)
  | 5 => ("ScansionDesk$Scansion", "flow", "[I", true)
  | 6 => ("ScansionDesk$Scansion", "here", "[J", false)
  | 7 => ("ScansionDesk$Scansion", "ahead", "[J", false)
  | 8 => ("ScansionDesk$Scansion", "size", "I", false)
  | 9 => ("ScansionDesk$Scansion", "cuts", "I", false)
  | _ => ("ScansionDesk$Scansion", "reached", "I", false)
def tyX6 : Nat → FieldType := fun k => match k with
  | 0 => .object "ScansionDesk$Reckoner"
  | 1 => .array .int
  | 2 => .array .int
  | 3 => .array .int
  | 4 => .array .long
  | 5 => .array .int
  | 6 => .array .long
  | 7 => .array .long
  | 8 => .int
  | 9 => .int
  | _ => .int
abbrev wsX60 : List Cond := u_ws RX6 TX6 11
theorem nmX6 : ∀ a, a < 11 → ∀ b, b < 11 → a ≠ b → (TX6 a).2.1 ≠ (TX6 b).2.1 := by decide +kernel
theorem tyX6_ok : ∀ k, k < 11 → parseFieldDescriptor (TX6 k).2.2.1 = some (tyX6 k) := by decide +kernel
abbrev cX6_init : ByteArray := prog_8_method_1_code
def yX6_init : MethodName := ⟨RX6, "<init>", "()V"⟩
abbrev cX6_lookAt : ByteArray := prog_8_method_2_code
def yX6_lookAt : MethodName := ⟨RX6, "lookAt", "(LScansionDesk$State;LScansionDesk$Clauses;)V"⟩
abbrev cX6_judge : ByteArray := prog_8_method_3_code
def yX6_judge : MethodName := ⟨RX6, "judge", "(LScansionDesk$Clauses;II)V"⟩
abbrev cX6_canRead : ByteArray := prog_8_method_4_code
def yX6_canRead : MethodName := ⟨RX6, "canRead", "(II)I"⟩
abbrev cX6_costOf : ByteArray := prog_8_method_5_code
def yX6_costOf : MethodName := ⟨RX6, "costOf", "(II)I"⟩
abbrev cX6_hear : ByteArray := prog_8_method_6_code
def yX6_hear : MethodName := ⟨RX6, "hear", "(LScansionDesk$State;)Z"⟩
abbrev cX6_takes : ByteArray := prog_8_method_7_code
def yX6_takes : MethodName := ⟨RX6, "takes", "(LScansionDesk$Metre;)Z"⟩
abbrev cX6_reachOf : ByteArray := prog_8_method_8_code
def yX6_reachOf : MethodName := ⟨RX6, "reachOf", "(LScansionDesk$Metre;)I"⟩
abbrev cX6_flowThrough : ByteArray := prog_8_method_9_code
def yX6_flowThrough : MethodName := ⟨RX6, "flowThrough", "(LScansionDesk$Metre;)V"⟩
abbrev cX6_spread : ByteArray := prog_8_method_10_code
def yX6_spread : MethodName := ⟨RX6, "spread", "(II)V"⟩
abbrev cX6_withElided : ByteArray := prog_8_method_11_code
def yX6_withElided : MethodName := ⟨RX6, "withElided", "(I)I"⟩
abbrev cX6_least : ByteArray := prog_8_method_12_code
def yX6_least : MethodName := ⟨RX6, "least", "(LScansionDesk$Metre;I)J"⟩
abbrev cX6_leastFrom : ByteArray := prog_8_method_13_code
def yX6_leastFrom : MethodName := ⟨RX6, "leastFrom", "(LScansionDesk$Metre;II)J"⟩
abbrev cX6_leastIn : ByteArray := prog_8_method_14_code
def yX6_leastIn : MethodName := ⟨RX6, "leastIn", "([JI)J"⟩
abbrev cX6_priceOf : ByteArray := prog_8_method_15_code
def yX6_priceOf : MethodName := ⟨RX6, "priceOf", "(II)J"⟩
abbrev cX6_setPrices : ByteArray := prog_8_method_16_code
def yX6_setPrices : MethodName := ⟨RX6, "setPrices", "(I)V"⟩
abbrev cX6_priceByCost : ByteArray := prog_8_method_17_code
def yX6_priceByCost : MethodName := ⟨RX6, "priceByCost", "(II)J"⟩
abbrev cX6_costIn : ByteArray := prog_8_method_18_code
def yX6_costIn : MethodName := ⟨RX6, "costIn", "(J)I"⟩
abbrev cX6_wayIn : ByteArray := prog_8_method_19_code
def yX6_wayIn : MethodName := ⟨RX6, "wayIn", "(JI)I"⟩
def RX7 : String := "ScansionDesk$State"
def TX7 : u_T := fun k => match k with
  | 0 => ("ScansionDesk$State", "facts", "[I", true)
  | 1 => ("ScansionDesk$State", "terms", "[I", true)
  | 2 => ("ScansionDesk$State", "heardAt", "[I", true)
  | 3 => ("ScansionDesk$State", "heardAs", "[I", true)
  | 4 => ("ScansionDesk$State", "metres", "[LScansionDesk$Metre;", true)
  | 5 => ("ScansionDesk$State", "laws", "[LScansionDesk$Clauses;", true)
  | 6 => ("ScansionDesk$State", "size", "I", false)
  | 7 => ("ScansionDesk$State", "heardCount", "I", false)
  | 8 => ("ScansionDesk$State", "metreCount", "I", false)
  | 9 => ("ScansionDesk$State", "lawCount", "I", false)
  | _ => ("ScansionDesk$State", "force", "I", false)
def tyX7 : Nat → FieldType := fun k => match k with
  | 0 => .array .int
  | 1 => .array .int
  | 2 => .array .int
  | 3 => .array .int
  | 4 => .array (.object "ScansionDesk$Metre")
  | 5 => .array (.object "ScansionDesk$Clauses")
  | 6 => .int
  | 7 => .int
  | 8 => .int
  | 9 => .int
  | _ => .int
abbrev wsX70 : List Cond := u_ws RX7 TX7 11
theorem nmX7 : ∀ a, a < 11 → ∀ b, b < 11 → a ≠ b → (TX7 a).2.1 ≠ (TX7 b).2.1 := by decide +kernel
theorem tyX7_ok : ∀ k, k < 11 → parseFieldDescriptor (TX7 k).2.2.1 = some (tyX7 k) := by decide +kernel
abbrev cX7_init : ByteArray := prog_9_method_1_code
def yX7_init : MethodName := ⟨RX7, "<init>", "()V"⟩
abbrev cX7_copyFrom : ByteArray := prog_9_method_2_code
def yX7_copyFrom : MethodName := ⟨RX7, "copyFrom", "(LScansionDesk$State;)V"⟩
abbrev cX7_isSyllable : ByteArray := prog_9_method_3_code
def yX7_isSyllable : MethodName := ⟨RX7, "isSyllable", "(III)Z"⟩
abbrev cX7_addSyllable : ByteArray := prog_9_method_4_code
def yX7_addSyllable : MethodName := ⟨RX7, "addSyllable", "(III)Z"⟩
abbrev cX7_hasSyllable : ByteArray := prog_9_method_5_code
def yX7_hasSyllable : MethodName := ⟨RX7, "hasSyllable", "(I)Z"⟩
abbrev cX7_told : ByteArray := prog_9_method_6_code
def yX7_told : MethodName := ⟨RX7, "told", "(II)I"⟩
abbrev cX7_setTold : ByteArray := prog_9_method_7_code
def yX7_setTold : MethodName := ⟨RX7, "setTold", "(III)V"⟩
abbrev cX7_turn : ByteArray := prog_9_method_8_code
def yX7_turn : MethodName := ⟨RX7, "turn", "(II)I"⟩
abbrev cX7_termOf : ByteArray := prog_9_method_9_code
def yX7_termOf : MethodName := ⟨RX7, "termOf", "(I)I"⟩
abbrev cX7_setTerm : ByteArray := prog_9_method_10_code
def yX7_setTerm : MethodName := ⟨RX7, "setTerm", "(II)V"⟩
abbrev cX7_addHeard : ByteArray := prog_9_method_11_code
def yX7_addHeard : MethodName := ⟨RX7, "addHeard", "(II)Z"⟩
abbrev cX7_heardPlace : ByteArray := prog_9_method_12_code
def yX7_heardPlace : MethodName := ⟨RX7, "heardPlace", "(I)I"⟩
abbrev cX7_heardWay : ByteArray := prog_9_method_13_code
def yX7_heardWay : MethodName := ⟨RX7, "heardWay", "(I)I"⟩
abbrev cX7_addMetre : ByteArray := prog_9_method_14_code
def yX7_addMetre : MethodName := ⟨RX7, "addMetre", "(LScansionDesk$Metre;)V"⟩
abbrev cX7_addLaw : ByteArray := prog_9_method_15_code
def yX7_addLaw : MethodName := ⟨RX7, "addLaw", "(LScansionDesk$Clauses;)V"⟩
abbrev cX7_metreAt : ByteArray := prog_9_method_16_code
def yX7_metreAt : MethodName := ⟨RX7, "metreAt", "(I)LScansionDesk$Metre;"⟩
abbrev cX7_lawAt : ByteArray := prog_9_method_17_code
def yX7_lawAt : MethodName := ⟨RX7, "lawAt", "(I)LScansionDesk$Clauses;"⟩
def RX8 : String := "ScansionDesk$Tape"
def TX8 : u_T := fun k => match k with
  | 0 => ("ScansionDesk$Tape", "bytes", "[I", true)
  | _ => ("ScansionDesk$Tape", "size", "I", false)
def tyX8 : Nat → FieldType := fun k => match k with
  | 0 => .array .int
  | _ => .int
abbrev wsX80 : List Cond := u_ws RX8 TX8 2
theorem nmX8 : ∀ a, a < 2 → ∀ b, b < 2 → a ≠ b → (TX8 a).2.1 ≠ (TX8 b).2.1 := by decide +kernel
theorem tyX8_ok : ∀ k, k < 2 → parseFieldDescriptor (TX8 k).2.2.1 = some (tyX8 k) := by decide +kernel
abbrev cX8_init : ByteArray := prog_10_method_1_code
def yX8_init : MethodName := ⟨RX8, "<init>", "()V"⟩
abbrev cX8_hasRoomForFive : ByteArray := prog_10_method_2_code
def yX8_hasRoomForFive : MethodName := ⟨RX8, "hasRoomForFive", "()Z"⟩
abbrev cX8_addFour : ByteArray := prog_10_method_3_code
def yX8_addFour : MethodName := ⟨RX8, "addFour", "(I)V"⟩
abbrev cX8_byteAt : ByteArray := prog_10_method_4_code
def yX8_byteAt : MethodName := ⟨RX8, "byteAt", "(I)I"⟩
def RX9 : String := "ScansionDesk$Tokens"
def TX9 : u_T := fun k => match k with
  | 0 => ("ScansionDesk$Tokens", "codes", "[I", true)
  | 1 => ("ScansionDesk$Tokens", "values", "[I", true)
  | 2 => ("ScansionDesk$Tokens", "places", "[I", true)
  | 3 => ("ScansionDesk$Tokens", "size", "I", false)
  | 4 => ("ScansionDesk$Tokens", "at", "I", false)
  | _ => ("ScansionDesk$Tokens", "fault", "I", false)
def tyX9 : Nat → FieldType := fun k => match k with
  | 0 => .array .int
  | 1 => .array .int
  | 2 => .array .int
  | 3 => .int
  | 4 => .int
  | _ => .int
abbrev wsX90 : List Cond := u_ws RX9 TX9 6
theorem nmX9 : ∀ a, a < 6 → ∀ b, b < 6 → a ≠ b → (TX9 a).2.1 ≠ (TX9 b).2.1 := by decide +kernel
theorem tyX9_ok : ∀ k, k < 6 → parseFieldDescriptor (TX9 k).2.2.1 = some (tyX9 k) := by decide +kernel
abbrev cX9_init : ByteArray := prog_11_method_1_code
def yX9_init : MethodName := ⟨RX9, "<init>", "()V"⟩
abbrev cX9_readTape : ByteArray := prog_11_method_2_code
def yX9_readTape : MethodName := ⟨RX9, "readTape", "(LScansionDesk$Tape;)V"⟩
abbrev cX9_addToken : ByteArray := prog_11_method_3_code
def yX9_addToken : MethodName := ⟨RX9, "addToken", "(III)V"⟩
abbrev cX9_isLetter : ByteArray := prog_11_method_4_code
def yX9_isLetter : MethodName := ⟨RX9, "isLetter", "(I)Z"⟩
abbrev cX9_isDigit : ByteArray := prog_11_method_5_code
def yX9_isDigit : MethodName := ⟨RX9, "isDigit", "(I)Z"⟩
abbrev cX9_endOfToken : ByteArray := prog_11_method_6_code
def yX9_endOfToken : MethodName := ⟨RX9, "endOfToken", "(LScansionDesk$Tape;I)I"⟩
abbrev cX9_wordCode : ByteArray := prog_11_method_7_code
def yX9_wordCode : MethodName := ⟨RX9, "wordCode", "(LScansionDesk$Tape;II)I"⟩
abbrev cX9_numberAt : ByteArray := prog_11_method_8_code
def yX9_numberAt : MethodName := ⟨RX9, "numberAt", "(LScansionDesk$Tape;II)I"⟩
abbrev cX9_codeAt : ByteArray := prog_11_method_9_code
def yX9_codeAt : MethodName := ⟨RX9, "codeAt", "(I)I"⟩
abbrev cX9_fail : ByteArray := prog_11_method_10_code
def yX9_fail : MethodName := ⟨RX9, "fail", "()V"⟩
abbrev cX9_skip : ByteArray := prog_11_method_11_code
def yX9_skip : MethodName := ⟨RX9, "skip", "(I)Z"⟩
abbrev cX9_expect : ByteArray := prog_11_method_12_code
def yX9_expect : MethodName := ⟨RX9, "expect", "(I)V"⟩
abbrev cX9_takeNumber : ByteArray := prog_11_method_13_code
def yX9_takeNumber : MethodName := ⟨RX9, "takeNumber", "(II)I"⟩
def RX10 : String := "ScansionDesk"
def TX10 : u_T := fun k => match k with
  | 0 => ("ScansionDesk", "now", "LScansionDesk$State;", true)
  | 1 => ("ScansionDesk", "aheadOfOrders", "LScansionDesk$State;", true)
  | 2 => ("ScansionDesk", "afterWeeks", "LScansionDesk$State;", true)
  | 3 => ("ScansionDesk", "images", "[LScansionDesk$State;", true)
  | 4 => ("ScansionDesk", "history", "LScansionDesk$History;", true)
  | 5 => ("ScansionDesk", "historyAheadOfOrders", "LScansionDesk$History;", true)
  | 6 => ("ScansionDesk", "tape", "LScansionDesk$Tape;", true)
  | 7 => ("ScansionDesk", "tokens", "LScansionDesk$Tokens;", true)
  | 8 => ("ScansionDesk", "metreReader", "LScansionDesk$MetreReader;", true)
  | 9 => ("ScansionDesk", "clauseReader", "LScansionDesk$ClauseReader;", true)
  | 10 => ("ScansionDesk", "reckoner", "LScansionDesk$Reckoner;", true)
  | 11 => ("ScansionDesk", "scansion", "LScansionDesk$Scansion;", true)
  | 12 => ("ScansionDesk", "orderWords", "[I", true)
  | 13 => ("ScansionDesk", "bestReadings", "[J", true)
  | 14 => ("ScansionDesk", "chances", "[J", true)
  | 15 => ("ScansionDesk", "refusals", "[I", true)
  | 16 => ("ScansionDesk", "latestRefusal", "I", false)
  | 17 => ("ScansionDesk", "latestFault", "I", false)
  | 18 => ("ScansionDesk", "latestMutes", "I", false)
  | _ => ("ScansionDesk", "latestStop", "I", false)
def tyX10 : Nat → FieldType := fun k => match k with
  | 0 => .object "ScansionDesk$State"
  | 1 => .object "ScansionDesk$State"
  | 2 => .object "ScansionDesk$State"
  | 3 => .array (.object "ScansionDesk$State")
  | 4 => .object "ScansionDesk$History"
  | 5 => .object "ScansionDesk$History"
  | 6 => .object "ScansionDesk$Tape"
  | 7 => .object "ScansionDesk$Tokens"
  | 8 => .object "ScansionDesk$MetreReader"
  | 9 => .object "ScansionDesk$ClauseReader"
  | 10 => .object "ScansionDesk$Reckoner"
  | 11 => .object "ScansionDesk$Scansion"
  | 12 => .array .int
  | 13 => .array .long
  | 14 => .array .long
  | 15 => .array .int
  | 16 => .int
  | 17 => .int
  | 18 => .int
  | _ => .int
abbrev wsX100 : List Cond := u_ws RX10 TX10 20
theorem nmX10 : ∀ a, a < 20 → ∀ b, b < 20 → a ≠ b → (TX10 a).2.1 ≠ (TX10 b).2.1 := by decide +kernel
theorem tyX10_ok : ∀ k, k < 20 → parseFieldDescriptor (TX10 k).2.2.1 = some (tyX10 k) := by decide +kernel
abbrev cX10_init : ByteArray := prog_1_method_1_code
def yX10_init : MethodName := ⟨RX10, "<init>", "()V"⟩
abbrev cX10_syllable : ByteArray := prog_1_method_2_code
def yX10_syllable : MethodName := ⟨RX10, "syllable", "(III)I"⟩
abbrev cX10_of : ByteArray := prog_1_method_3_code
def yX10_of : MethodName := ⟨RX10, "of", "(II)I"⟩
abbrev cX10_terms : ByteArray := prog_1_method_4_code
def yX10_terms : MethodName := ⟨RX10, "terms", "(II)I"⟩
abbrev cX10_feed : ByteArray := prog_1_method_5_code
def yX10_feed : MethodName := ⟨RX10, "feed", "(IIIII)I"⟩
abbrev cX10_end : ByteArray := prog_1_method_6_code
def yX10_end : MethodName := ⟨RX10, "end", "(I)I"⟩
abbrev cX10_row : ByteArray := prog_1_method_7_code
def yX10_row : MethodName := ⟨RX10, "row", "()I"⟩
abbrev cX10_mutes : ByteArray := prog_1_method_8_code
def yX10_mutes : MethodName := ⟨RX10, "mutes", "()I"⟩
abbrev cX10_metre : ByteArray := prog_1_method_9_code
def yX10_metre : MethodName := ⟨RX10, "metre", "()I"⟩
abbrev cX10_law : ByteArray := prog_1_method_10_code
def yX10_law : MethodName := ⟨RX10, "law", "()I"⟩
abbrev cX10_orders : ByteArray := prog_1_method_11_code
def yX10_orders : MethodName := ⟨RX10, "orders", "()I"⟩
abbrev cX10_fault : ByteArray := prog_1_method_12_code
def yX10_fault : MethodName := ⟨RX10, "fault", "()I"⟩
abbrev cX10_stopped : ByteArray := prog_1_method_13_code
def yX10_stopped : MethodName := ⟨RX10, "stopped", "()I"⟩
abbrev cX10_force : ByteArray := prog_1_method_14_code
def yX10_force : MethodName := ⟨RX10, "force", "(I)I"⟩
abbrev cX10_weigh : ByteArray := prog_1_method_15_code
def yX10_weigh : MethodName := ⟨RX10, "weigh", "(II)I"⟩
abbrev cX10_ends : ByteArray := prog_1_method_16_code
def yX10_ends : MethodName := ⟨RX10, "ends", "(I)I"⟩
abbrev cX10_meets : ByteArray := prog_1_method_17_code
def yX10_meets : MethodName := ⟨RX10, "meets", "(I)I"⟩
abbrev cX10_pass : ByteArray := prog_1_method_18_code
def yX10_pass : MethodName := ⟨RX10, "pass", "()I"⟩
abbrev cX10_undo : ByteArray := prog_1_method_19_code
def yX10_undo : MethodName := ⟨RX10, "undo", "()I"⟩
abbrev cX10_steps : ByteArray := prog_1_method_20_code
def yX10_steps : MethodName := ⟨RX10, "steps", "(I)I"⟩
abbrev cX10_best : ByteArray := prog_1_method_21_code
def yX10_best : MethodName := ⟨RX10, "best", "(II)I"⟩
abbrev cX10_elisions : ByteArray := prog_1_method_22_code
def yX10_elisions : MethodName := ⟨RX10, "elisions", "(I)I"⟩
abbrev cX10_mend : ByteArray := prog_1_method_23_code
def yX10_mend : MethodName := ⟨RX10, "mend", "(I)I"⟩
abbrev cX10_reach : ByteArray := prog_1_method_24_code
def yX10_reach : MethodName := ⟨RX10, "reach", "(I)I"⟩
abbrev cX10_length : ByteArray := prog_1_method_25_code
def yX10_length : MethodName := ⟨RX10, "length", "(II)I"⟩
abbrev cX10_fits : ByteArray := prog_1_method_26_code
def yX10_fits : MethodName := ⟨RX10, "fits", "()I"⟩
abbrev cX10_heard : ByteArray := prog_1_method_27_code
def yX10_heard : MethodName := ⟨RX10, "heard", "(II)I"⟩
abbrev cX10_forget : ByteArray := prog_1_method_28_code
def yX10_forget : MethodName := ⟨RX10, "forget", "()I"⟩
abbrev cX10_canBe : ByteArray := prog_1_method_29_code
def yX10_canBe : MethodName := ⟨RX10, "canBe", "()I"⟩
abbrev cX10_listen : ByteArray := prog_1_method_30_code
def yX10_listen : MethodName := ⟨RX10, "listen", "(I)I"⟩
abbrev cX10_few : ByteArray := prog_1_method_31_code
def yX10_few : MethodName := ⟨RX10, "few", "(II)J"⟩
abbrev cX10_compare : ByteArray := prog_1_method_32_code
def yX10_compare : MethodName := ⟨RX10, "compare", "(II)I"⟩
abbrev cX10_weeks : ByteArray := prog_1_method_33_code
def yX10_weeks : MethodName := ⟨RX10, "weeks", "(II)I"⟩
abbrev cX10_drawn : ByteArray := prog_1_method_34_code
def yX10_drawn : MethodName := ⟨RX10, "drawn", "(II)I"⟩
abbrev cX10_image : ByteArray := prog_1_method_35_code
def yX10_image : MethodName := ⟨RX10, "image", "(I)I"⟩
abbrev cX10_back : ByteArray := prog_1_method_36_code
def yX10_back : MethodName := ⟨RX10, "back", "(I)I"⟩
abbrev cX10_count : ByteArray := prog_1_method_37_code
def yX10_count : MethodName := ⟨RX10, "count", "(I)I"⟩
abbrev cX10_status : ByteArray := prog_1_method_38_code
def yX10_status : MethodName := ⟨RX10, "status", "()I"⟩
abbrev cX10_refuse : ByteArray := prog_1_method_39_code
def yX10_refuse : MethodName := ⟨RX10, "refuse", "(I)I"⟩
abbrev cX10_accept : ByteArray := prog_1_method_40_code
def yX10_accept : MethodName := ⟨RX10, "accept", "(I)I"⟩
abbrev cX10_settle : ByteArray := prog_1_method_41_code
def yX10_settle : MethodName := ⟨RX10, "settle", "(I)I"⟩
abbrev cX10_takingMetres : ByteArray := prog_1_method_42_code
def yX10_takingMetres : MethodName := ⟨RX10, "takingMetres", "(LScansionDesk$State;)I"⟩
abbrev cX10_fittingMetres : ByteArray := prog_1_method_43_code
def yX10_fittingMetres : MethodName := ⟨RX10, "fittingMetres", "(LScansionDesk$State;)I"⟩
abbrev cX10_bestReading : ByteArray := prog_1_method_44_code
def yX10_bestReading : MethodName := ⟨RX10, "bestReading", "(II)J"⟩
abbrev cX10_fewestBy : ByteArray := prog_1_method_45_code
def yX10_fewestBy : MethodName := ⟨RX10, "fewestBy", "(II)I"⟩
abbrev cX10_mostAlike : ByteArray := prog_1_method_46_code
def yX10_mostAlike : MethodName := ⟨RX10, "mostAlike", "(I)I"⟩
abbrev cX10_tryWeigh : ByteArray := prog_1_method_47_code
def yX10_tryWeigh : MethodName := ⟨RX10, "tryWeigh", "(II)I"⟩
abbrev cX10_tryTurn : ByteArray := prog_1_method_48_code
def yX10_tryTurn : MethodName := ⟨RX10, "tryTurn", "(II)I"⟩
abbrev cX10_tryPass : ByteArray := prog_1_method_49_code
def yX10_tryPass : MethodName := ⟨RX10, "tryPass", "()I"⟩
abbrev cX10_runOnce : ByteArray := prog_1_method_50_code
def yX10_runOnce : MethodName := ⟨RX10, "runOnce", "(LScansionDesk$Clauses;I)Z"⟩
abbrev cX10_setOrderWords : ByteArray := prog_1_method_51_code
def yX10_setOrderWords : MethodName := ⟨RX10, "setOrderWords", "(Z)V"⟩
abbrev cX10_nextDraw : ByteArray := prog_1_method_52_code
def yX10_nextDraw : MethodName := ⟨RX10, "nextDraw", "(I)I"⟩
abbrev cX10_changeByDraws : ByteArray := prog_1_method_53_code
def yX10_changeByDraws : MethodName := ⟨RX10, "changeByDraws", "(LScansionDesk$State;III)V"⟩
def RX11 : String := "ScansionDeskModel"
def TX11 : u_T := fun k => match k with
  | 0 => ("ScansionDeskModel", "thrown", "I", false)
  | 1 => ("ScansionDeskModel", "status", "I", false)
  | 2 => ("ScansionDeskModel", "refusals", "[I", true)
  | 3 => ("ScansionDeskModel", "row", "[I", true)
  | 4 => ("ScansionDeskModel", "images", "[I", true)
  | 5 => ("ScansionDeskModel", "isKept", "[Z", true)
  | 6 => ("ScansionDeskModel", "undos", "[I", true)
  | 7 => ("ScansionDeskModel", "sorts", "[I", true)
  | 8 => ("ScansionDeskModel", "nUndo", "I", false)
  | 9 => ("ScansionDeskModel", "undosBefore", "[I", true)
  | 10 => ("ScansionDeskModel", "sortsBefore", "[I", true)
  | 11 => ("ScansionDeskModel", "mutes", "I", false)
  | 12 => ("ScansionDeskModel", "tape", "[I", true)
  | 13 => ("ScansionDeskModel", "taped", "I", false)
  | 14 => ("ScansionDeskModel", "from", "I", false)
  | 15 => ("ScansionDeskModel", "to", "I", false)
  | 16 => ("ScansionDeskModel", "sort", "I", false)
  | 17 => ("ScansionDeskModel", "worth", "J", false)
  | 18 => ("ScansionDeskModel", "fault", "I", false)
  | 19 => ("ScansionDeskModel", "bad", "Z", false)
  | 20 => ("ScansionDeskModel", "ordered", "Z", false)
  | 21 => ("ScansionDeskModel", "nClauses", "I", false)
  | 22 => ("ScansionDeskModel", "nClause", "[I", true)
  | 23 => ("ScansionDeskModel", "nCode", "I", false)
  | 24 => ("ScansionDeskModel", "nOp", "[I", true)
  | 25 => ("ScansionDeskModel", "nArg", "[I", true)
  | 26 => ("ScansionDeskModel", "nLeaves", "I", false)
  | 27 => ("ScansionDeskModel", "pile", "[I", true)
  | 28 => ("ScansionDeskModel", "pileAt", "[I", true)
  | 29 => ("ScansionDeskModel", "piled", "I", false)
  | 30 => ("ScansionDeskModel", "opened", "I", false)
  | 31 => ("ScansionDeskModel", "words", "[J", true)
  | 32 => ("ScansionDeskModel", "orderWords", "[J", true)
  | 33 => ("ScansionDeskModel", "heads", "[J", true)
  | 34 => ("ScansionDeskModel", "law", "I", false)
  | 35 => ("ScansionDeskModel", "set", "[J", true)
  | 36 => ("ScansionDeskModel", "now", "[J", true)
  | 37 => ("ScansionDeskModel", "rest", "[J", true)
  | 38 => ("ScansionDeskModel", "broken", "Z", false)
  | 39 => ("ScansionDeskModel", "value", "J", false)
  | 40 => ("ScansionDeskModel", "fitsNow", "I", false)
  | 41 => ("ScansionDeskModel", "sum", "J", false)
  | 42 => ("ScansionDeskModel", "stepWords", "[J", true)
  | 43 => ("ScansionDeskModel", "raw", "[I", true)
  | 44 => ("ScansionDeskModel", "nRaw", "I", false)
  | 45 => ("ScansionDeskModel", "units", "[I", true)
  | 46 => ("ScansionDeskModel", "choices", "[I", true)
  | 47 => ("ScansionDeskModel", "deep", "I", false)
  | 48 => ("ScansionDeskModel", "heap", "[I", true)
  | 49 => ("ScansionDeskModel", "full", "[I", true)
  | 50 => ("ScansionDeskModel", "steps", "[I", true)
  | 51 => ("ScansionDeskModel", "nSteps", "I", false)
  | 52 => ("ScansionDeskModel", "follows", "[Z", true)
  | 53 => ("ScansionDeskModel", "isFirst", "[Z", true)
  | 54 => ("ScansionDeskModel", "isLast", "[Z", true)
  | 55 => ("ScansionDeskModel", "prices", "[I", true)
  | 56 => ("ScansionDeskModel", "left", "[I", true)
  | 57 => ("ScansionDeskModel", "states", "[Z", true)
  | 58 => ("ScansionDeskModel", "statesThen", "[Z", true)
  | 59 => ("ScansionDeskModel", "reading", "[I", true)
  | 60 => ("ScansionDeskModel", "reached", "[Z", true)
  | 61 => ("ScansionDeskModel", "readings", "[I", true)
  | 62 => ("ScansionDeskModel", "parts", "[J", true)
  | 63 => ("ScansionDeskModel", "acts", "[J", true)
  | 64 => ("ScansionDeskModel", "nOrder", "[I", true)
  | 65 => ("ScansionDeskModel", "done", "I", false)
  | 66 => ("ScansionDeskModel", "latest", "I", false)
  | 67 => ("ScansionDeskModel", "stopped", "I", false)
  | 68 => ("ScansionDeskModel", "off", "Z", false)
  | 69 => ("ScansionDeskModel", "state", "J", false)
  | 70 => ("ScansionDeskModel", "drawn", "[I", true)
  | _ => ("ScansionDeskModel", "drawnSyllables", "I", false)
def tyX11 : Nat → FieldType := fun k => match k with
  | 0 => .int
  | 1 => .int
  | 2 => .array .int
  | 3 => .array .int
  | 4 => .array .int
  | 5 => .array .boolean
  | 6 => .array .int
  | 7 => .array .int
  | 8 => .int
  | 9 => .array .int
  | 10 => .array .int
  | 11 => .int
  | 12 => .array .int
  | 13 => .int
  | 14 => .int
  | 15 => .int
  | 16 => .int
  | 17 => .long
  | 18 => .int
  | 19 => .boolean
  | 20 => .boolean
  | 21 => .int
  | 22 => .array .int
  | 23 => .int
  | 24 => .array .int
  | 25 => .array .int
  | 26 => .int
  | 27 => .array .int
  | 28 => .array .int
  | 29 => .int
  | 30 => .int
  | 31 => .array .long
  | 32 => .array .long
  | 33 => .array .long
  | 34 => .int
  | 35 => .array .long
  | 36 => .array .long
  | 37 => .array .long
  | 38 => .boolean
  | 39 => .long
  | 40 => .int
  | 41 => .long
  | 42 => .array .long
  | 43 => .array .int
  | 44 => .int
  | 45 => .array .int
  | 46 => .array .int
  | 47 => .int
  | 48 => .array .int
  | 49 => .array .int
  | 50 => .array .int
  | 51 => .int
  | 52 => .array .boolean
  | 53 => .array .boolean
  | 54 => .array .boolean
  | 55 => .array .int
  | 56 => .array .int
  | 57 => .array .boolean
  | 58 => .array .boolean
  | 59 => .array .int
  | 60 => .array .boolean
  | 61 => .array .int
  | 62 => .array .long
  | 63 => .array .long
  | 64 => .array .int
  | 65 => .int
  | 66 => .int
  | 67 => .int
  | 68 => .boolean
  | 69 => .long
  | 70 => .array .int
  | _ => .int
abbrev wsX110 : List Cond := u_ws RX11 TX11 72
theorem nmX11 : ∀ a, a < 72 → ∀ b, b < 72 → a ≠ b → (TX11 a).2.1 ≠ (TX11 b).2.1 := by decide +kernel
theorem tyX11_ok : ∀ k, k < 72 → parseFieldDescriptor (TX11 k).2.2.1 = some (tyX11 k) := by decide +kernel
abbrev cX11_init : ByteArray := prog_13_method_1_code
def yX11_init : MethodName := ⟨RX11, "<init>", "()V"⟩
abbrev cX11_in : ByteArray := prog_13_method_3_code
def yX11_in : MethodName := ⟨RX11, "in", "(JJJ)Z"⟩
abbrev cX11_is : ByteArray := prog_13_method_4_code
def yX11_is : MethodName := ⟨RX11, "is", "(II)Z"⟩
abbrev cX11_bounded : ByteArray := prog_13_method_5_code
def yX11_bounded : MethodName := ⟨RX11, "bounded", "(JII)I"⟩
abbrev cX11_tell : ByteArray := prog_13_method_6_code
def yX11_tell : MethodName := ⟨RX11, "tell", "(I)I"⟩
abbrev cX11_change : ByteArray := prog_13_method_7_code
def yX11_change : MethodName := ⟨RX11, "change", "(II)I"⟩
abbrev cX11_lasting : ByteArray := prog_13_method_8_code
def yX11_lasting : MethodName := ⟨RX11, "lasting", "(I)I"⟩
abbrev cX11_keepAll : ByteArray := prog_13_method_9_code
def yX11_keepAll : MethodName := ⟨RX11, "keepAll", "(I)V"⟩
abbrev cX11_putBack : ByteArray := prog_13_method_10_code
def yX11_putBack : MethodName := ⟨RX11, "putBack", "(I)V"⟩
abbrev cX11_remember : ByteArray := prog_13_method_11_code
def yX11_remember : MethodName := ⟨RX11, "remember", "(I)V"⟩
abbrev cX11_undo : ByteArray := prog_13_method_12_code
def yX11_undo : MethodName := ⟨RX11, "undo", "()I"⟩
abbrev cX11_image : ByteArray := prog_13_method_13_code
def yX11_image : MethodName := ⟨RX11, "image", "(I)I"⟩
abbrev cX11_back : ByteArray := prog_13_method_14_code
def yX11_back : MethodName := ⟨RX11, "back", "(I)I"⟩
abbrev cX11_isSyllable : ByteArray := prog_13_method_15_code
def yX11_isSyllable : MethodName := ⟨RX11, "isSyllable", "(I)Z"⟩
abbrev cX11_isMetre : ByteArray := prog_13_method_16_code
def yX11_isMetre : MethodName := ⟨RX11, "isMetre", "(I)Z"⟩
abbrev cX11_comes : ByteArray := prog_13_method_17_code
def yX11_comes : MethodName := ⟨RX11, "comes", "(III)I"⟩
abbrev cX11_syllable : ByteArray := prog_13_method_18_code
def yX11_syllable : MethodName := ⟨RX11, "syllable", "(III)I"⟩
abbrev cX11_of : ByteArray := prog_13_method_19_code
def yX11_of : MethodName := ⟨RX11, "of", "(II)I"⟩
abbrev cX11_terms : ByteArray := prog_13_method_20_code
def yX11_terms : MethodName := ⟨RX11, "terms", "(II)I"⟩
abbrev cX11_row : ByteArray := prog_13_method_21_code
def yX11_row : MethodName := ⟨RX11, "row", "()I"⟩
abbrev cX11_mutes : ByteArray := prog_13_method_22_code
def yX11_mutes : MethodName := ⟨RX11, "mutes", "()I"⟩
abbrev cX11_four : ByteArray := prog_13_method_23_code
def yX11_four : MethodName := ⟨RX11, "four", "(I)V"⟩
abbrev cX11_feed : ByteArray := prog_13_method_24_code
def yX11_feed : MethodName := ⟨RX11, "feed", "(IIIII)I"⟩
abbrev cX11_end : ByteArray := prog_13_method_25_code
def yX11_end : MethodName := ⟨RX11, "end", "(I)I"⟩
abbrev cX11_isSmall : ByteArray := prog_13_method_26_code
def yX11_isSmall : MethodName := ⟨RX11, "isSmall", "(I)Z"⟩
abbrev cX11_isDigit : ByteArray := prog_13_method_27_code
def yX11_isDigit : MethodName := ⟨RX11, "isDigit", "(I)Z"⟩
abbrev cX11_begin : ByteArray := prog_13_method_28_code
def yX11_begin : MethodName := ⟨RX11, "begin", "()V"⟩
abbrev cX11_next : ByteArray := prog_13_method_29_code
def yX11_next : MethodName := ⟨RX11, "next", "()V"⟩
abbrev cX11_isWord : ByteArray := prog_13_method_30_code
def yX11_isWord : MethodName := ⟨RX11, "isWord", "(J)Z"⟩
abbrev cX11_isSign : ByteArray := prog_13_method_31_code
def yX11_isSign : MethodName := ⟨RX11, "isSign", "(I)Z"⟩
abbrev cX11_must : ByteArray := prog_13_method_32_code
def yX11_must : MethodName := ⟨RX11, "must", "(Z)V"⟩
abbrev cX11_number : ByteArray := prog_13_method_33_code
def yX11_number : MethodName := ⟨RX11, "number", "(JJ)I"⟩
abbrev cX11_fault : ByteArray := prog_13_method_34_code
def yX11_fault : MethodName := ⟨RX11, "fault", "()I"⟩
abbrev cX11_emit : ByteArray := prog_13_method_35_code
def yX11_emit : MethodName := ⟨RX11, "emit", "(II)V"⟩
abbrev cX11_push : ByteArray := prog_13_method_36_code
def yX11_push : MethodName := ⟨RX11, "push", "(II)V"⟩
abbrev cX11_binds : ByteArray := prog_13_method_37_code
def yX11_binds : MethodName := ⟨RX11, "binds", "(I)I"⟩
abbrev cX11_settle : ByteArray := prog_13_method_38_code
def yX11_settle : MethodName := ⟨RX11, "settle", "(I)V"⟩
abbrev cX11_inner : ByteArray := prog_13_method_39_code
def yX11_inner : MethodName := ⟨RX11, "inner", "()I"⟩
abbrev cX11_isCompared : ByteArray := prog_13_method_40_code
def yX11_isCompared : MethodName := ⟨RX11, "isCompared", "()Z"⟩
abbrev cX11_partAt : ByteArray := prog_13_method_41_code
def yX11_partAt : MethodName := ⟨RX11, "partAt", "()I"⟩
abbrev cX11_orderPartAt : ByteArray := prog_13_method_42_code
def yX11_orderPartAt : MethodName := ⟨RX11, "orderPartAt", "()I"⟩
abbrev cX11_openBracket : ByteArray := prog_13_method_43_code
def yX11_openBracket : MethodName := ⟨RX11, "openBracket", "(I)V"⟩
abbrev cX11_leaf : ByteArray := prog_13_method_44_code
def yX11_leaf : MethodName := ⟨RX11, "leaf", "(ZII)V"⟩
abbrev cX11_readPart : ByteArray := prog_13_method_45_code
def yX11_readPart : MethodName := ⟨RX11, "readPart", "()I"⟩
abbrev cX11_readPlain : ByteArray := prog_13_method_46_code
def yX11_readPlain : MethodName := ⟨RX11, "readPlain", "()I"⟩
abbrev cX11_behindSum : ByteArray := prog_13_method_47_code
def yX11_behindSum : MethodName := ⟨RX11, "behindSum", "(Z)I"⟩
abbrev cX11_behindTest : ByteArray := prog_13_method_48_code
def yX11_behindTest : MethodName := ⟨RX11, "behindTest", "()I"⟩
abbrev cX11_readExpression : ByteArray := prog_13_method_49_code
def yX11_readExpression : MethodName := ⟨RX11, "readExpression", "(Z)V"⟩
abbrev cX11_beginText : ByteArray := prog_13_method_50_code
def yX11_beginText : MethodName := ⟨RX11, "beginText", "(Z)V"⟩
abbrev cX11_endText : ByteArray := prog_13_method_51_code
def yX11_endText : MethodName := ⟨RX11, "endText", "()V"⟩
abbrev cX11_readLaw : ByteArray := prog_13_method_52_code
def yX11_readLaw : MethodName := ⟨RX11, "readLaw", "()V"⟩
abbrev cX11_law : ByteArray := prog_13_method_53_code
def yX11_law : MethodName := ⟨RX11, "law", "()I"⟩
abbrev cX11_isLaw : ByteArray := prog_13_method_54_code
def yX11_isLaw : MethodName := ⟨RX11, "isLaw", "(I)Z"⟩
abbrev cX11_force : ByteArray := prog_13_method_55_code
def yX11_force : MethodName := ⟨RX11, "force", "(I)I"⟩
abbrev cX11_reckon : ByteArray := prog_13_method_56_code
def yX11_reckon : MethodName := ⟨RX11, "reckon", "(IJJ)J"⟩
abbrev cX11_reckonAll : ByteArray := prog_13_method_57_code
def yX11_reckonAll : MethodName := ⟨RX11, "reckonAll", "(II)V"⟩
abbrev cX11_isSo : ByteArray := prog_13_method_58_code
def yX11_isSo : MethodName := ⟨RX11, "isSo", "(I)Z"⟩
abbrev cX11_tells : ByteArray := prog_13_method_59_code
def yX11_tells : MethodName := ⟨RX11, "tells", "(IIIJ)J"⟩
abbrev cX11_canRead : ByteArray := prog_13_method_60_code
def yX11_canRead : MethodName := ⟨RX11, "canRead", "(II)Z"⟩
abbrev cX11_costsAs : ByteArray := prog_13_method_61_code
def yX11_costsAs : MethodName := ⟨RX11, "costsAs", "(II)I"⟩
abbrev cX11_sign : ByteArray := prog_13_method_62_code
def yX11_sign : MethodName := ⟨RX11, "sign", "(I)V"⟩
abbrev cX11_stepAt : ByteArray := prog_13_method_63_code
def yX11_stepAt : MethodName := ⟨RX11, "stepAt", "()I"⟩
abbrev cX11_beginMetre : ByteArray := prog_13_method_64_code
def yX11_beginMetre : MethodName := ⟨RX11, "beginMetre", "()V"⟩
abbrev cX11_endUnit : ByteArray := prog_13_method_65_code
def yX11_endUnit : MethodName := ⟨RX11, "endUnit", "()V"⟩
abbrev cX11_endChoice : ByteArray := prog_13_method_66_code
def yX11_endChoice : MethodName := ⟨RX11, "endChoice", "()V"⟩
abbrev cX11_beginUnit : ByteArray := prog_13_method_67_code
def yX11_beginUnit : MethodName := ⟨RX11, "beginUnit", "()Z"⟩
abbrev cX11_readMetre : ByteArray := prog_13_method_68_code
def yX11_readMetre : MethodName := ⟨RX11, "readMetre", "()V"⟩
abbrev cX11_stepsOfRaw : ByteArray := prog_13_method_69_code
def yX11_stepsOfRaw : MethodName := ⟨RX11, "stepsOfRaw", "()I"⟩
abbrev cX11_writeOut : ByteArray := prog_13_method_70_code
def yX11_writeOut : MethodName := ⟨RX11, "writeOut", "()I"⟩
abbrev cX11_repeat : ByteArray := prog_13_method_71_code
def yX11_repeat : MethodName := ⟨RX11, "repeat", "(III)I"⟩
abbrev cX11_metre : ByteArray := prog_13_method_72_code
def yX11_metre : MethodName := ⟨RX11, "metre", "()I"⟩
abbrev cX11_layMetre : ByteArray := prog_13_method_73_code
def yX11_layMetre : MethodName := ⟨RX11, "layMetre", "(I)V"⟩
abbrev cX11_join : ByteArray := prog_13_method_74_code
def yX11_join : MethodName := ⟨RX11, "join", "(III)V"⟩
abbrev cX11_isOver : ByteArray := prog_13_method_75_code
def yX11_isOver : MethodName := ⟨RX11, "isOver", "(I)Z"⟩
abbrev cX11_layPrices : ByteArray := prog_13_method_76_code
def yX11_layPrices : MethodName := ⟨RX11, "layPrices", "(I)V"⟩
abbrev cX11_stepPrice : ByteArray := prog_13_method_77_code
def yX11_stepPrice : MethodName := ⟨RX11, "stepPrice", "(II)I"⟩
abbrev cX11_canCut : ByteArray := prog_13_method_78_code
def yX11_canCut : MethodName := ⟨RX11, "canCut", "(I)Z"⟩
abbrev cX11_leftFrom : ByteArray := prog_13_method_79_code
def yX11_leftFrom : MethodName := ⟨RX11, "leftFrom", "(II)I"⟩
abbrev cX11_layLeft : ByteArray := prog_13_method_80_code
def yX11_layLeft : MethodName := ⟨RX11, "layLeft", "()I"⟩
abbrev cX11_leastOf : ByteArray := prog_13_method_81_code
def yX11_leastOf : MethodName := ⟨RX11, "leastOf", "(II)I"⟩
abbrev cX11_passCuts : ByteArray := prog_13_method_82_code
def yX11_passCuts : MethodName := ⟨RX11, "passCuts", "(II)V"⟩
abbrev cX11_goesAs : ByteArray := prog_13_method_83_code
def yX11_goesAs : MethodName := ⟨RX11, "goesAs", "(II)Z"⟩
abbrev cX11_layThen : ByteArray := prog_13_method_84_code
def yX11_layThen : MethodName := ⟨RX11, "layThen", "(III)Z"⟩
abbrev cX11_readBest : ByteArray := prog_13_method_85_code
def yX11_readBest : MethodName := ⟨RX11, "readBest", "()V"⟩
abbrev cX11_steps : ByteArray := prog_13_method_86_code
def yX11_steps : MethodName := ⟨RX11, "steps", "(I)I"⟩
abbrev cX11_best : ByteArray := prog_13_method_87_code
def yX11_best : MethodName := ⟨RX11, "best", "(II)I"⟩
abbrev cX11_elisions : ByteArray := prog_13_method_88_code
def yX11_elisions : MethodName := ⟨RX11, "elisions", "(I)I"⟩
abbrev cX11_mend : ByteArray := prog_13_method_89_code
def yX11_mend : MethodName := ⟨RX11, "mend", "(I)I"⟩
abbrev cX11_isReached : ByteArray := prog_13_method_90_code
def yX11_isReached : MethodName := ⟨RX11, "isReached", "(II)Z"⟩
abbrev cX11_reach : ByteArray := prog_13_method_91_code
def yX11_reach : MethodName := ⟨RX11, "reach", "(I)I"⟩
abbrev cX11_length : ByteArray := prog_13_method_92_code
def yX11_length : MethodName := ⟨RX11, "length", "(II)I"⟩
abbrev cX11_fitting : ByteArray := prog_13_method_93_code
def yX11_fitting : MethodName := ⟨RX11, "fitting", "()I"⟩
abbrev cX11_many : ByteArray := prog_13_method_94_code
def yX11_many : MethodName := ⟨RX11, "many", "(I)I"⟩
abbrev cX11_fits : ByteArray := prog_13_method_95_code
def yX11_fits : MethodName := ⟨RX11, "fits", "()I"⟩
abbrev cX11_compare : ByteArray := prog_13_method_96_code
def yX11_compare : MethodName := ⟨RX11, "compare", "(II)I"⟩
abbrev cX11_weighNow : ByteArray := prog_13_method_97_code
def yX11_weighNow : MethodName := ⟨RX11, "weighNow", "(II)I"⟩
abbrev cX11_weigh : ByteArray := prog_13_method_98_code
def yX11_weigh : MethodName := ⟨RX11, "weigh", "(II)I"⟩
abbrev cX11_toggle : ByteArray := prog_13_method_99_code
def yX11_toggle : MethodName := ⟨RX11, "toggle", "(III)I"⟩
abbrev cX11_ends : ByteArray := prog_13_method_100_code
def yX11_ends : MethodName := ⟨RX11, "ends", "(I)I"⟩
abbrev cX11_meets : ByteArray := prog_13_method_101_code
def yX11_meets : MethodName := ⟨RX11, "meets", "(I)I"⟩
abbrev cX11_passNow : ByteArray := prog_13_method_102_code
def yX11_passNow : MethodName := ⟨RX11, "passNow", "()I"⟩
abbrev cX11_pass : ByteArray := prog_13_method_103_code
def yX11_pass : MethodName := ⟨RX11, "pass", "()I"⟩
abbrev cX11_heard : ByteArray := prog_13_method_104_code
def yX11_heard : MethodName := ⟨RX11, "heard", "(II)I"⟩
abbrev cX11_forget : ByteArray := prog_13_method_105_code
def yX11_forget : MethodName := ⟨RX11, "forget", "()I"⟩
abbrev cX11_isHeard : ByteArray := prog_13_method_106_code
def yX11_isHeard : MethodName := ⟨RX11, "isHeard", "(I)Z"⟩
abbrev cX11_thatCanBe : ByteArray := prog_13_method_107_code
def yX11_thatCanBe : MethodName := ⟨RX11, "thatCanBe", "()I"⟩
abbrev cX11_canBe : ByteArray := prog_13_method_108_code
def yX11_canBe : MethodName := ⟨RX11, "canBe", "()I"⟩
abbrev cX11_mostAlike : ByteArray := prog_13_method_109_code
def yX11_mostAlike : MethodName := ⟨RX11, "mostAlike", "(II)I"⟩
abbrev cX11_listen : ByteArray := prog_13_method_110_code
def yX11_listen : MethodName := ⟨RX11, "listen", "(I)I"⟩
abbrev cX11_few : ByteArray := prog_13_method_111_code
def yX11_few : MethodName := ⟨RX11, "few", "(II)J"⟩
abbrev cX11_readSum : ByteArray := prog_13_method_112_code
def yX11_readSum : MethodName := ⟨RX11, "readSum", "(I)V"⟩
abbrev cX11_readOrder : ByteArray := prog_13_method_113_code
def yX11_readOrder : MethodName := ⟨RX11, "readOrder", "()V"⟩
abbrev cX11_sumOf : ByteArray := prog_13_method_114_code
def yX11_sumOf : MethodName := ⟨RX11, "sumOf", "(I)I"⟩
abbrev cX11_act : ByteArray := prog_13_method_115_code
def yX11_act : MethodName := ⟨RX11, "act", "(III)I"⟩
abbrev cX11_run : ByteArray := prog_13_method_116_code
def yX11_run : MethodName := ⟨RX11, "run", "(I)I"⟩
abbrev cX11_orders : ByteArray := prog_13_method_117_code
def yX11_orders : MethodName := ⟨RX11, "orders", "()I"⟩
abbrev cX11_giveBack : ByteArray := prog_13_method_118_code
def yX11_giveBack : MethodName := ⟨RX11, "giveBack", "(I)V"⟩
abbrev cX11_stopped : ByteArray := prog_13_method_119_code
def yX11_stopped : MethodName := ⟨RX11, "stopped", "()I"⟩
abbrev cX11_draw : ByteArray := prog_13_method_120_code
def yX11_draw : MethodName := ⟨RX11, "draw", "(I)I"⟩
abbrev cX11_weeks : ByteArray := prog_13_method_121_code
def yX11_weeks : MethodName := ⟨RX11, "weeks", "(II)I"⟩
abbrev cX11_drawn : ByteArray := prog_13_method_122_code
def yX11_drawn : MethodName := ⟨RX11, "drawn", "(II)I"⟩
abbrev cX11_count : ByteArray := prog_13_method_123_code
def yX11_count : MethodName := ⟨RX11, "count", "(I)I"⟩
abbrev cX11_status : ByteArray := prog_13_method_124_code
def yX11_status : MethodName := ⟨RX11, "status", "()I"⟩
def RJx145de : String := "java/io/Serializable"
def TJx145de : u_T := fun k => match k with
  | _ => ("", "", "", false)
def tyJx145de : Nat → FieldType := fun k => match k with
  | _ => .int
abbrev wsJx145de0 : List Cond := u_ws RJx145de TJx145de 0
theorem nmJx145de : ∀ a, a < 0 → ∀ b, b < 0 → a ≠ b → (TJx145de a).2.1 ≠ (TJx145de b).2.1 := by decide +kernel
theorem tyJx145de_ok : ∀ k, k < 0 → parseFieldDescriptor (TJx145de k).2.2.1 = some (tyJx145de k) := by decide +kernel
def RJx9f9b0 : String := "java/lang/CharSequence"
def TJx9f9b0 : u_T := fun k => match k with
  | _ => ("", "", "", false)
def tyJx9f9b0 : Nat → FieldType := fun k => match k with
  | _ => .int
abbrev wsJx9f9b00 : List Cond := u_ws RJx9f9b0 TJx9f9b0 0
theorem nmJx9f9b0 : ∀ a, a < 0 → ∀ b, b < 0 → a ≠ b → (TJx9f9b0 a).2.1 ≠ (TJx9f9b0 b).2.1 := by decide +kernel
theorem tyJx9f9b0_ok : ∀ k, k < 0 → parseFieldDescriptor (TJx9f9b0 k).2.2.1 = some (tyJx9f9b0 k) := by decide +kernel
def RJx8e188 : String := "java/lang/Cloneable"
def TJx8e188 : u_T := fun k => match k with
  | _ => ("", "", "", false)
def tyJx8e188 : Nat → FieldType := fun k => match k with
  | _ => .int
abbrev wsJx8e1880 : List Cond := u_ws RJx8e188 TJx8e188 0
theorem nmJx8e188 : ∀ a, a < 0 → ∀ b, b < 0 → a ≠ b → (TJx8e188 a).2.1 ≠ (TJx8e188 b).2.1 := by decide +kernel
theorem tyJx8e188_ok : ∀ k, k < 0 → parseFieldDescriptor (TJx8e188 k).2.2.1 = some (tyJx8e188 k) := by decide +kernel
def RJxb160c : String := "java/lang/Comparable"
def TJxb160c : u_T := fun k => match k with
  | _ => ("", "", "", false)
def tyJxb160c : Nat → FieldType := fun k => match k with
  | _ => .int
abbrev wsJxb160c0 : List Cond := u_ws RJxb160c TJxb160c 0
theorem nmJxb160c : ∀ a, a < 0 → ∀ b, b < 0 → a ≠ b → (TJxb160c a).2.1 ≠ (TJxb160c b).2.1 := by decide +kernel
theorem tyJxb160c_ok : ∀ k, k < 0 → parseFieldDescriptor (TJxb160c k).2.2.1 = some (tyJxb160c k) := by decide +kernel
def RJ6 : String := "java/lang/Integer"
def TJ6 : u_T := fun k => match k with
  | _ => ("", "", "", false)
def tyJ6 : Nat → FieldType := fun k => match k with
  | _ => .int
abbrev wsJ60 : List Cond := u_ws RJ6 TJ6 0
theorem nmJ6 : ∀ a, a < 0 → ∀ b, b < 0 → a ≠ b → (TJ6 a).2.1 ≠ (TJ6 b).2.1 := by decide +kernel
theorem tyJ6_ok : ∀ k, k < 0 → parseFieldDescriptor (TJ6 k).2.2.1 = some (tyJ6 k) := by decide +kernel
abbrev cJ6_bitCount_0f7a4 : ByteArray := prog_15_method_49_code
def yJ6_bitCount_0f7a4 : MethodName := ⟨RJ6, "bitCount", "(I)I"⟩
def RJ9 : String := "java/lang/Math"
def TJ9 : u_T := fun k => match k with
  | _ => ("", "", "", false)
def tyJ9 : Nat → FieldType := fun k => match k with
  | _ => .int
abbrev wsJ90 : List Cond := u_ws RJ9 TJ9 0
theorem nmJ9 : ∀ a, a < 0 → ∀ b, b < 0 → a ≠ b → (TJ9 a).2.1 ≠ (TJ9 b).2.1 := by decide +kernel
theorem tyJ9_ok : ∀ k, k < 0 → parseFieldDescriptor (TJ9 k).2.2.1 = some (tyJ9 k) := by decide +kernel
abbrev cJ9_max_7cf53 : ByteArray := prog_16_method_65_code
def yJ9_max_7cf53 : MethodName := ⟨RJ9, "max", "(II)I"⟩
abbrev cJ9_min_7cf53 : ByteArray := prog_16_method_69_code
def yJ9_min_7cf53 : MethodName := ⟨RJ9, "min", "(II)I"⟩
abbrev cJ9_min_f86c9 : ByteArray := prog_16_method_70_code
def yJ9_min_f86c9 : MethodName := ⟨RJ9, "min", "(JJ)J"⟩
def RJ0 : String := "java/lang/String"
def TJ0 : u_T := fun k => match k with
  | _ => ("", "", "", false)
def tyJ0 : Nat → FieldType := fun k => match k with
  | _ => .int
abbrev wsJ00 : List Cond := u_ws RJ0 TJ0 0
theorem nmJ0 : ∀ a, a < 0 → ∀ b, b < 0 → a ≠ b → (TJ0 a).2.1 ≠ (TJ0 b).2.1 := by decide +kernel
theorem tyJ0_ok : ∀ k, k < 0 → parseFieldDescriptor (TJ0 k).2.2.1 = some (tyJ0 k) := by decide +kernel
abbrev cJ0_length_8abf5 : ByteArray := prog_17_method_54_code
def yJ0_length_8abf5 : MethodName := ⟨RJ0, "length", "()I"⟩
abbrev cJ0_charAt_5068e : ByteArray := prog_17_method_56_code
def yJ0_charAt_5068e : MethodName := ⟨RJ0, "charAt", "(I)C"⟩
abbrev cJ0_coder_7d493 : ByteArray := prog_17_method_152_code
def yJ0_coder_7d493 : MethodName := ⟨RJ0, "coder", "()B"⟩
abbrev cJ0_isLatin1_aae02 : ByteArray := prog_17_method_154_code
def yJ0_isLatin1_aae02 : MethodName := ⟨RJ0, "isLatin1", "()Z"⟩
abbrev cJ0_checkIndex_df160 : ByteArray := prog_17_method_155_code
def yJ0_checkIndex_df160 : MethodName := ⟨RJ0, "checkIndex", "(II)V"⟩
def RJ1 : String := "java/lang/StringLatin1"
def TJ1 : u_T := fun k => match k with
  | _ => ("", "", "", false)
def tyJ1 : Nat → FieldType := fun k => match k with
  | _ => .int
abbrev wsJ10 : List Cond := u_ws RJ1 TJ1 0
theorem nmJ1 : ∀ a, a < 0 → ∀ b, b < 0 → a ≠ b → (TJ1 a).2.1 ≠ (TJ1 b).2.1 := by decide +kernel
theorem tyJ1_ok : ∀ k, k < 0 → parseFieldDescriptor (TJ1 k).2.2.1 = some (tyJ1 k) := by decide +kernel
abbrev cJ1_charAt_3b067 : ByteArray := prog_18_method_2_code
def yJ1_charAt_3b067 : MethodName := ⟨RJ1, "charAt", "([BI)C"⟩
def RJ2 : String := "java/lang/StringUTF16"
def TJ2 : u_T := fun k => match k with
  | _ => ("", "", "", false)
def tyJ2 : Nat → FieldType := fun k => match k with
  | _ => .int
abbrev wsJ20 : List Cond := u_ws RJ2 TJ2 0
theorem nmJ2 : ∀ a, a < 0 → ∀ b, b < 0 → a ≠ b → (TJ2 a).2.1 ≠ (TJ2 b).2.1 := by decide +kernel
theorem tyJ2_ok : ∀ k, k < 0 → parseFieldDescriptor (TJ2 k).2.2.1 = some (tyJ2 k) := by decide +kernel
abbrev cJ2_getChar_3b067 : ByteArray := prog_19_method_5_code
def yJ2_getChar_3b067 : MethodName := ⟨RJ2, "getChar", "([BI)C"⟩
abbrev cJ2_length_9d52b : ByteArray := prog_19_method_6_code
def yJ2_length_9d52b : MethodName := ⟨RJ2, "length", "([B)I"⟩
abbrev cJ2_charAt_3b067 : ByteArray := prog_19_method_83_code
def yJ2_charAt_3b067 : MethodName := ⟨RJ2, "charAt", "([BI)C"⟩
abbrev cJ2_checkIndex_2214a : ByteArray := prog_19_method_91_code
def yJ2_checkIndex_2214a : MethodName := ⟨RJ2, "checkIndex", "(I[B)V"⟩
def RJ10 : String := "java/lang/System"
def TJ10 : u_T := fun k => match k with
  | _ => ("", "", "", false)
def tyJ10 : Nat → FieldType := fun k => match k with
  | _ => .int
abbrev wsJ100 : List Cond := u_ws RJ10 TJ10 0
theorem nmJ10 : ∀ a, a < 0 → ∀ b, b < 0 → a ≠ b → (TJ10 a).2.1 ≠ (TJ10 b).2.1 := by decide +kernel
theorem tyJ10_ok : ∀ k, k < 0 → parseFieldDescriptor (TJ10 k).2.2.1 = some (tyJ10 k) := by decide +kernel
def RJxfd54e : String := "java/lang/constant/Constable"
def TJxfd54e : u_T := fun k => match k with
  | _ => ("", "", "", false)
def tyJxfd54e : Nat → FieldType := fun k => match k with
  | _ => .int
abbrev wsJxfd54e0 : List Cond := u_ws RJxfd54e TJxfd54e 0
theorem nmJxfd54e : ∀ a, a < 0 → ∀ b, b < 0 → a ≠ b → (TJxfd54e a).2.1 ≠ (TJxfd54e b).2.1 := by decide +kernel
theorem tyJxfd54e_ok : ∀ k, k < 0 → parseFieldDescriptor (TJxfd54e k).2.2.1 = some (tyJxfd54e k) := by decide +kernel
def RJx3cf43 : String := "java/lang/constant/ConstantDesc"
def TJx3cf43 : u_T := fun k => match k with
  | _ => ("", "", "", false)
def tyJx3cf43 : Nat → FieldType := fun k => match k with
  | _ => .int
abbrev wsJx3cf430 : List Cond := u_ws RJx3cf43 TJx3cf43 0
theorem nmJx3cf43 : ∀ a, a < 0 → ∀ b, b < 0 → a ≠ b → (TJx3cf43 a).2.1 ≠ (TJx3cf43 b).2.1 := by decide +kernel
theorem tyJx3cf43_ok : ∀ k, k < 0 → parseFieldDescriptor (TJx3cf43 k).2.2.1 = some (tyJx3cf43 k) := by decide +kernel
def RJ7 : String := "java/util/Arrays"
def TJ7 : u_T := fun k => match k with
  | _ => ("", "", "", false)
def tyJ7 : Nat → FieldType := fun k => match k with
  | _ => .int
abbrev wsJ70 : List Cond := u_ws RJ7 TJ7 0
theorem nmJ7 : ∀ a, a < 0 → ∀ b, b < 0 → a ≠ b → (TJ7 a).2.1 ≠ (TJ7 b).2.1 := by decide +kernel
theorem tyJ7_ok : ∀ k, k < 0 → parseFieldDescriptor (TJ7 k).2.2.1 = some (tyJ7 k) := by decide +kernel
abbrev cJ7_fill_d0a16 : ByteArray := prog_21_method_101_code
def yJ7_fill_d0a16 : MethodName := ⟨RJ7, "fill", "([JJ)V"⟩
abbrev cJ7_fill_53178 : ByteArray := prog_21_method_103_code
def yJ7_fill_53178 : MethodName := ⟨RJ7, "fill", "([II)V"⟩
abbrev cJ7_copyOf_59c91 : ByteArray := prog_21_method_123_code
def yJ7_copyOf_59c91 : MethodName := ⟨RJ7, "copyOf", "([II)[I"⟩
def RJ3 : String := "jdk/internal/util/Preconditions"
def TJ3 : u_T := fun k => match k with
  | _ => ("", "", "", false)
def tyJ3 : Nat → FieldType := fun k => match k with
  | _ => .int
abbrev wsJ30 : List Cond := u_ws RJ3 TJ3 0
theorem nmJ3 : ∀ a, a < 0 → ∀ b, b < 0 → a ≠ b → (TJ3 a).2.1 ≠ (TJ3 b).2.1 := by decide +kernel
theorem tyJ3_ok : ∀ k, k < 0 → parseFieldDescriptor (TJ3 k).2.2.1 = some (tyJ3 k) := by decide +kernel
abbrev cJ3_checkIndex_8e157 : ByteArray := prog_22_method_11_code
def yJ3_checkIndex_8e157 : MethodName := ⟨RJ3, "checkIndex", "(IILjava/util/function/BiFunction;)I"⟩
def RL : String := "ScansionDeskLaw"
abbrev cL_law : ByteArray := code
def yL_law : MethodName := ⟨RL, "law", "([I)Z"⟩
def wsL_law_r1 : List Cond := [Cond.classLink RL 7 RX10, Cond.instantiable RX10 20, Cond.initialized RX10, Cond.classLink RL 10 RX11, Cond.instantiable RX11 72, Cond.initialized RX11, Cond.methodLink RL 9 yX10_init, Cond.instanceMethod yX10_init, Cond.code yX10_init cX10_init 1 none, Cond.methodLink RX10 3 objectInit, Cond.instanceMethod objectInit, Cond.code objectInit ⟨#[0xb1]⟩ 1 none, Cond.classLink RX10 9 RX7, Cond.instantiable RX7 11, Cond.initialized RX7, Cond.fieldLink RX10 12 "ScansionDesk" "now" "LScansionDesk$State;", Cond.fieldLink RX10 16 "ScansionDesk" "aheadOfOrders" "LScansionDesk$State;", Cond.fieldLink RX10 19 "ScansionDesk" "afterWeeks" "LScansionDesk$State;", Cond.fieldLink RX10 22 "ScansionDesk" "images" "[LScansionDesk$State;", Cond.classLink RX10 26 RX2, Cond.instantiable RX2 4, Cond.initialized RX2, Cond.fieldLink RX10 29 "ScansionDesk" "history" "LScansionDesk$History;", Cond.fieldLink RX10 33 "ScansionDesk" "historyAheadOfOrders" "LScansionDesk$History;"]
def wsL_law_r2 : List Cond := [Cond.classLink RX10 36 RX8, Cond.instantiable RX8 2, Cond.initialized RX8, Cond.fieldLink RX10 39 "ScansionDesk" "tape" "LScansionDesk$Tape;", Cond.classLink RX10 43 RX9, Cond.instantiable RX9 6, Cond.initialized RX9, Cond.fieldLink RX10 46 "ScansionDesk" "tokens" "LScansionDesk$Tokens;", Cond.classLink RX10 50 RX4, Cond.instantiable RX4 11, Cond.initialized RX4, Cond.fieldLink RX10 53 "ScansionDesk" "metreReader" "LScansionDesk$MetreReader;", Cond.classLink RX10 57 RX0, Cond.instantiable RX0 3, Cond.initialized RX0, Cond.fieldLink RX10 60 "ScansionDesk" "clauseReader" "LScansionDesk$ClauseReader;", Cond.classLink RX10 64 RX5, Cond.instantiable RX5 1, Cond.initialized RX5, Cond.fieldLink RX10 67 "ScansionDesk" "reckoner" "LScansionDesk$Reckoner;", Cond.classLink RX10 71 RX6, Cond.instantiable RX6 11, Cond.initialized RX6, Cond.fieldLink RX10 74 "ScansionDesk" "scansion" "LScansionDesk$Scansion;"]
def wsL_law_r3 : List Cond := [Cond.arrayClass .int, Cond.fieldLink RX10 78 "ScansionDesk" "orderWords" "[I", Cond.arrayClass .long, Cond.fieldLink RX10 82 "ScansionDesk" "bestReadings" "[J", Cond.fieldLink RX10 86 "ScansionDesk" "chances" "[J", Cond.fieldLink RX10 89 "ScansionDesk" "REFUSAL_CODES" "[I", Cond.fieldLink RX10 92 "ScansionDesk" "refusals" "[I", Cond.fieldLink RX10 95 "ScansionDesk" "latestFault" "I", Cond.fieldLink RX10 99 "ScansionDesk" "latestStop" "I", Cond.instanceMethod yX7_init, Cond.code yX7_init cX7_init 1 none, Cond.methodLink RX7 3 objectInit, Cond.fieldLink RX7 9 "ScansionDesk$State" "facts" "[I", Cond.fieldLink RX7 15 "ScansionDesk$State" "terms" "[I", Cond.fieldLink RX7 18 "ScansionDesk$State" "heardAt" "[I", Cond.fieldLink RX7 21 "ScansionDesk$State" "heardAs" "[I", Cond.classLink RX7 24 RX3, Cond.fieldLink RX7 26 "ScansionDesk$State" "metres" "[LScansionDesk$Metre;", Cond.classLink RX7 30 RX1, Cond.fieldLink RX7 32 "ScansionDesk$State" "laws" "[LScansionDesk$Clauses;", Cond.fieldLink RX7 36 "ScansionDesk$State" "force" "I", Cond.instanceMethod yX2_init, Cond.code yX2_init cX2_init 1 none, Cond.methodLink RX2 3 objectInit]
def wsL_law_r4 : List Cond := [Cond.fieldLink RX2 9 "ScansionDesk$History" "kinds" "[I", Cond.fieldLink RX2 15 "ScansionDesk$History" "syllables" "[I", Cond.fieldLink RX2 18 "ScansionDesk$History" "weights" "[I", Cond.instanceMethod yX8_init, Cond.code yX8_init cX8_init 1 none, Cond.methodLink RX8 3 objectInit, Cond.fieldLink RX8 9 "ScansionDesk$Tape" "bytes" "[I", Cond.instanceMethod yX9_init, Cond.code yX9_init cX9_init 1 none, Cond.methodLink RX9 3 objectInit, Cond.fieldLink RX9 9 "ScansionDesk$Tokens" "codes" "[I", Cond.fieldLink RX9 15 "ScansionDesk$Tokens" "values" "[I", Cond.fieldLink RX9 18 "ScansionDesk$Tokens" "places" "[I", Cond.fieldLink RX9 21 "ScansionDesk$Tokens" "fault" "I", Cond.instanceMethod yX4_init, Cond.code yX4_init cX4_init 1 none, Cond.methodLink RX4 3 objectInit, Cond.fieldLink RX4 11 "ScansionDesk$MetreReader" "unitTimes" "[I", Cond.fieldLink RX4 15 "ScansionDesk$MetreReader" "unitBefore" "[I", Cond.fieldLink RX4 18 "ScansionDesk$MetreReader" "lastUnit" "[I", Cond.fieldLink RX4 21 "ScansionDesk$MetreReader" "choiceBefore" "[I", Cond.fieldLink RX4 24 "ScansionDesk$MetreReader" "lastChoice" "[I", Cond.fieldLink RX4 27 "ScansionDesk$MetreReader" "kinds" "[I", Cond.fieldLink RX4 30 "ScansionDesk$MetreReader" "nexts" "[I"]
def wsL_law_r5 : List Cond := [Cond.fieldLink RX4 33 "ScansionDesk$MetreReader" "others" "[I", Cond.fieldLink RX4 36 "ScansionDesk$MetreReader" "fewest" "[I", Cond.fieldLink RX4 39 "ScansionDesk$MetreReader" "most" "[I", Cond.instanceMethod yX0_init, Cond.code yX0_init cX0_init 1 none, Cond.methodLink RX0 3 objectInit, Cond.classLink RX0 9 RX1, Cond.instantiable RX1 5, Cond.initialized RX1, Cond.fieldLink RX0 20 "ScansionDesk$ClauseReader" "text" "LScansionDesk$Clauses;", Cond.methodLink RX0 13 yX1_fieldsFor, Cond.static yX1_fieldsFor, Cond.code yX1_fieldsFor cX1_fieldsFor 1 (some (.array .int)), Cond.methodLink RX1 18 Lib.Math.max.name, Cond.static Lib.Math.max.name, Cond.initialized "java/lang/Math", Cond.code Lib.Math.max.name Lib.Math.max.code 2 (some .int), Cond.methodLink RX0 17 yX1_init, Cond.instanceMethod yX1_init, Cond.code yX1_init cX1_init 3 none, Cond.methodLink RX1 3 objectInit, Cond.fieldLink RX1 9 "ScansionDesk$Clauses" "code" "[I", Cond.fieldLink RX1 15 "ScansionDesk$Clauses" "fields" "[I", Cond.instanceMethod yX5_init]
def wsL_law_r6 : List Cond := [Cond.code yX5_init cX5_init 1 none, Cond.methodLink RX5 3 objectInit, Cond.fieldLink RX5 9 "ScansionDesk$Reckoner" "stack" "[I", Cond.instanceMethod yX6_init, Cond.code yX6_init cX6_init 1 none, Cond.methodLink RX6 3 objectInit, Cond.classLink RX6 9 RX5, Cond.fieldLink RX6 12 "ScansionDesk$Scansion" "reckoner" "LScansionDesk$Reckoner;", Cond.fieldLink RX6 18 "ScansionDesk$Scansion" "lawWords" "[I", Cond.fieldLink RX6 22 "ScansionDesk$Scansion" "can" "[I", Cond.fieldLink RX6 25 "ScansionDesk$Scansion" "costs" "[I", Cond.fieldLink RX6 28 "ScansionDesk$Scansion" "prices" "[J", Cond.fieldLink RX6 32 "ScansionDesk$Scansion" "flow" "[I", Cond.fieldLink RX6 35 "ScansionDesk$Scansion" "here" "[J", Cond.fieldLink RX6 38 "ScansionDesk$Scansion" "ahead" "[J", Cond.methodLink RL 12 yX11_init, Cond.instanceMethod yX11_init, Cond.code yX11_init cX11_init 1 none, Cond.methodLink RX11 1 objectInit, Cond.fieldLink RX11 7 "ScansionDeskModel" "refusals" "[I", Cond.fieldLink RX11 13 "ScansionDeskModel" "row" "[I", Cond.fieldLink RX11 16 "ScansionDeskModel" "images" "[I", Cond.arrayClass .boolean, Cond.fieldLink RX11 19 "ScansionDeskModel" "isKept" "[Z"]
def wsL_law_r7 : List Cond := [Cond.fieldLink RX11 23 "ScansionDeskModel" "undos" "[I", Cond.fieldLink RX11 26 "ScansionDeskModel" "sorts" "[I", Cond.fieldLink RX11 29 "ScansionDeskModel" "undosBefore" "[I", Cond.fieldLink RX11 32 "ScansionDeskModel" "sortsBefore" "[I", Cond.fieldLink RX11 35 "ScansionDeskModel" "tape" "[I", Cond.fieldLink RX11 38 "ScansionDeskModel" "fault" "I", Cond.fieldLink RX11 42 "ScansionDeskModel" "nClause" "[I", Cond.fieldLink RX11 45 "ScansionDeskModel" "nOp" "[I", Cond.fieldLink RX11 48 "ScansionDeskModel" "nArg" "[I", Cond.fieldLink RX11 51 "ScansionDeskModel" "pile" "[I", Cond.fieldLink RX11 54 "ScansionDeskModel" "pileAt" "[I", Cond.constantLong RX11 57 (17171557), Cond.constantLong RX11 59 (777297172), Cond.constantLong RX11 61 (51), Cond.constantLong RX11 63 (178323), Cond.constantLong RX11 65 (13801107), Cond.constantLong RX11 67 (3659220), Cond.constantLong RX11 69 (4153), Cond.constantLong RX11 71 (441828), Cond.fieldLink RX11 73 "ScansionDeskModel" "words" "[J", Cond.constantLong RX11 77 (146885), Cond.constantLong RX11 79 (404362868), Cond.constantLong RX11 81 (20022739), Cond.fieldLink RX11 83 "ScansionDeskModel" "orderWords" "[J"]
def wsL_law_r8 : List Cond := [Cond.constantLong RX11 86 (3657363), Cond.constantLong RX11 88 (46546675), Cond.constantLong RX11 90 (67155), Cond.fieldLink RX11 92 "ScansionDeskModel" "heads" "[J", Cond.fieldLink RX11 95 "ScansionDeskModel" "set" "[J", Cond.fieldLink RX11 98 "ScansionDeskModel" "now" "[J", Cond.fieldLink RX11 101 "ScansionDeskModel" "rest" "[J", Cond.constantLong RX11 104 (409031), Cond.constantLong RX11 106 (20201044), Cond.constantLong RX11 108 (1497), Cond.constantLong RX11 110 (3764), Cond.fieldLink RX11 112 "ScansionDeskModel" "stepWords" "[J", Cond.fieldLink RX11 115 "ScansionDeskModel" "raw" "[I", Cond.fieldLink RX11 118 "ScansionDeskModel" "units" "[I", Cond.fieldLink RX11 121 "ScansionDeskModel" "choices" "[I", Cond.fieldLink RX11 124 "ScansionDeskModel" "heap" "[I", Cond.fieldLink RX11 127 "ScansionDeskModel" "full" "[I", Cond.fieldLink RX11 130 "ScansionDeskModel" "steps" "[I", Cond.constant RX11 133 (40401), Cond.fieldLink RX11 134 "ScansionDeskModel" "follows" "[Z", Cond.fieldLink RX11 137 "ScansionDeskModel" "isFirst" "[Z", Cond.fieldLink RX11 140 "ScansionDeskModel" "isLast" "[Z", Cond.fieldLink RX11 143 "ScansionDeskModel" "prices" "[I", Cond.fieldLink RX11 146 "ScansionDeskModel" "left" "[I"]
def wsL_law_r9 : List Cond := [Cond.fieldLink RX11 149 "ScansionDeskModel" "states" "[Z", Cond.fieldLink RX11 152 "ScansionDeskModel" "statesThen" "[Z", Cond.fieldLink RX11 155 "ScansionDeskModel" "reading" "[I", Cond.fieldLink RX11 158 "ScansionDeskModel" "reached" "[Z", Cond.fieldLink RX11 161 "ScansionDeskModel" "readings" "[I", Cond.fieldLink RX11 164 "ScansionDeskModel" "parts" "[J", Cond.constantLong RX11 167 (24290536), Cond.constantLong RX11 169 (5572), Cond.constantLong RX11 171 (431284), Cond.constantLong RX11 173 (525939), Cond.fieldLink RX11 175 "ScansionDeskModel" "acts" "[J", Cond.fieldLink RX11 178 "ScansionDeskModel" "nOrder" "[I", Cond.fieldLink RX11 181 "ScansionDeskModel" "stopped" "I", Cond.fieldLink RX11 184 "ScansionDeskModel" "drawn" "[I", Cond.fieldLink RX11 187 "ScansionDeskModel" "drawnSyllables" "I", Cond.methodLink RL 13 yX10_syllable, Cond.instanceMethod yX10_syllable, Cond.selects RX10 yX10_syllable yX10_syllable, Cond.code yX10_syllable cX10_syllable 4 (some .int), Cond.fieldLink RX10 113 "ScansionDesk$History" "size" "I", Cond.fieldLink RX10 116 "ScansionDesk$State" "size" "I", Cond.methodLink RX10 102 yX7_isSyllable, Cond.static yX7_isSyllable, Cond.code yX7_isSyllable cX7_isSyllable 3 (some .boolean)]
def wsL_law_r10 : List Cond := [Cond.methodLink RX10 106 yX10_refuse, Cond.instanceMethod yX10_refuse, Cond.selects RX10 yX10_refuse yX10_refuse, Cond.code yX10_refuse cX10_refuse 3 (some .int), Cond.fieldLink RX10 345 "ScansionDesk" "latestRefusal" "I", Cond.methodLink RX10 110 yX7_addSyllable, Cond.instanceMethod yX7_addSyllable, Cond.selects RX7 yX7_addSyllable yX7_addSyllable, Cond.code yX7_addSyllable cX7_addSyllable 5 (some .boolean), Cond.fieldLink RX7 49 "ScansionDesk$State" "size" "I", Cond.methodLink RX7 61 yX7_isSyllable, Cond.methodLink RX10 117 yX10_accept, Cond.instanceMethod yX10_accept, Cond.selects RX10 yX10_accept yX10_accept, Cond.code yX10_accept cX10_accept 2 (some .int), Cond.methodLink RL 17 yX11_syllable, Cond.instanceMethod yX11_syllable, Cond.selects RX11 yX11_syllable yX11_syllable, Cond.code yX11_syllable cX11_syllable 4 (some .int), Cond.fieldLink RX11 190 "ScansionDeskModel" "thrown" "I", Cond.methodLink RX11 219 yX11_comes, Cond.instanceMethod yX11_comes, Cond.selects RX11 yX11_comes yX11_comes, Cond.code yX11_comes cX11_comes 5 (some .int)]
def wsL_law_r11 : List Cond := [Cond.constantLong RX11 217 (2), Cond.methodLink RX11 210 yX11_in, Cond.static yX11_in, Cond.code yX11_in cX11_in 6 (some .boolean), Cond.methodLink RX11 214 yX11_lasting, Cond.instanceMethod yX11_lasting, Cond.selects RX11 yX11_lasting yX11_lasting, Cond.code yX11_lasting cX11_lasting 2 (some .int), Cond.fieldLink RX11 196 "ScansionDeskModel" "nUndo" "I", Cond.methodLink RX11 199 yX11_tell, Cond.instanceMethod yX11_tell, Cond.selects RX11 yX11_tell yX11_tell, Cond.code yX11_tell cX11_tell 2 (some .int), Cond.fieldLink RX11 193 "ScansionDeskModel" "status" "I", Cond.methodLink RL 18 yX10_of, Cond.instanceMethod yX10_of, Cond.selects RX10 yX10_of yX10_of, Cond.code yX10_of cX10_of 4 (some .int), Cond.fieldLink RX10 128 "ScansionDesk$State" "force" "I", Cond.methodLink RX10 120 yX7_hasSyllable, Cond.instanceMethod yX7_hasSyllable, Cond.selects RX7 yX7_hasSyllable yX7_hasSyllable, Cond.code yX7_hasSyllable cX7_hasSyllable 2 (some .boolean), Cond.methodLink RX10 124 yX7_told]
def wsL_law_r12 : List Cond := [Cond.instanceMethod yX7_told, Cond.selects RX7 yX7_told yX7_told, Cond.code yX7_told cX7_told 4 (some .int), Cond.methodLink RX10 131 yX7_lawAt, Cond.instanceMethod yX7_lawAt, Cond.selects RX7 yX7_lawAt yX7_lawAt, Cond.code yX7_lawAt cX7_lawAt 2 (some (.object "ScansionDesk$Clauses")), Cond.fieldLink RX7 58 "ScansionDesk$State" "lawCount" "I", Cond.methodLink RX10 135 yX6_lookAt, Cond.instanceMethod yX6_lookAt, Cond.selects RX6 yX6_lookAt yX6_lookAt, Cond.code yX6_lookAt cX6_lookAt 5 none, Cond.fieldLink RX6 41 "ScansionDesk$State" "size" "I", Cond.fieldLink RX6 47 "ScansionDesk$Scansion" "size" "I", Cond.fieldLink RX6 54 "ScansionDesk$Scansion" "cuts" "I", Cond.methodLink RX6 48 yJ7_fill_53178, Cond.static yJ7_fill_53178, Cond.initialized RJ7, Cond.code yJ7_fill_53178 cJ7_fill_53178 4 none, Cond.methodLink RX6 57 yX7_termOf, Cond.instanceMethod yX7_termOf, Cond.selects RX7 yX7_termOf yX7_termOf, Cond.code yX7_termOf cX7_termOf 2 (some .int), Cond.methodLink RX6 61 yX7_told]
def wsL_law_r13 : List Cond := [Cond.methodLink RX6 65 yX6_judge, Cond.instanceMethod yX6_judge, Cond.selects RX6 yX6_judge yX6_judge, Cond.code yX6_judge cX6_judge 13 none, Cond.fieldLink RX6 69 "ScansionDesk$Clauses" "count" "I", Cond.fieldLink RX6 75 "ScansionDesk$Clauses" "code" "[I", Cond.constant RX6 84 (-2000000000), Cond.methodLink RX6 85 Lib.Math.min.name, Cond.static Lib.Math.min.name, Cond.code Lib.Math.min.name Lib.Math.min.code 2 (some .int), Cond.methodLink RX6 90 Lib.Math.max.name, Cond.methodLink RX6 74 yX1_told, Cond.instanceMethod yX1_told, Cond.selects RX1 yX1_told yX1_told, Cond.code yX1_told cX1_told 4 (some .int), Cond.methodLink RX6 78 yX5_reckon, Cond.instanceMethod yX5_reckon, Cond.selects RX5 yX5_reckon yX5_reckon, Cond.code yX5_reckon cX5_reckon 9 (some .int), Cond.constant RX5 15 (-2000000000), Cond.methodLink RX5 16 Lib.Math.max.name, Cond.methodLink RX5 22 yX5_combine, Cond.static yX5_combine, Cond.code yX5_combine cX5_combine 7 (some .int)]
def wsL_law_r14 : List Cond := [Cond.constantLong RX5 26 (-1000000000), Cond.constantLong RX5 28 (1000000000), Cond.methodLink RX10 139 yX6_canRead, Cond.instanceMethod yX6_canRead, Cond.selects RX6 yX6_canRead yX6_canRead, Cond.code yX6_canRead cX6_canRead 3 (some .int), Cond.methodLink RX10 142 yX6_costOf, Cond.instanceMethod yX6_costOf, Cond.selects RX6 yX6_costOf yX6_costOf, Cond.code yX6_costOf cX6_costOf 4 (some .int), Cond.methodLink RL 22 yX11_of, Cond.instanceMethod yX11_of, Cond.selects RX11 yX11_of yX11_of, Cond.code yX11_of cX11_of 3 (some .int), Cond.constantLong RX11 227 (3), Cond.constantLong RX11 229 (5), Cond.constantLong RX11 235 (6), Cond.constantLong RX11 237 (8), Cond.methodLink RX11 223 yX11_isSyllable, Cond.instanceMethod yX11_isSyllable, Cond.selects RX11 yX11_isSyllable yX11_isSyllable, Cond.code yX11_isSyllable cX11_isSyllable 2 (some .boolean), Cond.methodLink RX11 231 yX11_canRead, Cond.instanceMethod yX11_canRead]
def wsL_law_r15 : List Cond := [Cond.selects RX11 yX11_canRead yX11_canRead, Cond.code yX11_canRead cX11_canRead 5 (some .boolean), Cond.methodLink RX11 447 yX11_tells, Cond.instanceMethod yX11_tells, Cond.selects RX11 yX11_tells yX11_tells, Cond.code yX11_tells cX11_tells 10 (some .long), Cond.fieldLink RX11 418 "ScansionDeskModel" "law" "I", Cond.fieldLink RX11 441 "ScansionDeskModel" "sum" "J", Cond.methodLink RX11 444 yX11_isSo, Cond.instanceMethod yX11_isSo, Cond.selects RX11 yX11_isSo yX11_isSo, Cond.code yX11_isSo cX11_isSo 2 (some .boolean), Cond.fieldLink RX11 415 "ScansionDeskModel" "broken" "Z", Cond.fieldLink RX11 435 "ScansionDeskModel" "value" "J", Cond.methodLink RX11 438 yX11_reckonAll, Cond.instanceMethod yX11_reckonAll, Cond.selects RX11 yX11_reckonAll yX11_reckonAll, Cond.code yX11_reckonAll cX11_reckonAll 7 none, Cond.fieldLink RX11 341 "ScansionDeskModel" "ordered" "Z", Cond.fieldLink RX11 424 "ScansionDeskModel" "fitsNow" "I", Cond.constantLong RX11 291 (-1), Cond.constantLong RX11 431 (-1000000000), Cond.constantLong RX11 433 (1000000000), Cond.methodLink RX11 421 yX11_isMetre]
def wsL_law_r16 : List Cond := [Cond.instanceMethod yX11_isMetre, Cond.selects RX11 yX11_isMetre yX11_isMetre, Cond.code yX11_isMetre cX11_isMetre 2 (some .boolean), Cond.methodLink RX11 427 yX11_reckon, Cond.instanceMethod yX11_reckon, Cond.selects RX11 yX11_reckon yX11_reckon, Cond.code yX11_reckon cX11_reckon 6 (some .long), Cond.methodLink RX11 239 yX11_costsAs, Cond.instanceMethod yX11_costsAs, Cond.selects RX11 yX11_costsAs yX11_costsAs, Cond.code yX11_costsAs cX11_costsAs 4 (some .int), Cond.methodLink RX11 451 yX11_bounded, Cond.static yX11_bounded, Cond.code yX11_bounded cX11_bounded 4 (some .int), Cond.methodLink RL 23 yX10_terms, Cond.instanceMethod yX10_terms, Cond.selects RX10 yX10_terms yX10_terms, Cond.code yX10_terms cX10_terms 4 (some .int), Cond.fieldLink RX10 145 "ScansionDesk" "HIGHEST_TERMS" "[I", Cond.methodLink RX10 148 yX7_termOf, Cond.methodLink RX10 151 yX7_setTerm, Cond.instanceMethod yX7_setTerm, Cond.selects RX7 yX7_setTerm yX7_setTerm, Cond.code yX7_setTerm cX7_setTerm 3 none]
def wsL_law_r17 : List Cond := [Cond.methodLink RL 26 yX11_terms, Cond.instanceMethod yX11_terms, Cond.selects RX11 yX11_terms yX11_terms, Cond.code yX11_terms cX11_terms 4 (some .int), Cond.constantLong RX11 243 (999), Cond.constantLong RX11 245 (10), Cond.constantLong RX11 247 (9), Cond.methodLink RX11 249 yX11_change, Cond.instanceMethod yX11_change, Cond.selects RX11 yX11_change yX11_change, Cond.code yX11_change cX11_change 4 (some .int), Cond.methodLink RL 27 yX10_feed, Cond.instanceMethod yX10_feed, Cond.selects RX10 yX10_feed yX10_feed, Cond.code yX10_feed cX10_feed 6 (some .int), Cond.fieldLink RX10 163 "ScansionDesk$Tape" "size" "I", Cond.methodLink RX10 155 yX8_hasRoomForFive, Cond.instanceMethod yX8_hasRoomForFive, Cond.selects RX8 yX8_hasRoomForFive yX8_hasRoomForFive, Cond.code yX8_hasRoomForFive cX8_hasRoomForFive 1 (some .boolean), Cond.fieldLink RX8 15 "ScansionDesk$Tape" "size" "I", Cond.methodLink RX10 159 yX8_addFour, Cond.instanceMethod yX8_addFour, Cond.selects RX8 yX8_addFour yX8_addFour]
def wsL_law_r18 : List Cond := [Cond.code yX8_addFour cX8_addFour 3 none, Cond.methodLink RL 31 yX11_feed, Cond.instanceMethod yX11_feed, Cond.selects RX11 yX11_feed yX11_feed, Cond.code yX11_feed cX11_feed 6 (some .int), Cond.fieldLink RX11 252 "ScansionDeskModel" "taped" "I", Cond.methodLink RX11 258 yX11_four, Cond.instanceMethod yX11_four, Cond.selects RX11 yX11_four yX11_four, Cond.code yX11_four cX11_four 3 none, Cond.methodLink RL 32 yX10_end, Cond.instanceMethod yX10_end, Cond.selects RX10 yX10_end yX10_end, Cond.code yX10_end cX10_end 2 (some .int), Cond.methodLink RL 36 yX11_end, Cond.instanceMethod yX11_end, Cond.selects RX11 yX11_end yX11_end, Cond.code yX11_end cX11_end 2 (some .int), Cond.methodLink RL 37 yX10_row, Cond.instanceMethod yX10_row, Cond.selects RX10 yX10_row yX10_row, Cond.code yX10_row cX10_row 4 (some .int), Cond.fieldLink RX10 167 "ScansionDesk" "latestMutes" "I", Cond.methodLink RX10 164 yX8_byteAt]
def wsL_law_r19 : List Cond := [Cond.instanceMethod yX8_byteAt, Cond.selects RX8 yX8_byteAt yX8_byteAt, Cond.code yX8_byteAt cX8_byteAt 2 (some .int), Cond.methodLink RL 41 yX11_row, Cond.instanceMethod yX11_row, Cond.selects RX11 yX11_row yX11_row, Cond.code yX11_row cX11_row 4 (some .int), Cond.fieldLink RX11 255 "ScansionDeskModel" "mutes" "I", Cond.methodLink RL 42 yX10_mutes, Cond.instanceMethod yX10_mutes, Cond.selects RX10 yX10_mutes yX10_mutes, Cond.code yX10_mutes cX10_mutes 1 (some .int), Cond.methodLink RL 45 yX11_mutes, Cond.instanceMethod yX11_mutes, Cond.selects RX11 yX11_mutes yX11_mutes, Cond.code yX11_mutes cX11_mutes 1 (some .int), Cond.methodLink RL 46 yX10_metre, Cond.instanceMethod yX10_metre, Cond.selects RX10 yX10_metre yX10_metre, Cond.code yX10_metre cX10_metre 2 (some .int), Cond.fieldLink RX10 170 "ScansionDesk$State" "metreCount" "I", Cond.fieldLink RX10 181 "ScansionDesk$Tokens" "fault" "I", Cond.methodLink RX10 173 yX9_readTape, Cond.instanceMethod yX9_readTape]
def wsL_law_r20 : List Cond := [Cond.selects RX9 yX9_readTape yX9_readTape, Cond.code yX9_readTape cX9_readTape 5 none, Cond.fieldLink RX9 25 "ScansionDesk$Tokens" "size" "I", Cond.fieldLink RX9 28 "ScansionDesk$Tokens" "at" "I", Cond.fieldLink RX9 31 "ScansionDesk$Tape" "size" "I", Cond.methodLink RX9 60 Lib.Math.max.name, Cond.methodLink RX9 34 yX9_endOfToken, Cond.static yX9_endOfToken, Cond.code yX9_endOfToken cX9_endOfToken 4 (some .int), Cond.methodLink RX9 38 yX8_byteAt, Cond.methodLink RX9 42 yX9_isLetter, Cond.static yX9_isLetter, Cond.code yX9_isLetter cX9_isLetter 1 (some .boolean), Cond.methodLink RX9 54 yX9_isDigit, Cond.static yX9_isDigit, Cond.code yX9_isDigit cX9_isDigit 1 (some .boolean), Cond.methodLink RX9 46 yX9_wordCode, Cond.static yX9_wordCode, Cond.code yX9_wordCode cX9_wordCode 8 (some .int), Cond.methodLink RX9 68 yJ0_length_8abf5, Cond.instanceMethod yJ0_length_8abf5, Cond.selects RJ0 yJ0_length_8abf5 yJ0_length_8abf5, Cond.initialized RJ0, Cond.code yJ0_length_8abf5 cJ0_length_8abf5 1 (some .int)]
def wsL_law_r21 : List Cond := [Cond.fieldLink RJ0 9 "java/lang/String" "value" "[B", Cond.methodLink RJ0 335 yJ0_coder_7d493, Cond.instanceMethod yJ0_coder_7d493, Cond.selects RJ0 yJ0_coder_7d493 yJ0_coder_7d493, Cond.code yJ0_coder_7d493 cJ0_coder_7d493 1 (some .byte), Cond.fieldLink RJ0 38 "java/lang/String" "COMPACT_STRINGS" "Z", Cond.fieldLink RJ0 15 "java/lang/String" "coder" "B", Cond.methodLink RX9 74 yJ0_charAt_5068e, Cond.instanceMethod yJ0_charAt_5068e, Cond.selects RJ0 yJ0_charAt_5068e yJ0_charAt_5068e, Cond.code yJ0_charAt_5068e cJ0_charAt_5068e 2 (some .char), Cond.methodLink RJ0 492 yJ0_isLatin1_aae02, Cond.instanceMethod yJ0_isLatin1_aae02, Cond.selects RJ0 yJ0_isLatin1_aae02 yJ0_isLatin1_aae02, Cond.code yJ0_isLatin1_aae02 cJ0_isLatin1_aae02 1 (some .boolean), Cond.methodLink RJ0 495 yJ1_charAt_3b067, Cond.static yJ1_charAt_3b067, Cond.initialized RJ1, Cond.code yJ1_charAt_3b067 cJ1_charAt_3b067 2 (some .char), Cond.methodLink RJ1 9 yJ0_checkIndex_df160, Cond.static yJ0_checkIndex_df160, Cond.code yJ0_checkIndex_df160 cJ0_checkIndex_df160 2 none, Cond.fieldLink RJ0 1053 "jdk/internal/util/Preconditions" "SIOOBE_FORMATTER" "Ljava/util/function/BiFunction;", Cond.methodLink RJ0 1059 yJ3_checkIndex_8e157]
def wsL_law_r22 : List Cond := [Cond.static yJ3_checkIndex_8e157, Cond.initialized RJ3, Cond.code yJ3_checkIndex_8e157 cJ3_checkIndex_8e157 3 (some .int), Cond.methodLink RJ0 498 yJ2_charAt_3b067, Cond.static yJ2_charAt_3b067, Cond.initialized RJ2, Cond.code yJ2_charAt_3b067 cJ2_charAt_3b067 2 (some .char), Cond.methodLink RJ2 67 yJ2_checkIndex_2214a, Cond.static yJ2_checkIndex_2214a, Cond.code yJ2_checkIndex_2214a cJ2_checkIndex_2214a 2 none, Cond.methodLink RJ2 48 yJ2_length_9d52b, Cond.static yJ2_length_9d52b, Cond.code yJ2_length_9d52b cJ2_length_9d52b 1 (some .int), Cond.methodLink RJ2 414 yJ0_checkIndex_df160, Cond.methodLink RJ2 71 yJ2_getChar_3b067, Cond.static yJ2_getChar_3b067, Cond.code yJ2_getChar_3b067 cJ2_getChar_3b067 2 (some .char), Cond.fieldLink RJ2 44 "java/lang/StringUTF16" "$assertionsDisabled" "Z", Cond.fieldLink RJ2 59 "java/lang/StringUTF16" "HI_BYTE_SHIFT" "I", Cond.fieldLink RJ2 63 "java/lang/StringUTF16" "LO_BYTE_SHIFT" "I", Cond.methodLink RX9 50 yX9_addToken, Cond.instanceMethod yX9_addToken, Cond.selects RX9 yX9_addToken yX9_addToken, Cond.code yX9_addToken cX9_addToken 4 none]
def wsL_law_r23 : List Cond := [Cond.methodLink RX9 57 yX9_numberAt, Cond.static yX9_numberAt, Cond.code yX9_numberAt cX9_numberAt 5 (some .int), Cond.methodLink RX9 78 Lib.Math.min.name, Cond.methodLink RX10 177 yX4_readText, Cond.instanceMethod yX4_readText, Cond.selects RX4 yX4_readText yX4_readText, Cond.code yX4_readText cX4_readText 4 (some (.object "ScansionDesk$Metre")), Cond.fieldLink RX4 55 "ScansionDesk$Tokens" "fault" "I", Cond.fieldLink RX4 59 "ScansionDesk$MetreReader" "size" "I", Cond.classLink RX4 62 RX3, Cond.instantiable RX3 6, Cond.initialized RX3, Cond.methodLink RX4 42 yX4_readMetre, Cond.instanceMethod yX4_readMetre, Cond.selects RX4 yX4_readMetre yX4_readMetre, Cond.code yX4_readMetre cX4_readMetre 9 (some .int), Cond.fieldLink RX4 81 "ScansionDesk$Tokens" "at" "I", Cond.methodLink RX4 87 Lib.Math.min.name, Cond.methodLink RX4 84 yX4_readChoice, Cond.instanceMethod yX4_readChoice, Cond.selects RX4 yX4_readChoice yX4_readChoice, Cond.methodLink RX4 93 yX4_put, Cond.static yX4_put]
def wsL_law_r24 : List Cond := [Cond.code yX4_put cX4_put 3 none, Cond.methodLink RX4 97 yX9_skip, Cond.instanceMethod yX9_skip, Cond.selects RX9 yX9_skip yX9_skip, Cond.code yX9_skip cX9_skip 3 (some .boolean), Cond.code yX4_readChoice cX4_readChoice 9 (some .int), Cond.methodLink RX4 101 yX4_readUnit, Cond.instanceMethod yX4_readUnit, Cond.selects RX4 yX4_readUnit yX4_readUnit, Cond.methodLink RX4 104 yX9_codeAt, Cond.instanceMethod yX9_codeAt, Cond.selects RX9 yX9_codeAt yX9_codeAt, Cond.code yX9_codeAt cX9_codeAt 2 (some .int), Cond.methodLink RX4 108 yX4_beginsUnit, Cond.static yX4_beginsUnit, Cond.code yX4_beginsUnit cX4_beginsUnit 1 (some .boolean), Cond.methodLink RX4 111 yX4_isStep, Cond.static yX4_isStep, Cond.code yX4_isStep cX4_isStep 1 (some .boolean), Cond.code yX4_readUnit cX4_readUnit 6 (some .int), Cond.methodLink RX4 48 yX9_expect, Cond.instanceMethod yX9_expect, Cond.selects RX9 yX9_expect yX9_expect, Cond.code yX9_expect cX9_expect 2 none]
def wsL_law_r25 : List Cond := [Cond.methodLink RX9 81 yX9_skip, Cond.methodLink RX9 84 yX9_fail, Cond.instanceMethod yX9_fail, Cond.selects RX9 yX9_fail yX9_fail, Cond.code yX9_fail cX9_fail 1 none, Cond.methodLink RX4 52 yX9_fail, Cond.methodLink RX4 114 yX9_takeNumber, Cond.instanceMethod yX9_takeNumber, Cond.selects RX9 yX9_takeNumber yX9_takeNumber, Cond.code yX9_takeNumber cX9_takeNumber 4 (some .int), Cond.methodLink RX4 64 yX4_addNode, Cond.instanceMethod yX4_addNode, Cond.selects RX4 yX4_addNode yX4_addNode, Cond.code yX4_addNode cX4_addNode 7 (some .int), Cond.methodLink RX4 124 Lib.Math.max.name, Cond.methodLink RX4 117 yX4_get, Cond.static yX4_get, Cond.code yX4_get cX4_get 2 (some .int), Cond.methodLink RX4 68 yX4_writeMetre, Cond.instanceMethod yX4_writeMetre, Cond.selects RX4 yX4_writeMetre yX4_writeMetre, Cond.code yX4_writeMetre cX4_writeMetre 9 (some .int), Cond.methodLink RX4 121 yX4_writeChoice, Cond.instanceMethod yX4_writeChoice]
def wsL_law_r26 : List Cond := [Cond.selects RX4 yX4_writeChoice yX4_writeChoice, Cond.code yX4_writeChoice cX4_writeChoice 11 (some .int), Cond.methodLink RX4 72 yJ7_copyOf_59c91, Cond.static yJ7_copyOf_59c91, Cond.code yJ7_copyOf_59c91 cJ7_copyOf_59c91 3 (some (.array .int)), Cond.methodLink RJ7 316 ⟨"[I", "clone", "()Ljava/lang/Object;"⟩, Cond.sameMethod "[I" "java/lang/Object" "clone" "()Ljava/lang/Object;", Cond.native ⟨"java/lang/Object", "clone", "()Ljava/lang/Object;"⟩, Cond.instanceMethod ⟨"java/lang/Object", "clone", "()Ljava/lang/Object;"⟩, Cond.selects "[I" ⟨"[I", "clone", "()Ljava/lang/Object;"⟩ ⟨"java/lang/Object", "clone", "()Ljava/lang/Object;"⟩, Cond.classLink RJ7 317 "[I", Cond.methodLink RJ7 304 Lib.Math.min.name, Cond.methodLink RJ7 150 arraycopyName, Cond.native arraycopyName, Cond.static arraycopyName, Cond.initialized "java/lang/System", Cond.methodLink RX4 78 yX3_init, Cond.instanceMethod yX3_init, Cond.code yX3_init cX3_init 7 none, Cond.methodLink RX3 3 objectInit, Cond.fieldLink RX3 9 "ScansionDesk$Metre" "kinds" "[I", Cond.fieldLink RX3 15 "ScansionDesk$Metre" "nexts" "[I", Cond.fieldLink RX3 18 "ScansionDesk$Metre" "others" "[I", Cond.fieldLink RX3 21 "ScansionDesk$Metre" "steps" "I"]
def wsL_law_r27 : List Cond := [Cond.fieldLink RX3 25 "ScansionDesk$Metre" "shortest" "I", Cond.fieldLink RX3 28 "ScansionDesk$Metre" "longest" "I", Cond.methodLink RX10 184 yX7_addMetre, Cond.instanceMethod yX7_addMetre, Cond.selects RX7 yX7_addMetre yX7_addMetre, Cond.code yX7_addMetre cX7_addMetre 2 none, Cond.fieldLink RX7 55 "ScansionDesk$State" "metreCount" "I", Cond.methodLink RL 49 yX11_metre, Cond.instanceMethod yX11_metre, Cond.selects RX11 yX11_metre yX11_metre, Cond.code yX11_metre cX11_metre 4 (some .int), Cond.fieldLink RX11 264 "ScansionDeskModel" "bad" "Z", Cond.methodLink RX11 485 yX11_readMetre, Cond.instanceMethod yX11_readMetre, Cond.selects RX11 yX11_readMetre yX11_readMetre, Cond.code yX11_readMetre cX11_readMetre 3 none, Cond.fieldLink RX11 455 "ScansionDeskModel" "nRaw" "I", Cond.fieldLink RX11 458 "ScansionDeskModel" "deep" "I", Cond.constantLong RX11 380 (498), Cond.fieldLink RX11 284 "ScansionDeskModel" "sort" "I", Cond.methodLink RX11 392 yX11_begin, Cond.instanceMethod yX11_begin, Cond.selects RX11 yX11_begin yX11_begin, Cond.code yX11_begin cX11_begin 1 none]
def wsL_law_r28 : List Cond := [Cond.fieldLink RX11 261 "ScansionDeskModel" "to" "I", Cond.methodLink RX11 268 yX11_next, Cond.instanceMethod yX11_next, Cond.selects RX11 yX11_next yX11_next, Cond.code yX11_next cX11_next 1 none, Cond.fieldLink RX11 271 "ScansionDeskModel" "from" "I", Cond.fieldLink RX11 274 "ScansionDeskModel" "worth" "J", Cond.constantLong RX11 287 (32), Cond.constantLong RX11 289 (96), Cond.constantLong RX11 293 (1000000), Cond.constantLong RX11 295 (48), Cond.methodLink RX11 278 yX11_isSmall, Cond.static yX11_isSmall, Cond.code yX11_isSmall cX11_isSmall 1 (some .boolean), Cond.methodLink RX11 281 yX11_isDigit, Cond.static yX11_isDigit, Cond.code yX11_isDigit cX11_isDigit 1 (some .boolean), Cond.methodLink RX11 466 yX11_beginMetre, Cond.instanceMethod yX11_beginMetre, Cond.selects RX11 yX11_beginMetre yX11_beginMetre, Cond.code yX11_beginMetre cX11_beginMetre 1 none, Cond.methodLink RX11 472 yX11_beginUnit, Cond.instanceMethod yX11_beginUnit, Cond.selects RX11 yX11_beginUnit yX11_beginUnit]
def wsL_law_r29 : List Cond := [Cond.code yX11_beginUnit cX11_beginUnit 2 (some .boolean), Cond.methodLink RX11 335 yX11_isSign, Cond.instanceMethod yX11_isSign, Cond.selects RX11 yX11_isSign yX11_isSign, Cond.code yX11_isSign cX11_isSign 2 (some .boolean), Cond.methodLink RX11 297 yX11_must, Cond.instanceMethod yX11_must, Cond.selects RX11 yX11_must yX11_must, Cond.code yX11_must cX11_must 2 none, Cond.methodLink RX11 469 yX11_stepAt, Cond.instanceMethod yX11_stepAt, Cond.selects RX11 yX11_stepAt yX11_stepAt, Cond.code yX11_stepAt cX11_stepAt 3 (some .int), Cond.methodLink RX11 322 yX11_isWord, Cond.instanceMethod yX11_isWord, Cond.selects RX11 yX11_isWord yX11_isWord, Cond.code yX11_isWord cX11_isWord 3 (some .boolean), Cond.methodLink RX11 463 yX11_sign, Cond.instanceMethod yX11_sign, Cond.selects RX11 yX11_sign yX11_sign, Cond.code yX11_sign cX11_sign 2 none, Cond.methodLink RX11 475 yX11_endUnit, Cond.instanceMethod yX11_endUnit, Cond.selects RX11 yX11_endUnit yX11_endUnit]
def wsL_law_r30 : List Cond := [Cond.code yX11_endUnit cX11_endUnit 2 none, Cond.constantLong RX11 461 (21279923), Cond.methodLink RX11 359 yX11_number, Cond.instanceMethod yX11_number, Cond.selects RX11 yX11_number yX11_number, Cond.code yX11_number cX11_number 6 (some .int), Cond.methodLink RX11 478 yX11_endChoice, Cond.instanceMethod yX11_endChoice, Cond.selects RX11 yX11_endChoice yX11_endChoice, Cond.code yX11_endChoice cX11_endChoice 1 none, Cond.methodLink RX11 488 yX11_stepsOfRaw, Cond.instanceMethod yX11_stepsOfRaw, Cond.selects RX11 yX11_stepsOfRaw yX11_stepsOfRaw, Cond.code yX11_stepsOfRaw cX11_stepsOfRaw 4 (some .int), Cond.constant RX11 481 (1000000), Cond.methodLink RX11 491 yX11_writeOut, Cond.instanceMethod yX11_writeOut, Cond.selects RX11 yX11_writeOut yX11_writeOut, Cond.code yX11_writeOut cX11_writeOut 5 (some .int), Cond.methodLink RX11 482 yX11_repeat, Cond.instanceMethod yX11_repeat, Cond.selects RX11 yX11_repeat yX11_repeat, Cond.code yX11_repeat cX11_repeat 7 (some .int), Cond.methodLink RL 50 yX10_law]
def wsL_law_r31 : List Cond := [Cond.instanceMethod yX10_law, Cond.selects RX10 yX10_law yX10_law, Cond.code yX10_law cX10_law 2 (some .int), Cond.fieldLink RX10 188 "ScansionDesk$State" "lawCount" "I", Cond.fieldLink RX10 194 "ScansionDesk$ClauseReader" "text" "LScansionDesk$Clauses;", Cond.methodLink RX10 191 yX0_readText, Cond.instanceMethod yX0_readText, Cond.selects RX0 yX0_readText yX0_readText, Cond.code yX0_readText cX0_readText 5 (some .boolean), Cond.fieldLink RX0 24 "ScansionDesk$Clauses" "count" "I", Cond.fieldLink RX0 28 "ScansionDesk$Clauses" "codeSize" "I", Cond.fieldLink RX0 31 "ScansionDesk$Clauses" "asksScans" "Z", Cond.fieldLink RX0 35 "ScansionDesk$ClauseReader" "forOrders" "Z", Cond.fieldLink RX0 38 "ScansionDesk$ClauseReader" "parts" "I", Cond.fieldLink RX0 58 "ScansionDesk$Tokens" "fault" "I", Cond.methodLink RX0 41 yX0_readClause, Cond.instanceMethod yX0_readClause, Cond.selects RX0 yX0_readClause yX0_readClause, Cond.code yX0_readClause cX0_readClause 5 none, Cond.fieldLink RX0 61 "ScansionDesk$Tokens" "at" "I", Cond.methodLink RX0 64 yX9_codeAt, Cond.methodLink RX0 51 yX9_fail, Cond.methodLink RX0 45 yX9_skip, Cond.methodLink RX0 68 yX1_tell]
def wsL_law_r32 : List Cond := [Cond.instanceMethod yX1_tell, Cond.selects RX1 yX1_tell yX1_tell, Cond.code yX1_tell cX1_tell 5 none, Cond.methodLink RX0 72 yX0_readSum, Cond.instanceMethod yX0_readSum, Cond.selects RX0 yX0_readSum yX0_readSum, Cond.code yX0_readSum cX0_readSum 8 none, Cond.methodLink RX0 101 yX0_readPart, Cond.instanceMethod yX0_readPart, Cond.selects RX0 yX0_readPart yX0_readPart, Cond.methodLink RX0 77 yX1_write, Cond.instanceMethod yX1_write, Cond.selects RX1 yX1_write yX1_write, Cond.code yX1_write cX1_write 3 (some .int), Cond.fieldLink RX1 24 "ScansionDesk$Clauses" "codeSize" "I", Cond.methodLink RX0 104 yX0_scalingOp, Cond.static yX0_scalingOp, Cond.code yX0_scalingOp cX0_scalingOp 1 (some .int), Cond.code yX0_readPart cX0_readPart 4 none, Cond.methodLink RX0 54 yX9_expect, Cond.methodLink RX0 87 yX9_takeNumber, Cond.methodLink RX0 107 yX0_readOrderWord, Cond.instanceMethod yX0_readOrderWord, Cond.selects RX0 yX0_readOrderWord yX0_readOrderWord]
def wsL_law_r33 : List Cond := [Cond.code yX0_readOrderWord cX0_readOrderWord 4 none, Cond.methodLink RX0 111 yX0_readLawWord, Cond.instanceMethod yX0_readLawWord, Cond.selects RX0 yX0_readLawWord yX0_readLawWord, Cond.code yX0_readLawWord cX0_readLawWord 3 none, Cond.methodLink RX0 81 yX0_readTimes, Cond.instanceMethod yX0_readTimes, Cond.selects RX0 yX0_readTimes yX0_readTimes, Cond.code yX0_readTimes cX0_readTimes 4 none, Cond.methodLink RX0 84 yX0_readTest, Cond.instanceMethod yX0_readTest, Cond.selects RX0 yX0_readTest yX0_readTest, Cond.code yX0_readTest cX0_readTest 9 none, Cond.methodLink RX0 90 yX0_skipNots, Cond.static yX0_skipNots, Cond.code yX0_skipNots cX0_skipNots 3 (some .boolean), Cond.methodLink RX0 94 yX0_readComparison, Cond.static yX0_readComparison, Cond.code yX0_readComparison cX0_readComparison 1 (some .int), Cond.methodLink RX0 98 yX1_aim, Cond.instanceMethod yX1_aim, Cond.selects RX1 yX1_aim yX1_aim, Cond.code yX1_aim cX1_aim 2 none, Cond.methodLink RX10 198 yX1_compact]
def wsL_law_r34 : List Cond := [Cond.instanceMethod yX1_compact, Cond.selects RX1 yX1_compact yX1_compact, Cond.code yX1_compact cX1_compact 2 (some (.object "ScansionDesk$Clauses")), Cond.classLink RX1 10 RX1, Cond.fieldLink RX1 36 "ScansionDesk$Clauses" "count" "I", Cond.methodLink RX1 30 yJ7_copyOf_59c91, Cond.methodLink RX1 39 yX1_init, Cond.methodLink RX10 204 yX7_addLaw, Cond.instanceMethod yX7_addLaw, Cond.selects RX7 yX7_addLaw yX7_addLaw, Cond.code yX7_addLaw cX7_addLaw 2 none, Cond.methodLink RL 53 yX11_law, Cond.instanceMethod yX11_law, Cond.selects RX11 yX11_law yX11_law, Cond.code yX11_law cX11_law 3 (some .int), Cond.fieldLink RX11 395 "ScansionDeskModel" "nClauses" "I", Cond.fieldLink RX11 301 "ScansionDeskModel" "nCode" "I", Cond.methodLink RX11 403 yX11_beginText, Cond.instanceMethod yX11_beginText, Cond.selects RX11 yX11_beginText yX11_beginText, Cond.code yX11_beginText cX11_beginText 2 none, Cond.fieldLink RX11 332 "ScansionDeskModel" "nLeaves" "I", Cond.methodLink RX11 406 yX11_readLaw, Cond.instanceMethod yX11_readLaw]
def wsL_law_r35 : List Cond := [Cond.selects RX11 yX11_readLaw yX11_readLaw, Cond.code yX11_readLaw cX11_readLaw 4 none, Cond.constantLong RX11 401 (294), Cond.methodLink RX11 398 yX11_readExpression, Cond.instanceMethod yX11_readExpression, Cond.selects RX11 yX11_readExpression yX11_readExpression, Cond.code yX11_readExpression cX11_readExpression 3 none, Cond.fieldLink RX11 304 "ScansionDeskModel" "piled" "I", Cond.fieldLink RX11 326 "ScansionDeskModel" "opened" "I", Cond.methodLink RX11 382 yX11_readPlain, Cond.instanceMethod yX11_readPlain, Cond.selects RX11 yX11_readPlain yX11_readPlain, Cond.code yX11_readPlain cX11_readPlain 1 (some .int), Cond.constantLong RX11 363 (14836), Cond.methodLink RX11 329 yX11_push, Cond.instanceMethod yX11_push, Cond.selects RX11 yX11_push yX11_push, Cond.code yX11_push cX11_push 3 none, Cond.methodLink RX11 338 yX11_openBracket, Cond.instanceMethod yX11_openBracket, Cond.selects RX11 yX11_openBracket yX11_openBracket, Cond.code yX11_openBracket cX11_openBracket 2 none, Cond.methodLink RX11 365 yX11_readPart, Cond.instanceMethod yX11_readPart]
def wsL_law_r36 : List Cond := [Cond.selects RX11 yX11_readPart yX11_readPart, Cond.code yX11_readPart cX11_readPart 4 (some .int), Cond.constantLong RX11 351 (1000), Cond.constantLong RX11 357 (19), Cond.methodLink RX11 344 yX11_orderPartAt, Cond.instanceMethod yX11_orderPartAt, Cond.selects RX11 yX11_orderPartAt yX11_orderPartAt, Cond.code yX11_orderPartAt cX11_orderPartAt 3 (some .int), Cond.methodLink RX11 348 yX11_partAt, Cond.instanceMethod yX11_partAt, Cond.selects RX11 yX11_partAt yX11_partAt, Cond.code yX11_partAt cX11_partAt 3 (some .int), Cond.methodLink RX11 353 yX11_leaf, Cond.instanceMethod yX11_leaf, Cond.selects RX11 yX11_leaf yX11_leaf, Cond.code yX11_leaf cX11_leaf 4 none, Cond.methodLink RX11 310 yX11_emit, Cond.instanceMethod yX11_emit, Cond.selects RX11 yX11_emit yX11_emit, Cond.code yX11_emit cX11_emit 3 none, Cond.methodLink RX11 385 yX11_behindSum, Cond.instanceMethod yX11_behindSum, Cond.selects RX11 yX11_behindSum yX11_behindSum, Cond.code yX11_behindSum cX11_behindSum 4 (some .int)]
def wsL_law_r37 : List Cond := [Cond.methodLink RX11 307 yX11_binds, Cond.static yX11_binds, Cond.code yX11_binds cX11_binds 1 (some .int), Cond.methodLink RX11 368 yX11_settle, Cond.instanceMethod yX11_settle, Cond.selects RX11 yX11_settle yX11_settle, Cond.code yX11_settle cX11_settle 2 none, Cond.methodLink RX11 371 yX11_inner, Cond.instanceMethod yX11_inner, Cond.selects RX11 yX11_inner yX11_inner, Cond.code yX11_inner cX11_inner 3 (some .int), Cond.methodLink RX11 374 yX11_isCompared, Cond.instanceMethod yX11_isCompared, Cond.selects RX11 yX11_isCompared yX11_isCompared, Cond.code yX11_isCompared cX11_isCompared 2 (some .boolean), Cond.constantLong RX11 314 (20), Cond.constantLong RX11 316 (24), Cond.constantLong RX11 318 (25), Cond.constantLong RX11 320 (27), Cond.methodLink RX11 389 yX11_behindTest, Cond.instanceMethod yX11_behindTest, Cond.selects RX11 yX11_behindTest yX11_behindTest, Cond.code yX11_behindTest cX11_behindTest 2 (some .int), Cond.constantLong RX11 378 (1476)]
def wsL_law_r38 : List Cond := [Cond.methodLink RX11 409 yX11_endText, Cond.instanceMethod yX11_endText, Cond.selects RX11 yX11_endText yX11_endText, Cond.code yX11_endText cX11_endText 1 none, Cond.methodLink RL 54 yX10_orders, Cond.instanceMethod yX10_orders, Cond.selects RX10 yX10_orders yX10_orders, Cond.code yX10_orders cX10_orders 6 (some .int), Cond.fieldLink RX10 215 "ScansionDesk$Clauses" "asksScans" "Z", Cond.fieldLink RX10 223 "ScansionDesk$Clauses" "count" "I", Cond.methodLink RX10 208 yX7_copyFrom, Cond.instanceMethod yX7_copyFrom, Cond.selects RX7 yX7_copyFrom yX7_copyFrom, Cond.code yX7_copyFrom cX7_copyFrom 3 none, Cond.methodLink RX7 40 arraycopyName, Cond.fieldLink RX7 52 "ScansionDesk$State" "heardCount" "I", Cond.methodLink RX10 212 yX2_copyFrom, Cond.instanceMethod yX2_copyFrom, Cond.selects RX2 yX2_copyFrom yX2_copyFrom, Cond.code yX2_copyFrom cX2_copyFrom 2 none, Cond.methodLink RX2 21 arraycopyName, Cond.fieldLink RX2 27 "ScansionDesk$History" "size" "I", Cond.methodLink RX10 219 yX10_setOrderWords, Cond.instanceMethod yX10_setOrderWords]
def wsL_law_r39 : List Cond := [Cond.selects RX10 yX10_setOrderWords yX10_setOrderWords, Cond.code yX10_setOrderWords cX10_setOrderWords 4 none, Cond.methodLink RX10 296 yX10_fittingMetres, Cond.instanceMethod yX10_fittingMetres, Cond.selects RX10 yX10_fittingMetres yX10_fittingMetres, Cond.code yX10_fittingMetres cX10_fittingMetres 2 (some .int), Cond.methodLink RX10 311 yX10_takingMetres, Cond.instanceMethod yX10_takingMetres, Cond.selects RX10 yX10_takingMetres yX10_takingMetres, Cond.code yX10_takingMetres cX10_takingMetres 5 (some .int), Cond.methodLink RX10 260 yX7_metreAt, Cond.instanceMethod yX7_metreAt, Cond.selects RX7 yX7_metreAt yX7_metreAt, Cond.code yX7_metreAt cX7_metreAt 2 (some (.object "ScansionDesk$Metre")), Cond.methodLink RX10 348 yX6_takes, Cond.instanceMethod yX6_takes, Cond.selects RX6 yX6_takes yX6_takes, Cond.code yX6_takes cX6_takes 2 (some .boolean), Cond.methodLink RX6 106 yX6_flowThrough, Cond.instanceMethod yX6_flowThrough, Cond.selects RX6 yX6_flowThrough yX6_flowThrough, Cond.code yX6_flowThrough cX6_flowThrough 6 none, Cond.fieldLink RX6 110 "ScansionDesk$Scansion" "reached" "I", Cond.methodLink RX6 113 yX3_start]
def wsL_law_r40 : List Cond := [Cond.instanceMethod yX3_start, Cond.selects RX3 yX3_start yX3_start, Cond.code yX3_start cX3_start 1 (some .int), Cond.methodLink RX6 119 yX6_spread, Cond.instanceMethod yX6_spread, Cond.selects RX6 yX6_spread yX6_spread, Cond.code yX6_spread cX6_spread 3 none, Cond.methodLink RX6 123 yX6_withElided, Cond.instanceMethod yX6_withElided, Cond.selects RX6 yX6_withElided yX6_withElided, Cond.code yX6_withElided cX6_withElided 3 (some .int), Cond.methodLink RX6 126 yX3_nextAt, Cond.instanceMethod yX3_nextAt, Cond.selects RX3 yX3_nextAt yX3_nextAt, Cond.code yX3_nextAt cX3_nextAt 2 (some .int), Cond.methodLink RX6 129 yX3_kindAt, Cond.instanceMethod yX3_kindAt, Cond.selects RX3 yX3_kindAt yX3_kindAt, Cond.code yX3_kindAt cX3_kindAt 2 (some .int), Cond.methodLink RX6 132 yX3_otherAt, Cond.instanceMethod yX3_otherAt, Cond.selects RX3 yX3_otherAt yX3_otherAt, Cond.code yX3_otherAt cX3_otherAt 2 (some .int), Cond.methodLink RX10 226 yX1_told]
def wsL_law_r41 : List Cond := [Cond.methodLink RX10 227 yX10_runOnce, Cond.instanceMethod yX10_runOnce, Cond.selects RX10 yX10_runOnce yX10_runOnce, Cond.code yX10_runOnce cX10_runOnce 7 (some .boolean), Cond.fieldLink RX10 364 "ScansionDesk$Clauses" "code" "[I", Cond.methodLink RX10 367 yX5_reckon, Cond.methodLink RX10 231 yX10_tryWeigh, Cond.instanceMethod yX10_tryWeigh, Cond.selects RX10 yX10_tryWeigh yX10_tryWeigh, Cond.code yX10_tryWeigh cX10_tryWeigh 4 (some .int), Cond.methodLink RX10 253 yX7_setTold, Cond.instanceMethod yX7_setTold, Cond.selects RX7 yX7_setTold yX7_setTold, Cond.code yX7_setTold cX7_setTold 5 none, Cond.methodLink RX10 361 yX2_add, Cond.instanceMethod yX2_add, Cond.selects RX2 yX2_add yX2_add, Cond.code yX2_add cX2_add 4 none, Cond.methodLink RX2 31 yX2_dropOldest, Cond.instanceMethod yX2_dropOldest, Cond.selects RX2 yX2_dropOldest yX2_dropOldest, Cond.code yX2_dropOldest cX2_dropOldest 2 none, Cond.methodLink RX10 237 yX10_tryTurn, Cond.instanceMethod yX10_tryTurn]
def wsL_law_r42 : List Cond := [Cond.selects RX10 yX10_tryTurn yX10_tryTurn, Cond.code yX10_tryTurn cX10_tryTurn 3 (some .int), Cond.methodLink RX10 257 yX7_turn, Cond.instanceMethod yX7_turn, Cond.selects RX7 yX7_turn yX7_turn, Cond.code yX7_turn cX7_turn 4 (some .int), Cond.methodLink RX7 65 yX7_told, Cond.methodLink RX7 69 yX7_setTold, Cond.methodLink RX10 240 yX10_tryPass, Cond.instanceMethod yX10_tryPass, Cond.selects RX10 yX10_tryPass yX10_tryPass, Cond.code yX10_tryPass cX10_tryPass 3 (some .int), Cond.methodLink RX10 340 yJ6_bitCount_0f7a4, Cond.static yJ6_bitCount_0f7a4, Cond.initialized RJ6, Cond.code yJ6_bitCount_0f7a4 cJ6_bitCount_0f7a4 1 (some .int), Cond.constant RJ6 265 (1431655765), Cond.constant RJ6 266 (858993459), Cond.constant RJ6 267 (252645135), Cond.methodLink RL 57 yX11_orders, Cond.instanceMethod yX11_orders, Cond.selects RX11 yX11_orders yX11_orders, Cond.code yX11_orders cX11_orders 4 (some .int), Cond.fieldLink RX11 584 "ScansionDeskModel" "done" "I"]
def wsL_law_r43 : List Cond := [Cond.fieldLink RX11 587 "ScansionDeskModel" "latest" "I", Cond.methodLink RX11 596 yX11_readOrder, Cond.instanceMethod yX11_readOrder, Cond.selects RX11 yX11_readOrder yX11_readOrder, Cond.code yX11_readOrder cX11_readOrder 4 none, Cond.constantLong RX11 579 (655), Cond.methodLink RX11 576 yX11_readSum, Cond.instanceMethod yX11_readSum, Cond.selects RX11 yX11_readSum yX11_readSum, Cond.code yX11_readSum cX11_readSum 2 none, Cond.methodLink RX11 203 yX11_keepAll, Cond.instanceMethod yX11_keepAll, Cond.selects RX11 yX11_keepAll yX11_keepAll, Cond.code yX11_keepAll cX11_keepAll 3 none, Cond.methodLink RX11 599 yX11_run, Cond.instanceMethod yX11_run, Cond.selects RX11 yX11_run yX11_run, Cond.code yX11_run cX11_run 5 (some .int), Cond.fieldLink RX11 581 "ScansionDeskModel" "off" "Z", Cond.methodLink RX11 542 yX11_fitting, Cond.instanceMethod yX11_fitting, Cond.selects RX11 yX11_fitting yX11_fitting, Cond.code yX11_fitting cX11_fitting 3 (some .int), Cond.methodLink RX11 533 yX11_leastOf]
def wsL_law_r44 : List Cond := [Cond.instanceMethod yX11_leastOf, Cond.selects RX11 yX11_leastOf yX11_leastOf, Cond.code yX11_leastOf cX11_leastOf 4 (some .int), Cond.constant RX11 501 (100000000), Cond.methodLink RX11 514 yX11_layMetre, Cond.instanceMethod yX11_layMetre, Cond.selects RX11 yX11_layMetre yX11_layMetre, Cond.code yX11_layMetre cX11_layMetre 7 none, Cond.fieldLink RX11 494 "ScansionDeskModel" "nSteps" "I", Cond.methodLink RX11 497 yX11_join, Cond.instanceMethod yX11_join, Cond.selects RX11 yX11_join yX11_join, Cond.code yX11_join cX11_join 6 none, Cond.methodLink RX11 517 yX11_layPrices, Cond.instanceMethod yX11_layPrices, Cond.selects RX11 yX11_layPrices yX11_layPrices, Cond.code yX11_layPrices cX11_layPrices 6 none, Cond.methodLink RX11 520 yX11_layLeft, Cond.instanceMethod yX11_layLeft, Cond.selects RX11 yX11_layLeft yX11_layLeft, Cond.code yX11_layLeft cX11_layLeft 3 (some .int), Cond.methodLink RX11 511 yX11_leftFrom, Cond.instanceMethod yX11_leftFrom, Cond.selects RX11 yX11_leftFrom yX11_leftFrom]
def wsL_law_r45 : List Cond := [Cond.code yX11_leftFrom cX11_leftFrom 7 (some .int), Cond.methodLink RX11 502 yX11_isOver, Cond.instanceMethod yX11_isOver, Cond.selects RX11 yX11_isOver yX11_isOver, Cond.code yX11_isOver cX11_isOver 2 (some .boolean), Cond.methodLink RX11 505 yX11_canCut, Cond.instanceMethod yX11_canCut, Cond.selects RX11 yX11_canCut yX11_canCut, Cond.code yX11_canCut cX11_canCut 2 (some .boolean), Cond.methodLink RX11 508 yX11_stepPrice, Cond.instanceMethod yX11_stepPrice, Cond.selects RX11 yX11_stepPrice yX11_stepPrice, Cond.code yX11_stepPrice cX11_stepPrice 5 (some .int), Cond.methodLink RX11 590 yX11_sumOf, Cond.instanceMethod yX11_sumOf, Cond.selects RX11 yX11_sumOf yX11_sumOf, Cond.code yX11_sumOf cX11_sumOf 2 (some .int), Cond.methodLink RX11 593 yX11_act, Cond.instanceMethod yX11_act, Cond.selects RX11 yX11_act yX11_act, Cond.code yX11_act cX11_act 4 (some .int), Cond.methodLink RX11 548 yX11_weighNow, Cond.instanceMethod yX11_weighNow, Cond.selects RX11 yX11_weighNow yX11_weighNow]
def wsL_law_r46 : List Cond := [Cond.code yX11_weighNow cX11_weighNow 4 (some .int), Cond.methodLink RX11 545 yX11_remember, Cond.instanceMethod yX11_remember, Cond.selects RX11 yX11_remember yX11_remember, Cond.code yX11_remember cX11_remember 3 none, Cond.methodLink RX11 551 yX11_toggle, Cond.instanceMethod yX11_toggle, Cond.selects RX11 yX11_toggle yX11_toggle, Cond.code yX11_toggle cX11_toggle 4 (some .int), Cond.methodLink RX11 557 yX11_passNow, Cond.instanceMethod yX11_passNow, Cond.selects RX11 yX11_passNow yX11_passNow, Cond.code yX11_passNow cX11_passNow 2 (some .int), Cond.methodLink RX11 554 yX11_many, Cond.instanceMethod yX11_many, Cond.selects RX11 yX11_many yX11_many, Cond.code yX11_many cX11_many 4 (some .int), Cond.methodLink RX11 602 yX11_giveBack, Cond.instanceMethod yX11_giveBack, Cond.selects RX11 yX11_giveBack yX11_giveBack, Cond.code yX11_giveBack cX11_giveBack 3 none, Cond.methodLink RX11 207 yX11_putBack, Cond.instanceMethod yX11_putBack, Cond.selects RX11 yX11_putBack yX11_putBack]
def wsL_law_r47 : List Cond := [Cond.code yX11_putBack cX11_putBack 3 none, Cond.methodLink RL 58 yX10_fault, Cond.instanceMethod yX10_fault, Cond.selects RX10 yX10_fault yX10_fault, Cond.code yX10_fault cX10_fault 1 (some .int), Cond.methodLink RL 61 yX11_fault, Cond.instanceMethod yX11_fault, Cond.selects RX11 yX11_fault yX11_fault, Cond.code yX11_fault cX11_fault 1 (some .int), Cond.methodLink RL 62 yX10_stopped, Cond.instanceMethod yX10_stopped, Cond.selects RX10 yX10_stopped yX10_stopped, Cond.code yX10_stopped cX10_stopped 1 (some .int), Cond.methodLink RL 65 yX11_stopped, Cond.instanceMethod yX11_stopped, Cond.selects RX11 yX11_stopped yX11_stopped, Cond.code yX11_stopped cX11_stopped 1 (some .int), Cond.methodLink RL 66 yX10_force, Cond.instanceMethod yX10_force, Cond.selects RX10 yX10_force yX10_force, Cond.code yX10_force cX10_force 3 (some .int), Cond.methodLink RL 69 yX11_force, Cond.instanceMethod yX11_force, Cond.selects RX11 yX11_force yX11_force]
def wsL_law_r48 : List Cond := [Cond.code yX11_force cX11_force 2 (some .int), Cond.methodLink RX11 412 yX11_isLaw, Cond.instanceMethod yX11_isLaw, Cond.selects RX11 yX11_isLaw yX11_isLaw, Cond.code yX11_isLaw cX11_isLaw 2 (some .boolean), Cond.methodLink RL 70 yX10_weigh, Cond.instanceMethod yX10_weigh, Cond.selects RX10 yX10_weigh yX10_weigh, Cond.code yX10_weigh cX10_weigh 3 (some .int), Cond.methodLink RX10 234 yX10_settle, Cond.instanceMethod yX10_settle, Cond.selects RX10 yX10_settle yX10_settle, Cond.code yX10_settle cX10_settle 2 (some .int), Cond.methodLink RL 73 yX11_weigh, Cond.instanceMethod yX11_weigh, Cond.selects RX11 yX11_weigh yX11_weigh, Cond.code yX11_weigh cX11_weigh 3 (some .int), Cond.methodLink RL 74 yX10_ends, Cond.instanceMethod yX10_ends, Cond.selects RX10 yX10_ends yX10_ends, Cond.code yX10_ends cX10_ends 2 (some .int), Cond.methodLink RL 77 yX11_ends, Cond.instanceMethod yX11_ends, Cond.selects RX11 yX11_ends yX11_ends]
def wsL_law_r49 : List Cond := [Cond.code yX11_ends cX11_ends 2 (some .int), Cond.methodLink RL 78 yX10_meets, Cond.instanceMethod yX10_meets, Cond.selects RX10 yX10_meets yX10_meets, Cond.code yX10_meets cX10_meets 2 (some .int), Cond.methodLink RL 81 yX11_meets, Cond.instanceMethod yX11_meets, Cond.selects RX11 yX11_meets yX11_meets, Cond.code yX11_meets cX11_meets 2 (some .int), Cond.methodLink RL 82 yX10_pass, Cond.instanceMethod yX10_pass, Cond.selects RX10 yX10_pass yX10_pass, Cond.code yX10_pass cX10_pass 1 (some .int), Cond.methodLink RL 85 yX11_pass, Cond.instanceMethod yX11_pass, Cond.selects RX11 yX11_pass yX11_pass, Cond.code yX11_pass cX11_pass 1 (some .int), Cond.methodLink RL 86 yX10_undo, Cond.instanceMethod yX10_undo, Cond.selects RX10 yX10_undo yX10_undo, Cond.code yX10_undo cX10_undo 3 (some .int), Cond.methodLink RX10 244 yX2_latestKind, Cond.instanceMethod yX2_latestKind, Cond.selects RX2 yX2_latestKind yX2_latestKind]
def wsL_law_r50 : List Cond := [Cond.code yX2_latestKind cX2_latestKind 1 (some .int), Cond.methodLink RX2 34 yX2_latestIn, Cond.instanceMethod yX2_latestIn, Cond.selects RX2 yX2_latestIn yX2_latestIn, Cond.code yX2_latestIn cX2_latestIn 2 (some .int), Cond.methodLink RX10 247 yX2_latestSyllable, Cond.instanceMethod yX2_latestSyllable, Cond.selects RX2 yX2_latestSyllable yX2_latestSyllable, Cond.code yX2_latestSyllable cX2_latestSyllable 1 (some .int), Cond.methodLink RX10 250 yX2_latestWeight, Cond.instanceMethod yX2_latestWeight, Cond.selects RX2 yX2_latestWeight yX2_latestWeight, Cond.code yX2_latestWeight cX2_latestWeight 1 (some .int), Cond.methodLink RL 89 yX11_undo, Cond.instanceMethod yX11_undo, Cond.selects RX11 yX11_undo yX11_undo, Cond.code yX11_undo cX11_undo 1 (some .int), Cond.methodLink RL 90 yX10_steps, Cond.instanceMethod yX10_steps, Cond.selects RX10 yX10_steps yX10_steps, Cond.code yX10_steps cX10_steps 3 (some .int), Cond.fieldLink RX10 264 "ScansionDesk$Metre" "steps" "I", Cond.methodLink RL 93 yX11_steps, Cond.instanceMethod yX11_steps]
def wsL_law_r51 : List Cond := [Cond.selects RX11 yX11_steps yX11_steps, Cond.code yX11_steps cX11_steps 2 (some .int), Cond.methodLink RL 94 yX10_best, Cond.instanceMethod yX10_best, Cond.selects RX10 yX10_best yX10_best, Cond.code yX10_best cX10_best 5 (some .int), Cond.constantLong RX10 273 (1152921504606846976), Cond.methodLink RX10 269 yX10_bestReading, Cond.instanceMethod yX10_bestReading, Cond.selects RX10 yX10_bestReading yX10_bestReading, Cond.code yX10_bestReading cX10_bestReading 4 (some .long), Cond.methodLink RX10 352 yX6_least, Cond.instanceMethod yX6_least, Cond.selects RX6 yX6_least yX6_least, Cond.code yX6_least cX6_least 6 (some .long), Cond.methodLink RX6 135 yX6_setPrices, Cond.instanceMethod yX6_setPrices, Cond.selects RX6 yX6_setPrices yX6_setPrices, Cond.code yX6_setPrices cX6_setPrices 5 none, Cond.constantLong RX6 151 (1152921504606846976), Cond.methodLink RX6 156 yX6_canRead, Cond.methodLink RX6 159 yX6_priceByCost, Cond.instanceMethod yX6_priceByCost, Cond.selects RX6 yX6_priceByCost yX6_priceByCost]
def wsL_law_r52 : List Cond := [Cond.code yX6_priceByCost cX6_priceByCost 3 (some .long), Cond.methodLink RX6 162 yX6_costOf, Cond.methodLink RX6 139 yX6_leastFrom, Cond.instanceMethod yX6_leastFrom, Cond.selects RX6 yX6_leastFrom yX6_leastFrom, Cond.code yX6_leastFrom cX6_leastFrom 7 (some .long), Cond.methodLink RX6 153 Lib.MathLoose.min_long.x, Cond.static Lib.MathLoose.min_long.x, Cond.code Lib.MathLoose.min_long.x Lib.MathLoose.min_long.code 4 (some .long), Cond.methodLink RX6 147 yX6_priceOf, Cond.instanceMethod yX6_priceOf, Cond.selects RX6 yX6_priceOf yX6_priceOf, Cond.code yX6_priceOf cX6_priceOf 4 (some .long), Cond.methodLink RX6 143 yX6_leastIn, Cond.static yX6_leastIn, Cond.code yX6_leastIn cX6_leastIn 2 (some .long), Cond.methodLink RX10 275 yX6_costIn, Cond.static yX6_costIn, Cond.code yX6_costIn cX6_costIn 2 (some .int), Cond.methodLink RX10 279 yX6_wayIn, Cond.static yX6_wayIn, Cond.code yX6_wayIn cX6_wayIn 3 (some .int), Cond.methodLink RL 97 yX11_best, Cond.instanceMethod yX11_best]
def wsL_law_r53 : List Cond := [Cond.selects RX11 yX11_best yX11_best, Cond.code yX11_best cX11_best 4 (some .int), Cond.methodLink RX11 536 yX11_readBest, Cond.instanceMethod yX11_readBest, Cond.selects RX11 yX11_readBest yX11_readBest, Cond.code yX11_readBest cX11_readBest 5 none, Cond.methodLink RX11 526 yX11_passCuts, Cond.instanceMethod yX11_passCuts, Cond.selects RX11 yX11_passCuts yX11_passCuts, Cond.code yX11_passCuts cX11_passCuts 5 none, Cond.methodLink RX11 529 yX11_layThen, Cond.instanceMethod yX11_layThen, Cond.selects RX11 yX11_layThen yX11_layThen, Cond.code yX11_layThen cX11_layThen 8 (some .boolean), Cond.methodLink RX11 523 yX11_goesAs, Cond.static yX11_goesAs, Cond.code yX11_goesAs cX11_goesAs 2 (some .boolean), Cond.methodLink RL 98 yX10_elisions, Cond.instanceMethod yX10_elisions, Cond.selects RX10 yX10_elisions yX10_elisions, Cond.code yX10_elisions cX10_elisions 2 (some .int), Cond.methodLink RX10 283 yX10_fewestBy, Cond.instanceMethod yX10_fewestBy, Cond.selects RX10 yX10_fewestBy yX10_fewestBy]
def wsL_law_r54 : List Cond := [Cond.code yX10_fewestBy cX10_fewestBy 6 (some .int), Cond.methodLink RL 101 yX11_elisions, Cond.instanceMethod yX11_elisions, Cond.selects RX11 yX11_elisions yX11_elisions, Cond.code yX11_elisions cX11_elisions 2 (some .int), Cond.methodLink RL 102 yX10_mend, Cond.instanceMethod yX10_mend, Cond.selects RX10 yX10_mend yX10_mend, Cond.code yX10_mend cX10_mend 2 (some .int), Cond.methodLink RL 105 yX11_mend, Cond.instanceMethod yX11_mend, Cond.selects RX11 yX11_mend yX11_mend, Cond.code yX11_mend cX11_mend 2 (some .int), Cond.methodLink RL 106 yX10_reach, Cond.instanceMethod yX10_reach, Cond.selects RX10 yX10_reach yX10_reach, Cond.code yX10_reach cX10_reach 3 (some .int), Cond.methodLink RX10 286 yX6_reachOf, Cond.instanceMethod yX6_reachOf, Cond.selects RX6 yX6_reachOf yX6_reachOf, Cond.code yX6_reachOf cX6_reachOf 4 (some .int), Cond.methodLink RL 109 yX11_reach, Cond.instanceMethod yX11_reach, Cond.selects RX11 yX11_reach yX11_reach]
def wsL_law_r55 : List Cond := [Cond.code yX11_reach cX11_reach 5 (some .int), Cond.methodLink RX11 539 yX11_isReached, Cond.instanceMethod yX11_isReached, Cond.selects RX11 yX11_isReached yX11_isReached, Cond.code yX11_isReached cX11_isReached 5 (some .boolean), Cond.methodLink RL 110 yX10_length, Cond.instanceMethod yX10_length, Cond.selects RX10 yX10_length yX10_length, Cond.code yX10_length cX10_length 4 (some .int), Cond.fieldLink RX10 290 "ScansionDesk$Metre" "shortest" "I", Cond.fieldLink RX10 293 "ScansionDesk$Metre" "longest" "I", Cond.methodLink RL 113 yX11_length, Cond.instanceMethod yX11_length, Cond.selects RX11 yX11_length yX11_length, Cond.code yX11_length cX11_length 9 (some .int), Cond.methodLink RL 114 yX10_fits, Cond.instanceMethod yX10_fits, Cond.selects RX10 yX10_fits yX10_fits, Cond.code yX10_fits cX10_fits 1 (some .int), Cond.methodLink RL 117 yX11_fits, Cond.instanceMethod yX11_fits, Cond.selects RX11 yX11_fits yX11_fits, Cond.code yX11_fits cX11_fits 1 (some .int), Cond.methodLink RL 118 yX10_heard]
def wsL_law_r56 : List Cond := [Cond.instanceMethod yX10_heard, Cond.selects RX10 yX10_heard yX10_heard, Cond.code yX10_heard cX10_heard 3 (some .int), Cond.fieldLink RX10 304 "ScansionDesk$State" "heardCount" "I", Cond.methodLink RX10 300 yX7_addHeard, Cond.instanceMethod yX7_addHeard, Cond.selects RX7 yX7_addHeard yX7_addHeard, Cond.code yX7_addHeard cX7_addHeard 3 (some .boolean), Cond.methodLink RL 121 yX11_heard, Cond.instanceMethod yX11_heard, Cond.selects RX11 yX11_heard yX11_heard, Cond.code yX11_heard cX11_heard 4 (some .int), Cond.methodLink RL 122 yX10_forget, Cond.instanceMethod yX10_forget, Cond.selects RX10 yX10_forget yX10_forget, Cond.code yX10_forget cX10_forget 2 (some .int), Cond.methodLink RL 125 yX11_forget, Cond.instanceMethod yX11_forget, Cond.selects RX11 yX11_forget yX11_forget, Cond.code yX11_forget cX11_forget 2 (some .int), Cond.methodLink RL 126 yX10_canBe, Cond.instanceMethod yX10_canBe, Cond.selects RX10 yX10_canBe yX10_canBe, Cond.code yX10_canBe cX10_canBe 1 (some .int)]
def wsL_law_r57 : List Cond := [Cond.methodLink RX10 307 yX6_hear, Cond.instanceMethod yX6_hear, Cond.selects RX6 yX6_hear yX6_hear, Cond.code yX6_hear cX6_hear 5 (some .boolean), Cond.fieldLink RX6 93 "ScansionDesk$State" "heardCount" "I", Cond.methodLink RX6 96 yX7_heardPlace, Cond.instanceMethod yX7_heardPlace, Cond.selects RX7 yX7_heardPlace yX7_heardPlace, Cond.code yX7_heardPlace cX7_heardPlace 2 (some .int), Cond.methodLink RX6 99 yX7_hasSyllable, Cond.methodLink RX6 103 yX7_heardWay, Cond.instanceMethod yX7_heardWay, Cond.selects RX7 yX7_heardWay yX7_heardWay, Cond.code yX7_heardWay cX7_heardWay 2 (some .int), Cond.methodLink RL 129 yX11_canBe, Cond.instanceMethod yX11_canBe, Cond.selects RX11 yX11_canBe yX11_canBe, Cond.code yX11_canBe cX11_canBe 1 (some .int), Cond.methodLink RX11 563 yX11_thatCanBe, Cond.instanceMethod yX11_thatCanBe, Cond.selects RX11 yX11_thatCanBe yX11_thatCanBe, Cond.code yX11_thatCanBe cX11_thatCanBe 3 (some .int), Cond.methodLink RX11 560 yX11_isHeard, Cond.instanceMethod yX11_isHeard]
def wsL_law_r58 : List Cond := [Cond.selects RX11 yX11_isHeard yX11_isHeard, Cond.code yX11_isHeard cX11_isHeard 6 (some .boolean), Cond.methodLink RL 130 yX10_listen, Cond.instanceMethod yX10_listen, Cond.selects RX10 yX10_listen yX10_listen, Cond.code yX10_listen cX10_listen 7 (some .int), Cond.methodLink RX10 314 yX10_canBe, Cond.methodLink RX10 317 yX10_mostAlike, Cond.instanceMethod yX10_mostAlike, Cond.selects RX10 yX10_mostAlike yX10_mostAlike, Cond.code yX10_mostAlike cX10_mostAlike 6 (some .int), Cond.methodLink RX10 356 Lib.Math.max.name, Cond.methodLink RL 133 yX11_listen, Cond.instanceMethod yX11_listen, Cond.selects RX11 yX11_listen yX11_listen, Cond.code yX11_listen cX11_listen 7 (some .int), Cond.methodLink RX11 566 yX11_is, Cond.static yX11_is, Cond.code yX11_is cX11_is 2 (some .boolean), Cond.methodLink RX11 569 yX11_mostAlike, Cond.instanceMethod yX11_mostAlike, Cond.selects RX11 yX11_mostAlike yX11_mostAlike, Cond.code yX11_mostAlike cX11_mostAlike 7 (some .int), Cond.methodLink RL 134 yX10_few]
def wsL_law_r59 : List Cond := [Cond.instanceMethod yX10_few, Cond.selects RX10 yX10_few yX10_few, Cond.code yX10_few cX10_few 8 (some .long), Cond.constantLong RX10 320 (-1), Cond.constantLong RX10 328 (1000000000000), Cond.constantLong RX10 330 (10), Cond.methodLink RX10 322 yJ7_fill_d0a16, Cond.static yJ7_fill_d0a16, Cond.code yJ7_fill_d0a16 cJ7_fill_d0a16 5 none, Cond.methodLink RL 138 yX11_few, Cond.instanceMethod yX11_few, Cond.selects RX11 yX11_few yX11_few, Cond.code yX11_few cX11_few 8 (some .long), Cond.constantLong RX11 572 (99), Cond.constantLong RX11 574 (1000000000000), Cond.methodLink RL 139 yX10_compare, Cond.instanceMethod yX10_compare, Cond.selects RX10 yX10_compare yX10_compare, Cond.code yX10_compare cX10_compare 5 (some .int), Cond.methodLink RL 142 yX11_compare, Cond.instanceMethod yX11_compare, Cond.selects RX11 yX11_compare yX11_compare, Cond.code yX11_compare cX11_compare 5 (some .int), Cond.methodLink RL 143 yX10_weeks]
def wsL_law_r60 : List Cond := [Cond.instanceMethod yX10_weeks, Cond.selects RX10 yX10_weeks yX10_weeks, Cond.code yX10_weeks cX10_weeks 9 (some .int), Cond.constant RX10 332 (1000000), Cond.methodLink RX10 333 yX10_nextDraw, Cond.static yX10_nextDraw, Cond.code yX10_nextDraw cX10_nextDraw 1 (some .int), Cond.constant RX10 371 (1000003), Cond.methodLink RX10 336 yX10_changeByDraws, Cond.static yX10_changeByDraws, Cond.code yX10_changeByDraws cX10_changeByDraws 4 none, Cond.methodLink RL 146 yX11_weeks, Cond.instanceMethod yX11_weeks, Cond.selects RX11 yX11_weeks yX11_weeks, Cond.code yX11_weeks cX11_weeks 9 (some .int), Cond.constantLong RX11 614 (60), Cond.fieldLink RX11 605 "ScansionDeskModel" "state" "J", Cond.methodLink RX11 616 yX11_draw, Cond.instanceMethod yX11_draw, Cond.selects RX11 yX11_draw yX11_draw, Cond.code yX11_draw cX11_draw 2 (some .int), Cond.constantLong RX11 608 (1103), Cond.constantLong RX11 610 (12345), Cond.constantLong RX11 612 (1000003)]
def wsL_law_r61 : List Cond := [Cond.methodLink RL 147 yX10_drawn, Cond.instanceMethod yX10_drawn, Cond.selects RX10 yX10_drawn yX10_drawn, Cond.code yX10_drawn cX10_drawn 3 (some .int), Cond.methodLink RL 150 yX11_drawn, Cond.instanceMethod yX11_drawn, Cond.selects RX11 yX11_drawn yX11_drawn, Cond.code yX11_drawn cX11_drawn 3 (some .int), Cond.methodLink RL 151 yX10_image, Cond.instanceMethod yX10_image, Cond.selects RX10 yX10_image yX10_image, Cond.code yX10_image cX10_image 3 (some .int), Cond.methodLink RL 154 yX11_image, Cond.instanceMethod yX11_image, Cond.selects RX11 yX11_image yX11_image, Cond.code yX11_image cX11_image 3 (some .int), Cond.methodLink RL 155 yX10_back, Cond.instanceMethod yX10_back, Cond.selects RX10 yX10_back yX10_back, Cond.code yX10_back cX10_back 3 (some .int), Cond.methodLink RL 158 yX11_back, Cond.instanceMethod yX11_back, Cond.selects RX11 yX11_back yX11_back, Cond.code yX11_back cX11_back 3 (some .int)]
def wsL_law_r62 : List Cond := [Cond.methodLink RL 159 yX10_count, Cond.instanceMethod yX10_count, Cond.selects RX10 yX10_count yX10_count, Cond.code yX10_count cX10_count 2 (some .int), Cond.methodLink RL 162 yX11_count, Cond.instanceMethod yX11_count, Cond.selects RX11 yX11_count yX11_count, Cond.code yX11_count cX11_count 2 (some .int), Cond.constantLong RX11 619 (12), Cond.constantLong RX11 621 (14), Cond.methodLink RL 163 yX10_status, Cond.instanceMethod yX10_status, Cond.selects RX10 yX10_status yX10_status, Cond.code yX10_status cX10_status 1 (some .int), Cond.methodLink RL 166 yX11_status, Cond.instanceMethod yX11_status, Cond.selects RX11 yX11_status yX11_status, Cond.code yX11_status cX11_status 1 (some .int)]
abbrev vwCl : List vw_C := [(RX0, TX0, 3), (RX1, TX1, 5), (RX2, TX2, 4), (RX3, TX3, 6), (RX4, TX4, 11), (RX5, TX5, 1), (RX6, TX6, 11), (RX7, TX7, 11), (RX8, TX8, 2), (RX9, TX9, 6), (RX10, TX10, 20), (RX11, TX11, 72)]

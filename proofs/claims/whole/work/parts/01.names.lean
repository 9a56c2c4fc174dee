-- begun with kit texts given for pasting: the skeleton's PART A and the printed names (NAMES.whole)
-- ===== PART A: goes FIRST, ahead of the names: the tables' words, and 'selects' of the private methods out of them =====
/-- a private method of a class that the tables say can be made, by its rows of tables_1 -/
def lw_okq (q : MethodName × Nat) : Prop := (q.1.cls ≠ "java/lang/invoke/MethodHandle" ∧ q.1.cls ≠ "java/lang/invoke/VarHandle") ∧ Cond.instantiable q.1.cls q.2 ∈ tables_1 ∧ Cond.privateMethod q.1 ∈ tables_1 ∧ Cond.instanceMethod q.1 ∈ tables_1
theorem lw_p0 : lw_okq (⟨"PrintSpooler$RangeText", "characterAt", "(I)I"⟩, 3) := ⟨⟨by decide +kernel, by decide +kernel⟩, List.mem_of_getElem? (i := 35) (by decide +kernel), List.mem_of_getElem? (i := 296) (by decide +kernel), List.mem_of_getElem? (i := 297) (by decide +kernel)⟩
theorem lw_p1 : lw_okq (⟨"PrintSpooler", "gather", "(LPrintSpooler$Document;)I"⟩, 5) := ⟨⟨by decide +kernel, by decide +kernel⟩, List.mem_of_getElem? (i := 15) (by decide +kernel), List.mem_of_getElem? (i := 316) (by decide +kernel), List.mem_of_getElem? (i := 317) (by decide +kernel)⟩
theorem lw_p2 : lw_okq (⟨"PrintSpooler$RangeText", "expandItem", "(LPrintSpooler$PageList;I)V"⟩, 3) := ⟨⟨by decide +kernel, by decide +kernel⟩, List.mem_of_getElem? (i := 35) (by decide +kernel), List.mem_of_getElem? (i := 328) (by decide +kernel), List.mem_of_getElem? (i := 329) (by decide +kernel)⟩
theorem lw_p3 : lw_okq (⟨"PrintSpooler$RangeText", "skip", "(I)Z"⟩, 3) := ⟨⟨by decide +kernel, by decide +kernel⟩, List.mem_of_getElem? (i := 35) (by decide +kernel), List.mem_of_getElem? (i := 332) (by decide +kernel), List.mem_of_getElem? (i := 333) (by decide +kernel)⟩
theorem lw_p4 : lw_okq (⟨"PrintSpooler$RangeText", "readNumber", "()I"⟩, 3) := ⟨⟨by decide +kernel, by decide +kernel⟩, List.mem_of_getElem? (i := 35) (by decide +kernel), List.mem_of_getElem? (i := 336) (by decide +kernel), List.mem_of_getElem? (i := 337) (by decide +kernel)⟩
theorem lw_p5 : lw_okq (⟨"PrintSpooler$PageList", "appendIf", "(II)V"⟩, 3) := ⟨⟨by decide +kernel, by decide +kernel⟩, List.mem_of_getElem? (i := 169) (by decide +kernel), List.mem_of_getElem? (i := 357) (by decide +kernel), List.mem_of_getElem? (i := 358) (by decide +kernel)⟩
theorem lw_p6 : lw_okq (⟨"PrintSpooler$Plan", "loadOfPages", "(II)I"⟩, 13) := ⟨⟨by decide +kernel, by decide +kernel⟩, List.mem_of_getElem? (i := 389) (by decide +kernel), List.mem_of_getElem? (i := 402) (by decide +kernel), List.mem_of_getElem? (i := 403) (by decide +kernel)⟩
theorem lw_p7 : lw_okq (⟨"PrintSpooler$Plan", "indexOn", "(III)I"⟩, 13) := ⟨⟨by decide +kernel, by decide +kernel⟩, List.mem_of_getElem? (i := 389) (by decide +kernel), List.mem_of_getElem? (i := 410) (by decide +kernel), List.mem_of_getElem? (i := 411) (by decide +kernel)⟩
theorem lw_p8 : lw_okq (⟨"PrintSpooler$ShortestText", "chooseFirstItem", "([IIII)V"⟩, 5) := ⟨⟨by decide +kernel, by decide +kernel⟩, List.mem_of_getElem? (i := 188) (by decide +kernel), List.mem_of_getElem? (i := 585) (by decide +kernel), List.mem_of_getElem? (i := 586) (by decide +kernel)⟩
theorem lw_p9 : lw_okq (⟨"PrintSpooler$ShortestText", "compare", "([IIII)V"⟩, 5) := ⟨⟨by decide +kernel, by decide +kernel⟩, List.mem_of_getElem? (i := 188) (by decide +kernel), List.mem_of_getElem? (i := 589) (by decide +kernel), List.mem_of_getElem? (i := 590) (by decide +kernel)⟩
theorem lw_p10 : lw_okq (⟨"PrintSpooler$ShortestText", "write", "([II)V"⟩, 5) := ⟨⟨by decide +kernel, by decide +kernel⟩, List.mem_of_getElem? (i := 188) (by decide +kernel), List.mem_of_getElem? (i := 605) (by decide +kernel), List.mem_of_getElem? (i := 606) (by decide +kernel)⟩
theorem lw_p11 : lw_okq (⟨"PrintSpooler$ShortestText", "put", "(I)V"⟩, 5) := ⟨⟨by decide +kernel, by decide +kernel⟩, List.mem_of_getElem? (i := 188) (by decide +kernel), List.mem_of_getElem? (i := 610) (by decide +kernel), List.mem_of_getElem? (i := 611) (by decide +kernel)⟩
theorem lw_p12 : lw_okq (⟨"PrintSpooler$ShortestText", "writeItem", "(III)V"⟩, 5) := ⟨⟨by decide +kernel, by decide +kernel⟩, List.mem_of_getElem? (i := 188) (by decide +kernel), List.mem_of_getElem? (i := 614) (by decide +kernel), List.mem_of_getElem? (i := 615) (by decide +kernel)⟩
theorem lw_p13 : lw_okq (⟨"PrintSpooler$ShortestText", "putNumber", "(I)V"⟩, 5) := ⟨⟨by decide +kernel, by decide +kernel⟩, List.mem_of_getElem? (i := 188) (by decide +kernel), List.mem_of_getElem? (i := 618) (by decide +kernel), List.mem_of_getElem? (i := 619) (by decide +kernel)⟩
theorem lw_p14 : lw_okq (⟨"PrintSpooler$Spool", "passTick", "()V"⟩, 17) := ⟨⟨by decide +kernel, by decide +kernel⟩, List.mem_of_getElem? (i := 23) (by decide +kernel), List.mem_of_getElem? (i := 760) (by decide +kernel), List.mem_of_getElem? (i := 761) (by decide +kernel)⟩
theorem lw_p15 : lw_okq (⟨"PrintSpooler$Spool", "endSheet", "(ILPrintSpooler$Printer;)V"⟩, 17) := ⟨⟨by decide +kernel, by decide +kernel⟩, List.mem_of_getElem? (i := 23) (by decide +kernel), List.mem_of_getElem? (i := 765) (by decide +kernel), List.mem_of_getElem? (i := 766) (by decide +kernel)⟩
def lw_privs_1 : List (MethodName × Nat) := [(⟨"PrintSpooler$RangeText", "characterAt", "(I)I"⟩, 3), (⟨"PrintSpooler", "gather", "(LPrintSpooler$Document;)I"⟩, 5), (⟨"PrintSpooler$RangeText", "expandItem", "(LPrintSpooler$PageList;I)V"⟩, 3), (⟨"PrintSpooler$RangeText", "skip", "(I)Z"⟩, 3), (⟨"PrintSpooler$RangeText", "readNumber", "()I"⟩, 3), (⟨"PrintSpooler$PageList", "appendIf", "(II)V"⟩, 3), (⟨"PrintSpooler$Plan", "loadOfPages", "(II)I"⟩, 13), (⟨"PrintSpooler$Plan", "indexOn", "(III)I"⟩, 13), (⟨"PrintSpooler$ShortestText", "chooseFirstItem", "([IIII)V"⟩, 5), (⟨"PrintSpooler$ShortestText", "compare", "([IIII)V"⟩, 5), (⟨"PrintSpooler$ShortestText", "write", "([II)V"⟩, 5), (⟨"PrintSpooler$ShortestText", "put", "(I)V"⟩, 5), (⟨"PrintSpooler$ShortestText", "writeItem", "(III)V"⟩, 5), (⟨"PrintSpooler$ShortestText", "putNumber", "(I)V"⟩, 5), (⟨"PrintSpooler$Spool", "passTick", "()V"⟩, 17), (⟨"PrintSpooler$Spool", "endSheet", "(ILPrintSpooler$Printer;)V"⟩, 17)]
theorem lw_r1 : ∀ q ∈ lw_privs_1, lw_okq q := List.forall_mem_cons.mpr ⟨lw_p0, List.forall_mem_cons.mpr ⟨lw_p1, List.forall_mem_cons.mpr ⟨lw_p2, List.forall_mem_cons.mpr ⟨lw_p3, List.forall_mem_cons.mpr ⟨lw_p4, List.forall_mem_cons.mpr ⟨lw_p5, List.forall_mem_cons.mpr ⟨lw_p6, List.forall_mem_cons.mpr ⟨lw_p7, List.forall_mem_cons.mpr ⟨lw_p8, List.forall_mem_cons.mpr ⟨lw_p9, List.forall_mem_cons.mpr ⟨lw_p10, List.forall_mem_cons.mpr ⟨lw_p11, List.forall_mem_cons.mpr ⟨lw_p12, List.forall_mem_cons.mpr ⟨lw_p13, List.forall_mem_cons.mpr ⟨lw_p14, List.forall_mem_cons.mpr ⟨lw_p15, fun _ h => absurd h List.not_mem_nil⟩⟩⟩⟩⟩⟩⟩⟩⟩⟩⟩⟩⟩⟩⟩⟩
theorem lw_p16 : lw_okq (⟨"PrintSpooler$Journal", "put", "(III)V"⟩, 2) := ⟨⟨by decide +kernel, by decide +kernel⟩, List.mem_of_getElem? (i := 53) (by decide +kernel), List.mem_of_getElem? (i := 773) (by decide +kernel), List.mem_of_getElem? (i := 774) (by decide +kernel)⟩
theorem lw_p17 : lw_okq (⟨"PrintSpooler$Spool", "countFor", "(I)V"⟩, 17) := ⟨⟨by decide +kernel, by decide +kernel⟩, List.mem_of_getElem? (i := 23) (by decide +kernel), List.mem_of_getElem? (i := 780) (by decide +kernel), List.mem_of_getElem? (i := 781) (by decide +kernel)⟩
theorem lw_p18 : lw_okq (⟨"PrintSpooler$Spool", "markDone", "(LPrintSpooler$Job;)V"⟩, 17) := ⟨⟨by decide +kernel, by decide +kernel⟩, List.mem_of_getElem? (i := 23) (by decide +kernel), List.mem_of_getElem? (i := 785) (by decide +kernel), List.mem_of_getElem? (i := 786) (by decide +kernel)⟩
theorem lw_p19 : lw_okq (⟨"PrintSpooler$Spool", "hasSupply", "(LPrintSpooler$Printer;LPrintSpooler$Plan;)Z"⟩, 17) := ⟨⟨by decide +kernel, by decide +kernel⟩, List.mem_of_getElem? (i := 23) (by decide +kernel), List.mem_of_getElem? (i := 789) (by decide +kernel), List.mem_of_getElem? (i := 790) (by decide +kernel)⟩
theorem lw_p20 : lw_okq (⟨"PrintSpooler$Spool", "bestFor", "(LPrintSpooler$Printer;)LPrintSpooler$Job;"⟩, 17) := ⟨⟨by decide +kernel, by decide +kernel⟩, List.mem_of_getElem? (i := 23) (by decide +kernel), List.mem_of_getElem? (i := 799) (by decide +kernel), List.mem_of_getElem? (i := 800) (by decide +kernel)⟩
theorem lw_p21 : lw_okq (⟨"PrintSpooler$Spool", "isPrintable", "(LPrintSpooler$Printer;LPrintSpooler$Job;)Z"⟩, 17) := ⟨⟨by decide +kernel, by decide +kernel⟩, List.mem_of_getElem? (i := 23) (by decide +kernel), List.mem_of_getElem? (i := 803) (by decide +kernel), List.mem_of_getElem? (i := 804) (by decide +kernel)⟩
theorem lw_p22 : lw_okq (⟨"PrintSpooler$Spool", "isOutranked", "(LPrintSpooler$Job;LPrintSpooler$Job;)Z"⟩, 17) := ⟨⟨by decide +kernel, by decide +kernel⟩, List.mem_of_getElem? (i := 23) (by decide +kernel), List.mem_of_getElem? (i := 808) (by decide +kernel), List.mem_of_getElem? (i := 809) (by decide +kernel)⟩
theorem lw_p23 : lw_okq (⟨"PrintSpooler$Spool", "beginSheet", "(LPrintSpooler$Printer;LPrintSpooler$Job;)V"⟩, 17) := ⟨⟨by decide +kernel, by decide +kernel⟩, List.mem_of_getElem? (i := 23) (by decide +kernel), List.mem_of_getElem? (i := 812) (by decide +kernel), List.mem_of_getElem? (i := 813) (by decide +kernel)⟩
theorem lw_p24 : lw_okq (⟨"PrintSpooler$Spool", "skipQuietTicks", "(I)I"⟩, 17) := ⟨⟨by decide +kernel, by decide +kernel⟩, List.mem_of_getElem? (i := 23) (by decide +kernel), List.mem_of_getElem? (i := 820) (by decide +kernel), List.mem_of_getElem? (i := 821) (by decide +kernel)⟩
theorem lw_p25 : lw_okq (⟨"PrintSpooler$Spool", "copyJobs", "(LPrintSpooler$Spool;)V"⟩, 17) := ⟨⟨by decide +kernel, by decide +kernel⟩, List.mem_of_getElem? (i := 23) (by decide +kernel), List.mem_of_getElem? (i := 851) (by decide +kernel), List.mem_of_getElem? (i := 852) (by decide +kernel)⟩
theorem lw_p26 : lw_okq (⟨"PrintSpooler$Spool", "copyPrinters", "(LPrintSpooler$Spool;)V"⟩, 17) := ⟨⟨by decide +kernel, by decide +kernel⟩, List.mem_of_getElem? (i := 23) (by decide +kernel), List.mem_of_getElem? (i := 859) (by decide +kernel), List.mem_of_getElem? (i := 860) (by decide +kernel)⟩
theorem lw_p27 : lw_okq (⟨"PrintSpooler", "slotAt", "(I)LPrintSpooler$Spool;"⟩, 5) := ⟨⟨by decide +kernel, by decide +kernel⟩, List.mem_of_getElem? (i := 15) (by decide +kernel), List.mem_of_getElem? (i := 909) (by decide +kernel), List.mem_of_getElem? (i := 910) (by decide +kernel)⟩
theorem lw_p28 : lw_okq (⟨"PrintSpoolerModel", "isDocument", "(I)Z"⟩, 22) := ⟨⟨by decide +kernel, by decide +kernel⟩, List.mem_of_getElem? (i := 917) (by decide +kernel), List.mem_of_getElem? (i := 1002) (by decide +kernel), List.mem_of_getElem? (i := 1003) (by decide +kernel)⟩
theorem lw_p29 : lw_okq (⟨"PrintSpoolerModel", "ofDocument", "(II)I"⟩, 22) := ⟨⟨by decide +kernel, by decide +kernel⟩, List.mem_of_getElem? (i := 917) (by decide +kernel), List.mem_of_getElem? (i := 1006) (by decide +kernel), List.mem_of_getElem? (i := 1007) (by decide +kernel)⟩
theorem lw_p30 : lw_okq (⟨"PrintSpoolerModel", "weightOf", "(II)I"⟩, 22) := ⟨⟨by decide +kernel, by decide +kernel⟩, List.mem_of_getElem? (i := 917) (by decide +kernel), List.mem_of_getElem? (i := 1010) (by decide +kernel), List.mem_of_getElem? (i := 1011) (by decide +kernel)⟩
theorem lw_p31 : lw_okq (⟨"PrintSpoolerModel", "faultOf", "()I"⟩, 22) := ⟨⟨by decide +kernel, by decide +kernel⟩, List.mem_of_getElem? (i := 917) (by decide +kernel), List.mem_of_getElem? (i := 1026) (by decide +kernel), List.mem_of_getElem? (i := 1027) (by decide +kernel)⟩
def lw_privs_2 : List (MethodName × Nat) := [(⟨"PrintSpooler$Journal", "put", "(III)V"⟩, 2), (⟨"PrintSpooler$Spool", "countFor", "(I)V"⟩, 17), (⟨"PrintSpooler$Spool", "markDone", "(LPrintSpooler$Job;)V"⟩, 17), (⟨"PrintSpooler$Spool", "hasSupply", "(LPrintSpooler$Printer;LPrintSpooler$Plan;)Z"⟩, 17), (⟨"PrintSpooler$Spool", "bestFor", "(LPrintSpooler$Printer;)LPrintSpooler$Job;"⟩, 17), (⟨"PrintSpooler$Spool", "isPrintable", "(LPrintSpooler$Printer;LPrintSpooler$Job;)Z"⟩, 17), (⟨"PrintSpooler$Spool", "isOutranked", "(LPrintSpooler$Job;LPrintSpooler$Job;)Z"⟩, 17), (⟨"PrintSpooler$Spool", "beginSheet", "(LPrintSpooler$Printer;LPrintSpooler$Job;)V"⟩, 17), (⟨"PrintSpooler$Spool", "skipQuietTicks", "(I)I"⟩, 17), (⟨"PrintSpooler$Spool", "copyJobs", "(LPrintSpooler$Spool;)V"⟩, 17), (⟨"PrintSpooler$Spool", "copyPrinters", "(LPrintSpooler$Spool;)V"⟩, 17), (⟨"PrintSpooler", "slotAt", "(I)LPrintSpooler$Spool;"⟩, 5), (⟨"PrintSpoolerModel", "isDocument", "(I)Z"⟩, 22), (⟨"PrintSpoolerModel", "ofDocument", "(II)I"⟩, 22), (⟨"PrintSpoolerModel", "weightOf", "(II)I"⟩, 22), (⟨"PrintSpoolerModel", "faultOf", "()I"⟩, 22)]
theorem lw_r2 : ∀ q ∈ lw_privs_2, lw_okq q := List.forall_mem_cons.mpr ⟨lw_p16, List.forall_mem_cons.mpr ⟨lw_p17, List.forall_mem_cons.mpr ⟨lw_p18, List.forall_mem_cons.mpr ⟨lw_p19, List.forall_mem_cons.mpr ⟨lw_p20, List.forall_mem_cons.mpr ⟨lw_p21, List.forall_mem_cons.mpr ⟨lw_p22, List.forall_mem_cons.mpr ⟨lw_p23, List.forall_mem_cons.mpr ⟨lw_p24, List.forall_mem_cons.mpr ⟨lw_p25, List.forall_mem_cons.mpr ⟨lw_p26, List.forall_mem_cons.mpr ⟨lw_p27, List.forall_mem_cons.mpr ⟨lw_p28, List.forall_mem_cons.mpr ⟨lw_p29, List.forall_mem_cons.mpr ⟨lw_p30, List.forall_mem_cons.mpr ⟨lw_p31, fun _ h => absurd h List.not_mem_nil⟩⟩⟩⟩⟩⟩⟩⟩⟩⟩⟩⟩⟩⟩⟩⟩
theorem lw_p32 : lw_okq (⟨"PrintSpoolerModel", "readItem", "()V"⟩, 22) := ⟨⟨by decide +kernel, by decide +kernel⟩, List.mem_of_getElem? (i := 917) (by decide +kernel), List.mem_of_getElem? (i := 1030) (by decide +kernel), List.mem_of_getElem? (i := 1031) (by decide +kernel)⟩
theorem lw_p33 : lw_okq (⟨"PrintSpoolerModel", "signAt", "(I)I"⟩, 22) := ⟨⟨by decide +kernel, by decide +kernel⟩, List.mem_of_getElem? (i := 917) (by decide +kernel), List.mem_of_getElem? (i := 1034) (by decide +kernel), List.mem_of_getElem? (i := 1035) (by decide +kernel)⟩
theorem lw_p34 : lw_okq (⟨"PrintSpoolerModel", "readNumber", "()I"⟩, 22) := ⟨⟨by decide +kernel, by decide +kernel⟩, List.mem_of_getElem? (i := 917) (by decide +kernel), List.mem_of_getElem? (i := 1038) (by decide +kernel), List.mem_of_getElem? (i := 1039) (by decide +kernel)⟩
theorem lw_p35 : lw_okq (⟨"PrintSpoolerModel", "makeList", "(I)Z"⟩, 22) := ⟨⟨by decide +kernel, by decide +kernel⟩, List.mem_of_getElem? (i := 917) (by decide +kernel), List.mem_of_getElem? (i := 1052) (by decide +kernel), List.mem_of_getElem? (i := 1053) (by decide +kernel)⟩
theorem lw_p36 : lw_okq (⟨"PrintSpoolerModel", "takeOut", "(I)V"⟩, 22) := ⟨⟨by decide +kernel, by decide +kernel⟩, List.mem_of_getElem? (i := 917) (by decide +kernel), List.mem_of_getElem? (i := 1056) (by decide +kernel), List.mem_of_getElem? (i := 1057) (by decide +kernel)⟩
theorem lw_p37 : lw_okq (⟨"PrintSpoolerModel", "isInItem", "(II)Z"⟩, 22) := ⟨⟨by decide +kernel, by decide +kernel⟩, List.mem_of_getElem? (i := 917) (by decide +kernel), List.mem_of_getElem? (i := 1060) (by decide +kernel), List.mem_of_getElem? (i := 1061) (by decide +kernel)⟩
theorem lw_p38 : lw_okq (⟨"PrintSpoolerModel", "isPart", "(I)Z"⟩, 22) := ⟨⟨by decide +kernel, by decide +kernel⟩, List.mem_of_getElem? (i := 917) (by decide +kernel), List.mem_of_getElem? (i := 1064) (by decide +kernel), List.mem_of_getElem? (i := 1065) (by decide +kernel)⟩
theorem lw_p39 : lw_okq (⟨"PrintSpoolerModel", "append", "(II)V"⟩, 22) := ⟨⟨by decide +kernel, by decide +kernel⟩, List.mem_of_getElem? (i := 917) (by decide +kernel), List.mem_of_getElem? (i := 1068) (by decide +kernel), List.mem_of_getElem? (i := 1069) (by decide +kernel)⟩
theorem lw_p40 : lw_okq (⟨"PrintSpoolerModel", "setJob", "(III)V"⟩, 22) := ⟨⟨by decide +kernel, by decide +kernel⟩, List.mem_of_getElem? (i := 917) (by decide +kernel), List.mem_of_getElem? (i := 1086) (by decide +kernel), List.mem_of_getElem? (i := 1087) (by decide +kernel)⟩
theorem lw_p41 : lw_okq (⟨"PrintSpoolerModel", "sheetsOfCopy", "(I)I"⟩, 22) := ⟨⟨by decide +kernel, by decide +kernel⟩, List.mem_of_getElem? (i := 917) (by decide +kernel), List.mem_of_getElem? (i := 1090) (by decide +kernel), List.mem_of_getElem? (i := 1091) (by decide +kernel)⟩
theorem lw_p42 : lw_okq (⟨"PrintSpoolerModel", "ofJob", "(II)I"⟩, 22) := ⟨⟨by decide +kernel, by decide +kernel⟩, List.mem_of_getElem? (i := 917) (by decide +kernel), List.mem_of_getElem? (i := 1094) (by decide +kernel), List.mem_of_getElem? (i := 1095) (by decide +kernel)⟩
theorem lw_p43 : lw_okq (⟨"PrintSpoolerModel", "isBooklet", "(I)Z"⟩, 22) := ⟨⟨by decide +kernel, by decide +kernel⟩, List.mem_of_getElem? (i := 917) (by decide +kernel), List.mem_of_getElem? (i := 1098) (by decide +kernel), List.mem_of_getElem? (i := 1099) (by decide +kernel)⟩
theorem lw_p44 : lw_okq (⟨"PrintSpoolerModel", "perSide", "(I)I"⟩, 22) := ⟨⟨by decide +kernel, by decide +kernel⟩, List.mem_of_getElem? (i := 917) (by decide +kernel), List.mem_of_getElem? (i := 1102) (by decide +kernel), List.mem_of_getElem? (i := 1103) (by decide +kernel)⟩
theorem lw_p45 : lw_okq (⟨"PrintSpoolerModel", "sidesOf", "(I)I"⟩, 22) := ⟨⟨by decide +kernel, by decide +kernel⟩, List.mem_of_getElem? (i := 917) (by decide +kernel), List.mem_of_getElem? (i := 1106) (by decide +kernel), List.mem_of_getElem? (i := 1107) (by decide +kernel)⟩
theorem lw_p46 : lw_okq (⟨"PrintSpoolerModel", "isJob", "(I)Z"⟩, 22) := ⟨⟨by decide +kernel, by decide +kernel⟩, List.mem_of_getElem? (i := 917) (by decide +kernel), List.mem_of_getElem? (i := 1114) (by decide +kernel), List.mem_of_getElem? (i := 1115) (by decide +kernel)⟩
theorem lw_p47 : lw_okq (⟨"PrintSpoolerModel", "rankOf", "(I)I"⟩, 22) := ⟨⟨by decide +kernel, by decide +kernel⟩, List.mem_of_getElem? (i := 917) (by decide +kernel), List.mem_of_getElem? (i := 1118) (by decide +kernel), List.mem_of_getElem? (i := 1119) (by decide +kernel)⟩
def lw_privs_3 : List (MethodName × Nat) := [(⟨"PrintSpoolerModel", "readItem", "()V"⟩, 22), (⟨"PrintSpoolerModel", "signAt", "(I)I"⟩, 22), (⟨"PrintSpoolerModel", "readNumber", "()I"⟩, 22), (⟨"PrintSpoolerModel", "makeList", "(I)Z"⟩, 22), (⟨"PrintSpoolerModel", "takeOut", "(I)V"⟩, 22), (⟨"PrintSpoolerModel", "isInItem", "(II)Z"⟩, 22), (⟨"PrintSpoolerModel", "isPart", "(I)Z"⟩, 22), (⟨"PrintSpoolerModel", "append", "(II)V"⟩, 22), (⟨"PrintSpoolerModel", "setJob", "(III)V"⟩, 22), (⟨"PrintSpoolerModel", "sheetsOfCopy", "(I)I"⟩, 22), (⟨"PrintSpoolerModel", "ofJob", "(II)I"⟩, 22), (⟨"PrintSpoolerModel", "isBooklet", "(I)Z"⟩, 22), (⟨"PrintSpoolerModel", "perSide", "(I)I"⟩, 22), (⟨"PrintSpoolerModel", "sidesOf", "(I)I"⟩, 22), (⟨"PrintSpoolerModel", "isJob", "(I)Z"⟩, 22), (⟨"PrintSpoolerModel", "rankOf", "(I)I"⟩, 22)]
theorem lw_r3 : ∀ q ∈ lw_privs_3, lw_okq q := List.forall_mem_cons.mpr ⟨lw_p32, List.forall_mem_cons.mpr ⟨lw_p33, List.forall_mem_cons.mpr ⟨lw_p34, List.forall_mem_cons.mpr ⟨lw_p35, List.forall_mem_cons.mpr ⟨lw_p36, List.forall_mem_cons.mpr ⟨lw_p37, List.forall_mem_cons.mpr ⟨lw_p38, List.forall_mem_cons.mpr ⟨lw_p39, List.forall_mem_cons.mpr ⟨lw_p40, List.forall_mem_cons.mpr ⟨lw_p41, List.forall_mem_cons.mpr ⟨lw_p42, List.forall_mem_cons.mpr ⟨lw_p43, List.forall_mem_cons.mpr ⟨lw_p44, List.forall_mem_cons.mpr ⟨lw_p45, List.forall_mem_cons.mpr ⟨lw_p46, List.forall_mem_cons.mpr ⟨lw_p47, fun _ h => absurd h List.not_mem_nil⟩⟩⟩⟩⟩⟩⟩⟩⟩⟩⟩⟩⟩⟩⟩⟩
theorem lw_p48 : lw_okq (⟨"PrintSpoolerModel", "isSheet", "(II)Z"⟩, 22) := ⟨⟨by decide +kernel, by decide +kernel⟩, List.mem_of_getElem? (i := 917) (by decide +kernel), List.mem_of_getElem? (i := 1126) (by decide +kernel), List.mem_of_getElem? (i := 1127) (by decide +kernel)⟩
theorem lw_p49 : lw_okq (⟨"PrintSpoolerModel", "pageAt", "(IIII)I"⟩, 22) := ⟨⟨by decide +kernel, by decide +kernel⟩, List.mem_of_getElem? (i := 917) (by decide +kernel), List.mem_of_getElem? (i := 1130) (by decide +kernel), List.mem_of_getElem? (i := 1131) (by decide +kernel)⟩
theorem lw_p50 : lw_okq (⟨"PrintSpoolerModel", "elementAt", "(IIII)I"⟩, 22) := ⟨⟨by decide +kernel, by decide +kernel⟩, List.mem_of_getElem? (i := 917) (by decide +kernel), List.mem_of_getElem? (i := 1134) (by decide +kernel), List.mem_of_getElem? (i := 1135) (by decide +kernel)⟩
theorem lw_p51 : lw_okq (⟨"PrintSpoolerModel", "layText", "(I)V"⟩, 22) := ⟨⟨by decide +kernel, by decide +kernel⟩, List.mem_of_getElem? (i := 917) (by decide +kernel), List.mem_of_getElem? (i := 1154) (by decide +kernel), List.mem_of_getElem? (i := 1155) (by decide +kernel)⟩
theorem lw_p52 : lw_okq (⟨"PrintSpoolerModel", "takeItem", "(IIII)V"⟩, 22) := ⟨⟨by decide +kernel, by decide +kernel⟩, List.mem_of_getElem? (i := 917) (by decide +kernel), List.mem_of_getElem? (i := 1158) (by decide +kernel), List.mem_of_getElem? (i := 1159) (by decide +kernel)⟩
theorem lw_p53 : lw_okq (⟨"PrintSpoolerModel", "signsOf", "(IIII)I"⟩, 22) := ⟨⟨by decide +kernel, by decide +kernel⟩, List.mem_of_getElem? (i := 917) (by decide +kernel), List.mem_of_getElem? (i := 1162) (by decide +kernel), List.mem_of_getElem? (i := 1163) (by decide +kernel)⟩
theorem lw_p54 : lw_okq (⟨"PrintSpoolerModel", "stepAt", "(II)I"⟩, 22) := ⟨⟨by decide +kernel, by decide +kernel⟩, List.mem_of_getElem? (i := 917) (by decide +kernel), List.mem_of_getElem? (i := 1169) (by decide +kernel), List.mem_of_getElem? (i := 1170) (by decide +kernel)⟩
theorem lw_p55 : lw_okq (⟨"PrintSpoolerModel", "signOf", "(III)I"⟩, 22) := ⟨⟨by decide +kernel, by decide +kernel⟩, List.mem_of_getElem? (i := 917) (by decide +kernel), List.mem_of_getElem? (i := 1173) (by decide +kernel), List.mem_of_getElem? (i := 1174) (by decide +kernel)⟩
theorem lw_p56 : lw_okq (⟨"PrintSpoolerModel", "setPrinter", "(III)V"⟩, 22) := ⟨⟨by decide +kernel, by decide +kernel⟩, List.mem_of_getElem? (i := 917) (by decide +kernel), List.mem_of_getElem? (i := 1184) (by decide +kernel), List.mem_of_getElem? (i := 1185) (by decide +kernel)⟩
theorem lw_p57 : lw_okq (⟨"PrintSpoolerModel", "isPrinter", "(I)Z"⟩, 22) := ⟨⟨by decide +kernel, by decide +kernel⟩, List.mem_of_getElem? (i := 917) (by decide +kernel), List.mem_of_getElem? (i := 1192) (by decide +kernel), List.mem_of_getElem? (i := 1193) (by decide +kernel)⟩
theorem lw_p58 : lw_okq (⟨"PrintSpoolerModel", "ofPrinter", "(II)I"⟩, 22) := ⟨⟨by decide +kernel, by decide +kernel⟩, List.mem_of_getElem? (i := 917) (by decide +kernel), List.mem_of_getElem? (i := 1196) (by decide +kernel), List.mem_of_getElem? (i := 1197) (by decide +kernel)⟩
theorem lw_p59 : lw_okq (⟨"PrintSpoolerModel", "laySide", "(IIII)V"⟩, 22) := ⟨⟨by decide +kernel, by decide +kernel⟩, List.mem_of_getElem? (i := 917) (by decide +kernel), List.mem_of_getElem? (i := 1208) (by decide +kernel), List.mem_of_getElem? (i := 1209) (by decide +kernel)⟩
theorem lw_p60 : lw_okq (⟨"PrintSpoolerModel", "ticksFor", "(III)I"⟩, 22) := ⟨⟨by decide +kernel, by decide +kernel⟩, List.mem_of_getElem? (i := 917) (by decide +kernel), List.mem_of_getElem? (i := 1219) (by decide +kernel), List.mem_of_getElem? (i := 1220) (by decide +kernel)⟩
theorem lw_p61 : lw_okq (⟨"PrintSpoolerModel", "isOver", "(I)Z"⟩, 22) := ⟨⟨by decide +kernel, by decide +kernel⟩, List.mem_of_getElem? (i := 917) (by decide +kernel), List.mem_of_getElem? (i := 1235) (by decide +kernel), List.mem_of_getElem? (i := 1236) (by decide +kernel)⟩
theorem lw_p62 : lw_okq (⟨"PrintSpoolerModel", "becomeWaiting", "(I)V"⟩, 22) := ⟨⟨by decide +kernel, by decide +kernel⟩, List.mem_of_getElem? (i := 917) (by decide +kernel), List.mem_of_getElem? (i := 1247) (by decide +kernel), List.mem_of_getElem? (i := 1248) (by decide +kernel)⟩
theorem lw_p63 : lw_okq (⟨"PrintSpoolerModel", "leave", "(I)V"⟩, 22) := ⟨⟨by decide +kernel, by decide +kernel⟩, List.mem_of_getElem? (i := 917) (by decide +kernel), List.mem_of_getElem? (i := 1259) (by decide +kernel), List.mem_of_getElem? (i := 1260) (by decide +kernel)⟩
def lw_privs_4 : List (MethodName × Nat) := [(⟨"PrintSpoolerModel", "isSheet", "(II)Z"⟩, 22), (⟨"PrintSpoolerModel", "pageAt", "(IIII)I"⟩, 22), (⟨"PrintSpoolerModel", "elementAt", "(IIII)I"⟩, 22), (⟨"PrintSpoolerModel", "layText", "(I)V"⟩, 22), (⟨"PrintSpoolerModel", "takeItem", "(IIII)V"⟩, 22), (⟨"PrintSpoolerModel", "signsOf", "(IIII)I"⟩, 22), (⟨"PrintSpoolerModel", "stepAt", "(II)I"⟩, 22), (⟨"PrintSpoolerModel", "signOf", "(III)I"⟩, 22), (⟨"PrintSpoolerModel", "setPrinter", "(III)V"⟩, 22), (⟨"PrintSpoolerModel", "isPrinter", "(I)Z"⟩, 22), (⟨"PrintSpoolerModel", "ofPrinter", "(II)I"⟩, 22), (⟨"PrintSpoolerModel", "laySide", "(IIII)V"⟩, 22), (⟨"PrintSpoolerModel", "ticksFor", "(III)I"⟩, 22), (⟨"PrintSpoolerModel", "isOver", "(I)Z"⟩, 22), (⟨"PrintSpoolerModel", "becomeWaiting", "(I)V"⟩, 22), (⟨"PrintSpoolerModel", "leave", "(I)V"⟩, 22)]
theorem lw_r4 : ∀ q ∈ lw_privs_4, lw_okq q := List.forall_mem_cons.mpr ⟨lw_p48, List.forall_mem_cons.mpr ⟨lw_p49, List.forall_mem_cons.mpr ⟨lw_p50, List.forall_mem_cons.mpr ⟨lw_p51, List.forall_mem_cons.mpr ⟨lw_p52, List.forall_mem_cons.mpr ⟨lw_p53, List.forall_mem_cons.mpr ⟨lw_p54, List.forall_mem_cons.mpr ⟨lw_p55, List.forall_mem_cons.mpr ⟨lw_p56, List.forall_mem_cons.mpr ⟨lw_p57, List.forall_mem_cons.mpr ⟨lw_p58, List.forall_mem_cons.mpr ⟨lw_p59, List.forall_mem_cons.mpr ⟨lw_p60, List.forall_mem_cons.mpr ⟨lw_p61, List.forall_mem_cons.mpr ⟨lw_p62, List.forall_mem_cons.mpr ⟨lw_p63, fun _ h => absurd h List.not_mem_nil⟩⟩⟩⟩⟩⟩⟩⟩⟩⟩⟩⟩⟩⟩⟩⟩
theorem lw_p64 : lw_okq (⟨"PrintSpoolerModel", "tick", "()V"⟩, 22) := ⟨⟨by decide +kernel, by decide +kernel⟩, List.mem_of_getElem? (i := 917) (by decide +kernel), List.mem_of_getElem? (i := 1271) (by decide +kernel), List.mem_of_getElem? (i := 1272) (by decide +kernel)⟩
theorem lw_p65 : lw_okq (⟨"PrintSpoolerModel", "endSheet", "(II)V"⟩, 22) := ⟨⟨by decide +kernel, by decide +kernel⟩, List.mem_of_getElem? (i := 917) (by decide +kernel), List.mem_of_getElem? (i := 1275) (by decide +kernel), List.mem_of_getElem? (i := 1276) (by decide +kernel)⟩
theorem lw_p66 : lw_okq (⟨"PrintSpoolerModel", "record", "(II)V"⟩, 22) := ⟨⟨by decide +kernel, by decide +kernel⟩, List.mem_of_getElem? (i := 917) (by decide +kernel), List.mem_of_getElem? (i := 1279) (by decide +kernel), List.mem_of_getElem? (i := 1280) (by decide +kernel)⟩
theorem lw_p67 : lw_okq (⟨"PrintSpoolerModel", "trayFor", "(II)I"⟩, 22) := ⟨⟨by decide +kernel, by decide +kernel⟩, List.mem_of_getElem? (i := 917) (by decide +kernel), List.mem_of_getElem? (i := 1283) (by decide +kernel), List.mem_of_getElem? (i := 1284) (by decide +kernel)⟩
theorem lw_p68 : lw_okq (⟨"PrintSpoolerModel", "hasQuota", "(I)Z"⟩, 22) := ⟨⟨by decide +kernel, by decide +kernel⟩, List.mem_of_getElem? (i := 917) (by decide +kernel), List.mem_of_getElem? (i := 1287) (by decide +kernel), List.mem_of_getElem? (i := 1288) (by decide +kernel)⟩
theorem lw_p69 : lw_okq (⟨"PrintSpoolerModel", "bestFor", "(I)I"⟩, 22) := ⟨⟨by decide +kernel, by decide +kernel⟩, List.mem_of_getElem? (i := 917) (by decide +kernel), List.mem_of_getElem? (i := 1291) (by decide +kernel), List.mem_of_getElem? (i := 1292) (by decide +kernel)⟩
theorem lw_p70 : lw_okq (⟨"PrintSpoolerModel", "isPrintable", "(II)Z"⟩, 22) := ⟨⟨by decide +kernel, by decide +kernel⟩, List.mem_of_getElem? (i := 917) (by decide +kernel), List.mem_of_getElem? (i := 1295) (by decide +kernel), List.mem_of_getElem? (i := 1296) (by decide +kernel)⟩
theorem lw_p71 : lw_okq (⟨"PrintSpoolerModel", "begin", "(II)V"⟩, 22) := ⟨⟨by decide +kernel, by decide +kernel⟩, List.mem_of_getElem? (i := 917) (by decide +kernel), List.mem_of_getElem? (i := 1299) (by decide +kernel), List.mem_of_getElem? (i := 1300) (by decide +kernel)⟩
theorem lw_p72 : lw_okq (⟨"PrintSpoolerModel", "putAside", "()V"⟩, 22) := ⟨⟨by decide +kernel, by decide +kernel⟩, List.mem_of_getElem? (i := 917) (by decide +kernel), List.mem_of_getElem? (i := 1315) (by decide +kernel), List.mem_of_getElem? (i := 1316) (by decide +kernel)⟩
theorem lw_p73 : lw_okq (⟨"PrintSpoolerModel", "putBack", "()V"⟩, 22) := ⟨⟨by decide +kernel, by decide +kernel⟩, List.mem_of_getElem? (i := 917) (by decide +kernel), List.mem_of_getElem? (i := 1319) (by decide +kernel), List.mem_of_getElem? (i := 1320) (by decide +kernel)⟩
theorem lw_p74 : lw_okq (⟨"PrintSpoolerModel", "isInTime", "(III)Z"⟩, 22) := ⟨⟨by decide +kernel, by decide +kernel⟩, List.mem_of_getElem? (i := 917) (by decide +kernel), List.mem_of_getElem? (i := 1327) (by decide +kernel), List.mem_of_getElem? (i := 1328) (by decide +kernel)⟩
theorem lw_p75 : lw_okq (⟨"PrintSpoolerModel", "waiting", "()I"⟩, 22) := ⟨⟨by decide +kernel, by decide +kernel⟩, List.mem_of_getElem? (i := 917) (by decide +kernel), List.mem_of_getElem? (i := 1339) (by decide +kernel), List.mem_of_getElem? (i := 1340) (by decide +kernel)⟩
def lw_privs_5 : List (MethodName × Nat) := [(⟨"PrintSpoolerModel", "tick", "()V"⟩, 22), (⟨"PrintSpoolerModel", "endSheet", "(II)V"⟩, 22), (⟨"PrintSpoolerModel", "record", "(II)V"⟩, 22), (⟨"PrintSpoolerModel", "trayFor", "(II)I"⟩, 22), (⟨"PrintSpoolerModel", "hasQuota", "(I)Z"⟩, 22), (⟨"PrintSpoolerModel", "bestFor", "(I)I"⟩, 22), (⟨"PrintSpoolerModel", "isPrintable", "(II)Z"⟩, 22), (⟨"PrintSpoolerModel", "begin", "(II)V"⟩, 22), (⟨"PrintSpoolerModel", "putAside", "()V"⟩, 22), (⟨"PrintSpoolerModel", "putBack", "()V"⟩, 22), (⟨"PrintSpoolerModel", "isInTime", "(III)Z"⟩, 22), (⟨"PrintSpoolerModel", "waiting", "()I"⟩, 22)]
theorem lw_r5 : ∀ q ∈ lw_privs_5, lw_okq q := List.forall_mem_cons.mpr ⟨lw_p64, List.forall_mem_cons.mpr ⟨lw_p65, List.forall_mem_cons.mpr ⟨lw_p66, List.forall_mem_cons.mpr ⟨lw_p67, List.forall_mem_cons.mpr ⟨lw_p68, List.forall_mem_cons.mpr ⟨lw_p69, List.forall_mem_cons.mpr ⟨lw_p70, List.forall_mem_cons.mpr ⟨lw_p71, List.forall_mem_cons.mpr ⟨lw_p72, List.forall_mem_cons.mpr ⟨lw_p73, List.forall_mem_cons.mpr ⟨lw_p74, List.forall_mem_cons.mpr ⟨lw_p75, fun _ h => absurd h List.not_mem_nil⟩⟩⟩⟩⟩⟩⟩⟩⟩⟩⟩⟩
def lw_privs : List (MethodName × Nat) := lw_privs_1 ++ (lw_privs_2 ++ (lw_privs_3 ++ (lw_privs_4 ++ (lw_privs_5))))
def lw_tbl : List Cond := k2_sels lw_privs ++ tables_1
theorem lw_privs_ok : ∀ q ∈ lw_privs, lw_okq q := by
  show ∀ q ∈ lw_privs_1 ++ (lw_privs_2 ++ (lw_privs_3 ++ (lw_privs_4 ++ (lw_privs_5)))), lw_okq q
  exact List.forall_mem_append.mpr ⟨lw_r1, List.forall_mem_append.mpr ⟨lw_r2, List.forall_mem_append.mpr ⟨lw_r3, List.forall_mem_append.mpr ⟨lw_r4, lw_r5⟩⟩⟩⟩
def RX0 : String := "PrintSpooler$Document"
def TX0 : u_T := fun k => match k with
  | 0 => ("PrintSpooler$Document", "pages", "I", true)
  | 1 => ("PrintSpooler$Document", "size", "I", true)
  | 2 => ("PrintSpooler$Document", "base", "I", true)
  | 3 => ("PrintSpooler$Document", "step", "I", true)
  | _ => ("PrintSpooler$Document", "span", "I", true)
def tyX0 : Nat → FieldType := fun k => match k with
  | 0 => .int
  | 1 => .int
  | 2 => .int
  | 3 => .int
  | _ => .int
abbrev wsX00 : List Cond := u_ws RX0 TX0 5
theorem nmX0 : ∀ a, a < 5 → ∀ b, b < 5 → a ≠ b → (TX0 a).2.1 ≠ (TX0 b).2.1 := by decide +kernel
theorem tyX0_ok : ∀ k, k < 5 → parseFieldDescriptor (TX0 k).2.2.1 = some (tyX0 k) := by decide +kernel
abbrev cX0_init : ByteArray := prog_2_method_1_code
def yX0_init : MethodName := ⟨RX0, "<init>", "(IIIII)V"⟩
abbrev cX0_weightOf : ByteArray := prog_2_method_2_code
def yX0_weightOf : MethodName := ⟨RX0, "weightOf", "(I)I"⟩
def RX1 : String := "PrintSpooler$Job"
def TX1 : u_T := fun k => match k with
  | 0 => ("PrintSpooler$Job", "number", "I", true)
  | 1 => ("PrintSpooler$Job", "plan", "LPrintSpooler$Plan;", false)
  | 2 => ("PrintSpooler$Job", "priority", "I", false)
  | 3 => ("PrintSpooler$Job", "state", "I", false)
  | 4 => ("PrintSpooler$Job", "next", "I", false)
  | 5 => ("PrintSpooler$Job", "since", "I", false)
  | _ => ("PrintSpooler$Job", "request", "I", false)
def tyX1 : Nat → FieldType := fun k => match k with
  | 0 => .int
  | 1 => .object "PrintSpooler$Plan"
  | 2 => .int
  | 3 => .int
  | 4 => .int
  | 5 => .int
  | _ => .int
abbrev wsX10 : List Cond := u_ws RX1 TX1 7
theorem nmX1 : ∀ a, a < 7 → ∀ b, b < 7 → a ≠ b → (TX1 a).2.1 ≠ (TX1 b).2.1 := by decide +kernel
theorem tyX1_ok : ∀ k, k < 7 → parseFieldDescriptor (TX1 k).2.2.1 = some (tyX1 k) := by decide +kernel
abbrev cX1_init : ByteArray := prog_3_method_1_code
def yX1_init : MethodName := ⟨RX1, "<init>", "(ILPrintSpooler$Plan;)V"⟩
abbrev cX1_beginLife : ByteArray := prog_3_method_2_code
def yX1_beginLife : MethodName := ⟨RX1, "beginLife", "(LPrintSpooler$Plan;II)V"⟩
abbrev cX1_awaitFrom : ByteArray := prog_3_method_3_code
def yX1_awaitFrom : MethodName := ⟨RX1, "awaitFrom", "(I)V"⟩
abbrev cX1_isOver : ByteArray := prog_3_method_4_code
def yX1_isOver : MethodName := ⟨RX1, "isOver", "()Z"⟩
abbrev cX1_rankAt : ByteArray := prog_3_method_5_code
def yX1_rankAt : MethodName := ⟨RX1, "rankAt", "(II)I"⟩
abbrev cX1_demand : ByteArray := prog_3_method_6_code
def yX1_demand : MethodName := ⟨RX1, "demand", "(I)V"⟩
abbrev cX1_stopPrinting : ByteArray := prog_3_method_7_code
def yX1_stopPrinting : MethodName := ⟨RX1, "stopPrinting", "(I)V"⟩
abbrev cX1_copyFrom : ByteArray := prog_3_method_8_code
def yX1_copyFrom : MethodName := ⟨RX1, "copyFrom", "(LPrintSpooler$Job;)V"⟩
def RX2 : String := "PrintSpooler$Journal"
def TX2 : u_T := fun k => match k with
  | 0 => ("PrintSpooler$Journal", "rows", "[I", true)
  | _ => ("PrintSpooler$Journal", "total", "I", false)
def tyX2 : Nat → FieldType := fun k => match k with
  | 0 => .array .int
  | _ => .int
abbrev wsX20 : List Cond := u_ws RX2 TX2 2
theorem nmX2 : ∀ a, a < 2 → ∀ b, b < 2 → a ≠ b → (TX2 a).2.1 ≠ (TX2 b).2.1 := by decide +kernel
theorem tyX2_ok : ∀ k, k < 2 → parseFieldDescriptor (TX2 k).2.2.1 = some (tyX2 k) := by decide +kernel
abbrev cX2_init : ByteArray := prog_4_method_1_code
def yX2_init : MethodName := ⟨RX2, "<init>", "()V"⟩
abbrev cX2_write : ByteArray := prog_4_method_2_code
def yX2_write : MethodName := ⟨RX2, "write", "(IIII)V"⟩
abbrev cX2_has : ByteArray := prog_4_method_3_code
def yX2_has : MethodName := ⟨RX2, "has", "(I)Z"⟩
abbrev cX2_read : ByteArray := prog_4_method_4_code
def yX2_read : MethodName := ⟨RX2, "read", "(II)I"⟩
abbrev cX2_put : ByteArray := prog_4_method_5_code
def yX2_put : MethodName := ⟨RX2, "put", "(III)V"⟩
abbrev cX2_cellOf : ByteArray := prog_4_method_6_code
def yX2_cellOf : MethodName := ⟨RX2, "cellOf", "(II)I"⟩
abbrev cX2_copyFrom : ByteArray := prog_4_method_7_code
def yX2_copyFrom : MethodName := ⟨RX2, "copyFrom", "(LPrintSpooler$Journal;)V"⟩
def RX3 : String := "PrintSpooler$PageList"
def TX3 : u_T := fun k => match k with
  | 0 => ("PrintSpooler$PageList", "pages", "[I", true)
  | 1 => ("PrintSpooler$PageList", "size", "I", false)
  | _ => ("PrintSpooler$PageList", "overfull", "Z", false)
def tyX3 : Nat → FieldType := fun k => match k with
  | 0 => .array .int
  | 1 => .int
  | _ => .boolean
abbrev wsX30 : List Cond := u_ws RX3 TX3 3
theorem nmX3 : ∀ a, a < 3 → ∀ b, b < 3 → a ≠ b → (TX3 a).2.1 ≠ (TX3 b).2.1 := by decide +kernel
theorem tyX3_ok : ∀ k, k < 3 → parseFieldDescriptor (TX3 k).2.2.1 = some (tyX3 k) := by decide +kernel
abbrev cX3_init : ByteArray := prog_5_method_1_code
def yX3_init : MethodName := ⟨RX3, "<init>", "()V"⟩
abbrev cX3_empty : ByteArray := prog_5_method_2_code
def yX3_empty : MethodName := ⟨RX3, "empty", "()V"⟩
abbrev cX3_has : ByteArray := prog_5_method_3_code
def yX3_has : MethodName := ⟨RX3, "has", "(I)Z"⟩
abbrev cX3_pageAt : ByteArray := prog_5_method_4_code
def yX3_pageAt : MethodName := ⟨RX3, "pageAt", "(I)I"⟩
abbrev cX3_copyOfPages : ByteArray := prog_5_method_5_code
def yX3_copyOfPages : MethodName := ⟨RX3, "copyOfPages", "()[I"⟩
abbrev cX3_appendSpan : ByteArray := prog_5_method_6_code
def yX3_appendSpan : MethodName := ⟨RX3, "appendSpan", "(IIII)V"⟩
abbrev cX3_appendIf : ByteArray := prog_5_method_7_code
def yX3_appendIf : MethodName := ⟨RX3, "appendIf", "(II)V"⟩
abbrev cX3_removeSpan : ByteArray := prog_5_method_8_code
def yX3_removeSpan : MethodName := ⟨RX3, "removeSpan", "(III)V"⟩
abbrev cX3_matches : ByteArray := prog_5_method_9_code
def yX3_matches : MethodName := ⟨RX3, "matches", "(II)Z"⟩
def RX4 : String := "PrintSpooler$Plan"
def TX4 : u_T := fun k => match k with
  | 0 => ("PrintSpooler$Plan", "paper", "LPrintSpooler$Document;", true)
  | 1 => ("PrintSpooler$Plan", "document", "I", true)
  | 2 => ("PrintSpooler$Plan", "pages", "[I", true)
  | 3 => ("PrintSpooler$Plan", "copies", "I", true)
  | 4 => ("PrintSpooler$Plan", "collate", "I", true)
  | 5 => ("PrintSpooler$Plan", "sides", "I", true)
  | 6 => ("PrintSpooler$Plan", "layout", "I", true)
  | 7 => ("PrintSpooler$Plan", "user", "I", true)
  | 8 => ("PrintSpooler$Plan", "booklet", "Z", true)
  | 9 => ("PrintSpooler$Plan", "twoSided", "Z", true)
  | 10 => ("PrintSpooler$Plan", "perSide", "I", true)
  | 11 => ("PrintSpooler$Plan", "sheetsPerCopy", "I", true)
  | _ => ("PrintSpooler$Plan", "loads", "[I", true)
def tyX4 : Nat → FieldType := fun k => match k with
  | 0 => .object "PrintSpooler$Document"
  | 1 => .int
  | 2 => .array .int
  | 3 => .int
  | 4 => .int
  | 5 => .int
  | 6 => .int
  | 7 => .int
  | 8 => .boolean
  | 9 => .boolean
  | 10 => .int
  | 11 => .int
  | _ => .array .int
abbrev wsX40 : List Cond := u_ws RX4 TX4 13
theorem nmX4 : ∀ a, a < 13 → ∀ b, b < 13 → a ≠ b → (TX4 a).2.1 ≠ (TX4 b).2.1 := by decide +kernel
theorem tyX4_ok : ∀ k, k < 13 → parseFieldDescriptor (TX4 k).2.2.1 = some (tyX4 k) := by decide +kernel
abbrev cX4_init : ByteArray := prog_6_method_1_code
def yX4_init : MethodName := ⟨RX4, "<init>", "(LPrintSpooler$Document;I[ILPrintSpooler$Spool;)V"⟩
abbrev cX4_sheets : ByteArray := prog_6_method_2_code
def yX4_sheets : MethodName := ⟨RX4, "sheets", "()I"⟩
abbrev cX4_hasSheet : ByteArray := prog_6_method_3_code
def yX4_hasSheet : MethodName := ⟨RX4, "hasSheet", "(I)Z"⟩
abbrev cX4_hasSide : ByteArray := prog_6_method_4_code
def yX4_hasSide : MethodName := ⟨RX4, "hasSide", "(I)Z"⟩
abbrev cX4_sheetOfCopy : ByteArray := prog_6_method_5_code
def yX4_sheetOfCopy : MethodName := ⟨RX4, "sheetOfCopy", "(I)I"⟩
abbrev cX4_pageOn : ByteArray := prog_6_method_6_code
def yX4_pageOn : MethodName := ⟨RX4, "pageOn", "(III)I"⟩
abbrev cX4_indexOn : ByteArray := prog_6_method_7_code
def yX4_indexOn : MethodName := ⟨RX4, "indexOn", "(III)I"⟩
abbrev cX4_placeOf : ByteArray := prog_6_method_8_code
def yX4_placeOf : MethodName := ⟨RX4, "placeOf", "(II)I"⟩
abbrev cX4_turnsBacks : ByteArray := prog_6_method_9_code
def yX4_turnsBacks : MethodName := ⟨RX4, "turnsBacks", "()Z"⟩
abbrev cX4_blankPositions : ByteArray := prog_6_method_10_code
def yX4_blankPositions : MethodName := ⟨RX4, "blankPositions", "()I"⟩
abbrev cX4_loadOn : ByteArray := prog_6_method_11_code
def yX4_loadOn : MethodName := ⟨RX4, "loadOn", "(II)I"⟩
abbrev cX4_loadOfPages : ByteArray := prog_6_method_12_code
def yX4_loadOfPages : MethodName := ⟨RX4, "loadOfPages", "(II)I"⟩
def RX5 : String := "PrintSpooler$Printer"
def TX5 : u_T := fun k => match k with
  | 0 => ("PrintSpooler$Printer", "speed", "I", false)
  | 1 => ("PrintSpooler$Printer", "memory", "I", false)
  | 2 => ("PrintSpooler$Printer", "both", "Z", false)
  | 3 => ("PrintSpooler$Printer", "trays", "[I", true)
  | 4 => ("PrintSpooler$Printer", "state", "I", false)
  | 5 => ("PrintSpooler$Printer", "job", "I", false)
  | 6 => ("PrintSpooler$Printer", "remaining", "I", false)
  | _ => ("PrintSpooler$Printer", "lost", "I", false)
def tyX5 : Nat → FieldType := fun k => match k with
  | 0 => .int
  | 1 => .int
  | 2 => .boolean
  | 3 => .array .int
  | 4 => .int
  | 5 => .int
  | 6 => .int
  | _ => .int
abbrev wsX50 : List Cond := u_ws RX5 TX5 8
theorem nmX5 : ∀ a, a < 8 → ∀ b, b < 8 → a ≠ b → (TX5 a).2.1 ≠ (TX5 b).2.1 := by decide +kernel
theorem tyX5_ok : ∀ k, k < 8 → parseFieldDescriptor (TX5 k).2.2.1 = some (tyX5 k) := by decide +kernel
abbrev cX5_init : ByteArray := prog_7_method_1_code
def yX5_init : MethodName := ⟨RX5, "<init>", "()V"⟩
abbrev cX5_beginLife : ByteArray := prog_7_method_2_code
def yX5_beginLife : MethodName := ⟨RX5, "beginLife", "(IIZ)V"⟩
abbrev cX5_sheetsIn : ByteArray := prog_7_method_3_code
def yX5_sheetsIn : MethodName := ⟨RX5, "sheetsIn", "(I)I"⟩
abbrev cX5_changeTray : ByteArray := prog_7_method_4_code
def yX5_changeTray : MethodName := ⟨RX5, "changeTray", "(II)V"⟩
abbrev cX5_isCoarse : ByteArray := prog_7_method_5_code
def yX5_isCoarse : MethodName := ⟨RX5, "isCoarse", "(I)Z"⟩
abbrev cX5_bandsFor : ByteArray := prog_7_method_6_code
def yX5_bandsFor : MethodName := ⟨RX5, "bandsFor", "(I)I"⟩
abbrev cX5_ticksFor : ByteArray := prog_7_method_7_code
def yX5_ticksFor : MethodName := ⟨RX5, "ticksFor", "(I)I"⟩
abbrev cX5_copyFrom : ByteArray := prog_7_method_8_code
def yX5_copyFrom : MethodName := ⟨RX5, "copyFrom", "(LPrintSpooler$Printer;)V"⟩
def RX6 : String := "PrintSpooler$RangeText"
def TX6 : u_T := fun k => match k with
  | 0 => ("PrintSpooler$RangeText", "characters", "[I", true)
  | 1 => ("PrintSpooler$RangeText", "length", "I", false)
  | _ => ("PrintSpooler$RangeText", "reading", "I", false)
def tyX6 : Nat → FieldType := fun k => match k with
  | 0 => .array .int
  | 1 => .int
  | _ => .int
abbrev wsX60 : List Cond := u_ws RX6 TX6 3
theorem nmX6 : ∀ a, a < 3 → ∀ b, b < 3 → a ≠ b → (TX6 a).2.1 ≠ (TX6 b).2.1 := by decide +kernel
theorem tyX6_ok : ∀ k, k < 3 → parseFieldDescriptor (TX6 k).2.2.1 = some (tyX6 k) := by decide +kernel
abbrev cX6_init : ByteArray := prog_8_method_1_code
def yX6_init : MethodName := ⟨RX6, "<init>", "()V"⟩
abbrev cX6_append : ByteArray := prog_8_method_2_code
def yX6_append : MethodName := ⟨RX6, "append", "(I)Z"⟩
abbrev cX6_firstFault : ByteArray := prog_8_method_3_code
def yX6_firstFault : MethodName := ⟨RX6, "firstFault", "()I"⟩
abbrev cX6_expand : ByteArray := prog_8_method_4_code
def yX6_expand : MethodName := ⟨RX6, "expand", "(LPrintSpooler$PageList;I)V"⟩
abbrev cX6_expandItem : ByteArray := prog_8_method_5_code
def yX6_expandItem : MethodName := ⟨RX6, "expandItem", "(LPrintSpooler$PageList;I)V"⟩
abbrev cX6_skip : ByteArray := prog_8_method_6_code
def yX6_skip : MethodName := ⟨RX6, "skip", "(I)Z"⟩
abbrev cX6_readNumber : ByteArray := prog_8_method_7_code
def yX6_readNumber : MethodName := ⟨RX6, "readNumber", "()I"⟩
abbrev cX6_characterAt : ByteArray := prog_8_method_8_code
def yX6_characterAt : MethodName := ⟨RX6, "characterAt", "(I)I"⟩
abbrev cX6_isDigit : ByteArray := prog_8_method_9_code
def yX6_isDigit : MethodName := ⟨RX6, "isDigit", "(I)Z"⟩
abbrev cX6_stateAfter : ByteArray := prog_8_method_10_code
def yX6_stateAfter : MethodName := ⟨RX6, "stateAfter", "(II)I"⟩
abbrev cX6_spanBegins : ByteArray := prog_8_method_11_code
def yX6_spanBegins : MethodName := ⟨RX6, "spanBegins", "(I)I"⟩
abbrev cX6_spanEnds : ByteArray := prog_8_method_12_code
def yX6_spanEnds : MethodName := ⟨RX6, "spanEnds", "(I)I"⟩
abbrev cX6_copyFrom : ByteArray := prog_8_method_13_code
def yX6_copyFrom : MethodName := ⟨RX6, "copyFrom", "(LPrintSpooler$RangeText;)V"⟩
def RX7 : String := "PrintSpooler$ShortestText"
def TX7 : u_T := fun k => match k with
  | 0 => ("PrintSpooler$ShortestText", "lengths", "[I", true)
  | 1 => ("PrintSpooler$ShortestText", "items", "[I", true)
  | 2 => ("PrintSpooler$ShortestText", "takes", "[I", true)
  | 3 => ("PrintSpooler$ShortestText", "characters", "[I", true)
  | _ => ("PrintSpooler$ShortestText", "size", "I", false)
def tyX7 : Nat → FieldType := fun k => match k with
  | 0 => .array .int
  | 1 => .array .int
  | 2 => .array .int
  | 3 => .array .int
  | _ => .int
abbrev wsX70 : List Cond := u_ws RX7 TX7 5
theorem nmX7 : ∀ a, a < 5 → ∀ b, b < 5 → a ≠ b → (TX7 a).2.1 ≠ (TX7 b).2.1 := by decide +kernel
theorem tyX7_ok : ∀ k, k < 5 → parseFieldDescriptor (TX7 k).2.2.1 = some (tyX7 k) := by decide +kernel
abbrev cX7_init : ByteArray := prog_9_method_1_code
def yX7_init : MethodName := ⟨RX7, "<init>", "()V"⟩
abbrev cX7_describe : ByteArray := prog_9_method_2_code
def yX7_describe : MethodName := ⟨RX7, "describe", "([I)V"⟩
abbrev cX7_itemCount : ByteArray := prog_9_method_3_code
def yX7_itemCount : MethodName := ⟨RX7, "itemCount", "()I"⟩
abbrev cX7_has : ByteArray := prog_9_method_4_code
def yX7_has : MethodName := ⟨RX7, "has", "(I)Z"⟩
abbrev cX7_characterAt : ByteArray := prog_9_method_5_code
def yX7_characterAt : MethodName := ⟨RX7, "characterAt", "(I)I"⟩
abbrev cX7_chooseFirstItem : ByteArray := prog_9_method_6_code
def yX7_chooseFirstItem : MethodName := ⟨RX7, "chooseFirstItem", "([IIII)V"⟩
abbrev cX7_compare : ByteArray := prog_9_method_7_code
def yX7_compare : MethodName := ⟨RX7, "compare", "([IIII)V"⟩
abbrev cX7_itemLength : ByteArray := prog_9_method_8_code
def yX7_itemLength : MethodName := ⟨RX7, "itemLength", "(III)I"⟩
abbrev cX7_isSpaced : ByteArray := prog_9_method_9_code
def yX7_isSpaced : MethodName := ⟨RX7, "isSpaced", "(III)Z"⟩
abbrev cX7_digits : ByteArray := prog_9_method_10_code
def yX7_digits : MethodName := ⟨RX7, "digits", "(I)I"⟩
abbrev cX7_write : ByteArray := prog_9_method_11_code
def yX7_write : MethodName := ⟨RX7, "write", "([II)V"⟩
abbrev cX7_writeItem : ByteArray := prog_9_method_12_code
def yX7_writeItem : MethodName := ⟨RX7, "writeItem", "(III)V"⟩
abbrev cX7_putNumber : ByteArray := prog_9_method_13_code
def yX7_putNumber : MethodName := ⟨RX7, "putNumber", "(I)V"⟩
abbrev cX7_put : ByteArray := prog_9_method_14_code
def yX7_put : MethodName := ⟨RX7, "put", "(I)V"⟩
def RX8 : String := "PrintSpooler$Spool"
def TX8 : u_T := fun k => match k with
  | 0 => ("PrintSpooler$Spool", "documents", "[LPrintSpooler$Document;", true)
  | 1 => ("PrintSpooler$Spool", "documentCount", "I", false)
  | 2 => ("PrintSpooler$Spool", "jobs", "[LPrintSpooler$Job;", true)
  | 3 => ("PrintSpooler$Spool", "jobCount", "I", false)
  | 4 => ("PrintSpooler$Spool", "printers", "[LPrintSpooler$Printer;", true)
  | 5 => ("PrintSpooler$Spool", "printerCount", "I", false)
  | 6 => ("PrintSpooler$Spool", "text", "LPrintSpooler$RangeText;", true)
  | 7 => ("PrintSpooler$Spool", "settings", "[I", true)
  | 8 => ("PrintSpooler$Spool", "quotas", "[I", true)
  | 9 => ("PrintSpooler$Spool", "printedBy", "[I", true)
  | 10 => ("PrintSpooler$Spool", "journal", "LPrintSpooler$Journal;", true)
  | 11 => ("PrintSpooler$Spool", "doneOrder", "[I", true)
  | 12 => ("PrintSpooler$Spool", "doneCount", "I", false)
  | 13 => ("PrintSpooler$Spool", "aging", "I", false)
  | 14 => ("PrintSpooler$Spool", "margin", "I", false)
  | 15 => ("PrintSpooler$Spool", "time", "I", false)
  | _ => ("PrintSpooler$Spool", "isSaved", "Z", false)
def tyX8 : Nat → FieldType := fun k => match k with
  | 0 => .array (.object "PrintSpooler$Document")
  | 1 => .int
  | 2 => .array (.object "PrintSpooler$Job")
  | 3 => .int
  | 4 => .array (.object "PrintSpooler$Printer")
  | 5 => .int
  | 6 => .object "PrintSpooler$RangeText"
  | 7 => .array .int
  | 8 => .array .int
  | 9 => .array .int
  | 10 => .object "PrintSpooler$Journal"
  | 11 => .array .int
  | 12 => .int
  | 13 => .int
  | 14 => .int
  | 15 => .int
  | _ => .boolean
abbrev wsX80 : List Cond := u_ws RX8 TX8 17
theorem nmX8 : ∀ a, a < 17 → ∀ b, b < 17 → a ≠ b → (TX8 a).2.1 ≠ (TX8 b).2.1 := by decide +kernel
theorem tyX8_ok : ∀ k, k < 17 → parseFieldDescriptor (TX8 k).2.2.1 = some (tyX8 k) := by decide +kernel
abbrev cX8_init : ByteArray := prog_10_method_1_code
def yX8_init : MethodName := ⟨RX8, "<init>", "()V"⟩
abbrev cX8_documentAt : ByteArray := prog_10_method_2_code
def yX8_documentAt : MethodName := ⟨RX8, "documentAt", "(I)LPrintSpooler$Document;"⟩
abbrev cX8_jobAt : ByteArray := prog_10_method_3_code
def yX8_jobAt : MethodName := ⟨RX8, "jobAt", "(I)LPrintSpooler$Job;"⟩
abbrev cX8_printerAt : ByteArray := prog_10_method_4_code
def yX8_printerAt : MethodName := ⟨RX8, "printerAt", "(I)LPrintSpooler$Printer;"⟩
abbrev cX8_keepDocument : ByteArray := prog_10_method_5_code
def yX8_keepDocument : MethodName := ⟨RX8, "keepDocument", "(LPrintSpooler$Document;)I"⟩
abbrev cX8_keepJob : ByteArray := prog_10_method_6_code
def yX8_keepJob : MethodName := ⟨RX8, "keepJob", "(LPrintSpooler$Plan;)I"⟩
abbrev cX8_keepPrinter : ByteArray := prog_10_method_7_code
def yX8_keepPrinter : MethodName := ⟨RX8, "keepPrinter", "(IIZ)I"⟩
abbrev cX8_settingAt : ByteArray := prog_10_method_8_code
def yX8_settingAt : MethodName := ⟨RX8, "settingAt", "(I)I"⟩
abbrev cX8_changeSetting : ByteArray := prog_10_method_9_code
def yX8_changeSetting : MethodName := ⟨RX8, "changeSetting", "(II)V"⟩
abbrev cX8_quotaOf : ByteArray := prog_10_method_10_code
def yX8_quotaOf : MethodName := ⟨RX8, "quotaOf", "(I)I"⟩
abbrev cX8_changeQuota : ByteArray := prog_10_method_11_code
def yX8_changeQuota : MethodName := ⟨RX8, "changeQuota", "(II)V"⟩
abbrev cX8_printedFor : ByteArray := prog_10_method_12_code
def yX8_printedFor : MethodName := ⟨RX8, "printedFor", "(I)I"⟩
abbrev cX8_waitingJobs : ByteArray := prog_10_method_13_code
def yX8_waitingJobs : MethodName := ⟨RX8, "waitingJobs", "()I"⟩
abbrev cX8_loseSheet : ByteArray := prog_10_method_14_code
def yX8_loseSheet : MethodName := ⟨RX8, "loseSheet", "(LPrintSpooler$Printer;)V"⟩
abbrev cX8_pass : ByteArray := prog_10_method_15_code
def yX8_pass : MethodName := ⟨RX8, "pass", "(I)V"⟩
abbrev cX8_ticksUntilDone : ByteArray := prog_10_method_16_code
def yX8_ticksUntilDone : MethodName := ⟨RX8, "ticksUntilDone", "(II)I"⟩
abbrev cX8_jobFinishedAs : ByteArray := prog_10_method_17_code
def yX8_jobFinishedAs : MethodName := ⟨RX8, "jobFinishedAs", "(II)I"⟩
abbrev cX8_passTick : ByteArray := prog_10_method_18_code
def yX8_passTick : MethodName := ⟨RX8, "passTick", "()V"⟩
abbrev cX8_skipQuietTicks : ByteArray := prog_10_method_19_code
def yX8_skipQuietTicks : MethodName := ⟨RX8, "skipQuietTicks", "(I)I"⟩
abbrev cX8_endSheet : ByteArray := prog_10_method_20_code
def yX8_endSheet : MethodName := ⟨RX8, "endSheet", "(ILPrintSpooler$Printer;)V"⟩
abbrev cX8_countFor : ByteArray := prog_10_method_21_code
def yX8_countFor : MethodName := ⟨RX8, "countFor", "(I)V"⟩
abbrev cX8_markDone : ByteArray := prog_10_method_22_code
def yX8_markDone : MethodName := ⟨RX8, "markDone", "(LPrintSpooler$Job;)V"⟩
abbrev cX8_isOutranked : ByteArray := prog_10_method_23_code
def yX8_isOutranked : MethodName := ⟨RX8, "isOutranked", "(LPrintSpooler$Job;LPrintSpooler$Job;)Z"⟩
abbrev cX8_beginSheet : ByteArray := prog_10_method_24_code
def yX8_beginSheet : MethodName := ⟨RX8, "beginSheet", "(LPrintSpooler$Printer;LPrintSpooler$Job;)V"⟩
abbrev cX8_bestFor : ByteArray := prog_10_method_25_code
def yX8_bestFor : MethodName := ⟨RX8, "bestFor", "(LPrintSpooler$Printer;)LPrintSpooler$Job;"⟩
abbrev cX8_isPrintable : ByteArray := prog_10_method_26_code
def yX8_isPrintable : MethodName := ⟨RX8, "isPrintable", "(LPrintSpooler$Printer;LPrintSpooler$Job;)Z"⟩
abbrev cX8_hasSupply : ByteArray := prog_10_method_27_code
def yX8_hasSupply : MethodName := ⟨RX8, "hasSupply", "(LPrintSpooler$Printer;LPrintSpooler$Plan;)Z"⟩
abbrev cX8_copyFrom : ByteArray := prog_10_method_28_code
def yX8_copyFrom : MethodName := ⟨RX8, "copyFrom", "(LPrintSpooler$Spool;)V"⟩
abbrev cX8_copyJobs : ByteArray := prog_10_method_29_code
def yX8_copyJobs : MethodName := ⟨RX8, "copyJobs", "(LPrintSpooler$Spool;)V"⟩
abbrev cX8_copyPrinters : ByteArray := prog_10_method_30_code
def yX8_copyPrinters : MethodName := ⟨RX8, "copyPrinters", "(LPrintSpooler$Spool;)V"⟩
def RX9 : String := "PrintSpooler"
def TX9 : u_T := fun k => match k with
  | 0 => ("PrintSpooler", "spool", "LPrintSpooler$Spool;", true)
  | 1 => ("PrintSpooler", "trial", "LPrintSpooler$Spool;", true)
  | 2 => ("PrintSpooler", "slots", "[LPrintSpooler$Spool;", true)
  | 3 => ("PrintSpooler", "gathered", "LPrintSpooler$PageList;", true)
  | _ => ("PrintSpooler", "shortest", "LPrintSpooler$ShortestText;", true)
def tyX9 : Nat → FieldType := fun k => match k with
  | 0 => .object "PrintSpooler$Spool"
  | 1 => .object "PrintSpooler$Spool"
  | 2 => .array (.object "PrintSpooler$Spool")
  | 3 => .object "PrintSpooler$PageList"
  | _ => .object "PrintSpooler$ShortestText"
abbrev wsX90 : List Cond := u_ws RX9 TX9 5
theorem nmX9 : ∀ a, a < 5 → ∀ b, b < 5 → a ≠ b → (TX9 a).2.1 ≠ (TX9 b).2.1 := by decide +kernel
theorem tyX9_ok : ∀ k, k < 5 → parseFieldDescriptor (TX9 k).2.2.1 = some (tyX9 k) := by decide +kernel
abbrev cX9_init : ByteArray := prog_1_method_1_code
def yX9_init : MethodName := ⟨RX9, "<init>", "()V"⟩
abbrev cX9_addDocument : ByteArray := prog_1_method_2_code
def yX9_addDocument : MethodName := ⟨RX9, "addDocument", "(IIIII)I"⟩
abbrev cX9_weight : ByteArray := prog_1_method_3_code
def yX9_weight : MethodName := ⟨RX9, "weight", "(II)I"⟩
abbrev cX9_say : ByteArray := prog_1_method_4_code
def yX9_say : MethodName := ⟨RX9, "say", "(I)I"⟩
abbrev cX9_wipe : ByteArray := prog_1_method_5_code
def yX9_wipe : MethodName := ⟨RX9, "wipe", "()I"⟩
abbrev cX9_fault : ByteArray := prog_1_method_6_code
def yX9_fault : MethodName := ⟨RX9, "fault", "()I"⟩
abbrev cX9_listed : ByteArray := prog_1_method_7_code
def yX9_listed : MethodName := ⟨RX9, "listed", "(II)I"⟩
abbrev cX9_set : ByteArray := prog_1_method_8_code
def yX9_set : MethodName := ⟨RX9, "set", "(II)I"⟩
abbrev cX9_submit : ByteArray := prog_1_method_9_code
def yX9_submit : MethodName := ⟨RX9, "submit", "(I)I"⟩
abbrev cX9_about : ByteArray := prog_1_method_10_code
def yX9_about : MethodName := ⟨RX9, "about", "(II)I"⟩
abbrev cX9_page : ByteArray := prog_1_method_11_code
def yX9_page : MethodName := ⟨RX9, "page", "(IIII)I"⟩
abbrev cX9_turned : ByteArray := prog_1_method_12_code
def yX9_turned : MethodName := ⟨RX9, "turned", "(II)I"⟩
abbrev cX9_blanks : ByteArray := prog_1_method_13_code
def yX9_blanks : MethodName := ⟨RX9, "blanks", "(I)I"⟩
abbrev cX9_where : ByteArray := prog_1_method_14_code
def yX9_where : MethodName := ⟨RX9, "where", "(III)I"⟩
abbrev cX9_canonical : ByteArray := prog_1_method_15_code
def yX9_canonical : MethodName := ⟨RX9, "canonical", "(II)I"⟩
abbrev cX9_addPrinter : ByteArray := prog_1_method_16_code
def yX9_addPrinter : MethodName := ⟨RX9, "addPrinter", "(III)I"⟩
abbrev cX9_fill : ByteArray := prog_1_method_17_code
def yX9_fill : MethodName := ⟨RX9, "fill", "(III)I"⟩
abbrev cX9_printer : ByteArray := prog_1_method_18_code
def yX9_printer : MethodName := ⟨RX9, "printer", "(II)I"⟩
abbrev cX9_side : ByteArray := prog_1_method_19_code
def yX9_side : MethodName := ⟨RX9, "side", "(IIIII)I"⟩
abbrev cX9_duration : ByteArray := prog_1_method_20_code
def yX9_duration : MethodName := ⟨RX9, "duration", "(II)I"⟩
abbrev cX9_setRules : ByteArray := prog_1_method_21_code
def yX9_setRules : MethodName := ⟨RX9, "setRules", "(II)I"⟩
abbrev cX9_setQuota : ByteArray := prog_1_method_22_code
def yX9_setQuota : MethodName := ⟨RX9, "setQuota", "(II)I"⟩
abbrev cX9_promote : ByteArray := prog_1_method_23_code
def yX9_promote : MethodName := ⟨RX9, "promote", "(II)I"⟩
abbrev cX9_hold : ByteArray := prog_1_method_24_code
def yX9_hold : MethodName := ⟨RX9, "hold", "(I)I"⟩
abbrev cX9_release : ByteArray := prog_1_method_25_code
def yX9_release : MethodName := ⟨RX9, "release", "(I)I"⟩
abbrev cX9_cancel : ByteArray := prog_1_method_26_code
def yX9_cancel : MethodName := ⟨RX9, "cancel", "(I)I"⟩
abbrev cX9_jam : ByteArray := prog_1_method_27_code
def yX9_jam : MethodName := ⟨RX9, "jam", "(I)I"⟩
abbrev cX9_clear : ByteArray := prog_1_method_28_code
def yX9_clear : MethodName := ⟨RX9, "clear", "(I)I"⟩
abbrev cX9_advance : ByteArray := prog_1_method_29_code
def yX9_advance : MethodName := ⟨RX9, "advance", "(I)I"⟩
abbrev cX9_log : ByteArray := prog_1_method_30_code
def yX9_log : MethodName := ⟨RX9, "log", "(II)I"⟩
abbrev cX9_printed : ByteArray := prog_1_method_31_code
def yX9_printed : MethodName := ⟨RX9, "printed", "(I)I"⟩
abbrev cX9_finish : ByteArray := prog_1_method_32_code
def yX9_finish : MethodName := ⟨RX9, "finish", "(II)I"⟩
abbrev cX9_urgency : ByteArray := prog_1_method_33_code
def yX9_urgency : MethodName := ⟨RX9, "urgency", "(II)I"⟩
abbrev cX9_finisher : ByteArray := prog_1_method_34_code
def yX9_finisher : MethodName := ⟨RX9, "finisher", "(II)I"⟩
abbrev cX9_count : ByteArray := prog_1_method_35_code
def yX9_count : MethodName := ⟨RX9, "count", "(I)I"⟩
abbrev cX9_save : ByteArray := prog_1_method_36_code
def yX9_save : MethodName := ⟨RX9, "save", "(I)I"⟩
abbrev cX9_restore : ByteArray := prog_1_method_37_code
def yX9_restore : MethodName := ⟨RX9, "restore", "(I)I"⟩
abbrev cX9_within : ByteArray := prog_1_method_38_code
def yX9_within : MethodName := ⟨RX9, "within", "(III)Z"⟩
abbrev cX9_isAllowed : ByteArray := prog_1_method_39_code
def yX9_isAllowed : MethodName := ⟨RX9, "isAllowed", "(II)Z"⟩
abbrev cX9_slotAt : ByteArray := prog_1_method_40_code
def yX9_slotAt : MethodName := ⟨RX9, "slotAt", "(I)LPrintSpooler$Spool;"⟩
abbrev cX9_gather : ByteArray := prog_1_method_41_code
def yX9_gather : MethodName := ⟨RX9, "gather", "(LPrintSpooler$Document;)I"⟩
def RX10 : String := "PrintSpoolerModel"
def TX10 : u_T := fun k => match k with
  | 0 => ("PrintSpoolerModel", "at", "[I", true)
  | 1 => ("PrintSpoolerModel", "aside", "[I", true)
  | 2 => ("PrintSpoolerModel", "lists", "[I", true)
  | 3 => ("PrintSpoolerModel", "slots", "[I", true)
  | 4 => ("PrintSpoolerModel", "slotLists", "[I", true)
  | 5 => ("PrintSpoolerModel", "isSaved", "[Z", true)
  | 6 => ("PrintSpoolerModel", "place", "I", false)
  | 7 => ("PrintSpoolerModel", "isBroken", "Z", false)
  | 8 => ("PrintSpoolerModel", "takesOut", "Z", false)
  | 9 => ("PrintSpoolerModel", "first", "I", false)
  | 10 => ("PrintSpoolerModel", "last", "I", false)
  | 11 => ("PrintSpoolerModel", "half", "I", false)
  | 12 => ("PrintSpoolerModel", "work", "[I", true)
  | 13 => ("PrintSpoolerModel", "worked", "I", false)
  | 14 => ("PrintSpoolerModel", "costs", "[I", true)
  | 15 => ("PrintSpoolerModel", "items", "[I", true)
  | 16 => ("PrintSpoolerModel", "takes", "[I", true)
  | 17 => ("PrintSpoolerModel", "load", "I", false)
  | 18 => ("PrintSpoolerModel", "bands", "I", false)
  | 19 => ("PrintSpoolerModel", "isCoarse", "Z", false)
  | 20 => ("PrintSpoolerModel", "finished", "[I", true)
  | _ => ("PrintSpoolerModel", "finishes", "I", false)
def tyX10 : Nat → FieldType := fun k => match k with
  | 0 => .array .int
  | 1 => .array .int
  | 2 => .array .int
  | 3 => .array .int
  | 4 => .array .int
  | 5 => .array .boolean
  | 6 => .int
  | 7 => .boolean
  | 8 => .boolean
  | 9 => .int
  | 10 => .int
  | 11 => .int
  | 12 => .array .int
  | 13 => .int
  | 14 => .array .int
  | 15 => .array .int
  | 16 => .array .int
  | 17 => .int
  | 18 => .int
  | 19 => .boolean
  | 20 => .array .int
  | _ => .int
abbrev wsX100 : List Cond := u_ws RX10 TX10 22
theorem nmX10 : ∀ a, a < 22 → ∀ b, b < 22 → a ≠ b → (TX10 a).2.1 ≠ (TX10 b).2.1 := by decide +kernel
theorem tyX10_ok : ∀ k, k < 22 → parseFieldDescriptor (TX10 k).2.2.1 = some (tyX10 k) := by decide +kernel
abbrev cX10_init : ByteArray := prog_12_method_1_code
def yX10_init : MethodName := ⟨RX10, "<init>", "()V"⟩
abbrev cX10_in : ByteArray := prog_12_method_2_code
def yX10_in : MethodName := ⟨RX10, "in", "(III)Z"⟩
abbrev cX10_isDocument : ByteArray := prog_12_method_3_code
def yX10_isDocument : MethodName := ⟨RX10, "isDocument", "(I)Z"⟩
abbrev cX10_isJob : ByteArray := prog_12_method_4_code
def yX10_isJob : MethodName := ⟨RX10, "isJob", "(I)Z"⟩
abbrev cX10_isPrinter : ByteArray := prog_12_method_5_code
def yX10_isPrinter : MethodName := ⟨RX10, "isPrinter", "(I)Z"⟩
abbrev cX10_isUser : ByteArray := prog_12_method_6_code
def yX10_isUser : MethodName := ⟨RX10, "isUser", "(I)Z"⟩
abbrev cX10_ofDocument : ByteArray := prog_12_method_7_code
def yX10_ofDocument : MethodName := ⟨RX10, "ofDocument", "(II)I"⟩
abbrev cX10_ofJob : ByteArray := prog_12_method_8_code
def yX10_ofJob : MethodName := ⟨RX10, "ofJob", "(II)I"⟩
abbrev cX10_setJob : ByteArray := prog_12_method_9_code
def yX10_setJob : MethodName := ⟨RX10, "setJob", "(III)V"⟩
abbrev cX10_ofPrinter : ByteArray := prog_12_method_10_code
def yX10_ofPrinter : MethodName := ⟨RX10, "ofPrinter", "(II)I"⟩
abbrev cX10_setPrinter : ByteArray := prog_12_method_11_code
def yX10_setPrinter : MethodName := ⟨RX10, "setPrinter", "(III)V"⟩
abbrev cX10_addDocument : ByteArray := prog_12_method_12_code
def yX10_addDocument : MethodName := ⟨RX10, "addDocument", "(IIIII)I"⟩
abbrev cX10_weightOf : ByteArray := prog_12_method_13_code
def yX10_weightOf : MethodName := ⟨RX10, "weightOf", "(II)I"⟩
abbrev cX10_weight : ByteArray := prog_12_method_14_code
def yX10_weight : MethodName := ⟨RX10, "weight", "(II)I"⟩
abbrev cX10_say : ByteArray := prog_12_method_15_code
def yX10_say : MethodName := ⟨RX10, "say", "(I)I"⟩
abbrev cX10_wipe : ByteArray := prog_12_method_16_code
def yX10_wipe : MethodName := ⟨RX10, "wipe", "()I"⟩
abbrev cX10_signAt : ByteArray := prog_12_method_17_code
def yX10_signAt : MethodName := ⟨RX10, "signAt", "(I)I"⟩
abbrev cX10_isDigit : ByteArray := prog_12_method_18_code
def yX10_isDigit : MethodName := ⟨RX10, "isDigit", "(II)Z"⟩
abbrev cX10_isHalf : ByteArray := prog_12_method_19_code
def yX10_isHalf : MethodName := ⟨RX10, "isHalf", "(I)Z"⟩
abbrev cX10_readNumber : ByteArray := prog_12_method_20_code
def yX10_readNumber : MethodName := ⟨RX10, "readNumber", "()I"⟩
abbrev cX10_readItem : ByteArray := prog_12_method_21_code
def yX10_readItem : MethodName := ⟨RX10, "readItem", "()V"⟩
abbrev cX10_faultOf : ByteArray := prog_12_method_22_code
def yX10_faultOf : MethodName := ⟨RX10, "faultOf", "()I"⟩
abbrev cX10_fault : ByteArray := prog_12_method_23_code
def yX10_fault : MethodName := ⟨RX10, "fault", "()I"⟩
abbrev cX10_isPart : ByteArray := prog_12_method_24_code
def yX10_isPart : MethodName := ⟨RX10, "isPart", "(I)Z"⟩
abbrev cX10_isInItem : ByteArray := prog_12_method_25_code
def yX10_isInItem : MethodName := ⟨RX10, "isInItem", "(II)Z"⟩
abbrev cX10_takeOut : ByteArray := prog_12_method_26_code
def yX10_takeOut : MethodName := ⟨RX10, "takeOut", "(I)V"⟩
abbrev cX10_append : ByteArray := prog_12_method_27_code
def yX10_append : MethodName := ⟨RX10, "append", "(II)V"⟩
abbrev cX10_makeList : ByteArray := prog_12_method_28_code
def yX10_makeList : MethodName := ⟨RX10, "makeList", "(I)Z"⟩
abbrev cX10_listed : ByteArray := prog_12_method_29_code
def yX10_listed : MethodName := ⟨RX10, "listed", "(II)I"⟩
abbrev cX10_isValue : ByteArray := prog_12_method_30_code
def yX10_isValue : MethodName := ⟨RX10, "isValue", "(II)Z"⟩
abbrev cX10_set : ByteArray := prog_12_method_31_code
def yX10_set : MethodName := ⟨RX10, "set", "(II)I"⟩
abbrev cX10_submit : ByteArray := prog_12_method_32_code
def yX10_submit : MethodName := ⟨RX10, "submit", "(I)I"⟩
abbrev cX10_isBooklet : ByteArray := prog_12_method_33_code
def yX10_isBooklet : MethodName := ⟨RX10, "isBooklet", "(I)Z"⟩
abbrev cX10_perSide : ByteArray := prog_12_method_34_code
def yX10_perSide : MethodName := ⟨RX10, "perSide", "(I)I"⟩
abbrev cX10_sidesOf : ByteArray := prog_12_method_35_code
def yX10_sidesOf : MethodName := ⟨RX10, "sidesOf", "(I)I"⟩
abbrev cX10_sheetsOfCopy : ByteArray := prog_12_method_36_code
def yX10_sheetsOfCopy : MethodName := ⟨RX10, "sheetsOfCopy", "(I)I"⟩
abbrev cX10_elementAt : ByteArray := prog_12_method_37_code
def yX10_elementAt : MethodName := ⟨RX10, "elementAt", "(IIII)I"⟩
abbrev cX10_pageAt : ByteArray := prog_12_method_38_code
def yX10_pageAt : MethodName := ⟨RX10, "pageAt", "(IIII)I"⟩
abbrev cX10_rankOf : ByteArray := prog_12_method_39_code
def yX10_rankOf : MethodName := ⟨RX10, "rankOf", "(I)I"⟩
abbrev cX10_about : ByteArray := prog_12_method_40_code
def yX10_about : MethodName := ⟨RX10, "about", "(II)I"⟩
abbrev cX10_isSheet : ByteArray := prog_12_method_41_code
def yX10_isSheet : MethodName := ⟨RX10, "isSheet", "(II)Z"⟩
abbrev cX10_page : ByteArray := prog_12_method_42_code
def yX10_page : MethodName := ⟨RX10, "page", "(IIII)I"⟩
abbrev cX10_turned : ByteArray := prog_12_method_43_code
def yX10_turned : MethodName := ⟨RX10, "turned", "(II)I"⟩
abbrev cX10_blanks : ByteArray := prog_12_method_44_code
def yX10_blanks : MethodName := ⟨RX10, "blanks", "(I)I"⟩
abbrev cX10_where : ByteArray := prog_12_method_45_code
def yX10_where : MethodName := ⟨RX10, "where", "(III)I"⟩
abbrev cX10_figures : ByteArray := prog_12_method_46_code
def yX10_figures : MethodName := ⟨RX10, "figures", "(I)I"⟩
abbrev cX10_signsOf : ByteArray := prog_12_method_47_code
def yX10_signsOf : MethodName := ⟨RX10, "signsOf", "(IIII)I"⟩
abbrev cX10_takeItem : ByteArray := prog_12_method_48_code
def yX10_takeItem : MethodName := ⟨RX10, "takeItem", "(IIII)V"⟩
abbrev cX10_stepAt : ByteArray := prog_12_method_49_code
def yX10_stepAt : MethodName := ⟨RX10, "stepAt", "(II)I"⟩
abbrev cX10_layText : ByteArray := prog_12_method_50_code
def yX10_layText : MethodName := ⟨RX10, "layText", "(I)V"⟩
abbrev cX10_figure : ByteArray := prog_12_method_51_code
def yX10_figure : MethodName := ⟨RX10, "figure", "(II)I"⟩
abbrev cX10_signOf : ByteArray := prog_12_method_52_code
def yX10_signOf : MethodName := ⟨RX10, "signOf", "(III)I"⟩
abbrev cX10_canonical : ByteArray := prog_12_method_53_code
def yX10_canonical : MethodName := ⟨RX10, "canonical", "(II)I"⟩
abbrev cX10_addPrinter : ByteArray := prog_12_method_54_code
def yX10_addPrinter : MethodName := ⟨RX10, "addPrinter", "(III)I"⟩
abbrev cX10_fill : ByteArray := prog_12_method_55_code
def yX10_fill : MethodName := ⟨RX10, "fill", "(III)I"⟩
abbrev cX10_printer : ByteArray := prog_12_method_56_code
def yX10_printer : MethodName := ⟨RX10, "printer", "(II)I"⟩
abbrev cX10_bandsFor : ByteArray := prog_12_method_57_code
def yX10_bandsFor : MethodName := ⟨RX10, "bandsFor", "(II)I"⟩
abbrev cX10_laySide : ByteArray := prog_12_method_58_code
def yX10_laySide : MethodName := ⟨RX10, "laySide", "(IIII)V"⟩
abbrev cX10_side : ByteArray := prog_12_method_59_code
def yX10_side : MethodName := ⟨RX10, "side", "(IIIII)I"⟩
abbrev cX10_ticksFor : ByteArray := prog_12_method_60_code
def yX10_ticksFor : MethodName := ⟨RX10, "ticksFor", "(III)I"⟩
abbrev cX10_duration : ByteArray := prog_12_method_61_code
def yX10_duration : MethodName := ⟨RX10, "duration", "(II)I"⟩
abbrev cX10_setRules : ByteArray := prog_12_method_62_code
def yX10_setRules : MethodName := ⟨RX10, "setRules", "(II)I"⟩
abbrev cX10_setQuota : ByteArray := prog_12_method_63_code
def yX10_setQuota : MethodName := ⟨RX10, "setQuota", "(II)I"⟩
abbrev cX10_isOver : ByteArray := prog_12_method_64_code
def yX10_isOver : MethodName := ⟨RX10, "isOver", "(I)Z"⟩
abbrev cX10_promote : ByteArray := prog_12_method_65_code
def yX10_promote : MethodName := ⟨RX10, "promote", "(II)I"⟩
abbrev cX10_hold : ByteArray := prog_12_method_66_code
def yX10_hold : MethodName := ⟨RX10, "hold", "(I)I"⟩
abbrev cX10_becomeWaiting : ByteArray := prog_12_method_67_code
def yX10_becomeWaiting : MethodName := ⟨RX10, "becomeWaiting", "(I)V"⟩
abbrev cX10_release : ByteArray := prog_12_method_68_code
def yX10_release : MethodName := ⟨RX10, "release", "(I)I"⟩
abbrev cX10_cancel : ByteArray := prog_12_method_69_code
def yX10_cancel : MethodName := ⟨RX10, "cancel", "(I)I"⟩
abbrev cX10_leave : ByteArray := prog_12_method_70_code
def yX10_leave : MethodName := ⟨RX10, "leave", "(I)V"⟩
abbrev cX10_jam : ByteArray := prog_12_method_71_code
def yX10_jam : MethodName := ⟨RX10, "jam", "(I)I"⟩
abbrev cX10_clear : ByteArray := prog_12_method_72_code
def yX10_clear : MethodName := ⟨RX10, "clear", "(I)I"⟩
abbrev cX10_trayFor : ByteArray := prog_12_method_73_code
def yX10_trayFor : MethodName := ⟨RX10, "trayFor", "(II)I"⟩
abbrev cX10_hasQuota : ByteArray := prog_12_method_74_code
def yX10_hasQuota : MethodName := ⟨RX10, "hasQuota", "(I)Z"⟩
abbrev cX10_isPrintable : ByteArray := prog_12_method_75_code
def yX10_isPrintable : MethodName := ⟨RX10, "isPrintable", "(II)Z"⟩
abbrev cX10_bestFor : ByteArray := prog_12_method_76_code
def yX10_bestFor : MethodName := ⟨RX10, "bestFor", "(I)I"⟩
abbrev cX10_begin : ByteArray := prog_12_method_77_code
def yX10_begin : MethodName := ⟨RX10, "begin", "(II)V"⟩
abbrev cX10_record : ByteArray := prog_12_method_78_code
def yX10_record : MethodName := ⟨RX10, "record", "(II)V"⟩
abbrev cX10_endSheet : ByteArray := prog_12_method_79_code
def yX10_endSheet : MethodName := ⟨RX10, "endSheet", "(II)V"⟩
abbrev cX10_tick : ByteArray := prog_12_method_80_code
def yX10_tick : MethodName := ⟨RX10, "tick", "()V"⟩
abbrev cX10_advance : ByteArray := prog_12_method_81_code
def yX10_advance : MethodName := ⟨RX10, "advance", "(I)I"⟩
abbrev cX10_log : ByteArray := prog_12_method_82_code
def yX10_log : MethodName := ⟨RX10, "log", "(II)I"⟩
abbrev cX10_printed : ByteArray := prog_12_method_83_code
def yX10_printed : MethodName := ⟨RX10, "printed", "(I)I"⟩
abbrev cX10_putAside : ByteArray := prog_12_method_84_code
def yX10_putAside : MethodName := ⟨RX10, "putAside", "()V"⟩
abbrev cX10_putBack : ByteArray := prog_12_method_85_code
def yX10_putBack : MethodName := ⟨RX10, "putBack", "()V"⟩
abbrev cX10_finish : ByteArray := prog_12_method_86_code
def yX10_finish : MethodName := ⟨RX10, "finish", "(II)I"⟩
abbrev cX10_isInTime : ByteArray := prog_12_method_87_code
def yX10_isInTime : MethodName := ⟨RX10, "isInTime", "(III)Z"⟩
abbrev cX10_urgency : ByteArray := prog_12_method_88_code
def yX10_urgency : MethodName := ⟨RX10, "urgency", "(II)I"⟩
abbrev cX10_finisher : ByteArray := prog_12_method_89_code
def yX10_finisher : MethodName := ⟨RX10, "finisher", "(II)I"⟩
abbrev cX10_waiting : ByteArray := prog_12_method_90_code
def yX10_waiting : MethodName := ⟨RX10, "waiting", "()I"⟩
abbrev cX10_count : ByteArray := prog_12_method_91_code
def yX10_count : MethodName := ⟨RX10, "count", "(I)I"⟩
abbrev cX10_save : ByteArray := prog_12_method_92_code
def yX10_save : MethodName := ⟨RX10, "save", "(I)I"⟩
abbrev cX10_restore : ByteArray := prog_12_method_93_code
def yX10_restore : MethodName := ⟨RX10, "restore", "(I)I"⟩
def RJ9 : String := "java/lang/Math"
def TJ9 : u_T := fun k => match k with
  | _ => ("", "", "", false)
def tyJ9 : Nat → FieldType := fun k => match k with
  | _ => .int
abbrev wsJ90 : List Cond := u_ws RJ9 TJ9 0
theorem nmJ9 : ∀ a, a < 0 → ∀ b, b < 0 → a ≠ b → (TJ9 a).2.1 ≠ (TJ9 b).2.1 := by decide +kernel
theorem tyJ9_ok : ∀ k, k < 0 → parseFieldDescriptor (TJ9 k).2.2.1 = some (tyJ9 k) := by decide +kernel
abbrev cJ9_abs_0f7a4 : ByteArray := prog_13_method_59_code
def yJ9_abs_0f7a4 : MethodName := ⟨RJ9, "abs", "(I)I"⟩
abbrev cJ9_max_7cf53 : ByteArray := prog_13_method_65_code
def yJ9_max_7cf53 : MethodName := ⟨RJ9, "max", "(II)I"⟩
abbrev cJ9_min_7cf53 : ByteArray := prog_13_method_69_code
def yJ9_min_7cf53 : MethodName := ⟨RJ9, "min", "(II)I"⟩
def RJ10 : String := "java/lang/System"
def TJ10 : u_T := fun k => match k with
  | _ => ("", "", "", false)
def tyJ10 : Nat → FieldType := fun k => match k with
  | _ => .int
abbrev wsJ100 : List Cond := u_ws RJ10 TJ10 0
theorem nmJ10 : ∀ a, a < 0 → ∀ b, b < 0 → a ≠ b → (TJ10 a).2.1 ≠ (TJ10 b).2.1 := by decide +kernel
theorem tyJ10_ok : ∀ k, k < 0 → parseFieldDescriptor (TJ10 k).2.2.1 = some (tyJ10 k) := by decide +kernel
def RL : String := "PrintSpoolerLaw"
abbrev cL_law : ByteArray := code
def yL_law : MethodName := ⟨RL, "law", "([I)Z"⟩
abbrev vwCl : List vw_C := [(RX0, TX0, 5), (RX1, TX1, 7), (RX2, TX2, 2), (RX3, TX3, 3), (RX4, TX4, 13), (RX5, TX5, 8), (RX6, TX6, 3), (RX7, TX7, 5), (RX8, TX8, 17), (RX9, TX9, 5), (RX10, TX10, 22)]
